/-! the law's body -/
theorem q_andS (x : Int32) : ∃ s, s < 2147483648 ∧ x &&& 2147483647 = nI s := by
  have h1 : x.toBitVec.toNat &&& 2147483647 ≤ 2147483647 := Nat.and_le_right
  refine ⟨x.toBitVec.toNat &&& 2147483647, by omega, ?_⟩
  apply Int32.toBitVec_inj.1
  show x.toBitVec &&& 2147483647#32 = BitVec.ofNat 32 (x.toBitVec.toNat &&& 2147483647)
  apply BitVec.eq_of_toNat_eq
  rw [BitVec.toNat_and, BitVec.toNat_ofNat, BitVec.toNat_ofNat, Nat.mod_eq_of_lt (show 2147483647 < 2 ^ 32 by decide), Nat.mod_eq_of_lt (by omega)]
/-- what stands ahead of each step of the law -/
def lI (L : Nat) (xs : Nat → Int32) (H : kH) (S : kS) : Prop := jI H S ∧ sOK S ∧ 0 < vn (sV S) ∧ kSc L xs H ∧ fl H = 0
theorem kSc_fr {L : Nat} {xs : Nat → Int32} {P : Nat → Nat → Prop} {H H' : kH} (hf : kFr P H H') (hp : ∀ k j, P k j → k < 38) (h : kSc L xs H) : kSc L xs H' := ⟨fun j => ((hf 38 j (fun z => by have := hp _ _ z; omega)).1).trans (h.1 j), ((hf 41 0 (fun z => by have := hp _ _ z; omega)).1).trans h.2.1, h.2.2⟩
theorem aC_38 (k j : Nat) (h : aC k j) : k < 38 := by unfold aC at h; omega
theorem cC_38 (k j : Nat) (h : cC k j) : k < 38 := by unfold cC at h; omega
theorem kC_38 (k j : Nat) (h : kC k j) : k < 38 := by unfold kC at h; omega
section LWW
variable {L : Nat} {xs : Nat → Int32} {H : kH} {S : kS}
theorem kFr_mkS (H : kH) : kFr (fun k _ => k = 30 ∨ k = 41) H (mkS H) := fun k j z => ⟨by rw [hI_mkS, if_neg (fun y => z (Or.inl y))], rfl, by
  show (if k = 41 ∧ j = 1 then 1 else H.2.2 k j) = H.2.2 k j
  rw [if_neg (fun y => z (Or.inr y.1))]⟩
theorem kI_mkS (h : lI L xs H S) : kI (mkS H) S := ⟨CR_hi (kFr_mkS H) (fun k j z => by omega) h.1.1, bR_fr (kFr_mkS H) (fun j => by omega) h.1.2.1, dR_fr (kFr_mkS H) (fun j => by omega) h.1.2.2, rfl⟩
theorem lI_clS {H1 : kH} (h : lI L xs H S) (h1 : kI H1 S) (hf : kFr kC (mkS H) H1) : lI L xs (clS H H1) S := by
  obtain ⟨a1, a2, a3, a4, a5, a6⟩ := h1.1
  have hw : wR (clS H H1) := h.1.1.2.2.2.2.1
  exact ⟨⟨⟨a1, a2, a3, a4, hw, a6⟩, h1.2.1, h1.2.2.1⟩, h.2.1, h.2.2.1, kSc_clS (kSc_fr hf kC_38 (kSc_mkS h.2.2.2.1)), rfl⟩
theorem w_kings (h : lI L xs H S) : ∃ H1, ev 86 5 [.ref 0, .ref 27, .ref 28, .ref 30, .null, .null, .null, .null, .null, .null, .null, .null, .null, .null] [] (mkS H) = some (some (.int 1), H1) ∧ lI L xs (clS H H1) S := by
  obtain ⟨H1, e1, i1, f1⟩ := y_kings h.2.1 h.2.2.1 (kI_mkS h)
  exact ⟨H1, e1, lI_clS h i1 f1⟩
theorem w_years (h : lI L xs H S) {mm s : Nat} (h1 : 1 ≤ mm) (h60 : mm ≤ 60) (hs : s < 2147483648) : ∃ H1, ev 87 6 [.ref 0, .ref 27, .ref 28, .int (nI mm), .int (nI s), .ref 30, .null, .null, .null, .null, .null, .null] [] (mkS H) = some (some (.int 1), H1) ∧ lI L xs (clS H H1) S := by
  obtain ⟨H1, e1, i1, f1⟩ := y_years h.2.1 h.2.2.1 h1 h60 hs (kI_mkS h)
  exact ⟨H1, e1, lI_clS h i1 f1⟩
/-- a turn -/
theorem w_turn (h : lI L xs H S) {t : Nat} (ht : t < 24) (hn : na H ≤ t) (x5 : Int32) (v7 v8 : Value) : ∃ H1 S1 w7 w8, ev 85 159 [.ref 38, .ref 0, .ref 27, .ref 28, .ref 29, .int x5, .int (nI t), v7, v8] [] H = ev 85 159 [.ref 38, .ref 0, .ref 27, .ref 28, .ref 29, .int x5, .int (nI (t + 1)), w7, w8] [] H1 ∧ lI L xs H1 S1 ∧ na H1 ≤ t + 1 := by
  obtain ⟨x, ex⟩ := y_cell h.2.2.2.1 (k := 4 + t) (by omega)
  obtain ⟨so, eso⟩ : ∃ so, so = aT x 8 := ⟨_, rfl⟩
  have hso : so < 8 := by rw [eso]; exact aT_lt _ (by decide)
  have y8 : ev 71 0 [.int x, .int 8] [] H = some (some (.int (nI so)), H) := by rw [eso]; exact y_at x (by decide) (by decide) H
  have e4 : (4 : Int32) + nI t = nI (4 + t) := q_add 4 t
  have e24 : ((24 : Int32) ≤ nI t) = False := by
    rw [show (24 : Int32) = nI 24 from rfl, q_le (by decide) (by omega)]
    exact eq_false (by omega)
  have e0 : ev 85 159 [.ref 38, .ref 0, .ref 27, .ref 28, .ref 29, .int x5, .int (nI t), v7, v8] [] H = ev 85 185 [.ref 38, .ref 0, .ref 27, .ref 28, .ref 29, .int x5, .int (nI t), .int x, .int (nI so)] [] H := by
    rw [e85_159]
    simp only [e85_161, e85_163, e85_166, e85_167, e85_168, e85_170, e85_171, e85_174, e85_176, e85_178, e85_180, e85_183, e24, if_false, e4, ex, q_bs, q_tl, q_cn, y8]
  have fin : ∀ (H1 : kH) (S1 : kS), lI L xs H1 S1 → ev 85 263 [.ref 38, .ref 0, .ref 27, .ref 28, .ref 29, .int x5, .int (nI t), .int x, .int (nI so)] [] H1 = ev 85 159 [.ref 38, .ref 0, .ref 27, .ref 28, .ref 29, .int x5, .int (nI (t + 1)), .int x, .int (nI so)] [] H1 := by
    intro H1 S1 h1
    simp only [e85_263, e85_264, e85_265, e85_266, e85_269, e85_274, e85_277, y_stands h1.1 h1.2.1, q_bs, q_tl, q_cn, t10, not_false_eq_true, if_true, nI_1]
  rw [e0]
  have q6 : ((6 : Int32) ≤ nI so) = (6 ≤ so) := q_le (a := 6) (by decide) (by omega)
  have w6 : (nI so = (6 : Int32)) = (so = 6) := q_k (b := 6) (by omega) (by decide)
  by_cases c1 : so < 6
  · obtain ⟨H1, V1, e1, j1, o1, n1, f1⟩ := y_does h.1 h.2.1 h.2.2.1 (x >>> (3 &&& 31))
    have l1 : lI L xs H1 (ssV S V1) := ⟨j1, o1, by show 0 < vn V1; rw [n1]; exact h.2.2.1, kSc_fr f1 aC_38 h.2.2.2.1, (fl_fr f1 (by unfold aC; omega)).trans h.2.2.2.2⟩
    refine ⟨H1, _, .int x, .int (nI so), ?_, l1, by rw [na_fr f1 (by unfold aC; omega)]; omega⟩
    rw [← fin H1 _ l1]
    simp only [e85_185, e85_187, e85_189, e85_192, e85_193, e85_194, e85_195, e85_197, e85_198, e85_199, e85_202, q6, show ¬ 6 ≤ so by omega, if_false, e1, q_bs, q_tl, q_cn, t10, not_false_eq_true, if_true]
  by_cases c2 : so = 6
  · obtain ⟨H1, e1, l1⟩ := w_kings h
    refine ⟨clS H H1, S, .int x, .int (nI so), ?_, l1, by rw [na_clS]; omega⟩
    rw [← fin _ _ l1]
    have hna : na H < 1000 := by omega
    have hfl := h.2.2.2.2
    simp only [e85_185, e85_187, e85_189, e85_208, e85_210, e85_212, e85_215, e85_216, e85_217, e85_218, e85_221, q6, show 6 ≤ so by omega, if_true, w6.trans (eq_true c2), not_true_eq_false, if_false, hfl, hna, e1, q_bs, q_tl, q_cn, t10, not_false_eq_true]
  · obtain ⟨c, ec⟩ := y_cell h.2.2.2.1 (k := 28 + t % 4) (by omega)
    obtain ⟨s, hs, es⟩ := q_andS c
    obtain ⟨r, er⟩ : ∃ r, r = aT (x >>> (3 &&& 31)) 60 := ⟨_, rfl⟩
    have hr : r < 60 := by rw [er]; exact aT_lt _ (by decide)
    have y60 : ev 71 0 [.int (x >>> (3 &&& 31)), .int 60] [] H = some (some (.int (nI r)), H) := by rw [er]; exact y_at _ (m := 60) (by decide) (by decide) H
    obtain ⟨H1, e1, l1⟩ := w_years h (mm := 1 + r) (by omega) (by omega) hs
    refine ⟨clS H H1, S, .int x, .int (nI so), ?_, l1, by rw [na_clS]; omega⟩
    rw [← fin _ _ l1]
    have hna : na H < 1000 := by omega
    have hfl := h.2.2.2.2
    have e1r : (1 : Int32) + nI r = nI (1 + r) := q_add 1 r
    have e28 : (28 : Int32) + (nI t - nI t / 4 * 4) = nI (28 + t % 4) := by
      rw [q_rem4 (by omega)]
      exact q_add 28 _
    have z4 : ((4 : Int32) = 0) = False := eq_false (by decide)
    simp only [e85_185, e85_187, e85_189, e85_208, e85_210, e85_212, e85_227, e85_228, e85_229, e85_230, e85_231, e85_233, e85_234, e85_235, e85_237, e85_240, e85_241, e85_242, e85_244, e85_246, e85_247, e85_248, e85_249, e85_252, e85_254, e85_255, e85_258, q6, show 6 ≤ so by omega, if_true, w6.trans (eq_false c2), not_false_eq_true, y60, q_bs, q_tl, q_cn, e1r, z4, if_false, e28, ec, es, hfl, hna, e1, t10]
theorem l_turns : ∀ i t H S v7 v8, t + i = 24 → lI L xs H S → na H ≤ t → ∀ x5, ∃ H1 S1 w7 w8, ev 85 159 [.ref 38, .ref 0, .ref 27, .ref 28, .ref 29, .int x5, .int (nI t), v7, v8] [] H = ev 85 280 [.ref 38, .ref 0, .ref 27, .ref 28, .ref 29, .int x5, .int (nI 24), w7, w8] [] H1 ∧ lI L xs H1 S1 ∧ na H1 ≤ 24 := by
  intro i
  induction i with
  | zero =>
    intro t H S v7 v8 ht h hn x5
    have : t = 24 := by omega
    subst this
    refine ⟨H, S, v7, v8, ?_, h, hn⟩
    rw [e85_159]
    simp only [e85_161, e85_163, show (24 : Int32) ≤ nI 24 from by decide, if_true]
  | succ i ih =>
    intro t H S v7 v8 ht h hn x5
    obtain ⟨H1, S1, w7, w8, e1, l1, n1⟩ := w_turn h (show t < 24 by omega) hn x5 v7 v8
    obtain ⟨H2, S2, u7, u8, e2, l2, n2⟩ := ih (t + 1) H1 S1 w7 w8 (by omega) l1 n1 x5
    exact ⟨H2, S2, u7, u8, e1.trans e2, l2, n2⟩
/-- taken as kinds -/
theorem l_as (hq : CR H S) (ho : sOK S) (hb : bR H (sV S)) (x5 : Int32) {k : Nat} (hk : k < vn (sV S)) : ∀ i a, a + i = 5 → ev 85 91 [.ref 38, .ref 0, .ref 27, .ref 28, .ref 29, .int x5, .int (nI k), .int (nI a), .null] [] H = ev 85 150 [.ref 38, .ref 0, .ref 27, .ref 28, .ref 29, .int x5, .int (nI k), .int (nI 5), .null] [] H := by
  have hV := ho.1
  have h5 := hV.2.1
  have hkd := (hV.2.2.1 k hk).1
  intro i
  induction i with
  | zero =>
    intro a ha
    have : a = 5 := by omega
    subst this
    rw [e85_91]
    simp only [e85_93, e85_94, show (5 : Int32) ≤ nI 5 from by decide, if_true]
  | succ i ih =>
    intro a ha
    have ha5 : a < 5 := by omega
    have e1 := x_as hq ho (nI k) (nI a)
    have g : fAs (sV S) (nI k) (nI a) = if qIs (vk (sV S) k) a = true then nI k else -1 := by
      unfold fAs
      rw [qSel_in hk (by omega), qSel_in ha5 (by decide)]
    rw [g] at e1
    have q5 : ((5 : Int32) ≤ nI a) = False := by
      rw [show (5 : Int32) = nI 5 from rfl, q_le (by decide) (by omega)]
      exact eq_false (by omega)
    have za : (nI a = (0 : Int32)) = (a = 0) := q_n0' (by omega)
    have zb : (nI a = nI (vk (sV S) k)) = (a = vk (sV S) k) := q_k (by omega) (by omega)
    have zc : (nI a = (2 : Int32)) = (a = 2) := q_k (b := 2) (by omega) (by decide)
    have zd : (nI (vk (sV S) k) = (4 : Int32)) = (vk (sV S) k = 4) := q_k (b := 4) (by omega) (by decide)
    have l6 : ¬ 6 ≤ k := by omega
    rw [← ih (a + 1) (by omega), e85_91]
    unfold qIs at e1
    by_cases a0 : a = 0
    · simp only [a0, true_or, decide_true, if_true] at e1
      simp only [e85_93, e85_94, e85_97, e85_98, e85_100, e85_102, e85_105, e85_107, e85_110, e85_112, e85_113, e85_115, e85_116, e85_119, e85_121, e85_122, e85_125, e85_126, e85_128, e85_129, e85_130, e85_133, e85_135, e85_138, e85_139, e85_142, e85_143, e85_144, e85_147, q5, if_false, a0, e1, q_bs, q_tl, q_cn, show (nI 0 = (0 : Int32)) = True from eq_true rfl, if_true, nI_1, show ((5 : Int32) ≤ nI 0) = False from eq_false (by decide)]
    by_cases a1 : a = vk (sV S) k
    · have a1' : vk (sV S) k = a := a1.symm
      simp only [a1', true_or, or_true, decide_true, if_true] at e1
      simp only [e85_93, e85_94, e85_97, e85_98, e85_100, e85_102, e85_105, e85_107, e85_110, e85_112, e85_113, e85_115, e85_116, e85_119, e85_121, e85_122, e85_125, e85_126, e85_128, e85_129, e85_130, e85_133, e85_135, e85_138, e85_139, e85_142, e85_143, e85_144, e85_147, q5, if_false, e1, q_bs, q_tl, q_cn, za, a0, q_lt0 (show k < 2147483648 by omega), q_cl (show k < 2147483648 by omega), l6, or_self, hb.2 k hk, a1', if_true, nI_1]
    have a1' : ¬ vk (sV S) k = a := fun z => a1 z.symm
    by_cases a2 : a = 2 ∧ vk (sV S) k = 4
    · have hd : decide (a = 0 ∨ vk (sV S) k = a ∨ a = 2 ∧ vk (sV S) k = 4) = true := decide_eq_true (Or.inr (Or.inr a2))
      simp only [hd, if_true] at e1
      simp only [e85_93, e85_94, e85_97, e85_98, e85_100, e85_102, e85_105, e85_107, e85_110, e85_112, e85_113, e85_115, e85_116, e85_119, e85_121, e85_122, e85_125, e85_126, e85_128, e85_129, e85_130, e85_133, e85_135, e85_138, e85_139, e85_142, e85_143, e85_144, e85_147, q5, if_false, e1, q_bs, q_tl, q_cn, za, a0, q_lt0 (show k < 2147483648 by omega), q_cl (show k < 2147483648 by omega), l6, or_self, hb.2 k hk, zb, a1, zc.trans (eq_true a2.1), zd.trans (eq_true a2.2), not_true_eq_false, if_true, nI_1]
    · have hd : decide (a = 0 ∨ vk (sV S) k = a ∨ a = 2 ∧ vk (sV S) k = 4) = false := decide_eq_false (by omega)
      simp only [hd, Bool.false_eq_true, if_false] at e1
      by_cases a3 : a = 2
      · have a4 : ¬ vk (sV S) k = 4 := fun z => a2 ⟨a3, z⟩
        simp only [e85_93, e85_94, e85_97, e85_98, e85_100, e85_102, e85_105, e85_107, e85_110, e85_112, e85_113, e85_115, e85_116, e85_119, e85_121, e85_122, e85_125, e85_126, e85_128, e85_129, e85_130, e85_133, e85_135, e85_138, e85_139, e85_142, e85_143, e85_144, e85_147, q5, if_false, e1, q_bs, q_tl, q_cn, za, a0, q_lt0 (show k < 2147483648 by omega), q_cl (show k < 2147483648 by omega), l6, or_self, hb.2 k hk, zb, a1, zc.trans (eq_true a3), zd.trans (eq_false a4), not_true_eq_false, not_false_eq_true, if_true, nI_1]
      · simp only [e85_93, e85_94, e85_97, e85_98, e85_100, e85_102, e85_105, e85_107, e85_110, e85_112, e85_113, e85_115, e85_116, e85_119, e85_121, e85_122, e85_125, e85_126, e85_128, e85_129, e85_130, e85_133, e85_135, e85_138, e85_139, e85_142, e85_143, e85_144, e85_147, q5, if_false, e1, q_bs, q_tl, q_cn, za, a0, q_lt0 (show k < 2147483648 by omega), q_cl (show k < 2147483648 by omega), l6, or_self, hb.2 k hk, zb, a1, zc.trans (eq_false a3), not_false_eq_true, if_true, nI_1]
theorem l_ass (hq : CR H S) (ho : sOK S) (hb : bR H (sV S)) (x5 : Int32) : ∀ i k v7, k + i = vn (sV S) → ∃ w7, ev 85 80 [.ref 38, .ref 0, .ref 27, .ref 28, .ref 29, .int x5, .int (nI k), v7, .null] [] H = ev 85 156 [.ref 38, .ref 0, .ref 27, .ref 28, .ref 29, .int x5, .int (nI (vn (sV S))), w7, .null] [] H := by
  have hV := ho.1
  have h5 := hV.2.1
  intro i
  induction i with
  | zero =>
    intro k v7 hk
    have : k = vn (sV S) := by omega
    subst this
    refine ⟨v7, ?_⟩
    rw [e85_80]
    simp only [e85_82, e85_83, e85_84, e85_85, zb5, nb5, cx5, or_self, hb.1, Std.le_refl, if_true, if_false]
  | succ i ih =>
    intro k v7 hk
    obtain ⟨w7, e1⟩ := ih (k + 1) (.int (nI 5)) (by omega)
    refine ⟨w7, ?_⟩
    rw [← e1, e85_80]
    have ea := l_as hq ho hb x5 (show k < vn (sV S) by omega) 5 0 (by omega)
    simp only [e85_82, e85_83, e85_84, e85_85, e85_88, e85_89, zb5, nb5, cx5, or_self, hb.1, q_le (show vn (sV S) < 2147483648 by omega) (show k < 2147483648 by omega), show ¬ vn (sV S) ≤ k by omega, if_false]
    rw [show ev 85 91 [.ref 38, .ref 0, .ref 27, .ref 28, .ref 29, .int x5, .int (nI k), .int 0, .null] [] H = _ from ea]
    simp only [e85_150, e85_153, nI_1]
/-! what is refused -/
theorem qSel_self {α : Type} {n : Nat} {A : α} {B : Nat → α} : qSel n (nI n) A B = A := qSel_hi (Int32.le_refl _)
theorem w_ref1 (hq : CR H S) (ho : sOK S) (h0 : 0 < vn (sV S)) (x5 : Int32) (v7 v8 : Value) : ev 85 318 [.ref 38, .ref 0, .ref 27, .ref 28, .ref 29, .int x5, .int (nI (vn (sV S))), v7, v8] [] H = ev 85 364 [.ref 38, .ref 0, .ref 27, .ref 28, .ref 29, .int x5, .int (nI (vn (sV S))), v7, v8] [] H := by
  have h5 := ho.1.2.1
  have e1 := x_about hq ho (nI (vn (sV S))) 0
  have e2 := x_about hq ho (nI 0) (nI 5)
  have e3 := x_as hq ho (nI (vn (sV S))) 0
  have e4 := x_as hq ho (nI 0) (nI 5)
  rw [show fAbout (sV S) (nI (vn (sV S))) 0 = -101 from by unfold fAbout; rw [qSel_self]] at e1
  rw [show fAbout (sV S) (nI 0) (nI 5) = -102 from by unfold fAbout; rw [qSel_in h0 (by omega), qSel_self]] at e2
  rw [show fAs (sV S) (nI (vn (sV S))) 0 = -101 from by unfold fAs; rw [qSel_self]] at e3
  rw [show fAs (sV S) (nI 0) (nI 5) = -102 from by unfold fAs; rw [qSel_in h0 (by omega), qSel_self]] at e4
  have e2 : ev 49 0 [.ref 0, .int 0, .int 5] [] H = _ := e2
  have e4 : ev 50 0 [.ref 0, .int 0, .int 5] [] H = _ := e4
  simp only [e85_318, e85_319, e85_321, e85_322, e85_325, e85_327, e85_330, e85_331, e85_332, e85_333, e85_336, e85_338, e85_341, e85_342, e85_344, e85_345, e85_348, e85_350, e85_353, e85_354, e85_355, e85_356, e85_359, e85_361, e1, e2, e3, e4, q_bs, q_tl, q_cn, not_true_eq_false, if_false]
theorem w_ref2 (hq : CR H S) (ho : sOK S) (h0 : 0 < vn (sV S)) (x5 : Int32) (v7 v8 : Value) : ∃ H1, ev 85 364 [.ref 38, .ref 0, .ref 27, .ref 28, .ref 29, .int x5, .int (nI (vn (sV S))), v7, v8] [] H = ev 85 423 [.ref 38, .ref 0, .ref 27, .ref 28, .ref 29, .int x5, .int (nI (vn (sV S))), v7, v8] [] H1 ∧ CR H1 S ∧ kFr cC H H1 := by
  have h5 := ho.1.2.1
  obtain ⟨H1, e1, c1, f1⟩ := x_nose hq ho (nI (vn (sV S))) 0
  rw [show fNose (sV S) (nI (vn (sV S))) 0 = -101 from by unfold fNose; rw [qSel_self]] at e1
  rw [show tNose (sV S) (nI (vn (sV S))) 0 = sV S from by unfold tNose; rw [qSel_self]] at c1
  obtain ⟨H2, e2, c2, f2⟩ := x_nose (S := S) c1 ho (nI 0) (nI 10)
  rw [show fNose (sV S) (nI 0) (nI 10) = -102 from by unfold fNose; rw [qSel_in h0 (by omega), qSel_self]] at e2
  rw [show tNose (sV S) (nI 0) (nI 10) = sV S from by unfold tNose; rw [qSel_in h0 (by omega), qSel_self]] at c2
  obtain ⟨H3, e3, c3, f3⟩ := x_nose (S := S) c2 ho (nI 0) (-1)
  rw [show fNose (sV S) (nI 0) (-1) = -102 from by unfold fNose; rw [qSel_in h0 (by omega), qSel_lo (by decide)]] at e3
  rw [show tNose (sV S) (nI 0) (-1) = sV S from by unfold tNose; rw [qSel_in h0 (by omega), qSel_lo (by decide)]] at c3
  obtain ⟨H4, e4, c4, f4⟩ := x_bribe (S := S) c3 ho (nI (vn (sV S))) 0
  rw [show fBribe (sV S) (nI (vn (sV S))) 0 = -101 from by unfold fBribe; rw [qSel_self]] at e4
  rw [show tBribe (sV S) (nI (vn (sV S))) 0 = sV S from by unfold tBribe; rw [qSel_self]] at c4
  obtain ⟨H5, e5, c5, f5⟩ := x_bribe (S := S) c4 ho (nI 0) (nI 6)
  rw [show fBribe (sV S) (nI 0) (nI 6) = -102 from by unfold fBribe; rw [qSel_in h0 (by omega), qSel_self]] at e5
  rw [show tBribe (sV S) (nI 0) (nI 6) = sV S from by unfold tBribe; rw [qSel_in h0 (by omega), qSel_self]] at c5
  have e2 : ev 51 0 [.ref 0, .int 0, .int 10] [] H1 = _ := e2
  have e3 : ev 51 0 [.ref 0, .int 0, .int (-1)] [] H2 = _ := e3
  have e5 : ev 52 0 [.ref 0, .int 0, .int 6] [] H4 = _ := e5
  refine ⟨H5, ?_, c5, (((f1.tr f2).tr f3).tr f4).tr f5⟩
  simp only [e85_364, e85_365, e85_367, e85_368, e85_371, e85_373, e85_376, e85_377, e85_378, e85_380, e85_383, e85_385, e85_388, e85_389, e85_390, e85_391, e85_394, e85_396, e85_399, e85_400, e85_402, e85_403, e85_406, e85_408, e85_411, e85_412, e85_413, e85_415, e85_418, e85_420, e1, e2, e3, e4, e5, q_bs, q_tl, q_cn, not_true_eq_false, if_false]
theorem w_ref3 (hq : CR H S) (ho : sOK S) (h0 : 0 < vn (sV S)) (x5 : Int32) (v7 v8 : Value) : ∃ H1, ev 85 423 [.ref 38, .ref 0, .ref 27, .ref 28, .ref 29, .int x5, .int (nI (vn (sV S))), v7, v8] [] H = ev 85 468 [.ref 38, .ref 0, .ref 27, .ref 28, .ref 29, .int x5, .int (nI (vn (sV S))), v7, v8] [] H1 ∧ CR H1 S ∧ kFr cC H H1 := by
  have hV := ho.1
  have h5 := hV.2.1
  have hn1 : ¬ nI (vn (sV S)) = (-1 : Int32) := fun z => (q_m1ne (j := vn (sV S)) (by omega)).mp z
  obtain ⟨H1, e1, c1, f1⟩ := x_draught hq ho (nI (vn (sV S)))
  rw [show fDraught (sV S) (nI (vn (sV S))) = -101 from by unfold fDraught; rw [if_neg hn1, qSel_self]] at e1
  rw [show tDraught (sV S) (nI (vn (sV S))) = sV S from by unfold tDraught; rw [if_neg hn1, qSel_self]] at c1
  obtain ⟨H2, e2, c2, f2⟩ := x_draught (S := S) c1 ho (-2)
  rw [show fDraught (sV S) (-2) = -101 from by unfold fDraught; rw [if_neg (by decide), qSel_lo (by decide)]] at e2
  rw [show tDraught (sV S) (-2) = sV S from by unfold tDraught; rw [if_neg (by decide), qSel_lo (by decide)]] at c2
  have hbit : 2 ^ vn (sV S) < 32 → ¬ 2 ^ vn (sV S) &&& qA (sV S) (vn (sV S)) = 2 ^ vn (sV S) := by
    intro _ z
    have h1 : (2 ^ vn (sV S) &&& qA (sV S) (vn (sV S))).testBit (vn (sV S)) = true := by rw [z]; exact Nat.testBit_two_pow_self
    rw [Nat.testBit_and, qA_bit] at h1
    simp at h1
  have g1 : fHour (sV S) (nI (2 ^ vn (sV S))) = -102 ∧ tHour (sV S) (nI (2 ^ vn (sV S))) = sV S := by
    unfold fHour tHour
    by_cases h32 : 2 ^ vn (sV S) < 32
    · rw [qSel_in h32 (by decide), qSel_in h32 (by decide), if_neg (hbit h32), if_neg (hbit h32)]
      exact ⟨rfl, rfl⟩
    · have h1 := pow2_le h5
      rw [show 2 ^ vn (sV S) = 32 by omega, qSel_self, qSel_self]
      exact ⟨rfl, rfl⟩
  obtain ⟨H3, e3, c3, f3⟩ := x_hour (S := S) c2 ho (nI (2 ^ vn (sV S)))
  rw [g1.1] at e3
  rw [g1.2] at c3
  obtain ⟨H4, e4, c4, f4⟩ := x_hour (S := S) c3 ho (-1)
  rw [show fHour (sV S) (-1) = -102 from by unfold fHour; rw [qSel_lo (by decide)]] at e4
  rw [show tHour (sV S) (-1) = sV S from by unfold tHour; rw [qSel_lo (by decide)]] at c4
  refine ⟨H4, ?_, c4, ((f1.tr f2).tr f3).tr f4⟩
  simp only [e85_423, e85_424, e85_426, e85_429, e85_431, e85_434, e85_435, e85_437, e85_440, e85_442, e85_445, e85_446, e85_447, e85_449, e85_450, e85_453, e85_455, e85_458, e85_459, e85_460, e85_463, e85_465, e1, e2, q_shl2 _ (show vn (sV S) < 6 by omega), e3, e4, q_bs, q_tl, q_cn, not_true_eq_false, if_false]
theorem w_ref4 (hq : CR H S) (ho : sOK S) (h0 : 0 < vn (sV S)) (x5 : Int32) (v7 v8 : Value) : ∃ H1, ev 85 468 [.ref 38, .ref 0, .ref 27, .ref 28, .ref 29, .int x5, .int (nI (vn (sV S))), v7, v8] [] H = ev 85 530 [.ref 38, .ref 0, .ref 27, .ref 28, .ref 29, .int x5, .int (nI (vn (sV S))), v7, v8] [] H1 ∧ CR H1 S ∧ kFr cC H H1 := by
  have hV := ho.1
  have h5 := hV.2.1
  have hn1 : nI (vn (sV S)) ≠ (-1 : Int32) := fun z => (q_m1ne (j := vn (sV S)) (by omega)).mp z
  obtain ⟨H1, e1, c1, f1⟩ := x_king hq ho (nI (vn (sV S))) 0
  rw [show fKing (sV S) (nI (vn (sV S))) 0 = -101 from by unfold fKing; rw [if_pos ⟨hn1, Or.inr (Int32.le_refl _)⟩]] at e1
  obtain ⟨H2, e2, c2, f2⟩ := x_king c1 ho (-2) 0
  rw [show fKing (sV S) (-2) 0 = -101 from by unfold fKing; rw [if_pos ⟨by decide, Or.inl (by decide)⟩]] at e2
  obtain ⟨H3, e3, c3, f3⟩ := x_king c2 ho (nI 0) (nI 2)
  rw [show fKing (sV S) (nI 0) (nI 2) = -102 from by unfold fKing; rw [if_neg (fun z => q_in1 h0 (by omega) z.2), qSel_self]] at e3
  obtain ⟨H4, e4, c4, f4⟩ := x_window c3 ho (nI (vn (sV S)))
  rw [show fWindow (sV S) (nI (vn (sV S))) = -101 from by unfold fWindow; rw [qSel_self]] at e4
  obtain ⟨H5, e5, c5, f5⟩ := x_window c4 ho (-1)
  rw [show fWindow (sV S) (-1) = -101 from by unfold fWindow; rw [qSel_lo (by decide)]] at e5
  have e3 : ev 57 0 [.ref 0, .int 0, .int 2, .null, .null] [] H2 = _ := e3
  refine ⟨H5, ?_, c5, (((f1.tr f2).tr f3).tr f4).tr f5⟩
  simp only [e85_468, e85_469, e85_471, e85_472, e85_475, e85_478, e85_479, e85_482, e85_483, e85_485, e85_486, e85_489, e85_492, e85_493, e85_496, e85_497, e85_498, e85_499, e85_502, e85_505, e85_506, e85_509, e85_510, e85_512, e85_515, e85_517, e85_520, e85_521, e85_522, e85_525, e85_527, e1, e2, e3, e4, e5, q_bs, q_tl, q_cn, q_cmpe, not_true_eq_false, if_false]
theorem w_ref5 (hq : CR H S) (ho : sOK S) (x5 : Int32) (v7 v8 : Value) : ∃ H1, ev 85 530 [.ref 38, .ref 0, .ref 27, .ref 28, .ref 29, .int x5, .int (nI (vn (sV S))), v7, v8] [] H = some (some (.int 1), H1) ∧ kFr cC H H1 := by
  have hV := ho.1
  obtain ⟨H1, e1, c1, f1⟩ := x_years hq ho (nI 0) 0 0
  rw [show fYears (sV S) (nI 0) 0 0 = -102 from by unfold fYears; rw [qSel_in (by decide) (by decide), if_pos rfl]] at e1
  obtain ⟨H2, e2, c2, f2⟩ := x_years c1 ho (nI 61) 0 0
  rw [show fYears (sV S) (nI 61) 0 0 = -102 from by unfold fYears; rw [qSel_self]] at e2
  obtain ⟨H3, e3, c3, f3⟩ := x_years c2 ho (nI 1) (-1) 0
  rw [show fYears (sV S) (nI 1) (-1) 0 = -102 from by unfold fYears; rw [qSel_in (by decide) (by decide), if_neg (by decide), if_pos (by decide)]] at e3
  obtain ⟨H4, e4, c4, f4⟩ := x_years c3 ho (nI 1) 0 (nI 3)
  rw [show fYears (sV S) (nI 1) 0 (nI 3) = -102 from by unfold fYears; rw [qSel_in (by decide) (by decide), if_neg (by decide), if_neg (by decide), qSel_in (by decide) (by decide), if_pos (by decide)]] at e4
  obtain ⟨H5, e5, c5, f5⟩ := x_years c4 ho (nI 1) 0 (nI 9)
  rw [show fYears (sV S) (nI 1) 0 (nI 9) = -102 from by unfold fYears; rw [qSel_in (by decide) (by decide), if_neg (by decide), if_neg (by decide), qSel_in (by decide) (by decide), if_pos (by decide)]] at e5
  obtain ⟨H6, e6, c6, f6⟩ := x_years c5 ho (nI 1) 0 (nI 15)
  rw [show fYears (sV S) (nI 1) 0 (nI 15) = -102 from by unfold fYears; rw [qSel_in (by decide) (by decide), if_neg (by decide), if_neg (by decide), qSel_self]] at e6
  have e1 : ev 59 0 [.ref 0, .int 0, .int 0, .int 0] [] H = _ := e1
  have e2 : ev 59 0 [.ref 0, .int 61, .int 0, .int 0] [] H1 = _ := e2
  have e3 : ev 59 0 [.ref 0, .int 1, .int (-1), .int 0] [] H2 = _ := e3
  have e4 : ev 59 0 [.ref 0, .int 1, .int 0, .int 3] [] H3 = _ := e4
  have e5 : ev 59 0 [.ref 0, .int 1, .int 0, .int 9] [] H4 = _ := e5
  have e6 : ev 59 0 [.ref 0, .int 1, .int 0, .int 15] [] H5 = _ := e6
  refine ⟨H6, ?_, ((((f1.tr f2).tr f3).tr f4).tr f5).tr f6⟩
  simp only [e85_530, e85_531, e85_532, e85_533, e85_534, e85_537, e85_539, e85_542, e85_543, e85_545, e85_546, e85_547, e85_550, e85_552, e85_555, e85_556, e85_557, e85_558, e85_559, e85_562, e85_564, e85_567, e85_568, e85_569, e85_570, e85_571, e85_574, e85_576, e85_579, e85_580, e85_581, e85_582, e85_584, e85_587, e85_589, e85_592, e85_593, e85_594, e85_595, e85_597, e85_600, e85_602, e85_605, e85_606, e85_609, e85_610, e1, e2, e3, e4, e5, e6, q_bs, q_tl, q_cn, not_true_eq_false, if_false, or_true, if_true]
/-- the end -/
theorem w_end (h : lI L xs H S) (hn : na H ≤ 24) (x5 x6 : Int32) (v7 v8 : Value) : ∃ H1, ev 85 280 [.ref 38, .ref 0, .ref 27, .ref 28, .ref 29, .int x5, .int x6, v7, v8] [] H = some (some (.int 1), H1) ∧ kSc L xs H1 ∧ na H1 ≤ 100 := by
  have hb := h.1.2.1
  have hfl := h.2.2.2.2
  have hna : na H < 1000 := by omega
  obtain ⟨H1, e1, l1⟩ := w_kings h
  have n1 : na (clS H H1) < 1000 := by rw [na_clS]; omega
  have fl1 := l1.2.2.2.2
  obtain ⟨H2, e2, l2⟩ := w_years l1 (mm := 60) (s := 0) (by decide) (by decide) (by decide)
  have e2 : ev 87 6 [.ref 0, .ref 27, .ref 28, .int 60, .int 0, .ref 30, .null, .null, .null, .null, .null, .null] [] (mkS (clS H H1)) = _ := e2
  have n2 : na (clS (clS H H1) H2) < 1000 := by rw [na_clS, na_clS]; omega
  have fl2 := l2.2.2.2.2
  obtain ⟨H3, e3, l3⟩ := w_years l2 (mm := 1) (s := 2147483647) (by decide) (by decide) (by decide)
  have e3 : ev 87 6 [.ref 0, .ref 27, .ref 28, .int 1, .int 2147483647, .ref 30, .null, .null, .null, .null, .null, .null] [] (mkS (clS (clS H H1) H2)) = _ := e3
  have r1 := w_ref1 l3.1.1 l3.2.1 l3.2.2.1 x5 v7 v8
  obtain ⟨H4, r2, c4, f4⟩ := w_ref2 l3.1.1 l3.2.1 l3.2.2.1 x5 v7 v8
  obtain ⟨H5, r3, c5, f5⟩ := w_ref3 c4 l3.2.1 l3.2.2.1 x5 v7 v8
  obtain ⟨H6, r4, c6, f6⟩ := w_ref4 c5 l3.2.1 l3.2.2.1 x5 v7 v8
  obtain ⟨H7, r5, f7⟩ := w_ref5 c6 l3.2.1 x5 v7 v8
  have f := ((f4.tr f5).tr f6).tr f7
  refine ⟨H7, ?_, kSc_fr f cC_38 l3.2.2.2.1, ?_⟩
  · rw [← r5, ← r4, ← r3, ← r2, ← r1]
    simp only [e85_280, e85_281, e85_282, e85_283, e85_285, e85_286, e85_287, e85_288, e85_291, e85_294, e85_295, e85_296, e85_297, e85_299, e85_300, e85_303, e85_306, e85_307, e85_308, e85_309, e85_310, e85_312, e85_315, zb5, nb5, cx5, or_self, if_false, hb.1, hfl, hna, fl1, n1, fl2, n2, e1, e2, e3, q_bs, q_tl, q_cn, t10]
  · rw [na_fr f (by unfold cC; omega), na_clS, na_clS, na_clS]
    omega
/-- all of it -/
theorem w_all (hq : CR H S) (ho : sOK S) (hs0 : sn S = 0) (hr0 : sr S = 0) (hX : kSc L xs H) (hf : fl H = 0) (hn : na H = 0) : ∃ H1, ev 85 24 [.ref 38, .ref 0, .ref 27, .ref 28, .ref 29, .null, .null, .null, .null] [] H = some (some (.int 1), H1) ∧ kSc L xs H1 ∧ na H1 ≤ 100 := by
  obtain ⟨H1, n, kd, no, la, e1, t1, h3, h5, f1⟩ := y_text hX
  obtain ⟨b1, b2, b3, b4, b5, b6⟩ := t1
  have q1 : CR H1 S := CR_hi f1 (fun k j z => by omega) hq
  have hg : ∀ q, q < 4 * n - 1 → 1 ≤ gT kd no la q ∧ gT kd no la q < 127 := fun q hq => gT_lt (b3 (q / 4) (by omega)).2 (b4 (q / 4) (by omega)).2
  obtain ⟨H2, S2, e2, q2, o2, n2, g2, r2, f2⟩ := l_write (n := 4 * n - 1) (by omega) hg (4 * n - 1) 0 H1 S (by omega) q1 ho hs0 (fun q hq => absurd hq (Nat.not_lt_zero q)) b6
  have hB : ∀ q, q < 4 * n - 1 → qB q (sg S2 q) = true := fun q hq => by
    rw [g2 q hq]
    exact gT_B h5 hq (b3 (q / 4) (by omega)).2 (b4 (q / 4) (by omega)).2
  have hw : qW (sg S2) (sn S2) 0 = 4 * n - 1 := by
    rw [n2, qW_ok _ _ (fun q _ h2 => hB q (by omega)), Nat.zero_add]
  have e3 := x_fault q2
  rw [hw] at e3
  have hcs : qCS (sn S2) (sg S2) = n := by
    unfold qCS
    rw [if_pos ⟨by rw [n2]; omega, by rw [hw, n2], by rw [n2]; omega⟩, n2]
    omega
  obtain ⟨H3, e4, q4, f4⟩ := x_council q2
  have ok4 := ok_council o2 (by rw [n2]; omega) (by rw [r2, hr0]; decide)
  have g4 : fCouncil S2 = nI n := by
    unfold fCouncil
    rw [if_neg (by rw [hcs]; omega), hcs]
  have g5 : tCouncil S2 = (tPage S2, 0, sg S2, sr S2 + 1, 0, sK S2) := by
    unfold tCouncil
    rw [if_neg (by rw [hcs]; omega)]
  rw [g4] at e4
  rw [g5] at q4 ok4
  obtain ⟨S3, eS3⟩ : ∃ S3 : kS, S3 = (tPage S2, 0, sg S2, sr S2 + 1, 0, sK S2) := ⟨_, rfl⟩
  have hvn : vn (sV S3) = n := by rw [eS3]; exact hcs
  have k0 : ∀ j, j < n → sg S2 (4 * j) = kL (kd j) := fun j hj => by
    rw [g2 _ (by omega)]
    unfold gT
    rw [if_pos (by omega), show 4 * j / 4 = j by omega]
  have k1 : ∀ j, j < n → sg S2 (4 * j + 1) = 48 + no j := fun j hj => by
    rw [g2 _ (by omega)]
    unfold gT
    rw [if_neg (by omega), if_pos (by omega), show (4 * j + 1) / 4 = j by omega]
  have k2 : ∀ j, j < n → sg S2 (4 * j + 2) = 48 + la j := fun j hj => by
    rw [g2 _ (by omega)]
    unfold gT
    rw [if_neg (by omega), if_neg (by omega), if_pos (by omega), show (4 * j + 2) / 4 = j by omega]
  have f34 := f2.tr f4
  have c27 : ∀ j, hI H3 27 j = hI H1 27 j := fun j => (f34 27 j (by unfold cC; omega)).1
  have c28 : ∀ j, hI H3 28 j = hI H1 28 j := fun j => (f34 28 j (by unfold cC; omega)).1
  have hb3 : bR H3 (sV S3) := by
    refine ⟨by rw [c27, hvn]; exact b1, fun j hj => ?_⟩
    rw [hvn] at hj
    rw [c27, (b2 j hj).1, eS3]
    show _ = nI (qKd (sg S2 (4 * j)))
    rw [k0 j hj, qKd_kL (b2 j hj).2]
  have hd3 : dR H3 28 (sV S3) := by
    refine ⟨fun j hj => ?_, fun j hj => ?_, fun j hj => ?_, ?_, ?_, ?_, ?_⟩
    · rw [hvn] at hj
      rw [c28, (b3 j hj).1, eS3]
      show _ = nI (sg S2 (4 * j + 1) - 48)
      rw [k1 j hj, Nat.add_sub_cancel_left]
    · rw [hvn] at hj
      rw [c28, (b4 j hj).1, eS3]
      show _ = nI (sg S2 (4 * j + 2) - 48)
      rw [k2 j hj, Nat.add_sub_cancel_left]
    · rw [c28, b5 _ (by omega) (by omega), if_neg (by omega), eS3]
      rfl
    · rw [c28, b5 _ (by omega) (by omega), eS3]
      rfl
    · rw [c28, b5 _ (by omega) (by omega), eS3]
      rfl
    · rw [c28, b5 _ (by omega) (by omega), eS3]
      rfl
    · rw [c28, b5 _ (by omega) (by omega), eS3]
      rfl
  rw [← eS3] at q4 ok4
  have l3 : lI L xs H3 S3 := ⟨⟨q4, hb3, hd3⟩, ok4, by rw [hvn]; omega, kSc_fr f34 cC_38 (kSc_lo f1 hX), (fl_fr f34 (by unfold cC; omega)).trans ((fl_fr f1 (by omega)).trans hf)⟩
  have n3 : na H3 ≤ 0 := by rw [na_fr f34 (by unfold cC; omega), na_fr f1 (by omega), hn]; exact Nat.le_refl _
  obtain ⟨w7, ea⟩ := l_ass q4 ok4 hb3 (nI (4 * n - 1)) (vn (sV S3)) 0 .null (by omega)
  obtain ⟨H4, S4, u7, u8, et, l4, n4⟩ := l_turns 24 0 H3 S3 w7 .null (by omega) l3 n3 (nI (4 * n - 1))
  obtain ⟨H5, ee, x5, n5⟩ := w_end l4 n4 (nI (4 * n - 1)) (nI 24) u7 u8
  refine ⟨H5, ?_, x5, n5⟩
  have e2 : ev 73 0 [.ref 0, .ref 29, .int (nI (4 * n - 1)), .null] [] H1 = some (some (.int 1), H2) := by
    rw [← e2]
    simp only [e73_0, e73_1]
    rfl
  have hb5 : hI H3 27 5 = nI n := (c27 5).trans b1
  rw [← ee, ← et]
  simp only [e85_24, e85_25, e85_26, e85_27, e85_28, e85_29, e85_31, e85_34, e85_36, e85_37, e85_39, e85_41, e85_44, e85_47, e85_48, e85_51, e85_53, e85_56, e85_57, e85_60, e85_61, e85_62, e85_63, e85_66, e85_67, e85_68, e85_69, e85_72, e1, q_bs, q_tl, q_cn, e2, t10, if_false, e3, not_true_eq_false, e4, zb5, nb5, cx5, or_self, hb5, y_stands l3.1 l3.2.1, not_false_eq_true, if_true]
  simp only [e85_77, e85_78]
  rw [show ev 85 80 [.ref 38, .ref 0, .ref 27, .ref 28, .ref 29, .int (nI (4 * n - 1)), .int 0, .null, .null] [] H3 = _ from ea]
  simp only [e85_156, e85_157]
  rfl
end LWW
