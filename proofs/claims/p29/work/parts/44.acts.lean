/-! what stands, what is done: cell(), at(), stands(), does() -/
/-- a number of a cell -/
def aT (x : Int32) (m : Nat) : Nat := x.toUInt32.toNat / 2 % m
theorem q_ush (x : Int32) : (x.toUInt32 >>> ((1 : Int32).toUInt32 &&& Int32.toUInt32 31)).toInt32 = nI (x.toUInt32.toNat / 2) := by
  apply Int32.toBitVec_inj.1
  show x.toBitVec >>> (1 : Nat) = BitVec.ofNat 32 (x.toBitVec.toNat / 2)
  apply BitVec.eq_of_toNat_eq
  rw [BitVec.toNat_ushiftRight, BitVec.toNat_ofNat, Nat.shiftRight_eq_div_pow, Nat.mod_eq_of_lt]
  have := x.toBitVec.isLt
  omega
theorem aT_lt (x : Int32) {m : Nat} (h : 0 < m) : aT x m < m := Nat.mod_lt _ h
theorem y_at (x : Int32) {m : Nat} (h0 : 0 < m) (hm : m < 2147483648) (H : kH) : ev 71 0 [.int x, .int (nI m)] [] H = some (some (.int (nI (aT x m))), H) := by
  have hz : (nI m = (0 : Int32)) = False := by
    rw [q_n0' hm]
    exact eq_false (by omega)
  have hx : x.toUInt32.toNat / 2 < 2147483648 := by
    have := x.toUInt32.toNat_lt
    omega
  simp only [e71_0, e71_1, e71_2, e71_3, e71_4, e71_5, hz, if_false, q_ush]
  rw [pk_rem (a := x.toUInt32.toNat / 2) (d := m) hx h0 hm]
  rfl
theorem y_cell {H : kH} {L : Nat} {xs : Nat → Int32} (hX : kSc L xs H) {k : Nat} (hk : k < 1000) : ∃ c, ev 70 0 [.ref 38, .int (nI k)] [] H = some (some (.int c), H) := by
  obtain ⟨-, hl, hL⟩ := hX
  by_cases h : L ≤ k
  · refine ⟨747796405 * (nI k + 1), ?_⟩
    simp only [e70_0, e70_1, e70_2, e70_3, e70_6, e70_7, e70_8, e70_9, e70_12, e70_14, e70_15, e70_16, e70_17, e70_18, hl, q_le (show L < 2147483648 by omega) (show k < 2147483648 by omega), h, if_true]
  · refine ⟨hI H 38 k, ?_⟩
    simp only [e70_0, e70_1, e70_2, e70_3, e70_6, e70_7, e70_8, e70_9, e70_12, e70_14, e70_15, e70_16, e70_17, e70_18, hl, q_le (show L < 2147483648 by omega) (show k < 2147483648 by omega), h, if_false, q_lt0 (show k < 2147483648 by omega), q_cl (show k < 2147483648 by omega), q_cl (show L < 2147483648 by omega), or_self]
theorem fAb {V : kV} {j w : Nat} (hj : j < vn V) (h5 : vn V ≤ 5) (hw : w < 5) : fAbout V (nI j) (nI w) = if w = 0 then nI (vk V j) else if w = 1 then nI (vo V j) else if w = 2 then nI (vl V j) else if w = 3 then nI (qtn V j (vt V) (vh V) (vd V)) else vr V j := by
  unfold fAbout
  rw [qSel_in hj (by omega), qSel_in hw (by decide)]
theorem fCn (S : kS) {w : Nat} (hw : w < 9) : fCount S (nI w) = if w = 0 then nI (vn (sV S)) else if w = 1 then vd (sV S) else if w = 2 then vp (sV S) else if w = 3 then nI (qP (vh (sV S))) else if w = 4 then vt (sV S) else if w = 5 then bx_sum (vr (sV S)) (vn (sV S)) else if w = 6 then nI (vb (sV S)) else if w = 7 then nI (sn S) else nI (sr S) := by
  unfold fCount
  rw [qSel_in hw (by decide)]
/-- what stands between the law's steps -/
def jI (H : kH) (S : kS) : Prop := CR H S ∧ bR H (sV S) ∧ dR H 28 (sV S)
section LWS
variable {H : kH} {S : kS}
theorem l_stands (h : jI H S) (ho : sOK S) : ∀ i j, j + i = vn (sV S) → ev 83 5 [.ref 0, .ref 27, .ref 28, .int (bx_sum (vr (sV S)) j), .int (nI j)] [] H = ev 83 109 [.ref 0, .ref 27, .ref 28, .int (bx_sum (vr (sV S)) (vn (sV S))), .int (nI (vn (sV S)))] [] H := by
  obtain ⟨hq, hb, hd⟩ := h
  have hV := ho.1
  have h5 := hV.2.1
  intro i
  induction i with
  | zero =>
    intro j hj
    have : j = vn (sV S) := by omega
    subst this
    rw [e83_5]
    simp only [e83_7, e83_8, e83_9, e83_10, zb5, nb5, cx5, or_self, hb.1, Std.le_refl, if_true, if_false]
  | succ i ih =>
    intro j hj
    have hj' : j < vn (sV S) := by omega
    have a0 := x_about hq ho (nI j) (nI 0)
    have a1 := x_about hq ho (nI j) (nI 1)
    have a2 := x_about hq ho (nI j) (nI 2)
    have a3 := x_about hq ho (nI j) (nI 3)
    have a4 := x_about hq ho (nI j) (nI 4)
    rw [fAb hj' h5 (by decide), if_pos rfl] at a0
    rw [fAb hj' h5 (by decide), if_neg (by decide), if_pos rfl] at a1
    rw [fAb hj' h5 (by decide), if_neg (by decide), if_neg (by decide), if_pos rfl] at a2
    rw [fAb hj' h5 (by decide), if_neg (by decide), if_neg (by decide), if_neg (by decide), if_pos rfl] at a3
    rw [fAb hj' h5 (by decide), if_neg (by decide), if_neg (by decide), if_neg (by decide), if_neg (by decide)] at a4
    obtain ⟨d1, d2, d3, -⟩ := id hd
    rw [← ih (j + 1) (by omega), e83_5]
    simp only [e83_7, e83_8, e83_9, e83_10, e83_13, e83_14, e83_16, e83_17, e83_20, e83_21, e83_23, e83_24, e83_27, e83_28, e83_30, e83_31, e83_34, e83_35, e83_37, e83_38, e83_41, e83_42, e83_44, e83_45, e83_48, e83_49, e83_50, e83_52, e83_53, e83_54, e83_57, e83_58, e83_60, e83_61, e83_64, e83_65, e83_66, e83_68, e83_71, e83_74, e83_75, e83_77, e83_78, e83_81, e83_82, e83_84, e83_86, e83_87, e83_88, e83_91, e83_92, e83_93, e83_94, e83_95, e83_97, e83_99, e83_100, e83_101, e83_102, e83_103, e83_106, show (0 : Int32) = nI 0 from rfl, show (1 : Int32) = nI 1 from rfl, show (2 : Int32) = nI 2 from rfl, show (3 : Int32) = nI 3 from rfl, show (4 : Int32) = nI 4 from rfl, show (5 : Int32) = nI 5 from rfl, show (10 : Int32) = nI 10 from rfl, q_cl (show 5 < 2147483648 by decide), show (nI 5 < nI 0) = False from eq_false (by decide), nb5, show (nI j < nI 0) = False from (by rw [q_lt (by omega) (by decide)]; exact eq_false (by omega)), show (nI (5 + j) < nI 0) = False from (by rw [q_lt (by omega) (by decide)]; exact eq_false (by omega)), show (nI (10 + j) < nI 0) = False from (by rw [q_lt (by omega) (by decide)]; exact eq_false (by omega)), hb.1, q_le (show vn (sV S) < 2147483648 by omega) (show j < 2147483648 by omega), show ¬ vn (sV S) ≤ j by omega, if_false, a0, a1, a2, a3, a4, q_bs, q_tl, q_cn, q_add, q_cl (show j < 2147483648 by omega), q_cl (show 5 + j < 2147483648 by omega), q_cl (show 10 + j < 2147483648 by omega), show ¬ 6 ≤ j by omega, show ¬ 19 ≤ j by omega, show ¬ 19 ≤ 5 + j by omega, show ¬ 19 ≤ 10 + j by omega, or_self, hb.2 j hj', d1 j hj', d2 j hj', d3 j (by omega), not_true_eq_false, y_tenths (shq_28 H) hb hd hV hj', if_true, bx_sum]
theorem y_stands (h : jI H S) (ho : sOK S) : ev 83 0 [.ref 0, .ref 27, .ref 28, .null, .null] [] H = some (some (.int 1), H) := by
  have hV := ho.1
  have h5 := hV.2.1
  have hl := l_stands h ho (vn (sV S)) 0 (by omega)
  obtain ⟨hq, hb, hd⟩ := h
  have a0 := x_count hq ho (nI 0)
  have a1 := x_count hq ho (nI 1)
  have a2 := x_count hq ho (nI 2)
  have a3 := x_count hq ho (nI 3)
  have a4 := x_count hq ho (nI 4)
  have a5 := x_count hq ho (nI 5)
  rw [fCn S (by decide), if_pos rfl] at a0
  rw [fCn S (by decide), if_neg (by decide), if_pos rfl] at a1
  rw [fCn S (by decide), if_neg (by decide), if_neg (by decide), if_pos rfl] at a2
  rw [fCn S (by decide), if_neg (by decide), if_neg (by decide), if_neg (by decide), if_pos rfl] at a3
  rw [fCn S (by decide), if_neg (by decide), if_neg (by decide), if_neg (by decide), if_neg (by decide), if_pos rfl] at a4
  rw [fCn S (by decide), if_neg (by decide), if_neg (by decide), if_neg (by decide), if_neg (by decide), if_neg (by decide), if_pos rfl] at a5
  have a0 : ev 60 0 [.ref 0, .int 0] [] H = _ := a0
  have a1 : ev 60 0 [.ref 0, .int 1] [] H = _ := a1
  have a2 : ev 60 0 [.ref 0, .int 2] [] H = _ := a2
  have a3 : ev 60 0 [.ref 0, .int 3] [] H = _ := a3
  have a4 : ev 60 0 [.ref 0, .int 4] [] H = _ := a4
  have a5 : ev 60 0 [.ref 0, .int 5] [] H = _ := a5
  obtain ⟨d1, d2, d3, d15, d16, d17, d18⟩ := hd
  simp only [e83_0, e83_1, e83_2, e83_3]
  rw [show ev 83 5 [.ref 0, .ref 27, .ref 28, .int 0, .int 0] [] H = _ from hl]
  have z15 : ((15 : Int32) < 0) = False := eq_false (by decide)
  have z16 : ((16 : Int32) < 0) = False := eq_false (by decide)
  have z17 : ((17 : Int32) < 0) = False := eq_false (by decide)
  have z18 : ((18 : Int32) < 0) = False := eq_false (by decide)
  simp only [e83_109, e83_110, e83_113, e83_114, e83_116, e83_117, e83_120, e83_121, e83_122, e83_125, e83_126, e83_127, e83_128, e83_131, e83_132, e83_133, e83_136, e83_137, e83_139, e83_140, e83_143, e83_144, e83_145, e83_148, e83_149, e83_151, e83_152, e83_155, e83_156, e83_157, e83_160, e83_161, e83_163, e83_164, e83_167, e83_170, e83_171, e83_172, e83_175, e83_176, e83_178, e83_179, e83_182, e83_183, e83_184, e83_187, e83_188, e83_191, e83_192, e83_195, e83_196, x_laws hq, a0, a1, a2, a3, a4, a5, q_bs, q_tl, q_cn, z15, z16, z17, z18, cx15, cx16, cx17, cx18, zb5, nb5, cx5, show (19 ≤ 15) = False from eq_false (by decide), show (19 ≤ 16) = False from eq_false (by decide), show (19 ≤ 17) = False from eq_false (by decide), show (19 ≤ 18) = False from eq_false (by decide), or_self, if_false, d15, d16, d17, d18, hb.1, not_true_eq_false, y_size hV.2.2.2.2.2.1, or_true, if_true]
end LWS
/-! what is done -/
theorem CR_hi {P : Nat → Nat → Prop} {H H' : kH} {S : kS} (hf : kFr P H H') (hp : ∀ k j, P k j → 27 ≤ k) (h : CR H S) : CR H' S := by
  have e0 : ∀ k j, k < 27 → hI H' k j = hI H k j ∧ hL H' k j = hL H k j ∧ hR H' k j = hR H k j := fun k j hk => hf k j (fun z => by have := hp k j z; omega)
  have e : ∀ k j, k < 27 → hI H' k j = hI H k j := fun k j hk => (e0 k j hk).1
  obtain ⟨a1, a2, a3, a4, a5, a6⟩ := h
  obtain ⟨b1, b2, b3, b4, b5, b6, b7, b8, b9, b10, b11, b12⟩ := a1
  refine ⟨⟨(e _ _ (by decide)).trans b1, fun j hj => (e _ _ (by decide)).trans (b2 j hj), fun j hj => (e _ _ (by decide)).trans (b3 j hj), fun j hj => (e _ _ (by decide)).trans (b4 j hj), fun j hj => (e _ _ (by decide)).trans (b5 j hj), (e _ _ (by decide)).trans b6, (e _ _ (by decide)).trans b7, (e _ _ (by decide)).trans b8, (e _ _ (by decide)).trans b9, (e _ _ (by decide)).trans b10, fun j hj => (e _ _ (by decide)).trans (b11 j hj), fun h0 s hs => (e _ _ (by decide)).trans (b12 h0 s hs)⟩, ⟨(e _ _ (by decide)).trans a2.1, a2.2.1, fun j hj => ⟨(e _ _ (by decide)).trans (a2.2.2 j hj).1, (a2.2.2 j hj).2⟩⟩, (e _ _ (by decide)).trans a3, (e _ _ (by decide)).trans a4, ?_, fun hz => ?_⟩
  · unfold wR at a5 ⊢
    rw [(e0 4 6 (by decide)).2.2, (e0 4 7 (by decide)).2.2]
    exact a5
  · obtain ⟨c1, c2, c3, c4, c5, c6, c7, c8, c9⟩ := a6 hz
    exact ⟨fun j hj => (e _ _ (by decide)).trans (c1 j hj), fun j hj => (e _ _ (by decide)).trans (c2 j hj), fun j hj => (e _ _ (by decide)).trans (c3 j hj), (e _ _ (by decide)).trans c4, (e _ _ (by decide)).trans c5, (e _ _ (by decide)).trans c6, (e _ _ (by decide)).trans c7, (e _ _ (by decide)).trans c8, fun j hj => (e _ _ (by decide)).trans (c9 j hj)⟩
theorem bR_of {H : kH} {V V' : kV} (h1 : vn V' = vn V) (h2 : vk V' = vk V) (h : bR H V) : bR H V' := by
  unfold bR at h ⊢
  rw [h1, h2]
  exact h
/-- cells of the object, and d -/
def aC (k _ : Nat) : Prop := k ≤ 26 ∨ k = 28
theorem cC_aC {k j : Nat} (h : cC k j) : aC k j := Or.inl h
theorem c28_aC {k : Nat} (j : Nat) (h : k = 28) : aC k j := Or.inr h
section LWD
variable {H : kH} {S : kS}
theorem dR_no {V : kV} (h5 : vn V ≤ 5) (hd : dR H 28 V) {c v : Nat} (hc : c < vn V) : dR (uI H 28 c (nI v)) 28 (vsO V c v) := by
  obtain ⟨h1, h2, h3, h4, h6, h7, h8⟩ := hd
  refine ⟨fun j hj => ?_, fun j hj => ?_, fun j hj => ?_, ?_, ?_, ?_, ?_⟩
  · have hj : j < vn V := hj
    show _ = nI (fu (vo V) c v j)
    by_cases e : j = c
    · subst e
      rw [hI_uIs, fu_s]
    · rw [hI_uIn (by omega), fu_n e]
      exact h1 j hj
  · have hj : j < vn V := hj
    rw [hI_uIn (by omega)]
    exact h2 j hj
  · rw [hI_uIn (by omega)]
    exact h3 j hj
  · rw [hI_uIn (by omega)]
    exact h4
  · rw [hI_uIn (by omega)]
    exact h6
  · rw [hI_uIn (by omega)]
    exact h7
  · rw [hI_uIn (by omega)]
    exact h8
theorem dR_la {V : kV} (h5 : vn V ≤ 5) (hd : dR H 28 V) {c v : Nat} (hc : c < vn V) : dR (uI H 28 (5 + c) (nI v)) 28 (vsL V c v) := by
  obtain ⟨h1, h2, h3, h4, h6, h7, h8⟩ := hd
  refine ⟨fun j hj => ?_, fun j hj => ?_, fun j hj => ?_, ?_, ?_, ?_, ?_⟩
  · have hj : j < vn V := hj
    rw [hI_uIn (by omega)]
    exact h1 j hj
  · have hj : j < vn V := hj
    show _ = nI (fu (vl V) c v j)
    by_cases e : j = c
    · subst e
      rw [hI_uIs, fu_s]
    · rw [hI_uIn (by omega), fu_n e]
      exact h2 j hj
  · rw [hI_uIn (by omega)]
    exact h3 j hj
  · rw [hI_uIn (by omega)]
    exact h4
  · rw [hI_uIn (by omega)]
    exact h6
  · rw [hI_uIn (by omega)]
    exact h7
  · rw [hI_uIn (by omega)]
    exact h8
theorem dR_dr {V : kV} (h5 : vn V ≤ 5) (hd : dR H 28 V) {v : Int32} : dR (uI H 28 15 v) 28 (vsD V v) := by
  obtain ⟨h1, h2, h3, h4, h6, h7, h8⟩ := hd
  refine ⟨fun j hj => ?_, fun j hj => ?_, fun j hj => ?_, hI_uIs _ _ _ _, ?_, ?_, ?_⟩
  · have hj : j < vn V := hj
    rw [hI_uIn (by omega)]
    exact h1 j hj
  · have hj : j < vn V := hj
    rw [hI_uIn (by omega)]
    exact h2 j hj
  · rw [hI_uIn (by omega)]
    exact h3 j hj
  · rw [hI_uIn (by omega)]
    exact h6
  · rw [hI_uIn (by omega)]
    exact h7
  · rw [hI_uIn (by omega)]
    exact h8
theorem dR_pe {V : kV} (h5 : vn V ≤ 5) (hd : dR H 28 V) {v : Int32} : dR (uI H 28 16 v) 28 (vsP V v) := by
  obtain ⟨h1, h2, h3, h4, h6, h7, h8⟩ := hd
  refine ⟨fun j hj => ?_, fun j hj => ?_, fun j hj => ?_, ?_, hI_uIs _ _ _ _, ?_, ?_⟩
  · have hj : j < vn V := hj
    rw [hI_uIn (by omega)]
    exact h1 j hj
  · have hj : j < vn V := hj
    rw [hI_uIn (by omega)]
    exact h2 j hj
  · rw [hI_uIn (by omega)]
    exact h3 j hj
  · rw [hI_uIn (by omega)]
    exact h4
  · rw [hI_uIn (by omega)]
    exact h7
  · rw [hI_uIn (by omega)]
    exact h8
theorem vn_tGo (V : kV) (s : Nat) : vn (tGo V s) = vn V := by unfold tGo; split <;> rfl
theorem vk_tGo (V : kV) (s : Nat) : vk (tGo V s) = vk V := by unfold tGo; split <;> rfl
/-- an hour -/
theorem w_hour (h : jI H S) (ho : sOK S) (h0 : 0 < vn (sV S)) {s : Nat} (hs : s < 2 ^ vn (sV S)) (x : Int32) (k4 k5 : Int32) : ∃ H1 V1, ev 84 57 [.ref 0, .ref 27, .ref 28, .int x, .int k4, .int k5, .int (nI s), .null] [] H = some (some (.int 1), H1) ∧ jI H1 (ssV S V1) ∧ sOK (ssV S V1) ∧ vn V1 = vn (sV S) ∧ kFr aC H H1 := by
  obtain ⟨hq, hb, hd⟩ := h
  have hV := ho.1
  have h5 := hV.2.1
  have h32 := pow2_le h5
  obtain ⟨H1, e1, c1, f1⟩ := x_hour hq ho (nI s)
  have ok1 := ok_hour ho (nI s)
  have hb1 := bR_fr f1 (fun j => by unfold cC; omega) hb
  have hd1 := dR_fr f1 (fun j => by unfold cC; omega) hd
  by_cases hm : s &&& qA (sV S) (vn (sV S)) = s
  · have g1 : fHour (sV S) (nI s) = qK (vk (sV S)) (vn (sV S)) s := by
      unfold fHour
      rw [qSel_in (by omega) (by decide), if_pos hm, if_neg (by omega)]
    have g2 : tHour (sV S) (nI s) = tGo (sV S) s := by
      unfold tHour
      rw [qSel_in (by omega) (by decide), if_pos hm, if_neg (by omega)]
      rfl
    rw [g1] at e1
    rw [g2] at c1 ok1
    obtain ⟨H2, e2, d2, f2⟩ := y_go (shq_28 H1) hb1 hd1 hV (s := s) (by omega)
    refine ⟨H2, tGo (sV S) s, ?_, ⟨CR_hi f2 (fun k j z => by omega) c1, bR_of (vn_tGo _ _) (vk_tGo _ _) (bR_fr f2 (fun j => by omega) hb1), d2⟩, ok1, vn_tGo _ _, (f1.mono (fun _ _ z => cC_aC z)).tr (f2.mono (fun k j z => c28_aC j z))⟩
    simp only [e84_57, e84_58, e84_59, e84_61, e84_64, e84_66, e84_67, e84_69, e84_72, e84_74, e84_77, e84_78, e84_79, e84_81, e84_84, e84_87, e84_89, e84_92, e84_93, e84_96, e84_97, y_may hb hd hV hs, hm, if_true, q_bs, q_tl, q_cn, e1, t10, if_false, e2, not_true_eq_false, or_true]
  · have g1 : fHour (sV S) (nI s) = -102 := by
      unfold fHour
      rw [qSel_in (by omega) (by decide), if_neg hm]
    have g2 : tHour (sV S) (nI s) = sV S := by
      unfold tHour
      rw [qSel_in (by omega) (by decide), if_neg hm]
    rw [g1] at e1
    rw [g2] at c1 ok1
    refine ⟨H1, sV S, ?_, ⟨c1, hb1, hd1⟩, ok1, rfl, f1.mono (fun _ _ z => cC_aC z)⟩
    simp only [e84_57, e84_58, e84_59, e84_61, e84_64, e84_66, e84_67, e84_69, e84_72, e84_74, e84_77, e84_78, e84_79, e84_81, e84_84, e84_87, e84_89, e84_92, e84_93, e84_96, e84_97, y_may hb hd hV hs, hm, if_false, q_bs, q_tl, q_cn, e1, if_true, not_true_eq_false, or_true]
theorem y_does (h : jI H S) (ho : sOK S) (h0 : 0 < vn (sV S)) (x : Int32) : ∃ H1 V1, ev 84 0 [.ref 0, .ref 27, .ref 28, .int x, .null, .null, .null, .null] [] H = some (some (.int 1), H1) ∧ jI H1 (ssV S V1) ∧ sOK (ssV S V1) ∧ vn V1 = vn (sV S) ∧ kFr aC H H1 := by
  have hV := ho.1
  have h5 := hV.2.1
  have hb := h.2.1
  have hd := h.2.2
  have hso := aT_lt x (m := 8) (by decide)
  obtain ⟨so, eso⟩ : ∃ so, so = aT x 8 := ⟨_, rfl⟩
  obtain ⟨kk, ekk⟩ : ∃ kk, kk = aT (x >>> (3 &&& 31)) (vn (sV S)) := ⟨_, rfl⟩
  have hk : kk < vn (sV S) := by rw [ekk]; exact aT_lt _ h0
  rw [← eso] at hso
  have y8 : ev 71 0 [.int x, .int 8] [] H = some (some (.int (nI so)), H) := by rw [eso]; exact y_at x (by decide) (by decide) H
  have yk : ev 71 0 [.int (x >>> (3 &&& 31)), .int (nI (vn (sV S)))] [] H = some (some (.int (nI kk)), H) := by rw [ekk]; exact y_at _ h0 (by omega) H
  have e0 : ev 84 0 [.ref 0, .ref 27, .ref 28, .int x, .null, .null, .null, .null] [] H = ev 84 19 [.ref 0, .ref 27, .ref 28, .int x, .int (nI so), .int (nI kk), .null, .null] [] H := by
    simp only [e84_0, e84_1, e84_3, e84_6, e84_8, e84_9, e84_10, e84_11, e84_12, e84_13, e84_14, e84_17, y8, yk, q_bs, q_tl, q_cn, zb5, nb5, cx5, or_self, if_false, hb.1]
  rw [e0]
  have q5 : (nI 5 ≤ nI so) = (5 ≤ so) := q_le (by decide) (by omega)
  have q5 : ((5 : Int32) ≤ nI so) = (5 ≤ so) := q5
  by_cases h1 : so < 5
  · -- an hour
    have y3 := y_at (x >>> (6 &&& 31)) (m := 3) (by decide) (by decide) H
    have y3 : ev 71 0 [.int (x >>> (6 &&& 31)), .int 3] [] H = _ := y3
    have yb := y_at (x >>> (8 &&& 31)) (m := 2 ^ vn (sV S)) (Nat.pow_pos (by decide)) (by have := pow2_le h5; omega) H
    have z3 : (nI (aT (x >>> (6 &&& 31)) 3) = (0 : Int32)) = (aT (x >>> (6 &&& 31)) 3 = 0) := q_n0' (by have := aT_lt (x >>> (6 &&& 31)) (m := 3) (by decide); omega)
    by_cases hz : aT (x >>> (6 &&& 31)) 3 = 0
    · obtain ⟨H1, V1, g⟩ := w_hour h ho h0 (aT_lt (x >>> (8 &&& 31)) (m := 2 ^ vn (sV S)) (Nat.pow_pos (by decide))) x (nI so) (nI kk)
      refine ⟨H1, V1, ?_, g.2⟩
      rw [← g.1]
      simp only [e84_19, e84_21, e84_22, e84_25, e84_26, e84_28, e84_29, e84_30, e84_33, e84_36, e84_37, e84_39, e84_40, e84_41, e84_42, e84_43, e84_44, e84_45, e84_48, e84_51, e84_52, e84_54, e84_55, q5, show ¬ 5 ≤ so by omega, if_false, y3, q_bs, q_tl, q_cn, z3.trans (eq_true hz), not_true_eq_false, zb5, nb5, cx5, or_self, hb.1, q_shl2 _ (show vn (sV S) < 6 by omega), yb]
    · have hs : 2 ^ kk < 2 ^ vn (sV S) := Nat.pow_lt_pow_right (by decide) hk
      obtain ⟨H1, V1, g⟩ := w_hour h ho h0 hs x (nI so) (nI kk)
      refine ⟨H1, V1, ?_, g.2⟩
      rw [← g.1]
      simp only [e84_19, e84_21, e84_22, e84_25, e84_26, e84_28, e84_29, e84_30, e84_33, e84_36, e84_37, e84_39, e84_40, e84_41, e84_42, e84_43, e84_44, e84_45, e84_48, e84_51, e84_52, e84_54, e84_55, q5, show ¬ 5 ≤ so by omega, if_false, y3, q_bs, q_tl, q_cn, z3, hz, not_false_eq_true, if_true, q_shl2 _ (show kk < 6 by omega)]
  have w5 : (nI so = (5 : Int32)) = (so = 5) := q_k (b := 5) (by omega) (by decide)
  have w6 : (nI so = (6 : Int32)) = (so = 6) := q_k (b := 6) (by omega) (by decide)
  have l19 : ¬ 19 ≤ kk := by omega
  by_cases h2 : so = 5
  · -- a nose
    have yv := y_at (x >>> (6 &&& 31)) (m := 10) (by decide) (by decide) H
    have yv : ev 71 0 [.int (x >>> (6 &&& 31)), .int 10] [] H = _ := yv
    obtain ⟨v, ev'⟩ : ∃ v, v = aT (x >>> (6 &&& 31)) 10 := ⟨_, rfl⟩
    have hv : v < 10 := by rw [ev']; exact aT_lt _ (by decide)
    rw [← ev'] at yv
    have f0 : kFr (fun a _ => a = 28) H (uI H 28 kk (nI v)) := kFr_uI (P := fun a _ => a = 28) rfl
    obtain ⟨H1, e1, c1, f1⟩ := x_nose (CR_hi f0 (fun k j z => by omega) h.1) ho (nI kk) (nI v)
    have g1 : fNose (sV S) (nI kk) (nI v) = nI (vo (sV S) kk) := by
      unfold fNose
      rw [qSel_in hk (by omega), qSel_in hv (by decide)]
    have g2 : tNose (sV S) (nI kk) (nI v) = vsO (sV S) kk v := by
      unfold tNose
      rw [qSel_in hk (by omega), qSel_in hv (by decide)]
    have ok1 := ok_nose ho (nI kk) (nI v)
    rw [g1] at e1
    rw [g2] at c1 ok1
    refine ⟨H1, vsO (sV S) kk v, ?_, ⟨c1, bR_of rfl rfl (bR_fr f1 (fun j => by unfold cC; omega) (bR_fr f0 (fun j => by omega) hb)), dR_fr f1 (fun j => by unfold cC; omega) (dR_no h5 hd hk)⟩, ok1, rfl, (f0.mono (fun k j z => c28_aC j z)).tr (f1.mono (fun _ _ z => cC_aC z))⟩
    simp only [e84_19, e84_21, e84_22, e84_98, e84_100, e84_101, e84_104, e84_105, e84_107, e84_108, e84_110, e84_113, e84_115, e84_116, e84_118, e84_119, e84_121, e84_122, e84_124, e84_126, e84_127, e84_128, e84_130, e84_132, e84_135, e84_137, e84_140, e84_141, e84_144, e84_145, q5, show 5 ≤ so by omega, if_true, w5.trans (eq_true h2), not_true_eq_false, if_false, yv, q_bs, q_tl, q_cn, q_lt0 (show kk < 2147483648 by omega), q_cl (show kk < 2147483648 by omega), l19, or_self, hd.1 kk hk, e1, or_true]
  by_cases h3 : so = 6
  · -- a bribe
    have yv := y_at (x >>> (6 &&& 31)) (m := 6) (by decide) (by decide) H
    have yv : ev 71 0 [.int (x >>> (6 &&& 31)), .int 6] [] H = _ := yv
    obtain ⟨v, ev'⟩ : ∃ v, v = aT (x >>> (6 &&& 31)) 6 := ⟨_, rfl⟩
    have hv : v < 6 := by rw [ev']; exact aT_lt _ (by decide)
    rw [← ev'] at yv
    have f0 : kFr (fun a _ => a = 28) H (uI H 28 (5 + kk) (nI v)) := kFr_uI (P := fun a _ => a = 28) rfl
    obtain ⟨H1, e1, c1, f1⟩ := x_bribe (CR_hi f0 (fun k j z => by omega) h.1) ho (nI kk) (nI v)
    have g1 : fBribe (sV S) (nI kk) (nI v) = nI (vl (sV S) kk) := by
      unfold fBribe
      rw [qSel_in hk (by omega), qSel_in hv (by decide)]
    have g2 : tBribe (sV S) (nI kk) (nI v) = vsL (sV S) kk v := by
      unfold tBribe
      rw [qSel_in hk (by omega), qSel_in hv (by decide)]
    have ok1 := ok_bribe ho (nI kk) (nI v)
    rw [g1] at e1
    rw [g2] at c1 ok1
    refine ⟨H1, vsL (sV S) kk v, ?_, ⟨c1, bR_of rfl rfl (bR_fr f1 (fun j => by unfold cC; omega) (bR_fr f0 (fun j => by omega) hb)), dR_fr f1 (fun j => by unfold cC; omega) (dR_la h5 hd hk)⟩, ok1, rfl, (f0.mono (fun k j z => c28_aC j z)).tr (f1.mono (fun _ _ z => cC_aC z))⟩
    have e5 : (5 : Int32) + nI kk = nI (5 + kk) := q_add 5 kk
    simp only [e84_19, e84_21, e84_22, e84_98, e84_100, e84_101, e84_146, e84_148, e84_150, e84_153, e84_154, e84_156, e84_157, e84_159, e84_162, e84_164, e84_165, e84_166, e84_168, e84_169, e84_170, e84_172, e84_173, e84_174, e84_176, e84_177, e84_179, e84_180, e84_181, e84_183, e84_185, e84_188, e84_190, e84_193, e84_194, e84_197, e84_198, q5, show 5 ≤ so by omega, if_true, w5, h2, w6.trans (eq_true h3), not_true_eq_false, not_false_eq_true, if_false, yv, q_bs, q_tl, q_cn, e5, q_lt0 (show 5 + kk < 2147483648 by omega), q_cl (show 5 + kk < 2147483648 by omega), show ¬ 19 ≤ 5 + kk by omega, or_self, hd.2.1 kk hk, e1, or_true]
  · have y2 := y_at (x >>> (6 &&& 31)) (m := 2) (by decide) (by decide) H
    have y2 : ev 71 0 [.int (x >>> (6 &&& 31)), .int 2] [] H = _ := y2
    have z2 : (nI (aT (x >>> (6 &&& 31)) 2) = (0 : Int32)) = (aT (x >>> (6 &&& 31)) 2 = 0) := q_n0' (by have := aT_lt (x >>> (6 &&& 31)) (m := 2) (by decide); omega)
    by_cases hz : aT (x >>> (6 &&& 31)) 2 = 0
    · -- pepper
      have yv := y_at (x >>> (7 &&& 31)) (m := 2) (by decide) (by decide) H
      have yv : ev 71 0 [.int (x >>> (7 &&& 31)), .int 2] [] H = _ := yv
      obtain ⟨v, ev'⟩ : ∃ v, v = aT (x >>> (7 &&& 31)) 2 := ⟨_, rfl⟩
      have hv : v < 2 := by rw [ev']; exact aT_lt _ (by decide)
      rw [← ev'] at yv
      have hv01 : nI v = 0 ∨ nI v = 1 := by
        rcases (show v = 0 ∨ v = 1 by omega) with rfl | rfl
        · exact Or.inl rfl
        · exact Or.inr rfl
      have f0 : kFr (fun a _ => a = 28) H (uI H 28 16 (nI v)) := kFr_uI (P := fun a _ => a = 28) rfl
      obtain ⟨H1, e1, c1, f1⟩ := x_pepper (CR_hi f0 (fun k j z => by omega) h.1) ho hv01
      have g1 : fPepper (sV S) = vp (sV S) := by
        unfold fPepper
        rw [if_neg (by omega)]
      have g2 : tPepper (sV S) (nI v) = vsP (sV S) (nI v) := by
        unfold tPepper
        rw [if_neg (by omega)]
      have ok1 := ok_pepper ho hv01
      rw [g1] at e1
      rw [g2] at c1 ok1
      have g16 : hI (uI H 28 16 (nI v)) 28 16 = nI v := hI_uIs _ _ _ _
      refine ⟨H1, vsP (sV S) (nI v), ?_, ⟨c1, bR_of rfl rfl (bR_fr f1 (fun j => by unfold cC; omega) (bR_fr f0 (fun j => by omega) hb)), dR_fr f1 (fun j => by unfold cC; omega) (dR_pe h5 hd)⟩, ok1, rfl, (f0.mono (fun k j z => c28_aC j z)).tr (f1.mono (fun _ _ z => cC_aC z))⟩
      have z16 : ((16 : Int32) < 0) = False := eq_false (by decide)
      rcases hv01 with hv0 | hv1
      · rw [hv0] at e1 g16 yv
        simp only [e84_19, e84_21, e84_22, e84_98, e84_100, e84_101, e84_146, e84_148, e84_150, e84_199, e84_200, e84_202, e84_203, e84_204, e84_207, e84_210, e84_211, e84_213, e84_214, e84_216, e84_217, e84_219, e84_220, e84_222, e84_223, e84_224, e84_227, e84_228, e84_229, e84_230, e84_232, e84_233, e84_234, e84_237, e84_238, e84_241, e84_242, e84_245, e84_247, e84_250, e84_251, e84_254, e84_255, q5, show 5 ≤ so by omega, if_true, w5, h2, w6, h3, not_true_eq_false, not_false_eq_true, if_false, y2, yv, q_bs, q_tl, q_cn, z2.trans (eq_true hz), z16, cx16, show (19 ≤ 16) = False from eq_false (by decide), or_self, hd.2.2.2.2.1, g16, show ((0 : Int32) = 1) = False from eq_false (by decide), e1, or_true]
      · rw [hv1] at e1 g16 yv
        simp only [e84_19, e84_21, e84_22, e84_98, e84_100, e84_101, e84_146, e84_148, e84_150, e84_199, e84_200, e84_202, e84_203, e84_204, e84_207, e84_210, e84_211, e84_213, e84_214, e84_216, e84_217, e84_219, e84_220, e84_222, e84_223, e84_224, e84_227, e84_228, e84_229, e84_230, e84_232, e84_233, e84_234, e84_237, e84_238, e84_241, e84_242, e84_245, e84_247, e84_250, e84_251, e84_254, e84_255, q5, show 5 ≤ so by omega, if_true, w5, h2, w6, h3, not_true_eq_false, not_false_eq_true, if_false, y2, yv, q_bs, q_tl, q_cn, z2.trans (eq_true hz), z16, cx16, show (19 ≤ 16) = False from eq_false (by decide), or_self, hd.2.2.2.2.1, g16, e1, or_true]
    · -- the draught
      have yv := y_at (x >>> (7 &&& 31)) (m := 5) (by decide) (by decide) H
      have yv : ev 71 0 [.int (x >>> (7 &&& 31)), .int 5] [] H = _ := yv
      have zv : (nI (aT (x >>> (7 &&& 31)) 5) = (0 : Int32)) = (aT (x >>> (7 &&& 31)) 5 = 0) := q_n0' (by have := aT_lt (x >>> (7 &&& 31)) (m := 5) (by decide); omega)
      obtain ⟨c, ec⟩ : ∃ c : Int32, c = if aT (x >>> (7 &&& 31)) 5 = 0 then -1 else nI kk := ⟨_, rfl⟩
      have hc : c = -1 ∨ c = nI kk := by rw [ec]; split; exact Or.inl rfl; exact Or.inr rfl
      have f0 : kFr (fun a _ => a = 28) H (uI H 28 15 c) := kFr_uI (P := fun a _ => a = 28) rfl
      obtain ⟨H1, e1, c1, f1⟩ := x_draught (CR_hi f0 (fun k j z => by omega) h.1) ho c
      have hkm : ¬ nI kk = (-1 : Int32) := fun z => (q_m1ne (j := kk) (by omega)).mp z
      have g1 : fDraught (sV S) c = vd (sV S) := by
        unfold fDraught
        rcases hc with rfl | rfl
        · rw [if_pos rfl, if_neg (by omega)]
        · rw [if_neg hkm, qSel_in hk (by omega)]
      have g2 : tDraught (sV S) c = vsD (sV S) c := by
        unfold tDraught
        rcases hc with rfl | rfl
        · rw [if_pos rfl, if_neg (by omega)]
        · rw [if_neg hkm, qSel_in hk (by omega)]
      have ok1 := ok_draught ho c
      rw [g1] at e1
      rw [g2] at c1 ok1
      have g15 : hI (uI H 28 15 c) 28 15 = c := hI_uIs _ _ _ _
      refine ⟨H1, vsD (sV S) c, ?_, ⟨c1, bR_of rfl rfl (bR_fr f1 (fun j => by unfold cC; omega) (bR_fr f0 (fun j => by omega) hb)), dR_fr f1 (fun j => by unfold cC; omega) (dR_dr h5 hd)⟩, ok1, rfl, (f0.mono (fun k j z => c28_aC j z)).tr (f1.mono (fun _ _ z => cC_aC z))⟩
      have z15 : ((15 : Int32) < 0) = False := eq_false (by decide)
      by_cases hv : aT (x >>> (7 &&& 31)) 5 = 0
      · rw [if_pos hv] at ec
        rw [ec] at e1 g15
        simp only [e84_19, e84_21, e84_22, e84_98, e84_100, e84_101, e84_146, e84_148, e84_150, e84_199, e84_200, e84_202, e84_203, e84_204, e84_207, e84_256, e84_257, e84_259, e84_260, e84_262, e84_263, e84_265, e84_266, e84_268, e84_269, e84_270, e84_273, e84_276, e84_277, e84_280, e84_282, e84_283, e84_284, e84_285, e84_287, e84_288, e84_291, e84_293, e84_296, e84_297, e84_300, e84_301, q5, show 5 ≤ so by omega, if_true, w5, h2, w6, h3, not_true_eq_false, not_false_eq_true, if_false, y2, yv, q_bs, q_tl, q_cn, z2, hz, zv.trans (eq_true hv), z15, cx15, show (19 ≤ 15) = False from eq_false (by decide), or_self, hd.2.2.2.1, g15, e1, or_true]
      · rw [if_neg hv] at ec
        rw [ec] at e1 g15
        simp only [e84_19, e84_21, e84_22, e84_98, e84_100, e84_101, e84_146, e84_148, e84_150, e84_199, e84_200, e84_202, e84_203, e84_204, e84_207, e84_256, e84_257, e84_259, e84_260, e84_262, e84_263, e84_265, e84_266, e84_268, e84_269, e84_270, e84_273, e84_276, e84_277, e84_280, e84_282, e84_283, e84_284, e84_285, e84_287, e84_288, e84_291, e84_293, e84_296, e84_297, e84_300, e84_301, q5, show 5 ≤ so by omega, if_true, w5, h2, w6, h3, not_true_eq_false, not_false_eq_true, if_false, y2, yv, q_bs, q_tl, q_cn, z2, hz, zv, hv, z15, cx15, show (19 ≤ 15) = False from eq_false (by decide), or_self, hd.2.2.2.1, g15, e1, or_true]
end LWD
