/-! the rest of the council -/
def sC (k _ : Nat) : Prop := k = 4 ∨ k = 5 ∨ (19 ≤ k ∧ k ≤ 26)
theorem cR_fr {H H' : kH} {V : kV} (h : kFr sC H H') (hR : cR H V) : cR H' V := by
  have e : ∀ k j, ¬ sC k j → hI H' k j = hI H k j := fun k j z => (h k j z).1
  obtain ⟨a1, a2, a3, a4, a5, a6, a7, a8, a9, a10, a11, a12⟩ := hR
  unfold sC at e
  refine ⟨by rw [e _ _ (by omega)]; exact a1, fun j hj => by rw [e _ _ (by omega)]; exact a2 j hj, fun j hj => by rw [e _ _ (by omega)]; exact a3 j hj, fun j hj => by rw [e _ _ (by omega)]; exact a4 j hj, fun j hj => by rw [e _ _ (by omega)]; exact a5 j hj, by rw [e _ _ (by omega)]; exact a6, by rw [e _ _ (by omega)]; exact a7, by rw [e _ _ (by omega)]; exact a8, by rw [e _ _ (by omega)]; exact a9, by rw [e _ _ (by omega)]; exact a10, fun j hj => by rw [e _ _ (by omega)]; exact a11 j hj, fun h0 s hs => by rw [e _ _ (by omega)]; exact a12 h0 s hs⟩
section KCN
variable {H : kH} {V : kV}
theorem c_draughtAt (hR : cR H V) : ev 11 0 [.ref 1] [] H = some (some (.int (vd V)), H) := by simp only [e11_0, e11_1, e11_4, cR_d hR]
theorem c_held (hR : cR H V) : ev 15 0 [.ref 1] [] H = some (some (.int (nI (vh V))), H) := by simp only [e15_0, e15_1, e15_4, cR_h hR]
theorem c_hourNumber (hR : cR H V) : ev 16 0 [.ref 1] [] H = some (some (.int (vt V)), H) := by simp only [e16_0, e16_1, e16_4, cR_t hR]
theorem c_toldHours (hR : cR H V) : ev 17 0 [.ref 1] [] H = some (some (.int (nI (vb V))), H) := by simp only [e17_0, e17_1, e17_4, cR_b hR]
theorem c_peppered (hR : cR H V) (hV : vOK V) : ev 13 0 [.ref 1] [] H = some (some (.int (vp V)), H) := by
  simp only [e13_0, e13_1, e13_4, cR_p hR, if_pos hV.2.2.2.2.1]
theorem c_reignsAll (hR : cR H V) (hV : vOK V) : ev 10 0 [.ref 1] [] H = some (some (.int (bx_sum (vr V) (vn V))), H) := by
  simp only [e10_0, e10_1, e10_4, e10_5, e10_8, e10_11, hR.1, c_sum (show shp 9 = (1, 5) from rfl) (by decide) (vr V) H hV.2.1 (fun j hj => cR_r hR hj), q_bs, q_tl, q_cn]
theorem c_tenthsNow (hR : cR H V) (hV : vOK V) {j : Nat} (hj : j < vn V) : ev 18 0 [.ref 1, .int (nI j)] [] H = some (some (.int (nI (qtn V j (vt V) (vh V) (vd V)))), H) := by
  simp only [e18_0, e18_1, e18_2, e18_3, e18_6, e18_7, e18_10, e18_11, e18_14, e18_17, cR_t hR, cR_h hR, cR_d hR, c_tenthsIn hR hV hj hV.2.2.2.2.2.1, q_bs, q_tl, q_cn]
/-- who can sneeze, as bits -/
def qA (V : kV) : Nat → Nat
  | 0 => 0
  | j + 1 => if 0 < qtn V j (vt V) (vh V) (vd V) then qA V j ||| (1 <<< j) else qA V j
theorem qA_bit (V : kV) : ∀ n i, (qA V n).testBit i = (decide (i < n) && decide (0 < qtn V i (vt V) (vh V) (vd V)))
  | 0, i => by simp [qA]
  | n + 1, i => by
    have ih := qA_bit V n i
    unfold qA
    split
    · rename_i h
      rw [Nat.testBit_or, ih, Nat.one_shiftLeft, Nat.testBit_two_pow]
      by_cases e : n = i
      · subst e
        simp [h]
      · by_cases e2 : i < n
        · simp [e, e2, show i < n + 1 by omega]
        · simp [e, e2, show ¬ i < n + 1 by omega]
    · rename_i h
      rw [ih]
      by_cases e : n = i
      · subst e
        simp [h]
      · by_cases e2 : i < n
        · simp [e2, show i < n + 1 by omega]
        · simp [e2, show ¬ i < n + 1 by omega]
theorem qA_lt (V : kV) : ∀ n, qA V n < 2 ^ n
  | 0 => by simp [qA]
  | n + 1 => by
    have ih := qA_lt V n
    have h2 : 2 ^ n < 2 ^ (n + 1) := by rw [Nat.pow_succ]; omega
    unfold qA
    split
    · refine Nat.or_lt_two_pow (by omega) ?_
      rw [Nat.one_shiftLeft]
      exact h2
    · omega
theorem q_shl1 : ∀ j, j < 31 → (1 : Int32) <<< (nI j &&& 31) = nI (1 <<< j) := by decide +kernel
theorem l_canSneeze (hR : cR H V) (hV : vOK V) (x : Int32) : ∀ i j, j + i = vn V → ev 20 4 [.ref 1, .int x, .int (nI (qA V j)), .int (nI j)] [] H = ev 20 32 [.ref 1, .int x, .int (nI (qA V (vn V))), .int (nI (vn V))] [] H := by
  have h5 := hV.2.1
  intro i
  induction i with
  | zero =>
    intro j hj
    have : j = vn V := by omega
    subst this
    rw [e20_4]
    simp only [e20_5, e20_6, e20_9, hR.1, Std.le_refl, if_true]
  | succ i ih =>
    intro j hj
    refine Eq.trans ?_ (ih (j + 1) (by omega))
    rw [e20_4]
    have hq := qT_le (vk V j) (vo V j) (vp V) (nI j = vd V) (qEvb (vt V) = true) ((vh V).testBit 3 = true)
    have hq : qtn V j (vt V) (vh V) (vd V) ≤ 9 := hq
    by_cases hp : 0 < qtn V j (vt V) (vh V) (vd V)
    · simp only [e20_0, e20_1, e20_2, e20_3, e20_5, e20_6, e20_9, e20_12, e20_13, e20_14, e20_17, e20_20, e20_21, e20_22, e20_23, e20_24, e20_25, e20_26, e20_29, e20_32, e20_33, e20_34, e20_35, e20_36, e20_37, e20_40, e20_41, e20_44, e20_45, hR.1, q_le (show vn V < 2147483648 by omega) (show j < 2147483648 by omega), show ¬ vn V ≤ j by omega, if_false, c_tenthsNow hR hV (show j < vn V by omega), q_bs, q_tl, q_cn, show (0 : Int32) = nI 0 from rfl, q_le (show qtn V j (vt V) (vh V) (vd V) < 2147483648 by omega) (show 0 < 2147483648 by decide), show ¬ qtn V j (vt V) (vh V) (vd V) ≤ 0 by omega, q_shl1 j (by omega), q_or, nI_1, qA, hp, if_true]
    · simp only [e20_0, e20_1, e20_2, e20_3, e20_5, e20_6, e20_9, e20_12, e20_13, e20_14, e20_17, e20_20, e20_21, e20_22, e20_23, e20_24, e20_25, e20_26, e20_29, e20_32, e20_33, e20_34, e20_35, e20_36, e20_37, e20_40, e20_41, e20_44, e20_45, hR.1, q_le (show vn V < 2147483648 by omega) (show j < 2147483648 by omega), show ¬ vn V ≤ j by omega, if_false, c_tenthsNow hR hV (show j < vn V by omega), q_bs, q_tl, q_cn, show (0 : Int32) = nI 0 from rfl, q_le (show qtn V j (vt V) (vh V) (vd V) < 2147483648 by omega) (show 0 < 2147483648 by decide), show qtn V j (vt V) (vh V) (vd V) ≤ 0 by omega, nI_1, qA, hp, if_true]
theorem c_canSneeze (hR : cR H V) (hV : vOK V) (x : Int32) : ev 20 0 [.ref 1, .int x, .null, .null] [] H = some (some (.int (if x &&& (nI (qA V (vn V)) ^^^ (-1)) = 0 then 1 else 0)), H) := by
  simp only [e20_0, e20_1, e20_2, e20_3]
  have h0 := l_canSneeze hR hV x (vn V) 0 (by omega)
  simp only [qA] at h0
  rw [show (0 : Int32) = nI 0 from rfl, h0]
  simp only [e20_32, e20_33, e20_34, e20_35, e20_36, e20_37, e20_40, e20_41, e20_44, e20_45, show nI 0 = (0 : Int32) from rfl]
  by_cases h : x &&& (nI (qA V (vn V)) ^^^ (-1)) = 0
  · simp only [h, not_true_eq_false, if_false, or_true, if_true]
  · simp only [h, not_false_eq_true, if_false, true_or, if_true]
theorem c_kingOf (hR : cR H V) (h0 : 0 < vn V) {s : Nat} (hs : s < 32) : ev 21 0 [.ref 1, .int (nI s)] [] H = some (some (.int (qK (vk V) (vn V) s)), H) := by
  simp only [e21_0, e21_1, e21_4, e21_5, e21_6, e21_9, e21_10, e21_13, e21_14, e21_17, e21_18, e21_19, e21_22, e21_23, q_lt0 (show s < 2147483648 by omega), if_false, show (32 : Int32) = nI 32 from rfl, q_le (show 32 < 2147483648 by decide) (show s < 2147483648 by omega), show ¬ 32 ≤ s by omega, q_cl (show s < 2147483648 by omega), or_false, cR_K hR hs h0]
end KCN
