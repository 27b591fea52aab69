/-! the rest of the council -/
def sC (k _ : Nat) : Prop := k = 4 ∨ k = 5 ∨ (19 ≤ k ∧ k ≤ 26)
theorem cR_fr {H H' : kH} {V : kV} (h : kFr sC H H') (hR : cR H V) : cR H' V := by
  have e : ∀ k j, ¬ sC k j → hI H' k j = hI H k j := fun k j z => (h k j z).1
  obtain ⟨a1, a2, a3, a4, a5, a6, a7, a8, a9, a10, a11, a12⟩ := hR
  unfold sC at e
  refine ⟨by rw [e _ _ (by omega)]; exact a1, fun j hj => by rw [e _ _ (by omega)]; exact a2 j hj, fun j hj => by rw [e _ _ (by omega)]; exact a3 j hj, fun j hj => by rw [e _ _ (by omega)]; exact a4 j hj, fun j hj => by rw [e _ _ (by omega)]; exact a5 j hj, by rw [e _ _ (by omega)]; exact a6, by rw [e _ _ (by omega)]; exact a7, by rw [e _ _ (by omega)]; exact a8, by rw [e _ _ (by omega)]; exact a9, by rw [e _ _ (by omega)]; exact a10, fun j hj => by rw [e _ _ (by omega)]; exact a11 j hj, fun h0 s hs => by rw [e _ _ (by omega)]; exact a12 h0 s hs⟩
section KCN
variable {H : kH} {V : kV}
theorem c_draughtAt (hR : cR H V) : ev 12 0 [.ref 1] [] H = some (some (.int (vd V)), H) := by simp only [e12_0, e12_1, e12_4, cR_d hR]
theorem c_held (hR : cR H V) : ev 16 0 [.ref 1] [] H = some (some (.int (nI (vh V))), H) := by simp only [e16_0, e16_1, e16_4, cR_h hR]
theorem c_hourNumber (hR : cR H V) : ev 17 0 [.ref 1] [] H = some (some (.int (vt V)), H) := by simp only [e17_0, e17_1, e17_4, cR_t hR]
theorem c_toldHours (hR : cR H V) : ev 18 0 [.ref 1] [] H = some (some (.int (nI (vb V))), H) := by simp only [e18_0, e18_1, e18_4, cR_b hR]
theorem c_peppered (hR : cR H V) (hV : vOK V) : ev 14 0 [.ref 1] [] H = some (some (.int (vp V)), H) := by
  simp only [e14_0, e14_1, e14_4, cR_p hR, if_pos hV.2.2.2.2.1]
theorem c_toldAt (hR : cR H V) (hV : vOK V) {j : Nat} (hj : j < vb V) : ev 19 0 [.ref 1, .int (nI j)] [] H = some (some (.int (vB V j)), H) := by
  have := hV.2.2.2.2.2.2.1
  simp only [e19_0, e19_1, e19_4, e19_5, e19_8, c_at (show shp 11 = (1, 5) from rfl) (by decide), q_bs, q_tl, q_cn, pAt_in (show j < 5 by omega) (show 5 < 2147483648 by decide), cR_B hR hj]
theorem c_reignsAll (hR : cR H V) (hV : vOK V) : ev 11 0 [.ref 1] [] H = some (some (.int (bx_sum (vr V) (vn V))), H) := by
  simp only [e11_0, e11_1, e11_4, e11_5, e11_8, e11_11, hR.1, c_sum (show shp 9 = (1, 5) from rfl) (by decide) (vr V) H hV.2.1 (fun j hj => cR_r hR hj), q_bs, q_tl, q_cn]
theorem c_tenthsNow (hR : cR H V) (hV : vOK V) {j : Nat} (hj : j < vn V) : ev 22 0 [.ref 1, .int (nI j)] [] H = some (some (.int (nI (qtn V j (vt V) (vh V) (vd V)))), H) := by
  simp only [e22_0, e22_1, e22_2, e22_3, e22_6, e22_7, e22_10, e22_11, e22_14, e22_17, cR_t hR, cR_h hR, cR_d hR, c_tenthsIn hR hV hj hV.2.2.2.2.2.1, q_bs, q_tl, q_cn]
/-- who can sneeze, as bits -/
def qA (V : kV) : Nat → Nat
  | 0 => 0
  | j + 1 => if 0 < qtn V j (vt V) (vh V) (vd V) then qA V j ||| (1 <<< j) else qA V j
theorem qA_bit (V : kV) : ∀ n i, (qA V n).testBit i = (decide (i < n) && decide (0 < qtn V i (vt V) (vh V) (vd V)))
  | 0, i => by simp [qA]
  | n + 1, i => by
    have ih := qA_bit V n i
    unfold qA
    split
    · rename_i h
      rw [Nat.testBit_or, ih, Nat.one_shiftLeft, Nat.testBit_two_pow]
      by_cases e : n = i
      · subst e
        simp [h]
      · by_cases e2 : i < n
        · simp [e, e2, show i < n + 1 by omega]
        · simp [e, e2, show ¬ i < n + 1 by omega]
    · rename_i h
      rw [ih]
      by_cases e : n = i
      · subst e
        simp [h]
      · by_cases e2 : i < n
        · simp [e2, show i < n + 1 by omega]
        · simp [e2, show ¬ i < n + 1 by omega]
theorem qA_lt (V : kV) : ∀ n, qA V n < 2 ^ n
  | 0 => by simp [qA]
  | n + 1 => by
    have ih := qA_lt V n
    have h2 : 2 ^ n < 2 ^ (n + 1) := by rw [Nat.pow_succ]; omega
    unfold qA
    split
    · refine Nat.or_lt_two_pow (by omega) ?_
      rw [Nat.one_shiftLeft]
      exact h2
    · omega
theorem q_shl1 : ∀ j, j < 31 → (1 : Int32) <<< (nI j &&& 31) = nI (1 <<< j) := by decide +kernel
theorem l_canSneeze (hR : cR H V) (hV : vOK V) (x : Int32) : ∀ i j, j + i = vn V → ev 24 4 [.ref 1, .int x, .int (nI (qA V j)), .int (nI j)] [] H = ev 24 32 [.ref 1, .int x, .int (nI (qA V (vn V))), .int (nI (vn V))] [] H := by
  have h5 := hV.2.1
  intro i
  induction i with
  | zero =>
    intro j hj
    have : j = vn V := by omega
    subst this
    rw [e24_4]
    simp only [e24_5, e24_6, e24_9, hR.1, Std.le_refl, if_true]
  | succ i ih =>
    intro j hj
    refine Eq.trans ?_ (ih (j + 1) (by omega))
    rw [e24_4]
    have hq := qT_le (vk V j) (vo V j) (vp V) (nI j = vd V) (qEvb (vt V) = true) ((vh V).testBit 3 = true)
    have hq : qtn V j (vt V) (vh V) (vd V) ≤ 9 := hq
    by_cases hp : 0 < qtn V j (vt V) (vh V) (vd V)
    · simp only [e24_0, e24_1, e24_2, e24_3, e24_5, e24_6, e24_9, e24_12, e24_13, e24_14, e24_17, e24_20, e24_21, e24_22, e24_23, e24_24, e24_25, e24_26, e24_29, e24_32, e24_33, e24_34, e24_35, e24_36, e24_37, e24_40, e24_41, e24_44, e24_45, hR.1, q_le (show vn V < 2147483648 by omega) (show j < 2147483648 by omega), show ¬ vn V ≤ j by omega, if_false, c_tenthsNow hR hV (show j < vn V by omega), q_bs, q_tl, q_cn, show (0 : Int32) = nI 0 from rfl, q_le (show qtn V j (vt V) (vh V) (vd V) < 2147483648 by omega) (show 0 < 2147483648 by decide), show ¬ qtn V j (vt V) (vh V) (vd V) ≤ 0 by omega, q_shl1 j (by omega), q_or, nI_1, qA, hp, if_true]
    · simp only [e24_0, e24_1, e24_2, e24_3, e24_5, e24_6, e24_9, e24_12, e24_13, e24_14, e24_17, e24_20, e24_21, e24_22, e24_23, e24_24, e24_25, e24_26, e24_29, e24_32, e24_33, e24_34, e24_35, e24_36, e24_37, e24_40, e24_41, e24_44, e24_45, hR.1, q_le (show vn V < 2147483648 by omega) (show j < 2147483648 by omega), show ¬ vn V ≤ j by omega, if_false, c_tenthsNow hR hV (show j < vn V by omega), q_bs, q_tl, q_cn, show (0 : Int32) = nI 0 from rfl, q_le (show qtn V j (vt V) (vh V) (vd V) < 2147483648 by omega) (show 0 < 2147483648 by decide), show qtn V j (vt V) (vh V) (vd V) ≤ 0 by omega, nI_1, qA, hp, if_true]
theorem c_canSneeze (hR : cR H V) (hV : vOK V) (x : Int32) : ev 24 0 [.ref 1, .int x, .null, .null] [] H = some (some (.int (if x &&& (nI (qA V (vn V)) ^^^ (-1)) = 0 then 1 else 0)), H) := by
  simp only [e24_0, e24_1, e24_2, e24_3]
  have h0 := l_canSneeze hR hV x (vn V) 0 (by omega)
  simp only [qA] at h0
  rw [show (0 : Int32) = nI 0 from rfl, h0]
  simp only [e24_32, e24_33, e24_34, e24_35, e24_36, e24_37, e24_40, e24_41, e24_44, e24_45, show nI 0 = (0 : Int32) from rfl]
  by_cases h : x &&& (nI (qA V (vn V)) ^^^ (-1)) = 0
  · simp only [h, not_true_eq_false, if_false, or_true, if_true]
  · simp only [h, not_false_eq_true, if_false, true_or, if_true]
theorem c_kingOf (hR : cR H V) (h0 : 0 < vn V) {s : Nat} (hs : s < 32) : ev 25 0 [.ref 1, .int (nI s)] [] H = some (some (.int (qK (vk V) (vn V) s)), H) := by
  simp only [e25_0, e25_1, e25_4, e25_5, e25_6, e25_9, e25_10, e25_13, e25_14, e25_17, e25_18, e25_19, e25_22, e25_23, q_lt0 (show s < 2147483648 by omega), if_false, show (32 : Int32) = nI 32 from rfl, q_le (show 32 < 2147483648 by decide) (show s < 2147483648 by omega), show ¬ 32 ≤ s by omega, q_cl (show s < 2147483648 by omega), or_false, cR_K hR hs h0]
end KCN
