/-! what every call keeps -/
theorem sOK_now {S : kS} {V : kV} (h : sOK S) (hV : vOK V) (hn : vn V = vn (sV S)) (hk : vk V = vk (sV S)) : sOK (ssV S V) := by
  obtain ⟨h1, h2, h3, h4⟩ := h
  refine ⟨hV, h2, fun z => ?_, h4⟩
  obtain ⟨k1, k2, k3, k4⟩ := h3 z
  exact ⟨k1, k2.trans hn.symm, k3.trans hk.symm, by show 0 < vn V; omega⟩
theorem ok_letter {S : kS} (h : sOK S) (c : Int32) : sOK (tLetter S c) := by
  unfold tLetter
  rcases q_case c (show 127 < 2147483648 by decide) with hc | hc | ⟨j, hj, rfl⟩
  · rw [qSel_lo hc]; exact h
  · rw [qSel_hi hc]; exact h
  · rw [qSel_in hj (by decide)]
    split
    · exact h
    · split
      · exact h
      · exact h
theorem sr_letter (S : kS) (c : Int32) : sr (tLetter S c) = sr S := by
  unfold tLetter
  rcases q_case c (show 127 < 2147483648 by decide) with hc | hc | ⟨j, hj, rfl⟩
  · rw [qSel_lo hc]
  · rw [qSel_hi hc]
  · rw [qSel_in hj (by decide)]
    split
    · rfl
    · split
      · rfl
      · rfl
theorem ok_council {S : kS} (h : sOK S) (h20 : sn S ≤ 20) (hr : sr S < 100000) : sOK (tCouncil S) := by
  unfold tCouncil
  by_cases h0 : qCS (sn S) (sg S) = 0
  · rw [if_pos h0]; exact h
  · rw [if_neg h0]
    obtain ⟨hn, h3, h5, hB⟩ := qCS_in h20 h0
    refine ⟨⟨Or.inr h3, h5, fun j hj => ?_, Or.inl rfl, Or.inl rfl, ?_, ?_, fun j hj => absurd hj (Nat.not_lt_zero j)⟩, Nat.zero_le _, fun z => absurd (show (0 : Nat) = 1 from z) (by decide), ?_⟩
    · have hj : j < qCS (sn S) (sg S) := hj
      have b1 := qB_1 (hB (4 * j + 1) (by omega)) (by omega)
      have b2 := qB_2 (hB (4 * j + 2) (by omega)) (by omega)
      refine ⟨qKd_lt _, ?_, ?_⟩
      · show sg S (4 * j + 1) - 48 ≤ 9
        omega
      · show sg S (4 * j + 2) - 48 < 6
        omega
    · show (0 : Nat) < 64
      decide
    · show (0 : Nat) ≤ 5
      decide
    · show sr S + 1 ≤ 100000
      omega
theorem sr_council (S : kS) : sr (tCouncil S) ≤ sr S + 1 := by
  unfold tCouncil
  split
  · exact Nat.le_succ _
  · exact Nat.le_refl _
theorem vOK_no {V : kV} (h : vOK V) {c v : Nat} (hv : v ≤ 9) : vOK (vsO V c v) := by
  obtain ⟨a1, a2, a3, a4, a5, a6, a7, a8⟩ := h
  refine ⟨a1, a2, fun j hj => ⟨(a3 j hj).1, ?_, (a3 j hj).2.2⟩, a4, a5, a6, a7, a8⟩
  show fu (vo V) c v j ≤ 9
  unfold fu
  split
  · exact hv
  · exact (a3 j hj).2.1
theorem vOK_la {V : kV} (h : vOK V) {c v : Nat} (hv : v < 6) : vOK (vsL V c v) := by
  obtain ⟨a1, a2, a3, a4, a5, a6, a7, a8⟩ := h
  refine ⟨a1, a2, fun j hj => ⟨(a3 j hj).1, (a3 j hj).2.1, ?_⟩, a4, a5, a6, a7, a8⟩
  show fu (vl V) c v j < 6
  unfold fu
  split
  · exact hv
  · exact (a3 j hj).2.2
theorem ok_nose {S : kS} (h : sOK S) (c v : Int32) : sOK (ssV S (tNose (sV S) c v)) := by
  have h5 := h.1.2.1
  unfold tNose
  rcases q_case c (show vn (sV S) < 2147483648 by omega) with hc | hc | ⟨i, hi, rfl⟩
  · rw [qSel_lo hc]; exact h
  · rw [qSel_hi hc]; exact h
  · rw [qSel_in hi (by omega)]
    rcases q_case v (show 10 < 2147483648 by decide) with hw | hw | ⟨k, hk, rfl⟩
    · rw [qSel_lo hw]; exact h
    · rw [qSel_hi hw]; exact h
    · rw [qSel_in hk (by decide)]
      exact sOK_now h (vOK_no h.1 (by omega)) rfl rfl
theorem ok_bribe {S : kS} (h : sOK S) (c v : Int32) : sOK (ssV S (tBribe (sV S) c v)) := by
  have h5 := h.1.2.1
  unfold tBribe
  rcases q_case c (show vn (sV S) < 2147483648 by omega) with hc | hc | ⟨i, hi, rfl⟩
  · rw [qSel_lo hc]; exact h
  · rw [qSel_hi hc]; exact h
  · rw [qSel_in hi (by omega)]
    rcases q_case v (show 6 < 2147483648 by decide) with hw | hw | ⟨k, hk, rfl⟩
    · rw [qSel_lo hw]; exact h
    · rw [qSel_hi hw]; exact h
    · rw [qSel_in hk (by decide)]
      exact sOK_now h (vOK_la h.1 (by omega)) rfl rfl
theorem vOK_dr {V : kV} (h : vOK V) {v : Int32} (hv : v = -1 ∨ ∃ j, j < vn V ∧ v = nI j) : vOK (vsD V v) := by
  obtain ⟨a1, a2, a3, a4, a5, a6, a7, a8⟩ := h
  exact ⟨a1, a2, a3, hv, a5, a6, a7, a8⟩
theorem ok_draught {S : kS} (h : sOK S) (c : Int32) : sOK (ssV S (tDraught (sV S) c)) := by
  have h5 := h.1.2.1
  unfold tDraught
  by_cases hm : c = -1
  · rw [if_pos hm]
    split
    · exact h
    · exact sOK_now h (vOK_dr h.1 (Or.inl hm)) rfl rfl
  · rw [if_neg hm]
    rcases q_case c (show vn (sV S) < 2147483648 by omega) with hc | hc | ⟨i, hi, rfl⟩
    · rw [qSel_lo hc]; exact h
    · rw [qSel_hi hc]; exact h
    · rw [qSel_in hi (by omega)]
      exact sOK_now h (vOK_dr h.1 (Or.inr ⟨i, hi, rfl⟩)) rfl rfl
theorem ok_pepper {S : kS} (h : sOK S) {b : Int32} (hb : b = 0 ∨ b = 1) : sOK (ssV S (tPepper (sV S) b)) := by
  unfold tPepper
  split
  · exact h
  · obtain ⟨a1, a2, a3, a4, a5, a6, a7, a8⟩ := h.1
    exact sOK_now h ⟨a1, a2, a3, a4, hb, a6, a7, a8⟩ rfl rfl
theorem ok_hour {S : kS} (h : sOK S) (x : Int32) : sOK (ssV S (tHour (sV S) x)) := by
  have h5 := h.1.2.1
  unfold tHour
  rcases q_case x (show 32 < 2147483648 by decide) with hc | hc | ⟨s, hs, rfl⟩
  · rw [qSel_lo hc]; exact h
  · rw [qSel_hi hc]; exact h
  · rw [qSel_in hs (by decide)]
    split
    · split
      · exact h
      · rcases qK_in (vk (sV S)) (vn (sV S)) s (by omega) with e | ⟨c, hc, e⟩
        · rw [if_pos e]
          obtain ⟨a1, a2, a3, a4, a5, a6, a7, a8⟩ := h.1
          exact sOK_now h ⟨a1, a2, a3, a4, a5, a6, a7, a8⟩ rfl rfl
        · rw [e, if_neg (by rw [q_m1ne (by omega)]; exact id), q_cl (by omega)]
          obtain ⟨a1, a2, a3, a4, a5, a6, a7, a8⟩ := h.1
          exact sOK_now h ⟨a1, a2, a3, a4, a5, qS_lt _ a6 _ (a3 c hc).2.2, a7, a8⟩ rfl rfl
    · exact h
