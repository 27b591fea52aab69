/-! how likely, what holds -/
def rT (V : kV) (num dr : Int32) (h p : Nat) : Nat := qr (fun q => qtn V q num h dr) (fun q => 10 - qtn V q num h dr) (vk V) (vn V) p (2 ^ vn V)
section KLK
variable {V : kV}
theorem c_kingWeight (hV : vOK V) (h0 : 0 < vn V) {H : kH} (hq : cR H V) {c dr : Int32} {p : Nat} (hp : p < 6) (hc : c + 1 = nI p) : ∃ H', ev 35 0 [.ref 4, .int c, .int dr] [] H = some (some (.long (lN (rT V (vt V) dr (vh V) p))), H') ∧ kFr (fun k _ => 19 ≤ k ∧ k ≤ 22) H H' := by
  obtain ⟨H1, e1, f1, g1⟩ := c_weighT hV hV.2.2.2.2.2.1 (vt V) dr hq
  have hR1 := cR_fr (f1.mono (fun k _ z => by unfold sC; omega)) hq
  obtain ⟨H2, e2, f2, g2⟩ := c_crown (t := fun q => qtn V q (vt V) (vh V) dr) (u := fun q => 10 - qtn V q (vt V) (vh V) dr) (show shp 22 = (2, 6) from rfl) (Or.inl rfl) hV.2.1 h0 hR1 g1
  refine ⟨H2, ?_, (f1.mono (fun k _ z => by omega)).tr (f2.mono (fun k _ z => by omega))⟩
  simp only [e35_0, e35_1, e35_2, e35_5, e35_8, e35_9, e35_12, e35_15, e35_16, e35_19, e35_20, e35_21, e35_24, e35_27, e35_28, e35_31, e35_32, e35_33, e35_34, e35_37, c_hourNumber hq, c_held hq, e1, e2, q_bs, q_tl, q_tn, q_cn, q_nn, hc, c_atL (show shp 22 = (2, 6) from rfl) (by decide), pAtL_in hp (show 6 < 2147483648 by decide), g2 p hp]
  rfl
theorem q_cmp0 {a : Nat} (h : a < 2 ^ 63) : (lg_cmp (lN a) 0 = 0) = (a = 0) := by
  unfold lg_cmp
  rw [show (0 : Int64) = lN 0 from rfl]
  simp only [gt_iff_lt, q_ltL (show 0 < 2 ^ 63 by decide) h, q_eqL h (show 0 < 2 ^ 63 by decide)]
  apply propext
  by_cases h0 : a = 0
  · subst h0; simp
  · simp [h0, show 0 < a by omega]
end KLK
