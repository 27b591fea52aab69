/-! lowest terms -/
theorem l_gcd1 (l0 l2 : Int64) {a b : Nat} (ha : a < 2 ^ 63) (hb : b < 2 ^ 63) (h0 : b ≠ 0) {t : Nat} (ht : t < 1000) (v9 : Value) (H : kH) : ev 69 9 [.long l0, .null, .long l2, .null, .long (lN a), .null, .long (lN b), .null, .int (nI t), v9, .null] [] H = ev 69 9 [.long l0, .null, .long l2, .null, .long (lN b), .null, .long (lN (a % b)), .null, .int (nI (t + 1)), .long (lN (a % b)), .null] [] H := by
  have hz : ¬ lN b = 0 := by
    rw [show (0 : Int64) = lN 0 from rfl, q_eqL hb (by decide)]
    exact h0
  rw [e69_9]
  simp only [e69_11, e69_14, e69_17, e69_19, e69_20, e69_21, e69_24, e69_26, e69_28, e69_29, e69_31, e69_33, e69_35, e69_37, e69_39, e69_42, show (1000 : Int32) = nI 1000 from rfl, q_le (show 1000 < 2147483648 by decide) (show t < 2147483648 by omega), show ¬ 1000 ≤ t by omega, if_false, q_cmp0 hb, h0, hz, pk_lRem ha (Nat.pos_of_ne_zero h0) hb, nI_1]
theorem l_gcd0 (l0 l2 : Int64) (a : Nat) {t : Nat} (ht : t ≤ 1000) (v9 : Value) (H : kH) : ev 69 9 [.long l0, .null, .long l2, .null, .long (lN a), .null, .long (lN 0), .null, .int (nI t), v9, .null] [] H = some (some (.long (lN a)), H) := by
  rw [e69_9]
  by_cases h : t = 1000
  · simp only [e69_11, e69_14, e69_17, e69_19, e69_20, e69_45, e69_47, show (1000 : Int32) = nI 1000 from rfl, h, Std.le_refl, if_true]
  · simp only [e69_11, e69_14, e69_17, e69_19, e69_20, e69_21, e69_45, e69_47, show (1000 : Int32) = nI 1000 from rfl, q_le (show 1000 < 2147483648 by decide) (show t < 2147483648 by omega), show ¬ 1000 ≤ t by omega, if_false, q_cmp0 (show 0 < 2 ^ 63 by decide), if_true]
theorem l_gcd (l0 l2 : Int64) : ∀ m a b t v9 H, a < 2 ^ 63 → b < 2 ^ 63 → b < 2 ^ m → t + 2 * m ≤ 1000 → ev 69 9 [.long l0, .null, .long l2, .null, .long (lN a), .null, .long (lN b), .null, .int (nI t), v9, .null] [] H = some (some (.long (lN (Nat.gcd a b))), H) := by
  intro m
  induction m with
  | zero =>
    intro a b t v9 H ha hb hm ht
    have : b = 0 := by omega
    subst this
    rw [l_gcd0 l0 l2 a (by omega), Nat.gcd_zero_right]
  | succ m ih =>
    intro a b t v9 H ha hb hm ht
    by_cases h0 : b = 0
    · subst h0
      rw [l_gcd0 l0 l2 a (by omega), Nat.gcd_zero_right]
    · rw [l_gcd1 l0 l2 ha hb h0 (by omega)]
      have hr : a % b < b := Nat.mod_lt _ (Nat.pos_of_ne_zero h0)
      have e1 : Nat.gcd a b = Nat.gcd b (a % b) := by rw [Nat.gcd_comm a b, Nat.gcd_rec b a, Nat.gcd_comm]
      rw [e1]
      by_cases h1 : a % b = 0
      · rw [h1, l_gcd0 l0 l2 b (by omega), Nat.gcd_zero_right]
      · have hr2 : b % (a % b) < a % b := Nat.mod_lt _ (Nat.pos_of_ne_zero h1)
        have hd := Nat.div_add_mod b (a % b)
        have hq : 1 ≤ b / (a % b) := (Nat.one_le_div_iff (Nat.pos_of_ne_zero h1)).2 (Nat.le_of_lt hr)
        have hq2 : (a % b) * 1 ≤ (a % b) * (b / (a % b)) := Nat.mul_le_mul_left _ hq
        have hp : 2 ^ (m + 1) = 2 ^ m + 2 ^ m := by rw [Nat.pow_succ]; omega
        rw [l_gcd1 l0 l2 hb (by omega) h1 (by omega), ih (a % b) (b % (a % b)) (t + 2) _ H (by omega) (by omega) (by omega) (by omega)]
        have e2 : Nat.gcd b (a % b) = Nat.gcd (a % b) (b % (a % b)) := by rw [Nat.gcd_comm b (a % b), Nat.gcd_rec (a % b) b, Nat.gcd_comm]
        rw [e2]
theorem c_gcd {a b : Nat} (ha : a < 2 ^ 63) (hb : b < 2 ^ 63) (H : kH) : ev 69 0 [.long (lN a), .null, .long (lN b), .null, .null, .null, .null, .null, .null, .null, .null] [] H = some (some (.long (lN (Nat.gcd a b))), H) := by
  simp only [e69_0, e69_1, e69_3, e69_4, e69_6, e69_7]
  exact l_gcd _ _ 63 a b 0 .null H ha hb hb (by decide)
/-- above, below in lowest terms -/
def qTerm (a b p : Nat) : Int64 := lN (if p = 0 then a / Nat.gcd a b else b / Nat.gcd a b)
theorem c_lowest {a b p : Nat} (ha : a < 2 ^ 63) (hb : b < 2 ^ 63) (h0 : 0 < b) (hp : p < 2) (H : kH) : ev 68 0 [.long (lN a), .null, .long (lN b), .null, .int (nI p), .null, .null, .null, .null] [] H = some (some (.long (qTerm a b p)), H) := by
  have hg : 0 < Nat.gcd a b := Nat.gcd_pos_of_pos_right a h0
  have hgl : Nat.gcd a b < 2 ^ 63 := Nat.lt_of_le_of_lt (Nat.gcd_le_right a h0) hb
  have hz : ¬ lN (Nat.gcd a b) = 0 := by
    rw [show (0 : Int64) = lN 0 from rfl, q_eqL hgl (by decide)]
    omega
  unfold qTerm
  rcases (show p = 0 ∨ p = 1 by omega) with rfl | rfl
  · simp only [e68_0, e68_1, e68_2, e68_5, e68_7, e68_9, e68_12, e68_13, e68_16, e68_17, e68_19, e68_21, e68_22, e68_23, e68_26, e68_28, e68_31, e68_33, e68_35, e68_36, c_gcd ha hb, q_bs, q_tl, q_cn, n00, not_true_eq_false, if_false, q_cmp0 hgl, show ¬ Nat.gcd a b = 0 by omega, not_false_eq_true, if_true, hz, pk_lDiv ha hg hgl]
  · simp only [e68_0, e68_1, e68_2, e68_5, e68_7, e68_9, e68_12, e68_13, e68_16, e68_17, e68_19, e68_21, e68_22, e68_23, e68_26, e68_28, e68_31, e68_33, e68_35, e68_36, c_gcd ha hb, q_bs, q_tl, q_cn, show (nI 1 = (0 : Int32)) = False from eq_false (by decide), not_true_eq_false, if_false, q_cmp0 hgl, show ¬ Nat.gcd a b = 0 by omega, not_false_eq_true, if_true, hz, pk_lDiv hb hg hgl, Nat.one_ne_zero]
/-! how likely one is king -/
def kw (V : kV) (c dr : Int32) : Nat := rT V (vt V) dr (vh V) (c + 1).toNatClampNeg
def fKing (V : kV) (c p : Int32) : Int64 := if c ≠ -1 ∧ (c < 0 ∨ nI (vn V) ≤ c) then -101 else qSel 2 p (-102) (fun p => if vn V = 0 then -103 else qTerm (kw V c (vd V)) (10 ^ vn V) p)
/-- the best of the places from j on -/
def qAr (f : Nat → Nat) : Nat → Nat → Int32 → Nat → Int32
  | 0, _, b, _ => b
  | i + 1, j, b, m => if m < f j then qAr f i (j + 1) (nI j) (f j) else qAr f i (j + 1) b m
def fWindow (V : kV) (c : Int32) : Int32 := qSel (vn V) c (-101) (fun c => qAr (fun d => kw V (nI c) (nI d)) (vn V) 0 (-1) (kw V (nI c) (-1)))
theorem wR_fr {P : Nat → Nat → Prop} {H H' : kH} (h : kFr P H H') (hp : ∀ j, ¬ P 4 j) (hw : wR H) : wR H' := by
  unfold wR
  rw [(h 4 6 (hp 6)).2.2, (h 4 7 (hp 7)).2.2]
  exact hw
theorem q_nseat {n : Nat} {c : Int32} (hn : n < 2147483648) : (c < 0 ∨ nI n ≤ c) ∨ ∃ j, j < n ∧ c = nI j := by
  rcases q_case c hn with h | h | h
  · exact Or.inl (Or.inl h)
  · exact Or.inl (Or.inr h)
  · exact Or.inr h
theorem q_m1ne {j : Nat} (h : j < 2147483648) : (nI j = (-1 : Int32)) = False := by
  refine eq_false (fun z => ?_)
  have := congrArg Int32.toInt z
  rw [nI_toInt h] at this
  have e : (-1 : Int32).toInt = -1 := rfl
  omega
theorem q_n0' {n : Nat} (hn : n < 2147483648) : (nI n = (0 : Int32)) = (n = 0) := by
  rw [show (0 : Int32) = nI 0 from rfl, q_eq hn (by decide)]
theorem q_clp1 {j : Nat} (h : j < 1000) : (nI j + 1).toNatClampNeg = j + 1 := by rw [nI_1, q_cl (by omega)]
theorem kw_lt {V : kV} (hV : vOK V) (c dr : Int32) : kw V c dr < 2 ^ 63 := Nat.lt_of_le_of_lt (rT_le hV _ _ _ _) (by decide)
theorem c_kw {V : kV} (hV : vOK V) (h0 : 0 < vn V) {H : kH} (hq : cR H V) {c dr : Int32} (hc : c = -1 ∨ ∃ j, j < vn V ∧ c = nI j) : ∃ H', ev 35 0 [.ref 4, .int c, .int dr] [] H = some (some (.long (lN (kw V c dr))), H') ∧ kFr (fun k _ => 19 ≤ k ∧ k ≤ 22) H H' := by
  have h5 := hV.2.1
  unfold kw
  rcases hc with rfl | ⟨j, hj, rfl⟩
  · exact c_kingWeight hV h0 hq (p := 0) (by decide) rfl
  · rw [q_clp1 (by omega)]
    exact c_kingWeight hV h0 hq (p := j + 1) (by omega) (nI_1 j)
section KTM
variable {H : kH} {S : kS}
theorem c_ten1 {V : kV} (hV : vOK V) (H : kH) : ev 67 0 [.int (nI (vn V)), .null, .null, .null] [] H = some (some (.long (lN (10 ^ vn V))), H) := c_tenTo (by have := hV.2.1; omega) H
theorem x_king (hq : CR H S) (ho : sOK S) (c p : Int32) : ∃ H1, ev 57 0 [.ref 0, .int c, .int p, .null, .null] [] H = some (some (.long (fKing (sV S) c p)), H1) ∧ CR H1 S ∧ kFr cC H H1 := by
  have hR := hq.1
  have hV := ho.1
  have h5 := hV.2.1
  unfold fKing
  by_cases hc : c ≠ -1 ∧ (c < 0 ∨ nI (vn (sV S)) ≤ c)
  · rw [if_pos hc]
    refine ⟨H, ?_, hq, kFr.rf⟩
    simp only [e57_0, e57_1, e57_2, e57_5, e57_6, e57_9, e57_10, e57_13, e57_16, e57_19, hc.1, if_false, c_seated0 hR hc.2, q_bs, q_tl, q_cn, not_true_eq_false]
  · rw [if_neg hc]
    have hc2 : c = -1 ∨ ∃ j, j < vn (sV S) ∧ c = nI j := by
      by_cases e : c = -1
      · exact Or.inl e
      · rcases q_nseat (n := vn (sV S)) (c := c) (by omega) with h | h
        · exact absurd ⟨e, h⟩ hc
        · exact Or.inr h
    have e20 : ev 57 0 [.ref 0, .int c, .int p, .null, .null] [] H = ev 57 20 [.ref 0, .int c, .int p, .null, .null] [] H := by
      rcases hc2 with rfl | ⟨j, hj, rfl⟩
      · simp only [e57_0, e57_1, e57_2, if_true]
      · simp only [e57_0, e57_1, e57_2, e57_5, e57_6, e57_9, e57_10, e57_13, e57_16, e57_19, q_m1ne (show j < 2147483648 by omega), if_false, c_seated_in hR hV hj, q_bs, q_tl, q_cn, t10, not_false_eq_true, if_true]
    rw [e20]
    rcases q_case p (show 2 < 2147483648 by decide) with hp | hp | ⟨p, hp, rfl⟩
    · rw [qSel_lo hp]
      refine ⟨H, ?_, hq, kFr.rf⟩
      simp only [e57_20, e57_21, e57_24, e57_25, e57_26, e57_29, e57_32, hp, if_true]
    · rw [qSel_hi hp]
      refine ⟨H, ?_, hq, kFr.rf⟩
      have hp1 : ¬ p ≤ 1 := by
        have := q_toInt_hi (show 2 < 2147483648 by decide) hp
        rw [Int32.le_iff_toInt_le]
        have e : (1 : Int32).toInt = 1 := rfl
        omega
      simp only [e57_20, e57_21, e57_24, e57_25, e57_26, e57_29, e57_32, q_nlt (show 2 < 2147483648 by decide) hp, hp1, if_false]
    · rw [qSel_in hp (by decide)]
      have e33 : ev 57 20 [.ref 0, .int c, .int (nI p), .null, .null] [] H = ev 57 33 [.ref 0, .int c, .int (nI p), .null, .null] [] H := by
        simp only [e57_20, e57_21, e57_24, e57_25, e57_26, q_lt0 (show p < 2147483648 by omega), if_false, show (1 : Int32) = nI 1 from rfl, q_le (show p < 2147483648 by omega) (show 1 < 2147483648 by decide), show p ≤ 1 by omega, if_true]
      rw [e33]
      by_cases h0 : vn (sV S) = 0
      · rw [if_pos h0]
        refine ⟨H, ?_, hq, kFr.rf⟩
        simp only [e57_33, e57_34, e57_37, e57_40, e57_43, e57_46, c_seats hR, q_bs, q_tl, q_cn, h0, n00, not_true_eq_false, if_false]
      · rw [if_neg h0]
        obtain ⟨H1, e1, f1⟩ := c_kw hV (by omega) hR hc2 (dr := vd (sV S))
        have hq1 : CR H1 S := CR_fr (f1.mono (fun k _ z => by unfold sC; omega)) (wR_fr f1 (fun j => by omega) hq.2.2.2.2.1) hq
        refine ⟨H1, ?_, hq1, f1.mono (fun k _ z => by unfold cC; omega)⟩
        simp only [e57_33, e57_34, e57_37, e57_40, e57_43, e57_46, e57_47, e57_48, e57_51, e57_52, e57_53, e57_56, e57_59, e57_62, e57_63, e57_64, e57_65, e57_68, e57_71, e57_74, e57_75, e57_78, c_seats hR, c_draughtAt hR, q_bs, q_tl, q_cn, q_n0' (show vn (sV S) < 2147483648 by omega), h0, not_false_eq_true, if_true, e1, c_seats hq1.1, c_ten1 hV, c_lowest (kw_lt hV c (vd (sV S))) (show 10 ^ vn (sV S) < 2 ^ 63 from Nat.lt_of_le_of_lt (pow10_le h5) (by decide)) (Nat.pow_pos (by decide)) hp]
/-! the best draught -/
theorem q_cmple {a b : Nat} (ha : a < 2 ^ 63) (hb : b < 2 ^ 63) : (lg_cmp (lN a) (lN b) ≤ 0) = ¬ b < a := by
  unfold lg_cmp
  simp only [gt_iff_lt, q_ltL hb ha, q_eqL ha hb]
  apply propext
  by_cases h : b < a
  · simp [h]
  · by_cases h2 : a = b
    · simp [h2]
    · simp [h, h2]
theorem l_window (ho : sOK S) {c : Nat} (hc : c < vn (sV S)) : ∀ i j H b m v, CR H S → j + i = vn (sV S) → m < 2 ^ 63 → ∃ H1, ev 58 29 [.ref 0, .int (nI c), .int b, .long (lN m), .null, .int (nI j), v, .null] [] H = some (some (.int (qAr (fun d => kw (sV S) (nI c) (nI d)) i j b m)), H1) ∧ CR H1 S ∧ kFr cC H H1 := by
  have hV := ho.1
  have h5 := hV.2.1
  intro i
  induction i with
  | zero =>
    intro j H b m v hq hj hm
    have : j = vn (sV S) := by omega
    subst this
    refine ⟨H, ?_, hq, kFr.rf⟩
    rw [e58_29]
    simp only [e58_31, e58_32, e58_35, e58_38, e58_72, e58_73, c_seats hq.1, q_bs, q_tl, q_cn, Std.le_refl, if_true, qAr]
  | succ i ih =>
    intro j H b m v hq hj hm
    obtain ⟨H1, e1, f1⟩ := c_kw hV (by omega) hq.1 (c := nI c) (dr := nI j) (Or.inr ⟨c, hc, rfl⟩)
    have hq1 : CR H1 S := CR_fr (f1.mono (fun k _ z => by unfold sC; omega)) (wR_fr f1 (fun j => by omega) hq.2.2.2.2.1) hq
    have hlt := kw_lt hV (nI c) (nI j)
    rw [e58_29]
    unfold qAr
    by_cases hb : m < kw (sV S) (nI c) (nI j)
    · obtain ⟨H2, e2, q2, f2⟩ := ih (j + 1) H1 (nI j) _ (.long (lN (kw (sV S) (nI c) (nI j)))) hq1 (by omega) hlt
      refine ⟨H2, ?_, q2, (f1.mono (fun k _ z => by unfold cC; omega)).tr f2⟩
      rw [if_pos hb, ← e2]
      simp only [e58_31, e58_32, e58_35, e58_38, e58_41, e58_42, e58_45, e58_46, e58_48, e58_51, e58_53, e58_55, e58_56, e58_57, e58_60, e58_62, e58_63, e58_65, e58_66, e58_69, c_seats hq.1, q_bs, q_tl, q_cn, q_le (show vn (sV S) < 2147483648 by omega) (show j < 2147483648 by omega), show ¬ vn (sV S) ≤ j by omega, if_false, e1, q_cmple hlt hm, hb, not_true_eq_false, nI_1]
    · obtain ⟨H2, e2, q2, f2⟩ := ih (j + 1) H1 b _ (.long (lN (kw (sV S) (nI c) (nI j)))) hq1 (by omega) hm
      refine ⟨H2, ?_, q2, (f1.mono (fun k _ z => by unfold cC; omega)).tr f2⟩
      rw [if_neg hb, ← e2]
      simp only [e58_31, e58_32, e58_35, e58_38, e58_41, e58_42, e58_45, e58_46, e58_48, e58_51, e58_53, e58_55, e58_56, e58_57, e58_60, e58_62, e58_63, e58_65, e58_66, e58_69, c_seats hq.1, q_bs, q_tl, q_cn, q_le (show vn (sV S) < 2147483648 by omega) (show j < 2147483648 by omega), show ¬ vn (sV S) ≤ j by omega, if_false, e1, q_cmple hlt hm, hb, not_false_eq_true, if_true, nI_1]
theorem x_window (hq : CR H S) (ho : sOK S) (c : Int32) : ∃ H1, ev 58 0 [.ref 0, .int c, .null, .null, .null, .null, .null, .null] [] H = some (some (.int (fWindow (sV S) c)), H1) ∧ CR H1 S ∧ kFr cC H H1 := by
  have hR := hq.1
  have hV := ho.1
  have h5 := hV.2.1
  unfold fWindow
  rcases q_case c (show vn (sV S) < 2147483648 by omega) with hc | hc | ⟨c, hc, rfl⟩
  · rw [qSel_lo hc]
    refine ⟨H, ?_, hq, kFr.rf⟩
    simp only [e58_0, e58_1, e58_4, e58_5, e58_8, e58_11, e58_13, c_seated0 hR (Or.inl hc), q_bs, q_tl, q_cn, not_true_eq_false, if_false]
  · rw [qSel_hi hc]
    refine ⟨H, ?_, hq, kFr.rf⟩
    simp only [e58_0, e58_1, e58_4, e58_5, e58_8, e58_11, e58_13, c_seated0 hR (Or.inr hc), q_bs, q_tl, q_cn, not_true_eq_false, if_false]
  · rw [qSel_in hc (by omega)]
    obtain ⟨H1, e1, f1⟩ := c_kw hV (by omega) hR (c := nI c) (dr := -1) (Or.inr ⟨c, hc, rfl⟩)
    have hq1 : CR H1 S := CR_fr (f1.mono (fun k _ z => by unfold sC; omega)) (wR_fr f1 (fun j => by omega) hq.2.2.2.2.1) hq
    obtain ⟨H2, e2, q2, f2⟩ := l_window ho hc (vn (sV S)) 0 H1 (-1) _ .null hq1 (by omega) (kw_lt hV (nI c) (-1))
    refine ⟨H2, ?_, q2, (f1.mono (fun k _ z => by unfold cC; omega)).tr f2⟩
    rw [← e2]
    simp only [e58_0, e58_1, e58_4, e58_5, e58_8, e58_11, e58_13, e58_14, e58_15, e58_16, e58_17, e58_20, e58_21, e58_22, e58_25, e58_26, e58_27, c_seated_in hR hV hc, q_bs, q_tl, q_cn, t10, not_false_eq_true, if_true, e1]
    rfl
end KTM
