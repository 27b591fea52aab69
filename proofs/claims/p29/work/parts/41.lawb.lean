/-! the law's own numbers: an hour, who may, shares, lowest terms, how many bits, a copy, a draw -/
/-- behind an hour in which a set sneezes -/
def tGo (V : kV) (s : Nat) : kV := if qK (vk V) (vn V) s = -1 then vsT V else vsK V (qK (vk V) (vn V) s).toNatClampNeg
theorem bR_fr {P : Nat → Nat → Prop} {H H' : kH} {V : kV} (hf : kFr P H H') (hp : ∀ j, ¬ P 27 j) (h : bR H V) : bR H' V := ⟨((hf 27 5 (hp 5)).1).trans h.1, fun j hj => ((hf 27 j (hp j)).1).trans (h.2 j hj)⟩
theorem dR_fr {P : Nat → Nat → Prop} {H H' : kH} {V : kV} {k : Nat} (hf : kFr P H H') (hp : ∀ j, ¬ P k j) (h : dR H k V) : dR H' k V := by
  have e : ∀ j, hI H' k j = hI H k j := fun j => (hf k j (hp j)).1
  obtain ⟨h1, h2, h3, h4, h5, h6, h7⟩ := h
  exact ⟨fun j hj => (e _).trans (h1 j hj), fun j hj => (e _).trans (h2 j hj), fun j hj => (e _).trans (h3 j hj), (e _).trans h4, (e _).trans h5, (e _).trans h6, (e _).trans h7⟩
theorem shq_fr {P : Nat → Nat → Prop} {H H' : kH} (hf : kFr P H H') (hp : ¬ P 41 1) (k : Nat) : shq H' k = shq H k := by
  have e : fl H' = fl H := (hf 41 1 hp).2.2
  unfold shq
  rw [e]
theorem fl_fr {P : Nat → Nat → Prop} {H H' : kH} (hf : kFr P H H') (hp : ¬ P 41 1) : fl H' = fl H := (hf 41 1 hp).2.2
theorem na_fr {P : Nat → Nat → Prop} {H H' : kH} (hf : kFr P H H') (hp : ¬ P 41 0) : na H' = na H := (hf 41 0 hp).2.2
section LWB
variable {H : kH} {V : kV}
theorem dR_T {k : Nat} (h5 : vn V ≤ 5) (hd : dR H k V) : dR (uI H k 18 (vt V + 1)) k (vsT V) := by
  obtain ⟨h1, h2, h3, h4, h6, h7, h8⟩ := hd
  refine ⟨fun j hj => ?_, fun j hj => ?_, fun j hj => ?_, ?_, ?_, ?_, hI_uIs _ _ _ _⟩
  · have hj : j < vn V := hj
    rw [hI_uIn (by omega)]
    exact h1 j hj
  · have hj : j < vn V := hj
    rw [hI_uIn (by omega)]
    exact h2 j hj
  · rw [hI_uIn (by omega)]
    exact h3 j hj
  · rw [hI_uIn (by omega)]
    exact h4
  · rw [hI_uIn (by omega)]
    exact h6
  · rw [hI_uIn (by omega)]
    exact h7
theorem dR_K {k c : Nat} (h5 : vn V ≤ 5) (hc : c < vn V) (hd : dR H k V) : dR (uI (uI (uI H k 17 (nI (qS (vh V) (vl V c)))) k (10 + c) (vr V c + 1)) k 18 (vt V + 1)) k (vsK V c) := by
  obtain ⟨h1, h2, h3, h4, h6, h7, h8⟩ := hd
  refine ⟨fun j hj => ?_, fun j hj => ?_, fun j hj => ?_, ?_, ?_, ?_, hI_uIs _ _ _ _⟩
  · have hj : j < vn V := hj
    rw [hI_uIn (by omega), hI_uIn (by omega), hI_uIn (by omega)]
    exact h1 j hj
  · have hj : j < vn V := hj
    rw [hI_uIn (by omega), hI_uIn (by omega), hI_uIn (by omega)]
    exact h2 j hj
  · rw [hI_uIn (by omega)]
    show _ = fu (vr V) c (vr V c + 1) j
    by_cases e : j = c
    · subst e
      rw [hI_uIs, fu_s]
    · rw [hI_uIn (by omega), hI_uIn (by omega), fu_n e]
      exact h3 j hj
  · rw [hI_uIn (by omega), hI_uIn (by omega), hI_uIn (by omega)]
    exact h4
  · rw [hI_uIn (by omega), hI_uIn (by omega), hI_uIn (by omega)]
    exact h6
  · rw [hI_uIn (by omega), hI_uIn (by omega), hI_uIs]
    rfl
theorem y_go {k : Nat} (hs : shq H k = (1, 19)) (hb : bR H V) (hd : dR H k V) (hV : vOK V) {s : Nat} (h64 : s < 64) : ∃ H1, ev 77 0 [.ref 27, .ref k, .int (nI s), .null] [] H = some (some (.int (qK (vk V) (vn V) s)), H1) ∧ dR H1 k (tGo V s) ∧ kFr (fun a _ => a = k) H H1 := by
  have h5 := hV.2.1
  have hh := hV.2.2.2.2.2.1
  obtain ⟨d1, d2, d3, d4, d6, d7, d8⟩ := id hd
  unfold tGo
  rcases qK_in (vk V) (vn V) s (by omega) with e | ⟨c, hc, e⟩
  · refine ⟨uI H k 18 (vt V + 1), ?_, by rw [if_pos e]; exact dR_T h5 hd, kFr_uI (P := fun a _ => a = k) rfl⟩
    simp only [e77_0, e77_1, e77_2, e77_5, e77_6, e77_7, e77_10, e77_11, e77_13, e77_14, e77_16, e77_17, e77_18, e77_19, e77_20, e77_21, e77_22, e77_25, e77_26, e77_27, e77_29, e77_30, e77_31, e77_32, e77_33, e77_34, e77_35, e77_36, e77_37, e77_39, e77_40, e77_41, e77_42, e77_43, e77_44, e77_45, y_king hb hV h64, e, q_bs, q_tl, q_cn, show ((-1 : Int32) < 0) = True from eq_true (by decide), if_true, hs, ix18, cx18, if_false, d8]
    simp only [show ((18 : Int32) < 0) = False from eq_false (by decide), show (19 ≤ 18) = False from eq_false (by decide), or_self, if_false]
  · have hne : ¬ nI c = (-1 : Int32) := by rw [q_m1ne (by omega)]; exact id
    have l1 : ¬ 19 ≤ 5 + c := by omega
    have l2 : ¬ 19 ≤ 10 + c := by omega
    have g1 : ∀ v, hI (uI H k 17 v) k (10 + c) = vr V c := fun v => by rw [hI_uIn (by omega)]; exact d3 c (by omega)
    have g2 : ∀ v w, hI (uI (uI H k 17 v) k (10 + c) w) k 18 = vt V := fun v w => by rw [hI_uIn (by omega), hI_uIn (by omega)]; exact d8
    refine ⟨uI (uI (uI H k 17 (nI (qS (vh V) (vl V c)))) k (10 + c) (vr V c + 1)) k 18 (vt V + 1), ?_, by rw [if_neg (by rw [e]; exact hne), e, q_cl (by omega)]; exact dR_K h5 hc hd, ((kFr_uI (P := fun a _ => a = k) rfl).tr (kFr_uI (P := fun a _ => a = k) rfl)).tr (kFr_uI (P := fun a _ => a = k) rfl)⟩
    have hs1 : ∀ v, shq (uI H k 17 v) k = (1, 19) := fun v => hs
    have hs2 : ∀ v w, shq (uI (uI H k 17 v) k (10 + c) w) k = (1, 19) := fun v w => hs
    simp only [e77_0, e77_1, e77_2, e77_5, e77_6, e77_7, e77_10, e77_11, e77_13, e77_14, e77_16, e77_17, e77_18, e77_19, e77_20, e77_21, e77_22, e77_25, e77_26, e77_27, e77_29, e77_30, e77_31, e77_32, e77_33, e77_34, e77_35, e77_36, e77_37, e77_39, e77_40, e77_41, e77_42, e77_43, e77_44, e77_45, y_king hb hV h64, e, q_bs, q_tl, q_cn, q_lt0 (show c < 2147483648 by omega), if_false, hs, hs1, hs2, show (5 : Int32) = nI 5 from rfl, show (10 : Int32) = nI 10 from rfl, q_add, q_lt0 (show 5 + c < 2147483648 by omega), q_lt0 (show 10 + c < 2147483648 by omega), q_cl (show 5 + c < 2147483648 by omega), q_cl (show 10 + c < 2147483648 by omega), l1, l2, or_self, cx17, cx18, show ((17 : Int32) < 0) = False from eq_false (by decide), show (19 ≤ 17) = False from eq_false (by decide), show ((18 : Int32) < 0) = False from eq_false (by decide), show (19 ≤ 18) = False from eq_false (by decide), d2 c hc, d7, y_say hh (hV.2.2.1 c hc).2.2, g1, g2]
/-- who may -/
def qMy (V : kV) (s : Nat) : Nat → Nat → Bool
  | 0, _ => true
  | i + 1, j => if s.testBit j = true ∧ qtn V j (vt V) (vh V) (vd V) = 0 then false else qMy V s i (j + 1)
theorem qMy_iff (V : kV) (s : Nat) : ∀ i j, (qMy V s i j = true ↔ ∀ q, j ≤ q → q < j + i → s.testBit q = true → 0 < qtn V q (vt V) (vh V) (vd V))
  | 0, j => ⟨fun _ q h1 h2 => absurd h2 (by omega), fun _ => rfl⟩
  | i + 1, j => by
    have ih := qMy_iff V s i (j + 1)
    unfold qMy
    by_cases hc : s.testBit j = true ∧ qtn V j (vt V) (vh V) (vd V) = 0
    · rw [if_pos hc]
      refine ⟨fun h => (by cases h), fun h => ?_⟩
      have := h j (by omega) (by omega) hc.1
      omega
    · rw [if_neg hc, ih]
      refine ⟨fun h q h1 h2 h3 => ?_, fun h q h1 h2 h3 => h q (by omega) (by omega) h3⟩
      by_cases e : q = j
      · subst e
        rcases Nat.eq_zero_or_pos (qtn V q (vt V) (vh V) (vd V)) with z | z
        · exact absurd ⟨h3, z⟩ hc
        · exact z
      · exact h q (by omega) (by omega) h3
theorem qMy_sub (V : kV) {s : Nat} (hs : s < 2 ^ vn V) : (qMy V s (vn V) 0 = true) ↔ s &&& qA V (vn V) = s := by
  rw [qMy_iff]
  constructor
  · intro h
    apply Nat.eq_of_testBit_eq
    intro i
    rw [Nat.testBit_and, qA_bit]
    by_cases hi : i < vn V
    · cases hb : s.testBit i with
      | false => rfl
      | true => simp [hi, h i (by omega) (by omega) hb]
    · rw [Nat.testBit_lt_two_pow (Nat.lt_of_lt_of_le hs (Nat.pow_le_pow_right (by decide) (by omega)))]
      rfl
  · intro h q _ hq hb
    have h1 : (s &&& qA V (vn V)).testBit q = true := by rw [h]; exact hb
    rw [Nat.testBit_and, qA_bit, hb] at h1
    simp at h1
    exact h1.2
theorem l_may (hb : bR H V) (hd : dR H 28 V) (hV : vOK V) {s : Nat} (h64 : s < 64) : ∀ i j, j + i = vn V → ev 78 2 [.ref 27, .ref 28, .int (nI s), .int (nI j)] [] H = some (some (.int (if qMy V s i j = true then 1 else 0)), H) := by
  have h5 := hV.2.1
  intro i
  induction i with
  | zero =>
    intro j hj
    have : j = vn V := by omega
    subst this
    rw [e78_2]
    simp only [e78_3, e78_4, e78_5, e78_6, e78_35, e78_36, zb5, nb5, cx5, or_self, hb.1, Std.le_refl, if_true, if_false, qMy, or_true]
  | succ i ih =>
    intro j hj
    have hle : ¬ vn V ≤ j := by omega
    have b1 := (q_bit s h64 j (by omega)).2
    have ht := qT_le (vk V j) (vo V j) (vp V) (nI j = vd V) (qEvb (vt V) = true) ((vh V).testBit 3 = true)
    have ht : qtn V j (vt V) (vh V) (vd V) ≤ 9 := ht
    have t0 : (nI (qtn V j (vt V) (vh V) (vd V)) = (0 : Int32)) = (qtn V j (vt V) (vh V) (vd V) = 0) := q_n0' (by omega)
    rw [e78_2]
    unfold qMy
    by_cases hbit : s.testBit j = true
    · by_cases hz : qtn V j (vt V) (vh V) (vd V) = 0
      · simp only [e78_3, e78_4, e78_5, e78_6, e78_9, e78_10, e78_11, e78_12, e78_13, e78_14, e78_15, e78_18, e78_19, e78_20, e78_21, e78_24, e78_27, e78_28, zb5, nb5, cx5, or_self, hb.1, q_le (show vn V < 2147483648 by omega) (show j < 2147483648 by omega), hle, if_false, b1, hbit, not_true_eq_false, y_tenths (shq_28 H) hb hd hV (show j < vn V by omega), q_bs, q_tl, q_cn, t0, hz, and_self, if_true, true_or, Bool.false_eq_true]
        simp only [show (nI 0 = (0 : Int32)) = True from eq_true rfl, not_true_eq_false, if_false]
      · simp only [e78_3, e78_4, e78_5, e78_6, e78_9, e78_10, e78_11, e78_12, e78_13, e78_14, e78_15, e78_18, e78_19, e78_20, e78_21, e78_24, e78_27, e78_28, e78_29, e78_32, zb5, nb5, cx5, or_self, hb.1, q_le (show vn V < 2147483648 by omega) (show j < 2147483648 by omega), hle, if_false, b1, hbit, not_true_eq_false, y_tenths (shq_28 H) hb hd hV (show j < vn V by omega), q_bs, q_tl, q_cn, t0, hz, not_false_eq_true, if_true, and_false, nI_1, ih (j + 1) (by omega)]
    · simp only [e78_3, e78_4, e78_5, e78_6, e78_9, e78_10, e78_11, e78_12, e78_13, e78_14, e78_15, e78_18, e78_19, e78_20, e78_21, e78_24, e78_27, e78_28, e78_29, e78_32, zb5, nb5, cx5, or_self, hb.1, q_le (show vn V < 2147483648 by omega) (show j < 2147483648 by omega), hle, if_false, b1, hbit, not_false_eq_true, if_true, false_and, nI_1, ih (j + 1) (by omega), Bool.false_eq_true]
theorem y_may (hb : bR H V) (hd : dR H 28 V) (hV : vOK V) {s : Nat} (hs : s < 2 ^ vn V) : ev 78 0 [.ref 27, .ref 28, .int (nI s), .null] [] H = some (some (.int (if s &&& qA V (vn V) = s then 1 else 0)), H) := by
  have h32 := pow2_le hV.2.1
  have h0 := l_may hb hd hV (show s < 64 by omega) (vn V) 0 (by omega)
  simp only [e78_0, e78_1]
  rw [show (0 : Int32) = nI 0 from rfl, h0]
  by_cases h : s &&& qA V (vn V) = s
  · rw [if_pos h, if_pos ((qMy_sub V hs).mpr h)]
  · rw [if_neg h, if_neg (fun z => h ((qMy_sub V hs).mp z))]
    rfl
theorem qw_succ (t u : Nat → Nat) (j s : Nat) : qw t u (j + 1) s = qw t u j s * (if s.testBit j = true then t j else u j) := rfl
/-- the share of a set -/
theorem l_share {k : Nat} (hs : shq H k = (1, 19)) (hb : bR H V) (hd : dR H k V) (hV : vOK V) {s : Nat} (h64 : s < 64) : ∀ i j, j + i = vn V → ev 79 5 [.ref 27, .ref k, .int (nI s), .long (lN (qw (fun q => qtn V q (vt V) (vh V) (vd V)) (fun q => 10 - qtn V q (vt V) (vh V) (vd V)) j s)), .null, .int (nI j)] [] H = some (some (.long (lN (qo V (vt V) (vd V) (vh V) s))), H) := by
  have h5 := hV.2.1
  intro i
  induction i with
  | zero =>
    intro j hj
    have : j = vn V := by omega
    subst this
    rw [e79_5]
    simp only [e79_7, e79_8, e79_9, e79_10, e79_54, e79_55, zb5, nb5, cx5, or_self, hb.1, Std.le_refl, if_true, if_false, qo]
  | succ i ih =>
    intro j hj
    have hle : ¬ vn V ≤ j := by omega
    have b1 := (q_bit s h64 j (by omega)).2
    have ht := qT_le (vk V j) (vo V j) (vp V) (nI j = vd V) (qEvb (vt V) = true) ((vh V).testBit 3 = true)
    have ht : qtn V j (vt V) (vh V) (vd V) ≤ 9 := ht
    rw [← ih (j + 1) (by omega), e79_5, qw_succ]
    by_cases hbit : s.testBit j = true
    · simp only [e79_7, e79_8, e79_9, e79_10, e79_13, e79_14, e79_15, e79_17, e79_18, e79_19, e79_20, e79_21, e79_24, e79_25, e79_26, e79_28, e79_31, e79_32, e79_35, e79_37, e79_38, e79_39, e79_41, e79_44, e79_45, e79_46, e79_47, e79_48, e79_51, zb5, nb5, cx5, or_self, hb.1, q_le (show vn V < 2147483648 by omega) (show j < 2147483648 by omega), hle, if_false, b1, hbit, not_true_eq_false, y_tenths hs hb hd hV (show j < vn V by omega), q_bs, q_tl, q_cn, q_i2lN (show qtn V j (vt V) (vh V) (vd V) < 2147483648 by omega), q_mulL, nI_1, if_true]
    · simp only [e79_7, e79_8, e79_9, e79_10, e79_13, e79_14, e79_15, e79_17, e79_18, e79_19, e79_20, e79_21, e79_24, e79_25, e79_26, e79_28, e79_31, e79_32, e79_35, e79_37, e79_38, e79_39, e79_41, e79_44, e79_45, e79_46, e79_47, e79_48, e79_51, zb5, nb5, cx5, or_self, hb.1, q_le (show vn V < 2147483648 by omega) (show j < 2147483648 by omega), hle, if_false, b1, hbit, not_false_eq_true, y_tenths hs hb hd hV (show j < vn V by omega), q_bs, q_tl, q_cn, show (10 : Int32) = nI 10 from rfl, q_sub (show qtn V j (vt V) (vh V) (vd V) ≤ 10 by omega), q_i2lN (show 10 - qtn V j (vt V) (vh V) (vd V) < 2147483648 by omega), q_mulL, nI_1, if_true, Bool.false_eq_true]
theorem y_share {k : Nat} (hs : shq H k = (1, 19)) (hb : bR H V) (hd : dR H k V) (hV : vOK V) {s : Nat} (h64 : s < 64) : ev 79 0 [.ref 27, .ref k, .int (nI s), .null, .null, .null] [] H = some (some (.long (lN (qo V (vt V) (vd V) (vh V) s))), H) := by
  rw [← l_share hs hb hd hV h64 (vn V) 0 (by omega)]
  simp only [e79_0, e79_1, e79_2, e79_3]
  rfl
/-- in lowest terms -/
theorem q_cmpe (x y : Int64) : (lg_cmp x y = 0) = (x = y) := propext (lg_cmp_eq x y)
theorem l_parts (l0 l2 l4 l6 : Int64) : ∀ m a b v12 H, a < 2 ^ 63 → b < 2 ^ 63 → b ≤ m → ∃ w, ev 80 16 [.long l0, .null, .long l2, .null, .long l4, .null, .long l6, .null, .long (lN a), .null, .long (lN b), .null, v12, .null] [] H = ev 80 41 [.long l0, .null, .long l2, .null, .long l4, .null, .long l6, .null, .long (lN (Nat.gcd a b)), .null, .long (lN 0), .null, w, .null] [] H := by
  have base : ∀ a v12 H, a < 2 ^ 63 → ∃ w, ev 80 16 [.long l0, .null, .long l2, .null, .long l4, .null, .long l6, .null, .long (lN a), .null, .long (lN 0), .null, v12, .null] [] H = ev 80 41 [.long l0, .null, .long l2, .null, .long l4, .null, .long l6, .null, .long (lN (Nat.gcd a 0)), .null, .long (lN 0), .null, w, .null] [] H := by
    intro a v12 H ha
    refine ⟨v12, ?_⟩
    rw [e80_16]
    simp only [e80_18, e80_19, e80_20, q_cmp0 (show 0 < 2 ^ 63 by decide), if_true, Nat.gcd_zero_right]
  intro m
  induction m with
  | zero =>
    intro a b v12 H ha hb hm
    have : b = 0 := by omega
    subst this
    exact base a v12 H ha
  | succ m ih =>
    intro a b v12 H ha hb hm
    by_cases h0 : b = 0
    · subst h0
      exact base a v12 H ha
    · have hr : a % b < b := Nat.mod_lt _ (Nat.pos_of_ne_zero h0)
      obtain ⟨w, e⟩ := ih b (a % b) (.long (lN (a % b))) H hb (by omega) (by omega)
      refine ⟨w, ?_⟩
      have e1 : Nat.gcd a b = Nat.gcd b (a % b) := by rw [Nat.gcd_comm a b, Nat.gcd_rec b a, Nat.gcd_comm]
      have hz : ¬ lN b = 0 := by
        rw [show (0 : Int64) = lN 0 from rfl, q_eqL hb (by decide)]
        exact h0
      rw [e1, ← e, e80_16]
      simp only [e80_18, e80_19, e80_20, e80_23, e80_25, e80_27, e80_28, e80_30, e80_32, e80_34, e80_36, e80_38, q_cmp0 hb, h0, if_false, hz, pk_lRem ha (Nat.pos_of_ne_zero h0) hb]
theorem y_parts {a b : Nat} (ha : a < 2 ^ 63) (hb : b < 2 ^ 63) (h0 : 0 < b) : ev 80 0 [.long (lN (a / Nat.gcd a b)), .null, .long (lN (b / Nat.gcd a b)), .null, .long (lN a), .null, .long (lN b), .null, .null, .null, .null, .null, .null, .null] [] H = some (some (.int 1), H) := by
  have hg : 0 < Nat.gcd a b := Nat.gcd_pos_of_pos_right a h0
  have hgl : Nat.gcd a b < 2 ^ 63 := Nat.lt_of_le_of_lt (Nat.gcd_le_right a h0) hb
  have h1 : 1 ≤ b / Nat.gcd a b := (Nat.one_le_div_iff hg).2 (Nat.gcd_le_right a h0)
  have hq : b / Nat.gcd a b < 2 ^ 63 := Nat.lt_of_le_of_lt (Nat.div_le_self _ _) hb
  have hc : (0 ≤ lg_cmp (lN (b / Nat.gcd a b)) 1) = True := by
    refine eq_true ((lg_cmp_ge _ _).mpr ?_)
    rw [show (1 : Int64) = lN 1 from rfl, q_leL (by decide) hq]
    exact h1
  have hz : ¬ lN (Nat.gcd a b) = 0 := by
    rw [show (0 : Int64) = lN 0 from rfl, q_eqL hgl (by decide)]
    omega
  obtain ⟨w, e⟩ := l_parts (lN (a / Nat.gcd a b)) (lN (b / Nat.gcd a b)) (lN a) (lN b) a b a .null H hb ha (Nat.le_refl _)
  rw [Nat.gcd_comm b a] at e
  simp only [e80_0, e80_1, e80_2, e80_3, e80_6, e80_7, e80_8, e80_10, e80_12, e80_14, hc, if_true, e]
  simp only [e80_41, e80_42, e80_44, e80_46, e80_47, e80_48, e80_51, e80_52, e80_54, e80_56, e80_57, e80_58, e80_61, e80_62, e80_65, e80_66, hz, if_false, pk_lDiv ha hg hgl, pk_lDiv hb hg hgl, q_cmpe, not_true_eq_false, or_true, if_true]
/-- how many bits -/
theorem q_siz : ∀ h, h < 64 → 0 + (nI h >>> ((0 : Int32) &&& 31) &&& 1) + (nI h >>> ((0 + 1 : Int32) &&& 31) &&& 1) + (nI h >>> ((0 + 1 + 1 : Int32) &&& 31) &&& 1) + (nI h >>> ((0 + 1 + 1 + 1 : Int32) &&& 31) &&& 1) + (nI h >>> ((0 + 1 + 1 + 1 + 1 : Int32) &&& 31) &&& 1) + (nI h >>> ((0 + 1 + 1 + 1 + 1 + 1 : Int32) &&& 31) &&& 1) = nI (qP h) := by decide +kernel
theorem i81 (x a : Int32) (k : Int32) (hk : (6 ≤ k) = False) : ev 81 4 [.int x, .int a, .int k] [] H = ev 81 4 [.int x, .int (a + (x >>> (k &&& 31) &&& 1)), .int (k + 1)] [] H := by
  rw [e81_4]
  simp only [e81_5, e81_7, e81_10, e81_11, e81_12, e81_13, e81_14, e81_15, e81_16, e81_17, e81_18, e81_21, hk, if_false]
theorem y_size {h : Nat} (hh : h < 64) : ev 81 0 [.int (nI h), .null, .null] [] H = some (some (.int (nI (qP h))), H) := by
  simp only [e81_0, e81_1, e81_2, e81_3]
  rw [i81 _ _ _ (eq_false (by decide)), i81 _ _ _ (eq_false (by decide)), i81 _ _ _ (eq_false (by decide)), i81 _ _ _ (eq_false (by decide)), i81 _ _ _ (eq_false (by decide)), i81 _ _ _ (eq_false (by decide)), q_siz h hh, e81_4]
  simp only [e81_5, e81_7, e81_24, e81_25, show ((6 : Int32) ≤ 0 + 1 + 1 + 1 + 1 + 1 + 1) = True from eq_true (by decide), if_true]
/-- a copy -/
theorem l_over : ∀ i j (H : kH), j + i = 19 → shq H 30 = (1, 19) → ∃ H', ev 82 2 [.ref 30, .ref 28, .int (nI j)] [] H = some (none, H') ∧ kFr (fun a _ => a = 30) H H' ∧ (∀ q, j ≤ q → q < 19 → hI H' 30 q = hI H 28 q) ∧ ∀ q, q < j → hI H' 30 q = hI H 30 q := by
  intro i
  induction i with
  | zero =>
    intro j H hj hs
    have : j = 19 := by omega
    subst this
    refine ⟨H, ?_, kFr.rf, fun q h1 h2 => absurd h2 (by omega), fun _ _ => rfl⟩
    rw [e82_2]
    simp only [e82_3, e82_5, e82_20, show (19 : Int32) = nI 19 from rfl, Std.le_refl, if_true]
  | succ i ih =>
    intro j H hj hs
    obtain ⟨H', h1, h2, h3, h4⟩ := ih (j + 1) (uI H 30 j (hI H 28 j)) (by omega) hs
    refine ⟨H', ?_, (kFr_uI (P := fun a _ => a = 30) rfl).tr h2, fun q hq1 hq2 => ?_, fun q hq => ?_⟩
    · rw [← h1, e82_2]
      simp only [e82_3, e82_5, e82_8, e82_9, e82_10, e82_11, e82_12, e82_13, e82_14, e82_17, show (19 : Int32) = nI 19 from rfl, q_le (show 19 < 2147483648 by decide) (show j < 2147483648 by omega), show ¬ 19 ≤ j by omega, if_false, q_lt0 (show j < 2147483648 by omega), q_cl (show j < 2147483648 by omega), or_self, hs, nI_1]
    · by_cases e : q = j
      · subst e
        rw [h4 q (by omega), hI_uIs]
      · rw [h3 q (by omega) hq2, hI_uIn (by omega)]
    · rw [h4 q (by omega), hI_uIn (by omega)]
theorem dR_copy {H' : kH} (h : ∀ q, q < 19 → hI H' 30 q = hI H 28 q) (h5 : vn V ≤ 5) (hd : dR H 28 V) : dR H' 30 V := by
  obtain ⟨h1, h2, h3, h4, h6, h7, h8⟩ := hd
  exact ⟨fun j hj => (h _ (by omega)).trans (h1 j hj), fun j hj => (h _ (by omega)).trans (h2 j hj), fun j hj => (h _ (by omega)).trans (h3 j hj), (h _ (by omega)).trans h4, (h _ (by omega)).trans h6, (h _ (by omega)).trans h7, (h _ (by omega)).trans h8⟩
theorem y_over (hs : shq H 30 = (1, 19)) (h5 : vn V ≤ 5) (hd : dR H 28 V) : ∃ H', ev 82 0 [.ref 30, .ref 28, .null] [] H = some (none, H') ∧ kFr (fun a _ => a = 30) H H' ∧ dR H' 30 V := by
  obtain ⟨H', h1, h2, h3, -⟩ := l_over 19 0 H (by omega) hs
  refine ⟨H', ?_, h2, dR_copy (fun q hq => h3 q (by omega) hq) h5 hd⟩
  rw [← h1]
  simp only [e82_0, e82_1]
  rfl
/-- a draw -/
theorem y_after {s : Nat} (hs : s < 2147483648) : ev 88 0 [.long (lN s), .null] [] H = some (some (.long (lN (qSd s))), H) := by
  have hz : ((2147483648 : Int64) = 0) = False := eq_false (by decide)
  simp only [e88_0, e88_1, e88_4, e88_5, e88_8, e88_9, e88_12, e88_13, hz, if_false]
  refine congrArg (fun z => some (some (Value.long z), H)) ?_
  rw [show (1103515245 : Int64) = lN 1103515245 from rfl, show (12345 : Int64) = lN 12345 from rfl, show (2147483648 : Int64) = lN 2147483648 from rfl, q_mulL, q_addL, pk_lRem (by omega) (by decide) (by decide)]
  unfold qSd
  rw [Nat.mul_comm s]
end LWB
