/-! by how few laws -/
def rcb : Nat → Nat → Nat → Bool
  | 0, s, w => decide (s = w)
  | k + 1, s, w => (List.range 64).any (fun h => rcb k s h && (List.range 6).any (fun l => decide (qS h l = w)))
theorem rcb_s {k s w : Nat} : rcb (k + 1) s w = true ↔ ∃ h, h < 64 ∧ rcb k s h = true ∧ ∃ l, l < 6 ∧ qS h l = w := by
  show (List.range 64).any (fun h => rcb k s h && (List.range 6).any (fun l => decide (qS h l = w))) = true ↔ _
  simp only [List.any_eq_true, List.mem_range, Bool.and_eq_true, decide_eq_true_eq]
def qFw (s w : Nat) : Nat → Nat → Int32
  | 0, _ => -1
  | i + 1, j => if rcb j s w = true then nI j else qFw s w i (j + 1)
def qFr (s w f : Nat) : Nat → Nat → Int32
  | 0, _ => -1
  | i + 1, j => if qFw (qS s j) w f 0 = -1 then qFr s w f i (j + 1) else nI j
/-- the first of the shortest rows -/
def qFir (s w : Nat) (f : Int32) : Int32 := if 0 < f then qFr s w f.toNatClampNeg 6 0 else -1
def fStat (V : kV) (w p : Int32) : Int32 := qSel 64 w (-102) (fun w => qSel 2 p (-102) (fun p => if vn V = 0 then -103 else if p = 0 then qFw (vh V) w 7 0 else qFir (vh V) w (qFw (vh V) w 7 0)))
theorem qFw_in (s w : Nat) : ∀ i j, qFw s w i j = -1 ∨ ∃ k, k < j + i ∧ qFw s w i j = nI k
  | 0, j => Or.inl rfl
  | i + 1, j => by
    unfold qFw
    split
    · exact Or.inr ⟨j, by omega, rfl⟩
    · rcases qFw_in s w i (j + 1) with h | ⟨k, hk, h⟩
      · exact Or.inl h
      · exact Or.inr ⟨k, by omega, h⟩
def b64 (x : Int64) (w : Nat) : Bool := x.toBitVec.getLsbD w
theorem b64_or (x y : Int64) (w : Nat) : b64 (x ||| y) w = (b64 x w || b64 y w) := by
  unfold b64
  rw [Int64.toBitVec_or, BitVec.getLsbD_or]
theorem b64_sh : ∀ w, w < 64 → ∀ v, v < 64 → b64 ((1 : Int64) <<< ((nI w).toInt64 &&& 63)) v = decide (w = v) := by decide +kernel
theorem q_cmpeq (x y : Int64) : (lg_cmp x y = 0) = (x = y) := by
  unfold lg_cmp
  apply propext
  by_cases h : x > y
  · have hne : x ≠ y := by
      rintro rfl
      exact Int64.lt_irrefl h
    simp [h, hne]
  · by_cases h2 : x = y
    · subst h2
      rw [if_neg h, if_pos rfl]
      exact ⟨fun _ => rfl, fun _ => rfl⟩
    · rw [if_neg h, if_neg h2]
      exact ⟨fun z => absurd z (by decide), fun z => absurd z h2⟩
theorem q_l63 : ∀ w, w < 64 → ((nI w).toInt64 &&& 63).toBitVec.smod 64 = BitVec.ofNat 64 w := by decide +kernel
theorem b64_bit (x : Int64) {w : Nat} (hw : w < 64) : (((x >>> ((nI w).toInt64 &&& 63)) &&& 1) = 0) = (b64 x w = false) := by
  have e : ((x >>> ((nI w).toInt64 &&& 63)) &&& 1).toBitVec = if b64 x w = true then 1#64 else 0#64 := by
    rw [Int64.toBitVec_and, Int64.toBitVec_shiftRight, q_l63 w hw]
    show BitVec.sshiftRight x.toBitVec (BitVec.ofNat 64 w).toNat &&& 1#64 = _
    apply BitVec.eq_of_getLsbD_eq
    intro i hi
    rw [BitVec.getLsbD_and]
    have hwn : (BitVec.ofNat 64 w).toNat = w := by
      rw [BitVec.toNat_ofNat]
      exact Nat.mod_eq_of_lt (by omega)
    have hone : (1#64).getLsbD i = decide (i = 0) := by
      rw [BitVec.getLsbD_one]
      by_cases h0 : i = 0 <;> simp [h0]
    unfold b64
    by_cases h0 : i = 0
    · subst h0
      rw [BitVec.getLsbD_sshiftRight, hwn]
      rw [Nat.add_zero, hone, decide_eq_true (show (0 : Nat) = 0 from rfl), Bool.and_true, decide_eq_false (show ¬ 64 ≤ 0 by decide), Bool.not_false, Bool.true_and, if_pos hw]
      cases x.toBitVec.getLsbD w <;> rfl
    · rw [hone]
      simp only [h0, decide_false, Bool.and_false]
      split
      · rw [hone]; simp [h0]
      · simp
  apply propext
  rw [← Int64.toBitVec_inj, e]
  cases b64 x w
  · exact ⟨fun _ => rfl, fun _ => rfl⟩
  · exact ⟨fun z => absurd z (by decide), fun z => absurd z (by decide)⟩
section KST
variable (H : kH)
theorem l_aft1 (x : Int64) {h : Nat} (hh : h < 64) : ∀ i j y, j + i = 6 → ∃ y', ev 53 26 [.long x, .null, .long y, .null, .int (nI h), .int (nI j)] [] H = ev 53 51 [.long x, .null, .long y', .null, .int (nI h), .int (nI 6)] [] H ∧ ∀ v, v < 64 → (b64 y' v = true ↔ b64 y v = true ∨ ∃ l, j ≤ l ∧ l < 6 ∧ qS h l = v) := by
  intro i
  induction i with
  | zero =>
    intro j y hj
    have : j = 6 := by omega
    subst this
    refine ⟨y, ?_, fun v _ => ⟨Or.inl, fun z => z.elim id (fun ⟨l, h1, h2, _⟩ => absurd h2 (by omega))⟩⟩
    rw [e53_26]
    simp only [e53_28, e53_30, show (6 : Int32) = nI 6 from rfl, Std.le_refl, if_true]
  | succ i ih =>
    intro j y hj
    have hS : qS h j < 64 := qS_lt h hh _ (by omega)
    obtain ⟨y', e1, k1⟩ := ih (j + 1) (y ||| ((1 : Int64) <<< ((nI (qS h j)).toInt64 &&& 63))) (by omega)
    refine ⟨y', ?_, fun v hv => ?_⟩
    · rw [← e1, e53_26]
      simp only [e53_28, e53_30, e53_33, e53_34, e53_35, e53_37, e53_39, e53_42, e53_43, e53_44, e53_45, e53_48, show (6 : Int32) = nI 6 from rfl, q_le (show 6 < 2147483648 by decide) (show j < 2147483648 by omega), show ¬ 6 ≤ j by omega, if_false, c_said hh (show j < 6 by omega), q_bs, q_tl, q_cn, nI_1]
    · rw [k1 v hv, b64_or, b64_sh _ hS v hv, Bool.or_eq_true, decide_eq_true_eq, or_assoc]
      refine or_congr Iff.rfl ⟨fun z => z.elim (fun e => ⟨j, Nat.le_refl _, by omega, e⟩) (fun ⟨l, h1, h2, h3⟩ => ⟨l, by omega, h2, h3⟩), fun ⟨l, h1, h2, h3⟩ => ?_⟩
      by_cases e : l = j
      · exact Or.inl (e ▸ h3)
      · exact Or.inr ⟨l, by omega, h2, h3⟩
theorem l_aft (x : Int64) : ∀ i j y v5, j + i = 64 → ∃ y', ev 53 5 [.long x, .null, .long y, .null, .int (nI j), v5] [] H = some (some (.long y'), H) ∧ ∀ v, v < 64 → (b64 y' v = true ↔ b64 y v = true ∨ ∃ h, j ≤ h ∧ h < 64 ∧ b64 x h = true ∧ ∃ l, l < 6 ∧ qS h l = v) := by
  intro i
  induction i with
  | zero =>
    intro j y v5 hj
    have : j = 64 := by omega
    subst this
    refine ⟨y, ?_, fun v _ => ⟨Or.inl, fun z => z.elim id (fun ⟨l, h1, h2, _⟩ => absurd h2 (by omega))⟩⟩
    rw [e53_5]
    simp only [e53_7, e53_9, e53_57, e53_58, show (64 : Int32) = nI 64 from rfl, Std.le_refl, if_true]
  | succ i ih =>
    intro j y v5 hj
    have hj64 : j < 64 := by omega
    cases hb : b64 x j with
    | false =>
      obtain ⟨y', e1, k1⟩ := ih (j + 1) y v5 (by omega)
      refine ⟨y', ?_, fun v hv => ?_⟩
      · rw [← e1, e53_5]
        simp only [e53_7, e53_9, e53_12, e53_13, e53_15, e53_16, e53_17, e53_18, e53_19, e53_20, e53_51, e53_54, show (64 : Int32) = nI 64 from rfl, q_le (show 64 < 2147483648 by decide) (show j < 2147483648 by omega), show ¬ 64 ≤ j by omega, if_false, q_cmpeq, b64_bit x hj64, hb, if_true, nI_1]
      · rw [k1 v hv]
        refine or_congr Iff.rfl ⟨fun ⟨h, h1, h2, h3⟩ => ⟨h, by omega, h2, h3⟩, fun ⟨h, h1, h2, h3⟩ => ?_⟩
        by_cases e : h = j
        · subst e
          rw [hb] at h3
          exact absurd h3.1 (by decide)
        · exact ⟨h, by omega, h2, h3⟩
    | true =>
      obtain ⟨y1, e0, k0⟩ := l_aft1 H x hj64 6 0 y (by omega)
      obtain ⟨y', e1, k1⟩ := ih (j + 1) y1 (.int (nI 6)) (by omega)
      refine ⟨y', ?_, fun v hv => ?_⟩
      · rw [← e1, e53_5]
        simp only [e53_7, e53_9, e53_12, e53_13, e53_15, e53_16, e53_17, e53_18, e53_19, e53_20, e53_23, e53_24, show (64 : Int32) = nI 64 from rfl, q_le (show 64 < 2147483648 by decide) (show j < 2147483648 by omega), show ¬ 64 ≤ j by omega, if_false, q_cmpeq, b64_bit x hj64, hb, Bool.true_eq_false]
        rw [show (0 : Int32) = nI 0 from rfl, e0]
        simp only [e53_51, e53_54, nI_1]
      · rw [k1 v hv, k0 v hv, or_assoc]
        refine or_congr Iff.rfl ⟨fun z => z.elim (fun ⟨l, _, h2, h3⟩ => ⟨j, Nat.le_refl _, hj64, hb, l, h2, h3⟩) (fun ⟨h, h1, h2, h3⟩ => ⟨h, by omega, h2, h3⟩), fun ⟨h, h1, h2, h3, l, h4, h5⟩ => ?_⟩
        by_cases e : h = j
        · subst e
          exact Or.inl ⟨l, Nat.zero_le _, h4, h5⟩
        · exact Or.inr ⟨h, by omega, h2, h3, l, h4, h5⟩
theorem c_after {s k : Nat} (x : Int64) (hx : ∀ v, v < 64 → b64 x v = rcb k s v) : ∃ y, ev 53 0 [.long x, .null, .null, .null, .null, .null] [] H = some (some (.long y), H) ∧ ∀ v, v < 64 → b64 y v = rcb (k + 1) s v := by
  obtain ⟨y, e1, k1⟩ := l_aft H x 64 0 0 .null (by omega)
  refine ⟨y, ?_, fun v hv => ?_⟩
  · rw [← e1]
    simp only [e53_0, e53_1, e53_2, e53_3]
    rfl
  · rw [Bool.eq_iff_iff, k1 v hv, rcb_s]
    have h0 : b64 0 v = false := by
      unfold b64
      exact BitVec.getLsbD_zero
    rw [h0]
    exact ⟨fun z => z.elim (fun q => absurd q (by decide)) (fun ⟨h, _, h2, h3, h4⟩ => ⟨h, h2, by rw [← hx h h2]; exact h3, h4⟩), fun ⟨h, h2, h3, h4⟩ => Or.inr ⟨h, Nat.zero_le _, h2, by rw [hx h h2]; exact h3, h4⟩⟩
theorem l_few {s w : Nat} (hw : w < 64) {m : Nat} (hm : m < 1000) : ∀ i j x, j + i = m + 1 → (∀ v, v < 64 → b64 x v = rcb j s v) → ev 51 7 [.int (nI s), .int (nI w), .int (nI m), .long x, .null, .int (nI j)] [] H = some (some (.int (qFw s w i j)), H) := by
  intro i
  induction i with
  | zero =>
    intro j x hj hx
    rw [e51_7]
    simp only [e51_9, e51_10, e51_37, e51_38, q_lt (show m < 2147483648 by omega) (show j < 2147483648 by omega), show m < j by omega, if_true, qFw]
  | succ i ih =>
    intro j x hj hx
    rw [e51_7]
    unfold qFw
    cases hb : rcb j s w with
    | true =>
      simp only [e51_9, e51_10, e51_13, e51_14, e51_15, e51_16, e51_17, e51_18, e51_19, e51_20, e51_23, e51_25, q_lt (show m < 2147483648 by omega) (show j < 2147483648 by omega), show ¬ m < j by omega, if_false, q_cmpeq, b64_bit x hw, hx w hw, hb, Bool.true_eq_false, if_true]
    | false =>
      obtain ⟨y, e1, k1⟩ := c_after H x hx
      rw [if_neg (by decide), ← ih (j + 1) y (by omega) k1]
      simp only [e51_9, e51_10, e51_13, e51_14, e51_15, e51_16, e51_17, e51_18, e51_19, e51_20, e51_23, e51_25, e51_26, e51_27, e51_30, e51_31, e51_34, q_lt (show m < 2147483648 by omega) (show j < 2147483648 by omega), show ¬ m < j by omega, if_false, q_cmpeq, b64_bit x hw, hx w hw, hb, if_true, e1, q_bs, q_tl, q_cn, nI_1]
theorem c_few {s w : Nat} (hs : s < 64) (hw : w < 64) {m : Nat} (hm : m < 1000) : ev 51 0 [.int (nI s), .int (nI w), .int (nI m), .null, .null, .null] [] H = some (some (.int (qFw s w (m + 1) 0)), H) := by
  rw [← l_few H hw hm (m + 1) 0 _ (by omega) (fun v hv => by rw [b64_sh s hs v hv]; rfl)]
  simp only [e51_0, e51_1, e51_2, e51_3, e51_4, e51_5]
  rfl
theorem l_fir {s w : Nat} (hs : s < 64) (hw : w < 64) {f : Nat} (hf : f < 999) : ∀ i j, j + i = 6 → ev 52 8 [.int (nI s), .int (nI w), .int (nI (f + 1)), .int (nI j)] [] H = some (some (.int (qFr s w (f + 1) i j)), H) := by
  intro i
  induction i with
  | zero =>
    intro j hj
    have : j = 6 := by omega
    subst this
    rw [e52_8]
    simp only [e52_9, e52_11, e52_38, e52_39, show (6 : Int32) = nI 6 from rfl, Std.le_refl, if_true, qFr]
  | succ i ih =>
    intro j hj
    have hS : qS s j < 64 := qS_lt s hs _ (by omega)
    rw [e52_8]
    unfold qFr
    have e1 : nI (f + 1) - 1 = nI f := by rw [Int32.sub_eq_add_neg, pk_m1]
    by_cases hb : qFw (qS s j) w (f + 1) 0 = -1
    · rw [if_pos hb, ← ih (j + 1) (by omega)]
      simp only [e52_9, e52_11, e52_14, e52_15, e52_16, e52_19, e52_20, e52_21, e52_22, e52_23, e52_26, e52_27, e52_30, e52_31, e52_32, e52_35, show (6 : Int32) = nI 6 from rfl, q_le (show 6 < 2147483648 by decide) (show j < 2147483648 by omega), show ¬ 6 ≤ j by omega, if_false, c_said hs (show j < 6 by omega), q_bs, q_tl, q_cn, e1, c_few H hS hw (show f < 1000 by omega), hb, if_true, nI_1]
    · rw [if_neg hb]
      simp only [e52_9, e52_11, e52_14, e52_15, e52_16, e52_19, e52_20, e52_21, e52_22, e52_23, e52_26, e52_27, e52_30, e52_31, e52_32, e52_35, show (6 : Int32) = nI 6 from rfl, q_le (show 6 < 2147483648 by decide) (show j < 2147483648 by omega), show ¬ 6 ≤ j by omega, if_false, c_said hs (show j < 6 by omega), q_bs, q_tl, q_cn, e1, c_few H hS hw (show f < 1000 by omega), hb]
theorem c_fir {s w : Nat} (hs : s < 64) (hw : w < 64) {x : Int32} (hx : x = -1 ∨ ∃ k, k < 900 ∧ x = nI k) : ev 52 0 [.int (nI s), .int (nI w), .int x, .null] [] H = some (some (.int (qFir s w x)), H) := by
  unfold qFir
  rcases hx with rfl | ⟨k, hk, rfl⟩
  · simp only [e52_0, e52_1, e52_4, e52_5, show ((0 : Int32) < -1) = False from eq_false (by decide), if_false]
  · by_cases h0 : k = 0
    · subst h0
      simp only [e52_0, e52_1, e52_4, e52_5, show ((0 : Int32) < nI 0) = False from eq_false (by decide), if_false]
    · obtain ⟨f, rfl⟩ : ∃ f, k = f + 1 := ⟨k - 1, by omega⟩
      have h1 : ((0 : Int32) < nI (f + 1)) = True := by
        rw [show (0 : Int32) = nI 0 from rfl, q_lt (by decide) (by omega)]
        exact eq_true (by omega)
      simp only [e52_0, e52_1, e52_4, e52_5, e52_6, e52_7, h1, if_true, q_cl (show f + 1 < 2147483648 by omega)]
      exact l_fir H hs hw (by omega) 6 0 (by omega)
end KST
section KSU
variable {H : kH} {S : kS}
theorem x_statutes (hq : CR H S) (ho : sOK S) (w p : Int32) : ev 76 0 [.ref 0, .int w, .int p, .null] [] H = some (some (.int (fStat (sV S) w p)), H) := by
  have hR := hq.1
  have hV := ho.1
  have h5 := hV.2.1
  have hh := hV.2.2.2.2.2.1
  unfold fStat
  rcases q_case w (show 64 < 2147483648 by decide) with hl | hl | ⟨w, hl, rfl⟩
  · rw [qSel_lo hl]
    simp only [e76_0, e76_1, e76_4, e76_7, e76_8, e76_11, e76_12, e76_13, e76_16, e76_18, c_isSet_lo hl, q_bs, q_tl, q_cn, if_true]
  · rw [qSel_hi hl]
    simp only [e76_0, e76_1, e76_4, e76_7, e76_8, e76_11, e76_12, e76_13, e76_16, e76_18, c_isSet_hi hl, q_bs, q_tl, q_cn, if_true]
  · rw [qSel_in hl (by decide)]
    rcases q_case p (show 2 < 2147483648 by decide) with hm | hm | ⟨p, hm, rfl⟩
    · rw [qSel_lo hm]
      simp only [e76_0, e76_1, e76_4, e76_7, e76_8, e76_11, e76_12, e76_13, e76_16, e76_18, c_isSet_in hl, q_bs, q_tl, q_cn, t10, if_false, hm, if_true]
    · rw [qSel_hi hm]
      simp only [e76_0, e76_1, e76_4, e76_7, e76_8, e76_11, e76_12, e76_13, e76_16, e76_18, c_isSet_in hl, q_bs, q_tl, q_cn, t10, if_false, q_nlt (show 2 < 2147483648 by decide) hm, show (1 : Int32) = nI 1 from rfl, q_hi_le (show 2 < 2147483648 by decide) hm (show 1 < 2 by decide), show (nI 1 = (0 : Int32)) = False from eq_false (by decide)]
    · rw [qSel_in hm (by decide)]
      have e19 : ev 76 0 [.ref 0, .int (nI w), .int (nI p), .null] [] H = ev 76 19 [.ref 0, .int (nI w), .int (nI p), .null] [] H := by
        simp only [e76_0, e76_1, e76_4, e76_7, e76_8, e76_11, e76_12, e76_13, c_isSet_in hl, q_bs, q_tl, q_cn, t10, if_false, q_lt0 (show p < 2147483648 by omega), show (1 : Int32) = nI 1 from rfl, q_le (show p < 2147483648 by omega) (show 1 < 2147483648 by decide), show p ≤ 1 by omega, if_true, show (nI 1 = (0 : Int32)) = False from eq_false (by decide)]
      rw [e19]
      by_cases h0 : vn (sV S) = 0
      · rw [if_pos h0]
        simp only [e76_19, e76_20, e76_23, e76_26, e76_29, e76_31, c_seats hR, q_bs, q_tl, q_cn, h0, n00, not_true_eq_false, if_false]
      · rw [if_neg h0]
        have hx : qFw (vh (sV S)) w 7 0 = -1 ∨ ∃ k, k < 900 ∧ qFw (vh (sV S)) w 7 0 = nI k := by
          rcases qFw_in (vh (sV S)) w 7 0 with h | ⟨k, hk, h⟩
          · exact Or.inl h
          · exact Or.inr ⟨k, by omega, h⟩
        rcases (show p = 0 ∨ p = 1 by omega) with rfl | rfl
        · simp only [e76_19, e76_20, e76_23, e76_26, e76_29, e76_31, e76_32, e76_33, e76_36, e76_39, e76_40, e76_42, e76_45, e76_46, e76_47, e76_50, e76_51, e76_54, e76_55, e76_58, e76_61, e76_62, e76_63, e76_66, c_seats hR, c_held hR, q_bs, q_tl, q_cn, q_n0' (show vn (sV S) < 2147483648 by omega), h0, not_false_eq_true, if_true, show (6 : Int32) = nI 6 from rfl, c_few H hh hl (show 6 < 1000 by decide), n00, not_true_eq_false, if_false]
        · simp only [e76_19, e76_20, e76_23, e76_26, e76_29, e76_31, e76_32, e76_33, e76_36, e76_39, e76_40, e76_42, e76_45, e76_46, e76_47, e76_50, e76_51, e76_54, e76_55, e76_58, e76_61, e76_62, e76_63, e76_66, c_seats hR, c_held hR, q_bs, q_tl, q_cn, q_n0' (show vn (sV S) < 2147483648 by omega), h0, not_false_eq_true, if_true, show (6 : Int32) = nI 6 from rfl, c_few H hh hl (show 6 < 1000 by decide), show (nI 1 = (0 : Int32)) = False from eq_false (by decide), c_fir H hh hl hx, Nat.one_ne_zero, if_false]
end KSU
