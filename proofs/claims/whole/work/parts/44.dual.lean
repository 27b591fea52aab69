/-! forward and back -/
def fw (w D : Nat → Nat → Nat) (N : Nat) (F : Nat → Nat) (q : Nat) : Nat := nsum (fun k => nsum (fun s => if D k s = q then F k * w k s else 0) N) 64
theorem nsum_mulz (f : Nat → Nat) (p : Nat → Prop) [DecidablePred p] (c : Nat) (n : Nat) : nsum (fun s => if p s then f s else 0) n * c = nsum (fun s => if p s then f s * c else 0) n := by
  rw [← nsum_mulr]
  refine nsum_cong (fun s _ => ?_)
  by_cases h : p s
  · rw [if_pos h, if_pos h]
  · rw [if_neg h, if_neg h, Nat.zero_mul]
theorem fw_dual (w D : Nat → Nat → Nat) (N : Nat) (F W : Nat → Nat) (hD : ∀ k, k < 64 → ∀ s, s < N → D k s < 64) : nsum (fun q => fw w D N F q * W q) 64 = nsum (fun k => F k * nsum (fun s => w k s * W (D k s)) N) 64 := by
  have e1 : nsum (fun q => fw w D N F q * W q) 64 = nsum (fun q => nsum (fun k => nsum (fun s => if D k s = q then F k * w k s * W q else 0) N) 64) 64 := by
    refine nsum_cong (fun q _ => ?_)
    unfold fw
    rw [← nsum_mulr]
    refine nsum_cong (fun k _ => ?_)
    exact nsum_mulz (fun s => F k * w k s) (fun s => D k s = q) (W q) N
  rw [e1, nsum_swap]
  refine nsum_cong (fun k hk => ?_)
  rw [nsum_swap, ← nsum_mull]
  refine nsum_cong (fun s hs => ?_)
  rw [nsum_one (fun q => F k * w k s * W q), if_pos (hD k hk s hs), Nat.mul_assoc]
theorem nsum_ge {f : Nat → Nat} : ∀ {n j : Nat}, j < n → f j ≤ nsum f n
  | 0, j, h => absurd h (Nat.not_lt_zero j)
  | n + 1, j, h => by
    show f j ≤ nsum f n + f n
    by_cases e : j = n
    · subst e
      omega
    · have := nsum_ge (f := f) (n := n) (j := j) (by omega)
      omega
/-- from one on, the hours forward -/
def qFH (V : kV) (f : Nat) : Nat → Nat → Nat
  | 0 => fun q => if f = q then 1 else 0
  | m + 1 => fw (fun k s => qo V (vt V + nI m) (vd V) k s) (qD V) (2 ^ vn V) (qFH V f m)
theorem qFH_dual {V : kV} (hV : vOK V) {f : Nat} (hf : f < 64) : ∀ m W, nsum (fun q => qFH V f m q * W q) 64 = qLL V W m f
  | 0, W => by
    have e : (fun q => qFH V f 0 q * W q) = fun q => if f = q then W q else 0 := funext (fun q => by
      show (if f = q then 1 else 0) * W q = _
      by_cases h : f = q
      · rw [if_pos h, if_pos h, Nat.one_mul]
      · rw [if_neg h, if_neg h, Nat.zero_mul])
    rw [e, nsum_one, if_pos hf]
    rfl
  | m + 1, W => by
    show nsum (fun q => fw (fun k s => qo V (vt V + nI m) (vd V) k s) (qD V) (2 ^ vn V) (qFH V f m) q * W q) 64 = qLL V (qstep V (vt V + nI m) W) m f
    rw [fw_dual _ _ _ _ _ (fun k hk s _ => qD_lt hV hk s), ← qFH_dual hV hf m]
    exact nsum_cong (fun k _ => by rw [qstep_sum hV])
theorem qFH_lt {V : kV} (hV : vOK V) {f : Nat} (hf : f < 64) {m : Nat} (hm : m ≤ 3) {q : Nat} (hq : q < 64) : qFH V f m q < 2 ^ 63 := by
  have h1 := qFH_dual hV hf m (fun _ => 1)
  have h2 := nsum_ge (f := fun q => qFH V f m q * 1) hq
  have h3 := qLL_le hV m (W := fun _ => 1) (M := 1) (fun _ => Nat.le_refl _) f
  have h4 := p15 hV.2.1 hm
  omega
/-- what the model adds at the end -/
theorem qFH_bits {V : kV} (hV : vOK V) {f : Nat} (hf : f < 64) (l m : Nat) : nsum (fun q => if q.testBit l = true then qFH V f m q else 0) 64 = qLL V (qbit l) m f := by
  rw [← qFH_dual hV hf m]
  refine nsum_cong (fun q _ => ?_)
  unfold qbit
  by_cases h : q.testBit l = true
  · rw [if_pos h, if_pos h, Nat.mul_one]
  · rw [if_neg h, if_neg h, Nat.mul_zero]
/-! ways -/
def qis (V : kV) (num x b : Int32) (k s : Nat) : Prop := qMy V num k s (vn V) = true ∧ (b = -1 ∨ nI (qD V k s) = b) ∧ ∀ j, j < vn V → nI j = x → s.testBit j = true
theorem qok_iff (V : kV) (num x : Int32) (k s : Nat) : ∀ n, qw (qy V num k) (qz x) n s = 1 ∧ (qMy V num k s n = true ∧ ∀ j, j < n → nI j = x → s.testBit j = true) ∨ qw (qy V num k) (qz x) n s = 0 ∧ ¬ (qMy V num k s n = true ∧ ∀ j, j < n → nI j = x → s.testBit j = true)
  | 0 => Or.inl ⟨rfl, rfl, fun j hj => absurd hj (Nat.not_lt_zero j)⟩
  | n + 1 => by
    show qw (qy V num k) (qz x) n s * (if s.testBit n = true then qy V num k n else qz x n) = 1 ∧ ((qMy V num k s n && (!(s.testBit n) || decide (0 < qtn V n num k (vd V)))) = true ∧ _) ∨ qw (qy V num k) (qz x) n s * (if s.testBit n = true then qy V num k n else qz x n) = 0 ∧ ¬ ((qMy V num k s n && (!(s.testBit n) || decide (0 < qtn V n num k (vd V)))) = true ∧ _)
    rcases qok_iff V num x k s n with ⟨e, h1, h2⟩ | ⟨e, h⟩
    · rw [e, h1, Nat.one_mul, Bool.true_and]
      cases hb : s.testBit n with
      | true =>
        rw [if_pos rfl]
        unfold qy
        by_cases ht : 0 < qtn V n num k (vd V)
        · refine Or.inl ⟨if_pos ht, by rw [decide_eq_true ht]; rfl, fun j hj hx => ?_⟩
          by_cases ej : j = n
          · subst ej
            exact hb
          · exact h2 j (by omega) hx
        · refine Or.inr ⟨if_neg ht, fun z => ?_⟩
          rw [decide_eq_false ht] at z
          exact absurd z.1 (by decide)
      | false =>
        rw [if_neg (by decide)]
        unfold qz
        by_cases hx : nI n = x
        · refine Or.inr ⟨if_pos hx, fun z => ?_⟩
          have := z.2 n (by omega) hx
          rw [hb] at this
          exact absurd this (by decide)
        · refine Or.inl ⟨if_neg hx, rfl, fun j hj hjx => ?_⟩
          by_cases ej : j = n
          · subst ej
            exact absurd hjx hx
          · exact h2 j (by omega) hjx
    · refine Or.inr ⟨by rw [e, Nat.zero_mul], fun z => h ⟨?_, fun j hj hx => z.2 j (by omega) hx⟩⟩
      exact (Bool.and_eq_true _ _ ▸ z.1).1
/-- one way or none -/
def qwy (V : kV) (num x b : Int32) (k s : Nat) : Nat := qok V num x k s * (if b = -1 ∨ nI (qD V k s) = b then 1 else 0)
theorem qwy_le (V : kV) (num x b : Int32) (k s : Nat) : qwy V num x b k s ≤ 1 := by
  unfold qwy qok
  rcases qok_iff V num x k s (vn V) with ⟨e, -⟩ | ⟨e, -⟩
  · rw [e]
    split <;> omega
  · rw [e]
    omega
theorem qwy_pos {V : kV} {num x b : Int32} {k s : Nat} (h : qis V num x b k s) : qwy V num x b k s = 1 := by
  unfold qwy qok
  rcases qok_iff V num x k s (vn V) with ⟨e, -⟩ | ⟨-, e⟩
  · rw [e, if_pos h.2.1]
  · exact absurd ⟨h.1, h.2.2⟩ e
theorem qwy_neg {V : kV} {num x b : Int32} {k s : Nat} (h : ¬ qis V num x b k s) : qwy V num x b k s = 0 := by
  unfold qwy qok
  rcases qok_iff V num x k s (vn V) with ⟨-, e⟩ | ⟨e, -⟩
  · rw [if_neg (fun z => h ⟨e.1, z, e.2⟩), Nat.mul_zero]
  · rw [e, Nat.zero_mul]
theorem qstepB_wy {V : kV} (hV : vOK V) (sx px : Int32) (m : Nat) (W : Nat → Nat) (h : Nat) : qstepB V sx px m W h = nsum (fun s => qwy V (vt V + nI m) (qBx sx px m) (vB V m) h s * W (qD V h s)) (2 ^ vn V) := by
  rw [qstepB_sum hV]
  refine nsum_cong (fun s _ => ?_)
  unfold qwy qKeep
  by_cases h1 : vB V m = -1
  · rw [if_pos h1, if_pos (Or.inl h1), Nat.mul_one]
  · rw [if_neg h1]
    by_cases h2 : nI (qD V h s) = vB V m
    · rw [if_pos h2, if_pos (Or.inr h2), Nat.mul_one]
    · rw [if_neg h2, if_neg (fun z => z.elim h1 h2), Nat.mul_zero, Nat.zero_mul]
def qFB (V : kV) (sx px : Int32) (f : Nat) : Nat → Nat → Nat
  | 0 => fun q => if f = q then 1 else 0
  | m + 1 => fw (fun k s => qwy V (vt V + nI m) (qBx sx px m) (vB V m) k s) (qD V) (2 ^ vn V) (qFB V sx px f m)
theorem qFB_dual {V : kV} (hV : vOK V) (sx px : Int32) {f : Nat} (hf : f < 64) : ∀ m W, nsum (fun q => qFB V sx px f m q * W q) 64 = qLB V sx px W m f
  | 0, W => by
    have e : (fun q => qFB V sx px f 0 q * W q) = fun q => if f = q then W q else 0 := funext (fun q => by
      show (if f = q then 1 else 0) * W q = _
      by_cases h : f = q
      · rw [if_pos h, if_pos h, Nat.one_mul]
      · rw [if_neg h, if_neg h, Nat.zero_mul])
    rw [e, nsum_one, if_pos hf]
    rfl
  | m + 1, W => by
    show nsum (fun q => fw (fun k s => qwy V (vt V + nI m) (qBx sx px m) (vB V m) k s) (qD V) (2 ^ vn V) (qFB V sx px f m) q * W q) 64 = qLB V sx px (qstepB V sx px m W) m f
    rw [fw_dual _ _ _ _ _ (fun k hk s _ => qD_lt hV hk s), ← qFB_dual hV sx px hf m]
    exact nsum_cong (fun k _ => by rw [qstepB_wy hV])
theorem qstepB_le {V : kV} (hV : vOK V) (sx px : Int32) (m : Nat) {W : Nat → Nat} {M : Nat} (hW : ∀ h, W h ≤ M) (h : Nat) : qstepB V sx px m W h ≤ 32 * M := by
  rw [qstepB_wy hV]
  have h1 : nsum (fun s => qwy V (vt V + nI m) (qBx sx px m) (vB V m) h s * W (qD V h s)) (2 ^ vn V) ≤ 2 ^ vn V * M := nsum_le (fun s _ => by
    have := Nat.mul_le_mul (qwy_le V (vt V + nI m) (qBx sx px m) (vB V m) h s) (hW (qD V h s))
    omega)
  have h2 := Nat.mul_le_mul_right M (pow2_le hV.2.1)
  omega
theorem qLB_le {V : kV} (hV : vOK V) (sx px : Int32) : ∀ (m : Nat) {W : Nat → Nat} {M : Nat}, (∀ h, W h ≤ M) → ∀ h, qLB V sx px W m h ≤ 32 ^ m * M
  | 0, W, M, hW, h => by
    show W h ≤ 1 * M
    rw [Nat.one_mul]
    exact hW h
  | m + 1, W, M, hW, h => by
    have e := qLB_le hV sx px m (W := qstepB V sx px m W) (qstepB_le hV sx px m hW) h
    rw [← Nat.mul_assoc, ← Nat.pow_succ] at e
    exact e
theorem qFB_lt {V : kV} (hV : vOK V) (sx px : Int32) {f : Nat} (hf : f < 64) {m : Nat} (hm : m ≤ 5) {q : Nat} (hq : q < 64) : qFB V sx px f m q < 2 ^ 63 := by
  have h1 := qFB_dual hV sx px hf m (fun _ => 1)
  have h2 := nsum_ge (f := fun q => qFB V sx px f m q * 1) hq
  have h3 := qLB_le hV sx px m (W := fun _ => 1) (M := 1) (fun _ => Nat.le_refl _) f
  have h4 : 32 ^ m ≤ 32 ^ 5 := Nat.pow_le_pow_right (by decide) hm
  have h5 : (32 : Nat) ^ 5 < 2 ^ 63 := by decide
  omega
theorem qFB_all {V : kV} (hV : vOK V) (sx px : Int32) {f : Nat} (hf : f < 64) (m : Nat) : nsum (fun q => qFB V sx px f m q) 64 = qLB V sx px (fun _ => 1) m f := by
  rw [← qFB_dual hV sx px hf m]
  exact nsum_cong (fun q _ => (Nat.mul_one _).symm)
