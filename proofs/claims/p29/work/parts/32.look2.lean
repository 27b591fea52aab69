/-! looking back over hours -/
theorem qw_le {t u : Nat → Nat} {M : Nat} (h : ∀ j, t j ≤ M ∧ u j ≤ M) : ∀ n s, qw t u n s ≤ M ^ n
  | 0, _ => Nat.le_refl _
  | n + 1, s => by
    unfold qw
    rw [Nat.pow_succ]
    refine Nat.mul_le_mul (qw_le h n s) ?_
    split
    · exact (h n).1
    · exact (h n).2
theorem nsum_le {f : Nat → Nat} {M : Nat} : ∀ {n : Nat}, (∀ j, j < n → f j ≤ M) → nsum f n ≤ n * M
  | 0, _ => by simp [nsum]
  | n + 1, h => by
    have h1 := nsum_le (n := n) (fun j hj => h j (by omega))
    have h2 := h n (by omega)
    unfold nsum
    rw [Nat.succ_mul]
    omega
theorem nsum_cong {f g : Nat → Nat} : ∀ {n : Nat}, (∀ j, j < n → f j = g j) → nsum f n = nsum g n
  | 0, _ => rfl
  | n + 1, h => by
    unfold nsum
    rw [nsum_cong (fun j hj => h j (by omega)), h n (by omega)]
theorem qr_le {t u kd : Nat → Nat} {n p M : Nat} (h : ∀ j, t j ≤ M ∧ u j ≤ M) : ∀ m, qr t u kd n p m ≤ m * M ^ n := by
  intro m
  refine nsum_le (fun s _ => ?_)
  split
  · exact qw_le h n s
  · exact Nat.zero_le _
theorem pow2_le {n : Nat} (h : n ≤ 5) : 2 ^ n ≤ 32 := by
  have : 2 ^ n ≤ 2 ^ 5 := Nat.pow_le_pow_right (by decide) h
  omega
theorem pow10_le {n : Nat} (h : n ≤ 5) : 10 ^ n ≤ 100000 := by
  have : 10 ^ n ≤ 10 ^ 5 := Nat.pow_le_pow_right (by decide) h
  omega
theorem rT_le {V : kV} (hV : vOK V) (num dr : Int32) (h p : Nat) : rT V num dr h p ≤ 3200000 := by
  have h5 := hV.2.1
  have h1 := qr_le (t := fun q => qtn V q num h dr) (u := fun q => 10 - qtn V q num h dr) (kd := vk V) (n := vn V) (p := p) (M := 10) (fun j => ⟨by
    have := qT_le (vk V j) (vo V j) (vp V) (nI j = dr) (qEvb num = true) (h.testBit 3 = true)
    have h2 : qtn V j num h dr ≤ 9 := this
    show qtn V j num h dr ≤ 10
    omega, Nat.sub_le _ _⟩) (2 ^ vn V)
  have h2 := Nat.mul_le_mul (pow2_le h5) (pow10_le h5)
  exact Nat.le_trans h1 h2
/-- the hours m - 1 down to 0 -/
theorem q_pm1 (m : Nat) : nI m - 1 = nI m + (-1) := Int32.sub_eq_add_neg _ _
section KLM
variable {V : kV}
/-! the book -/
end KLM
