/-! sums over sets -/
theorem nsum_add (f g : Nat → Nat) : ∀ n, nsum (fun j => f j + g j) n = nsum f n + nsum g n
  | 0 => rfl
  | n + 1 => by
    show nsum _ n + (f n + g n) = (nsum f n + f n) + (nsum g n + g n)
    rw [nsum_add f g n]
    omega
theorem nsum_mulr (f : Nat → Nat) (c : Nat) : ∀ n, nsum (fun j => f j * c) n = nsum f n * c
  | 0 => (Nat.zero_mul c).symm
  | n + 1 => by
    show nsum _ n + _ = (nsum f n + f n) * c
    rw [nsum_mulr f c n, Nat.add_mul]
theorem nsum_mull (f : Nat → Nat) (c : Nat) : ∀ n, nsum (fun j => c * f j) n = c * nsum f n
  | 0 => (Nat.mul_zero c).symm
  | n + 1 => by
    show nsum _ n + _ = c * (nsum f n + f n)
    rw [nsum_mull f c n, Nat.mul_add]
theorem nsum_zero : ∀ n, nsum (fun _ => 0) n = 0
  | 0 => rfl
  | n + 1 => by
    show nsum _ n + 0 = 0
    rw [nsum_zero n]
theorem nsum_swap (f : Nat → Nat → Nat) (m : Nat) : ∀ n, nsum (fun i => nsum (fun j => f i j) m) n = nsum (fun j => nsum (fun i => f i j) n) m
  | 0 => (nsum_zero m).symm
  | n + 1 => by
    show nsum _ n + nsum _ m = nsum (fun j => nsum (fun i => f i j) n + f n j) m
    rw [nsum_swap f m n, nsum_add]
theorem nsum_split (f : Nat → Nat) (a : Nat) : ∀ b, nsum f (a + b) = nsum f a + nsum (fun j => f (j + a)) b
  | 0 => rfl
  | b + 1 => by
    show nsum f (a + b) + f (a + b) = nsum f a + (nsum _ b + f (b + a))
    rw [nsum_split f a b, Nat.add_comm b a]
    omega
theorem nsum_one (X : Nat → Nat) (p : Nat) : ∀ n, nsum (fun j => if p = j then X j else 0) n = if p < n then X p else 0
  | 0 => rfl
  | n + 1 => by
    show nsum _ n + (if p = n then X n else 0) = _
    rw [nsum_one X p n]
    by_cases h : p = n
    · subst h
      rw [if_neg (Nat.lt_irrefl _), if_pos rfl, if_pos (Nat.lt_succ_self _), Nat.zero_add]
    · by_cases h2 : p < n
      · rw [if_pos h2, if_neg h, if_pos (by omega), Nat.add_zero]
      · rw [if_neg h2, if_neg h, if_neg (by omega)]
/-- all sets of n together -/
theorem qw_all {t u : Nat → Nat} {M : Nat} : ∀ n, (∀ j, j < n → t j + u j = M) → nsum (qw t u n) (2 ^ n) = M ^ n
  | 0, _ => rfl
  | n + 1, h => by
    have ih := qw_all (t := t) (u := u) (M := M) n (fun j hj => h j (by omega))
    have hp : 2 ^ (n + 1) = 2 ^ n + 2 ^ n := by rw [Nat.pow_succ]; omega
    rw [hp, nsum_split]
    have e1 : nsum (qw t u (n + 1)) (2 ^ n) = nsum (qw t u n) (2 ^ n) * u n := by
      rw [← nsum_mulr]
      exact nsum_cong (fun s hs => qw_lo hs)
    have e2 : nsum (fun s => qw t u (n + 1) (s + 2 ^ n)) (2 ^ n) = nsum (qw t u n) (2 ^ n) * t n := by
      rw [← nsum_mulr]
      exact nsum_cong (fun s hs => qw_hi hs)
    rw [e1, e2, ← Nat.mul_add, ih, Nat.pow_succ, Nat.add_comm (u n), h n (by omega)]
/-- by king, or set by set -/
theorem nsum_grp (w pl X : Nat → Nat) (n : Nat) (hp : ∀ s, pl s ≤ n) : ∀ m, nsum (fun s => if pl s = 0 then w s else 0) m * X 0 + nsum (fun j => nsum (fun s => if pl s = j + 1 then w s else 0) m * X (j + 1)) n = nsum (fun s => w s * X (pl s)) m
  | 0 => by
    show 0 * X 0 + nsum (fun j => 0 * X (j + 1)) n = 0
    simp only [Nat.zero_mul, nsum_zero]
  | m + 1 => by
    have ih := nsum_grp w pl X n hp m
    show (nsum _ m + (if pl m = 0 then w m else 0)) * X 0 + nsum (fun j => (nsum (fun s => if pl s = j + 1 then w s else 0) m + (if pl m = j + 1 then w m else 0)) * X (j + 1)) n = nsum _ m + w m * X (pl m)
    rw [← ih]
    have e : (fun j => (nsum (fun s => if pl s = j + 1 then w s else 0) m + (if pl m = j + 1 then w m else 0)) * X (j + 1)) = (fun j => nsum (fun s => if pl s = j + 1 then w s else 0) m * X (j + 1) + (if pl m = j + 1 then w m else 0) * X (j + 1)) := funext (fun j => Nat.add_mul _ _ _)
    rw [e, nsum_add, Nat.add_mul]
    have e2 : (if pl m = 0 then w m else 0) * X 0 + nsum (fun j => (if pl m = j + 1 then w m else 0) * X (j + 1)) n = w m * X (pl m) := by
      by_cases h0 : pl m = 0
      · rw [if_pos h0, h0]
        have : (fun j => (if (0 : Nat) = j + 1 then w m else 0) * X (j + 1)) = fun _ => 0 := funext (fun j => by rw [if_neg (by omega), Nat.zero_mul])
        rw [this, nsum_zero, Nat.add_zero]
      · obtain ⟨q, hq⟩ : ∃ q, pl m = q + 1 := ⟨pl m - 1, by omega⟩
        have hqn : q < n := by have := hp m; omega
        rw [if_neg h0, hq, Nat.zero_mul, Nat.zero_add]
        have : (fun j => (if q + 1 = j + 1 then w m else 0) * X (j + 1)) = fun j => if q = j then w m * X (j + 1) else 0 := funext (fun j => by
          by_cases hj : q = j
          · rw [if_pos (by omega), if_pos hj]
          · rw [if_neg (by omega), if_neg hj, Nat.zero_mul])
        rw [this, nsum_one (fun j => w m * X (j + 1)), if_pos hqn]
    omega
/-- how many of ten to as many as there are sneeze just so -/
def qo (V : kV) (num dr : Int32) (h s : Nat) : Nat := qw (fun q => qtn V q num h dr) (fun q => 10 - qtn V q num h dr) (vn V) s
/-- whether a set can sneeze, x sneezing if told -/
theorem qtn_le9 (V : kV) (j : Nat) (num : Int32) (h : Nat) (dr : Int32) : qtn V j num h dr ≤ 9 := qT_le (vk V j) (vo V j) (vp V) (nI j = dr) (qEvb num = true) (h.testBit 3 = true)
theorem qo_all (V : kV) (num dr : Int32) (h : Nat) : nsum (fun s => qo V num dr h s) (2 ^ vn V) = 10 ^ vn V := by
  refine qw_all (vn V) (fun j hj => ?_)
  have := qtn_le9 V j num h dr
  omega
theorem nsum_mono {f g : Nat → Nat} : ∀ {n : Nat}, (∀ j, j < n → f j ≤ g j) → nsum f n ≤ nsum g n
  | 0, _ => Nat.le_refl _
  | n + 1, h => Nat.add_le_add (nsum_mono (fun j hj => h j (by omega))) (h n (by omega))
theorem p15 {a m : Nat} (ha : a ≤ 5) (hm : m ≤ 3) : 10 ^ (a * m) < 2 ^ 63 := by
  have h1 : a * m ≤ 15 := Nat.le_trans (Nat.mul_le_mul ha hm) (by decide)
  have h2 : 10 ^ (a * m) ≤ 10 ^ 15 := Nat.pow_le_pow_right (by decide) h1
  have h3 : (10 : Nat) ^ 15 < 2 ^ 63 := by decide
  omega
