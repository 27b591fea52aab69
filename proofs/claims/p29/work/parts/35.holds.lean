/-! what holds, what had best be said, what fits -/
theorem q_hi_le {x : Int32} {n m : Nat} (hn : n < 2147483648) (h : nI n ≤ x) (hm : m < n) : (x ≤ nI m) = False := by
  have := q_toInt_hi hn h
  refine eq_false (fun z => ?_)
  rw [Int32.le_iff_toInt_le, nI_toInt (by omega)] at z
  omega
theorem q_lt_hi {x : Int32} {n m : Nat} (hn : n < 2147483648) (h : nI n ≤ x) (hm : m < n) : (nI m < x) = True := by
  have := q_toInt_hi hn h
  refine eq_true ?_
  rw [Int32.lt_iff_toInt_lt, nI_toInt (by omega)]
  omega
section KHO
variable {H : kH} {S : kS}
end KHO
