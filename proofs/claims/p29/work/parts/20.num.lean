/-! numbers -/
theorem q_lt0 {j : Nat} (h : j < 2147483648) : (nI j < 0) = False := eq_false (nI_pos h)
theorem q_ge0 {j : Nat} (h : j < 2147483648) : (0 ≤ nI j) = True := eq_true (nI_pos' h)
theorem q_cl {j : Nat} (h : j < 2147483648) : (nI j).toNatClampNeg = j := nI_clamp h
theorem q_le {a b : Nat} (ha : a < 2147483648) (hb : b < 2147483648) : (nI a ≤ nI b) = (a ≤ b) := propext (nI_leI ha hb)
theorem q_lt {a b : Nat} (ha : a < 2147483648) (hb : b < 2147483648) : (nI a < nI b) = (a < b) := propext (nI_ltI ha hb)
theorem q_eq {a b : Nat} (ha : a < 2147483648) (hb : b < 2147483648) : (nI a = nI b) = (a = b) := propext (nI_eq ha hb)
theorem q_add (a b : Nat) : nI a + nI b = nI (a + b) := nI_add a b
theorem q_mul (a b : Nat) : nI a * nI b = nI (a * b) := pk_mul a b
theorem q_of (n : Nat) : Int32.ofNat n = nI n := rfl
theorem q_lit (n : Nat) : (OfNat.ofNat n : Int32) = nI n := rfl
theorem q_0 : (0 : Int32) = nI 0 := rfl
theorem q_litL (n : Nat) : (OfNat.ofNat n : Int64) = lN n := rfl
theorem q_sub {a b : Nat} (h : b ≤ a) : nI a - nI b = nI (a - b) := pk_sub h
theorem q_addL (a b : Nat) : lN a + lN b = lN (a + b) := lN_add a b
theorem q_mulL (a b : Nat) : lN a * lN b = lN (a * b) := lN_mul a b
theorem q_i2l {j : Nat} (h : j < 2147483648) : (nI j).toInt64 = lN j := nI_l h
theorem q_leL {a b : Nat} (ha : a < 2 ^ 63) (hb : b < 2 ^ 63) : (lN a ≤ lN b) = (a ≤ b) := by
  have h1 : (lN a).toInt = a := by rw [show lN a = Int64.ofNat a from rfl]; exact Int64.toInt_ofNat_of_lt ha
  have h2 : (lN b).toInt = b := by rw [show lN b = Int64.ofNat b from rfl]; exact Int64.toInt_ofNat_of_lt hb
  rw [Int64.le_iff_toInt_le, h1, h2]
  exact propext Int.ofNat_le
theorem q_ltL {a b : Nat} (ha : a < 2 ^ 63) (hb : b < 2 ^ 63) : (lN a < lN b) = (a < b) := by
  have h1 : (lN a).toInt = a := by rw [show lN a = Int64.ofNat a from rfl]; exact Int64.toInt_ofNat_of_lt ha
  have h2 : (lN b).toInt = b := by rw [show lN b = Int64.ofNat b from rfl]; exact Int64.toInt_ofNat_of_lt hb
  rw [Int64.lt_iff_toInt_lt, h1, h2]
  exact propext Int.ofNat_lt
theorem q_eqL {a b : Nat} (ha : a < 2 ^ 63) (hb : b < 2 ^ 63) : (lN a = lN b) = (a = b) := by
  have h1 : (lN a).toInt = a := by rw [show lN a = Int64.ofNat a from rfl]; exact Int64.toInt_ofNat_of_lt ha
  have h2 : (lN b).toInt = b := by rw [show lN b = Int64.ofNat b from rfl]; exact Int64.toInt_ofNat_of_lt hb
  apply propext
  constructor
  · intro h
    have := congrArg Int64.toInt h
    rw [h1, h2] at this
    omega
  · rintro rfl
    rfl
theorem q_and (a b : Nat) : nI a &&& nI b = nI (a &&& b) := by
  apply Int32.toBitVec_inj.1
  show BitVec.ofNat 32 a &&& BitVec.ofNat 32 b = BitVec.ofNat 32 (a &&& b)
  apply BitVec.eq_of_getLsbD_eq
  intro i hi
  simp [hi]
theorem q_or (a b : Nat) : nI a ||| nI b = nI (a ||| b) := by
  apply Int32.toBitVec_inj.1
  show BitVec.ofNat 32 a ||| BitVec.ofNat 32 b = BitVec.ofNat 32 (a ||| b)
  apply BitVec.eq_of_getLsbD_eq
  intro i hi
  simp [hi]
theorem q_andL (a b : Nat) : lN a &&& lN b = lN (a &&& b) := by
  apply Int64.toBitVec_inj.1
  show BitVec.ofNat 64 a &&& BitVec.ofNat 64 b = BitVec.ofNat 64 (a &&& b)
  apply BitVec.eq_of_getLsbD_eq
  intro i hi
  simp [hi]
theorem q_orL (a b : Nat) : lN a ||| lN b = lN (a ||| b) := by
  apply Int64.toBitVec_inj.1
  show BitVec.ofNat 64 a ||| BitVec.ofNat 64 b = BitVec.ofNat 64 (a ||| b)
  apply BitVec.eq_of_getLsbD_eq
  intro i hi
  simp [hi]
/-- an int is a number below a bound, or it isn't -/
theorem q_case (x : Int32) {n : Nat} (hn : n < 2147483648) : x < 0 ∨ nI n ≤ x ∨ ∃ j : Nat, j < n ∧ x = nI j := pk_ix x hn
theorem q_neg {x : Int32} (h : x < 0) : (0 ≤ x) = False := by
  refine eq_false (fun z => ?_)
  rw [Int32.lt_iff_toInt_lt] at h
  rw [Int32.le_iff_toInt_le] at z
  omega
theorem q_big {x : Int32} {n : Nat} (hn : n < 2147483648) (h : nI n ≤ x) : (x < 0) = False ∧ n ≤ x.toNatClampNeg := by
  rw [Int32.le_iff_toInt_le, nI_toInt hn] at h
  refine ⟨eq_false (fun z => ?_), ?_⟩
  · rw [Int32.lt_iff_toInt_lt] at z
    have e : (0 : Int32).toInt = 0 := rfl
    omega
  · show n ≤ x.toInt.toNat
    omega
theorem q_in1 {j n : Nat} (h : j < n) (hn : n < 2147483648) : ¬ (nI j < 0 ∨ nI n ≤ nI j) := by
  rintro (z | z)
  · rw [q_lt0 (by omega)] at z
    exact z
  · rw [q_le hn (by omega)] at z
    omega
theorem q_in2 {j n : Nat} (h : j < n) (hn : n < 2147483648) : ¬ (nI j < 0 ∨ n ≤ (nI j).toNatClampNeg) := by
  rintro (z | z)
  · rw [q_lt0 (by omega)] at z
    exact z
  · rw [q_cl (by omega)] at z
    omega
/-! what a step list needs -/
theorem q_bs {α β : Type} (a : α) (f : α → Option β) : (some a).bind f = f a := rfl
theorem q_tl (v : Value) : (some v).toList = [v] := rfl
theorem q_tn : (none : Option Value).toList = [] := rfl
theorem q_cn (v : Value) (l : List Value) : [v] ++ l = v :: l := rfl
theorem q_nn (l : List Value) : ([] : List Value) ++ l = l := rfl
/-! the class's own static methods -/
def pAt (f : Nat → Int32) (n : Nat) (i : Int32) : Int32 := if i < 0 ∨ n ≤ i.toNatClampNeg then 0 else f i.toNatClampNeg
def pAtL (f : Nat → Int64) (n : Nat) (i : Int32) : Int64 := if i < 0 ∨ n ≤ i.toNatClampNeg then 0 else f i.toNatClampNeg
theorem pAt_in {f : Nat → Int32} {n j : Nat} (h : j < n) (hn : n < 2147483648) : pAt f n (nI j) = f j := by
  unfold pAt
  rw [q_cl (by omega), if_neg]
  intro z
  rcases z with z | z
  · rw [q_lt0 (by omega)] at z
    exact z
  · omega
theorem pAtL_in {f : Nat → Int64} {n j : Nat} (h : j < n) (hn : n < 2147483648) : pAtL f n (nI j) = f j := by
  unfold pAtL
  rw [q_cl (by omega), if_neg]
  intro z
  rcases z with z | z
  · rw [q_lt0 (by omega)] at z
    exact z
  · omega
theorem q_out {i : Int32} {n : Nat} (hn : n < 2147483648) : (i < 0 ∨ n ≤ i.toNatClampNeg) = (i < 0 ∨ nI n ≤ i) := by
  apply propext
  rcases q_case i hn with h | h | ⟨j, hj, rfl⟩
  · simp [h]
  · simp [(q_big hn h).2, h]
  · rw [q_cl (by omega), q_le hn (by omega)]
theorem c_at {k n : Nat} (hs : shp k = (1, n)) (hn : n < 2147483648) (i : Int32) (H : kH) : ev 63 0 [.ref k, .int i] [] H = some (some (.int (pAt (hI H k) n i)), H) := by
  simp only [e63_0, e63_1, e63_4, e63_5, (e63_6 (hs := hs)), e63_7, e63_10, e63_11, (e63_12 (hs := hs)), e63_13, e63_16, e63_17]
  simp only [q_of, q_out hn, pAt]
  by_cases h1 : i < 0
  · simp [h1]
  · by_cases h2 : nI n ≤ i
    · simp [h1, h2]
    · simp [h1, h2]
theorem c_atL {k n : Nat} (hs : shp k = (2, n)) (hn : n < 2147483648) (i : Int32) (H : kH) : ev 64 0 [.ref k, .int i] [] H = some (some (.long (pAtL (hL H k) n i)), H) := by
  simp only [e64_0, e64_1, e64_4, e64_5, (e64_6 (hs := hs)), e64_7, e64_10, e64_11, (e64_12 (hs := hs)), e64_13, e64_16, e64_17]
  simp only [q_of, q_out hn, pAtL]
  by_cases h1 : i < 0
  · simp [h1]
  · by_cases h2 : nI n ≤ i
    · simp [h1, h2]
    · simp [h1, h2]
