/-! the abstract machine is the machine: the picture of a state -/
def vR (ad : Nat → Nat) : Value → Value
  | .ref k => .ref (ad k)
  | v => v
theorem vR_cat (ad : Nat → Nat) (v : Value) : (vR ad v).category = v.category := by cases v <;> rfl
def kfv (ad : Nat → Nat) (H : kH) (k c f : Nat) : Value :=
  match fki c f with
  | 0 => .int (hI H k f)
  | 1 => .int (hI H k f)
  | 2 => .long (hL H k f)
  | 3 => .ref (ad (sref k f))
  | _ => .null
def knf (c : Nat) : Nat := (kfk.getD c []).length
def shz (k : Nat) : Nat × Nat := if k = 30 then (1, 19) else shp k
def kcell (ad : Nat → Nat) (cI cL : ClassId) (H : kH) (k : Nat) : va_E :=
  match shz k with
  | (0, c) => .inr (c, (List.range (knf c)).map (fun f => kfv ad H k c f))
  | (1, n) => .inl (cI, n, .inl (hI H k))
  | (2, n) => .inl (cL, n, .inr (.inl (hL H k)))
  | _ => .inr (0, [])
def kW (ad : Nat → Nat) (cI cL : ClassId) (H : kH) : va_W := (List.range (nW H)).map (fun k => (ad k, kcell ad cI cL H k))
theorem kW_get {ad : Nat → Nat} {cI cL : ClassId} {H : kH} {k : Nat} (hk : k < nW H) : (kW ad cI cL H)[k]? = some (ad k, kcell ad cI cL H k) := by
  unfold kW
  rw [List.getElem?_map, List.getElem?_range hk]
  rfl
theorem kW_len (ad : Nat → Nat) (cI cL : ClassId) (H : kH) : (kW ad cI cL H).length = nW H := by simp [kW]
theorem kW_lt {ad : Nat → Nat} {cI cL : ClassId} {H : kH} {k : Nat} {q : Nat × va_E} (h : (kW ad cI cL H)[k]? = some q) : k < nW H ∧ q = (ad k, kcell ad cI cL H k) := by
  have h1 : k < nW H := by
    have := (List.getElem?_eq_some_iff.mp h).1
    rwa [kW_len] at this
  rw [kW_get h1] at h
  exact ⟨h1, (Option.some.inj h).symm⟩
theorem nW_ge (H : kH) : 30 ≤ nW H := by
  unfold nW
  split <;> omega
theorem nW_le (H : kH) : nW H ≤ 31 := by
  unfold nW
  split <;> omega
theorem nW_of {H H' : kH} (h : H'.2.2 = H.2.2) : nW H' = nW H := by
  unfold nW fl
  rw [h]
/-- what may be written: all that was made since the law began -/
def kA (B : Nat) : Nat → Prop := fun q => B ≤ q
def kInj (B N : Nat) (ad : Nat → Nat) : Prop := (∀ i j, i < N → j < N → ad i = ad j → i = j) ∧ ∀ k, k < N → B ≤ ad k
theorem kD {B : Nat} {ad : Nat → Nat} {cI cL : ClassId} {H : kH} (hi : kInj B (nW H) ad) : va_D (kA B) (kW ad cI cL H) := by
  refine ⟨fun i j p q hp hq e => ?_, fun k q hq => ?_⟩
  · obtain ⟨h1, rfl⟩ := kW_lt hp
    obtain ⟨h2, rfl⟩ := kW_lt hq
    exact hi.1 i j h1 h2 e
  · obtain ⟨h1, rfl⟩ := kW_lt hq
    exact hi.2 k h1
theorem kW_set {ad : Nat → Nat} {cI cL : ClassId} {H H' : kH} {k : Nat} {e : va_E} (hk : k < nW H) (hn : H'.2.2 = H.2.2) (he : e = kcell ad cI cL H' k) (h : ∀ j, j ≠ k → kcell ad cI cL H' j = kcell ad cI cL H j) : (kW ad cI cL H).set k (ad k, e) = kW ad cI cL H' := by
  subst he
  have hn := nW_of hn
  apply List.ext_getElem?
  intro j
  by_cases hj : j = k
  · subst hj
    rw [List.getElem?_set_self (by rw [kW_len]; exact hk), kW_get (by rw [hn]; exact hk)]
  · rw [List.getElem?_set_ne (Ne.symm hj)]
    by_cases hw : j < nW H
    · rw [kW_get hw, kW_get (by rw [hn]; exact hw), h j hj]
    · rw [List.getElem?_eq_none (by rw [kW_len]; omega), List.getElem?_eq_none (by rw [kW_len, hn]; omega)]
theorem hI_uI (H : kH) (k j : Nat) (v : Int32) (a b : Nat) : hI (uI H k j v) a b = if a = k ∧ b = j then v else hI H a b := rfl
theorem hL_uI (H : kH) (k j : Nat) (v : Int32) (a b : Nat) : hL (uI H k j v) a b = hL H a b := rfl
theorem hR_uI (H : kH) (k j : Nat) (v : Int32) (a b : Nat) : hR (uI H k j v) a b = hR H a b := rfl
theorem hI_uL (H : kH) (k j : Nat) (v : Int64) (a b : Nat) : hI (uL H k j v) a b = hI H a b := rfl
theorem hL_uL (H : kH) (k j : Nat) (v : Int64) (a b : Nat) : hL (uL H k j v) a b = if a = k ∧ b = j then v else hL H a b := rfl
theorem hR_uL (H : kH) (k j : Nat) (v : Int64) (a b : Nat) : hR (uL H k j v) a b = hR H a b := rfl
theorem hI_uR (H : kH) (k j : Nat) (v : Nat) (a b : Nat) : hI (uR H k j v) a b = hI H a b := rfl
theorem hL_uR (H : kH) (k j : Nat) (v : Nat) (a b : Nat) : hL (uR H k j v) a b = hL H a b := rfl
theorem hR_uR (H : kH) (k j : Nat) (v : Nat) (a b : Nat) : hR (uR H k j v) a b = if a = k ∧ b = j then v else hR H a b := rfl
theorem hI_uC (H : kH) (k : Nat) (f : Nat → Int32) (a b : Nat) : hI (uC H k f) a b = if a = k then f b else hI H a b := rfl
theorem hL_uC (H : kH) (k : Nat) (f : Nat → Int32) (a b : Nat) : hL (uC H k f) a b = hL H a b := rfl
theorem hR_uC (H : kH) (k : Nat) (f : Nat → Int32) (a b : Nat) : hR (uC H k f) a b = hR H a b := rfl
theorem kfv_congr {ad : Nat → Nat} {H H' : kH} {k c f : Nat} (h1 : hI H' k f = hI H k f) (h2 : hL H' k f = hL H k f) (h3 : hR H' k f = hR H k f) : kfv ad H' k c f = kfv ad H k c f := by
  unfold kfv
  rw [h1, h2]
theorem kcell_congr {ad : Nat → Nat} {cI cL : ClassId} {H H' : kH} {k : Nat} (h1 : ∀ f, hI H' k f = hI H k f) (h2 : ∀ f, hL H' k f = hL H k f) (h3 : ∀ f, hR H' k f = hR H k f) : kcell ad cI cL H' k = kcell ad cI cL H k := by
  have e1 : hI H' k = hI H k := funext h1
  have e2 : hL H' k = hL H k := funext h2
  have e3 : (fun f c => kfv ad H' k c f) = (fun f c => kfv ad H k c f) := by
    funext f c
    exact kfv_congr (h1 f) (h2 f) (h3 f)
  unfold kcell
  rw [e1, e2]
  have e4 : ∀ c, (fun f => kfv ad H' k c f) = (fun f => kfv ad H k c f) := fun c => funext fun f => kfv_congr (h1 f) (h2 f) (h3 f)
  split <;> first | rfl | (rw [e4])
/-- a field is written -/
theorem kcell_put {ad : Nat → Nat} {cI cL : ClassId} {H H' : kH} {k c f : Nat} {v : Value} (hs : shz k = (0, c)) (hv : kfv ad H' k c f = v) (ho : ∀ g, g ≠ f → kfv ad H' k c g = kfv ad H k c g) : (Sum.inr (c, ((List.range (knf c)).map (fun f => kfv ad H k c f)).set f v) : va_E) = kcell ad cI cL H' k := by
  unfold kcell
  rw [hs]
  show (Sum.inr (c, _) : va_E) = Sum.inr (c, _)
  congr 2
  apply List.ext_getElem?
  intro j
  by_cases hj : j = f
  · subst hj
    by_cases hl : j < knf c
    · rw [List.getElem?_set_self (by simpa using hl), List.getElem?_map, List.getElem?_range hl]
      exact congrArg some hv.symm
    · rw [List.getElem?_eq_none (by simp; omega), List.getElem?_eq_none (by simp; omega)]
  · rw [List.getElem?_set_ne (Ne.symm hj)]
    by_cases hl : j < knf c
    · rw [List.getElem?_map, List.getElem?_map, List.getElem?_range hl]
      exact congrArg some (ho j hj).symm
    · rw [List.getElem?_eq_none (by simp; omega), List.getElem?_eq_none (by simp; omega)]
/-- the locals -/
def kLR (ad : Nat → Nat) (arr : Array Slot) (n : Nat) (ls : List Value) : Prop := arr.size = n ∧ ls.length = n ∧ lv_wf arr ∧ ∀ (i : Nat) (v : Value), ls[i]? = some v → v ≠ .null → arr[i]? = some (.val (vR ad v))
def kpo (ad : Nat → Nat) (i : Nat) (o : Option Value) : Option (Nat × Value) :=
  match o with
  | some Value.null => none
  | some v => some (i, vR ad v)
  | none => none
def kpr (ad : Nat → Nat) (ls : List Value) : List (Nat × Value) := (List.range ls.length).filterMap (fun i => kpo ad i ls[i]?)
theorem kpr_mem {ad : Nat → Nat} {ls : List Value} {q : Nat × Value} (h : q ∈ kpr ad ls) : ∃ v, ls[q.1]? = some v ∧ v ≠ .null ∧ q.2 = vR ad v := by
  obtain ⟨i, -, h2⟩ := List.mem_filterMap.mp h
  cases hv : ls[i]? with
  | none => rw [hv] at h2; cases h2
  | some v =>
    rw [hv] at h2
    cases v <;> first | (cases h2; done) | (cases h2; exact ⟨_, hv, (fun z => (by cases z)), rfl⟩)
theorem kpr_in {ad : Nat → Nat} {ls : List Value} {i : Nat} {v : Value} (h : ls[i]? = some v) (hn : v ≠ .null) : (i, vR ad v) ∈ kpr ad ls := by
  refine List.mem_filterMap.mpr ⟨i, List.mem_range.mpr (List.getElem?_eq_some_iff.mp h).1, ?_⟩
  rw [h]
  cases v with
  | null => exact absurd rfl hn
  | _ => rfl
theorem kLR_has {ad : Nat → Nat} {arr : Array Slot} {n : Nat} {ls : List Value} (h : kLR ad arr n ls) : lv_has arr n (kpr ad ls) := by
  obtain ⟨h1, h2, h3, h4⟩ := h
  refine ⟨h1, h3, fun q hq => ?_⟩
  obtain ⟨v, e1, e2, e3⟩ := kpr_mem hq
  rw [e3]
  exact h4 _ _ e1 e2
theorem kClr_len (ls : List Value) (i : Nat) : (kClr ls i).length = ls.length := by
  unfold kClr
  split
  · rfl
  · split <;> simp
theorem kClr_get {ls : List Value} {i j : Nat} {v : Value} (h : (kClr ls i)[j]? = some v) (hn : v ≠ .null) : ls[j]? = some v ∧ ¬ (j + 1 = i ∧ v.category = 2) := by
  unfold kClr at h
  split at h
  · exact ⟨h, by omega⟩
  · rename_i k
    have key : ∀ w : Value, ls[k]? = some w → (ls.set k .null)[j]? = some v → ls[j]? = some v ∧ ¬ (j + 1 = k + 1 ∧ v.category = 2) := by
      intro w e h
      by_cases hj : j = k
      · subst hj
        rw [List.getElem?_set_self (List.getElem?_eq_some_iff.mp e).1] at h
        cases h
        exact absurd rfl hn
      · rw [List.getElem?_set_ne (Ne.symm hj)] at h
        exact ⟨h, by omega⟩
    split at h
    · rename_i x e
      exact key _ e h
    · rename_i x e
      exact key _ e h
    · rename_i h1 h2
      refine ⟨h, ?_⟩
      rintro ⟨e1, e2⟩
      have : j = k := by omega
      subst this
      cases v <;> first | exact h1 _ h | exact h2 _ h | cases e2
theorem kLR_st1 {ad : Nat → Nat} {arr arr' : Array Slot} {n i : Nat} {ls : List Value} {v : Value} (h : kLR ad arr n ls)
    (hh : lv_has arr' n ((i, vR ad v) :: (kpr ad ls).filter (fun q => !(q.1 == i) && !(q.1 + 1 == i && q.2.category == 2)))) : kLR ad arr' n (kSt1 ls i v) := by
  obtain ⟨g1, g2, g3⟩ := hh
  refine ⟨g1, by unfold kSt1; rw [List.length_set, kClr_len]; exact h.2.1, g2, fun j w hj hw => ?_⟩
  unfold kSt1 at hj
  by_cases e : j = i
  · subst e
    by_cases hl : j < (kClr ls j).length
    · rw [List.getElem?_set_self hl] at hj
      cases hj
      exact g3 _ List.mem_cons_self
    · rw [List.getElem?_eq_none (by rw [List.length_set]; omega)] at hj
      cases hj
  · rw [List.getElem?_set_ne (Ne.symm e)] at hj
    obtain ⟨e1, e2⟩ := kClr_get hj hw
    refine g3 (j, vR ad w) (List.mem_cons_of_mem _ (List.mem_filter.mpr ⟨kpr_in e1 hw, ?_⟩))
    have c1 : (j == i) = false := by simp [e]
    simp only [c1, Bool.not_false, Bool.true_and, Bool.not_eq_true', Bool.and_eq_false_iff]
    by_cases e3 : j + 1 = i
    · right
      rw [vR_cat]
      exact beq_false_of_ne (fun z => e2 ⟨e3, z⟩)
    · left
      simp [e3]
theorem kLR_st2 {ad : Nat → Nat} {arr arr' : Array Slot} {n i : Nat} {ls : List Value} {v : Value} (h : kLR ad arr n ls)
    (hh : lv_has arr' n ((i, vR ad v) :: (kpr ad ls).filter (fun q => !(q.1 == i) && (!(q.1 == i + 1) && !(q.1 + 1 == i && q.2.category == 2))))) : kLR ad arr' n (kSt2 ls i v) := by
  obtain ⟨g1, g2, g3⟩ := hh
  refine ⟨g1, by unfold kSt2; rw [List.length_set, List.length_set, kClr_len]; exact h.2.1, g2, fun j w hj hw => ?_⟩
  unfold kSt2 at hj
  by_cases e0 : j = i + 1
  · subst e0
    by_cases hl : i + 1 < ((kClr ls i).set i v).length
    · rw [List.getElem?_set_self hl] at hj
      cases hj
      exact absurd rfl hw
    · rw [List.getElem?_eq_none (by rw [List.length_set]; omega)] at hj
      cases hj
  rw [List.getElem?_set_ne (Ne.symm e0)] at hj
  by_cases e : j = i
  · subst e
    by_cases hl : j < (kClr ls j).length
    · rw [List.getElem?_set_self hl] at hj
      cases hj
      exact g3 _ List.mem_cons_self
    · rw [List.getElem?_eq_none (by rw [List.length_set]; omega)] at hj
      cases hj
  · rw [List.getElem?_set_ne (Ne.symm e)] at hj
    obtain ⟨e1, e2⟩ := kClr_get hj hw
    refine g3 (j, vR ad w) (List.mem_cons_of_mem _ (List.mem_filter.mpr ⟨kpr_in e1 hw, ?_⟩))
    have c1 : (j == i) = false := by simp [e]
    have c2 : (j == i + 1) = false := by simp [e0]
    simp only [c1, c2, Bool.not_false, Bool.true_and, Bool.not_eq_true', Bool.and_eq_false_iff]
    by_cases e3 : j + 1 = i
    · right
      rw [vR_cat]
      exact beq_false_of_ne (fun z => e2 ⟨e3, z⟩)
    · left
      simp [e3]
