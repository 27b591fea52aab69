/-! the whole state: the council, the page (how many letters, their codes), councils read, whether an image is kept, the image -/
abbrev kS : Type := kV × Nat × (Nat → Nat) × Nat × Nat × kV
def sV (S : kS) : kV := S.1
def sn (S : kS) : Nat := S.2.1
def sg (S : kS) : Nat → Nat := S.2.2.1
def sr (S : kS) : Nat := S.2.2.2.1
def sz (S : kS) : Nat := S.2.2.2.2.1
def sK (S : kS) : kV := S.2.2.2.2.2
def sOK (S : kS) : Prop := vOK (sV S) ∧ sz S ≤ 1 ∧ (sz S = 1 → vOK (sK S) ∧ vn (sK S) = vn (sV S) ∧ vk (sK S) = vk (sV S) ∧ 0 < vn (sV S)) ∧ sr S ≤ 100000
def wR (H : kH) : Prop := (hR H 4 6 = 24 ∧ hR H 4 7 = 25) ∨ (hR H 4 6 = 25 ∧ hR H 4 7 = 24)
def cK (H : kH) (K : kV) : Prop := (∀ j, j < vn K → hI H 13 j = nI (vo K j)) ∧ (∀ j, j < vn K → hI H 14 j = nI (vl K j)) ∧ (∀ j, j < vn K → hI H 15 j = vr K j) ∧ hI H 2 7 = vd K ∧ hI H 2 8 = vp K ∧ hI H 2 9 = nI (vh K) ∧ hI H 2 10 = vt K ∧ hI H 2 11 = nI (vb K) ∧ ∀ j, j < vb K → hI H 17 j = vB K j
def CR (H : kH) (S : kS) : Prop := cR H (sV S) ∧ pR H (sn S) (sg S) ∧ hI H 0 6 = nI (sr S) ∧ hI H 0 5 = nI (sz S) ∧ wR H ∧ (sz S = 1 → cK H (sK S))
def cC (k _ : Nat) : Prop := k ≤ 26
/-- an argument that must lie below n -/
def qSel {α : Type} (n : Nat) (x : Int32) (A : α) (B : Nat → α) : α := if x < 0 ∨ nI n ≤ x then A else B x.toNatClampNeg
theorem qSel_in {α : Type} {n j : Nat} {A : α} {B : Nat → α} (hj : j < n) (hn : n < 2147483648) : qSel n (nI j) A B = B j := by
  unfold qSel
  rw [if_neg (q_in1 hj hn), q_cl (by omega)]
theorem qSel_lo {α : Type} {n : Nat} {x : Int32} {A : α} {B : Nat → α} (h : x < 0) : qSel n x A B = A := by
  unfold qSel
  rw [if_pos (Or.inl h)]
theorem qSel_hi {α : Type} {n : Nat} {x : Int32} {A : α} {B : Nat → α} (h : nI n ≤ x) : qSel n x A B = A := by
  unfold qSel
  rw [if_pos (Or.inr h)]
theorem q_toInt_lo {x : Int32} (h : x < 0) : x.toInt < 0 := by
  rw [Int32.lt_iff_toInt_lt] at h
  exact h
theorem q_toInt_hi {x : Int32} {n : Nat} (hn : n < 2147483648) (h : nI n ≤ x) : (n : Int) ≤ x.toInt := by
  rw [Int32.le_iff_toInt_le, nI_toInt hn] at h
  exact h
theorem q_nlt {x : Int32} {n : Nat} (hn : n < 2147483648) (h : nI n ≤ x) : (x < 0) = False := (q_big hn h).1
theorem q_lo_hi {x : Int32} {n : Nat} (hn : n < 2147483648) (h : x < 0) : (nI n ≤ x) = False := by
  refine eq_false (fun z => ?_)
  rw [q_nlt hn z] at h
  exact h
def fu {α : Type} (f : Nat → α) (c : Nat) (v : α) : Nat → α := fun j => if j = c then v else f j
theorem fu_s {α : Type} (f : Nat → α) (c : Nat) (v : α) : fu f c v c = v := by unfold fu; rw [if_pos rfl]
theorem fu_n {α : Type} {f : Nat → α} {c j : Nat} {v : α} (h : j ≠ c) : fu f c v j = f j := by unfold fu; rw [if_neg h]
/-- what a council becomes -/
def vsO (V : kV) (c v : Nat) : kV := (vn V, vk V, fu (vo V) c v, vl V, vr V, vd V, vp V, vh V, vt V, vb V, vB V)
def vsL (V : kV) (c v : Nat) : kV := (vn V, vk V, vo V, fu (vl V) c v, vr V, vd V, vp V, vh V, vt V, vb V, vB V)
def vsD (V : kV) (v : Int32) : kV := (vn V, vk V, vo V, vl V, vr V, v, vp V, vh V, vt V, vb V, vB V)
def vsP (V : kV) (v : Int32) : kV := (vn V, vk V, vo V, vl V, vr V, vd V, v, vh V, vt V, vb V, vB V)
def vsB (V : kV) (b : Nat) (f : Nat → Int32) : kV := (vn V, vk V, vo V, vl V, vr V, vd V, vp V, vh V, vt V, b, f)
/-- an hour with a king c -/
def vsK (V : kV) (c : Nat) : kV := (vn V, vk V, vo V, vl V, fu (vr V) c (vr V c + 1), vd V, vp V, qS (vh V) (vl V c), vt V + 1, vb V, vB V)
def vsT (V : kV) : kV := (vn V, vk V, vo V, vl V, vr V, vd V, vp V, vh V, vt V + 1, vb V, vB V)
def ssV (S : kS) (V : kV) : kS := (V, S.2)
def ssP (S : kS) (n : Nat) (g : Nat → Nat) : kS := (sV S, n, g, sr S, sz S, sK S)
theorem CR_fr {H H' : kH} {S : kS} (h : kFr sC H H') (hw : wR H') (hR : CR H S) : CR H' S := by
  have e : ∀ k j, ¬ sC k j → hI H' k j = hI H k j := fun k j z => (h k j z).1
  obtain ⟨a1, a2, a3, a4, a5, a6⟩ := hR
  have h0 := cR_fr h a1
  unfold sC at e
  refine ⟨h0, ⟨by rw [e _ _ (by omega)]; exact a2.1, a2.2.1, fun j hj => by rw [e _ _ (by omega)]; exact a2.2.2 j hj⟩, by rw [e _ _ (by omega)]; exact a3, by rw [e _ _ (by omega)]; exact a4, hw, fun hz => ?_⟩
  obtain ⟨b1, b2, b3, b4, b5, b6, b7, b8, b9⟩ := a6 hz
  exact ⟨fun j hj => by rw [e _ _ (by omega)]; exact b1 j hj, fun j hj => by rw [e _ _ (by omega)]; exact b2 j hj, fun j hj => by rw [e _ _ (by omega)]; exact b3 j hj, by rw [e _ _ (by omega)]; exact b4, by rw [e _ _ (by omega)]; exact b5, by rw [e _ _ (by omega)]; exact b6, by rw [e _ _ (by omega)]; exact b7, by rw [e _ _ (by omega)]; exact b8, fun j hj => by rw [e _ _ (by omega)]; exact b9 j hj⟩
/-- only cells of the council now change -/
def nC (k _ : Nat) : Prop := k = 1 ∨ (6 ≤ k ∧ k ≤ 11)
theorem CR_now {H H' : kH} {S : kS} {V : kV} (h : kFr nC H H') (hq : CR H S) (hV : cR H' V) : CR H' (ssV S V) := by
  have e : ∀ k j, ¬ nC k j → hI H' k j = hI H k j := fun k j z => (h k j z).1
  have er : ∀ k j, ¬ nC k j → hR H' k j = hR H k j := fun k j z => (h k j z).2.2
  obtain ⟨a1, a2, a3, a4, a5, a6⟩ := hq
  unfold nC at e er
  refine ⟨hV, ⟨by rw [e _ _ (by omega)]; exact a2.1, a2.2.1, fun j hj => by rw [e _ _ (by omega)]; exact a2.2.2 j hj⟩, by rw [e _ _ (by omega)]; exact a3, by rw [e _ _ (by omega)]; exact a4, by unfold wR; rw [er _ _ (by omega), er _ _ (by omega)]; exact a5, fun hz => ?_⟩
  obtain ⟨b1, b2, b3, b4, b5, b6, b7, b8, b9⟩ := a6 hz
  exact ⟨fun j hj => by rw [e _ _ (by omega)]; exact b1 j hj, fun j hj => by rw [e _ _ (by omega)]; exact b2 j hj, fun j hj => by rw [e _ _ (by omega)]; exact b3 j hj, by rw [e _ _ (by omega)]; exact b4, by rw [e _ _ (by omega)]; exact b5, by rw [e _ _ (by omega)]; exact b6, by rw [e _ _ (by omega)]; exact b7, by rw [e _ _ (by omega)]; exact b8, fun j hj => by rw [e _ _ (by omega)]; exact b9 j hj⟩
theorem nC_cC {k j : Nat} (h : nC k j) : cC k j := by unfold nC at h; unfold cC; omega
theorem sC_cC {k j : Nat} (h : sC k j) : cC k j := by unfold sC at h; unfold cC; omega
/-! cells of the council one by one -/
section KFB
variable {H : kH} {V : kV}
theorem cR_no (hR : cR H V) {c v : Nat} : cR (uI H 7 c (nI v)) (vsO V c v) := by
  obtain ⟨a1, a2, a3, a4, a5, a6, a7, a8, a9, a10, a11, a12⟩ := hR
  refine ⟨by rw [hI_uIn (by omega)]; exact a1, fun j hj => by rw [hI_uIn (by omega)]; exact a2 j hj, fun j hj => ?_, fun j hj => by rw [hI_uIn (by omega)]; exact a4 j hj, fun j hj => by rw [hI_uIn (by omega)]; exact a5 j hj, by rw [hI_uIn (by omega)]; exact a6, by rw [hI_uIn (by omega)]; exact a7, by rw [hI_uIn (by omega)]; exact a8, by rw [hI_uIn (by omega)]; exact a9, by rw [hI_uIn (by omega)]; exact a10, fun j hj => by rw [hI_uIn (by omega)]; exact a11 j hj, fun h0 s hs => by rw [hI_uIn (by omega)]; exact a12 h0 s hs⟩
  show _ = nI (fu (vo V) c v j)
  by_cases e : j = c
  · subst e
    rw [hI_uIs, fu_s]
  · rw [hI_uIn (by omega), fu_n e]
    exact a3 j hj
theorem cR_la (hR : cR H V) {c v : Nat} : cR (uI H 8 c (nI v)) (vsL V c v) := by
  obtain ⟨a1, a2, a3, a4, a5, a6, a7, a8, a9, a10, a11, a12⟩ := hR
  refine ⟨by rw [hI_uIn (by omega)]; exact a1, fun j hj => by rw [hI_uIn (by omega)]; exact a2 j hj, fun j hj => by rw [hI_uIn (by omega)]; exact a3 j hj, fun j hj => ?_, fun j hj => by rw [hI_uIn (by omega)]; exact a5 j hj, by rw [hI_uIn (by omega)]; exact a6, by rw [hI_uIn (by omega)]; exact a7, by rw [hI_uIn (by omega)]; exact a8, by rw [hI_uIn (by omega)]; exact a9, by rw [hI_uIn (by omega)]; exact a10, fun j hj => by rw [hI_uIn (by omega)]; exact a11 j hj, fun h0 s hs => by rw [hI_uIn (by omega)]; exact a12 h0 s hs⟩
  show _ = nI (fu (vl V) c v j)
  by_cases e : j = c
  · subst e
    rw [hI_uIs, fu_s]
  · rw [hI_uIn (by omega), fu_n e]
    exact a4 j hj
theorem cR_dr (hR : cR H V) {v : Int32} : cR (uI H 1 7 v) (vsD V v) := by
  obtain ⟨a1, a2, a3, a4, a5, a6, a7, a8, a9, a10, a11, a12⟩ := hR
  exact ⟨by rw [hI_uIn (by omega)]; exact a1, fun j hj => by rw [hI_uIn (by omega)]; exact a2 j hj, fun j hj => by rw [hI_uIn (by omega)]; exact a3 j hj, fun j hj => by rw [hI_uIn (by omega)]; exact a4 j hj, fun j hj => by rw [hI_uIn (by omega)]; exact a5 j hj, hI_uIs _ _ _ _, by rw [hI_uIn (by omega)]; exact a7, by rw [hI_uIn (by omega)]; exact a8, by rw [hI_uIn (by omega)]; exact a9, by rw [hI_uIn (by omega)]; exact a10, fun j hj => by rw [hI_uIn (by omega)]; exact a11 j hj, fun h0 s hs => by rw [hI_uIn (by omega)]; exact a12 h0 s hs⟩
theorem cR_pe (hR : cR H V) {v : Int32} : cR (uI H 1 8 v) (vsP V v) := by
  obtain ⟨a1, a2, a3, a4, a5, a6, a7, a8, a9, a10, a11, a12⟩ := hR
  exact ⟨by rw [hI_uIn (by omega)]; exact a1, fun j hj => by rw [hI_uIn (by omega)]; exact a2 j hj, fun j hj => by rw [hI_uIn (by omega)]; exact a3 j hj, fun j hj => by rw [hI_uIn (by omega)]; exact a4 j hj, fun j hj => by rw [hI_uIn (by omega)]; exact a5 j hj, by rw [hI_uIn (by omega)]; exact a6, hI_uIs _ _ _ _, by rw [hI_uIn (by omega)]; exact a8, by rw [hI_uIn (by omega)]; exact a9, by rw [hI_uIn (by omega)]; exact a10, fun j hj => by rw [hI_uIn (by omega)]; exact a11 j hj, fun h0 s hs => by rw [hI_uIn (by omega)]; exact a12 h0 s hs⟩
theorem cR_bk (hR : cR H V) {b : Nat} {f : Nat → Int32} {H' : kH} (hF : kFr (fun k j => k = 11 ∨ (k = 1 ∧ j = 11)) H H') (hb : hI H' 1 11 = nI b) (hf : ∀ j, j < b → hI H' 11 j = f j) : cR H' (vsB V b f) := by
  obtain ⟨a1, a2, a3, a4, a5, a6, a7, a8, a9, a10, a11, a12⟩ := hR
  have e : ∀ k j, ¬ (k = 11 ∨ (k = 1 ∧ j = 11)) → hI H' k j = hI H k j := fun k j z => (hF k j z).1
  exact ⟨by rw [e _ _ (by omega)]; exact a1, fun j hj => by rw [e _ _ (by omega)]; exact a2 j hj, fun j hj => by rw [e _ _ (by omega)]; exact a3 j hj, fun j hj => by rw [e _ _ (by omega)]; exact a4 j hj, fun j hj => by rw [e _ _ (by omega)]; exact a5 j hj, by rw [e _ _ (by omega)]; exact a6, by rw [e _ _ (by omega)]; exact a7, by rw [e _ _ (by omega)]; exact a8, by rw [e _ _ (by omega)]; exact a9, hb, hf, fun h0 s hs => by rw [e _ _ (by omega)]; exact a12 h0 s hs⟩
theorem cR_ti (hR : cR H V) : cR (uI H 1 10 (vt V + 1)) (vsT V) := by
  obtain ⟨a1, a2, a3, a4, a5, a6, a7, a8, a9, a10, a11, a12⟩ := hR
  exact ⟨by rw [hI_uIn (by omega)]; exact a1, fun j hj => by rw [hI_uIn (by omega)]; exact a2 j hj, fun j hj => by rw [hI_uIn (by omega)]; exact a3 j hj, fun j hj => by rw [hI_uIn (by omega)]; exact a4 j hj, fun j hj => by rw [hI_uIn (by omega)]; exact a5 j hj, by rw [hI_uIn (by omega)]; exact a6, by rw [hI_uIn (by omega)]; exact a7, by rw [hI_uIn (by omega)]; exact a8, hI_uIs _ _ _ _, by rw [hI_uIn (by omega)]; exact a10, fun j hj => by rw [hI_uIn (by omega)]; exact a11 j hj, fun h0 s hs => by rw [hI_uIn (by omega)]; exact a12 h0 s hs⟩
theorem cR_ki (hR : cR H V) {c : Nat} : cR (uI (uI (uI H 9 c (vr V c + 1)) 1 9 (nI (qS (vh V) (vl V c)))) 1 10 (vt V + 1)) (vsK V c) := by
  obtain ⟨a1, a2, a3, a4, a5, a6, a7, a8, a9, a10, a11, a12⟩ := hR
  refine ⟨by rw [hI_uIn (by omega), hI_uIn (by omega), hI_uIn (by omega)]; exact a1, fun j hj => by rw [hI_uIn (by omega), hI_uIn (by omega), hI_uIn (by omega)]; exact a2 j hj, fun j hj => by rw [hI_uIn (by omega), hI_uIn (by omega), hI_uIn (by omega)]; exact a3 j hj, fun j hj => by rw [hI_uIn (by omega), hI_uIn (by omega), hI_uIn (by omega)]; exact a4 j hj, fun j hj => ?_, by rw [hI_uIn (by omega), hI_uIn (by omega), hI_uIn (by omega)]; exact a6, by rw [hI_uIn (by omega), hI_uIn (by omega), hI_uIn (by omega)]; exact a7, by rw [hI_uIn (by omega), hI_uIs]; rfl, hI_uIs _ _ _ _, by rw [hI_uIn (by omega), hI_uIn (by omega), hI_uIn (by omega)]; exact a10, fun j hj => by rw [hI_uIn (by omega), hI_uIn (by omega), hI_uIn (by omega)]; exact a11 j hj, fun h0 s hs => by rw [hI_uIn (by omega), hI_uIn (by omega), hI_uIn (by omega)]; exact a12 h0 s hs⟩
  rw [hI_uIn (by omega), hI_uIn (by omega)]
  show _ = fu (vr V) c (vr V c + 1) j
  by_cases e : j = c
  · subst e
    rw [hI_uIs, fu_s]
  · rw [hI_uIn (by omega), fu_n e]
    exact a5 j hj
end KFB
