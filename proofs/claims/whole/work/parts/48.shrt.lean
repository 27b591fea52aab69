/-! shortest rows -/
theorem rcb_1 {s : Nat} (hs : s < 64) : ∀ k w, (rcb (k + 1) s w = true ↔ ∃ l, l < 6 ∧ rcb k (qS s l) w = true)
  | 0, w => by
    rw [rcb_s]
    constructor
    · rintro ⟨h, _, h2, l, hl, e⟩
      have : s = h := of_decide_eq_true h2
      subst this
      exact ⟨l, hl, decide_eq_true e⟩
    · rintro ⟨l, hl, e⟩
      exact ⟨s, hs, decide_eq_true rfl, l, hl, of_decide_eq_true e⟩
  | k + 1, w => by
    rw [rcb_s]
    constructor
    · rintro ⟨h, hh, h2, h3⟩
      obtain ⟨l, hl, e⟩ := (rcb_1 hs k h).1 h2
      exact ⟨l, hl, rcb_s.2 ⟨h, hh, e, h3⟩⟩
    · rintro ⟨l, hl, e⟩
      obtain ⟨h, hh, h2, h3⟩ := rcb_s.1 e
      exact ⟨h, hh, (rcb_1 hs k h).2 ⟨l, hl, h2⟩, h3⟩
def dst (f q d : Nat) : Prop := rcb d f q = true ∧ ∀ e, e < d → rcb e f q = false
def fsl (f q d b : Nat) : Prop := b < 6 ∧ rcb (d - 1) (qS f b) q = true ∧ ∀ l, l < b → rcb (d - 1) (qS f l) q = false
theorem dst_u {f q d e : Nat} (h1 : dst f q d) (h2 : dst f q e) : d = e := by
  rcases Nat.lt_trichotomy d e with h | h | h
  · have := h2.2 d h
    rw [h1.1] at this
    exact absurd this (by decide)
  · exact h
  · have := h1.2 e h
    rw [h2.1] at this
    exact absurd this (by decide)
theorem dst_ex {f q : Nat} : ∀ e, rcb e f q = true → ∃ d, d ≤ e ∧ dst f q d
  | 0, h => ⟨0, Nat.le_refl _, h, fun e he => absurd he (Nat.not_lt_zero e)⟩
  | e + 1, h => by
    by_cases z : ∃ d, d ≤ e ∧ rcb d f q = true
    · obtain ⟨d, hd, hr⟩ := z
      obtain ⟨d', hd', h'⟩ := dst_ex d hr
      exact ⟨d', by omega, h'⟩
    · refine ⟨e + 1, Nat.le_refl _, h, fun d hd => ?_⟩
      cases hr : rcb d f q with
      | false => rfl
      | true => exact absurd ⟨d, by omega, hr⟩ z
  termination_by e => e
  decreasing_by omega
theorem fsl_u {f q d b c : Nat} (h1 : fsl f q d b) (h2 : fsl f q d c) : b = c := by
  rcases Nat.lt_trichotomy b c with h | h | h
  · have := h2.2.2 b h
    rw [h1.2.1] at this
    exact absurd this (by decide)
  · exact h
  · have := h1.2.2 c h
    rw [h2.2.1] at this
    exact absurd this (by decide)
theorem fsl_ex {f q d : Nat} : ∀ m, (∃ l, l < m ∧ l < 6 ∧ rcb (d - 1) (qS f l) q = true) → ∃ b, b < m ∧ fsl f q d b
  | 0, ⟨l, h, _⟩ => absurd h (Nat.not_lt_zero l)
  | m + 1, h => by
    by_cases z : ∃ l, l < m ∧ l < 6 ∧ rcb (d - 1) (qS f l) q = true
    · obtain ⟨b, hb, h'⟩ := fsl_ex m z
      exact ⟨b, by omega, h'⟩
    · obtain ⟨l, h1, h2, h3⟩ := h
      have hl : l = m := by
        by_cases e : l = m
        · exact e
        · exact absurd ⟨l, by omega, h2, h3⟩ z
      subst hl
      refine ⟨l, by omega, h2, h3, fun c hc => ?_⟩
      cases hr : rcb (d - 1) (qS f c) q with
      | false => rfl
      | true => exact absurd ⟨c, hc, by omega, hr⟩ z
theorem fsl_of {f q d : Nat} (hf : f < 64) (h : dst f q d) (h0 : 0 < d) : ∃ b, fsl f q d b := by
  obtain ⟨e, rfl⟩ : ∃ e, d = e + 1 := ⟨d - 1, by omega⟩
  obtain ⟨l, hl, h1⟩ := (rcb_1 hf e q).1 h.1
  obtain ⟨b, -, hb⟩ := fsl_ex (f := f) (q := q) (d := e + 1) 6 ⟨l, hl, hl, h1⟩
  exact ⟨b, hb⟩
/-- the first law of a row over k, v -/
def gv (f t k v b : Nat) : Prop := (t = 0 ∧ b = v) ∨ (0 < t ∧ fsl f k t b)
def Wp (f t p q b : Nat) : Prop := ∃ k v, 6 * k + v < p ∧ k < 64 ∧ v < 6 ∧ dst f k t ∧ qS k v = q ∧ gv f t k v b
/-- how far, and the first laws, in the middle of a step -/
def stI (f t p : Nat) (A B : Nat → Int32) : Prop := ∀ q, q < 64 → (∀ d, d ≤ t → dst f q d → A q = nI d ∧ (d = 0 → B q = -1) ∧ (0 < d → ∃ b, fsl f q d b ∧ B q = nI b)) ∧ ((∀ d, d ≤ t → ¬ dst f q d) → (A q = -1 ∧ B q = -1 ∧ ∀ b, ¬ Wp f t p q b) ∨ ∃ b, A q = nI (t + 1) ∧ B q = nI b ∧ b < 6 ∧ Wp f t p q b ∧ ∀ c, Wp f t p q c → b ≤ c)
theorem stI_0 {f : Nat} {A B : Nat → Int32} (h : ∀ q, q < 64 → A q = (if f = q then 0 else -1) ∧ B q = -1) : stI f 0 0 A B := by
  intro q hq
  obtain ⟨h1, h2⟩ := h q hq
  refine ⟨fun d hd hD => ?_, fun z => Or.inl ⟨?_, h2, fun b y => ?_⟩⟩
  · have : d = 0 := by omega
    subst this
    have e : f = q := of_decide_eq_true hD.1
    refine ⟨by rw [h1, if_pos e]; rfl, fun _ => h2, fun y => absurd y (Nat.lt_irrefl 0)⟩
  · rw [h1, if_neg]
    intro e
    exact z 0 (Nat.le_refl _) ⟨decide_eq_true e, fun e he => absurd he (Nat.not_lt_zero e)⟩
  · obtain ⟨k, v, h3, _⟩ := y
    exact absurd h3 (Nat.not_lt_zero _)
theorem gv_lt {f t k v b : Nat} (hv : v < 6) (h : gv f t k v b) : b < 6 := by
  rcases h with ⟨_, rfl⟩ | ⟨_, h⟩
  · exact hv
  · exact h.1
theorem gv_u {f t k v b c : Nat} (h1 : gv f t k v b) (h2 : gv f t k v c) : b = c := by
  rcases h1 with ⟨h, rfl⟩ | ⟨h, h1⟩
  · rcases h2 with ⟨_, rfl⟩ | ⟨h', _⟩
    · rfl
    · omega
  · rcases h2 with ⟨h', _⟩ | ⟨_, h2⟩
    · omega
    · exact fsl_u h1 h2
theorem gv_ex {f t k : Nat} (hf : f < 64) (hd : dst f k t) (v : Nat) : ∃ b, gv f t k v b := by
  by_cases h0 : t = 0
  · exact ⟨v, Or.inl ⟨h0, rfl⟩⟩
  · obtain ⟨b, hb⟩ := fsl_of hf hd (by omega)
    exact ⟨b, Or.inr ⟨by omega, hb⟩⟩
/-- who is at step t -/
theorem stI_at {f t p : Nat} {A B : Nat → Int32} (h : stI f t p A B) (ht : t < 1000) {k : Nat} (hk : k < 64) : (A k = nI t) = dst f k t := by
  obtain ⟨h1, h2⟩ := h k hk
  apply propext
  constructor
  · intro e
    by_cases z : ∃ d, d ≤ t ∧ dst f k d
    · obtain ⟨d, hd, hD⟩ := z
      have e2 := (h1 d hd hD).1
      rw [e, q_eq (by omega) (by omega)] at e2
      subst e2
      exact hD
    · rcases h2 (fun d hd hD => z ⟨d, hd, hD⟩) with ⟨e2, -, -⟩ | ⟨b, e2, -⟩
      · rw [e, q_m1ne (by omega)] at e2
        exact absurd e2 id
      · rw [e, q_eq (by omega) (by omega)] at e2
        omega
  · intro hD
    exact (h1 t (Nat.le_refl _) hD).1
theorem Wp_s {f t k v q b : Nat} (hv : v < 6) (hk : k < 64) : Wp f t (6 * k + v + 1) q b ↔ Wp f t (6 * k + v) q b ∨ (dst f k t ∧ qS k v = q ∧ gv f t k v b) := by
  constructor
  · rintro ⟨k', v', h1, h2, h3, h4⟩
    by_cases e : 6 * k' + v' < 6 * k + v
    · exact Or.inl ⟨k', v', e, h2, h3, h4⟩
    · have hk' : k' = k := by omega
      have hv' : v' = v := by omega
      subst hk'
      subst hv'
      exact Or.inr h4
  · rintro (⟨k', v', h1, h2⟩ | h)
    · exact ⟨k', v', by omega, h2⟩
    · exact ⟨k, v, by omega, hk, hv, h⟩
/-- nobody at step t there: the place is left out -/
theorem stI_skip {f t k : Nat} {A B : Nat → Int32} (h : stI f t (6 * k) A B) (hn : ¬ dst f k t) : stI f t (6 * (k + 1)) A B := by
  have e : ∀ q b, Wp f t (6 * (k + 1)) q b ↔ Wp f t (6 * k) q b := by
    intro q b
    constructor
    · rintro ⟨k', v', h1, h2, h3, h4⟩
      by_cases hk : k' = k
      · subst hk
        exact absurd h4.1 hn
      · exact ⟨k', v', by omega, h2, h3, h4⟩
    · rintro ⟨k', v', h1, h2⟩
      exact ⟨k', v', by omega, h2⟩
  intro q hq
  obtain ⟨h1, h2⟩ := h q hq
  refine ⟨h1, fun z => ?_⟩
  simp only [e]
  exact h2 z
theorem stI_step {f t k v b0 : Nat} {A B : Nat → Int32} (hf : f < 64) (ht : t < 1000) (hk : k < 64) (hv : v < 6) (h : stI f t (6 * k + v) A B) (hD : dst f k t) (hg : gv f t k v b0) :
    (A (qS k v) = -1 ∨ A (qS k v) = nI (t + 1) ∧ nI b0 < B (qS k v) → stI f t (6 * k + v + 1) (fu A (qS k v) (nI (t + 1))) (fu B (qS k v) (nI b0))) ∧
    (¬ (A (qS k v) = -1 ∨ A (qS k v) = nI (t + 1) ∧ nI b0 < B (qS k v)) → stI f t (6 * k + v + 1) A B) := by
  have hb0 := gv_lt hv hg
  have hto : qS k v < 64 := qS_lt k hk v hv
  obtain ⟨t1, t2⟩ := h (qS k v) hto
  constructor
  · intro hbet
    have hno : ∀ d, d ≤ t → ¬ dst f (qS k v) d := by
      intro d hd hd2
      have e := (t1 d hd hd2).1
      rw [e, q_m1ne (by omega), q_eq (by omega) (by omega)] at hbet
      rcases hbet with z | z
      · exact z
      · omega
    intro q hq
    obtain ⟨h1, h2⟩ := h q hq
    by_cases e : q = qS k v
    · subst e
      refine ⟨fun d hd hd2 => absurd hd2 (hno d hd), fun _ => Or.inr ⟨b0, fu_s _ _ _, fu_s _ _ _, hb0, (Wp_s hv hk).2 (Or.inr ⟨hD, rfl, hg⟩), fun c hc => ?_⟩⟩
      rcases (Wp_s hv hk).1 hc with hc | ⟨-, -, hc⟩
      · rcases h2 hno with ⟨-, -, h5⟩ | ⟨b, h3, h4, h5, h6, h7⟩
        · exact absurd hc (h5 c)
        · have hcb := h7 c hc
          rcases hbet with z | ⟨-, z⟩
          · rw [h3, q_m1ne (by omega)] at z
            exact absurd z id
          · rw [h4, q_lt (by omega) (by omega)] at z
            omega
      · have := gv_u hg hc
        omega
    · rw [fu_n e, fu_n e]
      refine ⟨h1, fun z => ?_⟩
      have ew : ∀ b, Wp f t (6 * k + v + 1) q b ↔ Wp f t (6 * k + v) q b := fun b => ⟨fun y => ((Wp_s hv hk).1 y).elim id (fun x => absurd x.2.1.symm e), fun y => (Wp_s hv hk).2 (Or.inl y)⟩
      simp only [ew]
      exact h2 z
  · intro hbet
    intro q hq
    obtain ⟨h1, h2⟩ := h q hq
    refine ⟨h1, fun z => ?_⟩
    by_cases e : q = qS k v
    · subst e
      rcases h2 z with ⟨h3, -, -⟩ | ⟨b, h3, h4, h5, h6, h7⟩
      · exact absurd (Or.inl h3) hbet
      · refine Or.inr ⟨b, h3, h4, h5, (Wp_s hv hk).2 (Or.inl h6), fun c hc => ?_⟩
        rcases (Wp_s hv hk).1 hc with hc | ⟨-, -, hc⟩
        · exact h7 c hc
        · have := gv_u hg hc
          subst this
          have : ¬ nI b0 < B (qS k v) := fun y => hbet (Or.inr ⟨h3, y⟩)
          rw [h4, q_lt (by omega) (by omega)] at this
          omega
    · have ew : ∀ b, Wp f t (6 * k + v + 1) q b ↔ Wp f t (6 * k + v) q b := fun b => ⟨fun y => ((Wp_s hv hk).1 y).elim id (fun x => absurd x.2.1.symm e), fun y => (Wp_s hv hk).2 (Or.inl y)⟩
      simp only [ew]
      exact h2 z
/-- who leads to the next step is at this one -/
theorem dst_pre {f t h q l : Nat} (hh : h < 64) (hl : l < 6) (hq : dst f q (t + 1)) (hr : rcb t f h = true) (e : qS h l = q) : dst f h t := by
  refine ⟨hr, fun d hd => ?_⟩
  cases hx : rcb d f h with
  | false => rfl
  | true =>
    have h1 : rcb (d + 1) f q = true := rcb_s.2 ⟨h, hh, hx, l, hl, e⟩
    have := hq.2 (d + 1) (by omega)
    rw [h1] at this
    exact absurd this (by decide)
theorem stI_next {f t : Nat} {A B : Nat → Int32} (hf : f < 64) (ht : t < 1000) (h : stI f t 384 A B) : stI f (t + 1) 0 A B := by
  intro q hq
  obtain ⟨h1, h2⟩ := h q hq
  refine ⟨fun d hd hD => ?_, fun z => ?_⟩
  · by_cases e : d ≤ t
    · exact h1 d e hD
    · have : d = t + 1 := by omega
      subst this
      have hno : ∀ d, d ≤ t → ¬ dst f q d := fun d hd hd2 => by
        have := dst_u hd2 hD
        omega
      obtain ⟨k, hk, hr, v, hv, ev⟩ := rcb_s.1 hD.1
      have hk2 := dst_pre hk hv hD hr ev
      obtain ⟨b1, hb1⟩ := gv_ex hf hk2 v
      have hW : Wp f t 384 q b1 := ⟨k, v, by omega, hk, hv, hk2, ev, hb1⟩
      rcases h2 hno with ⟨-, -, h3⟩ | ⟨b, e1, e2, e3, ⟨k', v', -, hk', hv', hd', eq', hg'⟩, e5⟩
      · exact absurd hW (h3 b1)
      · refine ⟨e1, fun y => absurd y (Nat.succ_ne_zero t), fun _ => ⟨b, ⟨e3, ?_, fun l hl => ?_⟩, e2⟩⟩
        · show rcb t (qS f b) q = true
          rcases hg' with ⟨h0, rfl⟩ | ⟨h0, hg'⟩
          · subst h0
            have : f = k' := of_decide_eq_true hd'.1
            subst this
            exact decide_eq_true eq'
          · obtain ⟨s, rfl⟩ : ∃ s, t = s + 1 := ⟨t - 1, by omega⟩
            exact rcb_s.2 ⟨k', hk', hg'.2.1, v', hv', eq'⟩
        · show rcb t (qS f l) q = false
          cases hx : rcb t (qS f l) q with
          | false => rfl
          | true =>
            by_cases h0 : t = 0
            · subst h0
              have el : qS f l = q := of_decide_eq_true hx
              have hWl : Wp f 0 384 q l := ⟨f, l, by omega, hf, by omega, ⟨decide_eq_true rfl, fun e he => absurd he (Nat.not_lt_zero e)⟩, el, Or.inl ⟨rfl, rfl⟩⟩
              have := e5 l hWl
              omega
            · obtain ⟨s, rfl⟩ : ∃ s, t = s + 1 := ⟨t - 1, by omega⟩
              obtain ⟨g, hg, hrg, v2, hv2, ev2⟩ := rcb_s.1 hx
              have hrf : rcb (s + 1) f g = true := (rcb_1 hf s g).2 ⟨l, by omega, hrg⟩
              have hdg := dst_pre hg hv2 hD hrf ev2
              obtain ⟨c, hc1, hc⟩ := fsl_ex (f := f) (q := g) (d := s + 1) (l + 1) ⟨l, by omega, by omega, hrg⟩
              have := e5 c ⟨g, v2, by omega, hg, hv2, hdg, ev2, Or.inr ⟨by omega, hc⟩⟩
              omega
  · have hno : ∀ d, d ≤ t → ¬ dst f q d := fun d hd => z d (by omega)
    rcases h2 hno with ⟨e1, e2, -⟩ | ⟨b, -, -, -, ⟨k', v', -, hk', hv', hd', eq', -⟩, -⟩
    · refine Or.inl ⟨e1, e2, fun b y => ?_⟩
      obtain ⟨k, v, h3, _⟩ := y
      exact absurd h3 (Nat.not_lt_zero _)
    · have hr : rcb (t + 1) f q = true := rcb_s.2 ⟨k', hk', hd'.1, v', hv', eq'⟩
      obtain ⟨d, hd, hD⟩ := dst_ex (t + 1) hr
      exact absurd hD (z d hd)
/-! and the class's -/
theorem qFw_d {f q d : Nat} (h : dst f q d) : ∀ i j, j ≤ d → d < j + i → qFw f q i j = nI d
  | 0, j, h1, h2 => by omega
  | i + 1, j, h1, h2 => by
    unfold qFw
    by_cases e : j = d
    · subst e
      rw [if_pos h.1]
    · rw [if_neg (by rw [h.2 j (by omega)]; decide)]
      exact qFw_d h i (j + 1) (by omega) (by omega)
theorem qFw_no {f q : Nat} : ∀ i j, (∀ e, j ≤ e → e < j + i → rcb e f q = false) → qFw f q i j = -1
  | 0, j, _ => rfl
  | i + 1, j, h => by
    unfold qFw
    rw [if_neg (by rw [h j (Nat.le_refl _) (by omega)]; decide)]
    exact qFw_no i (j + 1) (fun e h1 h2 => h e (by omega) (by omega))
theorem qFr_b {f q d b : Nat} (hf : f < 64) (hd : dst f q d) (h0 : 0 < d) (hd6 : d < 1000) (hb : fsl f q d b) : ∀ i j, j ≤ b → b < j + i → qFr f q d i j = nI b
  | 0, j, h1, h2 => by omega
  | i + 1, j, h1, h2 => by
    unfold qFr
    by_cases e : j = b
    · subst e
      obtain ⟨e, he, hD⟩ := dst_ex (d - 1) hb.2.1
      rw [qFw_d hD d 0 (by omega) (by omega), if_neg]
      rw [q_m1ne (by omega)]
      exact id
    · rw [qFw_no d 0 (fun e _ he => ?_), if_pos rfl]
      · exact qFr_b hf hd h0 hd6 hb i (j + 1) (by omega) (by omega)
      · by_cases e2 : e = d - 1
        · subst e2
          exact hb.2.2 j (by omega)
        · cases hx : rcb e (qS f j) q with
          | false => rfl
          | true =>
            have h1 : rcb (e + 1) f q = true := (rcb_1 hf e q).2 ⟨j, by have := hb.1; omega, hx⟩
            have := hd.2 (e + 1) (by omega)
            rw [h1] at this
            exact absurd this (by decide)
/-- the model's rows at the end are what the class says -/
theorem stI_end {f q : Nat} {A B : Nat → Int32} (hf : f < 64) (hq : q < 64) (h : stI f 6 0 A B) : A q = qFw f q 7 0 ∧ B q = qFir f q (qFw f q 7 0) := by
  obtain ⟨h1, h2⟩ := h q hq
  by_cases z : ∃ d, d ≤ 6 ∧ dst f q d
  · obtain ⟨d, hd, hD⟩ := z
    obtain ⟨e1, e2, e3⟩ := h1 d hd hD
    rw [qFw_d hD 7 0 (by omega) (by omega)]
    refine ⟨e1, ?_⟩
    unfold qFir
    by_cases h0 : d = 0
    · subst h0
      rw [if_neg (by decide)]
      exact e2 rfl
    · obtain ⟨b, hb, eb⟩ := e3 (by omega)
      have hb6 := hb.1
      rw [if_pos (by rw [show (0 : Int32) = nI 0 from rfl, q_lt (by decide) (by omega)]; omega), q_cl (by omega), qFr_b hf hD (by omega) (by omega) hb 6 0 (by omega) (by omega)]
      exact eb
  · have hno : ∀ d, d ≤ 6 → ¬ dst f q d := fun d hd hD => z ⟨d, hd, hD⟩
    have hr : ∀ e, 0 ≤ e → e < 0 + 7 → rcb e f q = false := by
      intro e _ he
      cases hx : rcb e f q with
      | false => rfl
      | true =>
        obtain ⟨d, hd, hD⟩ := dst_ex e hx
        exact absurd hD (hno d (by omega))
    rw [qFw_no 7 0 hr]
    rcases h2 hno with ⟨e1, e2, -⟩ | ⟨b, -, -, -, ⟨k, v, h3, -⟩, -⟩
    · refine ⟨e1, ?_⟩
      unfold qFir
      rw [if_neg (by decide)]
      exact e2
    · exact absurd h3 (Nat.not_lt_zero _)
