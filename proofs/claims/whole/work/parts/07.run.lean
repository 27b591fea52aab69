/-! whole runs: a run of the abstract machine is a run of the machine -/
def kRok (m : Nat) (i : Instr) (v : Option Value) : Prop :=
  (i = .ireturn ∧ ∃ x, v = some (.int x) ∧ (mrt m = some .int ∨ (mrt m = some .boolean ∧ (x = 0 ∨ x = 1)) ∨ (mrt m = some .byte ∧ x = 0))) ∨ (i = .lreturn ∧ ∃ x, v = some (.long x) ∧ mrt m = some .long) ∨ (i = .return_ ∧ v = none ∧ mrt m = none)
theorem kIns2_cases {m pc : Nat} {i : Instr} {ls st : List Value} {H : kH} {o : kO} (h : kIns2 m i pc ls st H = some o) :
    (∃ a, o = .inl a ∧ kIns m i pc ls st H = some a) ∨ (∃ ix, i = .invokevirtual ix ∧ kInvV m ix st = some o) ∨
    (∃ ix kd y, i = .invokestatic ix ∧ cpM (mow m) ix = some (kd, y) ∧ kInvS m y kd st = some o) ∨ (∃ v, o = .inr (.inr v) ∧ kRok m i v ∧ st = v.toList) := by
  have hm : ∀ q : Option kN, q.map .inl = some o → ∃ a, o = .inl a ∧ q = some a := by
    intro q hq
    cases q with
    | none => cases hq
    | some a => cases hq; exact ⟨a, rfl, rfl⟩
  cases i with
  | invokevirtual ix => exact Or.inr (Or.inl ⟨ix, rfl, h⟩)
  | invokestatic ix =>
    unfold kIns2 at h
    dsimp only at h
    split at h
    · rename_i kd y e
      exact Or.inr (Or.inr (Or.inl ⟨ix, kd, y, rfl, e, h⟩))
    · exact Or.inl (hm _ h)
  | ireturn =>
    unfold kIns2 kRet at h
    dsimp only at h
    split at h
    · rename_i x
      split at h
      · rename_i e
        cases h
        exact Or.inr (Or.inr (Or.inr ⟨_, rfl, Or.inl ⟨rfl, x, rfl, Or.inl e⟩, rfl⟩))
      · rename_i e
        split at h
        · rename_i hx
          cases h
          exact Or.inr (Or.inr (Or.inr ⟨_, rfl, Or.inl ⟨rfl, x, rfl, Or.inr (Or.inl ⟨e, hx⟩)⟩, rfl⟩))
        · cases h
      · rename_i e
        split at h
        · rename_i hx
          cases h
          exact Or.inr (Or.inr (Or.inr ⟨_, rfl, Or.inl ⟨rfl, x, rfl, Or.inr (Or.inr ⟨e, hx⟩)⟩, rfl⟩))
        · cases h
      · cases h
    · cases h
  | lreturn =>
    unfold kIns2 at h
    dsimp only at h
    split at h
    · rename_i x e
      cases h
      exact Or.inr (Or.inr (Or.inr ⟨_, rfl, Or.inr (Or.inl ⟨rfl, x, rfl, e⟩), rfl⟩))
    · cases h
  | return_ =>
    unfold kIns2 at h
    dsimp only at h
    split at h
    · rename_i e
      cases h
      exact Or.inr (Or.inr (Or.inr ⟨_, rfl, Or.inr (Or.inr ⟨rfl, rfl, e⟩), rfl⟩))
    · cases h
  | _ => exact Or.inl (hm _ h)
theorem kEnA_len (ad : Nat → Nat) : ∀ as : List Value, (lg_sl (as.map (vR ad))).length = (kEnA as).length
  | [] => rfl
  | v :: vs => by
    have ih := kEnA_len ad vs
    cases v <;> simp_all [lg_sl, kEnA, vR, Value.category]
theorem kEnA_arg (ad : Nat → Nat) : ∀ (as : List Value) (i0 j : Nat) (v : Value), (kEnA as)[j]? = some v → v ≠ .null → (i0 + j, vR ad v) ∈ lv_args i0 (as.map (vR ad))
  | [], _, _, _, h, _ => by simp [kEnA] at h
  | w :: vs, i0, j, v, h, hn => by
    have one : w.category = 1 → kEnA (w :: vs) = w :: kEnA vs → (i0 + j, vR ad v) ∈ lv_args i0 ((w :: vs).map (vR ad)) := by
      intro hc he
      rw [he] at h
      simp only [List.map_cons, lv_args]
      rw [if_neg (by rw [vR_cat, hc]; decide)]
      cases j with
      | zero => cases h; exact List.mem_cons_self
      | succ j =>
        refine List.mem_cons_of_mem _ ?_
        have := kEnA_arg ad vs (i0 + 1) j v h hn
        rwa [show i0 + (j + 1) = i0 + 1 + j by omega]
    have two : w.category = 2 → kEnA (w :: vs) = w :: .null :: kEnA vs → (i0 + j, vR ad v) ∈ lv_args i0 ((w :: vs).map (vR ad)) := by
      intro hc he
      rw [he] at h
      simp only [List.map_cons, lv_args]
      rw [if_pos (by rw [vR_cat, hc])]
      cases j with
      | zero => cases h; exact List.mem_cons_self
      | succ j =>
        cases j with
        | zero => cases h; exact absurd rfl hn
        | succ j =>
          refine List.mem_cons_of_mem _ ?_
          have := kEnA_arg ad vs (i0 + 2) j v h hn
          rwa [show i0 + (j + 1 + 1) = i0 + 2 + j by omega]
    cases w with
    | long x => exact two rfl rfl
    | double x => exact two rfl rfl
    | int x => exact one rfl rfl
    | float x => exact one rfl rfl
    | null => exact one rfl rfl
    | ref x => exact one rfl rfl
    | retAddr x => exact one rfl rfl
theorem kLR_ent {ad : Nat → Nat} {y : Nat} {as : List Value} (h : (kEnA as).length ≤ mnL y) : kLR ad ((lg_sl (as.map (vR ad)) ++ List.replicate (mnL y - (lg_sl (as.map (vR ad))).length) Slot.unset).toArray) (mnL y) (kEnt y as) := by
  have hl := lv_entry (as.map (vR ad)) (n := mnL y) (by rw [kEnA_len]; exact h)
  refine ⟨hl.1, ?_, hl.2.1, fun i v hv hn => ?_⟩
  · unfold kEnt
    rw [List.length_append, List.length_replicate]
    omega
  · unfold kEnt at hv
    by_cases hi : i < (kEnA as).length
    · rw [List.getElem?_append_left hi] at hv
      have h1 := kEnA_arg ad as 0 i v hv hn
      rw [Nat.zero_add] at h1
      exact hl.2.2 _ h1
    · rw [List.getElem?_append_right (by omega)] at hv
      have := List.eq_of_mem_replicate (List.mem_of_getElem? hv)
      exact absurd this hn
def kws (y : Nat) : List Cond := .code (my y) (mbyt y) (mnL y) (mrt y) :: kAW
def krm (y : Nat) : Room := { frames := mfr y, cells := 0, slots := 0, locals := mlo y }
def kWo (D : va_G) (cI cL : ClassId) (ad : Nat → Nat) (L : Nat) (xs : Nat → Int32) (H : kH) (U : State) : Prop := va_P D vwCl (kW ad cI cL H) U.heap ∧ va_K D vwCl [(cI, .int), (cL, .long)] U ∧ kCF ad L xs U U.heap
def kQc (D : va_G) (cI cL : ClassId) (ad : Nat → Nat) (L : Nat) (xs : Nat → Int32) (v : Option Value) (H' : kH) : Array Value → State → Outcome → State → Prop := fun _ st oc t => oc = .returned (v.map (vR ad)) ∧ va_P D vwCl (kW ad cI cL H') t.heap ∧ kSc L xs H' ∧ va_F (kA ad) st t
theorem kCF_blind {ad : Nat → Nat} {L : Nat} {xs : Nat → Int32} {U U' : State} (hv : U'.vm = U.vm) (hh : U'.heap = U.heap) (h : kCF ad L xs U U.heap) : kCF ad L xs U' U'.heap := by
  obtain ⟨h1, h2, h3, h4, h5, h6, h7⟩ := h
  have ha : U.vm.Alike U'.vm := by rw [hv]; exact Vm.Alike.refl U.vm
  rw [hh]
  exact ⟨h1.moved ha, vk_R.same hv h2, va_Z.moved ha h3, h4.moved ha, h5, h6, fun q hq h2 => va_Nw.same rfl hv.symm (h7 q hq h2)⟩
theorem kCF_call {ad : Nat → Nat} {L : Nat} {xs : Nat → Int32} {s U : State} {Hp : Heap} {locs : List Loc} (hW : s.WarmedH U.vm) (hS : va_S (kA ad) s.heap Hp locs) (hh : U.heap = Hp) (h : kCF ad L xs s s.heap) : kCF ad L xs U U.heap := by
  obtain ⟨h1, h2, h3, h4, h5, h6, h7⟩ := h
  rw [hh]
  exact ⟨(h1.moved hW.alike).kept hS.2.1, h2.warm hW, (va_Z.moved hW.alike h3).kept hS.2.1, (h4.moved hW.alike).kept (hS.2.1 _ h5 h6), Nat.lt_of_lt_of_le h5 hS.1, h6, fun q hq h2 => va_Nw.warmM hW (h7 q hq h2)⟩
theorem kBlind {D : va_G} {cI cL : ClassId} {ad : Nat → Nat} {L : Nat} {xs : Nat → Int32} {H : kH} {av : List Value} : FrameBlind (va_Pc av (kWo D cI cL ad L xs H)) := by
  intro a U g mk q
  obtain ⟨q0, qP, qK, qC⟩ := q
  exact ⟨q0, qP, va_K.moved (u := U) (U := U.calling g mk a) (Vm.Alike.refl U.vm) qK, kCF_blind (U := U) rfl rfl qC⟩
theorem kGood (y : Nat) (hy : y < 163) (hy2 : y ≠ 151) : GoodIn kAW (kws y) := by
  intro w hw
  rcases List.mem_cons.mp hw with rfl | h
  · exact kAW_good _ (kAW_of (kT_code y hy hy2) rfl)
  · exact kAW_good _ h
def kStm (n : Nat) : Prop := ∀ (m pc : Nat) (ls st : List Value) (H H' : kH) (v : Option Value), kRun n m pc ls st H = some (v, H') →
  ∀ {p : Program} {l : Launch} {e : Env} {R : Room} {s : State} {mi : MethodId} {args : Array Value} {below : List Frame} {meth : Method} {c : Code} {cells slots : Nat} {Q : State → Prop} {ad : Nat → Nat} {D : va_G} {cI cL : ClassId} {L : Nat} {xs : Nat → Int32},
  kFC p s mi c args R m cells slots → va_K D vwCl [(cI, .int), (cL, .long)] s → kCF ad L xs s s.heap → kInj ad →
  (∀ (pc' : Nat) (i : Instr) (Hp : Heap) (locs : List Loc) (arr : Array Slot), decode (mbyt m) pc' = .ok (i, 1) → kRok m i v → va_P D vwCl (kW ad cI cL H') Hp → va_S (kA ad) s.heap Hp locs → kSc L xs H' → W p l e R s mi args below meth c Hp locs cells slots Q (F0 mi pc' arr ((v.map (vR ad)).toList))) →
  kWt p l e R s mi args below meth c cells slots Q ad D cI cL L xs m (pc, ls, st, H)
theorem kMet {n : Nat} (ih : kStm n) {l : Launch} {y : Nat} {as : List Value} {H H' : kH} {v : Option Value} {ad : Nat → Nat} {D : va_G} {cI cL : ClassId} {L : Nat} {xs : Nat → Int32} (hy : y < 163) (hrun : kRun n y 0 (kEnt y as) [] H = some (v, H')) (hfit : (kEnA as).length ≤ mnL y) (hi : kInj ad) (hX : kSc L xs H) :
    Met l (my y) (kws y) (krm y) (va_Pc (as.map (vR ad)) (kWo D cI cL ad L xs H)) (kQc D cI cL ad L xs v H') 0 0 (kA ad) := by
  refine Met.ofW (cc := mbyt y) (maxL := mnL y) (ret := mrt y) (kT_own2 y hy) rfl ?_
  intro p e s m args below meth c s₁ B hml hv
  obtain ⟨rfl, hP, hK, hC⟩ := hv
  have hts := atoms_spec (ws := kws y) B.pre
  have hown : s.vm.findClass (cow (mow y)) = some m.cls := by
    have := findClass_of_methodNamed B.named
    rwa [kT_own1 y hy] at this
  rw [lg_entry_eq]
  refine ih _ _ _ _ _ _ _ hrun ⟨B.exec, B.bytes, hml, hown, fun w hw => hts w (List.mem_cons_of_mem _ hw), Nat.le_refl _, Nat.le_refl _, Nat.le_refl _, Nat.le_refl _⟩ hK hC hi ?_ s.heap [] _ hP va_S.rf (kLR_ent hfit) hX
  intro pc' i Hp locs arr hd hr hP' hS' hX'
  have hr0 := B.returns
  have hlocks := B.notSynchronized
  have hq : ∀ t : State, t.heap = Hp → s.WarmedH t.vm → kQc D cI cL ad L xs v H' (as.map (vR ad)).toArray s (.returned (v.map (vR ad))) t := fun t ht _ => ⟨rfl, by rw [ht]; exact hP', hX', hS'.F ht⟩
  rcases hr with ⟨rfl, x, rfl, hr⟩ | ⟨rfl, x, rfl, hr⟩ | ⟨rfl, rfl, hr⟩
  · rcases hr with hr | ⟨hr, hx⟩ | ⟨hr, hx⟩
    · exact W.iret B.exec B.bytes (hr0.trans hr) hq hS'.2.2 hd
    · exact W.zret B.exec B.bytes (hr0.trans hr) (by rcases hx with rfl | rfl <;> rfl) hq hS'.2.2 hd
    · exact W.zret B.exec B.bytes (hr0.trans hr) (by subst hx; rfl) hq hS'.2.2 hd
  · exact W.lret B.exec B.bytes (hr0.trans hr) hq hS'.2.2 hd
  · exact W.vret B.exec B.bytes (hr0.trans hr) hq hS'.2.2 hd
/-- behind a call -/
theorem kBack {p : Program} {l : Launch} {e : Env} {R : Room} {s : State} {mi : MethodId} {args : Array Value} {below : List Frame} {meth : Method} {c : Code} {cells slots : Nat} {Q : State → Prop} {ad : Nat → Nat} {D : va_G} {cI cL : ClassId} {L : Nat} {xs : Nat → Int32}
    {m pc : Nat} {ls r st : List Value} {H' : kH} {v : Option Value} {Hp : Heap} {locs : List Loc} {arr : Array Slot} {av : Array Value}
    (hr : va_Run p l e R s mi args below meth c Hp locs cells slots 0 0 (F0 mi pc arr st) (r.map (vR ad)) (kQc D cI cL ad L xs v H' av) (kA ad)) (hS : va_S (kA ad) s.heap Hp locs) (hl : kLR ad arr (mnL m) ls)
    (kk : kWt p l e R s mi args below meth c cells slots Q ad D cI cL L xs m (pc + 3, ls, v.toList ++ r, H')) : W p l e R s mi args below meth c Hp locs cells slots Q (F0 mi pc arr st) := by
  intro T hT X
  obtain ⟨v0, st₀, t, T', L0, h0, X', hL, e1, e2, ⟨hv, hP', hX', hz, hk⟩, stp⟩ := hr T hT X
  cases hv
  rw [h0] at hz hk
  have hS' : va_S (kA ad) s.heap T'.heap (locs ++ L0) := by
    refine ⟨Nat.le_trans hS.1 (by rw [e1]; exact hz), fun q h1 h2 => by rw [e1, hk q (Nat.lt_of_lt_of_le h1 hS.1) h2]; exact hS.2.1 q h1 h2, fun q hq => ?_⟩
    rcases List.mem_append.mp hq with h | h
    · exact hS.2.2 q h
    · exact hL q h
  obtain ⟨t2, a1, b1⟩ := kk T'.heap (locs ++ L0) arr (by rw [e1]; exact hP') hS' hl hX' T' rfl X'
  refine ⟨t2, stp t2 ?_, b1⟩
  have e4 : (v.map (vR ad)).toList ++ r.map (vR ad) = (v.toList ++ r).map (vR ad) := by
    cases v <;> rfl
  rw [e4]
  exact a1
theorem kRcv_ok {p : Program} {s : State} {ad : Nat → Nat} {D : va_G} {cI cL : ClassId} {L : Nat} {xs : Nat → Int32} {H : kH} {Hp : Heap} {locs : List Loc} {y k : Nat} (hy : y < 163) (h : kRcv y k = true) (hK : va_K D vwCl [(cI, .int), (cL, .long)] s) (hC : kCF ad L xs s s.heap) (hP : va_P D vwCl (kW ad cI cL H) Hp) (hS : va_S (kA ad) s.heap Hp locs) :
    ∃ cellB : Cell, Hp[ad k]? = some cellB ∧ cellB.vm.isStatics = false ∧ s.vm.findClass (my y).cls = some cellB.cls := by
  rw [kT_own1 y hy]
  unfold kRcv at h
  split at h
  · rename_i h8
    have hk : k = 39 := by simpa using h
    subst hk
    rw [h8]
    exact vk_recv hC.1 (i := 0) (by omega) hS
  · split at h
    · rename_i c hs
      simp only [Bool.and_eq_true, decide_eq_true_eq] at h
      obtain ⟨hk, h⟩ := h
      have he := (kW_get (ad := ad) (cI := cI) (cL := cL) (H := H) hk).trans (by rw [kcell_ob hs])
      split at h
      all_goals first
        | (rename_i hm; rw [hm]; exact va_recv hK hP rfl he)
        | cases h
    · cases h
theorem kRun_W : ∀ n : Nat, kStm n
  | 0 => fun _ _ _ _ _ _ _ h => by simp [kRun] at h
  | n + 1 => by
    intro m pc ls st H H' v h p l e R s mi args below meth c cells slots Q ad D cI cL L xs hF hK hC hi K
    have ih := kRun_W n
    have hF0 := hF
    obtain ⟨hx, hb, hml, hown, hts, hfr, hlo, hce, hsl⟩ := hF0
    rw [kRun] at h
    split at h
    · cases h
    · rename_i a hst
      unfold kStp at hst
      split at hst
      · rename_i i len hd
        split at hst
        · rename_i hlen
          rcases kIns2_cases hst with ⟨a', ha, hI⟩ | ⟨ix, -, hI⟩ | ⟨ix, kd, y, -, -, hI⟩ | ⟨v', ha, -⟩
          · cases ha
            exact kIns_W hF hK hC hi hd hlen hI (ih _ _ _ _ _ _ _ h hF hK hC hi K)
          · unfold kInvV at hI
            split at hI
            · split at hI
              · split at hI
                · split at hI <;> cases hI
                · cases hI
              · cases hI
            · cases hI
          · unfold kInvS at hI
            split at hI <;> cases hI
          · cases ha
        · cases hst
      · cases hst
    · rename_i a hst
      split at h
      · cases h
      · rename_i q hq
        obtain ⟨y, as, r⟩ := a
        obtain ⟨v1, H1⟩ := q
        dsimp only at h hq
        unfold kStp at hst
        split at hst
        · rename_i i len hd
          split at hst
          · rename_i hlen
            intro Hp locs arr hP hS hl hX
            dsimp only at hP hl hX
            rcases kIns2_cases hst with ⟨a', ha, hI⟩ | ⟨ix, rfl, hI⟩ | ⟨ix, kd, y', rfl, hcp, hI⟩ | ⟨v', ha, -⟩
            · cases ha
            · have hl3 : len = 3 := hlen
              subst hl3
              unfold kInvV at hI
              split at hI
              · rename_i kd y0 hcp
                split at hI
                · rename_i hc
                  obtain ⟨c1, c2, c3⟩ := hc
                  split at hI
                  · rename_i k r0 hdr
                    split at hI
                    · rename_i hc2
                      obtain ⟨d1, d2, d3⟩ := hc2
                      cases hI
                      obtain ⟨q, q1, q2, q3⟩ := kfind hcp
                      simp only [Bool.and_eq_true, beq_iff_eq] at q2
                      obtain ⟨q2, rfl⟩ := q2
                      obtain ⟨rfl, rfl⟩ := Prod.mk.inj q3
                      obtain ⟨y1, y2, hw⟩ := kT_cal q q1
                      rcases hw with ⟨z0, z1, z2, z3⟩ | ⟨z0, z1, z2⟩ | ⟨z0, z1, z2⟩
                      · rw [q2] at z1
                        unfold kRm at c3
                        simp only [Bool.and_eq_true, decide_eq_true_eq] at c3
                        have hM := kMet (l := l) (D := D) (cI := cI) (cL := cL) ih y1 hq d3 hi hX
                        have hst' : st.map (vR ad) = ((st.take (mna q.2.2.2.1)).reverse.map (vR ad)).reverse ++ .ref (ad k) :: r.map (vR ad) := by
                          have e0 : st = st.take (mna q.2.2.2.1) ++ .ref k :: r := by
                            have := List.take_append_drop (mna q.2.2.2.1) st
                            rw [hdr] at this
                            exact this.symm
                          conv => lhs; rw [e0]
                          rw [List.map_append, List.map_reverse, List.reverse_reverse]
                          rfl
                        have hG : GoodIn kAW (wsV (cow (mow m)) q.2.1 (my q.2.2.2.1).cls (my q.2.2.2.1) (kws q.2.2.2.1)) := by
                          intro w hw
                          unfold wsV at hw
                          simp only [List.cons_append, List.nil_append, List.mem_cons] at hw
                          rcases hw with rfl | rfl | rfl | rfl | hw
                          · exact kAW_good _ (kAW_of z1 rfl)
                          · exact kAW_good _ (kAW_of z2 rfl)
                          · exact kAW_good _ (kAW_of z3 rfl)
                          · exact kAW_good _ (kAW_of (kT_init _ y1) rfl)
                          · exact kGood _ y1 y2 _ hw
                        obtain ⟨o1, o2⟩ := kT_own3 _ y1
                        have hsum : ((r.map (vR ad)).map fun v => v.category).sum ≤ 8 := by rw [kCat_vR]; exact d2
                        have hrun := va_runV (p := p) (l := l) (e := e) (R := R) (s := s) (m := mi) (args := args) (below := below) (meth := meth) (c := c) (H := Hp) (locs := locs) (cells := cells) (slots := slots) (b := ad k) (As := (st.take (mna q.2.2.2.1)).reverse.map (vR ad)) (rest := r.map (vR ad)) (g := F0 mi pc arr (st.map (vR ad))) (C := (my q.2.2.2.1).cls)
                          ⟨hx, hb, hml, hown, hts⟩ hM (cwV (mna q.2.2.2.1) hts hG rfl rfl rfl ⟨rfl, o1, o2, kT_own4 _ y1⟩ ⟨by show mfr _ + 1 ≤ _; omega, by show _ + mlo _ ≤ _; omega⟩)
                          ⟨kBlind, kRcv_ok (p := p) y1 d1 hK hC hP hS, fun U hU hW => ⟨rfl, by rw [hU]; exact hP, va_K.moved hW.alike hK, kCF_call hW hS hU hC⟩⟩ rfl (by simp [Nat.min_eq_left c2]) hl.1 hst' (lv_room (by omega)) hd ⟨by omega, by omega⟩
                        exact kBack hrun hS hl (ih _ _ _ _ _ _ _ h hF hK hC hi K)
                      · omega
                      · omega
                    · cases hI
                  · cases hI
                · cases hI
              · cases hI
            · have hl3 : len = 3 := hlen
              subst hl3
              unfold kInvS at hI
              split at hI
              · rename_i hc
                obtain ⟨c1, c2, c3, c4, c5⟩ := hc
                cases hI
                obtain ⟨q, q1, q2, q3⟩ := kfind hcp
                simp only [Bool.and_eq_true, beq_iff_eq] at q2
                obtain ⟨q2, rfl⟩ := q2
                obtain ⟨rfl, rfl⟩ := Prod.mk.inj q3
                obtain ⟨y1, y2, hw⟩ := kT_cal q q1
                unfold kRm at c3
                simp only [Bool.and_eq_true, decide_eq_true_eq] at c3
                have hM := kMet (l := l) (D := D) (cI := cI) (cL := cL) ih y1 hq c5 hi hX
                have hst' : st.map (vR ad) = ((st.take (mna q.2.2.2.1)).reverse.map (vR ad)).reverse ++ (st.drop (mna q.2.2.2.1)).map (vR ad) := by
                  conv => lhs; rw [← List.take_append_drop (mna q.2.2.2.1) st]
                  rw [List.map_append, List.map_reverse, List.reverse_reverse]
                obtain ⟨o1, o2⟩ := kT_own3 _ y1
                have hsum : (((st.drop (mna q.2.2.2.1)).map (vR ad)).map fun v => v.category).sum ≤ 8 := by rw [kCat_vR]; exact c4
                rcases hw with ⟨z0, z1, z2, z3⟩ | ⟨z0, z1, z2⟩ | ⟨z0, z1, z2⟩
                · omega
                · rw [q2] at z1
                  have hG : GoodIn kAW (va_wsS (cow (mow m)) q.2.1 (my q.2.2.2.1) (kws q.2.2.2.1)) := by
                    intro w hw
                    unfold va_wsS at hw
                    simp only [List.cons_append, List.nil_append, List.mem_cons] at hw
                    rcases hw with rfl | rfl | rfl | hw
                    · exact kAW_good _ (kAW_of z1 rfl)
                    · exact kAW_good _ (kAW_of z2 rfl)
                    · exact kAW_good _ (kAW_of (kT_init _ y1) rfl)
                    · exact kGood _ y1 y2 _ hw
                  have hrun := va_runS (p := p) (l := l) (e := e) (R := R) (s := s) (m := mi) (args := args) (below := below) (meth := meth) (c := c) (H := Hp) (locs := locs) (cells := cells) (slots := slots) (As := (st.take (mna q.2.2.2.1)).reverse.map (vR ad)) (rest := (st.drop (mna q.2.2.2.1)).map (vR ad)) (g := F0 mi pc arr (st.map (vR ad)))
                    ⟨hx, hb, hml, hown, hts⟩ hM (va_cwS (mna q.2.2.2.1) hts hG rfl rfl rfl ⟨o1, o2, kT_own4 _ y1⟩ ⟨by show mfr _ + 1 ≤ _; omega, by show _ + mlo _ ≤ _; omega⟩)
                    ⟨kBlind, fun U hU hW => ⟨rfl, by rw [hU]; exact hP, va_K.moved hW.alike hK, kCF_call hW hS hU hC⟩⟩ rfl (by simp [Nat.min_eq_left c2]) hl.1 hst' (lv_room (by omega)) hd ⟨by omega, by omega⟩
                  exact kBack hrun hS hl (ih _ _ _ _ _ _ _ h hF hK hC hi K)
                · have hrun := va_runSN (p := p) (l := l) (e := e) (R := R) (s := s) (m := mi) (args := args) (below := below) (meth := meth) (c := c) (H := Hp) (locs := locs) (cells := cells) (slots := slots) (As := (st.take (mna q.2.2.2.1)).reverse.map (vR ad)) (rest := (st.drop (mna q.2.2.2.1)).map (vR ad)) (g := F0 mi pc arr (st.map (vR ad))) (host := "SneezeKing")
                    ⟨hx, hb, hml, hown, hts⟩ hM ⟨va_cnB (mna q.2.2.2.1) hts (kGood _ y1 y2) rfl rfl rfl (by have := hC.2.2.2.2.2.2 q q1 z0; rw [q2] at this; exact this) (hts _ (kAW_of (kT_init _ y1) rfl)) ⟨o1, o2, kT_own4 _ y1⟩ ⟨by show mfr _ + 1 ≤ _; omega, by show _ + mlo _ ≤ _; omega⟩, hts _ (kAW_of z2 rfl), trivial⟩
                    ⟨kBlind, fun U hU hW => ⟨rfl, by rw [hU]; exact hP, va_K.moved hW.alike hK, kCF_call hW hS hU hC⟩⟩ rfl (by simp [Nat.min_eq_left c2]) hl.1 hst' (lv_room (by omega)) hd ⟨by omega, by omega⟩
                  exact kBack hrun hS hl (ih _ _ _ _ _ _ _ h hF hK hC hi K)
              · cases hI
            · cases ha
          · cases hst
        · cases hst
    · rename_i v0 hst
      cases h
      unfold kStp at hst
      split at hst
      · rename_i i len hd
        split at hst
        · rename_i hlen
          intro Hp locs arr hP hS hl hX
          dsimp only at hP hl hX
          rcases kIns2_cases hst with ⟨a', ha, hI⟩ | ⟨ix, -, hI⟩ | ⟨ix, kd, y, -, -, hI⟩ | ⟨v', ha, hR, hs⟩
          · cases ha
          · unfold kInvV at hI
            split at hI
            · split at hI
              · split at hI
                · split at hI <;> cases hI
                · cases hI
              · cases hI
            · cases hI
          · unfold kInvS at hI
            split at hI <;> cases hI
          · cases ha
            have hlen1 : len = 1 := by
              rcases hR with ⟨rfl, -⟩ | ⟨rfl, -⟩ | ⟨rfl, -⟩ <;> exact hlen
            subst hlen1
            have e4 : st.map (vR ad) = (v.map (vR ad)).toList := by
              rw [hs]
              cases v <;> rfl
            refine W.eq (congrArg (F0 mi pc arr) e4) (K pc i Hp locs arr hd hR hP hS hX)
        · cases hst
      · cases hst
