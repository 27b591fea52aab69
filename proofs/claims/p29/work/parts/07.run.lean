/-! whole runs: a run of the abstract machine is a run of the machine -/
def kRok (m : Nat) (i : Instr) (v : Option Value) : Prop :=
  (i = .ireturn ∧ ∃ x, v = some (.int x) ∧ (mrt m = some .int ∨ (mrt m = some .boolean ∧ (x = 0 ∨ x = 1)) ∨ (mrt m = some .byte ∧ x = 0))) ∨ (i = .lreturn ∧ ∃ x, v = some (.long x) ∧ mrt m = some .long) ∨ (i = .return_ ∧ v = none ∧ mrt m = none)
theorem kIns2_cases {m pc : Nat} {i : Instr} {ls st : List Value} {H : kH} {o : kO} (h : kIns2 m i pc ls st H = some o) :
    (∃ a, o = .inl a ∧ kIns m i pc ls st H = some a) ∨ (∃ ix, i = .invokevirtual ix ∧ kInvV m ix st = some o) ∨
    (∃ ix kd y, i = .invokestatic ix ∧ cpM (mow m) ix = some (kd, y) ∧ kInvS m y kd st = some o) ∨ (∃ v, o = .inr (.inr v) ∧ kRok m i v ∧ st = v.toList) := by
  have hm : ∀ q : Option kN, q.map .inl = some o → ∃ a, o = .inl a ∧ q = some a := by
    intro q hq
    cases q with
    | none => cases hq
    | some a => cases hq; exact ⟨a, rfl, rfl⟩
  cases i with
  | invokevirtual ix => exact Or.inr (Or.inl ⟨ix, rfl, h⟩)
  | invokestatic ix =>
    unfold kIns2 at h
    dsimp only at h
    split at h
    · rename_i kd y e
      exact Or.inr (Or.inr (Or.inl ⟨ix, kd, y, rfl, e, h⟩))
    · exact Or.inl (hm _ h)
  | ireturn =>
    unfold kIns2 kRet at h
    dsimp only at h
    split at h
    · rename_i x
      split at h
      · rename_i e
        cases h
        exact Or.inr (Or.inr (Or.inr ⟨_, rfl, Or.inl ⟨rfl, x, rfl, Or.inl e⟩, rfl⟩))
      · rename_i e
        split at h
        · rename_i hx
          cases h
          exact Or.inr (Or.inr (Or.inr ⟨_, rfl, Or.inl ⟨rfl, x, rfl, Or.inr (Or.inl ⟨e, hx⟩)⟩, rfl⟩))
        · cases h
      · rename_i e
        split at h
        · rename_i hx
          cases h
          exact Or.inr (Or.inr (Or.inr ⟨_, rfl, Or.inl ⟨rfl, x, rfl, Or.inr (Or.inr ⟨e, hx⟩)⟩, rfl⟩))
        · cases h
      · cases h
    · cases h
  | lreturn =>
    unfold kIns2 at h
    dsimp only at h
    split at h
    · rename_i x e
      cases h
      exact Or.inr (Or.inr (Or.inr ⟨_, rfl, Or.inr (Or.inl ⟨rfl, x, rfl, e⟩), rfl⟩))
    · cases h
  | return_ =>
    unfold kIns2 at h
    dsimp only at h
    split at h
    · rename_i e
      cases h
      exact Or.inr (Or.inr (Or.inr ⟨_, rfl, Or.inr (Or.inr ⟨rfl, rfl, e⟩), rfl⟩))
    · cases h
  | _ => exact Or.inl (hm _ h)
theorem kEnA_len (ad : Nat → Nat) : ∀ as : List Value, (lg_sl (as.map (vR ad))).length = (kEnA as).length
  | [] => rfl
  | v :: vs => by
    have ih := kEnA_len ad vs
    cases v <;> simp_all [lg_sl, kEnA, vR, Value.category]
theorem kEnA_arg (ad : Nat → Nat) : ∀ (as : List Value) (i0 j : Nat) (v : Value), (kEnA as)[j]? = some v → v ≠ .null → (i0 + j, vR ad v) ∈ lv_args i0 (as.map (vR ad))
  | [], _, _, _, h, _ => by simp [kEnA] at h
  | w :: vs, i0, j, v, h, hn => by
    have one : w.category = 1 → kEnA (w :: vs) = w :: kEnA vs → (i0 + j, vR ad v) ∈ lv_args i0 ((w :: vs).map (vR ad)) := by
      intro hc he
      rw [he] at h
      simp only [List.map_cons, lv_args]
      rw [if_neg (by rw [vR_cat, hc]; decide)]
      cases j with
      | zero => cases h; exact List.mem_cons_self
      | succ j =>
        refine List.mem_cons_of_mem _ ?_
        have := kEnA_arg ad vs (i0 + 1) j v h hn
        rwa [show i0 + (j + 1) = i0 + 1 + j by omega]
    have two : w.category = 2 → kEnA (w :: vs) = w :: .null :: kEnA vs → (i0 + j, vR ad v) ∈ lv_args i0 ((w :: vs).map (vR ad)) := by
      intro hc he
      rw [he] at h
      simp only [List.map_cons, lv_args]
      rw [if_pos (by rw [vR_cat, hc])]
      cases j with
      | zero => cases h; exact List.mem_cons_self
      | succ j =>
        cases j with
        | zero => cases h; exact absurd rfl hn
        | succ j =>
          refine List.mem_cons_of_mem _ ?_
          have := kEnA_arg ad vs (i0 + 2) j v h hn
          rwa [show i0 + (j + 1 + 1) = i0 + 2 + j by omega]
    cases w with
    | long x => exact two rfl rfl
    | double x => exact two rfl rfl
    | int x => exact one rfl rfl
    | float x => exact one rfl rfl
    | null => exact one rfl rfl
    | ref x => exact one rfl rfl
    | retAddr x => exact one rfl rfl
theorem kLR_ent {ad : Nat → Nat} {y : Nat} {as : List Value} (h : (kEnA as).length ≤ mnL y) : kLR ad ((lg_sl (as.map (vR ad)) ++ List.replicate (mnL y - (lg_sl (as.map (vR ad))).length) Slot.unset).toArray) (mnL y) (kEnt y as) := by
  have hl := lv_entry (as.map (vR ad)) (n := mnL y) (by rw [kEnA_len]; exact h)
  refine ⟨hl.1, ?_, hl.2.1, fun i v hv hn => ?_⟩
  · unfold kEnt
    rw [List.length_append, List.length_replicate]
    omega
  · unfold kEnt at hv
    by_cases hi : i < (kEnA as).length
    · rw [List.getElem?_append_left hi] at hv
      have h1 := kEnA_arg ad as 0 i v hv hn
      rw [Nat.zero_add] at h1
      exact hl.2.2 _ h1
    · rw [List.getElem?_append_right (by omega)] at hv
      have := List.eq_of_mem_replicate (List.mem_of_getElem? hv)
      exact absurd this hn
abbrev zAI (cI : ClassId) (n : Nat) : va_E := .inl (cI, n, .inl (fun _ => 0))
abbrev zAL (cL : ClassId) (n : Nat) : va_E := .inl (cL, n, .inr (.inl (fun _ => 0)))
theorem kGI {t w : Cond} (h : w ∈ kAW) : GoodIn (t :: kAW) (w :: kAW) := by
  intro x hx
  rcases List.mem_cons.mp hx with rfl | h1
  · exact ⟨List.mem_cons_of_mem _ (kAW_good _ h).1, (kAW_good _ h).2⟩
  · exact ⟨List.mem_cons_of_mem _ (kAW_good _ h1).1, (kAW_good _ h1).2⟩
theorem kGL {w : Cond} (h : w ∈ kAW) : GoodIn lw_tbl (w :: kAW) := by
  intro x hx
  rcases List.mem_cons.mp hx with rfl | h1
  · exact ⟨(List.mem_filter.mp h).1, (kAW_good _ h).2⟩
  · exact ⟨(List.mem_filter.mp h1).1, (kAW_good _ h1).2⟩
section KNI
variable {p : Program} {l : Launch} {e : Env} {R : Room} {s : State} {m : MethodId} {args : Array Value} {below : List Frame} {meth : Method} {c : Code} {H : Heap} {locs : List Loc} {cells slots : Nat} {Q : State → Prop}
variable {cc : ByteArray} {pc : Nat} {ls : Array Slot} {rest : List Value} {D : va_G} {A : Nat → Prop} {ws : va_W} {H0 : Heap} {cI cL : ClassId}
theorem kn_ai (hexec : p.tables.exec = Jvm.exec) (hb : c.code = cc) (harr : (Cond.arrayClass .int).before args s = true) (hK : va_K D vwCl [(cI, .int), (cL, .long)] s) (hP : va_P D vwCl ws H) (hD : va_D A ws) (hS : va_S A H0 H locs) (hA : ∀ q, H0.size ≤ q → A q) {n : Int32} (N : Nat) (hn : ¬ n < 0) (hN : n.toNatClampNeg = N) (hbytes : N * componentBytes .int ≤ 536870912) (hcells : cells + 1 ≤ R.cells) (hslots : slots + N ≤ R.slots) (hdg : decode cc pc = .ok (.newarray .int, 2))
    (kk : ∀ (q : Nat) (H1 : Heap), va_P D vwCl (ws ++ [(q, zAI cI N)]) H1 → va_D A (ws ++ [(q, zAI cI N)]) → va_S A H0 H1 locs → W p l e R s m args below meth c H1 locs (cells + 1) (slots + N) Q (F0 m (pc + 2) ls (.ref q :: rest))) : W p l e R s m args below meth c H locs cells slots Q (F0 m pc ls (.int n :: rest)) := by
  refine va_newa (atype := .int) hexec hb harr rfl hK hP hD hS hA (a0 := (N, .inl (fun _ => 0))) (fun _ => rfl) hn hN hbytes hcells hslots hdg (fun q cA H1 hK1 hP1 hD1 hS1 => ?_)
  have e1 : s.vm.findClass ("[" ++ FieldType.int.toString) = some cA := (hK1.2 2 (cA, .int) rfl).2
  have e2 : s.vm.findClass ("[" ++ FieldType.int.toString) = some cI := (hK.2 0 (cI, .int) rfl).2
  obtain rfl : cI = cA := Option.some.inj (e2.symm.trans e1)
  exact kk q H1 hP1 hD1 hS1
theorem kn_al (hexec : p.tables.exec = Jvm.exec) (hb : c.code = cc) (harr : (Cond.arrayClass .long).before args s = true) (hK : va_K D vwCl [(cI, .int), (cL, .long)] s) (hP : va_P D vwCl ws H) (hD : va_D A ws) (hS : va_S A H0 H locs) (hA : ∀ q, H0.size ≤ q → A q) {n : Int32} (N : Nat) (hn : ¬ n < 0) (hN : n.toNatClampNeg = N) (hbytes : N * componentBytes .long ≤ 536870912) (hcells : cells + 1 ≤ R.cells) (hslots : slots + N ≤ R.slots) (hdg : decode cc pc = .ok (.newarray .long, 2))
    (kk : ∀ (q : Nat) (H1 : Heap), va_P D vwCl (ws ++ [(q, zAL cL N)]) H1 → va_D A (ws ++ [(q, zAL cL N)]) → va_S A H0 H1 locs → W p l e R s m args below meth c H1 locs (cells + 1) (slots + N) Q (F0 m (pc + 2) ls (.ref q :: rest))) : W p l e R s m args below meth c H locs cells slots Q (F0 m pc ls (.int n :: rest)) := by
  refine va_newa (atype := .long) hexec hb harr rfl hK hP hD hS hA (a0 := (N, .inr (.inl (fun _ => 0)))) (fun _ => rfl) hn hN hbytes hcells hslots hdg (fun q cA H1 hK1 hP1 hD1 hS1 => ?_)
  have e1 : s.vm.findClass ("[" ++ FieldType.long.toString) = some cA := (hK1.2 2 (cA, .long) rfl).2
  have e2 : s.vm.findClass ("[" ++ FieldType.long.toString) = some cL := (hK.2 1 (cL, .long) rfl).2
  obtain rfl : cL = cA := Option.some.inj (e2.symm.trans e1)
  exact kk q H1 hP1 hD1 hS1
end KNI
def kws (y : Nat) : List Cond := .code (my y) (mbyt y) (mnL y) (mrt y) :: kAW
def krm (y mc : Nat) : Room := { frames := mfr y, cells := mc, slots := 19 * mc, locals := mlo y }
def kWo (D : va_G) (cI cL : ClassId) (B : Nat) (ad : Nat → Nat) (L : Nat) (xs : Nat → Int32) (H : kH) (U : State) : Prop := va_P D vwCl (kW ad cI cL H) U.heap ∧ va_K D vwCl [(cI, .int), (cL, .long)] U ∧ kCF B ad L xs U U.heap
def kQc (D : va_G) (cI cL : ClassId) (B : Nat) (ad : Nat → Nat) (L : Nat) (xs : Nat → Int32) (v : Option Value) (H' : kH) : Array Value → State → Outcome → State → Prop := fun _ st oc t => oc = .returned (v.map (vR ad)) ∧ va_P D vwCl (kW ad cI cL H') t.heap ∧ kSc L xs H' ∧ va_F (kA B) st t
theorem kCF_blind {B : Nat} {ad : Nat → Nat} {L : Nat} {xs : Nat → Int32} {U U' : State} (hv : U'.vm = U.vm) (hh : U'.heap = U.heap) (h : kCF B ad L xs U U.heap) : kCF B ad L xs U' U'.heap := by
  obtain ⟨h1, h2, h3, h4, h5, h6, h7, h8⟩ := h
  have ha : U.vm.Alike U'.vm := by rw [hv]; exact Vm.Alike.refl U.vm
  rw [hh]
  exact ⟨h1.moved ha, vk_R.same hv h2, va_Z.moved ha h3, h4.moved ha, h5, h6, fun q hq h2 => va_Nw.same rfl hv.symm (h7 q hq h2), h8⟩
theorem kCF_call {B : Nat} {ad : Nat → Nat} {L : Nat} {xs : Nat → Int32} {s U : State} {Hp : Heap} {locs : List Loc} (hW : s.WarmedH U.vm) (hS : va_S (kA B) s.heap Hp locs) (hh : U.heap = Hp) (h : kCF B ad L xs s s.heap) : kCF B ad L xs U U.heap := by
  obtain ⟨h1, h2, h3, h4, h5, h6, h7, h8⟩ := h
  rw [hh]
  exact ⟨(h1.moved hW.alike).kept hS.2.1, h2.warm hW, (va_Z.moved hW.alike h3).kept hS.2.1, (h4.moved hW.alike).kept (hS.2.1 _ h5 h6), Nat.lt_of_lt_of_le h5 hS.1, h6, fun q hq h2 => va_Nw.warmM hW (h7 q hq h2), Nat.le_trans h8 hS.1⟩
theorem kBlind {D : va_G} {cI cL : ClassId} {B : Nat} {ad : Nat → Nat} {L : Nat} {xs : Nat → Int32} {H : kH} {av : List Value} : FrameBlind (va_Pc av (kWo D cI cL B ad L xs H)) := by
  intro a U g mk q
  obtain ⟨q0, qP, qK, qC⟩ := q
  exact ⟨q0, qP, va_K.moved (u := U) (U := U.calling g mk a) (Vm.Alike.refl U.vm) qK, kCF_blind (U := U) rfl rfl qC⟩
theorem kGood (y : Nat) (hy : y < 100) (hy2 : y ≠ 85) : GoodIn kAW (kws y) := by
  intro w hw
  rcases List.mem_cons.mp hw with rfl | h
  · exact kAW_good _ (kAW_of (kT_code y hy hy2) rfl)
  · exact kAW_good _ h
/-- what no run but the law's changes -/
theorem kCal_ne {m pc y : Nat} {ls st as r : List Value} {H : kH} (h : kStp m pc ls st H = some (.inr (.inl (y, as, r)))) : y < 100 ∧ y ≠ 85 := by
  have key : ∀ {o i kd y0 : Nat}, cpM o i = some (kd, y0) → y0 < 100 ∧ y0 ≠ 85 := by
    intro o i kd y0 hcp
    obtain ⟨q, q1, q2, q3⟩ := kfind hcp
    obtain ⟨rfl, rfl⟩ := Prod.mk.inj q3
    obtain ⟨y1, y2, -⟩ := kT_cal q q1
    exact ⟨y1, y2⟩
  unfold kStp at h
  split at h
  · rename_i i len hd
    split at h
    · rcases kIns2_cases h with ⟨a', ha, -⟩ | ⟨ix, rfl, hI⟩ | ⟨ix, kd, y', rfl, hcp, hI⟩ | ⟨v', ha, -⟩
      · cases ha
      · unfold kInvV at hI
        split at hI
        · rename_i kd y0 hcp
          split at hI
          · split at hI
            · split at hI
              · cases hI
                exact key hcp
              · cases hI
            · cases hI
          · cases hI
        · cases hI
      · unfold kInvS at hI
        split at hI
        · cases hI
          exact key hcp
        · cases hI
      · cases ha
    · cases h
  · cases h
theorem kRun_R : ∀ (n m pc : Nat) (ls st : List Value) (H H' : kH) (v : Option Value), m ≠ 85 → kRun n m pc ls st H = some (v, H') → H'.2.2 = H.2.2
  | 0, _, _, _, _, _, _, _, _, h => by simp [kRun] at h
  | n + 1, m, pc, ls, st, H, H', v, hm, h => by
    rw [kRun] at h
    split at h
    · cases h
    · rename_i a hst
      refine (kRun_R n _ _ _ _ _ _ _ hm h).trans ?_
      unfold kStp at hst
      split at hst
      · split at hst
        · rcases kIns2_cases hst with ⟨a', ha, hI⟩ | ⟨ix, -, hI⟩ | ⟨ix, kd, y, -, -, hI⟩ | ⟨v', ha, -⟩
          · cases ha
            exact kIns_R hI
          · unfold kInvV at hI
            split at hI
            · split at hI
              · split at hI
                · split at hI <;> cases hI
                · cases hI
              · cases hI
            · cases hI
          · unfold kInvS at hI
            split at hI <;> cases hI
          · cases ha
        · cases hst
      · cases hst
    · rename_i a hst
      split at h
      · split at h
        · rename_i hc
          exact absurd hc.1 hm
        · cases h
      · split at h
        · cases h
        · rename_i q hq
          obtain ⟨y, as, r⟩ := a
          obtain ⟨v1, H1⟩ := q
          exact (kRun_R n _ _ _ _ _ _ _ hm h).trans (kRun_R n _ _ _ _ _ _ _ (kCal_ne hst).2 hq)
    · cases h
      rfl
/-- what a frame needs; cells and slots by how many rows were made -/
def kFD (p : Program) (s : State) (mi : MethodId) (c : Code) (args : Array Value) (R : Room) (m : Nat) (cz sz : Nat → Nat) : Prop :=
  p.tables.exec = Jvm.exec ∧ c.code = mbyt m ∧ c.maxLocals = mnL m ∧ s.vm.findClass (cow (mow m)) = some mi.cls ∧ (∀ w ∈ kAW, w.before args s = true) ∧ mfr m ≤ R.frames ∧ mlo m ≤ R.locals ∧ (∀ k, k ≤ 1000 → cz k ≤ R.cells ∧ sz k ≤ R.slots) ∧ (m = 85 → ∀ k, cz (k + 1) = cz k + 1 ∧ sz (k + 1) = sz k + 19)
theorem kFD.fc {p : Program} {s : State} {mi : MethodId} {c : Code} {args : Array Value} {R : Room} {m : Nat} {cz sz : Nat → Nat} (h : kFD p s mi c args R m cz sz) {k : Nat} (hk : k ≤ 1000) : kFC p s mi c args R m (cz k) (sz k) := by
  obtain ⟨h1, h2, h3, h4, h5, h6, h7, h8, -⟩ := h
  exact ⟨h1, h2, h3, h4, h5, h6, h7, (h8 k hk).1, (h8 k hk).2⟩
def kStm (n : Nat) : Prop := ∀ (m pc : Nat) (ls st : List Value) (H H' : kH) (v : Option Value), kRun n m pc ls st H = some (v, H') →
  ∀ {p : Program} {l : Launch} {e : Env} {R : Room} {s : State} {mi : MethodId} {args : Array Value} {below : List Frame} {meth : Method} {c : Code} {cz sz : Nat → Nat} {Q : State → Prop} {B : Nat} {ad : Nat → Nat} {D : va_G} {cI cL : ClassId} {L : Nat} {xs : Nat → Int32},
  kFD p s mi c args R m cz sz → va_K D vwCl [(cI, .int), (cL, .long)] s → kCF B ad L xs s s.heap → kInj B (nW H) ad → na H ≤ 1000 →
  (∀ (pc' : Nat) (i : Instr) (Hp : Heap) (locs : List Loc) (arr : Array Slot), decode (mbyt m) pc' = .ok (i, 1) → kRok m i v → va_P D vwCl (kW ad cI cL H') Hp → va_S (kA B) s.heap Hp locs → kSc L xs H' → W p l e R s mi args below meth c Hp locs (cz (na H')) (sz (na H')) Q (F0 mi pc' arr ((v.map (vR ad)).toList))) →
  kWt p l e R s mi args below meth c (cz (na H)) (sz (na H)) Q B ad D cI cL L xs m (pc, ls, st, H)
theorem na_of {H H' : kH} (h : H'.2.2 = H.2.2) : na H' = na H := by
  unfold na
  rw [h]
theorem kMet {n : Nat} (ih : kStm n) {l : Launch} {y : Nat} {as : List Value} {H H' : kH} {v : Option Value} {B : Nat} {ad : Nat → Nat} {D : va_G} {cI cL : ClassId} {L : Nat} {xs : Nat → Int32} (hy : y < 100) (hy2 : y ≠ 85) (hrun : kRun n y 0 (kEnt y as) [] H = some (v, H')) (hfit : (kEnA as).length ≤ mnL y) (hi : kInj B (nW H) ad) (hna : na H ≤ 1000) (hX : kSc L xs H) :
    Met l (my y) (kws y) (krm y 0) (va_Pc (as.map (vR ad)) (kWo D cI cL B ad L xs H)) (kQc D cI cL B ad L xs v H') 0 0 (kA B) := by
  refine Met.ofW (cc := mbyt y) (maxL := mnL y) (ret := mrt y) (kT_own2 y hy) rfl ?_
  intro p e s m args below meth c s₁ B1 hml hv
  obtain ⟨rfl, hP, hK, hC⟩ := hv
  have hts := atoms_spec (ws := kws y) B1.pre
  have hown : s.vm.findClass (cow (mow y)) = some m.cls := by
    have := findClass_of_methodNamed B1.named
    rwa [kT_own1 y hy] at this
  rw [lg_entry_eq]
  refine ih _ _ _ _ _ _ _ hrun (cz := fun _ => 0) (sz := fun _ => 0) ⟨B1.exec, B1.bytes, hml, hown, fun w hw => hts w (List.mem_cons_of_mem _ hw), Nat.le_refl _, Nat.le_refl _, fun _ _ => ⟨Nat.zero_le _, Nat.zero_le _⟩, fun z => absurd z hy2⟩ hK hC hi hna ?_ s.heap [] _ hP va_S.rf (kLR_ent hfit) hX
  intro pc' i Hp locs arr hd hr hP' hS' hX'
  have hr0 := B1.returns
  have hlocks := B1.notSynchronized
  have hq : ∀ t : State, t.heap = Hp → s.WarmedH t.vm → kQc D cI cL B ad L xs v H' (as.map (vR ad)).toArray s (.returned (v.map (vR ad))) t := fun t ht _ => ⟨rfl, by rw [ht]; exact hP', hX', hS'.F ht⟩
  rcases hr with ⟨rfl, x, rfl, hr⟩ | ⟨rfl, x, rfl, hr⟩ | ⟨rfl, rfl, hr⟩
  · rcases hr with hr | ⟨hr, hx⟩ | ⟨hr, hx⟩
    · exact W.iret B1.exec B1.bytes (hr0.trans hr) hq hS'.2.2 hd
    · exact W.zret B1.exec B1.bytes (hr0.trans hr) (by rcases hx with rfl | rfl <;> rfl) hq hS'.2.2 hd
    · exact W.zret B1.exec B1.bytes (hr0.trans hr) (by subst hx; rfl) hq hS'.2.2 hd
  · exact W.lret B1.exec B1.bytes (hr0.trans hr) hq hS'.2.2 hd
  · exact W.vret B1.exec B1.bytes (hr0.trans hr) hq hS'.2.2 hd
/-! the row 30 -/
theorem sref_ne (k f : Nat) : sref k f ≠ 30 := by
  have h : ∀ q ∈ ksr, q.2.2 ≠ 30 := by decide
  unfold sref
  cases e : ksr.find? (fun q => q.1 == k && q.2.1 == f) with
  | none => exact fun z => by cases z
  | some q => exact h q (List.mem_of_find?_eq_some e)
theorem kcell_ad {ad ad' : Nat → Nat} {cI cL : ClassId} {H H' : kH} {k : Nat} (ha : ∀ j, j ≠ 30 → ad' j = ad j) (h1 : ∀ f, hI H' k f = hI H k f) (h2 : ∀ f, hL H' k f = hL H k f) : kcell ad' cI cL H' k = kcell ad cI cL H k := by
  have e1 : hI H' k = hI H k := funext h1
  have e2 : hL H' k = hL H k := funext h2
  have e4 : ∀ c, (fun f => kfv ad' H' k c f) = (fun f => kfv ad H k c f) := fun c => funext fun f => by
    unfold kfv
    rw [h1, h2, ha _ (sref_ne k f)]
  unfold kcell
  rw [e1, e2]
  split <;> first | rfl | (rw [e4])
theorem kCF_ad {B : Nat} {ad ad' : Nat → Nat} {L : Nat} {xs : Nat → Int32} {s : State} {Hp : Heap} (ha : ∀ j, j ≠ 30 → ad' j = ad j) (h : kCF B ad L xs s Hp) : kCF B ad' L xs s Hp := by
  unfold kCF at h ⊢
  rw [ha 38 (by decide), ha 39 (by decide), ha 40 (by decide)]
  exact h
theorem vR_ad {ad ad' : Nat → Nat} (ha : ∀ j, j ≠ 30 → ad' j = ad j) {v : Value} (hv : v ≠ .ref 30) : vR ad' v = vR ad v := by
  cases v with
  | ref k =>
    show Value.ref (ad' k) = Value.ref (ad k)
    rw [ha k (fun z => hv (by rw [z]))]
  | _ => rfl
theorem kNo_ne {vs : List Value} (h : kNo vs = true) : ∀ v ∈ vs, v ≠ .ref 30 := by
  intro v hv z
  subst z
  have h1 := List.all_eq_true.mp h _ hv
  exact absurd h1 (by decide)
theorem kEnA_no {vs : List Value} (h : ∀ v ∈ vs, v ≠ .ref 30) : ∀ v ∈ kEnA vs, v ≠ .ref 30 := by
  induction vs with
  | nil => intro v hv; cases hv
  | cons w vs ih =>
    have ih := ih (fun v hv => h v (List.mem_cons_of_mem _ hv))
    have hw := h w List.mem_cons_self
    intro v hv
    have two : v ∈ w :: .null :: kEnA vs → v ≠ .ref 30 := by
      intro hv
      rcases List.mem_cons.mp hv with rfl | hv
      · exact hw
      · rcases List.mem_cons.mp hv with rfl | hv
        · exact fun z => by cases z
        · exact ih v hv
    have one : v ∈ w :: kEnA vs → v ≠ .ref 30 := by
      intro hv
      rcases List.mem_cons.mp hv with rfl | hv
      · exact hw
      · exact ih v hv
    cases w with
    | long x => exact two hv
    | double x => exact two hv
    | int x => exact one hv
    | float x => exact one hv
    | null => exact one hv
    | ref x => exact one hv
    | retAddr x => exact one hv
theorem kEnt_no {y : Nat} {vs : List Value} (h : kNo vs = true) : ∀ v ∈ kEnt y vs, v ≠ .ref 30 := by
  intro v hv
  unfold kEnt at hv
  rcases List.mem_append.mp hv with hv | hv
  · exact kEnA_no (kNo_ne h) v hv
  · rw [List.eq_of_mem_replicate hv]
    exact fun z => by cases z
theorem kLR_ad {ad ad' : Nat → Nat} {arr : Array Slot} {n : Nat} {ls : List Value} (ha : ∀ j, j ≠ 30 → ad' j = ad j) (hno : ∀ v ∈ ls, v ≠ .ref 30) (h : kLR ad arr n ls) : kLR ad' arr n ls := by
  obtain ⟨h1, h2, h3, h4⟩ := h
  refine ⟨h1, h2, h3, fun i v hv hn => ?_⟩
  rw [vR_ad ha (hno v (List.mem_of_getElem? hv))]
  exact h4 i v hv hn
theorem fl_mkS (H : kH) : fl (mkS H) = 1 := rfl
theorem nW_mkS (H : kH) : nW (mkS H) = 31 := rfl
theorem fl_clS (H r : kH) : fl (clS H r) = 0 := rfl
theorem nW_clS (H r : kH) : nW (clS H r) = 30 := rfl
theorem na_mkS (H : kH) : na (mkS H) = na H := rfl
theorem na_clS (H r : kH) : na (clS H r) = na H + 1 := rfl
theorem hI_mkS (H : kH) (k j : Nat) : hI (mkS H) k j = if k = 30 then 0 else hI H k j := rfl
theorem hI_clS (H r : kH) (k j : Nat) : hI (clS H r) k j = hI r k j := rfl
theorem hL_clS (H r : kH) (k j : Nat) : hL (clS H r) k j = hL r k j := rfl
theorem hL_mkS (H : kH) (k j : Nat) : hL (mkS H) k j = hL H k j := rfl
theorem kSc_mkS {L : Nat} {xs : Nat → Int32} {H : kH} (h : kSc L xs H) : kSc L xs (mkS H) := ⟨fun j => (by rw [hI_mkS, if_neg (by decide)]; exact h.1 j), (by rw [hI_mkS, if_neg (by decide)]; exact h.2.1), h.2.2⟩
theorem kSc_clS {L : Nat} {xs : Nat → Int32} {H r : kH} (h : kSc L xs r) : kSc L xs (clS H r) := h
theorem kW_mkS {ad ad' : Nat → Nat} {cI cL : ClassId} {H : kH} {q : Nat} (hf : fl H = 0) (ha : ∀ j, j ≠ 30 → ad' j = ad j) (hq : ad' 30 = q) : kW ad cI cL H ++ [(q, zAI cI 19)] = kW ad' cI cL (mkS H) := by
  unfold kW
  have e31 : List.range 31 = List.range 30 ++ [30] := List.range_succ
  rw [nW_mkS, show nW H = 30 from if_pos hf, e31, List.map_append]
  congr 1
  · refine List.map_congr_left (fun k hk => ?_)
    have hk := List.mem_range.mp hk
    rw [ha k (by omega), show kcell ad' cI cL (mkS H) k = kcell ad cI cL H k from kcell_ad ha (fun f => by rw [hI_mkS, if_neg (by omega)]) (fun f => rfl)]
  · show [(q, _)] = [(ad' 30, kcell ad' cI cL (mkS H) 30)]
    rw [hq]
    rfl
theorem va_P_clS {D : va_G} {ad ad' : Nat → Nat} {cI cL : ClassId} {H r : kH} {Hp : Heap} (ha : ∀ j, j ≠ 30 → ad' j = ad j) (h : va_P D vwCl (kW ad' cI cL r) Hp) : va_P D vwCl (kW ad cI cL (clS H r)) Hp := by
  intro k q hq
  obtain ⟨hk, rfl⟩ := kW_lt hq
  rw [nW_clS] at hk
  have h1 := h k _ (kW_get (lt_nW hk))
  rw [ha k (by omega), show kcell ad' cI cL r k = kcell ad cI cL (clS H r) k from kcell_ad ha (fun f => rfl) (fun f => rfl)] at h1
  exact h1
theorem kMetA {n : Nat} (ih : kStm n) {l : Launch} {y : Nat} {as : List Value} {H H' : kH} {v : Option Value} {B : Nat} {ad : Nat → Nat} {D : va_G} {cI cL : ClassId} {L : Nat} {xs : Nat → Int32} (hal : kAl y = true) (hrun : kRun n y (kApc y) (kEnB y as) [] (mkS H) = some (v, H')) (hf : fl H = 0) (hno : kNo as = true) (hfit : (kEnA as).length ≤ mnL y) (hi : kInj B (nW H) ad) (hna : na H ≤ 1000) (hX : kSc L xs H) :
    Met l (my y) (kws y) (krm y 1) (va_Pc (as.map (vR ad)) (kWo D cI cL B ad L xs H)) (kQc D cI cL B ad L xs v (clS H H')) 1 19 (kA B) := by
  have hy0 : y = 86 ∨ y = 87 := by
    unfold kAl at hal
    simp only [Bool.or_eq_true, beq_iff_eq] at hal
    exact hal
  have hy : y < 100 := by omega
  have hy2 : y ≠ 85 := by omega
  have hd0 : decode (mbyt y) 0 = .ok (.bipush 19, 2) ∧ decode (mbyt y) 2 = .ok (.newarray .int, 2) := by
    rcases hy0 with rfl | rfl <;> exact ⟨by decide +kernel, by decide +kernel⟩
  refine Met.ofW (cc := mbyt y) (maxL := mnL y) (ret := mrt y) (kT_own2 y hy) rfl ?_
  intro p e s m args below meth c s₁ B1 hml hv
  obtain ⟨rfl, hP, hK, hC⟩ := hv
  have hts := atoms_spec (ws := kws y) B1.pre
  have hq : ∀ w ∈ kAW, w.before (as.map (vR ad)).toArray s = true := fun w hw => hts w (List.mem_cons_of_mem _ hw)
  have hown : s.vm.findClass (cow (mow y)) = some m.cls := by
    have := findClass_of_methodNamed B1.named
    rwa [kT_own1 y hy] at this
  rw [lg_entry_eq]
  have hl0 := kLR_ent (ad := ad) hfit
  generalize (lg_sl (as.map (vR ad)) ++ List.replicate (mnL y - (lg_sl (as.map (vR ad))).length) Slot.unset).toArray = arr at hl0 ⊢
  refine lv_bipush (v := 19) B1.exec B1.bytes hd0.1 rfl ?_
  refine kn_ai B1.exec B1.bytes (hq _ (kAW_of (i := 74) (by decide +kernel) rfl)) hK hP (kD hi) va_S.rf (fun q h => Nat.le_trans hC.2.2.2.2.2.2.2 h) 19 (by decide) rfl (Nat.le_of_ble_eq_true rfl) (Nat.le_refl 1) (Nat.le_refl 19) hd0.2 (fun q H1 hP1 hD1 hS1 => ?_)
  obtain ⟨ad', ha0, ha⟩ : ∃ ad' : Nat → Nat, ad' 30 = q ∧ ∀ j, j ≠ 30 → ad' j = ad j := ⟨fun j => if j = 30 then q else ad j, if_pos rfl, fun j hj => if_neg hj⟩
  rw [kW_mkS hf ha ha0] at hP1 hD1
  rw [← ha0]
  have hi' : kInj B (nW (mkS H)) ad' := ⟨fun i j h1 h2 h => hD1.1 i j _ _ (kW_get h1) (kW_get h2) h, fun k h => hD1.2 k _ (kW_get h)⟩
  have hl1 := kLR_ad ha (kEnt_no hno) hl0
  have go : ∀ (pc : Nat) (arr1 : Array Slot), pc = kApc y → kLR ad' arr1 (mnL y) (kEnB y as) → W p l e (headSpec (kws y) (krm y 1)).room s m (as.map (vR ad)).toArray below meth c H1 [] (0 + 1) (0 + 19) (MQ below (kQc D cI cL B ad L xs v (clS H H')) (as.map (vR ad)).toArray s 1 19 (kA B)) (F0 m pc arr1 []) := by
    rintro pc arr1 rfl hl2
    refine ih _ _ _ _ _ _ _ hrun (cz := fun _ => 1) (sz := fun _ => 19) ⟨B1.exec, B1.bytes, hml, hown, hq, Nat.le_refl _, Nat.le_refl _, fun _ _ => ⟨Nat.le_refl _, Nat.le_refl _⟩, fun z => absurd z hy2⟩ hK (kCF_ad ha hC) hi' hna ?_ H1 [] arr1 hP1 hS1 hl2 (kSc_mkS hX)
    intro pc' i Hp locs arr hd hr hP' hS' hX'
    have hr0 := B1.returns
    have hlocks := B1.notSynchronized
    have hvr : v.map (vR ad') = v.map (vR ad) := by
      rcases hr with ⟨-, x, rfl, -⟩ | ⟨-, x, rfl, -⟩ | ⟨-, rfl, -⟩ <;> rfl
    have hq2 : ∀ t : State, t.heap = Hp → s.WarmedH t.vm → kQc D cI cL B ad L xs v (clS H H') (as.map (vR ad)).toArray s (.returned (v.map (vR ad'))) t := fun t ht _ => ⟨by rw [hvr], by rw [ht]; exact va_P_clS ha hP', kSc_clS hX', hS'.F ht⟩
    rcases hr with ⟨rfl, x, rfl, hr⟩ | ⟨rfl, x, rfl, hr⟩ | ⟨rfl, rfl, hr⟩
    · rcases hr with hr | ⟨hr, hx⟩ | ⟨hr, hx⟩
      · exact W.iret B1.exec B1.bytes (hr0.trans hr) hq2 hS'.2.2 hd
      · exact W.zret B1.exec B1.bytes (hr0.trans hr) (by rcases hx with rfl | rfl <;> rfl) hq2 hS'.2.2 hd
      · exact W.zret B1.exec B1.bytes (hr0.trans hr) (by subst hx; rfl) hq2 hS'.2.2 hd
    · exact W.lret B1.exec B1.bytes (hr0.trans hr) hq2 hS'.2.2 hd
    · exact W.vret B1.exec B1.bytes (hr0.trans hr) hq2 hS'.2.2 hd
  rcases hy0 with rfl | rfl
  · exact lv_astore_n (x := ad' 30) B1.exec B1.bytes (show decode (mbyt 86) 4 = .ok (.astore_n 3, 1) by decide +kernel) rfl (kLR_has hl1) (by decide +kernel) rfl (fun arr1 h1 => go 5 arr1 rfl (kLR_st1 hl1 h1))
  · exact lv_astore (x := ad' 30) B1.exec B1.bytes (show decode (mbyt 87) 4 = .ok (.astore 5, 2) by decide +kernel) (kLR_has hl1) (by decide +kernel) rfl (fun arr1 h1 => go 6 arr1 rfl (kLR_st1 hl1 h1))
/-- behind a call -/
theorem kBack {p : Program} {l : Launch} {e : Env} {R : Room} {s : State} {mi : MethodId} {args : Array Value} {below : List Frame} {meth : Method} {c : Code} {cells slots mc ms : Nat} {Q : State → Prop} {B : Nat} {ad : Nat → Nat} {D : va_G} {cI cL : ClassId} {L : Nat} {xs : Nat → Int32}
    {m pc : Nat} {ls r st : List Value} {H' : kH} {v : Option Value} {Hp : Heap} {locs : List Loc} {arr : Array Slot} {av : Array Value}
    (hr : va_Run p l e R s mi args below meth c Hp locs cells slots mc ms (F0 mi pc arr st) (r.map (vR ad)) (kQc D cI cL B ad L xs v H' av) (kA B)) (hS : va_S (kA B) s.heap Hp locs) (hl : kLR ad arr (mnL m) ls)
    (kk : kWt p l e R s mi args below meth c (cells + mc) (slots + ms) Q B ad D cI cL L xs m (pc + 3, ls, v.toList ++ r, H')) : W p l e R s mi args below meth c Hp locs cells slots Q (F0 mi pc arr st) := by
  intro T hT X
  obtain ⟨v0, st₀, t, T', L0, h0, X', hL, e1, e2, ⟨hv, hP', hX', hz, hk⟩, stp⟩ := hr T hT X
  cases hv
  rw [h0] at hz hk
  have hS' : va_S (kA B) s.heap T'.heap (locs ++ L0) := by
    refine ⟨Nat.le_trans hS.1 (by rw [e1]; exact hz), fun q h1 h2 => by rw [e1, hk q (Nat.lt_of_lt_of_le h1 hS.1) h2]; exact hS.2.1 q h1 h2, fun q hq => ?_⟩
    rcases List.mem_append.mp hq with h | h
    · exact hS.2.2 q h
    · exact hL q h
  obtain ⟨t2, a1, b1⟩ := kk T'.heap (locs ++ L0) arr (by rw [e1]; exact hP') hS' hl hX' T' rfl X'
  refine ⟨t2, stp t2 ?_, b1⟩
  have e4 : (v.map (vR ad)).toList ++ r.map (vR ad) = (v.toList ++ r).map (vR ad) := by
    cases v <;> rfl
  rw [e4]
  exact a1
theorem kRcv_ok {s : State} {B : Nat} {ad : Nat → Nat} {D : va_G} {cI cL : ClassId} {L : Nat} {xs : Nat → Int32} {H : kH} {Hp : Heap} {locs : List Loc} {y k : Nat} (hy : y < 100) (h : kRcv y k = true) (hK : va_K D vwCl [(cI, .int), (cL, .long)] s) (hC : kCF B ad L xs s s.heap) (hP : va_P D vwCl (kW ad cI cL H) Hp) (hS : va_S (kA B) s.heap Hp locs) :
    ∃ cellB : Cell, Hp[ad k]? = some cellB ∧ cellB.vm.isStatics = false ∧ s.vm.findClass (my y).cls = some cellB.cls := by
  rw [kT_own1 y hy]
  unfold kRcv at h
  split at h
  · rename_i h8
    have hk : k = 39 := by simpa using h
    subst hk
    rw [h8]
    exact vk_recv hC.1 (i := 0) (by omega) hS
  · split at h
    · rename_i c hs
      simp only [Bool.and_eq_true, decide_eq_true_eq] at h
      obtain ⟨hk, h⟩ := h
      have he := (kW_get (ad := ad) (cI := cI) (cL := cL) (H := H) (lt_nW hk)).trans (by rw [kcell_ob (shz_of hs (by decide))])
      split at h
      all_goals first
        | (rename_i hm; rw [hm]; exact va_recv hK hP rfl he)
        | cases h
    · cases h
/-- a static call, whatever it makes -/
theorem kSta {p : Program} {l : Launch} {e : Env} {R : Room} {s : State} {mi : MethodId} {args : Array Value} {below : List Frame} {meth : Method} {c : Code} {cells slots : Nat} {B : Nat} {ad : Nat → Nat} {D : va_G} {cI cL : ClassId} {L : Nat} {xs : Nat → Int32}
    {m pc y kd ix mc : Nat} {ls st : List Value} {H H' : kH} {v : Option Value} {Hp : Heap} {locs : List Loc} {arr : Array Slot}
    (hF : kFC p s mi c args R m cells slots) (hK : va_K D vwCl [(cI, .int), (cL, .long)] s) (hC : kCF B ad L xs s s.heap) (hcp : cpM (mow m) ix = some (kd, y)) (hkd : kd ≠ 0) (c2 : mna y ≤ st.length) (c3 : kRm m y = true) (c4 : kCat (st.drop (mna y)) ≤ 8) (hd : decode (mbyt m) pc = .ok (.invokestatic ix, 3)) (hce : cells + mc ≤ R.cells) (hsl : slots + 19 * mc ≤ R.slots)
    (hM : Met l (my y) (kws y) (krm y mc) (va_Pc ((st.take (mna y)).reverse.map (vR ad)) (kWo D cI cL B ad L xs H)) (kQc D cI cL B ad L xs v H') mc (19 * mc) (kA B))
    (hP : va_P D vwCl (kW ad cI cL H) Hp) (hS : va_S (kA B) s.heap Hp locs) (hl : kLR ad arr (mnL m) ls) :
    va_Run p l e R s mi args below meth c Hp locs cells slots mc (19 * mc) (F0 mi pc arr (st.map (vR ad))) ((st.drop (mna y)).map (vR ad)) (kQc D cI cL B ad L xs v H' ((st.take (mna y)).reverse.map (vR ad)).toArray) (kA B) := by
  obtain ⟨hx, hb, hml, hown, hts, hfr, hlo, -, -⟩ := hF
  obtain ⟨q, q1, q2, q3⟩ := kfind hcp
  simp only [Bool.and_eq_true, beq_iff_eq] at q2
  obtain ⟨q2, rfl⟩ := q2
  obtain ⟨rfl, rfl⟩ := Prod.mk.inj q3
  obtain ⟨y1, y2, hw⟩ := kT_cal q q1
  unfold kRm at c3
  simp only [Bool.and_eq_true, decide_eq_true_eq] at c3
  have hst' : st.map (vR ad) = ((st.take (mna q.2.2.2.1)).reverse.map (vR ad)).reverse ++ (st.drop (mna q.2.2.2.1)).map (vR ad) := by
    conv => lhs; rw [← List.take_append_drop (mna q.2.2.2.1) st]
    rw [List.map_append, List.map_reverse, List.reverse_reverse]
  obtain ⟨o1, o2⟩ := kT_own3 _ y1
  have hsum : (((st.drop (mna q.2.2.2.1)).map (vR ad)).map fun v => v.category).sum ≤ 8 := by rw [kCat_vR]; exact c4
  rcases hw with ⟨z0, z1, z2, z3⟩ | ⟨z0, z1, z2⟩ | ⟨z0, z1, z2⟩
  · omega
  · rw [q2] at z1
    have hG : GoodIn kAW (va_wsS (cow (mow m)) q.2.1 (my q.2.2.2.1) (kws q.2.2.2.1)) := by
      intro w hw
      unfold va_wsS at hw
      simp only [List.cons_append, List.nil_append, List.mem_cons] at hw
      rcases hw with rfl | rfl | rfl | hw
      · exact kAW_good _ (kAW_of z1 rfl)
      · exact kAW_good _ (kAW_of z2 rfl)
      · exact kAW_good _ (kAW_of (kT_init _ y1) rfl)
      · exact kGood _ y1 y2 _ hw
    exact va_runS (p := p) (l := l) (e := e) (R := R) (s := s) (m := mi) (args := args) (below := below) (meth := meth) (c := c) (H := Hp) (locs := locs) (cells := cells) (slots := slots) (As := (st.take (mna q.2.2.2.1)).reverse.map (vR ad)) (rest := (st.drop (mna q.2.2.2.1)).map (vR ad)) (g := F0 mi pc arr (st.map (vR ad)))
      ⟨hx, hb, hml, hown, hts⟩ hM (va_cwS (mna q.2.2.2.1) hts hG rfl rfl rfl ⟨o1, o2, kT_own4 _ y1⟩ ⟨by show mfr _ + 1 ≤ _; omega, by show _ + mlo _ ≤ _; omega⟩)
      ⟨kBlind, fun U hU hW => ⟨rfl, by rw [hU]; exact hP, va_K.moved hW.alike hK, kCF_call hW hS hU hC⟩⟩ rfl (by simp [Nat.min_eq_left c2]) hl.1 hst' (lv_room (by omega)) hd ⟨by omega, by omega⟩
  · exact va_runSN (p := p) (l := l) (e := e) (R := R) (s := s) (m := mi) (args := args) (below := below) (meth := meth) (c := c) (H := Hp) (locs := locs) (cells := cells) (slots := slots) (As := (st.take (mna q.2.2.2.1)).reverse.map (vR ad)) (rest := (st.drop (mna q.2.2.2.1)).map (vR ad)) (g := F0 mi pc arr (st.map (vR ad))) (host := "SneezeKing")
      ⟨hx, hb, hml, hown, hts⟩ hM ⟨va_cnB (mna q.2.2.2.1) hts (kGood _ y1 y2) rfl rfl rfl (by have := hC.2.2.2.2.2.2.1 q q1 z0; rw [q2] at this; exact this) (hts _ (kAW_of (kT_init _ y1) rfl)) ⟨o1, o2, kT_own4 _ y1⟩ ⟨by show mfr _ + 1 ≤ _; omega, by show _ + mlo _ ≤ _; omega⟩, hts _ (kAW_of z2 rfl), trivial⟩
      ⟨kBlind, fun U hU hW => ⟨rfl, by rw [hU]; exact hP, va_K.moved hW.alike hK, kCF_call hW hS hU hC⟩⟩ rfl (by simp [Nat.min_eq_left c2]) hl.1 hst' (lv_room (by omega)) hd ⟨by omega, by omega⟩
theorem kT_alk : ∀ q ∈ kcT, kAl q.2.2.2.1 = true → q.2.2.1 = 1 := by decide +kernel
theorem kRun_W : ∀ n : Nat, kStm n
  | 0 => fun _ _ _ _ _ _ _ h => by simp [kRun] at h
  | n + 1 => by
    intro m pc ls st H H' v h p l e R s mi args below meth c cz sz Q B ad D cI cL L xs hF hK hC hi hna K
    have ih := kRun_W n
    have hF0 := hF.fc hna
    have hF1 := hF0
    obtain ⟨hx, hb, hml, hown, hts, hfr, hlo, hce, hsl⟩ := hF1
    rw [kRun] at h
    split at h
    · cases h
    · rename_i a hst
      unfold kStp at hst
      split at hst
      · rename_i i len hd
        split at hst
        · rename_i hlen
          rcases kIns2_cases hst with ⟨a', ha, hI⟩ | ⟨ix, -, hI⟩ | ⟨ix, kd, y, -, -, hI⟩ | ⟨v', ha, -⟩
          · cases ha
            have hr := kIns_R hI
            have hk := ih _ _ _ _ _ _ _ h hF hK hC (by rw [nW_of hr]; exact hi) (by rw [na_of hr]; exact hna) K
            rw [na_of hr] at hk
            exact kIns_W hF0 hK hC hi hd hlen hI hk
          · unfold kInvV at hI
            split at hI
            · split at hI
              · split at hI
                · split at hI <;> cases hI
                · cases hI
              · cases hI
            · cases hI
          · unfold kInvS at hI
            split at hI <;> cases hI
          · cases ha
        · cases hst
      · cases hst
    · rename_i a hst
      split at h
      · rename_i hal
        split at h
        · rename_i hc
          obtain ⟨hlaw, hf0, hn1, hno⟩ := hc
          split at h
          · cases h
          · rename_i q hq
            obtain ⟨y, as, r⟩ := a
            obtain ⟨v1, H1⟩ := q
            dsimp only at h hq hal hno
            obtain ⟨z1, z2⟩ := hF.2.2.2.2.2.2.2.2 hlaw (na H)
            have hnw : nW H = 30 := if_pos hf0
            have hkk := ih _ _ _ _ _ _ _ h hF hK hC (by rw [nW_clS, ← hnw]; exact hi) (by rw [na_clS]; omega) K
            rw [na_clS, z1, z2] at hkk
            obtain ⟨k1, k2⟩ := hF.2.2.2.2.2.2.2.1 (na H + 1) (by omega)
            rw [z1] at k1
            rw [z2] at k2
            unfold kStp at hst
            split at hst
            · rename_i i len hd
              split at hst
              · rename_i hlen
                intro Hp locs arr hP hS hl hX
                dsimp only at hP hl hX
                rcases kIns2_cases hst with ⟨a', ha, hI⟩ | ⟨ix, rfl, hI⟩ | ⟨ix, kd, y', rfl, hcp, hI⟩ | ⟨v', ha, -⟩
                · cases ha
                · exfalso
                  unfold kInvV at hI
                  split at hI
                  · rename_i kd y0 hcp
                    split at hI
                    · rename_i hc0
                      split at hI
                      · split at hI
                        · cases hI
                          obtain ⟨q, q1, q2, q3⟩ := kfind hcp
                          obtain ⟨rfl, rfl⟩ := Prod.mk.inj q3
                          have := kT_alk q q1 hal
                          omega
                        · cases hI
                      · cases hI
                    · cases hI
                  · cases hI
                · have hl3 : len = 3 := hlen
                  subst hl3
                  unfold kInvS at hI
                  split at hI
                  · rename_i hc
                    obtain ⟨c1, c2, c3, c4, c5⟩ := hc
                    cases hI
                    exact kBack (kSta (mc := 1) hF0 hK hC hcp c1 c2 c3 c4 hd k1 k2 (kMetA (l := l) (D := D) (cI := cI) (cL := cL) ih hal hq hf0 hno c5 hi hna hX) hP hS hl) hS hl hkk
                  · cases hI
                · cases ha
              · cases hst
            · cases hst
        · cases h
      · split at h
        · cases h
        · rename_i q hq
          obtain ⟨y, as, r⟩ := a
          obtain ⟨v1, H1⟩ := q
          dsimp only at h hq
          obtain ⟨hyl, hyn⟩ := kCal_ne hst
          have hr := kRun_R n _ _ _ _ _ _ _ hyn hq
          have hkk := ih _ _ _ _ _ _ _ h hF hK hC (by rw [nW_of hr]; exact hi) (by rw [na_of hr]; exact hna) K
          rw [na_of hr] at hkk
          unfold kStp at hst
          split at hst
          · rename_i i len hd
            split at hst
            · rename_i hlen
              intro Hp locs arr hP hS hl hX
              dsimp only at hP hl hX
              rcases kIns2_cases hst with ⟨a', ha, hI⟩ | ⟨ix, rfl, hI⟩ | ⟨ix, kd, y', rfl, hcp, hI⟩ | ⟨v', ha, -⟩
              · cases ha
              · have hl3 : len = 3 := hlen
                subst hl3
                unfold kInvV at hI
                split at hI
                · rename_i kd y0 hcp
                  split at hI
                  · rename_i hc
                    obtain ⟨c1, c2, c3⟩ := hc
                    split at hI
                    · rename_i k r0 hdr
                      split at hI
                      · rename_i hc2
                        obtain ⟨d1, d2, d3⟩ := hc2
                        cases hI
                        obtain ⟨q, q1, q2, q3⟩ := kfind hcp
                        simp only [Bool.and_eq_true, beq_iff_eq] at q2
                        obtain ⟨q2, rfl⟩ := q2
                        obtain ⟨rfl, rfl⟩ := Prod.mk.inj q3
                        obtain ⟨y1, y2, hw⟩ := kT_cal q q1
                        rcases hw with ⟨z0, z1, z2, z3⟩ | ⟨z0, z1, z2⟩ | ⟨z0, z1, z2⟩
                        · rw [q2] at z1
                          unfold kRm at c3
                          simp only [Bool.and_eq_true, decide_eq_true_eq] at c3
                          have hM := kMet (l := l) (D := D) (cI := cI) (cL := cL) ih y1 y2 hq d3 hi hna hX
                          have hst' : st.map (vR ad) = ((st.take (mna q.2.2.2.1)).reverse.map (vR ad)).reverse ++ .ref (ad k) :: r.map (vR ad) := by
                            have e0 : st = st.take (mna q.2.2.2.1) ++ .ref k :: r := by
                              have := List.take_append_drop (mna q.2.2.2.1) st
                              rw [hdr] at this
                              exact this.symm
                            conv => lhs; rw [e0]
                            rw [List.map_append, List.map_reverse, List.reverse_reverse]
                            rfl
                          have hG : GoodIn kAW (wsV (cow (mow m)) q.2.1 (my q.2.2.2.1).cls (my q.2.2.2.1) (kws q.2.2.2.1)) := by
                            intro w hw
                            unfold wsV at hw
                            simp only [List.cons_append, List.nil_append, List.mem_cons] at hw
                            rcases hw with rfl | rfl | rfl | rfl | hw
                            · exact kAW_good _ (kAW_of z1 rfl)
                            · exact kAW_good _ (kAW_of z2 rfl)
                            · exact kAW_good _ (kAW_of z3 rfl)
                            · exact kAW_good _ (kAW_of (kT_init _ y1) rfl)
                            · exact kGood _ y1 y2 _ hw
                          obtain ⟨o1, o2⟩ := kT_own3 _ y1
                          have hsum : ((r.map (vR ad)).map fun v => v.category).sum ≤ 8 := by rw [kCat_vR]; exact d2
                          have hrun := va_runV (p := p) (l := l) (e := e) (R := R) (s := s) (m := mi) (args := args) (below := below) (meth := meth) (c := c) (H := Hp) (locs := locs) (cells := cz (na H)) (slots := sz (na H)) (b := ad k) (As := (st.take (mna q.2.2.2.1)).reverse.map (vR ad)) (rest := r.map (vR ad)) (g := F0 mi pc arr (st.map (vR ad))) (C := (my q.2.2.2.1).cls)
                            ⟨hx, hb, hml, hown, hts⟩ hM (cwV (mna q.2.2.2.1) hts hG rfl rfl rfl ⟨rfl, o1, o2, kT_own4 _ y1⟩ ⟨by show mfr _ + 1 ≤ _; omega, by show _ + mlo _ ≤ _; omega⟩)
                            ⟨kBlind, kRcv_ok y1 d1 hK hC hP hS, fun U hU hW => ⟨rfl, by rw [hU]; exact hP, va_K.moved hW.alike hK, kCF_call hW hS hU hC⟩⟩ rfl (by simp [Nat.min_eq_left c2]) hl.1 hst' (lv_room (by omega)) hd ⟨by omega, by omega⟩
                          exact kBack hrun hS hl hkk
                        · omega
                        · omega
                      · cases hI
                    · cases hI
                  · cases hI
                · cases hI
              · have hl3 : len = 3 := hlen
                subst hl3
                unfold kInvS at hI
                split at hI
                · rename_i hc
                  obtain ⟨c1, c2, c3, c4, c5⟩ := hc
                  cases hI
                  exact kBack (kSta (mc := 0) hF0 hK hC hcp c1 c2 c3 c4 hd (by omega) (by omega) (kMet (l := l) (D := D) (cI := cI) (cL := cL) ih hyl hyn hq c5 hi hna hX) hP hS hl) hS hl hkk
                · cases hI
              · cases ha
            · cases hst
          · cases hst
    · rename_i v0 hst
      cases h
      unfold kStp at hst
      split at hst
      · rename_i i len hd
        split at hst
        · rename_i hlen
          intro Hp locs arr hP hS hl hX
          dsimp only at hP hl hX
          rcases kIns2_cases hst with ⟨a', ha, hI⟩ | ⟨ix, -, hI⟩ | ⟨ix, kd, y, -, -, hI⟩ | ⟨v', ha, hR, hs⟩
          · cases ha
          · unfold kInvV at hI
            split at hI
            · split at hI
              · split at hI
                · split at hI <;> cases hI
                · cases hI
              · cases hI
            · cases hI
          · unfold kInvS at hI
            split at hI <;> cases hI
          · cases ha
            have hlen1 : len = 1 := by
              rcases hR with ⟨rfl, -⟩ | ⟨rfl, -⟩ | ⟨rfl, -⟩ <;> exact hlen
            subst hlen1
            have e4 : st.map (vR ad) = (v.map (vR ad)).toList := by
              rw [hs]
              cases v <;> rfl
            refine W.eq (congrArg (F0 mi pc arr) e4) (K pc i Hp locs arr hd hR hP hS hX)
        · cases hst
      · cases hst
