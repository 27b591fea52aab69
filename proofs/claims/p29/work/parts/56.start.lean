/-! THE CLAIM OUT OF ONE WALK OF THE LAW'S BODY. Your part is whole_start (and what it stands on); all else here is the same for every law, but numbers. -/
def R_law : String := "SneezeKingLaw"
def lw_P (b : Addr) (xs : List Int32) (args : Array Value) (s : State) : Prop := args = #[.ref b] ∧ s.IntsAt b xs ∧ xs.length ≤ 260 ∧ (Jvm.Cond.and given_1 narrow_1).before args s = true
def lw_Q (_ : Array Value) (s : State) (o : Outcome) (t : State) : Prop := o = .returned (some (.int 1)) ∧ Framed s o t [] 600000 7302250
def lw_Z (below : List Frame) (a : Array Value) (s : State) : State → Prop := fun t => ∃ o, t.status = .running ∧ Ended t below o ∧ lw_Q a s o t
/-- the law's own end, with 1 on the stack, nothing written that was there before, its room as the claim has it -/
theorem lw_ret {p : Program} {l : Launch} {e : Env} {s : State} {m : MethodId} {below : List Frame} {meth : Method} {c : Code} {b : Nat} (hx : p.tables.exec = Jvm.exec) (hb : c.code = code) (hr : meth.sig.returnType = ret) (hlocks : meth.locks = false) {pc : Nat} {H : Heap} {ls : Array Slot} (hdg : decode code pc = .ok (.ireturn, 1)) : W p l e room_1 s m #[Value.ref b] below meth c H [] 600000 7302250 (lw_Z below #[Value.ref b] s) (F0 m pc ls [.int 1]) := by
  intro T hT X
  obtain ⟨fs, hret, hrun, hended, hW, hframe⟩ := X.leave (v := some (.int 1)) (hlocks := hlocks) (fun h => by rw [hr] at h; cases h)
  have hmeth' : T.vm.method? m = some meth := X.method'
  refine ⟨T.setFrames fs, ?_, .returned (some (.int 1)), hrun, hended, rfl, ⟨_, rfl⟩, hW, hframe⟩
  jvm_step X.here [X.here.top, hx, hb, hdg, hmeth', hr, ret, narrow_b1]
  (try refine ⟨rfl, ?_⟩); (try refine ⟨rfl, ?_⟩)
  first | (intro acts; rw [hret _ acts rfl rfl rfl]) | rw [hret _ _ rfl rfl rfl]
  exact Steps.refl _
/-- what holds at the law's entry: the machine, the code, the tables' words (any of lw_tbl by 'hts w (by decide +kernel)'), the script of L ints xs at the cell b, what the Statement gives of the start (any of its parts by flat_of_before) -/
def lw_At (p : Program) (s : State) (m : MethodId) (meth : Method) (c : Code) (b L : Nat) (xs : Nat → Int32) : Prop :=
  p.tables.exec = Jvm.exec ∧ c.code = code ∧ meth.sig.returnType = ret ∧ c.maxLocals = 9 ∧ s.vm.findClass R_law = some m.cls ∧ (∀ w ∈ lw_tbl, w.before #[Value.ref b] s = true) ∧ va_X b L xs s s.heap ∧ b < s.heap.size ∧ meth.locks = false ∧ (Jvm.Cond.and given_1 narrow_1).before #[Value.ref b] s = true
/-- the heap behind the constructors -/
def kH0 (L : Nat) (xs : Nat → Int32) : kH :=
  (fun k j => match k with
    | 1 => if j = 7 then -1 else 0
    | 2 => if j = 7 then -1 else 0
    | 38 => xs j
    | 41 => if j = 0 then nI L else 0
    | _ => 0, fun _ _ => 0,
   fun k j => match k with
    | 4 => if j = 6 then 24 else if j = 7 then 25 else 0
    | _ => 0)
def kS0 : kS := ((0, fun _ => 0, fun _ => 0, fun _ => 0, fun _ => 0, -1, 0, 0, 0, 0, fun _ => 0), 0, fun _ => 0, 0, 0, (0, fun _ => 0, fun _ => 0, fun _ => 0, fun _ => 0, -1, 0, 0, 0, 0, fun _ => 0))
theorem lw_init {L : Nat} {xs : Nat → Int32} (hL : L ≤ 260) : CR (kH0 L xs) kS0 ∧ sOK kS0 ∧ kSc L xs (kH0 L xs) := by
  refine ⟨⟨⟨rfl, fun j h => absurd h (Nat.not_lt_zero j), fun j h => absurd h (Nat.not_lt_zero j), fun j h => absurd h (Nat.not_lt_zero j), fun j h => absurd h (Nat.not_lt_zero j), rfl, rfl, rfl, rfl, rfl, fun j h => absurd h (Nat.not_lt_zero j), fun h => absurd h (Nat.lt_irrefl 0)⟩, ⟨rfl, Nat.zero_le _, fun j h => absurd h (Nat.not_lt_zero j)⟩, rfl, rfl, Or.inl ⟨rfl, rfl⟩, fun h => absurd (show (0 : Nat) = 1 from h) (by decide)⟩,
    ⟨⟨Or.inl rfl, Nat.zero_le _, fun j h => absurd h (Nat.not_lt_zero j), Or.inl rfl, Or.inl rfl, (by decide : (0 : Nat) < 64), Nat.zero_le _, fun j h => absurd h (Nat.not_lt_zero j)⟩, (by decide : (0 : Nat) ≤ 1), fun h => absurd (show (0 : Nat) = 1 from h) (by decide), (by decide : (0 : Nat) ≤ 100000)⟩,
    ⟨fun _ => rfl, rfl, hL⟩⟩
def kad (l : List Nat) : Nat → Nat := fun k => l.getD k 0

theorem kq_9 : (.initialized RX5 : Cond) ∈ kAW := kAW_of (i := 9) (by decide +kernel) rfl
theorem kq_23 : (.classLink RL 19 RX5 : Cond) ∈ kAW := kAW_of (i := 23) (by decide +kernel) rfl
theorem kq_24 : (.instantiable RX5 7 : Cond) ∈ kAW := kAW_of (i := 24) (by decide +kernel) rfl
theorem kq_25 : (.methodLink RL 70 yI4 : Cond) ∈ kAW := kAW_of (i := 25) (by decide +kernel) rfl
theorem kq_26 : (.instanceMethod yI4 : Cond) ∈ kAW := kAW_of (i := 26) (by decide +kernel) rfl
theorem dI9_0 : decode code 0 = .ok (.new 19, 3) := by decide +kernel
theorem dI9_3 : decode code 3 = .ok (.dup, 1) := by decide +kernel
theorem dI9_4 : decode code 4 = .ok (.invokespecial 70, 3) := by decide +kernel
theorem dI9_7 : decode code 7 = .ok (.astore_n 1, 1) := by decide +kernel
theorem dI9_8 : decode code 8 = .ok (.bipush 6, 2) := by decide +kernel
theorem dI9_10 : decode code 10 = .ok (.newarray .int, 2) := by decide +kernel
theorem dI9_12 : decode code 12 = .ok (.astore_n 2, 1) := by decide +kernel
theorem dI9_13 : decode code 13 = .ok (.bipush 19, 2) := by decide +kernel
theorem dI9_15 : decode code 15 = .ok (.newarray .int, 2) := by decide +kernel
theorem dI9_17 : decode code 17 = .ok (.astore_n 3, 1) := by decide +kernel
theorem dI9_18 : decode code 18 = .ok (.bipush 20, 2) := by decide +kernel
theorem dI9_20 : decode code 20 = .ok (.newarray .int, 2) := by decide +kernel
theorem dI9_22 : decode code 22 = .ok (.astore 4, 2) := by decide +kernel
set_option maxRecDepth 100000 in
set_option maxHeartbeats 4000000 in
theorem kW_0 (q1 q2 q11 q9 q18 q26 q3 q4 q5 q6 q7 q8 q12 q13 q14 q15 q16 q17 q10 q19 q20 q21 q22 q23 q24 q25 q27 q28 q29 q30 b tx by0 : Nat) (cI cL : ClassId) (L : Nat) (xs : Nat → Int32) : kW (kad [q1, q2, q11, q9, q18, q26, q3, q4, q5, q6, q7, q8, q12, q13, q14, q15, q16, q17, q10, q19, q20, q21, q22, q23, q24, q25, q27, q28, q29, q30, 0, 0, 0, 0, 0, 0, 0, 0, b, tx, by0]) cI cL (kH0 L xs) = [(q1, .inr (4, [.ref q9, .ref q2, .ref q11, .ref q18, .ref q26, .int 0, .int 0])), (q2, .inr (0, [.ref q3, .ref q4, .ref q5, .ref q6, .ref q7, .ref q8, .int 0, .int (-1), .int 0, .int 0, .int 0, .int 0])), (q11, .inr (0, [.ref q12, .ref q13, .ref q14, .ref q15, .ref q16, .ref q17, .int 0, .int (-1), .int 0, .int 0, .int 0, .int 0])), (q9, .inr (1, [.ref q10, .int 0])), (q18, .inr (2, [.ref q2, .ref q19, .ref q20, .ref q21, .ref q22, .ref q23, .ref q24, .ref q25])), (q26, .inr (3, [.ref q2, .ref q27, .int 0, .long 0])), (q3, zAI cI 5), (q4, zAI cI 5), (q5, zAI cI 5), (q6, zAI cI 5), (q7, zAI cI 32), (q8, zAI cI 5), (q12, zAI cI 5), (q13, zAI cI 5), (q14, zAI cI 5), (q15, zAI cI 5), (q16, zAI cI 32), (q17, zAI cI 5), (q10, zAI cI 20), (q19, zAL cL 5), (q20, zAL cL 5), (q21, zAL cL 32), (q22, zAL cL 6), (q23, zAL cL 6), (q24, zAL cL 64), (q25, zAL cL 64), (q27, zAI cI 5), (q28, zAI cI 6), (q29, zAI cI 19), (q30, zAI cI 20)] := by rfl
theorem kB_85 : mbyt 85 = code := by rfl
theorem kNs_of {s : State} {args : Array Value} (hts : ∀ w ∈ lw_tbl, w.before args s = true) : kNs s := by
  intro q hq h2
  obtain ⟨-, -, h | h | h⟩ := kT_cal q hq
  · omega
  · omega
  · exact va_Nw.of rfl (hts _ (List.mem_of_getElem? h.2.1))
-- ===== YOUR PART BEGINS =====
set_option maxHeartbeats 8000000 in
set_option maxRecDepth 100000 in
theorem whole_start {p : Program} {e : Env} {s : State} {m : MethodId} {below : List Frame} {meth : Method} {c : Code} (l : Launch) (hflags : l.flags = flags0) {b L : Nat} {xs : Nat → Int32} (hL : L ≤ 260) (C0 : lw_At p s m meth c b L xs) : W p l e room_1 s m #[Value.ref b] below meth c s.heap [] 0 0 (lw_Z below #[Value.ref b] s) (entryFrame m ([Value.ref b] : List Value).toArray 9) := by
  obtain ⟨hx, hb, hr, hml, hown, hts, hX, hbl, hlocks, hgv⟩ := C0
  have hq : ∀ w ∈ kAW, w.before #[Value.ref b] s = true := fun w hw => hts w (List.mem_filter.mp hw).1
  have hown : s.vm.findClass RL = some m.cls := hown
  have hs := flat_of_before _ hgv
  obtain ⟨A, hAd⟩ : ∃ A : Nat → Prop, A = fun q => s.heap.size ≤ q := ⟨_, rfl⟩
  have hA : ∀ q : Nat, s.heap.size ≤ q → A q := fun q h => by rw [hAd]; exact h
  have hA2 : ∀ q : Nat, A q → s.heap.size ≤ q := fun q h => by rw [hAd] at h; exact h
  have hA3 : ∀ q : Nat, q < s.heap.size → ¬ A q := fun q h z => absurd (hA2 q z) (Nat.not_le.mpr h)
  obtain ⟨c0, i0, hK0⟩ := u_known (C := RX0) (T := TX0) (N := 12) (n := 12) hq (kws_in kws_0 kwg_0) (hq _ kq_32)
  obtain ⟨c1, i1, hK1⟩ := u_known (C := RX1) (T := TX1) (N := 2) (n := 2) hq (kws_in kws_1 kwg_1) (hq _ kq_76)
  obtain ⟨c2, i2, hK2⟩ := u_known (C := RX2) (T := TX2) (N := 8) (n := 8) hq (kws_in kws_2 kwg_2) (hq _ kq_89)
  obtain ⟨c3, i3, hK3⟩ := u_known (C := RX4) (T := TX4) (N := 4) (n := 4) hq (kws_in kws_3 kwg_3) (hq _ kq_121)
  obtain ⟨c4, i4, hK4⟩ := u_known (C := RX5) (T := TX5) (N := 7) (n := 7) hq (kws_in kws_4 kwg_4) (hq _ kq_24)
  obtain ⟨D, hKc⟩ : ∃ D : va_G, ∀ (k : Nat) (q : vw_C), vwCl[k]? = some q → u_Kn s q.1 q.2.1 q.2.2 (D.1 k) (D.2 k) := by
    refine ⟨(fun k => [c0, c1, c2, c3, c4].getD k c0, fun k => [i0, i1, i2, i3, i4].getD k i0), ?_⟩
    intro k q hq
    match k, hq with
    | 0, hq => cases hq; exact hK0
    | 1, hq => cases hq; exact hK1
    | 2, hq => cases hq; exact hK2
    | 3, hq => cases hq; exact hK3
    | 4, hq => cases hq; exact hK4
    | k + 5, hq => simp [vwCl] at hq
  obtain ⟨cI, kI, pI, f1, f2, f3⟩ := Cond.arrayClass_spec (hq _ kq_74)
  obtain ⟨cL, kL, pL, g1, g2, g3⟩ := Cond.arrayClass_spec (hq _ kq_119)
  have hK : va_K D vwCl [(cI, .int), (cL, .long)] s := by
    refine ⟨hKc, fun k q h => ?_⟩
    match k, h with
    | 0, h => cases h; exact ⟨fun n z => ⟨fun k h => (by cases h), kI, f2, pI, f3⟩, f1⟩
    | 1, h => cases h; exact ⟨fun n z => ⟨fun k h => (by cases h), kL, g2, pL, g3⟩, g1⟩
    | k + 2, h => simp at h
  have hNa : va_Nw (.methodLinkNest RX5 9 yI0 "SneezeKing") s := va_Nw.of rfl (hts _ (List.mem_of_getElem? (i := 33) (by decide +kernel)))
  have hNb : va_Nw (.methodLinkNest RX5 12 yI1 "SneezeKing") s := va_Nw.of rfl (hts _ (List.mem_of_getElem? (i := 77) (by decide +kernel)))
  obtain ⟨adK, adV, hT, hTe⟩ := vk_Sof (args := #[Value.ref b]) (s := s) (N := 1) (tm := fun _ => Term.string "SneezeKing$Page" 35) (len := [5]) (byt := [kbs]) (A := A)
    (fun i hi => by obtain rfl : i = 0 := by omega
                    decide)
    (fun i hi => hs _ (by decide +kernel)) (fun i hi => hs _ (by decide +kernel)) (fun i hi => hs _ (by decide +kernel))
    (fun i hi => by obtain rfl : i = 0 := by omega
                    exact hs _ (by decide +kernel))
    (fun i hi j hj => by
      obtain rfl : i = 0 := by omega
      have hj : j < 5 := hj
      rcases (show j = 0 ∨ j = 1 ∨ j = 2 ∨ j = 3 ∨ j = 4 by omega) with rfl | rfl | rfl | rfl | rfl
      all_goals exact hs _ (by decide +kernel))
    (fun i j hi hj hn => absurd (show i = j by omega) hn) hA3
  have hTR : vk_R "SneezeKing$Page" 35 "psfdc" (adK 0) s := vk_R.of (hts _ (List.mem_of_getElem? (i := 179) (by decide +kernel))) (hTe 0 (by decide))
  have hZ : va_Z "java/lang/String" "COMPACT_STRINGS" "Z" (.int 1) A s s.heap := va_Zof (hts _ (List.mem_of_getElem? (i := 193) (by decide +kernel))) (hts _ (List.mem_of_getElem? (i := 14) (by decide +kernel))) (va_eqt (hs _ (by decide +kernel))) hA3
  have hNs := kNs_of hts
  obtain ⟨tx, etx⟩ : ∃ tx, tx = adK 0 := ⟨_, rfl⟩
  obtain ⟨by0, eby⟩ : ∃ tx, tx = adV 0 := ⟨_, rfl⟩
  rw [← etx] at hTR
  have hT0 := hT.1 0 (by decide)
  rw [← etx, ← eby] at hT0
  have hS : va_S A s.heap s.heap [] := va_S.rf
  have hP : va_P D vwCl [] s.heap := fun k q h => by simp at h
  have hD : va_D A [] := ⟨fun i j p q h => by simp at h, fun k q h => by simp at h⟩
  have hl := lv_entry ([.ref b]) (n := 9) (Nat.le_of_ble_eq_true rfl)
  rw [lg_entry_eq]
  generalize (lg_sl ([.ref b]) ++ List.replicate (9 - (lg_sl ([.ref b])).length) Slot.unset).toArray = ls at hl ⊢
  have hl : lv_has ls 9 [(0, .ref b)] := hl
  refine va_new (ci := 4) (fs := [.null, .null, .null, .null, .null, .int 0, .int 0]) (C := RX5) (T := TX5) (N := 7) hx hb hq (kws_in kws_4 kwg_4) tyX5 tyX5_ok hown (hq _ kq_23) (hq _ kq_24) (hq _ kq_9) hK hP hD hS hA rfl (by decide +kernel) (Nat.le_of_ble_eq_true rfl) (Nat.le_of_ble_eq_true rfl) dI9_0 (fun q1 H hP hD hS => ?_)
  have hP : va_P D vwCl [(q1, .inr (4, [.null, .null, .null, .null, .null, .int 0, .int 0]))] H := hP
  have hD : va_D A [(q1, .inr (4, [.null, .null, .null, .null, .null, .int 0, .int 0]))] := hD
  refine lv_dup hx hb dI9_3 rfl ?_
  have hPc := hP.sub (ws' := [(q1, .inr (4, [.null, .null, .null, .null, .null, .int 0, .int 0]))]) [0] rfl
  have hDc := hD.sub (ws' := [(q1, .inr (4, [.null, .null, .null, .null, .null, .int 0, .int 0]))]) [0] (by decide) rfl
  have hFc := va_free (wc := [(q1, .inr (4, [.null, .null, .null, .null, .null, .int 0, .int 0]))]) hD hS hA [0] rfl
  refine va_callv (va_runI (As := []) (rest := [.ref q1]) ⟨hx, hb, hml, hown, hts⟩ (kI4 l D cI cL q1 H.size) (cwI 0 hts (kGL kq_27) rfl rfl rfl (hq _ kq_9) (hq _ kq_25) (hq _ kq_26) rfl (by decide +kernel) ⟨(Nat.le_of_ble_eq_true rfl), (Nat.le_of_ble_eq_true rfl)⟩) ⟨fun a U g mk q => by obtain ⟨q0, q1, qP, qK, qD, qa, qb⟩ := q; exact ⟨q0, q1, qP, va_K.moved (u := U) (U := U.calling g mk a) (Vm.Alike.refl U.vm) qK, qD, va_Nw.same rfl rfl qa, va_Nw.same rfl rfl qb⟩, fun U hU hW => ⟨rfl, by rw [hU], by rw [hU]; exact hPc, va_K.moved hW.alike hK, hDc.weaken (fun _ _ _ _ => trivial), va_Nw.warmM hW hNa, va_Nw.warmM hW hNb⟩⟩ rfl rfl hl.1 rfl (lv_room (Nat.le_of_ble_eq_true rfl)) dI9_4 ⟨(Nat.le_of_ble_eq_true rfl), (Nat.le_of_ble_eq_true rfl)⟩) hS (fun q _ h => hFc q h) hFc (fun u t H1 locs ht hvm hw hB hz1 hk1 hS => ?_)
  obtain ⟨q2, q3, q4, q5, q6, q7, q8, q9, q10, q11, q12, q13, q14, q15, q16, q17, q18, q19, q20, q21, q22, q23, q24, q25, q26, q27, hP1, hD1⟩ := hB
  rw [ht] at hP1
  obtain ⟨hP, hD⟩ := va_join (wr := []) (w1 := [(q1, .inr (4, [.ref q9, .ref q2, .ref q11, .ref q18, .ref q26, .int 0, .int 0])), (q2, .inr (0, [.ref q3, .ref q4, .ref q5, .ref q6, .ref q7, .ref q8, .int 0, .int (-1), .int 0, .int 0, .int 0, .int 0])), (q3, zAI cI 5), (q4, zAI cI 5), (q5, zAI cI 5), (q6, zAI cI 5), (q7, zAI cI 32), (q8, zAI cI 5), (q9, .inr (1, [.ref q10, .int 0])), (q10, zAI cI 20), (q11, .inr (0, [.ref q12, .ref q13, .ref q14, .ref q15, .ref q16, .ref q17, .int 0, .int (-1), .int 0, .int 0, .int 0, .int 0])), (q12, zAI cI 5), (q13, zAI cI 5), (q14, zAI cI 5), (q15, zAI cI 5), (q16, zAI cI 32), (q17, zAI cI 5), (q18, .inr (2, [.ref q2, .ref q19, .ref q20, .ref q21, .ref q22, .ref q23, .ref q24, .ref q25])), (q19, zAL cL 5), (q20, zAL cL 5), (q21, zAL cL 32), (q22, zAL cL 6), (q23, zAL cL 6), (q24, zAL cL 64), (q25, zAL cL 64), (q26, .inr (3, [.ref q2, .ref q27, .int 0, .long 0])), (q27, zAI cI 5)]) hP hD [0] [] rfl rfl (by decide) (by decide) hk1 hFc hP1 hD1
  clear hk1 hFc hP1 hD1 hPc hDc hw hz1 hvm ht
  generalize H1 = H at hP hS ⊢
  have hP : va_P D vwCl [(q1, .inr (4, [.ref q9, .ref q2, .ref q11, .ref q18, .ref q26, .int 0, .int 0])), (q2, .inr (0, [.ref q3, .ref q4, .ref q5, .ref q6, .ref q7, .ref q8, .int 0, .int (-1), .int 0, .int 0, .int 0, .int 0])), (q3, zAI cI 5), (q4, zAI cI 5), (q5, zAI cI 5), (q6, zAI cI 5), (q7, zAI cI 32), (q8, zAI cI 5), (q9, .inr (1, [.ref q10, .int 0])), (q10, zAI cI 20), (q11, .inr (0, [.ref q12, .ref q13, .ref q14, .ref q15, .ref q16, .ref q17, .int 0, .int (-1), .int 0, .int 0, .int 0, .int 0])), (q12, zAI cI 5), (q13, zAI cI 5), (q14, zAI cI 5), (q15, zAI cI 5), (q16, zAI cI 32), (q17, zAI cI 5), (q18, .inr (2, [.ref q2, .ref q19, .ref q20, .ref q21, .ref q22, .ref q23, .ref q24, .ref q25])), (q19, zAL cL 5), (q20, zAL cL 5), (q21, zAL cL 32), (q22, zAL cL 6), (q23, zAL cL 6), (q24, zAL cL 64), (q25, zAL cL 64), (q26, .inr (3, [.ref q2, .ref q27, .int 0, .long 0])), (q27, zAI cI 5)] H := hP
  have hD : va_D A [(q1, .inr (4, [.ref q9, .ref q2, .ref q11, .ref q18, .ref q26, .int 0, .int 0])), (q2, .inr (0, [.ref q3, .ref q4, .ref q5, .ref q6, .ref q7, .ref q8, .int 0, .int (-1), .int 0, .int 0, .int 0, .int 0])), (q3, zAI cI 5), (q4, zAI cI 5), (q5, zAI cI 5), (q6, zAI cI 5), (q7, zAI cI 32), (q8, zAI cI 5), (q9, .inr (1, [.ref q10, .int 0])), (q10, zAI cI 20), (q11, .inr (0, [.ref q12, .ref q13, .ref q14, .ref q15, .ref q16, .ref q17, .int 0, .int (-1), .int 0, .int 0, .int 0, .int 0])), (q12, zAI cI 5), (q13, zAI cI 5), (q14, zAI cI 5), (q15, zAI cI 5), (q16, zAI cI 32), (q17, zAI cI 5), (q18, .inr (2, [.ref q2, .ref q19, .ref q20, .ref q21, .ref q22, .ref q23, .ref q24, .ref q25])), (q19, zAL cL 5), (q20, zAL cL 5), (q21, zAL cL 32), (q22, zAL cL 6), (q23, zAL cL 6), (q24, zAL cL 64), (q25, zAL cL 64), (q26, .inr (3, [.ref q2, .ref q27, .int 0, .long 0])), (q27, zAI cI 5)] := hD
  refine lv_astore_n (lv' := [(1, .ref q1), (0, .ref b)]) hx hb dI9_7 rfl hl (by decide) rfl (fun ls hl => ?_)
  refine lv_bipush (v := 6) hx hb dI9_8 (by decide) ?_
  refine kn_ai hx hb (hq _ kq_74) hK hP hD hS hA 6 (by decide) (by decide +kernel) (Nat.le_of_ble_eq_true rfl) (Nat.le_of_ble_eq_true rfl) (Nat.le_of_ble_eq_true rfl) dI9_10 (fun q28 H hP hD hS => ?_)
  have hP : va_P D vwCl [(q1, .inr (4, [.ref q9, .ref q2, .ref q11, .ref q18, .ref q26, .int 0, .int 0])), (q2, .inr (0, [.ref q3, .ref q4, .ref q5, .ref q6, .ref q7, .ref q8, .int 0, .int (-1), .int 0, .int 0, .int 0, .int 0])), (q3, zAI cI 5), (q4, zAI cI 5), (q5, zAI cI 5), (q6, zAI cI 5), (q7, zAI cI 32), (q8, zAI cI 5), (q9, .inr (1, [.ref q10, .int 0])), (q10, zAI cI 20), (q11, .inr (0, [.ref q12, .ref q13, .ref q14, .ref q15, .ref q16, .ref q17, .int 0, .int (-1), .int 0, .int 0, .int 0, .int 0])), (q12, zAI cI 5), (q13, zAI cI 5), (q14, zAI cI 5), (q15, zAI cI 5), (q16, zAI cI 32), (q17, zAI cI 5), (q18, .inr (2, [.ref q2, .ref q19, .ref q20, .ref q21, .ref q22, .ref q23, .ref q24, .ref q25])), (q19, zAL cL 5), (q20, zAL cL 5), (q21, zAL cL 32), (q22, zAL cL 6), (q23, zAL cL 6), (q24, zAL cL 64), (q25, zAL cL 64), (q26, .inr (3, [.ref q2, .ref q27, .int 0, .long 0])), (q27, zAI cI 5), (q28, zAI cI 6)] H := hP
  have hD : va_D A [(q1, .inr (4, [.ref q9, .ref q2, .ref q11, .ref q18, .ref q26, .int 0, .int 0])), (q2, .inr (0, [.ref q3, .ref q4, .ref q5, .ref q6, .ref q7, .ref q8, .int 0, .int (-1), .int 0, .int 0, .int 0, .int 0])), (q3, zAI cI 5), (q4, zAI cI 5), (q5, zAI cI 5), (q6, zAI cI 5), (q7, zAI cI 32), (q8, zAI cI 5), (q9, .inr (1, [.ref q10, .int 0])), (q10, zAI cI 20), (q11, .inr (0, [.ref q12, .ref q13, .ref q14, .ref q15, .ref q16, .ref q17, .int 0, .int (-1), .int 0, .int 0, .int 0, .int 0])), (q12, zAI cI 5), (q13, zAI cI 5), (q14, zAI cI 5), (q15, zAI cI 5), (q16, zAI cI 32), (q17, zAI cI 5), (q18, .inr (2, [.ref q2, .ref q19, .ref q20, .ref q21, .ref q22, .ref q23, .ref q24, .ref q25])), (q19, zAL cL 5), (q20, zAL cL 5), (q21, zAL cL 32), (q22, zAL cL 6), (q23, zAL cL 6), (q24, zAL cL 64), (q25, zAL cL 64), (q26, .inr (3, [.ref q2, .ref q27, .int 0, .long 0])), (q27, zAI cI 5), (q28, zAI cI 6)] := hD
  refine lv_astore_n (lv' := [(2, .ref q28), (1, .ref q1), (0, .ref b)]) hx hb dI9_12 rfl hl (by decide) rfl (fun ls hl => ?_)
  refine lv_bipush (v := 19) hx hb dI9_13 (by decide) ?_
  refine kn_ai hx hb (hq _ kq_74) hK hP hD hS hA 19 (by decide) (by decide +kernel) (Nat.le_of_ble_eq_true rfl) (Nat.le_of_ble_eq_true rfl) (Nat.le_of_ble_eq_true rfl) dI9_15 (fun q29 H hP hD hS => ?_)
  have hP : va_P D vwCl [(q1, .inr (4, [.ref q9, .ref q2, .ref q11, .ref q18, .ref q26, .int 0, .int 0])), (q2, .inr (0, [.ref q3, .ref q4, .ref q5, .ref q6, .ref q7, .ref q8, .int 0, .int (-1), .int 0, .int 0, .int 0, .int 0])), (q3, zAI cI 5), (q4, zAI cI 5), (q5, zAI cI 5), (q6, zAI cI 5), (q7, zAI cI 32), (q8, zAI cI 5), (q9, .inr (1, [.ref q10, .int 0])), (q10, zAI cI 20), (q11, .inr (0, [.ref q12, .ref q13, .ref q14, .ref q15, .ref q16, .ref q17, .int 0, .int (-1), .int 0, .int 0, .int 0, .int 0])), (q12, zAI cI 5), (q13, zAI cI 5), (q14, zAI cI 5), (q15, zAI cI 5), (q16, zAI cI 32), (q17, zAI cI 5), (q18, .inr (2, [.ref q2, .ref q19, .ref q20, .ref q21, .ref q22, .ref q23, .ref q24, .ref q25])), (q19, zAL cL 5), (q20, zAL cL 5), (q21, zAL cL 32), (q22, zAL cL 6), (q23, zAL cL 6), (q24, zAL cL 64), (q25, zAL cL 64), (q26, .inr (3, [.ref q2, .ref q27, .int 0, .long 0])), (q27, zAI cI 5), (q28, zAI cI 6), (q29, zAI cI 19)] H := hP
  have hD : va_D A [(q1, .inr (4, [.ref q9, .ref q2, .ref q11, .ref q18, .ref q26, .int 0, .int 0])), (q2, .inr (0, [.ref q3, .ref q4, .ref q5, .ref q6, .ref q7, .ref q8, .int 0, .int (-1), .int 0, .int 0, .int 0, .int 0])), (q3, zAI cI 5), (q4, zAI cI 5), (q5, zAI cI 5), (q6, zAI cI 5), (q7, zAI cI 32), (q8, zAI cI 5), (q9, .inr (1, [.ref q10, .int 0])), (q10, zAI cI 20), (q11, .inr (0, [.ref q12, .ref q13, .ref q14, .ref q15, .ref q16, .ref q17, .int 0, .int (-1), .int 0, .int 0, .int 0, .int 0])), (q12, zAI cI 5), (q13, zAI cI 5), (q14, zAI cI 5), (q15, zAI cI 5), (q16, zAI cI 32), (q17, zAI cI 5), (q18, .inr (2, [.ref q2, .ref q19, .ref q20, .ref q21, .ref q22, .ref q23, .ref q24, .ref q25])), (q19, zAL cL 5), (q20, zAL cL 5), (q21, zAL cL 32), (q22, zAL cL 6), (q23, zAL cL 6), (q24, zAL cL 64), (q25, zAL cL 64), (q26, .inr (3, [.ref q2, .ref q27, .int 0, .long 0])), (q27, zAI cI 5), (q28, zAI cI 6), (q29, zAI cI 19)] := hD
  refine lv_astore_n (lv' := [(3, .ref q29), (2, .ref q28), (1, .ref q1), (0, .ref b)]) hx hb dI9_17 rfl hl (by decide) rfl (fun ls hl => ?_)
  refine lv_bipush (v := 20) hx hb dI9_18 (by decide) ?_
  refine kn_ai hx hb (hq _ kq_74) hK hP hD hS hA 20 (by decide) (by decide +kernel) (Nat.le_of_ble_eq_true rfl) (Nat.le_of_ble_eq_true rfl) (Nat.le_of_ble_eq_true rfl) dI9_20 (fun q30 H hP hD hS => ?_)
  have hP : va_P D vwCl [(q1, .inr (4, [.ref q9, .ref q2, .ref q11, .ref q18, .ref q26, .int 0, .int 0])), (q2, .inr (0, [.ref q3, .ref q4, .ref q5, .ref q6, .ref q7, .ref q8, .int 0, .int (-1), .int 0, .int 0, .int 0, .int 0])), (q3, zAI cI 5), (q4, zAI cI 5), (q5, zAI cI 5), (q6, zAI cI 5), (q7, zAI cI 32), (q8, zAI cI 5), (q9, .inr (1, [.ref q10, .int 0])), (q10, zAI cI 20), (q11, .inr (0, [.ref q12, .ref q13, .ref q14, .ref q15, .ref q16, .ref q17, .int 0, .int (-1), .int 0, .int 0, .int 0, .int 0])), (q12, zAI cI 5), (q13, zAI cI 5), (q14, zAI cI 5), (q15, zAI cI 5), (q16, zAI cI 32), (q17, zAI cI 5), (q18, .inr (2, [.ref q2, .ref q19, .ref q20, .ref q21, .ref q22, .ref q23, .ref q24, .ref q25])), (q19, zAL cL 5), (q20, zAL cL 5), (q21, zAL cL 32), (q22, zAL cL 6), (q23, zAL cL 6), (q24, zAL cL 64), (q25, zAL cL 64), (q26, .inr (3, [.ref q2, .ref q27, .int 0, .long 0])), (q27, zAI cI 5), (q28, zAI cI 6), (q29, zAI cI 19), (q30, zAI cI 20)] H := hP
  have hD : va_D A [(q1, .inr (4, [.ref q9, .ref q2, .ref q11, .ref q18, .ref q26, .int 0, .int 0])), (q2, .inr (0, [.ref q3, .ref q4, .ref q5, .ref q6, .ref q7, .ref q8, .int 0, .int (-1), .int 0, .int 0, .int 0, .int 0])), (q3, zAI cI 5), (q4, zAI cI 5), (q5, zAI cI 5), (q6, zAI cI 5), (q7, zAI cI 32), (q8, zAI cI 5), (q9, .inr (1, [.ref q10, .int 0])), (q10, zAI cI 20), (q11, .inr (0, [.ref q12, .ref q13, .ref q14, .ref q15, .ref q16, .ref q17, .int 0, .int (-1), .int 0, .int 0, .int 0, .int 0])), (q12, zAI cI 5), (q13, zAI cI 5), (q14, zAI cI 5), (q15, zAI cI 5), (q16, zAI cI 32), (q17, zAI cI 5), (q18, .inr (2, [.ref q2, .ref q19, .ref q20, .ref q21, .ref q22, .ref q23, .ref q24, .ref q25])), (q19, zAL cL 5), (q20, zAL cL 5), (q21, zAL cL 32), (q22, zAL cL 6), (q23, zAL cL 6), (q24, zAL cL 64), (q25, zAL cL 64), (q26, .inr (3, [.ref q2, .ref q27, .int 0, .long 0])), (q27, zAI cI 5), (q28, zAI cI 6), (q29, zAI cI 19), (q30, zAI cI 20)] := hD
  refine lv_astore (lv' := [(4, .ref q30), (3, .ref q29), (2, .ref q28), (1, .ref q1), (0, .ref b)]) hx hb dI9_22 hl (by decide) rfl (fun ls hl => ?_)
  refine W.widen (k := 30) (n := 411) (Nat.le_of_ble_eq_true rfl) (Nat.le_of_ble_eq_true rfl) ?_
  refine va_forget (fun q hq => hA2 _ (hS.2.2 q hq)) ?_
  have hP2 := hP.sub (ws' := [(q1, .inr (4, [.ref q9, .ref q2, .ref q11, .ref q18, .ref q26, .int 0, .int 0])), (q2, .inr (0, [.ref q3, .ref q4, .ref q5, .ref q6, .ref q7, .ref q8, .int 0, .int (-1), .int 0, .int 0, .int 0, .int 0])), (q11, .inr (0, [.ref q12, .ref q13, .ref q14, .ref q15, .ref q16, .ref q17, .int 0, .int (-1), .int 0, .int 0, .int 0, .int 0])), (q9, .inr (1, [.ref q10, .int 0])), (q18, .inr (2, [.ref q2, .ref q19, .ref q20, .ref q21, .ref q22, .ref q23, .ref q24, .ref q25])), (q26, .inr (3, [.ref q2, .ref q27, .int 0, .long 0])), (q3, zAI cI 5), (q4, zAI cI 5), (q5, zAI cI 5), (q6, zAI cI 5), (q7, zAI cI 32), (q8, zAI cI 5), (q12, zAI cI 5), (q13, zAI cI 5), (q14, zAI cI 5), (q15, zAI cI 5), (q16, zAI cI 32), (q17, zAI cI 5), (q10, zAI cI 20), (q19, zAL cL 5), (q20, zAL cL 5), (q21, zAL cL 32), (q22, zAL cL 6), (q23, zAL cL 6), (q24, zAL cL 64), (q25, zAL cL 64), (q27, zAI cI 5), (q28, zAI cI 6), (q29, zAI cI 19), (q30, zAI cI 20)]) [0, 1, 10, 8, 17, 25, 2, 3, 4, 5, 6, 7, 11, 12, 13, 14, 15, 16, 9, 18, 19, 20, 21, 22, 23, 24, 26, 27, 28, 29] rfl
  have hD2 := hD.sub (ws' := [(q1, .inr (4, [.ref q9, .ref q2, .ref q11, .ref q18, .ref q26, .int 0, .int 0])), (q2, .inr (0, [.ref q3, .ref q4, .ref q5, .ref q6, .ref q7, .ref q8, .int 0, .int (-1), .int 0, .int 0, .int 0, .int 0])), (q11, .inr (0, [.ref q12, .ref q13, .ref q14, .ref q15, .ref q16, .ref q17, .int 0, .int (-1), .int 0, .int 0, .int 0, .int 0])), (q9, .inr (1, [.ref q10, .int 0])), (q18, .inr (2, [.ref q2, .ref q19, .ref q20, .ref q21, .ref q22, .ref q23, .ref q24, .ref q25])), (q26, .inr (3, [.ref q2, .ref q27, .int 0, .long 0])), (q3, zAI cI 5), (q4, zAI cI 5), (q5, zAI cI 5), (q6, zAI cI 5), (q7, zAI cI 32), (q8, zAI cI 5), (q12, zAI cI 5), (q13, zAI cI 5), (q14, zAI cI 5), (q15, zAI cI 5), (q16, zAI cI 32), (q17, zAI cI 5), (q10, zAI cI 20), (q19, zAL cL 5), (q20, zAL cL 5), (q21, zAL cL 32), (q22, zAL cL 6), (q23, zAL cL 6), (q24, zAL cL 64), (q25, zAL cL 64), (q27, zAI cI 5), (q28, zAI cI 6), (q29, zAI cI 19), (q30, zAI cI 20)]) [0, 1, 10, 8, 17, 25, 2, 3, 4, 5, 6, 7, 11, 12, 13, 14, 15, 16, 9, 18, 19, 20, 21, 22, 23, 24, 26, 27, 28, 29] (by decide) rfl
  have hk0 := kW_0 q1 q2 q11 q9 q18 q26 q3 q4 q5 q6 q7 q8 q12 q13 q14 q15 q16 q17 q10 q19 q20 q21 q22 q23 q24 q25 q27 q28 q29 q30 b tx by0 cI cL L xs
  rw [← hk0] at hP2 hD2
  obtain ⟨ad, hade⟩ : ∃ ad, ad = kad [q1, q2, q11, q9, q18, q26, q3, q4, q5, q6, q7, q8, q12, q13, q14, q15, q16, q17, q10, q19, q20, q21, q22, q23, q24, q25, q27, q28, q29, q30, 0, 0, 0, 0, 0, 0, 0, 0, b, tx, by0] := ⟨_, rfl⟩
  have e38 : ad 38 = b := by rw [hade]; rfl
  have e39 : ad 39 = tx := by rw [hade]; rfl
  have e40 : ad 40 = by0 := by rw [hade]; rfl
  have e0 : ad 0 = q1 := by rw [hade]; rfl
  have e27 : ad 27 = q28 := by rw [hade]; rfl
  have e28 : ad 28 = q29 := by rw [hade]; rfl
  have e29 : ad 29 = q30 := by rw [hade]; rfl
  rw [← hade] at hP2 hD2
  clear hP hD hk0 hade
  have hkA : ∀ q, kA s.heap.size q → s.heap.size ≤ q := fun q h => h
  have hkA2 : ∀ q, kA s.heap.size q → A q := fun q h => hA q h
  have hInj : kInj s.heap.size (nW (kH0 L xs)) ad := ⟨fun i j hi hj h => hD2.1 i j _ _ (kW_get hi) (kW_get hj) h, fun k hk => hA2 _ (hD2.2 k _ (kW_get hk))⟩
  have hCF : kCF s.heap.size ad L xs s s.heap := by
    refine ⟨vk_S.narrow (A := A) ⟨fun i hi => ?_, fun i j hi hj _ => by omega⟩ hkA2, by rw [e39]; exact hTR, va_Z.narrow hZ hkA2, by rw [e38]; exact hX, by rw [e38]; exact hbl, ?_, hNs, Nat.le_refl _⟩
    · obtain rfl : i = 0 := by omega
      rw [e39, e40]
      exact hT0
    · rw [e38]
      exact fun z => absurd (hkA _ z) (Nat.not_le.mpr hbl)
  obtain ⟨j1, j2, j3⟩ := lw_init (L := L) (xs := xs) hL
  obtain ⟨H1, hev, -, hn1⟩ := w_all j1 j2 rfl rfl j3 rfl rfl
  obtain ⟨n, hrun⟩ := ev_iff.mp hev
  refine kRun_W n 85 24 _ _ _ _ _ hrun (cz := fun k => 30 + k) (sz := fun k => 411 + 19 * k) (B := s.heap.size) (ad := ad) (D := D) (cI := cI) (cL := cL) (L := L) (xs := xs) ⟨hx, by rw [kB_85]; exact hb, hml, hown, hq, (by decide +kernel), (by decide +kernel), fun k hk => ⟨by show 30 + k ≤ 600000; omega, by show 411 + 19 * k ≤ 7302250; omega⟩, fun _ k => ⟨rfl, by show 411 + 19 * (k + 1) = 411 + 19 * k + 19; omega⟩⟩ hK hCF hInj (by show 0 ≤ 1000; decide) ?_ H [] ls hP2 ⟨hS.1, fun q h1 _ => hS.2.1 q h1 (hA3 q h1), fun q h => by cases h⟩ ⟨hl.1, rfl, hl.2.1, ?_⟩ j3
  · intro pc' i Hp locs arr hd hr2 hP' hS' hX'
    rcases hr2 with ⟨rfl, -⟩ | ⟨-, x, h, -⟩ | ⟨-, h, -⟩
    · refine W.widen (k := 600000) (n := 7302250) (by show 30 + na H1 ≤ 600000; omega) (by show 411 + 19 * na H1 ≤ 7302250; omega) ?_
      refine va_forget (fun q hq => hkA _ (hS'.2.2 q hq)) ?_
      exact lw_ret hx hb hr hlocks (by rw [kB_85] at hd; exact hd)
    · cases h
    · cases h
  · intro i v hi hn
    match i, hi with
    | 0, hi => cases hi; show ls[0]? = some (.val (.ref (ad 38))); rw [e38]; exact hl.2.2 (0, .ref b) (by simp)
    | 1, hi => cases hi; show ls[1]? = some (.val (.ref (ad 0))); rw [e0]; exact hl.2.2 (1, .ref q1) (by simp)
    | 2, hi => cases hi; show ls[2]? = some (.val (.ref (ad 27))); rw [e27]; exact hl.2.2 (2, .ref q28) (by simp)
    | 3, hi => cases hi; show ls[3]? = some (.val (.ref (ad 28))); rw [e28]; exact hl.2.2 (3, .ref q29) (by simp)
    | 4, hi => cases hi; show ls[4]? = some (.val (.ref (ad 29))); rw [e29]; exact hl.2.2 (4, .ref q30) (by simp)
    | 5, hi => cases hi; exact absurd rfl hn
    | 6, hi => cases hi; exact absurd rfl hn
    | 7, hi => cases hi; exact absurd rfl hn
    | 8, hi => cases hi; exact absurd rfl hn
    | k + 9, hi => simp at hi

-- ===== YOUR PART ENDS =====
set_option maxHeartbeats 4000000 in
theorem lw_walk (l : Launch) (hflags : l.flags = flags0) (b : Addr) (xs : List Int32) : MetFree l x (headSpec (Jvm.Cond.code x code maxLocals ret :: tables_1) room_1) (lw_P b xs) (fun _ _ _ _ _ => True) lw_Q := by
  refine MetFree.of_bodyS (code := code) (maxLocals := maxLocals) (ret := ret) (by decide) ?_ ?_
  · intro args s m h hn
    obtain ⟨meth, c, h1, h2, h3, h4, h5, h6, -, -⟩ := Cond.code_spec hn (atoms_spec (ws := Jvm.Cond.code x code maxLocals ret :: tables_1) h _ List.mem_cons_self)
    exact ⟨meth, c, h1, h2, h3, h4, h5, h6⟩
  · intro p e s m args below meth c s₁ B hml0 hP _
    obtain ⟨rfl, hx, hbd, hgv⟩ := hP
    obtain ⟨scr, harrAt, hlist, hof, hsmall⟩ := hx
    obtain ⟨hcb, hkn, -, -⟩ := State.arrayAt?_spec harrAt
    have hown : s.vm.findClass R_law = some m.cls := findClass_of_methodNamed B.named
    have hts0 : ∀ c ∈ (Jvm.Cond.code x code maxLocals ret :: tables_1), c.before #[Value.ref b] s = true := atoms_spec (ws := Jvm.Cond.code x code maxLocals ret :: tables_1) B.pre
    have hts : ∀ w ∈ lw_tbl, w.before #[Value.ref b] s = true := k2_hts_sels lw_privs (fun w hw => hts0 w (List.mem_cons_of_mem _ hw)) lw_privs_ok
    have hml : c.maxLocals = 9 := B.maxLocals_eq (hts0 _ List.mem_cons_self)
    have X₀ : Stand p l e room_1 s m #[Value.ref b] below meth c s₁ [] 0 0 := Stand.of_body B
    have hh0 : s₁.heap = s.heap := by rw [B.state]; rfl
    have hsz : scr.slots.size = xs.length := by rw [← Array.length_toList, hlist, List.length_map]
    have hval : ∀ j : Nat, j < xs.length → scr.slots[j]? = some (.int (xs.getD j 0)) := fun j hj => by
      rw [← Array.getElem?_toList, hlist]
      simp [hj]
    have hbl : b < s.heap.size := (Array.getElem?_eq_some_iff.mp hcb).1
    have hX : va_X b xs.length (fun j => xs.getD j 0) s s.heap := ⟨scr, hcb, hof, hkn, hsz, hval⟩
    have K : W p l e room_1 s m #[Value.ref b] below meth c s₁.heap [] 0 0 (lw_Z below #[Value.ref b] s) (entryFrame m ([Value.ref b] : List Value).toArray 9) := by
      rw [hh0]
      exact whole_start l hflags hbd ⟨B.exec, B.bytes, B.returns, hml, hown, hts, hX, hbl, B.notSynchronized, hgv⟩
    obtain ⟨t, a1, o, b1, b2, b3⟩ := K s₁ rfl X₀
    exact ⟨t, o, a1, b1, b2, b3⟩
theorem lw_pre_spec {args : Array Value} {s : State} (h : (Jvm.Cond.and given_1 narrow_1).before args s = true) (hr : rest_1_c.before args s = true) : ∃ (b : Addr) (xs : List Int32), lw_P b xs args s := by
  have hs := flat_of_before _ h
  have hq := flat_of_before _ hr
  have hc : (Cond.count 1).before args s = true := hs _ (by decide +kernel)
  have harr : (Cond.arrayOf (.arg 0) .int).before args s = true := hs _ (by decide +kernel)
  have hle : (Cond.le (.length (.arg 0)) (.int 260)).before args s = true := hs _ (by decide +kernel)
  have hlen : (Cond.isInt (.length (.arg 0))).before args s = true := hq _ (by decide +kernel)
  have hall : (Cond.all (.arg 0) (.isInt (.elem (.arg 0) (.index 0)))).before args s = true := hq _ (by decide +kernel)
  obtain ⟨b, xs, hb, hx⟩ := State.ints_of_pre rfl harr hlen hall
  have hsm : xs.length < 2 ^ 31 := hx.choose_spec.2.2.2
  have hev : (Term.length (.arg 0)).eval args s none [] s = some (.int xs.length.toInt32) := hx.length_eval hb
  have hv := Cond.le_ints hev (show (Term.int 260).eval args s none [] s = some (.int 260) from rfl)
  have hd : xs.length.toInt32 ≤ 260 := by
    simpa [Cond.before, Cond.holds, hv] using hle
  have hN : xs.length ≤ 260 := (Int32.ofNat_le_ofNat hsm (by decide)).mp (show Int32.ofNat xs.length ≤ Int32.ofNat 260 from hd)
  exact ⟨b, xs, Cond.one_arg hc (show args[0]? = some (.ref b) from hb), hx, hN, h⟩
theorem lw_comes (l : Launch) (hflags : l.flags = flags0) : Comes l x (Jvm.Cond.code x code maxLocals ret :: tables_1) room_1 (fun tb e args s => Calls_1 tb e args s ∧ rest_1 tb e args s ∧ Pre_1 tb e args s)
    (fun _ _ args s o t => lw_Q args s o t) := by
  intro p e ha hc hk s m args below hf hfit hheap happ hpre
  obtain ⟨b, xs, hP⟩ := lw_pre_spec hpre.2.2 hpre.2.1
  obtain ⟨k, o, h1, h2, h3, hQ⟩ := lw_walk l hflags b xs p e ha hc hk s m args below hf ((Spec.applies_iff_loose hf).mp happ).1 hP trivial
  exact ⟨k, o, h1, h2, h3, hQ⟩
theorem lw_frame {s t : State} {o : Outcome} {args : Array Value} (h : Framed s o t [] 600000 7302250) :
    Framed s o t (fieldLocs frame_1_writes args s ++ arrayLocs frame_1_arrays args s ++ staticLocs frame_1_statics s) 600000 7302250 := h
theorem lw_limb (L : Cond) (hL : ∀ (args : Array Value) (s t : State), L.after args s (.returned (some (.int 1))) t = true) :
    ArmFor flags0 classFile x code maxLocals ret World_1 tables_1 room_1 Calls_1 rest_1 Pre_1
      (fun tb e a s o t => postC L tb e a s o t ∧ Framed s o t (fieldLocs frame_1_writes a s ++ arrayLocs frame_1_arrays a s ++ staticLocs frame_1_statics s) 600000 7302250) := by
  intro l hflags _ _ p e ha hc hk s m args below hf hfit hheap happ hpre
  obtain ⟨k, o, h1, h2, h3, rfl, hF⟩ := lw_comes l hflags p e ha hc hk s m args below hf hfit hheap happ hpre
  exact ⟨k, _, h1, h2, h3, hL args s _, lw_frame hF⟩
theorem i_vc : Claimed_1_1 ∧ Claimed_1_2 := ⟨lw_limb limb_1_1 (fun args s t => by simp [limb_1_1, Cond.after, Cond.holds, Cond.value]), lw_limb limb_1_2 (fun args s t => Cond.after_iff.mpr (by
  first | (rw [show limb_1_2 = Cond.eq .result (.int 1) from rfl, Cond.eq_ints (x := 1) (y := 1) rfl rfl]; simp; done) | (simp [limb_1_2, Cond.value, Term.eval]; done)))⟩

