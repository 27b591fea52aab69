/-! one instruction: the abstract step is the machine's -/
theorem kfind {α : Type} {l : List α} {p : α → Bool} {β : Type} {f : α → β} {b : β} (h : (l.find? p).map f = some b) : ∃ q, q ∈ l ∧ p q = true ∧ f q = b := by
  rw [Option.map_eq_some_iff] at h
  obtain ⟨q, h1, h2⟩ := h
  exact ⟨q, List.mem_of_find?_eq_some h1, List.find?_some h1, h2⟩
/-- the links of nest mates -/
def kNs (s : State) : Prop := ∀ q ∈ kcT, q.2.2.1 = 2 → va_Nw (.methodLinkNest (cow q.1) q.2.1 (my q.2.2.2.1) "SneezeKing") s
/-- what stands of the launch at a method's start: the text, COMPACT_STRINGS, the script -/
def kCF (B : Nat) (ad : Nat → Nat) (L : Nat) (xs : Nat → Int32) (s : State) (Hp : Heap) : Prop :=
  vk_S 1 [5] [kbs] (fun _ => ad 39) (fun _ => ad 40) (kA B) s Hp ∧ vk_R "SneezeKing$Page" 35 "psfdc" (ad 39) s ∧ va_Z "java/lang/String" "COMPACT_STRINGS" "Z" (.int 1) (kA B) s Hp ∧ va_X (ad 38) L xs s Hp ∧ ad 38 < Hp.size ∧ ¬ kA B (ad 38) ∧ kNs s ∧ B ≤ Hp.size
def kSc (L : Nat) (xs : Nat → Int32) (H : kH) : Prop := (∀ j, hI H 38 j = xs j) ∧ hI H 41 0 = nI L ∧ L ≤ 260
def kFC (p : Program) (s : State) (mi : MethodId) (c : Code) (args : Array Value) (R : Room) (m cells slots : Nat) : Prop :=
  p.tables.exec = Jvm.exec ∧ c.code = mbyt m ∧ c.maxLocals = mnL m ∧ s.vm.findClass (cow (mow m)) = some mi.cls ∧ (∀ w ∈ kAW, w.before args s = true) ∧ mfr m ≤ R.frames ∧ mlo m ≤ R.locals ∧ cells ≤ R.cells ∧ slots ≤ R.slots
theorem kSc_upd {L : Nat} {xs : Nat → Int32} {H H' : kH} (h : kSc L xs H) (h1 : ∀ k j, 38 ≤ k → hI H' k j = hI H k j) : kSc L xs H' := ⟨fun j => (h1 38 j (by omega)).trans (h.1 j), (h1 41 0 (by omega)).trans h.2.1, h.2.2⟩
theorem kws_0 : u_ws RX0 TX0 12 = ([49, 51, 53, 55, 57, 59, 61, 63, 65, 67, 69, 71] : List Nat).filterMap (fun i => lw_tbl[i]?) := by decide +kernel
theorem kwg_0 : (u_ws RX0 TX0 12).all goodWord = true := by decide +kernel
theorem kws_1 : u_ws RX1 TX1 2 = ([83, 85] : List Nat).filterMap (fun i => lw_tbl[i]?) := by decide +kernel
theorem kwg_1 : (u_ws RX1 TX1 2).all goodWord = true := by decide +kernel
theorem kws_2 : u_ws RX2 TX2 8 = ([102, 104, 106, 108, 110, 112, 114, 116] : List Nat).filterMap (fun i => lw_tbl[i]?) := by decide +kernel
theorem kwg_2 : (u_ws RX2 TX2 8).all goodWord = true := by decide +kernel
theorem kws_3 : u_ws RX4 TX4 4 = ([130, 132, 134, 136] : List Nat).filterMap (fun i => lw_tbl[i]?) := by decide +kernel
theorem kwg_3 : (u_ws RX4 TX4 4).all goodWord = true := by decide +kernel
theorem kws_4 : u_ws RX5 TX5 7 = ([146, 148, 150, 152, 154, 156, 158] : List Nat).filterMap (fun i => lw_tbl[i]?) := by decide +kernel
theorem kwg_4 : (u_ws RX5 TX5 7).all goodWord = true := by decide +kernel
theorem kws_in {ws : List Cond} {ps : List Nat} (h : ws = ps.filterMap (fun i => lw_tbl[i]?)) (hg : ws.all goodWord = true) : ∀ w ∈ ws, w ∈ kAW := by
  intro w hw
  have h1 := List.all_eq_true.mp hg w hw
  rw [h] at hw
  obtain ⟨i, -, hi⟩ := List.mem_filterMap.mp hw
  exact kAW_of hi h1
def kty (c : Nat) : Nat → FieldType := match c with
  | 0 => tyX0
  | 1 => tyX1
  | 2 => tyX2
  | 3 => tyX4
  | _ => tyX5
theorem kvw : ∀ c, c < 5 → ∃ C T N, vwCl[c]? = some (C, T, N) ∧ N = knf c ∧ (∀ w ∈ u_ws C T N, w ∈ kAW) ∧ (∀ k, k < N → parseFieldDescriptor (T k).2.2.1 = some (kty c k)) ∧ (∀ a, a < N → ∀ b, b < N → a ≠ b → (T a).2.1 ≠ (T b).2.1) ∧ (∀ k, k < N → ((T k).2.2.2 = true → fki c k = 3) ∧ (fki c k = 0 → kty c k = .int) ∧ (fki c k = 1 → kty c k = .boolean) ∧ (fki c k = 2 → kty c k = .long)) := by
  intro c hc
  match c, hc with
  | 0, _ => exact ⟨RX0, TX0, 12, rfl, by decide +kernel, kws_in kws_0 kwg_0, tyX0_ok, nmX0, by decide +kernel⟩
  | 1, _ => exact ⟨RX1, TX1, 2, rfl, by decide +kernel, kws_in kws_1 kwg_1, tyX1_ok, nmX1, by decide +kernel⟩
  | 2, _ => exact ⟨RX2, TX2, 8, rfl, by decide +kernel, kws_in kws_2 kwg_2, tyX2_ok, nmX2, by decide +kernel⟩
  | 3, _ => exact ⟨RX4, TX4, 4, rfl, by decide +kernel, kws_in kws_3 kwg_3, tyX4_ok, nmX4, by decide +kernel⟩
  | 4, _ => exact ⟨RX5, TX5, 7, rfl, by decide +kernel, kws_in kws_4 kwg_4, tyX5_ok, nmX5, by decide +kernel⟩
  | n + 5, h => exact absurd h (by omega)

section KST
variable {p : Program} {l : Launch} {e : Env} {R : Room} {s : State} {mi : MethodId} {args : Array Value} {below : List Frame} {meth : Method} {c : Code} {cells slots : Nat} {Q : State → Prop}
variable {B : Nat} {ad : Nat → Nat} {D : va_G} {cI cL : ClassId} {L : Nat} {xs : Nat → Int32}
def kWt (p : Program) (l : Launch) (e : Env) (R : Room) (s : State) (mi : MethodId) (args : Array Value) (below : List Frame) (meth : Method) (c : Code) (cells slots : Nat) (Q : State → Prop) (B : Nat) (ad : Nat → Nat) (D : va_G) (cI cL : ClassId) (L : Nat) (xs : Nat → Int32) (m : Nat) (a : Nat × List Value × List Value × kH) : Prop :=
  ∀ (Hp : Heap) (locs : List Loc) (arr : Array Slot), va_P D vwCl (kW ad cI cL a.2.2.2) Hp → va_S (kA B) s.heap Hp locs → kLR ad arr (mnL m) a.2.1 → kSc L xs a.2.2.2 → W p l e R s mi args below meth c Hp locs cells slots Q (F0 mi a.1 arr (a.2.2.1.map (vR ad)))
theorem kNx_inv {pc : Nat} {ls st : List Value} {H : kH} {a : Nat × List Value × List Value × kH} (h : kNx pc ls st H = some a) : a = (pc, ls, st, H) := by
  unfold kNx at h
  cases h
  rfl
theorem kcell_arr {H : kH} {k n : Nat} (h : shz k = (1, n)) : kcell ad cI cL H k = .inl (cI, n, .inl (hI H k)) := by
  unfold kcell
  rw [h]
  rfl
theorem kcell_arL {H : kH} {k n : Nat} (h : shz k = (2, n)) : kcell ad cI cL H k = .inl (cL, n, .inr (.inl (hL H k))) := by
  unfold kcell
  rw [h]
  rfl
theorem kcell_ob {H : kH} {k n : Nat} (h : shz k = (0, n)) : kcell ad cI cL H k = .inr (n, (List.range (knf n)).map (fun f => kfv ad H k n f)) := by
  unfold kcell
  rw [h]
  rfl
theorem shp_lt : ∀ k, k < 41 → ¬ k < 30 → (shp k).1 ≠ 0 ∧ (shp k).1 ≠ 1 ∧ (shp k).1 ≠ 2 ∧ ((shp k).1 = 4 → k = 38) ∧ (shp k = (6, 5) ∧ k = 40 ∨ (shp k).1 ≠ 6) := by decide +kernel
theorem shp_lo : ∀ k, k < 30 → (shp k).1 ≠ 4 ∧ (shp k).1 ≠ 6 ∧ ((shp k).1 = 0 → (shp k).2 < 5) := by decide +kernel
theorem shp_big {k : Nat} (h : ¬ k < 41) : shp k = (9, 0) := by
  unfold shp
  rw [List.getD_eq_getElem?_getD, List.getElem?_eq_none (by show 41 ≤ k; omega)]
  rfl
theorem shp_in {k a n : Nat} (h : shp k = (a, n)) (ha : a = 0 ∨ a = 1 ∨ a = 2) : k < 30 := by
  rcases Nat.lt_or_ge k 30 with q | q
  · exact q
  · by_cases h41 : k < 41
    · obtain ⟨h1, h2, h3, -⟩ := shp_lt k h41 (by omega)
      rw [h] at h1 h2 h3
      dsimp only at h1 h2 h3
      omega
    · rw [shp_big h41] at h
      cases h
      omega
theorem shp_4 {k n : Nat} (h : shp k = (4, n)) : k = 38 := by
  rcases Nat.lt_or_ge k 30 with q | q
  · exact absurd (by rw [h]) (shp_lo k q).1
  · by_cases h41 : k < 41
    · exact (shp_lt k h41 (by omega)).2.2.2.1 (by rw [h])
    · rw [shp_big h41] at h
      cases h
theorem shp_6 {k n : Nat} (h : shp k = (6, n)) : k = 40 ∧ n = 5 := by
  rcases Nat.lt_or_ge k 30 with q | q
  · exact absurd (by rw [h]) (shp_lo k q).2.1
  · by_cases h41 : k < 41
    · rcases (shp_lt k h41 (by omega)).2.2.2.2 with ⟨h1, h2⟩ | h1
      · rw [h] at h1
        cases h1
        exact ⟨h2, rfl⟩
      · exact absurd (by rw [h]) h1
    · rw [shp_big h41] at h
      cases h
theorem shp_ob {k c : Nat} (h : shp k = (0, c)) : k < 30 ∧ c < 5 := by
  have h1 := shp_in h (Or.inl rfl)
  have h2 := (shp_lo k h1).2.2 (by rw [h])
  rw [h] at h2
  exact ⟨h1, h2⟩
theorem shp_30 : shp 30 = (9, 0) := rfl
theorem shz_of {k a n : Nat} (h : shp k = (a, n)) (ha : a ≠ 9) : shz k = (a, n) := by
  unfold shz
  rw [if_neg]
  · exact h
  · rintro rfl
    rw [shp_30] at h
    cases h
    exact ha rfl
theorem shq_of {H : kH} {k a n : Nat} (h : shp k = (a, n)) (ha : a ≠ 9) : shq H k = (a, n) := by
  unfold shq
  rw [if_neg]
  · exact h
  · rintro rfl
    rw [shp_30] at h
    cases h
    exact ha rfl
theorem shq_in {H : kH} {k a n : Nat} (h : shq H k = (a, n)) (ha : a = 0 ∨ a = 1 ∨ a = 2) : k < nW H ∧ shz k = (a, n) := by
  unfold shq at h
  split at h
  · rename_i hk
    subst hk
    split at h
    · cases h
      omega
    · rename_i hf
      cases h
      refine ⟨?_, rfl⟩
      unfold nW
      rw [if_neg hf]
      omega
  · exact ⟨Nat.lt_of_lt_of_le (shp_in h ha) (nW_ge H), shz_of h (by omega)⟩
theorem shq_4 {H : kH} {k n : Nat} (h : shq H k = (4, n)) : k = 38 := by
  unfold shq at h
  split at h
  · split at h <;> cases h
  · exact shp_4 h
theorem shq_6 {H : kH} {k n : Nat} (h : shq H k = (6, n)) : k = 40 ∧ n = 5 := by
  unfold shq at h
  split at h
  · split at h <;> cases h
  · exact shp_6 h
theorem shq_38 {H : kH} {k n : Nat} (h : shq H k = (1, n)) : k < 38 := by
  have h1 := (shq_in h (by omega)).1
  have h2 := nW_le H
  omega
theorem lt_nW {H : kH} {k : Nat} (h : k < 30) : k < nW H := Nat.lt_of_lt_of_le h (nW_ge H)
theorem kcells_uI {H : kH} {k f : Nat} {x : Int32} : ∀ j, j ≠ k → kcell ad cI cL (uI H k f x) j = kcell ad cI cL H j := fun j hj => kcell_congr (fun g => by rw [hI_uI, if_neg (fun z => hj z.1)]) (fun _ => rfl) (fun _ => rfl)
theorem kcells_uL {H : kH} {k f : Nat} {x : Int64} : ∀ j, j ≠ k → kcell ad cI cL (uL H k f x) j = kcell ad cI cL H j := fun j hj => kcell_congr (fun _ => rfl) (fun g => by rw [hL_uL, if_neg (fun z => hj z.1)]) (fun _ => rfl)
theorem kSc_uI {H : kH} {k f : Nat} {x : Int32} (h : kSc L xs H) (hk : k < 38) : kSc L xs (uI H k f x) := kSc_upd h (fun a b ha => by rw [hI_uI, if_neg (by omega)])
theorem kLdI_inv {ls st : List Value} {i pc : Nat} {H : kH} {a : Nat × List Value × List Value × kH} (h : kLdI ls i pc st H = some a) : ∃ x, ls[i]? = some (.int x) ∧ a = (pc, ls, .int x :: st, H) := by
  unfold kLdI at h
  split at h
  · rename_i x ex
    exact ⟨x, ex, kNx_inv h⟩
  · cases h
theorem kLdL_inv {ls st : List Value} {i pc : Nat} {H : kH} {a : Nat × List Value × List Value × kH} (h : kLdL ls i pc st H = some a) : ∃ x, ls[i]? = some (.long x) ∧ a = (pc, ls, .long x :: st, H) := by
  unfold kLdL at h
  split at h
  · rename_i x ex
    exact ⟨x, ex, kNx_inv h⟩
  · cases h
theorem kLdR_inv {ls st : List Value} {i pc : Nat} {H : kH} {a : Nat × List Value × List Value × kH} (h : kLdR ls i pc st H = some a) : ∃ x, ls[i]? = some (.ref x) ∧ a = (pc, ls, .ref x :: st, H) := by
  unfold kLdR at h
  split at h
  · rename_i x ex
    exact ⟨x, ex, kNx_inv h⟩
  · cases h
theorem kSoI_inv {m : Nat} {ls st : List Value} {i pc : Nat} {H : kH} {a : Nat × List Value × List Value × kH} (h : kSoI m ls i pc st H = some a) : ∃ x r, st = .int x :: r ∧ i < mnL m ∧ a = (pc, kSt1 ls i (.int x), r, H) := by
  unfold kSoI at h
  split at h
  · split at h
    · rename_i hi
      exact ⟨_, _, rfl, hi, kNx_inv h⟩
    · cases h
  · cases h
theorem kSoR_inv {m : Nat} {ls st : List Value} {i pc : Nat} {H : kH} {a : Nat × List Value × List Value × kH} (h : kSoR m ls i pc st H = some a) : ∃ x r, st = .ref x :: r ∧ i < mnL m ∧ a = (pc, kSt1 ls i (.ref x), r, H) := by
  unfold kSoR at h
  split at h
  · split at h
    · rename_i hi
      exact ⟨_, _, rfl, hi, kNx_inv h⟩
    · cases h
  · cases h
theorem kSoL_inv {m : Nat} {ls st : List Value} {i pc : Nat} {H : kH} {a : Nat × List Value × List Value × kH} (h : kSoL m ls i pc st H = some a) : ∃ x r, st = .long x :: r ∧ i + 1 < mnL m ∧ a = (pc, kSt2 ls i (.long x), r, H) := by
  unfold kSoL at h
  split at h
  · split at h
    · rename_i hi
      exact ⟨_, _, rfl, hi, kNx_inv h⟩
    · cases h
  · cases h
theorem kB2_inv {f : Int32 → Int32 → Int32} {pc : Nat} {ls st : List Value} {H : kH} {a : Nat × List Value × List Value × kH} (h : kB2 f pc ls st H = some a) : ∃ x y r, st = .int y :: .int x :: r ∧ a = (pc + 1, ls, .int (f x y) :: r, H) := by
  unfold kB2 at h
  split at h
  · exact ⟨_, _, _, rfl, kNx_inv h⟩
  · cases h
theorem kL2_inv {f : Int64 → Int64 → Int64} {pc : Nat} {ls st : List Value} {H : kH} {a : Nat × List Value × List Value × kH} (h : kL2 f pc ls st H = some a) : ∃ x y r, st = .long y :: .long x :: r ∧ a = (pc + 1, ls, .long (f x y) :: r, H) := by
  unfold kL2 at h
  split at h
  · exact ⟨_, _, _, rfl, kNx_inv h⟩
  · cases h
theorem kLS_inv {f : Int64 → Int32 → Int64} {pc : Nat} {ls st : List Value} {H : kH} {a : Nat × List Value × List Value × kH} (h : kLS f pc ls st H = some a) : ∃ x y r, st = .int y :: .long x :: r ∧ a = (pc + 1, ls, .long (f x y) :: r, H) := by
  unfold kLS at h
  split at h
  · exact ⟨_, _, _, rfl, kNx_inv h⟩
  · cases h
theorem kU1_inv {f : Int32 → Int32} {pc : Nat} {ls st : List Value} {H : kH} {a : Nat × List Value × List Value × kH} (h : kU1 f pc ls st H = some a) : ∃ x r, st = .int x :: r ∧ a = (pc + 1, ls, .int (f x) :: r, H) := by
  unfold kU1 at h
  split at h
  · exact ⟨_, _, rfl, kNx_inv h⟩
  · cases h
theorem kBr_inv {q : Prop} [Decidable q] {pc : Nat} {off : Int} {ls st : List Value} {H : kH} {a : Nat × List Value × List Value × kH} (h : kBr q pc off ls st H = some a) : 0 ≤ (pc : Int) + off ∧ ((q ∧ a = (((pc : Int) + off).toNat, ls, st, H)) ∨ (¬ q ∧ a = (pc + 3, ls, st, H))) := by
  unfold kBr at h
  split at h
  · rename_i h0
    refine ⟨h0, ?_⟩
    split at h
    · rename_i hq
      exact Or.inl ⟨hq, kNx_inv h⟩
    · rename_i hq
      exact Or.inr ⟨hq, kNx_inv h⟩
  · cases h
theorem kGo_inv {pc : Nat} {off : Int} {ls st : List Value} {H : kH} {a : Nat × List Value × List Value × kH} (h : kGo pc off ls st H = some a) : 0 ≤ (pc : Int) + off ∧ a = (((pc : Int) + off).toNat, ls, st, H) := by
  unfold kGo at h
  split at h
  · rename_i h0
    exact ⟨h0, kNx_inv h⟩
  · cases h
variable {m pc : Nat} {ls st : List Value} {H : kH} {a : Nat × List Value × List Value × kH}
theorem kget_W {ix : Nat} (hF : kFC p s mi c args R m cells slots) (hK : va_K D vwCl [(cI, .int), (cL, .long)] s) (hC : kCF B ad L xs s s.heap) (hd : decode (mbyt m) pc = .ok (.getfield ix, 3)) (h : kIns m (.getfield ix) pc ls st H = some a)
    (kk : kWt p l e R s mi args below meth c cells slots Q B ad D cI cL L xs m a) : kWt p l e R s mi args below meth c cells slots Q B ad D cI cL L xs m (pc, ls, st, H) := by
  intro Hp locs arr hP hS hl hX
  obtain ⟨hx, hb, hml, hown, hts, -⟩ := hF
  unfold kIns at h
  dsimp only at h
  split at h
  · rename_i cc f k r hcp
    split at h
    · rename_i v hv
      obtain rfl := kNx_inv h
      obtain ⟨q, q1, q2, q3⟩ := kfind hcp
      simp only [Bool.and_eq_true, beq_iff_eq] at q2
      obtain ⟨q2, rfl⟩ := q2
      cases q3
      unfold gf at hv
      split at hv
      · rename_i h9
        split at hv
        · rename_i hk
          subst hk
          rcases kT_fldS q q1 (by omega) with ⟨f0, hw⟩ | ⟨f0, hw⟩
          · rw [if_pos f0] at hv
            cases hv
            rw [q2] at hw
            exact vk_getf hx hb (hC.1.1 0 (by omega)).2.2.1 hS hown (hts _ (kAW_of hw rfl)) (fun _ z => z) hd (kk _ _ _ hP hS hl hX)
          · rw [if_neg (by omega)] at hv
            cases hv
            rw [q2] at hw
            exact vk_getf hx hb (hC.1.1 0 (by omega)).2.1 hS hown (hts _ (kAW_of hw rfl)) (fun _ z => z) hd (kk _ _ _ hP hS hl hX)
        · cases hv
      · split at hv
        · rename_i hs
          obtain ⟨hk, hc6⟩ := shp_ob hs
          obtain ⟨C, T, N, e1, e2, e3, -⟩ := kvw _ hc6
          obtain ⟨g1, g2, g3⟩ := kT_fld q q1 hc6 _ e1
          dsimp only at g1 g2 g3
          rw [q2] at g1
          have hv' : kfv ad H k q.2.2.1 q.2.2.2.1 = vR ad v := by
            unfold kfv
            split at hv <;> first | (cases hv; rename_i ef; rw [ef]; rfl) | cases hv
          refine va_get (C := C) (T := T) (N := N) (ci := q.2.2.1) hx hb hts e3 hown hK hP k ((kW_get (lt_nW hk)).trans (by rw [kcell_ob (shz_of hs (by decide))])) e1 q.2.2.2.1 g2 (hts _ (kAW_of g1 rfl)) (fun x z => by rw [g3] at z; exact z) (v := vR ad v) ?_ hd (kk _ _ _ hP hS hl hX)
          rw [List.getElem?_map, List.getElem?_range (by rw [← e2]; exact g2)]
          exact congrArg some hv'
        · cases hv
    · cases h
  · cases h
theorem kput_W {ix : Nat} (hF : kFC p s mi c args R m cells slots) (hK : va_K D vwCl [(cI, .int), (cL, .long)] s) (hi : kInj B (nW H) ad) (hd : decode (mbyt m) pc = .ok (.putfield ix, 3)) (h : kIns m (.putfield ix) pc ls st H = some a)
    (kk : kWt p l e R s mi args below meth c cells slots Q B ad D cI cL L xs m a) : kWt p l e R s mi args below meth c cells slots Q B ad D cI cL L xs m (pc, ls, st, H) := by
  intro Hp locs arr hP hS hl hX
  obtain ⟨hx, hb, hml, hown, hts, -⟩ := hF
  unfold kIns at h
  dsimp only at h
  split at h
  · rename_i cc f v k r hcp
    split at h
    · rename_i H' hv
      obtain rfl := kNx_inv h
      obtain ⟨q, q1, q2, q3⟩ := kfind hcp
      simp only [Bool.and_eq_true, beq_iff_eq] at q2
      obtain ⟨q2, rfl⟩ := q2
      cases q3
      unfold pf at hv
      split at hv
      · rename_i hs
        obtain ⟨hs, -⟩ := hs
        obtain ⟨hk, hc6⟩ := shp_ob hs
        obtain ⟨C, T, N, e1, e2, e3, e4, e5, e6⟩ := kvw _ hc6
        obtain ⟨g1, g2, g3⟩ := kT_fld q q1 hc6 _ e1
        dsimp only at g1 g2 g3
        rw [q2] at g1
        obtain ⟨k1, k2, k3, k4⟩ := e6 _ g2
        have key : ∀ (ty : FieldType) (v' : Value), v' = vR ad v → kty q.2.2.1 q.2.2.2.1 = ty → fki q.2.2.1 q.2.2.2.1 ≠ 3 → narrow ty v' = v' → fits ty v' = true → kfv ad H' k q.2.2.1 q.2.2.2.1 = v' →
            (∀ g, g ≠ q.2.2.2.1 → kfv ad H' k q.2.2.1 g = kfv ad H k q.2.2.1 g) → (∀ j, j ≠ k → kcell ad cI cL H' j = kcell ad cI cL H j) → H'.2.2 = H.2.2 → kSc L xs H' →
            W p l e R s mi args below meth c Hp locs cells slots Q (F0 mi pc arr ((v :: .ref k :: r).map (vR ad))) := by
          intro ty v' ev' ht h3 hn hfit hkv ho hoj hR2 hX'
          refine W.eq (g2 := F0 mi pc arr (v' :: .ref (ad k) :: r.map (vR ad))) (by rw [ev']; rfl) ?_
          refine va_put (C := C) (T := T) (N := N) (ci := q.2.2.1) hx hb hts e3 (kty q.2.2.1) e4 e5 hown hK hP (kD hi) hS k ((kW_get (lt_nW hk)).trans (by rw [kcell_ob (shz_of hs (by decide))])) e1 q.2.2.2.1 g2 (hts _ (kAW_of g1 rfl)) (fun x z => by rw [g3] at z; exact z) ?_ (ty := ty) (by rw [e4 _ g2, ht]) hn hfit ?_ hd (fun H1 locs1 hP1 hD1 hS1 => ?_)
          · cases hq : (T q.2.2.2.1).2.2.2 with
            | false => rfl
            | true => exact absurd (k1 hq) h3
          · rw [List.length_map, List.length_range, ← e2]; exact g2
          · rw [kW_set (lt_nW hk) hR2 (kcell_put (shz_of hs (by decide)) hkv ho) hoj] at hP1
            exact kk _ _ _ hP1 hS1 hl hX'
        split at hv
        · rename_i x ef
          cases hv
          exact key .int (.int x) rfl (k2 ef) (by omega) rfl rfl (by unfold kfv; rw [ef, hI_uI, if_pos ⟨rfl, rfl⟩]; rfl) (fun g hg => kfv_congr (by rw [hI_uI, if_neg (fun z => hg z.2)]) rfl rfl) kcells_uI rfl (kSc_uI hX (by omega))
        · rename_i x ef
          split at hv
          · rename_i h01
            cases hv
            refine key .boolean (.int x) rfl (k3 ef) (by omega) ?_ ?_ (by unfold kfv; rw [ef, hI_uI, if_pos ⟨rfl, rfl⟩]; rfl) (fun g hg => kfv_congr (by rw [hI_uI, if_neg (fun z => hg z.2)]) rfl rfl) kcells_uI rfl (kSc_uI hX (by omega))
            · rcases h01 with rfl | rfl <;> rfl
            · rcases h01 with rfl | rfl <;> rfl
          · cases hv
        · rename_i x ef
          cases hv
          exact key .long (.long x) rfl (k4 ef) (by omega) rfl rfl (by unfold kfv; rw [ef, hL_uL, if_pos ⟨rfl, rfl⟩]; rfl) (fun g hg => kfv_congr rfl (by rw [hL_uL, if_neg (fun z => hg z.2)]) rfl) kcells_uL rfl (kSc_upd hX (fun _ _ _ => rfl))
        · cases hv
      · cases hv
    · cases h
  · cases h
theorem klen_W (hF : kFC p s mi c args R m cells slots) (hK : va_K D vwCl [(cI, .int), (cL, .long)] s) (hC : kCF B ad L xs s s.heap) (hd : decode (mbyt m) pc = .ok (.arraylength, 1)) (h : kIns m .arraylength pc ls st H = some a)
    (kk : kWt p l e R s mi args below meth c cells slots Q B ad D cI cL L xs m a) : kWt p l e R s mi args below meth c cells slots Q B ad D cI cL L xs m (pc, ls, st, H) := by
  intro Hp locs arr hP hS hl hX
  obtain ⟨hx, hb, hml, hown, hts, -⟩ := hF
  unfold kIns at h
  dsimp only at h
  split at h
  · rename_i k r
    split at h
    · rename_i v hv
      obtain rfl := kNx_inv h
      unfold alen at hv
      split at hv
      · rename_i n hs
        cases hv
        exact va_alen (x := (n, .inl (hI H k))) hx hb hK hP k 0 ((kW_get (shq_in hs (by omega)).1).trans (by rw [kcell_arr (shq_in hs (by omega)).2])) rfl rfl hd (kk _ _ _ hP hS hl hX)
      · rename_i n hs
        cases hv
        exact va_alen (x := (n, .inr (.inl (hL H k)))) hx hb hK hP k 1 ((kW_get (shq_in hs (by omega)).1).trans (by rw [kcell_arL (shq_in hs (by omega)).2])) rfl rfl hd (kk _ _ _ hP hS hl hX)
      · rename_i n hs
        cases hv
        obtain rfl := shq_4 hs
        refine va_slen hx hb hC.2.2.2.1 hC.2.2.2.2.1 hC.2.2.2.2.2.1 hS hd ?_
        have h1 := kk _ _ _ hP hS hl hX
        dsimp only at h1
        rw [hX.2.1] at h1
        exact h1
      · rename_i n hs
        cases hv
        obtain ⟨rfl, rfl⟩ := shq_6 hs
        obtain ⟨cell, t1, t2, t3, t4, t5, t6, t7⟩ := (hC.1.1 0 (by omega)).2.2.2
        exact W.alen (n := Int32.ofNat 5) hx hb (by rw [hS.2.1 _ (Array.getElem?_eq_some_iff.mp t1).1 t7]; exact t1) t2 t5 rfl rfl hd (kk _ _ _ hP hS hl hX)
      · cases hv
    · cases h
  · cases h
theorem kial_W (hF : kFC p s mi c args R m cells slots) (hK : va_K D vwCl [(cI, .int), (cL, .long)] s) (hC : kCF B ad L xs s s.heap) (hd : decode (mbyt m) pc = .ok (.iaload, 1)) (h : kIns m .iaload pc ls st H = some a)
    (kk : kWt p l e R s mi args below meth c cells slots Q B ad D cI cL L xs m a) : kWt p l e R s mi args below meth c cells slots Q B ad D cI cL L xs m (pc, ls, st, H) := by
  intro Hp locs arr hP hS hl hX
  obtain ⟨hx, hb, hml, hown, hts, -⟩ := hF
  unfold kIns at h
  dsimp only at h
  split at h
  · rename_i i k r
    split at h
    · rename_i v hv
      obtain rfl := kNx_inv h
      unfold aI at hv
      split at hv
      · rename_i n hs
        split at hv
        · cases hv
        · rename_i hin
          cases hv
          exact va_iald hx hb hK hP k 0 ((kW_get (shq_in hs (by omega)).1).trans (by rw [kcell_arr (shq_in hs (by omega)).2])) rfl hin hd (kk _ _ _ hP hS hl hX)
      · rename_i n hs
        split at hv
        · cases hv
        · rename_i hin
          cases hv
          obtain rfl := shq_4 hs
          have h1 := kk _ _ _ hP hS hl hX
          dsimp only at h1
          rw [hX.1] at h1
          rw [hX.2.1, nI_clamp (by have := hX.2.2; omega)] at hin
          exact va_sld hx hb hC.2.2.2.1 hC.2.2.2.2.1 hC.2.2.2.2.2.1 hS hin hd h1
      · cases hv
    · cases h
  · cases h
theorem klal_W (hF : kFC p s mi c args R m cells slots) (hK : va_K D vwCl [(cI, .int), (cL, .long)] s) (hd : decode (mbyt m) pc = .ok (.laload, 1)) (h : kIns m .laload pc ls st H = some a)
    (kk : kWt p l e R s mi args below meth c cells slots Q B ad D cI cL L xs m a) : kWt p l e R s mi args below meth c cells slots Q B ad D cI cL L xs m (pc, ls, st, H) := by
  intro Hp locs arr hP hS hl hX
  obtain ⟨hx, hb, hml, hown, hts, -⟩ := hF
  unfold kIns at h
  dsimp only at h
  split at h
  · rename_i i k r
    split at h
    · rename_i v hv
      obtain rfl := kNx_inv h
      unfold aL at hv
      split at hv
      · rename_i n hs
        split at hv
        · cases hv
        · rename_i hin
          cases hv
          exact va_lald hx hb hK hP k 1 ((kW_get (lt_nW (shp_in hs (by omega)))).trans (by rw [kcell_arL (shz_of hs (by decide))])) rfl hin hd (kk _ _ _ hP hS hl hX)
      · cases hv
    · cases h
  · cases h
theorem kbal_W (hF : kFC p s mi c args R m cells slots) (hC : kCF B ad L xs s s.heap) (hd : decode (mbyt m) pc = .ok (.baload, 1)) (h : kIns m .baload pc ls st H = some a)
    (kk : kWt p l e R s mi args below meth c cells slots Q B ad D cI cL L xs m a) : kWt p l e R s mi args below meth c cells slots Q B ad D cI cL L xs m (pc, ls, st, H) := by
  intro Hp locs arr hP hS hl hX
  obtain ⟨hx, hb, hml, hown, hts, -⟩ := hF
  unfold kIns at h
  dsimp only at h
  split at h
  · rename_i i k r
    split at h
    · rename_i v hv
      obtain rfl := kNx_inv h
      unfold aB at hv
      split at hv
      · rename_i hk
        subst hk
        split at hv
        · cases hv
        · rename_i hin
          cases hv
          obtain ⟨cell, t1, t2, t3, t4, t5, t6, t7⟩ := (hC.1.1 0 (by omega)).2.2.2
          have hlt : i.toNatClampNeg < 5 := Nat.not_le.mp fun q => hin (Or.inr q)
          have t4' : 5 ≤ cell.slots.size := t4
          exact W.bald (v := .int (kbs.getD i.toNatClampNeg 0)) hx hb (by rw [hS.2.1 _ (Array.getElem?_eq_some_iff.mp t1).1 t7]; exact t1) t2 t3 (fun z => hin (z.imp id (fun z => by omega))) (t6 _ hlt) rfl rfl hd (kk _ _ _ hP hS hl hX)
      · cases hv
    · cases h
  · cases h
theorem kias_W (hF : kFC p s mi c args R m cells slots) (hK : va_K D vwCl [(cI, .int), (cL, .long)] s) (hi : kInj B (nW H) ad) (hd : decode (mbyt m) pc = .ok (.iastore, 1)) (h : kIns m .iastore pc ls st H = some a)
    (kk : kWt p l e R s mi args below meth c cells slots Q B ad D cI cL L xs m a) : kWt p l e R s mi args below meth c cells slots Q B ad D cI cL L xs m (pc, ls, st, H) := by
  intro Hp locs arr hP hS hl hX
  obtain ⟨hx, hb, hml, hown, hts, -⟩ := hF
  unfold kIns at h
  dsimp only at h
  split at h
  · rename_i v i k r
    split at h
    · rename_i H' hv
      obtain rfl := kNx_inv h
      unfold sI at hv
      split at hv
      · rename_i n hs
        split at hv
        · cases hv
        · rename_i hin
          cases hv
          obtain ⟨hk, hz⟩ := shq_in hs (by omega)
          refine va_iast hx hb hK hP (kD hi) hS k 0 ((kW_get hk).trans (by rw [kcell_arr hz])) rfl hin hd (fun H1 locs1 hP1 hD1 hS1 => ?_)
          rw [kW_set (H' := uI H k i.toNatClampNeg v) hk rfl ?_ kcells_uI] at hP1
          · exact kk _ _ _ hP1 hS1 hl (kSc_uI hX (shq_38 hs))
          · rw [kcell_arr hz]
            congr 4
            funext j
            rw [hI_uI]
            simp [upd]
      · cases hv
    · cases h
  · cases h
theorem klas_W (hF : kFC p s mi c args R m cells slots) (hK : va_K D vwCl [(cI, .int), (cL, .long)] s) (hi : kInj B (nW H) ad) (hd : decode (mbyt m) pc = .ok (.lastore, 1)) (h : kIns m .lastore pc ls st H = some a)
    (kk : kWt p l e R s mi args below meth c cells slots Q B ad D cI cL L xs m a) : kWt p l e R s mi args below meth c cells slots Q B ad D cI cL L xs m (pc, ls, st, H) := by
  intro Hp locs arr hP hS hl hX
  obtain ⟨hx, hb, hml, hown, hts, -⟩ := hF
  unfold kIns at h
  dsimp only at h
  split at h
  · rename_i v i k r
    split at h
    · rename_i H' hv
      obtain rfl := kNx_inv h
      unfold sL at hv
      split at hv
      · rename_i n hs
        split at hv
        · cases hv
        · rename_i hin
          cases hv
          have hk := lt_nW (H := H) (shp_in hs (by omega))
          have hz := shz_of hs (by decide)
          refine va_last hx hb hK hP (kD hi) hS k 1 ((kW_get hk).trans (by rw [kcell_arL hz])) rfl hin hd (fun H1 locs1 hP1 hD1 hS1 => ?_)
          rw [kW_set (H' := uL H k i.toNatClampNeg v) hk rfl ?_ kcells_uL] at hP1
          · exact kk _ _ _ hP1 hS1 hl (kSc_upd hX (fun _ _ _ => rfl))
          · rw [kcell_arL hz]
            congr 5
            funext j
            rw [hL_uL]
            simp [vp_updL]
      · cases hv
    · cases h
  · cases h
theorem kCat_vR (r : List Value) : ((r.map (vR ad)).map fun v => v.category).sum = kCat r := by
  unfold kCat
  rw [List.map_map]
  congr 1
  exact List.map_congr_left (fun v _ => vR_cat ad v)
set_option maxRecDepth 100000 in
theorem kinv_W {ix : Nat} (hF : kFC p s mi c args R m cells slots) (hK : va_K D vwCl [(cI, .int), (cL, .long)] s) (hC : kCF B ad L xs s s.heap) (hi : kInj B (nW H) ad) (hd : decode (mbyt m) pc = .ok (.invokestatic ix, 3)) (h : kIns m (.invokestatic ix) pc ls st H = some a)
    (kk : kWt p l e R s mi args below meth c cells slots Q B ad D cI cL L xs m a) : kWt p l e R s mi args below meth c cells slots Q B ad D cI cL L xs m (pc, ls, st, H) := by
  intro Hp locs arr hP hS hl hX
  obtain ⟨hx, hb, hml, hown, hts, hfr, hlo, hce, hsl⟩ := hF
  change kSpc m ix pc ls st H = some a at h
  · unfold kSpc at h
    split at h
    · rename_i kd hkd
      obtain ⟨q, q1, q2, q3⟩ := kfind hkd
      simp only [Bool.and_eq_true, beq_iff_eq] at q2
      obtain ⟨q2, rfl⟩ := q2
      split at h
      · rename_i y x r
        split at h
        · rename_i hc
          obtain ⟨c1, c2, c3⟩ := hc
          obtain rfl := kNx_inv h
          have hsum : ((r.map (vR ad)).map fun v => v.category).sum ≤ 8 := by rw [kCat_vR]; exact c3
          rcases kT_mmx q q1 with ⟨z0, z1, z2, z3⟩ | ⟨z0, z1, z2, z3⟩
          · rw [q2] at z1
            have e0 : kd = 0 := q3.symm.trans z0
            subst e0
            refine va_mmax hx hb (by rw [hml, hl.1]) hown (hts _ (kAW_of z1 rfl)) (hts _ (kAW_of z2 rfl)) (hts _ (kAW_of kT_mini rfl)) (hts _ (kAW_of z3 rfl)) (by omega) (by omega) hce hsl hd ?_
            exact kk _ _ _ hP hS hl hX
          · rw [q2] at z1
            have e0 : kd = 1 := q3.symm.trans z0
            subst e0
            refine va_mmin hx hb (by rw [hml, hl.1]) hown (hts _ (kAW_of z1 rfl)) (hts _ (kAW_of z2 rfl)) (hts _ (kAW_of kT_mini rfl)) (hts _ (kAW_of z3 rfl)) (by omega) (by omega) hce hsl hd ?_
            exact kk _ _ _ hP hS hl hX
        · cases h
      · cases h
    · cases h
theorem kIns_W {i : Instr} (hF : kFC p s mi c args R m cells slots) (hK : va_K D vwCl [(cI, .int), (cL, .long)] s) (hC : kCF B ad L xs s s.heap) (hi : kInj B (nW H) ad) {len : Nat} (hd0 : decode (mbyt m) pc = .ok (i, len)) (hlen : len = kLen i len) (h : kIns m i pc ls st H = some a)
    (kk : kWt p l e R s mi args below meth c cells slots Q B ad D cI cL L xs m a) : kWt p l e R s mi args below meth c cells slots Q B ad D cI cL L xs m (pc, ls, st, H) := by
  intro Hp locs arr hP hS hl hX
  have hF0 := hF
  obtain ⟨hx, hb, hml, hown, hts, hfr, hlo, hce, hsl⟩ := hF0
  have hd : decode (mbyt m) pc = .ok (i, kLen i len) := hd0.trans (by rw [← hlen])
  show W p l e R s mi args below meth c Hp locs cells slots Q (F0 mi pc arr (st.map (vR ad)))
  cases i with
  | iconst n =>
    obtain rfl := kNx_inv h
    exact lv_iconst hx hb hd rfl (kk _ _ _ hP hS hl hX)
  | bipush n =>
    obtain rfl := kNx_inv h
    exact lv_bipush hx hb hd rfl (kk _ _ _ hP hS hl hX)
  | sipush n =>
    obtain rfl := kNx_inv h
    exact lv_sipush hx hb hd rfl (kk _ _ _ hP hS hl hX)
  | lconst n =>
    obtain rfl := kNx_inv h
    exact lv_lconst hx hb hd rfl (kk _ _ _ hP hS hl hX)
  | ldc ix =>
    unfold kIns at h
    dsimp only at h
    split at h
    · rename_i v hv
      obtain rfl := kNx_inv h
      obtain ⟨q, q1, q2, rfl⟩ := kfind hv
      simp only [Bool.and_eq_true, beq_iff_eq] at q2
      obtain ⟨q2, rfl⟩ := q2
      exact lv_ldc hx hb hown (hts _ (kAW_of (by rw [← q2]; exact kT_int q q1) rfl)) hd (kk _ _ _ hP hS hl hX)
    · split at h
      · rename_i hk
        obtain rfl := kNx_inv h
        have e1 : mow m = 1 := (Prod.mk.inj hk).1
        have e2 : ix = 35 := (Prod.mk.inj hk).2
        subst e2
        refine va_ldcS hx hb (own := "SneezeKing$Page") (tx := "psfdc") (by rw [e1] at hown; exact hown) hC.2.1 hd ?_
        exact kk _ _ _ hP hS hl hX
      · cases h
  | ldc_w ix =>
    unfold kIns at h
    dsimp only at h
    split at h
    · rename_i v hv
      obtain rfl := kNx_inv h
      obtain ⟨q, q1, q2, rfl⟩ := kfind hv
      simp only [Bool.and_eq_true, beq_iff_eq] at q2
      obtain ⟨q2, rfl⟩ := q2
      exact lv_ldcw hx hb hown (hts _ (kAW_of (by rw [← q2]; exact kT_int q q1) rfl)) hd (kk _ _ _ hP hS hl hX)
    · cases h
  | ldc2_w ix =>
    unfold kIns at h
    dsimp only at h
    split at h
    · rename_i v hv
      obtain rfl := kNx_inv h
      obtain ⟨q, q1, q2, rfl⟩ := kfind hv
      simp only [Bool.and_eq_true, beq_iff_eq] at q2
      obtain ⟨q2, rfl⟩ := q2
      exact lv_ldc2 hx hb hown (hts _ (kAW_of (by rw [← q2]; exact kT_lng q q1) rfl)) hd (kk _ _ _ hP hS hl hX)
    · cases h
  | iload_n k =>
    obtain ⟨x, e, rfl⟩ := kLdI_inv h
    exact lv_iload_n hx hb hd rfl (hl.2.2.2 _ _ e (fun z => (by cases z))) (kk _ _ _ hP hS hl hX)
  | iload k =>
    obtain ⟨x, e, rfl⟩ := kLdI_inv h
    exact lv_iload hx hb hd (hl.2.2.2 _ _ e (fun z => (by cases z))) (kk _ _ _ hP hS hl hX)
  | lload_n k =>
    obtain ⟨x, e, rfl⟩ := kLdL_inv h
    exact lv_lload_n hx hb hd rfl (hl.2.2.2 _ _ e (fun z => (by cases z))) (kk _ _ _ hP hS hl hX)
  | lload k =>
    obtain ⟨x, e, rfl⟩ := kLdL_inv h
    exact lv_lload hx hb hd (hl.2.2.2 _ _ e (fun z => (by cases z))) (kk _ _ _ hP hS hl hX)
  | aload_n k =>
    obtain ⟨x, e, rfl⟩ := kLdR_inv h
    exact lv_aload_n hx hb hd rfl (hl.2.2.2 _ _ e (fun z => (by cases z))) (kk _ _ _ hP hS hl hX)
  | aload k =>
    obtain ⟨x, e, rfl⟩ := kLdR_inv h
    exact lv_aload hx hb hd (hl.2.2.2 _ _ e (fun z => (by cases z))) (kk _ _ _ hP hS hl hX)
  | istore_n k =>
    obtain ⟨x, r, rfl, hlt, rfl⟩ := kSoI_inv h
    refine lv_istore_n hx hb hd rfl (kLR_has hl) hlt rfl (fun arr1 hl1 => ?_)
    exact kk _ _ _ hP hS (kLR_st1 hl hl1) hX
  | istore k =>
    obtain ⟨x, r, rfl, hlt, rfl⟩ := kSoI_inv h
    refine lv_istore hx hb hd (kLR_has hl) hlt rfl (fun arr1 hl1 => ?_)
    exact kk _ _ _ hP hS (kLR_st1 hl hl1) hX
  | lstore_n k =>
    obtain ⟨x, r, rfl, hlt, rfl⟩ := kSoL_inv h
    refine lv_lstore_n hx hb hd rfl (kLR_has hl) hlt rfl (fun arr1 hl1 => ?_)
    exact kk _ _ _ hP hS (kLR_st2 hl hl1) hX
  | lstore k =>
    obtain ⟨x, r, rfl, hlt, rfl⟩ := kSoL_inv h
    refine lv_lstore hx hb hd (kLR_has hl) hlt rfl (fun arr1 hl1 => ?_)
    exact kk _ _ _ hP hS (kLR_st2 hl hl1) hX
  | astore_n k =>
    obtain ⟨x, r, rfl, hlt, rfl⟩ := kSoR_inv h
    refine lv_astore_n hx hb hd rfl (kLR_has hl) hlt rfl (fun arr1 hl1 => ?_)
    exact kk _ _ _ hP hS (kLR_st1 hl hl1) hX
  | astore k =>
    obtain ⟨x, r, rfl, hlt, rfl⟩ := kSoR_inv h
    refine lv_astore hx hb hd (kLR_has hl) hlt rfl (fun arr1 hl1 => ?_)
    exact kk _ _ _ hP hS (kLR_st1 hl hl1) hX
  | iinc k n =>
    unfold kIns at h
    dsimp only at h
    split at h
    · rename_i x ex
      split at h
      · rename_i hlt
        obtain rfl := kNx_inv h
        obtain ⟨q, hq⟩ := List.getElem?_of_mem (kpr_in (ad := ad) ex (fun z => (by cases z)))
        refine lv_iinc hx hb hd (kLR_has hl) hq rfl hlt rfl (fun arr1 hl1 => ?_)
        exact kk _ _ _ hP hS (kLR_st1 hl hl1) hX
      · cases h
    · cases h
  | iadd =>
    obtain ⟨x, y, r, rfl, rfl⟩ := kB2_inv h
    exact lv_iadd hx hb hd (kk _ _ _ hP hS hl hX)
  | isub =>
    obtain ⟨x, y, r, rfl, rfl⟩ := kB2_inv h
    exact lv_isub hx hb hd (kk _ _ _ hP hS hl hX)
  | imul =>
    obtain ⟨x, y, r, rfl, rfl⟩ := kB2_inv h
    exact lv_imul hx hb hd (kk _ _ _ hP hS hl hX)
  | iand =>
    obtain ⟨x, y, r, rfl, rfl⟩ := kB2_inv h
    exact lv_iand hx hb hd (kk _ _ _ hP hS hl hX)
  | ior =>
    obtain ⟨x, y, r, rfl, rfl⟩ := kB2_inv h
    exact lv_ior hx hb hd (kk _ _ _ hP hS hl hX)
  | ixor =>
    obtain ⟨x, y, r, rfl, rfl⟩ := kB2_inv h
    exact lv_ixor hx hb hd (kk _ _ _ hP hS hl hX)
  | ishl =>
    obtain ⟨x, y, r, rfl, rfl⟩ := kB2_inv h
    exact lv_ishl hx hb hd (kk _ _ _ hP hS hl hX)
  | ishr =>
    obtain ⟨x, y, r, rfl, rfl⟩ := kB2_inv h
    exact lv_ishr hx hb hd (kk _ _ _ hP hS hl hX)
  | iushr =>
    obtain ⟨x, y, r, rfl, rfl⟩ := kB2_inv h
    exact lv_iushr hx hb hd rfl (kk _ _ _ hP hS hl hX)
  | ladd =>
    obtain ⟨x, y, r, rfl, rfl⟩ := kL2_inv h
    exact lv_ladd hx hb hd (kk _ _ _ hP hS hl hX)
  | lmul =>
    obtain ⟨x, y, r, rfl, rfl⟩ := kL2_inv h
    exact lv_lmul hx hb hd (kk _ _ _ hP hS hl hX)
  | land =>
    obtain ⟨x, y, r, rfl, rfl⟩ := kL2_inv h
    exact lv_land hx hb hd (kk _ _ _ hP hS hl hX)
  | lor =>
    obtain ⟨x, y, r, rfl, rfl⟩ := kL2_inv h
    exact lv_lor hx hb hd (kk _ _ _ hP hS hl hX)
  | lshl =>
    obtain ⟨x, y, r, rfl, rfl⟩ := kLS_inv h
    exact lv_lshl hx hb hd rfl (kk _ _ _ hP hS hl hX)
  | lshr =>
    obtain ⟨x, y, r, rfl, rfl⟩ := kLS_inv h
    exact lv_lshr hx hb hd rfl (kk _ _ _ hP hS hl hX)
  | idiv =>
    unfold kIns at h
    dsimp only at h
    split at h
    · split at h
      · cases h
      · rename_i h0
        obtain rfl := kNx_inv h
        exact lv_idiv hx hb hd h0 (kk _ _ _ hP hS hl hX)
    · cases h
  | irem =>
    unfold kIns at h
    dsimp only at h
    split at h
    · split at h
      · cases h
      · rename_i h0
        obtain rfl := kNx_inv h
        exact lv_irem hx hb hd h0 (kk _ _ _ hP hS hl hX)
    · cases h
  | ldiv =>
    unfold kIns at h
    dsimp only at h
    split at h
    · split at h
      · cases h
      · rename_i h0
        obtain rfl := kNx_inv h
        exact lv_ldiv hx hb hd h0 (kk _ _ _ hP hS hl hX)
    · cases h
  | lrem =>
    unfold kIns at h
    dsimp only at h
    split at h
    · split at h
      · cases h
      · rename_i h0
        obtain rfl := kNx_inv h
        exact lv_lrem hx hb hd h0 (kk _ _ _ hP hS hl hX)
    · cases h
  | lcmp =>
    unfold kIns at h
    dsimp only at h
    split at h
    · obtain rfl := kNx_inv h
      exact W.lcmp hx hb hd (kk _ _ _ hP hS hl hX)
    · cases h
  | i2l =>
    unfold kIns at h
    dsimp only at h
    split at h
    · obtain rfl := kNx_inv h
      exact lv_i2l hx hb hd rfl (kk _ _ _ hP hS hl hX)
    · cases h
  | l2i =>
    unfold kIns at h
    dsimp only at h
    split at h
    · obtain rfl := kNx_inv h
      exact lv_l2i hx hb hd rfl (kk _ _ _ hP hS hl hX)
    · cases h
  | i2c =>
    obtain ⟨x, r, rfl, rfl⟩ := kU1_inv h
    exact lv_i2c hx hb hd rfl (kk _ _ _ hP hS hl hX)
  | i2b =>
    obtain ⟨x, r, rfl, rfl⟩ := kU1_inv h
    exact lv_i2b hx hb hd rfl (kk _ _ _ hP hS hl hX)
  | dup =>
    unfold kIns at h
    dsimp only at h
    split at h
    · obtain rfl := kNx_inv h
      exact lv_dup hx hb hd rfl (kk _ _ _ hP hS hl hX)
    · obtain rfl := kNx_inv h
      exact lv_dup hx hb hd rfl (kk _ _ _ hP hS hl hX)
    · cases h
  | dup2 =>
    unfold kIns at h
    dsimp only at h
    split at h
    · obtain rfl := kNx_inv h
      exact lv_dup2_11 hx hb hd rfl rfl (kk _ _ _ hP hS hl hX)
    · cases h
  | pop =>
    unfold kIns at h
    dsimp only at h
    split at h
    · obtain rfl := kNx_inv h
      exact lv_pop hx hb hd rfl (kk _ _ _ hP hS hl hX)
    · cases h
  | goto off =>
    obtain ⟨h0, rfl⟩ := kGo_inv h
    exact lv_goto hx hb hd (Int.toNat_of_nonneg h0).symm (kk _ _ _ hP hS hl hX)
  | if_icmp d off =>
    unfold kIns kC2 at h
    dsimp only at h
    split at h
    · cases d
      all_goals dsimp only at h
      · rcases kBr_inv h with ⟨h0, ⟨hc, rfl⟩ | ⟨hc, rfl⟩⟩
        · exact lv_icmp_eq hx hb hd (Int.toNat_of_nonneg h0).symm (fun _ => kk _ _ _ hP hS hl hX) (fun z => absurd hc z)
        · exact lv_icmp_eq hx hb hd (Int.toNat_of_nonneg h0).symm (fun z => absurd z hc) (fun _ => kk _ _ _ hP hS hl hX)
      · rcases kBr_inv h with ⟨h0, ⟨hc, rfl⟩ | ⟨hc, rfl⟩⟩
        · exact lv_icmp_ne hx hb hd (Int.toNat_of_nonneg h0).symm (fun _ => kk _ _ _ hP hS hl hX) (fun z => absurd z hc)
        · exact lv_icmp_ne hx hb hd (Int.toNat_of_nonneg h0).symm (fun z => absurd z hc) (fun _ => kk _ _ _ hP hS hl hX)
      · rcases kBr_inv h with ⟨h0, ⟨hc, rfl⟩ | ⟨hc, rfl⟩⟩
        · exact lv_icmp_lt hx hb hd (Int.toNat_of_nonneg h0).symm (fun _ => kk _ _ _ hP hS hl hX) (fun z => absurd hc z)
        · exact lv_icmp_lt hx hb hd (Int.toNat_of_nonneg h0).symm (fun z => absurd z hc) (fun _ => kk _ _ _ hP hS hl hX)
      · rcases kBr_inv h with ⟨h0, ⟨hc, rfl⟩ | ⟨hc, rfl⟩⟩
        · exact lv_icmp_ge hx hb hd (Int.toNat_of_nonneg h0).symm (fun _ => kk _ _ _ hP hS hl hX) (fun z => absurd hc z)
        · exact lv_icmp_ge hx hb hd (Int.toNat_of_nonneg h0).symm (fun z => absurd z hc) (fun _ => kk _ _ _ hP hS hl hX)
      · rcases kBr_inv h with ⟨h0, ⟨hc, rfl⟩ | ⟨hc, rfl⟩⟩
        · exact lv_icmp_gt hx hb hd (Int.toNat_of_nonneg h0).symm (fun _ => kk _ _ _ hP hS hl hX) (fun z => absurd hc z)
        · exact lv_icmp_gt hx hb hd (Int.toNat_of_nonneg h0).symm (fun z => absurd z hc) (fun _ => kk _ _ _ hP hS hl hX)
      · rcases kBr_inv h with ⟨h0, ⟨hc, rfl⟩ | ⟨hc, rfl⟩⟩
        · exact lv_icmp_le hx hb hd (Int.toNat_of_nonneg h0).symm (fun _ => kk _ _ _ hP hS hl hX) (fun z => absurd hc z)
        · exact lv_icmp_le hx hb hd (Int.toNat_of_nonneg h0).symm (fun z => absurd z hc) (fun _ => kk _ _ _ hP hS hl hX)
    · cases h
  | ifCond d off =>
    unfold kIns kC1 at h
    dsimp only at h
    split at h
    · cases d
      all_goals dsimp only at h
      · rcases kBr_inv h with ⟨h0, ⟨hc, rfl⟩ | ⟨hc, rfl⟩⟩
        · exact lv_if_eq hx hb hd (Int.toNat_of_nonneg h0).symm (fun _ => kk _ _ _ hP hS hl hX) (fun z => absurd hc z)
        · exact lv_if_eq hx hb hd (Int.toNat_of_nonneg h0).symm (fun z => absurd z hc) (fun _ => kk _ _ _ hP hS hl hX)
      · rcases kBr_inv h with ⟨h0, ⟨hc, rfl⟩ | ⟨hc, rfl⟩⟩
        · exact lv_if_ne hx hb hd (Int.toNat_of_nonneg h0).symm (fun _ => kk _ _ _ hP hS hl hX) (fun z => absurd z hc)
        · exact lv_if_ne hx hb hd (Int.toNat_of_nonneg h0).symm (fun z => absurd z hc) (fun _ => kk _ _ _ hP hS hl hX)
      · rcases kBr_inv h with ⟨h0, ⟨hc, rfl⟩ | ⟨hc, rfl⟩⟩
        · exact lv_if_lt hx hb hd (Int.toNat_of_nonneg h0).symm (fun _ => kk _ _ _ hP hS hl hX) (fun z => absurd hc z)
        · exact lv_if_lt hx hb hd (Int.toNat_of_nonneg h0).symm (fun z => absurd z hc) (fun _ => kk _ _ _ hP hS hl hX)
      · rcases kBr_inv h with ⟨h0, ⟨hc, rfl⟩ | ⟨hc, rfl⟩⟩
        · exact lv_if_ge hx hb hd (Int.toNat_of_nonneg h0).symm (fun _ => kk _ _ _ hP hS hl hX) (fun z => absurd hc z)
        · exact lv_if_ge hx hb hd (Int.toNat_of_nonneg h0).symm (fun z => absurd z hc) (fun _ => kk _ _ _ hP hS hl hX)
      · rcases kBr_inv h with ⟨h0, ⟨hc, rfl⟩ | ⟨hc, rfl⟩⟩
        · exact lv_if_gt hx hb hd (Int.toNat_of_nonneg h0).symm (fun _ => kk _ _ _ hP hS hl hX) (fun z => absurd hc z)
        · exact lv_if_gt hx hb hd (Int.toNat_of_nonneg h0).symm (fun z => absurd z hc) (fun _ => kk _ _ _ hP hS hl hX)
      · rcases kBr_inv h with ⟨h0, ⟨hc, rfl⟩ | ⟨hc, rfl⟩⟩
        · exact lv_if_le hx hb hd (Int.toNat_of_nonneg h0).symm (fun _ => kk _ _ _ hP hS hl hX) (fun z => absurd hc z)
        · exact lv_if_le hx hb hd (Int.toNat_of_nonneg h0).symm (fun z => absurd z hc) (fun _ => kk _ _ _ hP hS hl hX)
    · cases h
  | tableswitch dflt lo hi offs =>
    unfold kIns at h
    dsimp only at h
    split at h
    · split at h
      · rename_i ho
        obtain ⟨h0, rfl⟩ := kGo_inv h
        exact lv_tableOut hx hb hd ho (Int.toNat_of_nonneg h0).symm (kk _ _ _ hP hS hl hX)
      · rename_i ho
        split at h
        · rename_i off eo
          obtain ⟨h0, rfl⟩ := kGo_inv h
          exact lv_tableIn hx hb hd (fun z => ho (Or.inl z)) (fun z => ho (Or.inr z)) eo (Int.toNat_of_nonneg h0).symm (kk _ _ _ hP hS hl hX)
        · cases h
    · cases h
  | getfield ix =>
    exact kget_W hF hK hC hd h kk _ _ _ hP hS hl hX
  | putfield ix =>
    exact kput_W hF hK hi hd h kk _ _ _ hP hS hl hX
  | getstatic ix =>
    unfold kIns at h
    dsimp only at h
    split at h
    · rename_i hk
      obtain rfl := kNx_inv h
      have e1 : mow m = kgs.1 := (Prod.mk.inj hk).1
      have e2 : ix = kgs.2.1 := (Prod.mk.inj hk).2
      subst e2
      rw [e1] at hown
      exact va_gets hx hb hC.2.2.1 hS hown (hts _ (kAW_of kT_gst rfl)) (fun _ z => z) hd (kk _ _ _ hP hS hl hX)
    · cases h
  | arraylength =>
    exact klen_W hF hK hC hd h kk _ _ _ hP hS hl hX
  | iaload =>
    exact kial_W hF hK hC hd h kk _ _ _ hP hS hl hX
  | laload =>
    exact klal_W hF hK hd h kk _ _ _ hP hS hl hX
  | baload =>
    exact kbal_W hF hC hd h kk _ _ _ hP hS hl hX
  | iastore =>
    exact kias_W hF hK hi hd h kk _ _ _ hP hS hl hX
  | lastore =>
    exact klas_W hF hK hi hd h kk _ _ _ hP hS hl hX
  | invokestatic ix =>
    exact kinv_W hF hK hC hi hd h kk _ _ _ hP hS hl hX
  | _ =>
    exact absurd h (fun z => (by cases z))
theorem kIns_R {i : Instr} (h : kIns m i pc ls st H = some a) : a.2.2.2.2.2 = H.2.2 := by
  cases i with
  | iconst n =>
    obtain rfl := kNx_inv h
    rfl
  | bipush n =>
    obtain rfl := kNx_inv h
    rfl
  | sipush n =>
    obtain rfl := kNx_inv h
    rfl
  | lconst n =>
    obtain rfl := kNx_inv h
    rfl
  | ldc ix =>
    unfold kIns at h
    dsimp only at h
    split at h
    · obtain rfl := kNx_inv h
      rfl
    · split at h
      · obtain rfl := kNx_inv h
        rfl
      · cases h
  | ldc_w ix =>
    unfold kIns at h
    dsimp only at h
    split at h
    · obtain rfl := kNx_inv h
      rfl
    · cases h
  | ldc2_w ix =>
    unfold kIns at h
    dsimp only at h
    split at h
    · obtain rfl := kNx_inv h
      rfl
    · cases h
  | iload_n k =>
    obtain ⟨x, e, rfl⟩ := kLdI_inv h
    rfl
  | iload k =>
    obtain ⟨x, e, rfl⟩ := kLdI_inv h
    rfl
  | lload_n k =>
    obtain ⟨x, e, rfl⟩ := kLdL_inv h
    rfl
  | lload k =>
    obtain ⟨x, e, rfl⟩ := kLdL_inv h
    rfl
  | aload_n k =>
    obtain ⟨x, e, rfl⟩ := kLdR_inv h
    rfl
  | aload k =>
    obtain ⟨x, e, rfl⟩ := kLdR_inv h
    rfl
  | istore_n k =>
    obtain ⟨x, r, rfl, hlt, rfl⟩ := kSoI_inv h
    rfl
  | istore k =>
    obtain ⟨x, r, rfl, hlt, rfl⟩ := kSoI_inv h
    rfl
  | lstore_n k =>
    obtain ⟨x, r, rfl, hlt, rfl⟩ := kSoL_inv h
    rfl
  | lstore k =>
    obtain ⟨x, r, rfl, hlt, rfl⟩ := kSoL_inv h
    rfl
  | astore_n k =>
    obtain ⟨x, r, rfl, hlt, rfl⟩ := kSoR_inv h
    rfl
  | astore k =>
    obtain ⟨x, r, rfl, hlt, rfl⟩ := kSoR_inv h
    rfl
  | iinc k n =>
    unfold kIns at h
    dsimp only at h
    split at h
    · split at h
      · obtain rfl := kNx_inv h
        rfl
      · cases h
    · cases h
  | iadd =>
    obtain ⟨x, y, r, rfl, rfl⟩ := kB2_inv h
    rfl
  | isub =>
    obtain ⟨x, y, r, rfl, rfl⟩ := kB2_inv h
    rfl
  | imul =>
    obtain ⟨x, y, r, rfl, rfl⟩ := kB2_inv h
    rfl
  | iand =>
    obtain ⟨x, y, r, rfl, rfl⟩ := kB2_inv h
    rfl
  | ior =>
    obtain ⟨x, y, r, rfl, rfl⟩ := kB2_inv h
    rfl
  | ixor =>
    obtain ⟨x, y, r, rfl, rfl⟩ := kB2_inv h
    rfl
  | ishl =>
    obtain ⟨x, y, r, rfl, rfl⟩ := kB2_inv h
    rfl
  | ishr =>
    obtain ⟨x, y, r, rfl, rfl⟩ := kB2_inv h
    rfl
  | iushr =>
    obtain ⟨x, y, r, rfl, rfl⟩ := kB2_inv h
    rfl
  | ladd =>
    obtain ⟨x, y, r, rfl, rfl⟩ := kL2_inv h
    rfl
  | lmul =>
    obtain ⟨x, y, r, rfl, rfl⟩ := kL2_inv h
    rfl
  | land =>
    obtain ⟨x, y, r, rfl, rfl⟩ := kL2_inv h
    rfl
  | lor =>
    obtain ⟨x, y, r, rfl, rfl⟩ := kL2_inv h
    rfl
  | lshl =>
    obtain ⟨x, y, r, rfl, rfl⟩ := kLS_inv h
    rfl
  | lshr =>
    obtain ⟨x, y, r, rfl, rfl⟩ := kLS_inv h
    rfl
  | idiv =>
    unfold kIns at h
    dsimp only at h
    split at h
    · split at h
      · cases h
      · obtain rfl := kNx_inv h
        rfl
    · cases h
  | irem =>
    unfold kIns at h
    dsimp only at h
    split at h
    · split at h
      · cases h
      · obtain rfl := kNx_inv h
        rfl
    · cases h
  | ldiv =>
    unfold kIns at h
    dsimp only at h
    split at h
    · split at h
      · cases h
      · obtain rfl := kNx_inv h
        rfl
    · cases h
  | lrem =>
    unfold kIns at h
    dsimp only at h
    split at h
    · split at h
      · cases h
      · obtain rfl := kNx_inv h
        rfl
    · cases h
  | lcmp =>
    unfold kIns at h
    dsimp only at h
    split at h
    · obtain rfl := kNx_inv h
      rfl
    · cases h
  | i2l =>
    unfold kIns at h
    dsimp only at h
    split at h
    · obtain rfl := kNx_inv h
      rfl
    · cases h
  | l2i =>
    unfold kIns at h
    dsimp only at h
    split at h
    · obtain rfl := kNx_inv h
      rfl
    · cases h
  | i2c =>
    obtain ⟨x, r, rfl, rfl⟩ := kU1_inv h
    rfl
  | i2b =>
    obtain ⟨x, r, rfl, rfl⟩ := kU1_inv h
    rfl
  | dup =>
    unfold kIns at h
    dsimp only at h
    split at h
    · obtain rfl := kNx_inv h
      rfl
    · obtain rfl := kNx_inv h
      rfl
    · cases h
  | dup2 =>
    unfold kIns at h
    dsimp only at h
    split at h
    · obtain rfl := kNx_inv h
      rfl
    · cases h
  | pop =>
    unfold kIns at h
    dsimp only at h
    split at h
    · obtain rfl := kNx_inv h
      rfl
    · cases h
  | goto off =>
    obtain ⟨h0, rfl⟩ := kGo_inv h
    rfl
  | if_icmp d off =>
    unfold kIns kC2 at h
    dsimp only at h
    split at h
    · cases d
      all_goals
        dsimp only at h
        rcases kBr_inv h with ⟨h0, ⟨hc, rfl⟩ | ⟨hc, rfl⟩⟩ <;> rfl
    · cases h
  | ifCond d off =>
    unfold kIns kC1 at h
    dsimp only at h
    split at h
    · cases d
      all_goals
        dsimp only at h
        rcases kBr_inv h with ⟨h0, ⟨hc, rfl⟩ | ⟨hc, rfl⟩⟩ <;> rfl
    · cases h
  | tableswitch dflt lo hi offs =>
    unfold kIns at h
    dsimp only at h
    split at h
    · split at h
      · obtain ⟨h0, rfl⟩ := kGo_inv h
        rfl
      · split at h
        · obtain ⟨h0, rfl⟩ := kGo_inv h
          rfl
        · cases h
    · cases h
  | getfield ix =>
    unfold kIns at h
    dsimp only at h
    split at h
    · split at h
      · obtain rfl := kNx_inv h
        rfl
      · cases h
    · cases h
  | putfield ix =>
    unfold kIns at h
    dsimp only at h
    split at h
    · split at h
      · rename_i H1 hv
        obtain rfl := kNx_inv h
        unfold pf at hv
        split at hv
        · split at hv
          · cases hv
            rfl
          · split at hv
            · cases hv
              rfl
            · cases hv
          · cases hv
            rfl
          · cases hv
        · cases hv
      · cases h
    · cases h
  | getstatic ix =>
    unfold kIns at h
    dsimp only at h
    split at h
    · obtain rfl := kNx_inv h
      rfl
    · cases h
  | arraylength =>
    unfold kIns at h
    dsimp only at h
    split at h
    · split at h
      · obtain rfl := kNx_inv h
        rfl
      · cases h
    · cases h
  | iaload =>
    unfold kIns at h
    dsimp only at h
    split at h
    · split at h
      · obtain rfl := kNx_inv h
        rfl
      · cases h
    · cases h
  | laload =>
    unfold kIns at h
    dsimp only at h
    split at h
    · split at h
      · obtain rfl := kNx_inv h
        rfl
      · cases h
    · cases h
  | baload =>
    unfold kIns at h
    dsimp only at h
    split at h
    · split at h
      · obtain rfl := kNx_inv h
        rfl
      · cases h
    · cases h
  | iastore =>
    unfold kIns at h
    dsimp only at h
    split at h
    · split at h
      · rename_i H1 hv
        obtain rfl := kNx_inv h
        unfold sI at hv
        split at hv
        · split at hv
          · cases hv
          · cases hv
            rfl
        · cases hv
      · cases h
    · cases h
  | lastore =>
    unfold kIns at h
    dsimp only at h
    split at h
    · split at h
      · rename_i H1 hv
        obtain rfl := kNx_inv h
        unfold sL at hv
        split at hv
        · split at hv
          · cases hv
          · cases hv
            rfl
        · cases hv
      · cases h
    · cases h
  | invokestatic ix =>
    unfold kIns at h
    dsimp only at h
    unfold kSpc at h
    split at h
    · split at h
      · split at h
        · obtain rfl := kNx_inv h
          rfl
        · cases h
      · cases h
    · cases h
  | _ =>
    exact absurd h (fun z => (by cases z))

end KST
