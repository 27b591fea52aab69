/-! steps of the abstract machine, a row an instruction -/
section KGL
variable {m pc : Nat} {ls st : List Value} {H : kH}
theorem g_nx {len pc' : Nat} {i : Instr} {ls' st' : List Value} {H' : kH} (hd : decode (mbyt m) pc = .ok (i, len)) (hl : len = kLen i len) (h : kIns2 m i pc ls st H = some (.inl (pc', ls', st', H'))) : ev m pc ls st H = ev m pc' ls' st' H' := ev_next ((kStp_of hd hl).trans h)
theorem g_no {len : Nat} {i : Instr} (hd : decode (mbyt m) pc = .ok (i, len)) (hl : len = kLen i len) (h : kIns2 m i pc ls st H = none) : ev m pc ls st H = none := ev_none ((kStp_of hd hl).trans h)
theorem g_istore_n {k : Fin 4} {x : Int32} {ls' : List Value} (hd : decode (mbyt m) pc = .ok (.istore_n k, 1)) (hi : (k : Nat) < mnL m) (e : kSt1 ls k (.int x) = ls') : ev m pc ls (.int x :: st) H = ev m (pc + 1) ls' st H := by
  refine g_nx hd rfl ?_
  show ((kSoI m ls k (pc + 1) (.int x :: st) H).map Sum.inl : Option kO) = _
  unfold kSoI
  dsimp only
  rw [if_pos hi, e]
  rfl
theorem g_istore {k : Nat} {x : Int32} {ls' : List Value} (hd : decode (mbyt m) pc = .ok (.istore k, 2)) (hi : k < mnL m) (e : kSt1 ls k (.int x) = ls') : ev m pc ls (.int x :: st) H = ev m (pc + 2) ls' st H := by
  refine g_nx hd rfl ?_
  show ((kSoI m ls k (pc + 2) (.int x :: st) H).map Sum.inl : Option kO) = _
  unfold kSoI
  dsimp only
  rw [if_pos hi, e]
  rfl
theorem g_astore_n {k : Fin 4} {x : Nat} {ls' : List Value} (hd : decode (mbyt m) pc = .ok (.astore_n k, 1)) (hi : (k : Nat) < mnL m) (e : kSt1 ls k (.ref x) = ls') : ev m pc ls (.ref x :: st) H = ev m (pc + 1) ls' st H := by
  refine g_nx hd rfl ?_
  show ((kSoR m ls k (pc + 1) (.ref x :: st) H).map Sum.inl : Option kO) = _
  unfold kSoR
  dsimp only
  rw [if_pos hi, e]
  rfl
theorem g_lstore_n {k : Fin 4} {x : Int64} {ls' : List Value} (hd : decode (mbyt m) pc = .ok (.lstore_n k, 1)) (hi : (k : Nat) + 1 < mnL m) (e : kSt2 ls k (.long x) = ls') : ev m pc ls (.long x :: st) H = ev m (pc + 1) ls' st H := by
  refine g_nx hd rfl ?_
  show ((kSoL m ls k (pc + 1) (.long x :: st) H).map Sum.inl : Option kO) = _
  unfold kSoL
  dsimp only
  rw [if_pos hi, e]
  rfl
theorem g_lstore {k : Nat} {x : Int64} {ls' : List Value} (hd : decode (mbyt m) pc = .ok (.lstore k, 2)) (hi : k + 1 < mnL m) (e : kSt2 ls k (.long x) = ls') : ev m pc ls (.long x :: st) H = ev m (pc + 2) ls' st H := by
  refine g_nx hd rfl ?_
  show ((kSoL m ls k (pc + 2) (.long x :: st) H).map Sum.inl : Option kO) = _
  unfold kSoL
  dsimp only
  rw [if_pos hi, e]
  rfl
theorem g_iinc {k : Nat} {n : Int} {x y : Int32} {ls' : List Value} (hd : decode (mbyt m) pc = .ok (.iinc k n, 3)) (hi : k < mnL m) (hx : ls[k]? = some (.int x)) (hy : x + Int32.ofInt n = y) (e : kSt1 ls k (.int y) = ls') : ev m pc ls st H = ev m (pc + 3) ls' st H := by
  refine g_nx hd rfl ?_
  show ((match ls[k]? with | some (.int x) => if k < mnL m then kNx (pc + 3) (kSt1 ls k (.int (x + Int32.ofInt n))) st H else none | _ => none).map Sum.inl : Option kO) = _
  rw [hx]
  dsimp only
  rw [if_pos hi, hy, e]
  rfl
theorem g_ldc {ix : Nat} {v : Int32} (hd : decode (mbyt m) pc = .ok (.ldc ix, 2)) (h : cpI (mow m) ix = some v) : ev m pc ls st H = ev m (pc + 2) ls (.int v :: st) H := by
  refine g_nx hd rfl ?_
  show ((match cpI (mow m) ix with | some v => kP (pc + 2) ls st H v | none => if (mow m, ix) = kst then kNx (pc + 2) ls (.ref 39 :: st) H else none).map Sum.inl : Option kO) = _
  rw [h]
  rfl
theorem g_ldcS {ix : Nat} (hd : decode (mbyt m) pc = .ok (.ldc ix, 2)) (h : cpI (mow m) ix = none) (h2 : (mow m, ix) = kst) : ev m pc ls st H = ev m (pc + 2) ls (.ref 39 :: st) H := by
  refine g_nx hd rfl ?_
  show ((match cpI (mow m) ix with | some v => kP (pc + 2) ls st H v | none => if (mow m, ix) = kst then kNx (pc + 2) ls (.ref 39 :: st) H else none).map Sum.inl : Option kO) = _
  rw [h]
  dsimp only
  rw [if_pos h2]
  rfl
theorem g_ldcw {ix : Nat} {v : Int32} (hd : decode (mbyt m) pc = .ok (.ldc_w ix, 3)) (h : cpI (mow m) ix = some v) : ev m pc ls st H = ev m (pc + 3) ls (.int v :: st) H := by
  refine g_nx hd rfl ?_
  show ((match cpI (mow m) ix with | some v => kP (pc + 3) ls st H v | none => none).map Sum.inl : Option kO) = _
  rw [h]
  rfl
theorem g_ldc2 {ix : Nat} {v : Int64} (hd : decode (mbyt m) pc = .ok (.ldc2_w ix, 3)) (h : cpL (mow m) ix = some v) : ev m pc ls st H = ev m (pc + 3) ls (.long v :: st) H := by
  refine g_nx hd rfl ?_
  show ((match cpL (mow m) ix with | some v => kNx (pc + 3) ls (.long v :: st) H | none => none).map Sum.inl : Option kO) = _
  rw [h]
  rfl
theorem g_gets {ix : Nat} (hd : decode (mbyt m) pc = .ok (.getstatic ix, 3)) (h : (mow m, ix) = (kgs.1, kgs.2.1)) : ev m pc ls st H = ev m (pc + 3) ls (.int 1 :: st) H := by
  refine g_nx hd rfl ?_
  show ((if (mow m, ix) = (kgs.1, kgs.2.1) then kP (pc + 3) ls st H 1 else none).map Sum.inl : Option kO) = _
  rw [if_pos h]
  rfl
theorem g_get {ix k c f : Nat} {v : Value} (hd : decode (mbyt m) pc = .ok (.getfield ix, 3)) (h : cpF (mow m) ix = some (c, f)) (hv : gf H k c f = some v) : ev m pc ls (.ref k :: st) H = ev m (pc + 3) ls (v :: st) H := by
  refine g_nx hd rfl ?_
  unfold kIns2 kIns
  dsimp only
  rw [h]
  dsimp only
  rw [hv]
  rfl
theorem g_put {ix k c f : Nat} {v : Value} {H' : kH} (hd : decode (mbyt m) pc = .ok (.putfield ix, 3)) (h : cpF (mow m) ix = some (c, f)) (hv : pf H k c f v = some H') : ev m pc ls (v :: .ref k :: st) H = ev m (pc + 3) ls st H' := by
  refine g_nx hd rfl ?_
  unfold kIns2 kIns
  dsimp only
  rw [h]
  dsimp only
  rw [hv]
  rfl
theorem g_putZ {ix k c f : Nat} {x : Int32} {H' : kH} (hd : decode (mbyt m) pc = .ok (.putfield ix, 3)) (h : cpF (mow m) ix = some (c, f)) (hv : pf H k c f (.int x) = if x = 0 ∨ x = 1 then some H' else none) : ev m pc ls (.int x :: .ref k :: st) H = if x = 0 ∨ x = 1 then ev m (pc + 3) ls st H' else none := by
  by_cases hx : x = 0 ∨ x = 1
  · rw [if_pos hx] at hv ⊢
    exact g_put hd h hv
  · rw [if_neg hx] at hv ⊢
    refine g_no hd rfl ?_
    unfold kIns2 kIns
    dsimp only
    rw [h]
    dsimp only
    rw [hv]
    rfl
theorem gf_i {k c f : Nat} (hs : shp k = (0, c)) (h9 : c ≠ 9) (hf : fki c f = 0) : gf H k c f = some (.int (hI H k f)) := by
  unfold gf
  rw [if_neg h9, if_pos hs, hf]
  rfl
theorem gf_z {k c f : Nat} (hs : shp k = (0, c)) (h9 : c ≠ 9) (hf : fki c f = 1) : gf H k c f = some (.int (hI H k f)) := by
  unfold gf
  rw [if_neg h9, if_pos hs, hf]
  rfl
theorem gf_l {k c f : Nat} (hs : shp k = (0, c)) (h9 : c ≠ 9) (hf : fki c f = 2) : gf H k c f = some (.long (hL H k f)) := by
  unfold gf
  rw [if_neg h9, if_pos hs, hf]
  rfl
theorem gf_s {k c f t : Nat} (hs : shp k = (0, c)) (h9 : c ≠ 9) (hf : fki c f = 3) (ht : sref k f = t) : gf H k c f = some (.ref t) := by
  unfold gf
  rw [if_neg h9, if_pos hs, hf, ← ht]
  rfl
theorem pf_i {k c f : Nat} {x : Int32} (hs : shp k = (0, c)) (hk : k < 30) (hf : fki c f = 0) : pf H k c f (.int x) = some (uI H k f x) := by
  unfold pf
  rw [if_pos ⟨hs, hk⟩, hf]
  rfl
theorem pf_z {k c f : Nat} {x : Int32} (hs : shp k = (0, c)) (hk : k < 30) (hf : fki c f = 1) : pf H k c f (.int x) = if x = 0 ∨ x = 1 then some (uI H k f x) else none := by
  unfold pf
  rw [if_pos ⟨hs, hk⟩, hf]
  rfl
theorem pf_l {k c f : Nat} {x : Int64} (hs : shp k = (0, c)) (hk : k < 30) (hf : fki c f = 2) : pf H k c f (.long x) = some (uL H k f x) := by
  unfold pf
  rw [if_pos ⟨hs, hk⟩, hf]
  rfl
theorem g_len {k : Nat} {v : Int32} (hd : decode (mbyt m) pc = .ok (.arraylength, 1)) (hv : alen H k = some v) : ev m pc ls (.ref k :: st) H = ev m (pc + 1) ls (.int v :: st) H := by
  refine g_nx hd rfl ?_
  unfold kIns2 kIns
  dsimp only
  rw [hv]
  rfl
theorem alen_1 {k n : Nat} (hs : shq H k = (1, n)) : alen H k = some (Int32.ofNat n) := by
  unfold alen
  rw [hs]
  rfl
theorem alen_2 {k n : Nat} (hs : shq H k = (2, n)) : alen H k = some (Int32.ofNat n) := by
  unfold alen
  rw [hs]
  rfl
theorem g_iald {k n : Nat} {i : Int32} (hd : decode (mbyt m) pc = .ok (.iaload, 1)) (hs : shq H k = (1, n)) : ev m pc ls (.int i :: .ref k :: st) H = if i < 0 ∨ n ≤ i.toNatClampNeg then none else ev m (pc + 1) ls (.int (hI H k i.toNatClampNeg) :: st) H := by
  have e : aI H k i = if i < 0 ∨ n ≤ i.toNatClampNeg then none else some (hI H k i.toNatClampNeg) := by
    unfold aI
    rw [hs]
    rfl
  by_cases hc : i < 0 ∨ n ≤ i.toNatClampNeg
  · rw [if_pos hc] at e ⊢
    refine g_no hd rfl ?_
    unfold kIns2 kIns
    dsimp only
    rw [e]
    rfl
  · rw [if_neg hc] at e ⊢
    refine g_nx hd rfl ?_
    unfold kIns2 kIns
    dsimp only
    rw [e]
    rfl
theorem g_iasc {i : Int32} (hd : decode (mbyt m) pc = .ok (.iaload, 1)) : ev m pc ls (.int i :: .ref 38 :: st) H = if i < 0 ∨ (hI H 41 0).toNatClampNeg ≤ i.toNatClampNeg then none else ev m (pc + 1) ls (.int (hI H 38 i.toNatClampNeg) :: st) H := by
  have e : aI H 38 i = if i < 0 ∨ (hI H 41 0).toNatClampNeg ≤ i.toNatClampNeg then none else some (hI H 38 i.toNatClampNeg) := rfl
  by_cases hc : i < 0 ∨ (hI H 41 0).toNatClampNeg ≤ i.toNatClampNeg
  · rw [if_pos hc] at e ⊢
    refine g_no hd rfl ?_
    unfold kIns2 kIns
    dsimp only
    rw [e]
    rfl
  · rw [if_neg hc] at e ⊢
    refine g_nx hd rfl ?_
    unfold kIns2 kIns
    dsimp only
    rw [e]
    rfl
theorem g_lald {k n : Nat} {i : Int32} (hd : decode (mbyt m) pc = .ok (.laload, 1)) (hs : shp k = (2, n)) : ev m pc ls (.int i :: .ref k :: st) H = if i < 0 ∨ n ≤ i.toNatClampNeg then none else ev m (pc + 1) ls (.long (hL H k i.toNatClampNeg) :: st) H := by
  have e : aL H k i = if i < 0 ∨ n ≤ i.toNatClampNeg then none else some (hL H k i.toNatClampNeg) := by
    unfold aL
    rw [hs]
    rfl
  by_cases hc : i < 0 ∨ n ≤ i.toNatClampNeg
  · rw [if_pos hc] at e ⊢
    refine g_no hd rfl ?_
    unfold kIns2 kIns
    dsimp only
    rw [e]
    rfl
  · rw [if_neg hc] at e ⊢
    refine g_nx hd rfl ?_
    unfold kIns2 kIns
    dsimp only
    rw [e]
    rfl
theorem g_bald {i : Int32} (hd : decode (mbyt m) pc = .ok (.baload, 1)) : ev m pc ls (.int i :: .ref 40 :: st) H = if i < 0 ∨ 5 ≤ i.toNatClampNeg then none else ev m (pc + 1) ls (.int (kbs.getD i.toNatClampNeg 0) :: st) H := by
  have e : aB 40 i = if i < 0 ∨ 5 ≤ i.toNatClampNeg then none else some (kbs.getD i.toNatClampNeg 0) := rfl
  by_cases hc : i < 0 ∨ 5 ≤ i.toNatClampNeg
  · rw [if_pos hc] at e ⊢
    refine g_no hd rfl ?_
    unfold kIns2 kIns
    dsimp only
    rw [e]
    rfl
  · rw [if_neg hc] at e ⊢
    refine g_nx hd rfl ?_
    unfold kIns2 kIns
    dsimp only
    rw [e]
    rfl
theorem g_iast {k n : Nat} {i v : Int32} (hd : decode (mbyt m) pc = .ok (.iastore, 1)) (hs : shq H k = (1, n)) : ev m pc ls (.int v :: .int i :: .ref k :: st) H = if i < 0 ∨ n ≤ i.toNatClampNeg then none else ev m (pc + 1) ls st (uI H k i.toNatClampNeg v) := by
  have e : sI H k i v = if i < 0 ∨ n ≤ i.toNatClampNeg then none else some (uI H k i.toNatClampNeg v) := by
    unfold sI
    rw [hs]
    rfl
  by_cases hc : i < 0 ∨ n ≤ i.toNatClampNeg
  · rw [if_pos hc] at e ⊢
    refine g_no hd rfl ?_
    unfold kIns2 kIns
    dsimp only
    rw [e]
    rfl
  · rw [if_neg hc] at e ⊢
    refine g_nx hd rfl ?_
    unfold kIns2 kIns
    dsimp only
    rw [e]
    rfl
theorem g_last {k n : Nat} {i : Int32} {v : Int64} (hd : decode (mbyt m) pc = .ok (.lastore, 1)) (hs : shp k = (2, n)) : ev m pc ls (.long v :: .int i :: .ref k :: st) H = if i < 0 ∨ n ≤ i.toNatClampNeg then none else ev m (pc + 1) ls st (uL H k i.toNatClampNeg v) := by
  have e : sL H k i v = if i < 0 ∨ n ≤ i.toNatClampNeg then none else some (uL H k i.toNatClampNeg v) := by
    unfold sL
    rw [hs]
    rfl
  by_cases hc : i < 0 ∨ n ≤ i.toNatClampNeg
  · rw [if_pos hc] at e ⊢
    refine g_no hd rfl ?_
    unfold kIns2 kIns
    dsimp only
    rw [e]
    rfl
  · rw [if_neg hc] at e ⊢
    refine g_nx hd rfl ?_
    unfold kIns2 kIns
    dsimp only
    rw [e]
    rfl
theorem g_br {len tgt : Nat} {i : Instr} {off : Int} {q : Prop} [Decidable q] (hd : decode (mbyt m) pc = .ok (i, len)) (hl : len = kLen i len) {st' : List Value} (hI : kIns2 m i pc ls st H = (kBr q pc off ls st' H).map Sum.inl) (ht : (pc : Int) + off = (tgt : Int)) : ev m pc ls st H = if q then ev m tgt ls st' H else ev m (pc + 3) ls st' H := by
  have e : kBr q pc off ls st' H = if q then kNx tgt ls st' H else kNx (pc + 3) ls st' H := by
    unfold kBr
    rw [if_pos (by omega), ht]
    rfl
  rw [e] at hI
  by_cases hq : q
  · rw [if_pos hq] at hI ⊢
    exact g_nx hd hl hI
  · rw [if_neg hq] at hI ⊢
    exact g_nx hd hl hI
theorem g_icmp_eq {tgt : Nat} {off : Int} {x y : Int32} (hd : decode (mbyt m) pc = .ok (.if_icmp .eq off, 3)) (ht : (pc : Int) + off = (tgt : Int)) : ev m pc ls (.int y :: .int x :: st) H = if x = y then ev m tgt ls st H else ev m (pc + 3) ls st H := g_br (off := off) (q := x = y) (st' := st) hd rfl rfl ht
theorem g_if_eq {tgt : Nat} {off : Int} {x : Int32} (hd : decode (mbyt m) pc = .ok (.ifCond .eq off, 3)) (ht : (pc : Int) + off = (tgt : Int)) : ev m pc ls (.int x :: st) H = if x = 0 then ev m tgt ls st H else ev m (pc + 3) ls st H := g_br (off := off) (q := x = 0) (st' := st) hd rfl rfl ht
theorem g_icmp_ne {tgt : Nat} {off : Int} {x y : Int32} (hd : decode (mbyt m) pc = .ok (.if_icmp .ne off, 3)) (ht : (pc : Int) + off = (tgt : Int)) : ev m pc ls (.int y :: .int x :: st) H = if ¬ x = y then ev m tgt ls st H else ev m (pc + 3) ls st H := g_br (off := off) (q := ¬ x = y) (st' := st) hd rfl rfl ht
theorem g_if_ne {tgt : Nat} {off : Int} {x : Int32} (hd : decode (mbyt m) pc = .ok (.ifCond .ne off, 3)) (ht : (pc : Int) + off = (tgt : Int)) : ev m pc ls (.int x :: st) H = if ¬ x = 0 then ev m tgt ls st H else ev m (pc + 3) ls st H := g_br (off := off) (q := ¬ x = 0) (st' := st) hd rfl rfl ht
theorem g_icmp_lt {tgt : Nat} {off : Int} {x y : Int32} (hd : decode (mbyt m) pc = .ok (.if_icmp .lt off, 3)) (ht : (pc : Int) + off = (tgt : Int)) : ev m pc ls (.int y :: .int x :: st) H = if x < y then ev m tgt ls st H else ev m (pc + 3) ls st H := g_br (off := off) (q := x < y) (st' := st) hd rfl rfl ht
theorem g_if_lt {tgt : Nat} {off : Int} {x : Int32} (hd : decode (mbyt m) pc = .ok (.ifCond .lt off, 3)) (ht : (pc : Int) + off = (tgt : Int)) : ev m pc ls (.int x :: st) H = if x < 0 then ev m tgt ls st H else ev m (pc + 3) ls st H := g_br (off := off) (q := x < 0) (st' := st) hd rfl rfl ht
theorem g_icmp_ge {tgt : Nat} {off : Int} {x y : Int32} (hd : decode (mbyt m) pc = .ok (.if_icmp .ge off, 3)) (ht : (pc : Int) + off = (tgt : Int)) : ev m pc ls (.int y :: .int x :: st) H = if y ≤ x then ev m tgt ls st H else ev m (pc + 3) ls st H := g_br (off := off) (q := y ≤ x) (st' := st) hd rfl rfl ht
theorem g_if_ge {tgt : Nat} {off : Int} {x : Int32} (hd : decode (mbyt m) pc = .ok (.ifCond .ge off, 3)) (ht : (pc : Int) + off = (tgt : Int)) : ev m pc ls (.int x :: st) H = if 0 ≤ x then ev m tgt ls st H else ev m (pc + 3) ls st H := g_br (off := off) (q := 0 ≤ x) (st' := st) hd rfl rfl ht
theorem g_icmp_gt {tgt : Nat} {off : Int} {x y : Int32} (hd : decode (mbyt m) pc = .ok (.if_icmp .gt off, 3)) (ht : (pc : Int) + off = (tgt : Int)) : ev m pc ls (.int y :: .int x :: st) H = if y < x then ev m tgt ls st H else ev m (pc + 3) ls st H := g_br (off := off) (q := y < x) (st' := st) hd rfl rfl ht
theorem g_if_gt {tgt : Nat} {off : Int} {x : Int32} (hd : decode (mbyt m) pc = .ok (.ifCond .gt off, 3)) (ht : (pc : Int) + off = (tgt : Int)) : ev m pc ls (.int x :: st) H = if 0 < x then ev m tgt ls st H else ev m (pc + 3) ls st H := g_br (off := off) (q := 0 < x) (st' := st) hd rfl rfl ht
theorem g_icmp_le {tgt : Nat} {off : Int} {x y : Int32} (hd : decode (mbyt m) pc = .ok (.if_icmp .le off, 3)) (ht : (pc : Int) + off = (tgt : Int)) : ev m pc ls (.int y :: .int x :: st) H = if x ≤ y then ev m tgt ls st H else ev m (pc + 3) ls st H := g_br (off := off) (q := x ≤ y) (st' := st) hd rfl rfl ht
theorem g_if_le {tgt : Nat} {off : Int} {x : Int32} (hd : decode (mbyt m) pc = .ok (.ifCond .le off, 3)) (ht : (pc : Int) + off = (tgt : Int)) : ev m pc ls (.int x :: st) H = if x ≤ 0 then ev m tgt ls st H else ev m (pc + 3) ls st H := g_br (off := off) (q := x ≤ 0) (st' := st) hd rfl rfl ht
theorem g_go {tgt : Nat} {off : Int} (hd : decode (mbyt m) pc = .ok (.goto off, 3)) (ht : (pc : Int) + off = (tgt : Int)) : ev m pc ls st H = ev m tgt ls st H := by
  refine g_nx hd rfl ?_
  show ((kGo pc off ls st H).map Sum.inl : Option kO) = _
  unfold kGo
  rw [if_pos (by omega), ht]
  rfl
theorem g_tabO {len tgt : Nat} {dflt lo hi : Int} {offs : Array Int} {x : Int32} (hd : decode (mbyt m) pc = .ok (.tableswitch dflt lo hi offs, len)) (h : x.toInt < lo ∨ hi < x.toInt) (ht : (pc : Int) + dflt = (tgt : Int)) : ev m pc ls (.int x :: st) H = ev m tgt ls st H := by
  refine g_nx hd rfl ?_
  unfold kIns2 kIns
  dsimp only
  rw [if_pos h]
  unfold kGo
  rw [if_pos (by omega), ht]
  rfl
theorem g_tabI {len tgt : Nat} {dflt lo hi off : Int} {offs : Array Int} {x : Int32} (hd : decode (mbyt m) pc = .ok (.tableswitch dflt lo hi offs, len)) (h : ¬ (x.toInt < lo ∨ hi < x.toInt)) (ho : offs[(x.toInt - lo).toNat]? = some off) (ht : (pc : Int) + off = (tgt : Int)) : ev m pc ls (.int x :: st) H = ev m tgt ls st H := by
  refine g_nx hd rfl ?_
  unfold kIns2 kIns
  dsimp only
  rw [if_neg h, ho]
  dsimp only
  unfold kGo
  rw [if_pos (by omega), ht]
  rfl
theorem g_idiv {x y : Int32} (hd : decode (mbyt m) pc = .ok (.idiv, 1)) : ev m pc ls (.int y :: .int x :: st) H = if y = 0 then none else ev m (pc + 1) ls (.int (x / y) :: st) H := by
  by_cases hy : y = 0
  · rw [if_pos hy]
    exact g_no hd rfl (by unfold kIns2 kIns; dsimp only; rw [if_pos hy]; rfl)
  · rw [if_neg hy]
    exact g_nx hd rfl (by unfold kIns2 kIns; dsimp only; rw [if_neg hy]; rfl)
theorem g_irem {x y : Int32} (hd : decode (mbyt m) pc = .ok (.irem, 1)) : ev m pc ls (.int y :: .int x :: st) H = if y = 0 then none else ev m (pc + 1) ls (.int (x - x / y * y) :: st) H := by
  by_cases hy : y = 0
  · rw [if_pos hy]
    exact g_no hd rfl (by unfold kIns2 kIns; dsimp only; rw [if_pos hy]; rfl)
  · rw [if_neg hy]
    exact g_nx hd rfl (by unfold kIns2 kIns; dsimp only; rw [if_neg hy]; rfl)
theorem g_ldiv {x y : Int64} (hd : decode (mbyt m) pc = .ok (.ldiv, 1)) : ev m pc ls (.long y :: .long x :: st) H = if y = 0 then none else ev m (pc + 1) ls (.long (x / y) :: st) H := by
  by_cases hy : y = 0
  · rw [if_pos hy]
    exact g_no hd rfl (by unfold kIns2 kIns; dsimp only; rw [if_pos hy]; rfl)
  · rw [if_neg hy]
    exact g_nx hd rfl (by unfold kIns2 kIns; dsimp only; rw [if_neg hy]; rfl)
theorem g_lrem {x y : Int64} (hd : decode (mbyt m) pc = .ok (.lrem, 1)) : ev m pc ls (.long y :: .long x :: st) H = if y = 0 then none else ev m (pc + 1) ls (.long (x - x / y * y) :: st) H := by
  by_cases hy : y = 0
  · rw [if_pos hy]
    exact g_no hd rfl (by unfold kIns2 kIns; dsimp only; rw [if_pos hy]; rfl)
  · rw [if_neg hy]
    exact g_nx hd rfl (by unfold kIns2 kIns; dsimp only; rw [if_neg hy]; rfl)
theorem g_callV {ix y k : Nat} {as r : List Value} {el : List Value} (hd : decode (mbyt m) pc = .ok (.invokevirtual ix, 3)) (h : cpM (mow m) ix = some (0, y)) (hal : kAl y = false) (hrm : kRm m y = true) (hn : as.length = mna y) (hr : kRcv y k = true) (hl : kCat r ≤ 8) (hf : (kEnA (.ref k :: as)).length ≤ mnL y) (he : kEnt y (.ref k :: as) = el) (hs : st = as.reverse ++ .ref k :: r) : ev m pc ls st H = (ev y 0 el [] H).bind (fun q => ev m (pc + 3) ls (q.1.toList ++ r) q.2) := by
  subst he
  refine ev_call hal ((kStp_of hd rfl).trans ?_)
  show kInvV m ix st = _
  unfold kInvV
  rw [h]
  dsimp only
  have e1 : st.drop (mna y) = .ref k :: r := by
    rw [hs, ← hn, ← List.length_reverse, List.drop_left]
  have e2 : (st.take (mna y)).reverse = as := by
    rw [hs, ← hn, ← List.length_reverse, List.take_left, List.reverse_reverse]
  rw [if_pos ⟨rfl, by rw [hs, ← hn]; simp, hrm⟩, e1, e2]
  dsimp only
  rw [if_pos ⟨hr, hl, hf⟩]
theorem g_callS {ix y kd : Nat} {as r : List Value} {el : List Value} (hd : decode (mbyt m) pc = .ok (.invokestatic ix, 3)) (h : cpM (mow m) ix = some (kd, y)) (hk : kd ≠ 0) (hal : kAl y = false) (hrm : kRm m y = true) (hn : as.length = mna y) (hl : kCat r ≤ 8) (hf : (kEnA as).length ≤ mnL y) (he : kEnt y as = el) (hs : st = as.reverse ++ r) : ev m pc ls st H = (ev y 0 el [] H).bind (fun q => ev m (pc + 3) ls (q.1.toList ++ r) q.2) := by
  subst he
  refine ev_call hal ((kStp_of hd rfl).trans ?_)
  show (match cpM (mow m) ix with | some (kd, y) => kInvS m y kd st | none => (kIns m (.invokestatic ix) pc ls st H).map Sum.inl) = _
  rw [h]
  dsimp only
  unfold kInvS
  have e1 : st.drop (mna y) = r := by
    rw [hs, ← hn, ← List.length_reverse, List.drop_left]
  have e2 : (st.take (mna y)).reverse = as := by
    rw [hs, ← hn, ← List.length_reverse, List.take_left, List.reverse_reverse]
  rw [if_pos ⟨hk, by rw [hs, ← hn]; simp, hrm, by rw [e1]; exact hl, by rw [e2]; exact hf⟩, e1, e2]
theorem g_callA {ix y kd : Nat} {as r : List Value} {el : List Value} (hfl : fl H = 0) (hna : na H < 1000) (hd : decode (mbyt kLaw) pc = .ok (.invokestatic ix, 3)) (h : cpM (mow kLaw) ix = some (kd, y)) (hk : kd ≠ 0) (hal : kAl y = true) (hno : kNo as = true) (hrm : kRm kLaw y = true) (hn : as.length = mna y) (hl : kCat r ≤ 8) (hf : (kEnA as).length ≤ mnL y) (he : kEnB y as = el) (hs : st = as.reverse ++ r) : ev kLaw pc ls st H = (ev y (kApc y) el [] (mkS H)).bind (fun q => ev kLaw (pc + 3) ls (q.1.toList ++ r) (clS H q.2)) := by
  subst he
  refine ev_callA hal hfl hna hno ((kStp_of hd rfl).trans ?_)
  show (match cpM (mow kLaw) ix with | some (kd, y) => kInvS kLaw y kd st | none => (kIns kLaw (.invokestatic ix) pc ls st H).map Sum.inl) = _
  rw [h]
  dsimp only
  unfold kInvS
  have e1 : st.drop (mna y) = r := by
    rw [hs, ← hn, ← List.length_reverse, List.drop_left]
  have e2 : (st.take (mna y)).reverse = as := by
    rw [hs, ← hn, ← List.length_reverse, List.take_left, List.reverse_reverse]
  rw [if_pos ⟨hk, by rw [hs, ← hn]; simp, hrm, by rw [e1]; exact hl, by rw [e2]; exact hf⟩, e1, e2]
theorem g_max {ix : Nat} {x y : Int32} (hd : decode (mbyt m) pc = .ok (.invokestatic ix, 3)) (h0 : cpM (mow m) ix = none) (h : cpX (mow m) ix = some 0) (hf : 1 ≤ mfr m ∧ 21 ≤ mlo m) (hl : kCat st ≤ 8) : ev m pc ls (.int y :: .int x :: st) H = ev m (pc + 3) ls (.int (if x < y then y else x) :: st) H := by
  refine g_nx hd rfl ?_
  show (match cpM (mow m) ix with | some (kd, y0) => kInvS m y0 kd (.int y :: .int x :: st) | none => (kSpc m ix pc ls (.int y :: .int x :: st) H).map Sum.inl) = _
  rw [h0]
  dsimp only
  unfold kSpc
  rw [h]
  dsimp only
  rw [if_pos ⟨hf.1, hf.2, hl⟩]
  rfl
theorem g_min {ix : Nat} {x y : Int32} (hd : decode (mbyt m) pc = .ok (.invokestatic ix, 3)) (h0 : cpM (mow m) ix = none) (h : cpX (mow m) ix = some 1) (hf : 1 ≤ mfr m ∧ 21 ≤ mlo m) (hl : kCat st ≤ 8) : ev m pc ls (.int y :: .int x :: st) H = ev m (pc + 3) ls (.int (if y < x then y else x) :: st) H := by
  refine g_nx hd rfl ?_
  show (match cpM (mow m) ix with | some (kd, y0) => kInvS m y0 kd (.int y :: .int x :: st) | none => (kSpc m ix pc ls (.int y :: .int x :: st) H).map Sum.inl) = _
  rw [h0]
  dsimp only
  unfold kSpc
  rw [h]
  dsimp only
  rw [if_pos ⟨hf.1, hf.2, hl⟩]
  rfl
theorem g_reti {x : Int32} (hd : decode (mbyt m) pc = .ok (.ireturn, 1)) (h : mrt m = some .int) : ev m pc ls [.int x] H = some (some (.int x), H) := by
  refine ev_ret ((kStp_of hd rfl).trans ?_)
  show kRet m [.int x] = _
  unfold kRet
  dsimp only
  rw [h]
theorem g_retz {x : Int32} (hd : decode (mbyt m) pc = .ok (.ireturn, 1)) (h : mrt m = some .boolean) : ev m pc ls [.int x] H = if x = 0 ∨ x = 1 then some (some (.int x), H) else none := by
  by_cases hx : x = 0 ∨ x = 1
  · rw [if_pos hx]
    refine ev_ret ((kStp_of hd rfl).trans ?_)
    show kRet m [.int x] = _
    unfold kRet
    dsimp only
    rw [h]
    exact if_pos hx
  · rw [if_neg hx]
    refine g_no hd rfl ?_
    show kRet m [.int x] = _
    unfold kRet
    dsimp only
    rw [h]
    exact if_neg hx
theorem g_retb {x : Int32} (hd : decode (mbyt m) pc = .ok (.ireturn, 1)) (h : mrt m = some .byte) : ev m pc ls [.int x] H = if x = 0 then some (some (.int x), H) else none := by
  by_cases hx : x = 0
  · rw [if_pos hx]
    refine ev_ret ((kStp_of hd rfl).trans ?_)
    show kRet m [.int x] = _
    unfold kRet
    dsimp only
    rw [h]
    exact if_pos hx
  · rw [if_neg hx]
    refine g_no hd rfl ?_
    show kRet m [.int x] = _
    unfold kRet
    dsimp only
    rw [h]
    exact if_neg hx
theorem g_retl {x : Int64} (hd : decode (mbyt m) pc = .ok (.lreturn, 1)) (h : mrt m = some .long) : ev m pc ls [.long x] H = some (some (.long x), H) := by
  refine ev_ret ((kStp_of hd rfl).trans ?_)
  unfold kIns2
  dsimp only
  rw [h]
theorem g_retv (hd : decode (mbyt m) pc = .ok (.return_, 1)) (h : mrt m = none) : ev m pc ls [] H = some (none, H) := by
  refine ev_ret ((kStp_of hd rfl).trans ?_)
  unfold kIns2
  dsimp only
  rw [h]
end KGL
