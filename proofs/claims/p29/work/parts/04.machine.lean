/-! the abstract machine: cells by number (0 to 26 the object and all of its; 27 to 29 the law's rows; 30 the row that kings() and years() make; 38 the script, 39 the text, 40 its bytes), ints, longs, numbers -/
abbrev kH : Type := (Nat → Nat → Int32) × (Nat → Nat → Int64) × (Nat → Nat → Nat)
def hI (H : kH) (k j : Nat) : Int32 := H.1 k j
def hL (H : kH) (k j : Nat) : Int64 := H.2.1 k j
def hR (H : kH) (k j : Nat) : Nat := H.2.2 k j
def uI (H : kH) (k j : Nat) (v : Int32) : kH := (fun a b => if a = k ∧ b = j then v else H.1 a b, H.2.1, H.2.2)
def uL (H : kH) (k j : Nat) (v : Int64) : kH := (H.1, fun a b => if a = k ∧ b = j then v else H.2.1 a b, H.2.2)
def uR (H : kH) (k j : Nat) (v : Nat) : kH := (H.1, H.2.1, fun a b => if a = k ∧ b = j then v else H.2.2 a b)
/-- a whole row of ints -/
def uC (H : kH) (k : Nat) (f : Nat → Int32) : kH := (fun a b => if a = k then f b else H.1 a b, H.2.1, H.2.2)
/-- kinds of cell: (0, kind of object), (1, length) ints, (2, length) longs, 4 script, 5 text, 6 bytes -/
def kshp : List (Nat × Nat) := [(0, 4), (0, 0), (0, 0), (0, 1), (0, 2), (0, 3), (1, 5), (1, 5), (1, 5), (1, 5), (1, 32), (1, 5), (1, 5), (1, 5), (1, 5), (1, 5), (1, 32), (1, 5), (1, 20), (2, 5), (2, 5), (2, 32), (2, 6), (2, 6), (2, 64), (2, 64), (1, 5), (1, 6), (1, 19), (1, 20), (9, 0), (9, 0), (9, 0), (9, 0), (9, 0), (9, 0), (9, 0), (9, 0), (4, 0), (5, 0), (6, 5)]
def shp (k : Nat) : Nat × Nat := kshp.getD k (9, 0)
/-- whether the row 30 is there; how many were made -/
def fl (H : kH) : Nat := H.2.2 41 1
def na (H : kH) : Nat := H.2.2 41 0
def nW (H : kH) : Nat := if fl H = 0 then 30 else 31
def shq (H : kH) (k : Nat) : Nat × Nat := if k = 30 then (if fl H = 0 then (9, 0) else (1, 19)) else shp k
/-- the row 30 comes, goes -/
def mkS (H : kH) : kH := (fun a b => if a = 30 then 0 else H.1 a b, H.2.1, fun a b => if a = 41 ∧ b = 1 then 1 else H.2.2 a b)
def clS (H r : kH) : kH := (r.1, r.2.1, fun a b => if a = 41 ∧ b = 1 then 0 else if a = 41 ∧ b = 0 then na H + 1 else H.2.2 a b)
/-- kinds of field: 0 int, 1 boolean, 2 long, 3 a link -/
def kfk : List (List Nat) := [[3, 3, 3, 3, 3, 3, 0, 0, 1, 0, 0, 0], [3, 0], [3, 3, 3, 3, 3, 3, 3, 3], [3, 3, 0, 2], [3, 3, 3, 3, 3, 1, 0]]
def fki (c f : Nat) : Nat := (kfk.getD c []).getD f 9
def ksr : List (Nat × Nat × Nat) := [(0, 0, 3), (0, 1, 1), (0, 2, 2), (0, 3, 4), (0, 4, 5), (1, 0, 6), (1, 1, 7), (1, 2, 8), (1, 3, 9), (1, 4, 10), (1, 5, 11), (2, 0, 12), (2, 1, 13), (2, 2, 14), (2, 3, 15), (2, 4, 16), (2, 5, 17), (3, 0, 18), (4, 0, 1), (4, 1, 19), (4, 2, 20), (4, 3, 21), (4, 4, 22), (4, 5, 23), (4, 6, 24), (4, 7, 25), (5, 0, 1), (5, 1, 26)]
def sref (k f : Nat) : Nat := ((ksr.find? (fun q => q.1 == k && q.2.1 == f)).map (fun q => q.2.2)).getD 0
def cpF (o i : Nat) : Option (Nat × Nat) := (kfT.find? (fun q => q.1 == o && q.2.1 == i)).map (fun q => (q.2.2.1, q.2.2.2.1))
def cpM (o i : Nat) : Option (Nat × Nat) := (kcT.find? (fun q => q.1 == o && q.2.1 == i)).map (fun q => (q.2.2.1, q.2.2.2.1))
def cpX (o i : Nat) : Option Nat := (kmT.find? (fun q => q.1 == o && q.2.1 == i)).map (fun q => q.2.2.1)
def cpI (o i : Nat) : Option Int32 := (kiT.find? (fun q => q.1 == o && q.2.1 == i)).map (fun q => q.2.2.1)
def cpL (o i : Nat) : Option Int64 := (klT.find? (fun q => q.1 == o && q.2.1 == i)).map (fun q => q.2.2.1)
abbrev kN : Type := Nat × List Value × List Value × kH
/-- goes on, calls (method, arguments, the rest of the stack), returns -/
abbrev kO : Type := kN ⊕ ((Nat × List Value × List Value) ⊕ Option Value)
def kNx (pc : Nat) (ls st : List Value) (H : kH) : Option kN := some (pc, ls, st, H)
/-- a field's value -/
def gf (H : kH) (k c f : Nat) : Option Value :=
  if c = 9 then (if k = 39 then (if f = 0 then some (.ref 40) else some (.int 0)) else none) else
  if shp k = (0, c) then
    (match fki c f with
    | 0 => some (.int (hI H k f))
    | 1 => some (.int (hI H k f))
    | 2 => some (.long (hL H k f))
    | 3 => some (.ref (sref k f))
    | _ => none)
  else none
def pf (H : kH) (k c f : Nat) (v : Value) : Option kH :=
  if shp k = (0, c) ∧ k < 30 then
    (match fki c f, v with
    | 0, .int x => some (uI H k f x)
    | 1, .int x => if x = 0 ∨ x = 1 then some (uI H k f x) else none
    | 2, .long x => some (uL H k f x)
    | _, _ => none)
  else none
def alen (H : kH) (k : Nat) : Option Int32 :=
  match shq H k with
  | (1, n) => some (Int32.ofNat n)
  | (2, n) => some (Int32.ofNat n)
  | (4, _) => some (hI H 41 0)
  | (6, n) => some (Int32.ofNat n)
  | _ => none
def aI (H : kH) (k : Nat) (i : Int32) : Option Int32 :=
  match shq H k with
  | (1, n) => if i < 0 ∨ n ≤ i.toNatClampNeg then none else some (hI H k i.toNatClampNeg)
  | (4, _) => if i < 0 ∨ (hI H 41 0).toNatClampNeg ≤ i.toNatClampNeg then none else some (hI H 38 i.toNatClampNeg)
  | _ => none
def aL (H : kH) (k : Nat) (i : Int32) : Option Int64 :=
  match shp k with
  | (2, n) => if i < 0 ∨ n ≤ i.toNatClampNeg then none else some (hL H k i.toNatClampNeg)
  | _ => none
def kbs : List Int32 := [112, 115, 102, 100, 99]
def aB (k : Nat) (i : Int32) : Option Int32 := if k = 40 then (if i < 0 ∨ 5 ≤ i.toNatClampNeg then none else some (kbs.getD i.toNatClampNeg 0)) else none
def sI (H : kH) (k : Nat) (i v : Int32) : Option kH :=
  match shq H k with
  | (1, n) => if i < 0 ∨ n ≤ i.toNatClampNeg then none else some (uI H k i.toNatClampNeg v)
  | _ => none
def sL (H : kH) (k : Nat) (i : Int32) (v : Int64) : Option kH :=
  match shp k with
  | (2, n) => if i < 0 ∨ n ≤ i.toNatClampNeg then none else some (uL H k i.toNatClampNeg v)
  | _ => none
/-- how many words a stack has -/
def kCat (r : List Value) : Nat := (r.map (fun v => v.category)).sum
/-- the locals -/
def kClr (ls : List Value) (i : Nat) : List Value :=
  match i with
  | 0 => ls
  | k + 1 => (match ls[k]? with
    | some (.long _) => ls.set k .null
    | some (.double _) => ls.set k .null
    | _ => ls)
def kSt1 (ls : List Value) (i : Nat) (v : Value) : List Value := (kClr ls i).set i v
def kSt2 (ls : List Value) (i : Nat) (v : Value) : List Value := ((kClr ls i).set i v).set (i + 1) .null
def kEnA : List Value → List Value
  | [] => []
  | .long x :: vs => .long x :: .null :: kEnA vs
  | .double x :: vs => .double x :: .null :: kEnA vs
  | v :: vs => v :: kEnA vs
def kEnt (y : Nat) (vs : List Value) : List Value := kEnA vs ++ List.replicate (mnL y - (kEnA vs).length) .null
def kRcv (y k : Nat) : Bool := if mow y = 8 then k == 39 else (match shp k with
  | (0, c) => decide (k < 30) && (match c, mow y with
    | 0, 0 => true
    | 1, 1 => true
    | 2, 2 => true
    | 3, 4 => true
    | 4, 5 => true
    | _, _ => false)
  | _ => false)
def kRm (m y : Nat) : Bool := decide (mfr y + 1 ≤ mfr m) && decide (8 + (mnL y + 11) + mlo y ≤ mlo m)
/-- an int pushed -/
def kP (pc : Nat) (ls st : List Value) (H : kH) (x : Int32) : Option kN := kNx pc ls (.int x :: st) H
def kLdI (ls : List Value) (i pc : Nat) (st : List Value) (H : kH) : Option kN :=
  match ls[i]? with
  | some (.int x) => kNx pc ls (.int x :: st) H
  | _ => none
def kLdL (ls : List Value) (i pc : Nat) (st : List Value) (H : kH) : Option kN :=
  match ls[i]? with
  | some (.long x) => kNx pc ls (.long x :: st) H
  | _ => none
def kLdR (ls : List Value) (i pc : Nat) (st : List Value) (H : kH) : Option kN :=
  match ls[i]? with
  | some (.ref x) => kNx pc ls (.ref x :: st) H
  | _ => none
def kSoI (m : Nat) (ls : List Value) (i pc : Nat) (st : List Value) (H : kH) : Option kN :=
  match st with
  | .int x :: r => if i < mnL m then kNx pc (kSt1 ls i (.int x)) r H else none
  | _ => none
def kSoR (m : Nat) (ls : List Value) (i pc : Nat) (st : List Value) (H : kH) : Option kN :=
  match st with
  | .ref x :: r => if i < mnL m then kNx pc (kSt1 ls i (.ref x)) r H else none
  | _ => none
def kSoL (m : Nat) (ls : List Value) (i pc : Nat) (st : List Value) (H : kH) : Option kN :=
  match st with
  | .long x :: r => if i + 1 < mnL m then kNx pc (kSt2 ls i (.long x)) r H else none
  | _ => none
def kB2 (f : Int32 → Int32 → Int32) (pc : Nat) (ls st : List Value) (H : kH) : Option kN :=
  match st with
  | .int y :: .int x :: r => kNx (pc + 1) ls (.int (f x y) :: r) H
  | _ => none
def kL2 (f : Int64 → Int64 → Int64) (pc : Nat) (ls st : List Value) (H : kH) : Option kN :=
  match st with
  | .long y :: .long x :: r => kNx (pc + 1) ls (.long (f x y) :: r) H
  | _ => none
def kLS (f : Int64 → Int32 → Int64) (pc : Nat) (ls st : List Value) (H : kH) : Option kN :=
  match st with
  | .int y :: .long x :: r => kNx (pc + 1) ls (.long (f x y) :: r) H
  | _ => none
def kU1 (f : Int32 → Int32) (pc : Nat) (ls st : List Value) (H : kH) : Option kN :=
  match st with
  | .int x :: r => kNx (pc + 1) ls (.int (f x) :: r) H
  | _ => none
def kBr (c : Prop) [Decidable c] (pc : Nat) (off : Int) (ls st : List Value) (H : kH) : Option kN :=
  if 0 ≤ (pc : Int) + off then (if c then kNx (((pc : Int) + off).toNat) ls st H else kNx (pc + 3) ls st H) else none
def kGo (pc : Nat) (off : Int) (ls st : List Value) (H : kH) : Option kN :=
  if 0 ≤ (pc : Int) + off then kNx (((pc : Int) + off).toNat) ls st H else none
def kC2 (d : ClassFile.Cond) (pc : Nat) (off : Int) (ls st : List Value) (H : kH) : Option kN :=
  match st with
  | .int y :: .int x :: r => (match d with
    | .eq => kBr (x = y) pc off ls r H
    | .ne => kBr (¬ x = y) pc off ls r H
    | .lt => kBr (x < y) pc off ls r H
    | .ge => kBr (y ≤ x) pc off ls r H
    | .gt => kBr (y < x) pc off ls r H
    | .le => kBr (x ≤ y) pc off ls r H)
  | _ => none
def kC1 (d : ClassFile.Cond) (pc : Nat) (off : Int) (ls st : List Value) (H : kH) : Option kN :=
  match st with
  | .int x :: r => (match d with
    | .eq => kBr (x = 0) pc off ls r H
    | .ne => kBr (¬ x = 0) pc off ls r H
    | .lt => kBr (x < 0) pc off ls r H
    | .ge => kBr (0 ≤ x) pc off ls r H
    | .gt => kBr (0 < x) pc off ls r H
    | .le => kBr (x ≤ 0) pc off ls r H)
  | _ => none
def kSpc (m idx pc : Nat) (ls st : List Value) (H : kH) : Option kN :=
  match cpX (mow m) idx with
  | some kd => (match st with
    | .int y :: .int x :: r => if 1 ≤ mfr m ∧ 21 ≤ mlo m ∧ kCat r ≤ 8 then kNx (pc + 3) ls (.int (if kd = 0 then (if x < y then y else x) else (if y < x then y else x)) :: r) H else none
    | _ => none)
  | none => none
def kInvS (m y kd : Nat) (st : List Value) : Option kO :=
  if kd ≠ 0 ∧ mna y ≤ st.length ∧ kRm m y = true ∧ kCat (st.drop (mna y)) ≤ 8 ∧ (kEnA (st.take (mna y)).reverse).length ≤ mnL y then some (.inr (.inl (y, (st.take (mna y)).reverse, st.drop (mna y)))) else none
def kInvV (m idx : Nat) (st : List Value) : Option kO :=
  match cpM (mow m) idx with
  | some (kd, y) => if kd = 0 ∧ mna y ≤ st.length ∧ kRm m y = true then (match st.drop (mna y) with
    | .ref k :: r => if kRcv y k = true ∧ kCat r ≤ 8 ∧ (kEnA (.ref k :: (st.take (mna y)).reverse)).length ≤ mnL y then some (.inr (.inl (y, .ref k :: (st.take (mna y)).reverse, r))) else none
    | _ => none) else none
  | none => none
def kRet (m : Nat) (st : List Value) : Option kO :=
  match st with
  | [.int x] => (match mrt m with
    | some .int => some (.inr (.inr (some (.int x))))
    | some .boolean => if x = 0 ∨ x = 1 then some (.inr (.inr (some (.int x)))) else none
    | some .byte => if x = 0 then some (.inr (.inr (some (.int x)))) else none
    | _ => none)
  | _ => none
/-- one instruction -/
def kIns (m : Nat) (i : Instr) (pc : Nat) (ls st : List Value) (H : kH) : Option kN :=
  match i with
  | .iconst n => kP (pc + 1) ls st H (Int32.ofInt n)
  | .bipush n => kP (pc + 2) ls st H (Int8.ofInt n).toInt32
  | .sipush n => kP (pc + 3) ls st H (Int16.ofInt n).toInt32
  | .lconst n => kNx (pc + 1) ls (.long (Int64.ofNat (n : Nat)) :: st) H
  | .ldc ix => (match cpI (mow m) ix with
    | some v => kP (pc + 2) ls st H v
    | none => if (mow m, ix) = kst then kNx (pc + 2) ls (.ref 39 :: st) H else none)
  | .ldc_w ix => (match cpI (mow m) ix with
    | some v => kP (pc + 3) ls st H v
    | none => none)
  | .ldc2_w ix => (match cpL (mow m) ix with
    | some v => kNx (pc + 3) ls (.long v :: st) H
    | none => none)
  | .iload_n k => kLdI ls k (pc + 1) st H
  | .iload k => kLdI ls k (pc + 2) st H
  | .lload_n k => kLdL ls k (pc + 1) st H
  | .lload k => kLdL ls k (pc + 2) st H
  | .aload_n k => kLdR ls k (pc + 1) st H
  | .aload k => kLdR ls k (pc + 2) st H
  | .istore_n k => kSoI m ls k (pc + 1) st H
  | .istore k => kSoI m ls k (pc + 2) st H
  | .lstore_n k => kSoL m ls k (pc + 1) st H
  | .lstore k => kSoL m ls k (pc + 2) st H
  | .astore_n k => kSoR m ls k (pc + 1) st H
  | .astore k => kSoR m ls k (pc + 2) st H
  | .iinc k n => (match ls[k]? with
    | some (.int x) => if k < mnL m then kNx (pc + 3) (kSt1 ls k (.int (x + Int32.ofInt n))) st H else none
    | _ => none)
  | .iadd => kB2 (fun x y => x + y) pc ls st H
  | .isub => kB2 (fun x y => x - y) pc ls st H
  | .imul => kB2 (fun x y => x * y) pc ls st H
  | .iand => kB2 (fun x y => x &&& y) pc ls st H
  | .ior => kB2 (fun x y => x ||| y) pc ls st H
  | .ixor => kB2 (fun x y => x ^^^ y) pc ls st H
  | .ishl => kB2 (fun x y => x <<< (y &&& 31)) pc ls st H
  | .ishr => kB2 (fun x y => x >>> (y &&& 31)) pc ls st H
  | .iushr => kB2 (fun x y => (x.toUInt32 >>> (y.toUInt32 &&& Int32.toUInt32 31)).toInt32) pc ls st H
  | .idiv => (match st with
    | .int y :: .int x :: r => if y = 0 then none else kNx (pc + 1) ls (.int (x / y) :: r) H
    | _ => none)
  | .irem => (match st with
    | .int y :: .int x :: r => if y = 0 then none else kNx (pc + 1) ls (.int (x - x / y * y) :: r) H
    | _ => none)
  | .ldiv => (match st with
    | .long y :: .long x :: r => if y = 0 then none else kNx (pc + 1) ls (.long (x / y) :: r) H
    | _ => none)
  | .lrem => (match st with
    | .long y :: .long x :: r => if y = 0 then none else kNx (pc + 1) ls (.long (x - x / y * y) :: r) H
    | _ => none)
  | .ladd => kL2 (fun x y => x + y) pc ls st H
  | .lmul => kL2 (fun x y => x * y) pc ls st H
  | .land => kL2 (fun x y => x &&& y) pc ls st H
  | .lor => kL2 (fun x y => x ||| y) pc ls st H
  | .lshl => kLS (fun x y => x <<< (y.toInt64 &&& 63)) pc ls st H
  | .lshr => kLS (fun x y => x >>> (y.toInt64 &&& 63)) pc ls st H
  | .lcmp => (match st with
    | .long y :: .long x :: r => kNx (pc + 1) ls (.int (lg_cmp x y) :: r) H
    | _ => none)
  | .i2l => (match st with
    | .int x :: r => kNx (pc + 1) ls (.long x.toInt64 :: r) H
    | _ => none)
  | .l2i => (match st with
    | .long x :: r => kNx (pc + 1) ls (.int x.toInt32 :: r) H
    | _ => none)
  | .i2c => kU1 (fun x => (x.toUInt32 % 65536).toInt32) pc ls st H
  | .i2b => kU1 (fun x => x.toInt8.toInt32) pc ls st H
  | .dup => (match st with
    | .ref x :: r => kNx (pc + 1) ls (.ref x :: .ref x :: r) H
    | .int x :: r => kNx (pc + 1) ls (.int x :: .int x :: r) H
    | _ => none)
  | .dup2 => (match st with
    | .int x :: .ref y :: r => kNx (pc + 1) ls (.int x :: .ref y :: .int x :: .ref y :: r) H
    | _ => none)
  | .pop => (match st with
    | .int _ :: r => kNx (pc + 1) ls r H
    | _ => none)
  | .goto off => kGo pc off ls st H
  | .if_icmp d off => kC2 d pc off ls st H
  | .ifCond d off => kC1 d pc off ls st H
  | .tableswitch dflt lo hi offs => (match st with
    | .int x :: r => if x.toInt < lo ∨ hi < x.toInt then kGo pc dflt ls r H else (match offs[(x.toInt - lo).toNat]? with
      | some off => kGo pc off ls r H
      | none => none)
    | _ => none)
  | .getfield ix => (match cpF (mow m) ix, st with
    | some (c, f), .ref k :: r => (match gf H k c f with
      | some v => kNx (pc + 3) ls (v :: r) H
      | none => none)
    | _, _ => none)
  | .putfield ix => (match cpF (mow m) ix, st with
    | some (c, f), v :: .ref k :: r => (match pf H k c f v with
      | some H' => kNx (pc + 3) ls r H'
      | none => none)
    | _, _ => none)
  | .getstatic ix => if (mow m, ix) = (kgs.1, kgs.2.1) then kP (pc + 3) ls st H 1 else none
  | .arraylength => (match st with
    | .ref k :: r => (match alen H k with
      | some v => kP (pc + 1) ls r H v
      | none => none)
    | _ => none)
  | .iaload => (match st with
    | .int i :: .ref k :: r => (match aI H k i with
      | some v => kP (pc + 1) ls r H v
      | none => none)
    | _ => none)
  | .laload => (match st with
    | .int i :: .ref k :: r => (match aL H k i with
      | some v => kNx (pc + 1) ls (.long v :: r) H
      | none => none)
    | _ => none)
  | .baload => (match st with
    | .int i :: .ref k :: r => (match aB k i with
      | some v => kP (pc + 1) ls r H v
      | none => none)
    | _ => none)
  | .iastore => (match st with
    | .int v :: .int i :: .ref k :: r => (match sI H k i v with
      | some H' => kNx (pc + 1) ls r H'
      | none => none)
    | _ => none)
  | .lastore => (match st with
    | .long v :: .int i :: .ref k :: r => (match sL H k i v with
      | some H' => kNx (pc + 1) ls r H'
      | none => none)
    | _ => none)
  | .invokestatic ix => kSpc m ix pc ls st H
  | _ => none
def kLen (i : Instr) (len : Nat) : Nat :=
  match i with
  | .bipush _ | .iload _ | .istore _ | .lload _ | .lstore _ | .aload _ | .astore _ | .ldc _ => 2
  | .sipush _ | .getfield _ | .putfield _ | .getstatic _ | .goto _ | .if_icmp _ _ | .ifCond _ _ | .iinc _ _ | .ldc_w _ | .ldc2_w _ | .invokevirtual _ | .invokestatic _ => 3
  | .tableswitch _ _ _ _ => len
  | _ => 1
/-- calls, returns, all else -/
def kIns2 (m : Nat) (i : Instr) (pc : Nat) (ls st : List Value) (H : kH) : Option kO :=
  match i with
  | .invokevirtual ix => kInvV m ix st
  | .invokestatic ix => (match cpM (mow m) ix with
    | some (kd, y) => kInvS m y kd st
    | none => (kIns m (.invokestatic ix) pc ls st H).map .inl)
  | .ireturn => kRet m st
  | .lreturn => (match st, mrt m with
    | [.long x], some .long => some (.inr (.inr (some (.long x))))
    | _, _ => none)
  | .return_ => (match st, mrt m with
    | [], none => some (.inr (.inr none))
    | _, _ => none)
  | i => (kIns m i pc ls st H).map .inl
def kStp (m pc : Nat) (ls st : List Value) (H : kH) : Option kO :=
  match decode (mbyt m) pc with
  | .ok (i, len) => if len = kLen i len then kIns2 m i pc ls st H else none
  | .error _ => none
/-- kings(), years(): where they go on behind their row's making, its place among the locals -/
def kAl (y : Nat) : Bool := y == kMk || y == kMy
def kApc (y : Nat) : Nat := if y = kMk then 5 else 6
def kAix (y : Nat) : Nat := if y = kMk then 3 else 5
def kEnB (y : Nat) (vs : List Value) : List Value := kSt1 (kEnt y vs) (kAix y) (.ref 30)
/-- none of these is the row 30 -/
def kNo (vs : List Value) : Bool := vs.all (fun v => match v with
  | .ref k => k != 30
  | _ => true)
def kRun : Nat → Nat → Nat → List Value → List Value → kH → Option (Option Value × kH)
  | 0, _, _, _, _, _ => none
  | n + 1, m, pc, ls, st, H => match kStp m pc ls st H with
    | none => none
    | some (.inl a) => kRun n m a.1 a.2.1 a.2.2.1 a.2.2.2
    | some (.inr (.inl a)) =>
      if kAl a.1 = true then (if m = kLaw ∧ fl H = 0 ∧ na H < 1000 ∧ kNo a.2.1 = true then (match kRun n a.1 (kApc a.1) (kEnB a.1 a.2.1) [] (mkS H) with
        | none => none
        | some r => kRun n m (pc + 3) ls (r.1.toList ++ a.2.2) (clS H r.2)) else none)
      else (match kRun n a.1 0 (kEnt a.1 a.2.1) [] H with
        | none => none
        | some r => kRun n m (pc + 3) ls (r.1.toList ++ a.2.2) r.2)
    | some (.inr (.inr v)) => some (v, H)
theorem kRun_mono : ∀ (n m pc : Nat) (ls st : List Value) (H : kH) (r : Option Value × kH), kRun n m pc ls st H = some r → kRun (n + 1) m pc ls st H = some r
  | 0, _, _, _, _, _, _, h => by simp [kRun] at h
  | n + 1, m, pc, ls, st, H, r, h => by
    rw [kRun] at h ⊢
    split at h
    · cases h
    · rename_i a e
      try rw [e]
      exact kRun_mono n _ _ _ _ _ _ h
    · rename_i a e
      try rw [e]
      try dsimp only
      split at h
      · rename_i ha
        rw [if_pos ha]
        split at h
        · rename_i hc
          rw [if_pos hc]
          split at h
          · cases h
          · rename_i q eq
            rw [kRun_mono n _ _ _ _ _ _ eq]
            exact kRun_mono n _ _ _ _ _ _ h
        · cases h
      · rename_i ha
        rw [if_neg ha]
        split at h
        · cases h
        · rename_i q eq
          rw [kRun_mono n _ _ _ _ _ _ eq]
          exact kRun_mono n _ _ _ _ _ _ h
    · rename_i v e
      try rw [e]
      exact h
theorem kRun_le {n k m pc : Nat} {ls st : List Value} {H : kH} {r : Option Value × kH} (h : kRun n m pc ls st H = some r) (hk : n ≤ k) : kRun k m pc ls st H = some r := by
  induction k with
  | zero =>
    have : n = 0 := by omega
    subst this
    exact h
  | succ k ih =>
    by_cases e : n = k + 1
    · subst e
      exact h
    · exact kRun_mono _ _ _ _ _ _ _ (ih (by omega))
/-- the answer, if there is one -/
def kPk (P : Option Value × kH → Prop) : Prop := ∃ o, P o
noncomputable def ev (m pc : Nat) (ls st : List Value) (H : kH) : Option (Option Value × kH) :=
  @dite _ (∃ o, ∃ n, kRun n m pc ls st H = some o) (Classical.propDecidable _) (fun h => some h.choose) (fun _ => none)
theorem ev_iff {m pc : Nat} {ls st : List Value} {H : kH} {o : Option Value × kH} : ev m pc ls st H = some o ↔ ∃ n, kRun n m pc ls st H = some o := by
  constructor
  · intro h
    unfold ev at h
    split at h
    · rename_i hh
      have h1 := hh.choose_spec
      cases h
      exact h1
    · cases h
  · rintro ⟨n, h⟩
    have hh : ∃ o, ∃ n, kRun n m pc ls st H = some o := ⟨o, n, h⟩
    have e : ev m pc ls st H = some hh.choose := by
      unfold ev
      rw [dif_pos hh]
    obtain ⟨k, hk⟩ := hh.choose_spec
    have h1 := kRun_le h (Nat.le_max_left n k)
    have h2 := kRun_le hk (Nat.le_max_right n k)
    rw [e]
    exact h2.symm.trans h1
theorem ev_ext {m pc m' pc' : Nat} {ls st ls' st' : List Value} {H H' : kH} (h : ∀ o, (∃ n, kRun n m pc ls st H = some o) ↔ (∃ n, kRun n m' pc' ls' st' H' = some o)) : ev m pc ls st H = ev m' pc' ls' st' H' := by
  apply Option.ext
  intro o
  rw [ev_iff, ev_iff]
  exact h o
theorem ev_next {m pc pc' : Nat} {ls st ls' st' : List Value} {H H' : kH} (h : kStp m pc ls st H = some (.inl (pc', ls', st', H'))) : ev m pc ls st H = ev m pc' ls' st' H' := by
  refine ev_ext fun o => ⟨?_, ?_⟩
  · rintro ⟨n, hn⟩
    cases n with
    | zero => simp [kRun] at hn
    | succ n =>
      rw [kRun, h] at hn
      exact ⟨n, hn⟩
  · rintro ⟨n, hn⟩
    exact ⟨n + 1, by rw [kRun, h]; exact hn⟩
theorem ev_call {m pc y : Nat} {ls st as r : List Value} {H : kH} (hy : kAl y = false) (h : kStp m pc ls st H = some (.inr (.inl (y, as, r)))) : ev m pc ls st H = (ev y 0 (kEnt y as) [] H).bind (fun q => ev m (pc + 3) ls (q.1.toList ++ r) q.2) := by
  have hy' : ¬ kAl y = true := by rw [hy]; exact Bool.false_ne_true
  apply Option.ext
  intro o
  rw [ev_iff, Option.bind_eq_some_iff]
  constructor
  · rintro ⟨n, hn⟩
    cases n with
    | zero => simp [kRun] at hn
    | succ n =>
      rw [kRun, h] at hn
      dsimp only at hn
      rw [if_neg hy'] at hn
      split at hn
      · cases hn
      · rename_i q eq
        exact ⟨q, ev_iff.mpr ⟨n, eq⟩, ev_iff.mpr ⟨n, hn⟩⟩
  · rintro ⟨q, h1, h2⟩
    obtain ⟨n1, h1⟩ := ev_iff.mp h1
    obtain ⟨n2, h2⟩ := ev_iff.mp h2
    refine ⟨max n1 n2 + 1, ?_⟩
    rw [kRun, h]
    dsimp only
    rw [if_neg hy', kRun_le h1 (Nat.le_max_left n1 n2)]
    exact kRun_le h2 (Nat.le_max_right n1 n2)
theorem ev_callA {pc y : Nat} {ls st as r : List Value} {H : kH} (hy : kAl y = true) (hf : fl H = 0) (hn : na H < 1000) (hno : kNo as = true) (h : kStp kLaw pc ls st H = some (.inr (.inl (y, as, r)))) : ev kLaw pc ls st H = (ev y (kApc y) (kEnB y as) [] (mkS H)).bind (fun q => ev kLaw (pc + 3) ls (q.1.toList ++ r) (clS H q.2)) := by
  apply Option.ext
  intro o
  rw [ev_iff, Option.bind_eq_some_iff]
  constructor
  · rintro ⟨n, hn2⟩
    cases n with
    | zero => simp [kRun] at hn2
    | succ n =>
      rw [kRun, h] at hn2
      dsimp only at hn2
      rw [if_pos hy, if_pos ⟨rfl, hf, hn, hno⟩] at hn2
      split at hn2
      · cases hn2
      · rename_i q eq
        exact ⟨q, ev_iff.mpr ⟨n, eq⟩, ev_iff.mpr ⟨n, hn2⟩⟩
  · rintro ⟨q, h1, h2⟩
    obtain ⟨n1, h1⟩ := ev_iff.mp h1
    obtain ⟨n2, h2⟩ := ev_iff.mp h2
    refine ⟨max n1 n2 + 1, ?_⟩
    rw [kRun, h]
    dsimp only
    rw [if_pos hy, if_pos ⟨rfl, hf, hn, hno⟩, kRun_le h1 (Nat.le_max_left n1 n2)]
    exact kRun_le h2 (Nat.le_max_right n1 n2)
theorem ev_ret {m pc : Nat} {ls st : List Value} {H : kH} {v : Option Value} (h : kStp m pc ls st H = some (.inr (.inr v))) : ev m pc ls st H = some (v, H) := ev_iff.mpr ⟨1, by rw [kRun, h]⟩
theorem ev_none {m pc : Nat} {ls st : List Value} {H : kH} (h : kStp m pc ls st H = none) : ev m pc ls st H = none := by
  cases he : ev m pc ls st H with
  | none => rfl
  | some o =>
    obtain ⟨n, hn⟩ := ev_iff.mp he
    cases n with
    | zero => simp [kRun] at hn
    | succ n => rw [kRun, h] at hn; cases hn
theorem kStp_of {m pc len : Nat} {i : Instr} {ls st : List Value} {H : kH} (hd : decode (mbyt m) pc = .ok (i, len)) (hl : len = kLen i len) : kStp m pc ls st H = kIns2 m i pc ls st H := by
  unfold kStp
  rw [hd]
  exact if_pos hl
