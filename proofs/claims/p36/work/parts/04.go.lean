/-! THE ABSTRACT MACHINE: `go` runs the bytecode over a memory that is a list of cells at the numbers 0, 1, .. (an array: its kind, what it holds; an object: its number in gCL, its fields). A reference to a cell is .ref of its number; a reference to an array that was there before (the script, the class's own static rows) is .retAddr of its number. -/
abbrev AC : Type := List Int32 ⊕ List Int64 ⊕ List (Option Nat)
abbrev AE : Type := (Nat × AC) ⊕ (Nat × List Value)
abbrev Mem : Type := List AE
abbrev Lo : Type := List (Option Value)
abbrev Rs : Type := Option (Option Value × Mem × Nat × Nat)
/-- the script; none: nobody may look at it -/
abbrev Sta : Type := Option (List Int32)
/-- the rows that were there before: 0 the script, then the class's own -/
def gSx (sc : Sta) (j : Nat) : Option (List Int32) := match j with
  | 0 => sc
  | 1 => some [0, 1, 1, 1, 0, -1, -1, -1]
  | 2 => some [-1, -1, 0, 1, 1, 1, 0, -1]
  | 3 => some [0, 0, 0, 0, 0, 1, 2, 3, 4, 5, 6, 7, 8]
  | 4 => some [0, 1, 2, 4, 5, 1, 1, 1, 0, 0, 0, 0, 0]
  | _ => none
/-- the class Reader's texts: their places in its pool, what they say -/
def gTi : Nat → Nat
  | 0 => 111
  | 1 => 113
  | 2 => 150
  | 3 => 155
  | 4 => 171
  | 5 => 180
  | _ => 182
def gTt : Nat → String
  | 0 => "wear grow line mud dry"
  | 1 => "weigh never sight"
  | 2 => "if"
  | 3 => "green wet climb crowd turn come line"
  | 4 => "or"
  | 5 => "and"
  | _ => "grass gravel bed paved steps sign muddy worn wear wet height trod not"
def gTx : Nat → List Int32
  | 0 => [119, 101, 97, 114, 32, 103, 114, 111, 119, 32, 108, 105, 110, 101, 32, 109, 117, 100, 32, 100, 114, 121]
  | 1 => [119, 101, 105, 103, 104, 32, 110, 101, 118, 101, 114, 32, 115, 105, 103, 104, 116]
  | 2 => [105, 102]
  | 3 => [103, 114, 101, 101, 110, 32, 119, 101, 116, 32, 99, 108, 105, 109, 98, 32, 99, 114, 111, 119, 100, 32, 116, 117, 114, 110, 32, 99, 111, 109, 101, 32, 108, 105, 110, 101]
  | 4 => [111, 114]
  | 5 => [97, 110, 100]
  | _ => [103, 114, 97, 115, 115, 32, 103, 114, 97, 118, 101, 108, 32, 98, 101, 100, 32, 112, 97, 118, 101, 100, 32, 115, 116, 101, 112, 115, 32, 115, 105, 103, 110, 32, 109, 117, 100, 100, 121, 32, 119, 111, 114, 110, 32, 119, 101, 97, 114, 32, 119, 101, 116, 32, 104, 101, 105, 103, 104, 116, 32, 116, 114, 111, 100, 32, 110, 111, 116]
noncomputable def gNth {α : Type} (l : List α) (i : Nat) : Option α := List.rec (motive := fun _ => Nat → Option α) (fun _ => none) (fun x _ ih n => Nat.casesOn n (some x) ih) l i
noncomputable def gRep {α : Type} (n : Nat) (v : α) : List α := Nat.rec (motive := fun _ => List α) [] (fun _ ih => v :: ih) n
noncomputable def gLn {α : Type} (l : List α) : Nat := List.rec (motive := fun _ => Nat) 0 (fun _ _ n => Nat.succ n) l
noncomputable def gPut {α : Type} (l : List α) (i : Nat) (v : α) : List α := List.rec (motive := fun _ => Nat → List α) (fun _ => []) (fun x xs ih n => Nat.casesOn n (v :: xs) (fun k => x :: ih k)) l i
def gC1 (v : Value) : Bool := Nat.beq v.category 1
/-- instructions of the operand stack alone -/
def gAlu (i : Instr) : List Value → Option (List Value) := match i with
  | .iconst n => fun st => some (.int (Int32.ofInt n) :: st)
  | .bipush n => fun st => some (.int (Int8.ofInt n).toInt32 :: st)
  | .sipush n => fun st => some (.int (Int16.ofInt n).toInt32 :: st)
  | .lconst n => fun st => some (.long (Int64.ofNat (n : Nat)) :: st)
  | .dup => fun st => match st with
    | v :: r => cond (gC1 v) (some (v :: v :: r)) none
    | _ => none
  | .pop => fun st => match st with
    | v :: r => cond (gC1 v) (some r) none
    | _ => none
  | .dup_x1 => fun st => match st with
    | a :: b :: r => cond (gC1 a && gC1 b) (some (a :: b :: a :: r)) none
    | _ => none
  | .dup2 => fun st => match st with
    | a :: b :: r => cond (gC1 a && gC1 b) (some (a :: b :: a :: b :: r)) none
    | _ => none
  | .iadd => fun st => match st with
    | .int y :: .int x :: r => some (.int (x + y) :: r)
    | _ => none
  | .isub => fun st => match st with
    | .int y :: .int x :: r => some (.int (x - y) :: r)
    | _ => none
  | .imul => fun st => match st with
    | .int y :: .int x :: r => some (.int (x * y) :: r)
    | _ => none
  | .idiv => fun st => match st with
    | .int y :: .int x :: r => if y = 0 then none else some (.int (x / y) :: r)
    | _ => none
  | .irem => fun st => match st with
    | .int y :: .int x :: r => if y = 0 then none else some (.int (x - x / y * y) :: r)
    | _ => none
  | .ineg => fun st => match st with
    | .int x :: r => some (.int (-x) :: r)
    | _ => none
  | .iand => fun st => match st with
    | .int y :: .int x :: r => some (.int (x &&& y) :: r)
    | _ => none
  | .ior => fun st => match st with
    | .int y :: .int x :: r => some (.int (x ||| y) :: r)
    | _ => none
  | .ixor => fun st => match st with
    | .int y :: .int x :: r => some (.int (x ^^^ y) :: r)
    | _ => none
  | .ishl => fun st => match st with
    | .int y :: .int x :: r => some (.int (x <<< (y &&& 31)) :: r)
    | _ => none
  | .ishr => fun st => match st with
    | .int y :: .int x :: r => some (.int (x >>> (y &&& 31)) :: r)
    | _ => none
  | .iushr => fun st => match st with
    | .int y :: .int x :: r => some (.int (x.toUInt32 >>> (y.toUInt32 &&& Int32.toUInt32 31)).toInt32 :: r)
    | _ => none
  | .ladd => fun st => match st with
    | .long y :: .long x :: r => some (.long (x + y) :: r)
    | _ => none
  | .lsub => fun st => match st with
    | .long y :: .long x :: r => some (.long (x - y) :: r)
    | _ => none
  | .land => fun st => match st with
    | .long y :: .long x :: r => some (.long (x &&& y) :: r)
    | _ => none
  | .lor => fun st => match st with
    | .long y :: .long x :: r => some (.long (x ||| y) :: r)
    | _ => none
  | .lxor => fun st => match st with
    | .long y :: .long x :: r => some (.long (x ^^^ y) :: r)
    | _ => none
  | .lshl => fun st => match st with
    | .int y :: .long x :: r => some (.long (x <<< (y.toInt64 &&& 63)) :: r)
    | _ => none
  | .lushr => fun st => match st with
    | .int y :: .long x :: r => some (.long (x.toUInt64 >>> (y.toInt64.toUInt64 &&& Int64.toUInt64 63)).toInt64 :: r)
    | _ => none
  | .lcmp => fun st => match st with
    | .long y :: .long x :: r => some (.int (lg_cmp x y) :: r)
    | _ => none
  | .i2l => fun st => match st with
    | .int x :: r => some (.long x.toInt64 :: r)
    | _ => none
  | .l2i => fun st => match st with
    | .long x :: r => some (.int x.toInt32 :: r)
    | _ => none
  | .i2b => fun st => match st with
    | .int x :: r => some (.int x.toInt8.toInt32 :: r)
    | _ => none
  | .i2c => fun st => match st with
    | .int x :: r => some (.int (x.toUInt32 % 65536).toInt32 :: r)
    | _ => none
  | _ => fun st => none
/-- a value of one word into the place k of the locals -/
noncomputable def gSt (ls : Lo) (k : Nat) (v : Value) : Option Lo := match gNth ls k with
  | none => none
  | some _ => match k with
    | 0 => some (gPut ls 0 (some v))
    | j + 1 => match gNth ls j with
      | some (some w) => cond (gC1 w) (some (gPut ls (j + 1) (some v))) none
      | _ => some (gPut ls (j + 1) (some v))
noncomputable def gSt2 (ls : Lo) (k : Nat) (v : Value) : Option Lo := match gNth ls (k + 1) with
  | none => none
  | some _ => match k with
    | 0 => some (gPut (gPut ls 0 (some v)) 1 none)
    | j + 1 => match gNth ls j with
      | some (some w) => cond (gC1 w) (some (gPut (gPut ls (j + 1) (some v)) (j + 2) none)) none
      | _ => some (gPut (gPut ls (j + 1) (some v)) (j + 2) none)
noncomputable def gLi (ls : Lo) (k : Nat) (st : List Value) : Option (Lo × List Value) := match gNth ls k with
  | some (some (.int x)) => some (ls, .int x :: st)
  | _ => none
noncomputable def gLl (ls : Lo) (k : Nat) (st : List Value) : Option (Lo × List Value) := match gNth ls k with
  | some (some (.long x)) => some (ls, .long x :: st)
  | _ => none
noncomputable def gLa (ls : Lo) (k : Nat) (st : List Value) : Option (Lo × List Value) := match gNth ls k with
  | some (some (.ref a)) => some (ls, .ref a :: st)
  | some (some (.retAddr a)) => some (ls, .retAddr a :: st)
  | _ => none
noncomputable def gSi (ls : Lo) (k : Nat) (st : List Value) : Option (Lo × List Value) := match st with
  | .int x :: r => match gSt ls k (.int x) with
    | some l => some (l, r)
    | none => none
  | _ => none
noncomputable def gSa (ls : Lo) (k : Nat) (st : List Value) : Option (Lo × List Value) := match st with
  | .ref x :: r => match gSt ls k (.ref x) with
    | some l => some (l, r)
    | none => none
  | _ => none
noncomputable def gSl (ls : Lo) (k : Nat) (st : List Value) : Option (Lo × List Value) := match st with
  | .long x :: r => match gSt2 ls k (.long x) with
    | some l => some (l, r)
    | none => none
  | _ => none
/-- instructions of the locals -/
noncomputable def gLoc (i : Instr) : Lo → List Value → Option (Lo × List Value) := match i with
  | .iload_n k => fun ls st => gLi ls k st
  | .iload k => fun ls st => gLi ls k st
  | .lload_n k => fun ls st => gLl ls k st
  | .aload_n k => fun ls st => gLa ls k st
  | .aload k => fun ls st => gLa ls k st
  | .istore_n k => fun ls st => gSi ls k st
  | .istore k => fun ls st => gSi ls k st
  | .astore_n k => fun ls st => gSa ls k st
  | .astore k => fun ls st => gSa ls k st
  | .lstore_n k => fun ls st => gSl ls k st
  | .iinc k n => fun ls st => match gNth ls k with
    | some (some (.int x)) => match gSt ls k (.int (x + Int32.ofInt n)) with
      | some l => some (l, st)
      | none => none
    | _ => none
  | _ => fun ls st => none
def gT (pc : Nat) (off : Int) : Nat := ((pc : Int) + off).toNat
def gP (pc : Nat) (off : Int) : Bool := (match (pc : Int) + off with | .ofNat _ => true | .negSucc _ => false)
/-- branches: the next place -/
def gJmp (i : Instr) : Nat → List Value → Option (Nat × List Value) := match i with
  | .goto off => fun pc st => cond (gP pc off) (some (gT pc off, st)) none
  | .ifCond op off => fun pc st => match st with
    | .int x :: r => cond (gP pc off) (some ((match op with
      | .eq => if x = 0 then gT pc off else pc + 3
      | .ne => if x = 0 then pc + 3 else gT pc off
      | .lt => if x < 0 then gT pc off else pc + 3
      | .ge => if 0 ≤ x then gT pc off else pc + 3
      | .gt => if 0 < x then gT pc off else pc + 3
      | .le => if x ≤ 0 then gT pc off else pc + 3), r)) none
    | _ => none
  | .if_icmp op off => fun pc st => match st with
    | .int y :: .int x :: r => cond (gP pc off) (some ((match op with
      | .eq => if x = y then gT pc off else pc + 3
      | .ne => if x = y then pc + 3 else gT pc off
      | .lt => if x < y then gT pc off else pc + 3
      | .ge => if y ≤ x then gT pc off else pc + 3
      | .gt => if y < x then gT pc off else pc + 3
      | .le => if x ≤ y then gT pc off else pc + 3), r)) none
    | _ => none
  | .tableswitch d lo hi offs => fun pc st => match st with
    | .int x :: r => cond (gP pc d && offs.toList.all (gP pc) && decide (hi - lo + 1 = (offs.size : Int))) (some ((if x.toInt < lo ∨ hi < x.toInt then gT pc d else gT pc (offs.toList.getD (x.toInt - lo).toNat 0)), r)) none
    | _ => none
  | .lookupswitch d ps => fun pc st => match st with
    | .int x :: r => cond (gP pc d && ps.toList.all (fun q => gP pc q.2) && (ps.toList.zip (ps.toList.drop 1)).all (fun (a, next) => a.1 < next.1)) (some (gT pc (Op.lookupswitch.offset ps.toList d x.toInt), r)) none
    | _ => none
  | _ => fun pc st => none
/-- the types of the fields of the classes of gCL, and what a new object holds -/
def gTys : List (Nat → FieldType) := [tyX0, tyX1, tyX2, tyX3, tyX4, tyX5, tyX6, tyX7, tyX8, tyX9, tyX10, tyX11]
def gDv : FieldType → Value
  | .int => .int 0
  | .boolean => .int 0
  | .long => .long 0
  | _ => .null
def gNF : List Nat := [5, 20, 5, 14, 11, 2, 14, 12, 5, 6, 16, 63]
noncomputable def gDef (ci : Nat) : List Value := match gNth gTys ci, gNth gNF ci with
  | some t, some n => (List.range n).map (fun k => gDv (t k))
  | _, _ => []
noncomputable def gFin (ci k : Nat) : Bool := match gNth gCL ci with
  | some q => (q.2.1 k).2.2.2
  | none => true
noncomputable def gTy (ci k : Nat) : FieldType := match gNth gTys ci with
  | some t => t k
  | none => .byte
/-- the element at j -/
noncomputable def gAt {α : Type} (l : List α) (j : Int32) : Option α := cond (decide (j < 0)) none (gNth l j.toNatClampNeg)
/-- the class (in gCL) of what an array of objects holds -/
def gEl : Nat → Nat
  | 4 => 1 | 5 => 6 | 6 => 8 | 7 => 9 | _ => 99
/-- instructions that read or write the memory; own: the number of the method's class; ini: it is a constructor -/
noncomputable def gGet (i : Instr) : Sta → Nat → Bool → List Value → Mem → Option (List Value × Mem) := match i with
  | .ldc ix => fun SA own ini st M => match gOwn cRs own ix with
    | some (v, _) => some (.int v :: st, M)
    | none => match gOwn tRs own ix with
      | some (k, _) => some (.retAddr (10 + k) :: st, M)
      | none => none
  | .ldc_w ix => fun SA own ini st M => match gOwn cRs own ix with
    | some (v, _) => some (.int v :: st, M)
    | none => none
  | .ldc2_w ix => fun SA own ini st M => match gOwn lRs own ix with
    | some (v, _) => some (.long v :: st, M)
    | none => none
  | .getstatic ix => fun SA own ini st M => match gOwn sRs own ix with
    | some (j, _) => some (.retAddr j :: st, M)
    | none => none
  | .getfield ix => fun SA own ini st M => match st with
    | .ref a :: r => match gOwn fRs own ix, gNth M a with
      | some (ci, k, _), some (.inr (c, fs)) => match Nat.beq c ci, gNth fs k with
        | true, some v => some (v :: r, M)
        | _, _ => none
      | _, _ => none
    | _ => none
  | .putfield ix => fun SA own ini st M => match st with
    | v :: .ref a :: r => match gOwn fRs own ix, gNth M a with
      | some (ci, k, _), some (.inr (c, fs)) => match Nat.beq c ci && Nat.blt k fs.length && (!gFin ci k || (ini && Nat.beq own ci)) && fits (gTy ci k) v with
        | true => some (r, gPut M a (.inr (c, gPut fs k v)))
        | _ => none
      | _, _ => none
    | _ => none
  | .iaload => fun SA own ini st M => match st with
    | .int j :: .ref a :: r => match gNth M a with
      | some (.inl (1, .inl l)) => match gAt l j with
        | some x => some (.int x :: r, M)
        | none => none
      | _ => none
    | .int j :: .retAddr a :: r => match gSx SA a with
      | some l => match gAt l j with
        | some x => some (.int x :: r, M)
        | none => none
      | none => none
    | _ => none
  | .baload => fun SA own ini st M => match st with
    | .int j :: .ref a :: r => match gNth M a with
      | some (.inl (0, .inl l)) => match gAt l j with
        | some x => some (.int x :: r, M)
        | none => none
      | some (.inl (3, .inl l)) => match gAt l j with
        | some x => some (.int x :: r, M)
        | none => none
      | _ => none
    | _ => none
  | .laload => fun SA own ini st M => match st with
    | .int j :: .ref a :: r => match gNth M a with
      | some (.inl (2, .inr (.inl l))) => match gAt l j with
        | some x => some (.long x :: r, M)
        | none => none
      | _ => none
    | _ => none
  | .aaload => fun SA own ini st M => match st with
    | .int j :: .ref a :: r => match gNth M a with
      | some (.inl (t, .inr (.inr l))) => match gAt l j with
        | some x => cond (Nat.ble 4 t && Nat.ble t 8) (some (va_rf x :: r, M)) none
        | none => none
      | _ => none
    | _ => none
  | .iastore => fun SA own ini st M => match st with
    | .int x :: .int j :: .ref a :: r => match gNth M a with
      | some (.inl (1, .inl l)) => match gAt l j with
        | some _ => some (r, gPut M a (.inl (1, .inl (gPut l j.toNatClampNeg x))))
        | none => none
      | _ => none
    | _ => none
  | .bastore => fun SA own ini st M => match st with
    | .int x :: .int j :: .ref a :: r => match gNth M a with
      | some (.inl (0, .inl l)) => match gAt l j with
        | some _ => some (r, gPut M a (.inl (0, .inl (gPut l j.toNatClampNeg (vp_nar .byte x)))))
        | none => none
      | some (.inl (3, .inl l)) => match gAt l j with
        | some _ => some (r, gPut M a (.inl (3, .inl (gPut l j.toNatClampNeg (vp_nar .boolean x)))))
        | none => none
      | _ => none
    | _ => none
  | .lastore => fun SA own ini st M => match st with
    | .long x :: .int j :: .ref a :: r => match gNth M a with
      | some (.inl (2, .inr (.inl l))) => match gAt l j with
        | some _ => some (r, gPut M a (.inl (2, .inr (.inl (gPut l j.toNatClampNeg x)))))
        | none => none
      | _ => none
    | _ => none
  | .aastore => fun SA own ini st M => match st with
    | .ref v :: .int j :: .ref a :: r => match gNth M a, gNth M v with
      | some (.inl (t, .inr (.inr l))), some (.inr (c, _)) => match gAt l j with
        | some _ => cond (Nat.beq (gEl t) c) (some (r, gPut M a (.inl (t, .inr (.inr (gPut l j.toNatClampNeg (some v))))))) none
        | none => none
      | _, _ => none
    | _ => none
  | .arraylength => fun SA own ini st M => match st with
    | .ref a :: r => match gNth M a with
      | some (.inl (1, .inl l)) => some (.int (Int32.ofNat (gLn l)) :: r, M)
      | some (.inl (3, .inl l)) => some (.int (Int32.ofNat (gLn l)) :: r, M)
      | _ => none
    | .retAddr a :: r => match gSx SA a with
      | some l => some (.int (Int32.ofNat (gLn l)) :: r, M)
      | none => none
    | _ => none
  | _ => fun SA own ini st M => none
/-- the numbers b, b + 1, .. -/
noncomputable def gSeq (n : Nat) : Nat → List (Option Nat) := Nat.rec (motive := fun _ => Nat → List (Option Nat)) (fun _ => []) (fun _ ih b => some b :: ih (b + 1)) n
/-- what a new array of a kind holds -/
noncomputable def gZero (t n : Nat) : AE := match t with
  | 2 => .inl (2, .inr (.inl (gRep n 0)))
  | 0 => .inl (0, .inl (gRep n 0))
  | 1 => .inl (1, .inl (gRep n 0))
  | 3 => .inl (3, .inl (gRep n 0))
  | t => .inl (t, .inr (.inr (gRep n none)))
def gTag : ArrayType → Option Nat
  | .byte => some 0
  | .int => some 1
  | .long => some 2
  | .boolean => some 3
  | _ => none
def gSz (n : Int32) : Bool := !decide (n < 0) && Nat.ble n.toNatClampNeg 60000
/-- instructions that make cells: the stack, the memory, how many cells, how many fields or elements -/
noncomputable def gNew (i : Instr) : Nat → List Value → Mem → Option (List Value × Mem × Nat × Nat) := match i with
  | .new ix => fun own st M => match gOwn nRs own ix with
    | some (ci, _) => match gNth gNF ci with
      | some n => some (.ref (gLn M) :: st, M ++ [.inr (ci, gDef ci)], 1, n)
      | none => none
    | none => none
  | .newarray ty => fun own st M => match st with
    | .int n :: r => match gTag ty with
      | some t => cond (gSz n) (some (.ref (gLn M) :: r, M ++ [gZero t n.toNatClampNeg], 1, n.toNatClampNeg)) none
      | none => none
    | _ => none
  | .anewarray ix => fun own st M => match st with
    | .int n :: r => match gOwn aRs own ix with
      | some (t, _) => cond (gSz n && Nat.ble t 7) (some (.ref (gLn M) :: r, M ++ [gZero t n.toNatClampNeg], 1, n.toNatClampNeg)) none
      | none => none
    | _ => none
  | .multianewarray ix d9 => fun own st M => match st with
    | .int k :: .int n :: r => match gOwn aRs own ix with
      | some (t, _) => cond (Nat.beq d9 2 && Nat.beq t 8 && gSz n && gSz k) (some (.ref (gLn M) :: r, M ++ (.inl (8, .inr (.inr (gSeq n.toNatClampNeg (gLn M + 1)))) :: gRep n.toNatClampNeg (gZero 1 k.toNatClampNeg)), 1 + n.toNatClampNeg, n.toNatClampNeg + n.toNatClampNeg * k.toNatClampNeg)) none
      | none => none
    | _ => none
  | _ => fun own st M => none
def gRet (ret : Option FieldType) (i : Instr) (st : List Value) : Option (Option Value) := match i with
  | .return_ => match ret, st with
    | none, [] => some none
    | _, _ => none
  | .ireturn => match ret, st with
    | some .int, [.int x] => some (some (.int x))
    | some .boolean, [.int x] => cond (fits .boolean (.int x)) (some (some (.int x))) none
    | _, _ => none
  | _ => none
/-- the locals of a method out of its arguments -/
def gArgs : List Value → Lo
  | [] => []
  | v :: r => cond (gC1 v) (some v :: gArgs r) (some v :: none :: gArgs r)
def gPad (n : Nat) (l : Lo) : Lo := l ++ List.replicate (n - l.length) none
def gRoom (st : List Value) : Bool := Nat.ble ((st.map Value.category).sum) 8
/-- calls of methods that are taken as one step -/
noncomputable def gNat (id : Nat) : List Value → Mem → Option (List Value × Mem) := match id with
  | 1000 => fun st M => match st with
    | .ref _ :: r => some (r, M)
    | _ => none
  | 1001 => fun st M => match st with
    | .int x :: r => some (.int (if 0 ≤ x then x else 0 - x) :: r, M)
    | _ => none
  | 1002 => fun st M => match st with
    | .int y :: .int x :: r => some (.int (if x < y then y else x) :: r, M)
    | _ => none
  | 1003 => fun st M => match st with
    | .int y :: .int x :: r => some (.int (if y < x then y else x) :: r, M)
    | _ => none
  | 1004 => fun st M => match st with
    | .int v :: .ref a :: r => match gNth M a with
      | some (.inl (1, .inl l)) => cond (Nat.ble (gLn l) 60000) (some (r, gPut M a (.inl (1, .inl (gRep (gLn l) v))))) none
      | _ => none
    | _ => none
  | 1005 => fun st M => match st with
    | .int n :: .int dp :: .ref b :: .int sp :: .ref a :: r => match gNth M a, gNth M b with
      | some (.inl (1, .inl f)), some (.inl (1, .inl g)) => cond (!decide (sp < 0) && !decide (dp < 0) && !decide (n < 0) && Nat.ble (sp.toNatClampNeg + n.toNatClampNeg) (gLn f) && Nat.ble (dp.toNatClampNeg + n.toNatClampNeg) (gLn g)) (some (r, gPut M b (.inl (1, .inl (g.take dp.toNatClampNeg ++ ((f.drop sp.toNatClampNeg).take n.toNatClampNeg ++ g.drop (dp.toNatClampNeg + n.toNatClampNeg))))))) none
      | _, _ => none
    | _ => none
  | 1006 => fun st M => match st with
    | .retAddr a :: r => cond (Nat.ble 10 a && Nat.blt a 17) (some (.int (Int32.ofNat (gLn (gTx (a - 10)))) :: r, M)) none
    | _ => none
  | 1007 => fun st M => match st with
    | .int i :: .retAddr a :: r => cond (Nat.ble 10 a && Nat.blt a 17) (match gAt (gTx (a - 10)) i with
      | some x => some (.int x :: r, M)
      | none => none) none
    | _ => none
  | _ => fun st M => none
/-- the receiver is an object of class o -/
noncomputable def gRecv (M : Mem) (v : Value) (o : Nat) : Bool := match v with
  | .ref a => match gNth M a with
    | some (.inr (c, _)) => Nat.beq c o
    | _ => false
  | _ => false
/-- a call: a step of its own, or a method, its locals, and what stays on the stack -/
noncomputable def gCalk (o ix kind : Nat) (st : List Value) (M : Mem) : Option ((List Value × Mem) ⊕ (Nat × Lo × List Value)) := match gOwn mRes o ix with
  | none => none
  | some (id, nest, _) => match Nat.ble 1000 id with
    | true => match gNat id st M with
      | some q => cond (Nat.beq kind (cond (Nat.beq id 1000) 2 (cond (Nat.ble 1006 id) 1 0)) && gRoom q.1) (some (.inl q)) none
      | none => none
    | false => match gNth mRs id with
      | none => none
      | some (o2, _, _, maxL, _, np, kf, _) => match kind with
        | 0 => cond (Nat.beq kf 0 && Nat.ble np st.length && gRoom (st.drop np) && Nat.ble (gArgs (st.take np).reverse).length maxL) (some (.inr (id, gPad maxL (gArgs (st.take np).reverse), st.drop np))) none
        | k + 1 => match st.drop np with
          | v :: r => cond (Nat.beq kf (k + 1) && (Nat.beq nest 0 || Nat.beq k 1) && Nat.ble np st.length && gRecv M v o2 && gRoom r && Nat.ble (gArgs (v :: (st.take np).reverse)).length maxL) (some (.inr (id, gPad maxL (gArgs (v :: (st.take np).reverse)), r))) none
          | [] => none
noncomputable def gCal (i : Instr) : Nat → List Value → Mem → Option ((List Value × Mem) ⊕ (Nat × Lo × List Value)) := match i with
  | .invokestatic ix => fun o st M => gCalk o ix 0 st M
  | .invokevirtual ix => fun o st M => gCalk o ix 1 st M
  | .invokespecial ix => fun o st M => gCalk o ix 2 st M
  | _ => fun _ _ _ => none
def gAdd (c s : Nat) (r : Rs) : Rs := match r with
  | some (v, M, c', s') => some (v, M, c + c', s + s')
  | none => none
def gThen (r : Rs) (k : Option Value → Mem → Nat → Nat → Rs) : Rs := match r with
  | some (v, M, c, s) => k v M c s
  | none => none
abbrev Run : Type := Nat → Nat → Nat → Lo → List Value → Mem → Rs
/-- one step, then as rec says (recM: where the memory has changed); the kinds of instructions: 0 stack, 1 locals, 2 branch, 3 reading, 4 writing, 5 making, 6 return, 7 call -/
noncomputable def gStep (SA : Sta) (rec recM : Run) (d me pc : Nat) (ls : Lo) (st : List Value) (M : Mem) : Rs := match gNth mRs me with
  | none => none
  | some (o, _, _, _, ret, _, kf, tab) => match gLook tab pc with
    | none => none
    | some (kd, i) => match kd with
      | 0 => match gAlu i st with
        | some st' => rec d me (pc + gLen i) ls st' M
        | none => none
      | 1 => match gLoc i ls st with
        | some (ls', st') => rec d me (pc + gLen i) ls' st' M
        | none => none
      | 2 => match gJmp i pc st with
        | some (pc', st') => rec d me pc' ls st' M
        | none => none
      | 3 => match gGet i SA o (Nat.beq kf 2) st M with
        | some (st', M') => rec d me (pc + gLen i) ls st' M'
        | none => none
      | 4 => match gGet i SA o (Nat.beq kf 2) st M with
        | some (st', M') => recM d me (pc + gLen i) ls st' M'
        | none => none
      | 5 => match gNew i o st M with
        | some (st', M', c, s) => gAdd c s (recM d me (pc + gLen i) ls st' M')
        | none => none
      | 6 => match gRet ret i st with
        | some v => some (v, M, 0, 0)
        | none => none
      | _ => match d with
        | 0 => none
        | d' + 1 => match gCal i o st M with
          | none => none
          | some (.inl (st', M')) => recM (d' + 1) me (pc + 3) ls st' M'
          | some (.inr (id, ls0, rest)) => gThen (rec d' id 0 ls0 [] M) (fun v M' c s => gAdd c s (rec (d' + 1) me (pc + 3) ls (v.toList ++ rest) M'))
noncomputable def go (SA : Sta) (n : Nat) : Run := Nat.rec (motive := fun _ => Run) (fun _ _ _ _ _ _ => none) (fun _ ih => gStep SA ih ih) n
/-- the same, for numbers that are all known: what it holds is laid flat at each step -/
noncomputable def gPc {α : Type} (n : Nat) (k : Nat → α) : α := Nat.casesOn n (k 0) (fun m => k (m + 1))
noncomputable def gSp {α β : Type} (l : List α) : (List α → β) → β := List.rec (motive := fun _ => (List α → β) → β) (fun k => k []) (fun x _ ih k => ih (fun ys => k (x :: ys))) l
noncomputable def goF (SA : Sta) (n : Nat) : Run := Nat.rec (motive := fun _ => Run) (fun _ _ _ _ _ _ => none) (fun _ ih d me pc ls st M => gPc pc (fun pc => gStep SA ih (fun d me pc ls st M => gSp M (fun M => ih d me pc ls st M)) d me pc ls st M)) n
theorem gPc_eq {α : Type} (n : Nat) (k : Nat → α) : gPc n k = k n := by cases n <;> rfl
theorem gSp_eq {α β : Type} (l : List α) : ∀ k : List α → β, gSp l k = k l := by
  induction l with
  | nil => intro k; rfl
  | cons x xs ih => intro k; exact ih _
theorem goF_eq (SA : Sta) : ∀ n : Nat, goF SA n = go SA n := by
  intro n
  induction n with
  | zero => rfl
  | succ n ih =>
    funext d me pc ls st M
    show gPc pc (fun pc => gStep SA (goF SA n) (fun d me pc ls st M => gSp M (fun M => goF SA n d me pc ls st M)) d me pc ls st M) = gStep SA (go SA n) (go SA n) d me pc ls st M
    rw [gPc_eq]
    have h : (fun d me pc ls st M => gSp M (fun M => goF SA n d me pc ls st M)) = go SA n := by
      funext d me pc ls st M
      rw [gSp_eq, ih]
    rw [h, ih]
