/-- a row of a code table decodes as it says -/
def ckD (cc : ByteArray) (q : Nat × Nat × Instr) : Bool := match q.2.2 with
  | .tableswitch d lo hi offs => (match decode cc q.1 with
    | .ok (i, _) => decide (i = .tableswitch d lo hi offs)
    | _ => false)
  | .lookupswitch d ps => (match decode cc q.1 with
    | .ok (i, _) => decide (i = .lookupswitch d ps)
    | _ => false)
  | i => (match decode cc q.1 with
    | .ok (j, n) => decide (j = i) && Nat.beq n (gLen i)
    | _ => false)
/-! decoding by the bytes that an instruction is written as -/
section FDEC
variable {cc : ByteArray} {pc p k m n b1 b2 kd : Nat} {i : Instr} {b : UInt8} {r s : List UInt8} {bs : List Nat} {x : Int}
theorem dqOf {F : Nat → Decoder Instr} (hu : Reader.runAt (ε := DecodeError) Reader.u1 cc pc = .ok (k, pc + 1)) (hF : Decoder.instr pc = Reader.u1 >>= F) (h : Reader.runAt (F k) cc (pc + 1) = .ok (i, pc + m)) : decode cc pc = .ok (i, m) := by
  show Except.bind (Reader.runAt (Decoder.instr pc) cc pc) _ = _
  rw [hF]
  show Except.bind (Except.bind (Reader.runAt (ε := DecodeError) Reader.u1 cc pc) (fun q => Reader.runAt (F q.1) cc q.2)) _ = _
  rw [hu]
  show Except.bind (Reader.runAt (F k) cc (pc + 1)) _ = _
  rw [h]
  show Except.ok (i, pc + m - pc) = _
  rw [Nat.add_sub_cancel_left]
theorem dqU (h : cc.data.toList.drop p = b :: r) : Reader.runAt (ε := DecodeError) Reader.u1 cc p = .ok (b.toNat, p + 1) ∧ cc.data.toList.drop (p + 1) = r := by
  have h1 := congrArg List.head? h
  rw [List.head?_drop] at h1
  have h1 : cc.data.toList[p]? = some b := h1
  rw [Array.getElem?_toList] at h1
  obtain ⟨hl, e⟩ := Array.getElem?_eq_some_iff.mp h1
  have h2 := congrArg (List.drop 1) h
  rw [List.drop_drop] at h2
  refine ⟨?_, h2⟩
  have hl : p < cc.size := hl
  show (dite (p < cc.size) (fun h => (do set (p + 1); pure (cc[p]'h).toNat : Decoder Nat)) (fun _ => (throw (HasTruncated.truncated p) : Decoder Nat))) cc p = _
  rw [dif_pos hl]
  show Except.ok ((cc[p]'hl).toNat, p + 1) = _
  have e : cc[p]'hl = b := e
  rw [e]
theorem dqo1 {C : Nat → Instr} (h1 : Reader.runAt (ε := DecodeError) Reader.u1 cc p = .ok (b1, p + 1)) : Reader.runAt (do pure (C (← Reader.u1)) : Decoder Instr) cc p = .ok (C b1, p + 1) := by
  show Except.bind (Reader.runAt (ε := DecodeError) Reader.u1 cc p) _ = _
  rw [h1]
  rfl
theorem dqos1 {C : Int → Instr} (h1 : Reader.runAt (ε := DecodeError) Reader.u1 cc p = .ok (b1, p + 1)) : Reader.runAt (do pure (C (← Reader.s1)) : Decoder Instr) cc p = .ok (C (Reader.signed 8 b1), p + 1) := by
  show Except.bind (Except.bind (Reader.runAt (ε := DecodeError) Reader.u1 cc p) _) _ = _
  rw [h1]
  rfl
theorem dqo2 {C : Nat → Instr} (h1 : Reader.runAt (ε := DecodeError) Reader.u1 cc p = .ok (b1, p + 1)) (h2 : Reader.runAt (ε := DecodeError) Reader.u1 cc (p + 1) = .ok (b2, p + 1 + 1)) : Reader.runAt (do pure (C (← Reader.u2)) : Decoder Instr) cc p = .ok (C (b1 * 256 + b2), p + 1 + 1) := by
  show Except.bind (Except.bind (Reader.runAt (ε := DecodeError) Reader.u1 cc p) _) _ = _
  rw [h1]
  show Except.bind (Except.bind (Reader.runAt (ε := DecodeError) Reader.u1 cc (p + 1)) _) _ = _
  rw [h2]
  rfl
theorem dqos2 {C : Int → Instr} (h1 : Reader.runAt (ε := DecodeError) Reader.u1 cc p = .ok (b1, p + 1)) (h2 : Reader.runAt (ε := DecodeError) Reader.u1 cc (p + 1) = .ok (b2, p + 1 + 1)) : Reader.runAt (do pure (C (← Reader.s2)) : Decoder Instr) cc p = .ok (C (Reader.signed 16 (b1 * 256 + b2)), p + 1 + 1) := by
  show Except.bind (Except.bind (Except.bind (Reader.runAt (ε := DecodeError) Reader.u1 cc p) _) _) _ = _
  rw [h1]
  show Except.bind (Except.bind (Except.bind (Reader.runAt (ε := DecodeError) Reader.u1 cc (p + 1)) _) _) _ = _
  rw [h2]
  rfl
theorem dqoi (h1 : Reader.runAt (ε := DecodeError) Reader.u1 cc p = .ok (b1, p + 1)) (h2 : Reader.runAt (ε := DecodeError) Reader.u1 cc (p + 1) = .ok (b2, p + 1 + 1)) : Reader.runAt (do pure (.iinc (← Reader.u1) (← Reader.s1)) : Decoder Instr) cc p = .ok (.iinc b1 (Reader.signed 8 b2), p + 1 + 1) := by
  show Except.bind (Reader.runAt (ε := DecodeError) Reader.u1 cc p) _ = _
  rw [h1]
  show Except.bind (Except.bind (Reader.runAt (ε := DecodeError) Reader.u1 cc (p + 1)) _) _ = _
  rw [h2]
  rfl
theorem dqs8 (h0 : -128 ≤ x) (h1 : x ≤ 127) : Reader.signed 8 (x % 256).toNat = x := by
  show (if (x % 256).toNat < 128 then (((x % 256).toNat : Nat) : Int) else (((x % 256).toNat : Nat) : Int) - 256) = x
  split <;> omega
theorem dqs16 (h0 : -32768 ≤ x) (h1 : x ≤ 32767) : Reader.signed 16 ((x % 65536).toNat / 256 * 256 + (x % 65536).toNat % 256) = x := by
  show (if (x % 65536).toNat / 256 * 256 + (x % 65536).toNat % 256 < 32768 then (((x % 65536).toNat / 256 * 256 + (x % 65536).toNat % 256 : Nat) : Int) else (((x % 65536).toNat / 256 * 256 + (x % 65536).toNat % 256 : Nat) : Int) - 65536) = x
  split <;> omega
theorem dqK (hd : decode cc pc = .ok (i, m)) (hm : Nat.beq m (gLen i) = true) : (match decode cc pc with
    | .ok (j, n) => decide (j = i) && Nat.beq n (gLen i)
    | _ => false) = true := by
  rw [hd]
  show (decide (i = i) && Nat.beq m (gLen i)) = true
  rw [decide_eq_true rfl, hm]
  rfl
def dqC : Jvm.ClassFile.Cond → Nat
  | .eq => 0 | .ne => 1 | .lt => 2 | .ge => 3 | .gt => 4 | .le => 5
/-- the bytes of an instruction -/
def dqE : Instr → Option (List Nat)
  | .iaload => some [46]
  | .laload => some [47]
  | .aaload => some [50]
  | .baload => some [51]
  | .iastore => some [79]
  | .lastore => some [80]
  | .aastore => some [83]
  | .bastore => some [84]
  | .pop => some [87]
  | .dup => some [89]
  | .dup_x1 => some [90]
  | .dup2 => some [92]
  | .iadd => some [96]
  | .ladd => some [97]
  | .isub => some [100]
  | .lsub => some [101]
  | .imul => some [104]
  | .idiv => some [108]
  | .irem => some [112]
  | .ineg => some [116]
  | .ishl => some [120]
  | .lshl => some [121]
  | .ishr => some [122]
  | .iushr => some [124]
  | .lushr => some [125]
  | .iand => some [126]
  | .land => some [127]
  | .ior => some [128]
  | .lor => some [129]
  | .ixor => some [130]
  | .lxor => some [131]
  | .i2l => some [133]
  | .l2i => some [136]
  | .i2b => some [145]
  | .lcmp => some [148]
  | .ireturn => some [172]
  | .return_ => some [177]
  | .arraylength => some [190]
  | .aload_n n => some [42 + n.val]
  | .iload_n n => some [26 + n.val]
  | .istore_n n => some [59 + n.val]
  | .astore_n n => some [75 + n.val]
  | .lload_n n => some [30 + n.val]
  | .lstore_n n => some [63 + n.val]
  | .lconst n => some [9 + n.val]
  | .iconst x => bif decide (-1 ≤ x) && decide (x ≤ 5) then some [(x + 3).toNat] else none
  | .ldc n => some [18, n]
  | .iload n => some [21, n]
  | .lload n => some [22, n]
  | .aload n => some [25, n]
  | .istore n => some [54, n]
  | .lstore n => some [55, n]
  | .astore n => some [58, n]
  | .ldc_w n => some [19, n / 256, n % 256]
  | .ldc2_w n => some [20, n / 256, n % 256]
  | .getstatic n => some [178, n / 256, n % 256]
  | .getfield n => some [180, n / 256, n % 256]
  | .putfield n => some [181, n / 256, n % 256]
  | .invokevirtual n => some [182, n / 256, n % 256]
  | .invokespecial n => some [183, n / 256, n % 256]
  | .invokestatic n => some [184, n / 256, n % 256]
  | .new n => some [187, n / 256, n % 256]
  | .anewarray n => some [189, n / 256, n % 256]
  | .bipush x => bif decide (-128 ≤ x) && decide (x ≤ 127) then some [16, (x % 256).toNat] else none
  | .sipush x => bif decide (-32768 ≤ x) && decide (x ≤ 32767) then some [17, (x % 65536).toNat / 256, (x % 65536).toNat % 256] else none
  | .goto x => bif decide (-32768 ≤ x) && decide (x ≤ 32767) then some [167, (x % 65536).toNat / 256, (x % 65536).toNat % 256] else none
  | .ifCond c x => bif decide (-32768 ≤ x) && decide (x ≤ 32767) then some [153 + dqC c, (x % 65536).toNat / 256, (x % 65536).toNat % 256] else none
  | .if_icmp c x => bif decide (-32768 ≤ x) && decide (x ≤ 32767) then some [159 + dqC c, (x % 65536).toNat / 256, (x % 65536).toNat % 256] else none
  | .iinc n x => bif decide (-128 ≤ x) && decide (x ≤ 127) then some [132, n, (x % 256).toNat] else none
  | _ => none
def dqP : List Nat → List UInt8 → Bool
  | [], _ => true
  | x :: xs, b :: bs => Nat.beq b.toNat x && dqP xs bs
  | _ :: _, [] => false
theorem dqPc {y : Nat} (h : dqP (y :: bs) s = true) : ∃ b r, s = b :: r ∧ b.toNat = y ∧ dqP bs r = true := by
  cases s with
  | nil => cases h
  | cons b r =>
    obtain ⟨h1, h2⟩ := Bool.and_eq_true_iff.mp (show (Nat.beq b.toNat y && dqP bs r) = true from h)
    exact ⟨b, r, rfl, Nat.eq_of_beq_eq_true h1, h2⟩
theorem dqb1 (h : dqP [k] (cc.data.toList.drop pc) = true) : Reader.runAt (ε := DecodeError) Reader.u1 cc pc = .ok (k, pc + 1) := by
  obtain ⟨b, r, e, e1, _⟩ := dqPc h
  rw [(dqU e).1, e1]
theorem dqb2 (h : dqP [k, b1] (cc.data.toList.drop pc) = true) : Reader.runAt (ε := DecodeError) Reader.u1 cc pc = .ok (k, pc + 1) ∧ Reader.runAt (ε := DecodeError) Reader.u1 cc (pc + 1) = .ok (b1, pc + 1 + 1) := by
  obtain ⟨b, r, e, e1, h⟩ := dqPc h
  obtain ⟨u1, u2⟩ := dqU e
  rw [← u2] at h
  exact ⟨by rw [u1, e1], dqb1 h⟩
theorem dqb3 (h : dqP [k, b1, b2] (cc.data.toList.drop pc) = true) : Reader.runAt (ε := DecodeError) Reader.u1 cc pc = .ok (k, pc + 1) ∧ Reader.runAt (ε := DecodeError) Reader.u1 cc (pc + 1) = .ok (b1, pc + 1 + 1) ∧ Reader.runAt (ε := DecodeError) Reader.u1 cc (pc + 1 + 1) = .ok (b2, pc + 1 + 1 + 1) := by
  obtain ⟨b, r, e, e1, h⟩ := dqPc h
  obtain ⟨u1, u2⟩ := dqU e
  rw [← u2] at h
  exact ⟨by rw [u1, e1], dqb2 h⟩
theorem dqB {c d : Bool} {z : List Nat} (h : (bif c && d then some z else none) = some bs) : (c = true ∧ d = true) ∧ z = bs := by
  cases c with
  | false => exact absurd (show (none : Option (List Nat)) = some bs from h) (by intro q; cases q)
  | true =>
    cases d with
    | false => exact absurd (show (none : Option (List Nat)) = some bs from h) (by intro q; cases q)
    | true => exact ⟨⟨rfl, rfl⟩, Option.some.inj h⟩
theorem dqN (h : dqE i = some bs) (hp : dqP bs (cc.data.toList.drop pc) = true) : ckD cc (pc, kd, i) = true := by
  cases i with
  | iaload =>
    obtain rfl := Option.some.inj (show some [46] = some bs from h)
    exact dqK (dqOf (dqb1 hp) rfl rfl) rfl
  | laload =>
    obtain rfl := Option.some.inj (show some [47] = some bs from h)
    exact dqK (dqOf (dqb1 hp) rfl rfl) rfl
  | aaload =>
    obtain rfl := Option.some.inj (show some [50] = some bs from h)
    exact dqK (dqOf (dqb1 hp) rfl rfl) rfl
  | baload =>
    obtain rfl := Option.some.inj (show some [51] = some bs from h)
    exact dqK (dqOf (dqb1 hp) rfl rfl) rfl
  | iastore =>
    obtain rfl := Option.some.inj (show some [79] = some bs from h)
    exact dqK (dqOf (dqb1 hp) rfl rfl) rfl
  | lastore =>
    obtain rfl := Option.some.inj (show some [80] = some bs from h)
    exact dqK (dqOf (dqb1 hp) rfl rfl) rfl
  | aastore =>
    obtain rfl := Option.some.inj (show some [83] = some bs from h)
    exact dqK (dqOf (dqb1 hp) rfl rfl) rfl
  | bastore =>
    obtain rfl := Option.some.inj (show some [84] = some bs from h)
    exact dqK (dqOf (dqb1 hp) rfl rfl) rfl
  | pop =>
    obtain rfl := Option.some.inj (show some [87] = some bs from h)
    exact dqK (dqOf (dqb1 hp) rfl rfl) rfl
  | dup =>
    obtain rfl := Option.some.inj (show some [89] = some bs from h)
    exact dqK (dqOf (dqb1 hp) rfl rfl) rfl
  | dup_x1 =>
    obtain rfl := Option.some.inj (show some [90] = some bs from h)
    exact dqK (dqOf (dqb1 hp) rfl rfl) rfl
  | dup2 =>
    obtain rfl := Option.some.inj (show some [92] = some bs from h)
    exact dqK (dqOf (dqb1 hp) rfl rfl) rfl
  | iadd =>
    obtain rfl := Option.some.inj (show some [96] = some bs from h)
    exact dqK (dqOf (dqb1 hp) rfl rfl) rfl
  | ladd =>
    obtain rfl := Option.some.inj (show some [97] = some bs from h)
    exact dqK (dqOf (dqb1 hp) rfl rfl) rfl
  | isub =>
    obtain rfl := Option.some.inj (show some [100] = some bs from h)
    exact dqK (dqOf (dqb1 hp) rfl rfl) rfl
  | lsub =>
    obtain rfl := Option.some.inj (show some [101] = some bs from h)
    exact dqK (dqOf (dqb1 hp) rfl rfl) rfl
  | imul =>
    obtain rfl := Option.some.inj (show some [104] = some bs from h)
    exact dqK (dqOf (dqb1 hp) rfl rfl) rfl
  | idiv =>
    obtain rfl := Option.some.inj (show some [108] = some bs from h)
    exact dqK (dqOf (dqb1 hp) rfl rfl) rfl
  | irem =>
    obtain rfl := Option.some.inj (show some [112] = some bs from h)
    exact dqK (dqOf (dqb1 hp) rfl rfl) rfl
  | ineg =>
    obtain rfl := Option.some.inj (show some [116] = some bs from h)
    exact dqK (dqOf (dqb1 hp) rfl rfl) rfl
  | ishl =>
    obtain rfl := Option.some.inj (show some [120] = some bs from h)
    exact dqK (dqOf (dqb1 hp) rfl rfl) rfl
  | lshl =>
    obtain rfl := Option.some.inj (show some [121] = some bs from h)
    exact dqK (dqOf (dqb1 hp) rfl rfl) rfl
  | ishr =>
    obtain rfl := Option.some.inj (show some [122] = some bs from h)
    exact dqK (dqOf (dqb1 hp) rfl rfl) rfl
  | iushr =>
    obtain rfl := Option.some.inj (show some [124] = some bs from h)
    exact dqK (dqOf (dqb1 hp) rfl rfl) rfl
  | lushr =>
    obtain rfl := Option.some.inj (show some [125] = some bs from h)
    exact dqK (dqOf (dqb1 hp) rfl rfl) rfl
  | iand =>
    obtain rfl := Option.some.inj (show some [126] = some bs from h)
    exact dqK (dqOf (dqb1 hp) rfl rfl) rfl
  | land =>
    obtain rfl := Option.some.inj (show some [127] = some bs from h)
    exact dqK (dqOf (dqb1 hp) rfl rfl) rfl
  | ior =>
    obtain rfl := Option.some.inj (show some [128] = some bs from h)
    exact dqK (dqOf (dqb1 hp) rfl rfl) rfl
  | lor =>
    obtain rfl := Option.some.inj (show some [129] = some bs from h)
    exact dqK (dqOf (dqb1 hp) rfl rfl) rfl
  | ixor =>
    obtain rfl := Option.some.inj (show some [130] = some bs from h)
    exact dqK (dqOf (dqb1 hp) rfl rfl) rfl
  | lxor =>
    obtain rfl := Option.some.inj (show some [131] = some bs from h)
    exact dqK (dqOf (dqb1 hp) rfl rfl) rfl
  | i2l =>
    obtain rfl := Option.some.inj (show some [133] = some bs from h)
    exact dqK (dqOf (dqb1 hp) rfl rfl) rfl
  | l2i =>
    obtain rfl := Option.some.inj (show some [136] = some bs from h)
    exact dqK (dqOf (dqb1 hp) rfl rfl) rfl
  | i2b =>
    obtain rfl := Option.some.inj (show some [145] = some bs from h)
    exact dqK (dqOf (dqb1 hp) rfl rfl) rfl
  | lcmp =>
    obtain rfl := Option.some.inj (show some [148] = some bs from h)
    exact dqK (dqOf (dqb1 hp) rfl rfl) rfl
  | ireturn =>
    obtain rfl := Option.some.inj (show some [172] = some bs from h)
    exact dqK (dqOf (dqb1 hp) rfl rfl) rfl
  | return_ =>
    obtain rfl := Option.some.inj (show some [177] = some bs from h)
    exact dqK (dqOf (dqb1 hp) rfl rfl) rfl
  | arraylength =>
    obtain rfl := Option.some.inj (show some [190] = some bs from h)
    exact dqK (dqOf (dqb1 hp) rfl rfl) rfl
  | aload_n n =>
    obtain rfl := Option.some.inj (show some [42 + n.val] = some bs from h)
    match n, hp with
    | ⟨0, _⟩, hp => exact dqK (dqOf (k := 42) (dqb1 hp) rfl rfl) rfl
    | ⟨1, _⟩, hp => exact dqK (dqOf (k := 43) (dqb1 hp) rfl rfl) rfl
    | ⟨2, _⟩, hp => exact dqK (dqOf (k := 44) (dqb1 hp) rfl rfl) rfl
    | ⟨3, _⟩, hp => exact dqK (dqOf (k := 45) (dqb1 hp) rfl rfl) rfl
  | iload_n n =>
    obtain rfl := Option.some.inj (show some [26 + n.val] = some bs from h)
    match n, hp with
    | ⟨0, _⟩, hp => exact dqK (dqOf (k := 26) (dqb1 hp) rfl rfl) rfl
    | ⟨1, _⟩, hp => exact dqK (dqOf (k := 27) (dqb1 hp) rfl rfl) rfl
    | ⟨2, _⟩, hp => exact dqK (dqOf (k := 28) (dqb1 hp) rfl rfl) rfl
    | ⟨3, _⟩, hp => exact dqK (dqOf (k := 29) (dqb1 hp) rfl rfl) rfl
  | istore_n n =>
    obtain rfl := Option.some.inj (show some [59 + n.val] = some bs from h)
    match n, hp with
    | ⟨0, _⟩, hp => exact dqK (dqOf (k := 59) (dqb1 hp) rfl rfl) rfl
    | ⟨1, _⟩, hp => exact dqK (dqOf (k := 60) (dqb1 hp) rfl rfl) rfl
    | ⟨2, _⟩, hp => exact dqK (dqOf (k := 61) (dqb1 hp) rfl rfl) rfl
    | ⟨3, _⟩, hp => exact dqK (dqOf (k := 62) (dqb1 hp) rfl rfl) rfl
  | astore_n n =>
    obtain rfl := Option.some.inj (show some [75 + n.val] = some bs from h)
    match n, hp with
    | ⟨0, _⟩, hp => exact dqK (dqOf (k := 75) (dqb1 hp) rfl rfl) rfl
    | ⟨1, _⟩, hp => exact dqK (dqOf (k := 76) (dqb1 hp) rfl rfl) rfl
    | ⟨2, _⟩, hp => exact dqK (dqOf (k := 77) (dqb1 hp) rfl rfl) rfl
    | ⟨3, _⟩, hp => exact dqK (dqOf (k := 78) (dqb1 hp) rfl rfl) rfl
  | lload_n n =>
    obtain rfl := Option.some.inj (show some [30 + n.val] = some bs from h)
    match n, hp with
    | ⟨0, _⟩, hp => exact dqK (dqOf (k := 30) (dqb1 hp) rfl rfl) rfl
    | ⟨1, _⟩, hp => exact dqK (dqOf (k := 31) (dqb1 hp) rfl rfl) rfl
    | ⟨2, _⟩, hp => exact dqK (dqOf (k := 32) (dqb1 hp) rfl rfl) rfl
    | ⟨3, _⟩, hp => exact dqK (dqOf (k := 33) (dqb1 hp) rfl rfl) rfl
  | lstore_n n =>
    obtain rfl := Option.some.inj (show some [63 + n.val] = some bs from h)
    match n, hp with
    | ⟨0, _⟩, hp => exact dqK (dqOf (k := 63) (dqb1 hp) rfl rfl) rfl
    | ⟨1, _⟩, hp => exact dqK (dqOf (k := 64) (dqb1 hp) rfl rfl) rfl
    | ⟨2, _⟩, hp => exact dqK (dqOf (k := 65) (dqb1 hp) rfl rfl) rfl
    | ⟨3, _⟩, hp => exact dqK (dqOf (k := 66) (dqb1 hp) rfl rfl) rfl
  | lconst n =>
    obtain rfl := Option.some.inj (show some [9 + n.val] = some bs from h)
    match n, hp with
    | ⟨0, _⟩, hp => exact dqK (dqOf (k := 9) (dqb1 hp) rfl rfl) rfl
    | ⟨1, _⟩, hp => exact dqK (dqOf (k := 10) (dqb1 hp) rfl rfl) rfl
  | iconst x =>
    obtain ⟨⟨h1, h2⟩, rfl⟩ := dqB h
    have h1 := of_decide_eq_true h1
    have h2 := of_decide_eq_true h2
    by_cases q0 : x = -1
    · subst q0
      exact dqK (dqOf (k := 2) (dqb1 hp) rfl rfl) rfl
    by_cases q1 : x = 0
    · subst q1
      exact dqK (dqOf (k := 3) (dqb1 hp) rfl rfl) rfl
    by_cases q2 : x = 1
    · subst q2
      exact dqK (dqOf (k := 4) (dqb1 hp) rfl rfl) rfl
    by_cases q3 : x = 2
    · subst q3
      exact dqK (dqOf (k := 5) (dqb1 hp) rfl rfl) rfl
    by_cases q4 : x = 3
    · subst q4
      exact dqK (dqOf (k := 6) (dqb1 hp) rfl rfl) rfl
    by_cases q5 : x = 4
    · subst q5
      exact dqK (dqOf (k := 7) (dqb1 hp) rfl rfl) rfl
    by_cases q6 : x = 5
    · subst q6
      exact dqK (dqOf (k := 8) (dqb1 hp) rfl rfl) rfl
    omega
  | ldc n =>
    obtain rfl := Option.some.inj (show some [18, n] = some bs from h)
    obtain ⟨u, v⟩ := dqb2 hp
    exact dqK (dqOf (m := 2) u rfl (dqo1 (C := .ldc) v)) rfl
  | iload n =>
    obtain rfl := Option.some.inj (show some [21, n] = some bs from h)
    obtain ⟨u, v⟩ := dqb2 hp
    exact dqK (dqOf (m := 2) u rfl (dqo1 (C := .iload) v)) rfl
  | lload n =>
    obtain rfl := Option.some.inj (show some [22, n] = some bs from h)
    obtain ⟨u, v⟩ := dqb2 hp
    exact dqK (dqOf (m := 2) u rfl (dqo1 (C := .lload) v)) rfl
  | aload n =>
    obtain rfl := Option.some.inj (show some [25, n] = some bs from h)
    obtain ⟨u, v⟩ := dqb2 hp
    exact dqK (dqOf (m := 2) u rfl (dqo1 (C := .aload) v)) rfl
  | istore n =>
    obtain rfl := Option.some.inj (show some [54, n] = some bs from h)
    obtain ⟨u, v⟩ := dqb2 hp
    exact dqK (dqOf (m := 2) u rfl (dqo1 (C := .istore) v)) rfl
  | lstore n =>
    obtain rfl := Option.some.inj (show some [55, n] = some bs from h)
    obtain ⟨u, v⟩ := dqb2 hp
    exact dqK (dqOf (m := 2) u rfl (dqo1 (C := .lstore) v)) rfl
  | astore n =>
    obtain rfl := Option.some.inj (show some [58, n] = some bs from h)
    obtain ⟨u, v⟩ := dqb2 hp
    exact dqK (dqOf (m := 2) u rfl (dqo1 (C := .astore) v)) rfl
  | ldc_w n =>
    obtain rfl := Option.some.inj (show some [19, n / 256, n % 256] = some bs from h)
    obtain ⟨u, v, w⟩ := dqb3 hp
    have d := dqOf (m := 3) u rfl (dqo2 (C := .ldc_w) v w)
    rw [Nat.div_add_mod'] at d
    exact dqK d rfl
  | ldc2_w n =>
    obtain rfl := Option.some.inj (show some [20, n / 256, n % 256] = some bs from h)
    obtain ⟨u, v, w⟩ := dqb3 hp
    have d := dqOf (m := 3) u rfl (dqo2 (C := .ldc2_w) v w)
    rw [Nat.div_add_mod'] at d
    exact dqK d rfl
  | getstatic n =>
    obtain rfl := Option.some.inj (show some [178, n / 256, n % 256] = some bs from h)
    obtain ⟨u, v, w⟩ := dqb3 hp
    have d := dqOf (m := 3) u rfl (dqo2 (C := .getstatic) v w)
    rw [Nat.div_add_mod'] at d
    exact dqK d rfl
  | getfield n =>
    obtain rfl := Option.some.inj (show some [180, n / 256, n % 256] = some bs from h)
    obtain ⟨u, v, w⟩ := dqb3 hp
    have d := dqOf (m := 3) u rfl (dqo2 (C := .getfield) v w)
    rw [Nat.div_add_mod'] at d
    exact dqK d rfl
  | putfield n =>
    obtain rfl := Option.some.inj (show some [181, n / 256, n % 256] = some bs from h)
    obtain ⟨u, v, w⟩ := dqb3 hp
    have d := dqOf (m := 3) u rfl (dqo2 (C := .putfield) v w)
    rw [Nat.div_add_mod'] at d
    exact dqK d rfl
  | invokevirtual n =>
    obtain rfl := Option.some.inj (show some [182, n / 256, n % 256] = some bs from h)
    obtain ⟨u, v, w⟩ := dqb3 hp
    have d := dqOf (m := 3) u rfl (dqo2 (C := .invokevirtual) v w)
    rw [Nat.div_add_mod'] at d
    exact dqK d rfl
  | invokespecial n =>
    obtain rfl := Option.some.inj (show some [183, n / 256, n % 256] = some bs from h)
    obtain ⟨u, v, w⟩ := dqb3 hp
    have d := dqOf (m := 3) u rfl (dqo2 (C := .invokespecial) v w)
    rw [Nat.div_add_mod'] at d
    exact dqK d rfl
  | invokestatic n =>
    obtain rfl := Option.some.inj (show some [184, n / 256, n % 256] = some bs from h)
    obtain ⟨u, v, w⟩ := dqb3 hp
    have d := dqOf (m := 3) u rfl (dqo2 (C := .invokestatic) v w)
    rw [Nat.div_add_mod'] at d
    exact dqK d rfl
  | new n =>
    obtain rfl := Option.some.inj (show some [187, n / 256, n % 256] = some bs from h)
    obtain ⟨u, v, w⟩ := dqb3 hp
    have d := dqOf (m := 3) u rfl (dqo2 (C := .new) v w)
    rw [Nat.div_add_mod'] at d
    exact dqK d rfl
  | anewarray n =>
    obtain rfl := Option.some.inj (show some [189, n / 256, n % 256] = some bs from h)
    obtain ⟨u, v, w⟩ := dqb3 hp
    have d := dqOf (m := 3) u rfl (dqo2 (C := .anewarray) v w)
    rw [Nat.div_add_mod'] at d
    exact dqK d rfl
  | bipush x =>
    obtain ⟨⟨h1, h2⟩, rfl⟩ := dqB h
    obtain ⟨u, v⟩ := dqb2 hp
    have d := dqOf (m := 2) u rfl (dqos1 (C := .bipush) v)
    rw [dqs8 (of_decide_eq_true h1) (of_decide_eq_true h2)] at d
    exact dqK d rfl
  | sipush x =>
    obtain ⟨⟨h1, h2⟩, rfl⟩ := dqB h
    obtain ⟨u, v, w⟩ := dqb3 hp
    have d := dqOf (m := 3) u rfl (dqos2 (C := .sipush) v w)
    rw [dqs16 (of_decide_eq_true h1) (of_decide_eq_true h2)] at d
    exact dqK d rfl
  | goto x =>
    obtain ⟨⟨h1, h2⟩, rfl⟩ := dqB h
    obtain ⟨u, v, w⟩ := dqb3 hp
    have d := dqOf (m := 3) u rfl (dqos2 (C := .goto) v w)
    rw [dqs16 (of_decide_eq_true h1) (of_decide_eq_true h2)] at d
    exact dqK d rfl
  | ifCond c x =>
    obtain ⟨⟨h1, h2⟩, rfl⟩ := dqB h
    obtain ⟨u, v, w⟩ := dqb3 hp
    cases c with
    | eq =>
      have d := dqOf (m := 3) u rfl (dqos2 (C := .ifCond .eq) v w)
      rw [dqs16 (of_decide_eq_true h1) (of_decide_eq_true h2)] at d
      exact dqK d rfl
    | ne =>
      have d := dqOf (m := 3) u rfl (dqos2 (C := .ifCond .ne) v w)
      rw [dqs16 (of_decide_eq_true h1) (of_decide_eq_true h2)] at d
      exact dqK d rfl
    | lt =>
      have d := dqOf (m := 3) u rfl (dqos2 (C := .ifCond .lt) v w)
      rw [dqs16 (of_decide_eq_true h1) (of_decide_eq_true h2)] at d
      exact dqK d rfl
    | ge =>
      have d := dqOf (m := 3) u rfl (dqos2 (C := .ifCond .ge) v w)
      rw [dqs16 (of_decide_eq_true h1) (of_decide_eq_true h2)] at d
      exact dqK d rfl
    | gt =>
      have d := dqOf (m := 3) u rfl (dqos2 (C := .ifCond .gt) v w)
      rw [dqs16 (of_decide_eq_true h1) (of_decide_eq_true h2)] at d
      exact dqK d rfl
    | le =>
      have d := dqOf (m := 3) u rfl (dqos2 (C := .ifCond .le) v w)
      rw [dqs16 (of_decide_eq_true h1) (of_decide_eq_true h2)] at d
      exact dqK d rfl
  | if_icmp c x =>
    obtain ⟨⟨h1, h2⟩, rfl⟩ := dqB h
    obtain ⟨u, v, w⟩ := dqb3 hp
    cases c with
    | eq =>
      have d := dqOf (m := 3) u rfl (dqos2 (C := .if_icmp .eq) v w)
      rw [dqs16 (of_decide_eq_true h1) (of_decide_eq_true h2)] at d
      exact dqK d rfl
    | ne =>
      have d := dqOf (m := 3) u rfl (dqos2 (C := .if_icmp .ne) v w)
      rw [dqs16 (of_decide_eq_true h1) (of_decide_eq_true h2)] at d
      exact dqK d rfl
    | lt =>
      have d := dqOf (m := 3) u rfl (dqos2 (C := .if_icmp .lt) v w)
      rw [dqs16 (of_decide_eq_true h1) (of_decide_eq_true h2)] at d
      exact dqK d rfl
    | ge =>
      have d := dqOf (m := 3) u rfl (dqos2 (C := .if_icmp .ge) v w)
      rw [dqs16 (of_decide_eq_true h1) (of_decide_eq_true h2)] at d
      exact dqK d rfl
    | gt =>
      have d := dqOf (m := 3) u rfl (dqos2 (C := .if_icmp .gt) v w)
      rw [dqs16 (of_decide_eq_true h1) (of_decide_eq_true h2)] at d
      exact dqK d rfl
    | le =>
      have d := dqOf (m := 3) u rfl (dqos2 (C := .if_icmp .le) v w)
      rw [dqs16 (of_decide_eq_true h1) (of_decide_eq_true h2)] at d
      exact dqK d rfl
  | iinc n x =>
    obtain ⟨⟨h1, h2⟩, rfl⟩ := dqB h
    obtain ⟨u, v, w⟩ := dqb3 hp
    have d := dqOf (m := 3) u rfl (dqoi v w)
    rw [dqs8 (of_decide_eq_true h1) (of_decide_eq_true h2)] at d
    exact dqK d rfl
  | _ => exact absurd (show (none : Option (List Nat)) = some bs from h) (by intro q; cases q)
/-- the rows, one behind the other -/
def dqL (cc : ByteArray) : List (Nat × Nat × Instr) → Nat → List UInt8 → Bool
  | [], _, _ => true
  | q :: rs, cur, s => Nat.ble cur q.1 && ((match dqE q.2.2 with
    | some bs => dqP bs (s.drop (q.1 - cur))
    | none => ckD cc q) && dqL cc rs q.1 (s.drop (q.1 - cur)))
theorem dqLl : ∀ (rs : List (Nat × Nat × Instr)) (cur : Nat), dqL cc rs cur (cc.data.toList.drop cur) = true → rs.all (ckD cc) = true := by
  intro rs
  induction rs with
  | nil => intro _ _; rfl
  | cons q rs ih =>
    intro cur h
    obtain ⟨h1, h2⟩ := Bool.and_eq_true_iff.mp h
    obtain ⟨h2, h3⟩ := Bool.and_eq_true_iff.mp h2
    have h1 := Nat.le_of_ble_eq_true h1
    have e : (cc.data.toList.drop cur).drop (q.1 - cur) = cc.data.toList.drop q.1 := by
      rw [List.drop_drop]
      congr 1
      omega
    rw [e] at h2 h3
    refine Bool.and_eq_true_iff.mpr ⟨?_, ih q.1 h3⟩
    obtain ⟨pc, kd, i⟩ := q
    cases g : dqE i with
    | none =>
      have h2 : (match dqE i with
        | some bs => dqP bs (cc.data.toList.drop pc)
        | none => ckD cc (pc, kd, i)) = true := h2
      rw [g] at h2
      exact h2
    | some bs =>
      have h2 : (match dqE i with
        | some bs => dqP bs (cc.data.toList.drop pc)
        | none => ckD cc (pc, kd, i)) = true := h2
      rw [g] at h2
      exact dqN g h2
theorem dqLk {rs : List (Nat × Nat × Instr)} (h : dqL cc rs 0 cc.data.toList = true) : rs.all (ckD cc) = true := dqLl rs 0 h
end FDEC
set_option maxRecDepth 100000 in
theorem ckD_0 : mT0.all (ckD cX0_init) = true := dqLk (show dqL cX0_init mT0 0 cX0_init.data.toList = true by decide +kernel)
set_option maxRecDepth 100000 in
theorem ckD_1 : mT1.all (ckD cX0_shape) = true := dqLk (show dqL cX0_shape mT1 0 cX0_shape.data.toList = true by decide +kernel)
set_option maxRecDepth 100000 in
theorem ckD_2 : mT2.all (ckD cX0_at) = true := dqLk (show dqL cX0_at mT2 0 cX0_at.data.toList = true by decide +kernel)
set_option maxRecDepth 100000 in
theorem ckD_3 : mT3.all (ckD cX0_wayTo) = true := dqLk (show dqL cX0_wayTo mT3 0 cX0_wayTo.data.toList = true by decide +kernel)
set_option maxRecDepth 100000 in
theorem ckD_4 : mT4.all (ckD cX0_distance) = true := dqLk (show dqL cX0_distance mT4 0 cX0_distance.data.toList = true by decide +kernel)
set_option maxRecDepth 100000 in
theorem ckD_5 : mT5.all (ckD cX1_init) = true := dqLk (show dqL cX1_init mT5 0 cX1_init.data.toList = true by decide +kernel)
set_option maxRecDepth 100000 in
theorem ckD_6 : mT6.all (ckD cX1_cells) = true := dqLk (show dqL cX1_cells mT6 0 cX1_cells.data.toList = true by decide +kernel)
set_option maxRecDepth 100000 in
theorem ckD_7 : mT7.all (ckD cX1_open) = true := dqLk (show dqL cX1_open mT7 0 cX1_open.data.toList = true by decide +kernel)
set_option maxRecDepth 100000 in
theorem ckD_8 : mT8.all (ckD cX1_green) = true := dqLk (show dqL cX1_green mT8 0 cX1_green.data.toList = true by decide +kernel)
set_option maxRecDepth 100000 in
theorem ckD_9 : mT9.all (ckD cX1_hasDoor) = true := dqLk (show dqL cX1_hasDoor mT9 0 cX1_hasDoor.data.toList = true by decide +kernel)
set_option maxRecDepth 100000 in
theorem ckD_10 : mT10.all (ckD cX1_setKind) = true := dqLk (show dqL cX1_setKind mT10 0 cX1_setKind.data.toList = true by decide +kernel)
set_option maxRecDepth 100000 in
theorem ckD_11 : mT11.all (ckD cX1_wishesThatAre) = true := dqLk (show dqL cX1_wishesThatAre mT11 0 cX1_wishesThatAre.data.toList = true by decide +kernel)
set_option maxRecDepth 100000 in
theorem ckD_12 : mT12.all (ckD cX1_renew) = true := dqLk (show dqL cX1_renew mT12 0 cX1_renew.data.toList = true by decide +kernel)
set_option maxRecDepth 100000 in
theorem ckD_13 : mT13.all (ckD cX1_copy) = true := dqLk (show dqL cX1_copy mT13 0 cX1_copy.data.toList = true by decide +kernel)
set_option maxRecDepth 100000 in
theorem ckD_14 : mT14.all (ckD cX2_init) = true := dqLk (show dqL cX2_init mT14 0 cX2_init.data.toList = true by decide +kernel)
set_option maxRecDepth 100000 in
theorem ckD_15 : mT15.all (ckD cX2_keep) = true := dqLk (show dqL cX2_keep mT15 0 cX2_keep.data.toList = true by decide +kernel)
set_option maxRecDepth 100000 in
theorem ckD_16 : mT16.all (ckD cX2_size) = true := dqLk (show dqL cX2_size mT16 0 cX2_size.data.toList = true by decide +kernel)
set_option maxRecDepth 100000 in
theorem ckD_17 : mT17.all (ckD cX2_alone) = true := dqLk (show dqL cX2_alone mT17 0 cX2_alone.data.toList = true by decide +kernel)
set_option maxRecDepth 100000 in
theorem ckD_18 : mT18.all (ckD cX2_parts) = true := dqLk (show dqL cX2_parts mT18 0 cX2_parts.data.toList = true by decide +kernel)
set_option maxRecDepth 100000 in
theorem ckD_19 : mT19.all (ckD cX2_hundredths) = true := dqLk (show dqL cX2_hundredths mT19 0 cX2_hundredths.data.toList = true by decide +kernel)
set_option maxRecDepth 100000 in
theorem ckD_20 : mT20.all (ckD cX2_shortest) = true := dqLk (show dqL cX2_shortest mT20 0 cX2_shortest.data.toList = true by decide +kernel)
set_option maxRecDepth 100000 in
theorem ckD_21 : mT21.all (ckD cX2_leastCost) = true := dqLk (show dqL cX2_leastCost mT21 0 cX2_leastCost.data.toList = true by decide +kernel)
set_option maxRecDepth 100000 in
theorem ckD_22 : mT22.all (ckD cX2_meet) = true := dqLk (show dqL cX2_meet mT22 0 cX2_meet.data.toList = true by decide +kernel)
set_option maxRecDepth 100000 in
theorem ckD_23 : mT23.all (ckD cX2_spread) = true := dqLk (show dqL cX2_spread mT23 0 cX2_spread.data.toList = true by decide +kernel)
set_option maxRecDepth 100000 in
theorem ckD_24 : mT24.all (ckD cX2_cheaper) = true := dqLk (show dqL cX2_cheaper mT24 0 cX2_cheaper.data.toList = true by decide +kernel)
set_option maxRecDepth 100000 in
theorem ckD_25 : mT25.all (ckD cX3_init) = true := dqLk (show dqL cX3_init mT25 0 cX3_init.data.toList = true by decide +kernel)
set_option maxRecDepth 100000 in
theorem ckD_26 : mT26.all (ckD cX3_readText) = true := dqLk (show dqL cX3_readText mT26 0 cX3_readText.data.toList = true by decide +kernel)
set_option maxRecDepth 100000 in
theorem ckD_27 : mT27.all (ckD cX3_fail) = true := dqLk (show dqL cX3_fail mT27 0 cX3_fail.data.toList = true by decide +kernel)
set_option maxRecDepth 100000 in
theorem ckD_28 : mT28.all (ckD cX3_findTokens) = true := dqLk (show dqL cX3_findTokens mT28 0 cX3_findTokens.data.toList = true by decide +kernel)
set_option maxRecDepth 100000 in
theorem ckD_29 : mT29.all (ckD cX3_tokenAt) = true := dqLk (show dqL cX3_tokenAt mT29 0 cX3_tokenAt.data.toList = true by decide +kernel)
set_option maxRecDepth 100000 in
theorem ckD_30 : mT30.all (ckD cX3_signAt) = true := dqLk (show dqL cX3_signAt mT30 0 cX3_signAt.data.toList = true by decide +kernel)
set_option maxRecDepth 100000 in
theorem ckD_31 : mT31.all (ckD cX3_goOn) = true := dqLk (show dqL cX3_goOn mT31 0 cX3_goOn.data.toList = true by decide +kernel)
set_option maxRecDepth 100000 in
theorem ckD_32 : mT32.all (ckD cX3_among) = true := dqLk (show dqL cX3_among mT32 0 cX3_among.data.toList = true by decide +kernel)
set_option maxRecDepth 100000 in
theorem ckD_33 : mT33.all (ckD cX3_line) = true := dqLk (show dqL cX3_line mT33 0 cX3_line.data.toList = true by decide +kernel)
set_option maxRecDepth 100000 in
theorem ckD_34 : mT34.all (ckD cX3_weighed) = true := dqLk (show dqL cX3_weighed mT34 0 cX3_weighed.data.toList = true by decide +kernel)
set_option maxRecDepth 100000 in
theorem ckD_35 : mT35.all (ckD cX3_numbered) = true := dqLk (show dqL cX3_numbered mT35 0 cX3_numbered.data.toList = true by decide +kernel)
set_option maxRecDepth 100000 in
theorem ckD_36 : mT36.all (ckD cX3_cond) = true := dqLk (show dqL cX3_cond mT36 0 cX3_cond.data.toList = true by decide +kernel)
set_option maxRecDepth 100000 in
theorem ckD_37 : mT37.all (ckD cX3_all) = true := dqLk (show dqL cX3_all mT37 0 cX3_all.data.toList = true by decide +kernel)
set_option maxRecDepth 100000 in
theorem ckD_38 : mT38.all (ckD cX3_one) = true := dqLk (show dqL cX3_one mT38 0 cX3_one.data.toList = true by decide +kernel)
set_option maxRecDepth 100000 in
theorem ckD_39 : mT39.all (ckD cX3_comparison) = true := dqLk (show dqL cX3_comparison mT39 0 cX3_comparison.data.toList = true by decide +kernel)
set_option maxRecDepth 100000 in
theorem ckD_40 : mT40.all (ckD cX3_emit) = true := dqLk (show dqL cX3_emit mT40 0 cX3_emit.data.toList = true by decide +kernel)
set_option maxRecDepth 100000 in
theorem ckD_41 : mT41.all (ckD cX4_init) = true := dqLk (show dqL cX4_init mT41 0 cX4_init.data.toList = true by decide +kernel)
set_option maxRecDepth 100000 in
theorem ckD_42 : mT42.all (ckD cX4_setWay) = true := dqLk (show dqL cX4_setWay mT42 0 cX4_setWay.data.toList = true by decide +kernel)
set_option maxRecDepth 100000 in
theorem ckD_43 : mT43.all (ckD cX4_tellings) = true := dqLk (show dqL cX4_tellings mT43 0 cX4_tellings.data.toList = true by decide +kernel)
set_option maxRecDepth 100000 in
theorem ckD_44 : mT44.all (ckD cX4_tell) = true := dqLk (show dqL cX4_tell mT44 0 cX4_tell.data.toList = true by decide +kernel)
set_option maxRecDepth 100000 in
theorem ckD_45 : mT45.all (ckD cX4_mayEnd) = true := dqLk (show dqL cX4_mayEnd mT45 0 cX4_mayEnd.data.toList = true by decide +kernel)
set_option maxRecDepth 100000 in
theorem ckD_46 : mT46.all (ckD cX4_take) = true := dqLk (show dqL cX4_take mT46 0 cX4_take.data.toList = true by decide +kernel)
set_option maxRecDepth 100000 in
theorem ckD_47 : mT47.all (ckD cX4_note) = true := dqLk (show dqL cX4_note mT47 0 cX4_note.data.toList = true by decide +kernel)
set_option maxRecDepth 100000 in
theorem ckD_48 : mT48.all (ckD cX5_init) = true := dqLk (show dqL cX5_init mT48 0 cX5_init.data.toList = true by decide +kernel)
set_option maxRecDepth 100000 in
theorem ckD_49 : mT49.all (ckD cX5_put) = true := dqLk (show dqL cX5_put mT49 0 cX5_put.data.toList = true by decide +kernel)
set_option maxRecDepth 100000 in
theorem ckD_50 : mT50.all (ckD cX6_init) = true := dqLk (show dqL cX6_init mT50 0 cX6_init.data.toList = true by decide +kernel)
set_option maxRecDepth 100000 in
theorem ckD_51 : mT51.all (ckD cX6_clear) = true := dqLk (show dqL cX6_clear mT51 0 cX6_clear.data.toList = true by decide +kernel)
set_option maxRecDepth 100000 in
theorem ckD_52 : mT52.all (ckD cX6_firstLineWeighed) = true := dqLk (show dqL cX6_firstLineWeighed mT52 0 cX6_firstLineWeighed.data.toList = true by decide +kernel)
set_option maxRecDepth 100000 in
theorem ckD_53 : mT53.all (ckD cX7_init) = true := dqLk (show dqL cX7_init mT53 0 cX7_init.data.toList = true by decide +kernel)
set_option maxRecDepth 100000 in
theorem ckD_54 : mT54.all (ckD cX7_enter) = true := dqLk (show dqL cX7_enter mT54 0 cX7_enter.data.toList = true by decide +kernel)
set_option maxRecDepth 100000 in
theorem ckD_55 : mT55.all (ckD cX7_forget) = true := dqLk (show dqL cX7_forget mT55 0 cX7_forget.data.toList = true by decide +kernel)
set_option maxRecDepth 100000 in
theorem ckD_56 : mT56.all (ckD cX7_worn) = true := dqLk (show dqL cX7_worn mT56 0 cX7_worn.data.toList = true by decide +kernel)
set_option maxRecDepth 100000 in
theorem ckD_57 : mT57.all (ckD cX7_wornCells) = true := dqLk (show dqL cX7_wornCells mT57 0 cX7_wornCells.data.toList = true by decide +kernel)
set_option maxRecDepth 100000 in
theorem ckD_58 : mT58.all (ckD cX7_go) = true := dqLk (show dqL cX7_go mT58 0 cX7_go.data.toList = true by decide +kernel)
set_option maxRecDepth 100000 in
theorem ckD_59 : mT59.all (ckD cX7_begin) = true := dqLk (show dqL cX7_begin mT59 0 cX7_begin.data.toList = true by decide +kernel)
set_option maxRecDepth 100000 in
theorem ckD_60 : mT60.all (ckD cX7_leaveIfDone) = true := dqLk (show dqL cX7_leaveIfDone mT60 0 cX7_leaveIfDone.data.toList = true by decide +kernel)
set_option maxRecDepth 100000 in
theorem ckD_61 : mT61.all (ckD cX7_sweep) = true := dqLk (show dqL cX7_sweep mT61 0 cX7_sweep.data.toList = true by decide +kernel)
set_option maxRecDepth 100000 in
theorem ckD_62 : mT62.all (ckD cX7_tread) = true := dqLk (show dqL cX7_tread mT62 0 cX7_tread.data.toList = true by decide +kernel)
set_option maxRecDepth 100000 in
theorem ckD_63 : mT63.all (ckD cX7_endWeek) = true := dqLk (show dqL cX7_endWeek mT63 0 cX7_endWeek.data.toList = true by decide +kernel)
set_option maxRecDepth 100000 in
theorem ckD_64 : mT64.all (ckD cX7_firstNumber) = true := dqLk (show dqL cX7_firstNumber mT64 0 cX7_firstNumber.data.toList = true by decide +kernel)
set_option maxRecDepth 100000 in
theorem ckD_65 : mT65.all (ckD cX7_arrives) = true := dqLk (show dqL cX7_arrives mT65 0 cX7_arrives.data.toList = true by decide +kernel)
set_option maxRecDepth 100000 in
theorem ckD_66 : mT66.all (ckD cX7_choose) = true := dqLk (show dqL cX7_choose mT66 0 cX7_choose.data.toList = true by decide +kernel)
set_option maxRecDepth 100000 in
theorem ckD_67 : mT67.all (ckD cX7_look) = true := dqLk (show dqL cX7_look mT67 0 cX7_look.data.toList = true by decide +kernel)
set_option maxRecDepth 100000 in
theorem ckD_68 : mT68.all (ckD cX7_weigh) = true := dqLk (show dqL cX7_weigh mT68 0 cX7_weigh.data.toList = true by decide +kernel)
set_option maxRecDepth 100000 in
theorem ckD_69 : mT69.all (ckD cX7_wornAhead) = true := dqLk (show dqL cX7_wornAhead mT69 0 cX7_wornAhead.data.toList = true by decide +kernel)
set_option maxRecDepth 100000 in
theorem ckD_70 : mT70.all (ckD cX7_holds) = true := dqLk (show dqL cX7_holds mT70 0 cX7_holds.data.toList = true by decide +kernel)
set_option maxRecDepth 100000 in
theorem ckD_71 : mT71.all (ckD cX7_asked) = true := dqLk (show dqL cX7_asked mT71 0 cX7_asked.data.toList = true by decide +kernel)
set_option maxRecDepth 100000 in
theorem ckD_72 : mT72.all (ckD cX8_init) = true := dqLk (show dqL cX8_init mT72 0 cX8_init.data.toList = true by decide +kernel)
set_option maxRecDepth 100000 in
theorem ckD_73 : mT73.all (ckD cX8_begin) = true := dqLk (show dqL cX8_begin mT73 0 cX8_begin.data.toList = true by decide +kernel)
set_option maxRecDepth 100000 in
theorem ckD_74 : mT74.all (ckD cX8_step) = true := dqLk (show dqL cX8_step mT74 0 cX8_step.data.toList = true by decide +kernel)
set_option maxRecDepth 100000 in
theorem ckD_75 : mT75.all (ckD cX8_copy) = true := dqLk (show dqL cX8_copy mT75 0 cX8_copy.data.toList = true by decide +kernel)
set_option maxRecDepth 100000 in
theorem ckD_76 : mT76.all (ckD cX9_init) = true := dqLk (show dqL cX9_init mT76 0 cX9_init.data.toList = true by decide +kernel)
set_option maxRecDepth 100000 in
theorem ckD_77 : mT77.all (ckD cX9_copy) = true := dqLk (show dqL cX9_copy mT77 0 cX9_copy.data.toList = true by decide +kernel)
set_option maxRecDepth 100000 in
theorem ckD_78 : mT78.all (ckD cX9_due) = true := dqLk (show dqL cX9_due mT78 0 cX9_due.data.toList = true by decide +kernel)
set_option maxRecDepth 100000 in
theorem ckD_79 : mT79.all (ckD cX10_init) = true := dqLk (show dqL cX10_init mT79 0 cX10_init.data.toList = true by decide +kernel)
set_option maxRecDepth 100000 in
theorem ckD_80 : mT80.all (ckD cX10_feed) = true := dqLk (show dqL cX10_feed mT80 0 cX10_feed.data.toList = true by decide +kernel)
set_option maxRecDepth 100000 in
theorem ckD_81 : mT81.all (ckD cX10_end) = true := dqLk (show dqL cX10_end mT81 0 cX10_end.data.toList = true by decide +kernel)
set_option maxRecDepth 100000 in
theorem ckD_82 : mT82.all (ckD cX10_park) = true := dqLk (show dqL cX10_park mT82 0 cX10_park.data.toList = true by decide +kernel)
set_option maxRecDepth 100000 in
theorem ckD_83 : mT83.all (ckD cX10_tapeTellsPark) = true := dqLk (show dqL cX10_tapeTellsPark mT83 0 cX10_tapeTellsPark.data.toList = true by decide +kernel)
set_option maxRecDepth 100000 in
theorem ckD_84 : mT84.all (ckD cX10_door) = true := dqLk (show dqL cX10_door mT84 0 cX10_door.data.toList = true by decide +kernel)
set_option maxRecDepth 100000 in
theorem ckD_85 : mT85.all (ckD cX10_law) = true := dqLk (show dqL cX10_law mT85 0 cX10_law.data.toList = true by decide +kernel)
set_option maxRecDepth 100000 in
theorem ckD_86 : mT86.all (ckD cX10_habit) = true := dqLk (show dqL cX10_habit mT86 0 cX10_habit.data.toList = true by decide +kernel)
set_option maxRecDepth 100000 in
theorem ckD_87 : mT87.all (ckD cX10_readingEnds) = true := dqLk (show dqL cX10_readingEnds mT87 0 cX10_readingEnds.data.toList = true by decide +kernel)
set_option maxRecDepth 100000 in
theorem ckD_88 : mT88.all (ckD cX10_fault) = true := dqLk (show dqL cX10_fault mT88 0 cX10_fault.data.toList = true by decide +kernel)
set_option maxRecDepth 100000 in
theorem ckD_89 : mT89.all (ckD cX10_wish) = true := dqLk (show dqL cX10_wish mT89 0 cX10_wish.data.toList = true by decide +kernel)
set_option maxRecDepth 100000 in
theorem ckD_90 : mT90.all (ckD cX10_drop) = true := dqLk (show dqL cX10_drop mT90 0 cX10_drop.data.toList = true by decide +kernel)
set_option maxRecDepth 100000 in
theorem ckD_91 : mT91.all (ckD cX10_run) = true := dqLk (show dqL cX10_run mT91 0 cX10_run.data.toList = true by decide +kernel)
set_option maxRecDepth 100000 in
theorem ckD_92 : mT92.all (ckD cX10_week) = true := dqLk (show dqL cX10_week mT92 0 cX10_week.data.toList = true by decide +kernel)
set_option maxRecDepth 100000 in
theorem ckD_93 : mT93.all (ckD cX10_rain) = true := dqLk (show dqL cX10_rain mT93 0 cX10_rain.data.toList = true by decide +kernel)
set_option maxRecDepth 100000 in
theorem ckD_94 : mT94.all (ckD cX10_snow) = true := dqLk (show dqL cX10_snow mT94 0 cX10_snow.data.toList = true by decide +kernel)
set_option maxRecDepth 100000 in
theorem ckD_95 : mT95.all (ckD cX10_lay) = true := dqLk (show dqL cX10_lay mT95 0 cX10_lay.data.toList = true by decide +kernel)
set_option maxRecDepth 100000 in
theorem ckD_96 : mT96.all (ckD cX10_walker) = true := dqLk (show dqL cX10_walker mT96 0 cX10_walker.data.toList = true by decide +kernel)
set_option maxRecDepth 100000 in
theorem ckD_97 : mT97.all (ckD cX10_net) = true := dqLk (show dqL cX10_net mT97 0 cX10_net.data.toList = true by decide +kernel)
set_option maxRecDepth 100000 in
theorem ckD_98 : mT98.all (ckD cX10_pieces) = true := dqLk (show dqL cX10_pieces mT98 0 cX10_pieces.data.toList = true by decide +kernel)
set_option maxRecDepth 100000 in
theorem ckD_99 : mT99.all (ckD cX10_rests) = true := dqLk (show dqL cX10_rests mT99 0 cX10_rests.data.toList = true by decide +kernel)
set_option maxRecDepth 100000 in
theorem ckD_100 : mT100.all (ckD cX10_least) = true := dqLk (show dqL cX10_least mT100 0 cX10_least.data.toList = true by decide +kernel)
set_option maxRecDepth 100000 in
theorem ckD_101 : mT101.all (ckD cX10_leastOfTape) = true := dqLk (show dqL cX10_leastOfTape mT101 0 cX10_leastOfTape.data.toList = true by decide +kernel)
set_option maxRecDepth 100000 in
theorem ckD_102 : mT102.all (ckD cX10_longer) = true := dqLk (show dqL cX10_longer mT102 0 cX10_longer.data.toList = true by decide +kernel)
set_option maxRecDepth 100000 in
theorem ckD_103 : mT103.all (ckD cX10_turns) = true := dqLk (show dqL cX10_turns mT103 0 cX10_turns.data.toList = true by decide +kernel)
set_option maxRecDepth 100000 in
theorem ckD_104 : mT104.all (ckD cX10_paved) = true := dqLk (show dqL cX10_paved mT104 0 cX10_paved.data.toList = true by decide +kernel)
set_option maxRecDepth 100000 in
theorem ckD_105 : mT105.all (ckD cX10_wait) = true := dqLk (show dqL cX10_wait mT105 0 cX10_wait.data.toList = true by decide +kernel)
set_option maxRecDepth 100000 in
theorem ckD_106 : mT106.all (ckD cX10_pavingTold) = true := dqLk (show dqL cX10_pavingTold mT106 0 cX10_pavingTold.data.toList = true by decide +kernel)
set_option maxRecDepth 100000 in
theorem ckD_107 : mT107.all (ckD cX10_keepWeeks) = true := dqLk (show dqL cX10_keepWeeks mT107 0 cX10_keepWeeks.data.toList = true by decide +kernel)
set_option maxRecDepth 100000 in
theorem ckD_108 : mT108.all (ckD cX10_fences) = true := dqLk (show dqL cX10_fences mT108 0 cX10_fences.data.toList = true by decide +kernel)
set_option maxRecDepth 100000 in
theorem ckD_109 : mT109.all (ckD cX10_fencesTold) = true := dqLk (show dqL cX10_fencesTold mT109 0 cX10_fencesTold.data.toList = true by decide +kernel)
set_option maxRecDepth 100000 in
theorem ckD_110 : mT110.all (ckD cX10_fewestFences) = true := dqLk (show dqL cX10_fewestFences mT110 0 cX10_fewestFences.data.toList = true by decide +kernel)
set_option maxRecDepth 100000 in
theorem ckD_111 : mT111.all (ckD cX10_nobodySteps) = true := dqLk (show dqL cX10_nobodySteps mT111 0 cX10_nobodySteps.data.toList = true by decide +kernel)
set_option maxRecDepth 100000 in
theorem ckD_112 : mT112.all (ckD cX10_setFences) = true := dqLk (show dqL cX10_setFences mT112 0 cX10_setFences.data.toList = true by decide +kernel)
set_option maxRecDepth 100000 in
theorem ckD_113 : mT113.all (ckD cX10_fenceAt) = true := dqLk (show dqL cX10_fenceAt mT113 0 cX10_fenceAt.data.toList = true by decide +kernel)
set_option maxRecDepth 100000 in
theorem ckD_114 : mT114.all (ckD cX10_lasts) = true := dqLk (show dqL cX10_lasts mT114 0 cX10_lasts.data.toList = true by decide +kernel)
set_option maxRecDepth 100000 in
theorem ckD_115 : mT115.all (ckD cX10_way) = true := dqLk (show dqL cX10_way mT115 0 cX10_way.data.toList = true by decide +kernel)
set_option maxRecDepth 100000 in
theorem ckD_116 : mT116.all (ckD cX10_wayAt) = true := dqLk (show dqL cX10_wayAt mT116 0 cX10_wayAt.data.toList = true by decide +kernel)
set_option maxRecDepth 100000 in
theorem ckD_117 : mT117.all (ckD cX10_read) = true := dqLk (show dqL cX10_read mT117 0 cX10_read.data.toList = true by decide +kernel)
set_option maxRecDepth 100000 in
theorem ckD_118 : mT118.all (ckD cX10_tellWays) = true := dqLk (show dqL cX10_tellWays mT118 0 cX10_tellWays.data.toList = true by decide +kernel)
set_option maxRecDepth 100000 in
theorem ckD_119 : mT119.all (ckD cX10_reads) = true := dqLk (show dqL cX10_reads mT119 0 cX10_reads.data.toList = true by decide +kernel)
set_option maxRecDepth 100000 in
theorem ckD_120 : mT120.all (ckD cX10_fits) = true := dqLk (show dqL cX10_fits mT120 0 cX10_fits.data.toList = true by decide +kernel)
set_option maxRecDepth 100000 in
theorem ckD_121 : mT121.all (ckD cX10_fitting) = true := dqLk (show dqL cX10_fitting mT121 0 cX10_fitting.data.toList = true by decide +kernel)
set_option maxRecDepth 100000 in
theorem ckD_122 : mT122.all (ckD cX10_tapeTellsTrail) = true := dqLk (show dqL cX10_tapeTellsTrail mT122 0 cX10_tapeTellsTrail.data.toList = true by decide +kernel)
set_option maxRecDepth 100000 in
theorem ckD_123 : mT123.all (ckD cX10_image) = true := dqLk (show dqL cX10_image mT123 0 cX10_image.data.toList = true by decide +kernel)
set_option maxRecDepth 100000 in
theorem ckD_124 : mT124.all (ckD cX10_restore) = true := dqLk (show dqL cX10_restore mT124 0 cX10_restore.data.toList = true by decide +kernel)
set_option maxRecDepth 100000 in
theorem ckD_125 : mT125.all (ckD cX10_count) = true := dqLk (show dqL cX10_count mT125 0 cX10_count.data.toList = true by decide +kernel)
set_option maxRecDepth 100000 in
theorem ckD_126 : mT126.all (ckD cX10_within) = true := dqLk (show dqL cX10_within mT126 0 cX10_within.data.toList = true by decide +kernel)
set_option maxRecDepth 100000 in
theorem ckD_127 : mT127.all (ckD cX10_isCell) = true := dqLk (show dqL cX10_isCell mT127 0 cX10_isCell.data.toList = true by decide +kernel)
set_option maxRecDepth 100000 in
theorem ckD_128 : mT128.all (ckD cX10_isDoor) = true := dqLk (show dqL cX10_isDoor mT128 0 cX10_isDoor.data.toList = true by decide +kernel)
set_option maxRecDepth 100000 in
theorem ckD_129 : mT129.all (ckD cX10_twoDoors) = true := dqLk (show dqL cX10_twoDoors mT129 0 cX10_twoDoors.data.toList = true by decide +kernel)
set_option maxRecDepth 100000 in
theorem ckD_130 : mT130.all (ckD cX10_isWish) = true := dqLk (show dqL cX10_isWish mT130 0 cX10_isWish.data.toList = true by decide +kernel)
set_option maxRecDepth 100000 in
theorem ckD_131 : mT131.all (ckD cX10_isWorn) = true := dqLk (show dqL cX10_isWorn mT131 0 cX10_isWorn.data.toList = true by decide +kernel)
set_option maxRecDepth 100000 in
theorem ckD_132 : mT132.all (ckD cX10_wayTold) = true := dqLk (show dqL cX10_wayTold mT132 0 cX10_wayTold.data.toList = true by decide +kernel)
set_option maxRecDepth 100000 in
theorem ckD_133 : mT133.all (ckD cX10_openCase) = true := dqLk (show dqL cX10_openCase mT133 0 cX10_openCase.data.toList = true by decide +kernel)
set_option maxRecDepth 100000 in
theorem ckD_134 : mT134.all (ckD cX10_oneWeek) = true := dqLk (show dqL cX10_oneWeek mT134 0 cX10_oneWeek.data.toList = true by decide +kernel)
set_option maxRecDepth 100000 in
theorem ckD_135 : mT135.all (ckD cX11_throwsIf) = true := dqLk (show dqL cX11_throwsIf mT135 0 cX11_throwsIf.data.toList = true by decide +kernel)
set_option maxRecDepth 100000 in
theorem ckD_136 : mT136.all (ckD cX11_feed) = true := dqLk (show dqL cX11_feed mT136 0 cX11_feed.data.toList = true by decide +kernel)
set_option maxRecDepth 100000 in
theorem ckD_137 : mT137.all (ckD cX11_four) = true := dqLk (show dqL cX11_four mT137 0 cX11_four.data.toList = true by decide +kernel)
set_option maxRecDepth 100000 in
theorem ckD_138 : mT138.all (ckD cX11_end) = true := dqLk (show dqL cX11_end mT138 0 cX11_end.data.toList = true by decide +kernel)
set_option maxRecDepth 100000 in
theorem ckD_139 : mT139.all (ckD cX11_taken) = true := dqLk (show dqL cX11_taken mT139 0 cX11_taken.data.toList = true by decide +kernel)
set_option maxRecDepth 100000 in
theorem ckD_140 : mT140.all (ckD cX11_isIn) = true := dqLk (show dqL cX11_isIn mT140 0 cX11_isIn.data.toList = true by decide +kernel)
set_option maxRecDepth 100000 in
theorem ckD_141 : mT141.all (ckD cX11_plain) = true := dqLk (show dqL cX11_plain mT141 0 cX11_plain.data.toList = true by decide +kernel)
set_option maxRecDepth 100000 in
theorem ckD_142 : mT142.all (ckD cX11_octet) = true := dqLk (show dqL cX11_octet mT142 0 cX11_octet.data.toList = true by decide +kernel)
set_option maxRecDepth 100000 in
theorem ckD_143 : mT143.all (ckD cX11_init) = true := dqLk (show dqL cX11_init mT143 0 cX11_init.data.toList = true by decide +kernel)
set_option maxRecDepth 100000 in
theorem ckD_144 : mT144.all (ckD cX11_cells) = true := dqLk (show dqL cX11_cells mT144 0 cX11_cells.data.toList = true by decide +kernel)
set_option maxRecDepth 100000 in
theorem ckD_145 : mT145.all (ckD cX11_isCell) = true := dqLk (show dqL cX11_isCell mT145 0 cX11_isCell.data.toList = true by decide +kernel)
set_option maxRecDepth 100000 in
theorem ckD_146 : mT146.all (ckD cX11_of) = true := dqLk (show dqL cX11_of mT146 0 cX11_of.data.toList = true by decide +kernel)
set_option maxRecDepth 100000 in
theorem ckD_147 : mT147.all (ckD cX11_set) = true := dqLk (show dqL cX11_set mT147 0 cX11_set.data.toList = true by decide +kernel)
set_option maxRecDepth 100000 in
theorem ckD_148 : mT148.all (ckD cX11_bears) = true := dqLk (show dqL cX11_bears mT148 0 cX11_bears.data.toList = true by decide +kernel)
set_option maxRecDepth 100000 in
theorem ckD_149 : mT149.all (ckD cX11_isGreen) = true := dqLk (show dqL cX11_isGreen mT149 0 cX11_isGreen.data.toList = true by decide +kernel)
set_option maxRecDepth 100000 in
theorem ckD_150 : mT150.all (ckD cX11_isWorn) = true := dqLk (show dqL cX11_isWorn mT150 0 cX11_isWorn.data.toList = true by decide +kernel)
set_option maxRecDepth 100000 in
theorem ckD_151 : mT151.all (ckD cX11_isMuddy) = true := dqLk (show dqL cX11_isMuddy mT151 0 cX11_isMuddy.data.toList = true by decide +kernel)
set_option maxRecDepth 100000 in
theorem ckD_152 : mT152.all (ckD cX11_isDoor) = true := dqLk (show dqL cX11_isDoor mT152 0 cX11_isDoor.data.toList = true by decide +kernel)
set_option maxRecDepth 100000 in
theorem ckD_153 : mT153.all (ckD cX11_layAside) = true := dqLk (show dqL cX11_layAside mT153 0 cX11_layAside.data.toList = true by decide +kernel)
set_option maxRecDepth 100000 in
theorem ckD_154 : mT154.all (ckD cX11_layBack) = true := dqLk (show dqL cX11_layBack mT154 0 cX11_layBack.data.toList = true by decide +kernel)
set_option maxRecDepth 100000 in
theorem ckD_155 : mT155.all (ckD cX11_park) = true := dqLk (show dqL cX11_park mT155 0 cX11_park.data.toList = true by decide +kernel)
set_option maxRecDepth 100000 in
theorem ckD_156 : mT156.all (ckD cX11_door) = true := dqLk (show dqL cX11_door mT156 0 cX11_door.data.toList = true by decide +kernel)
set_option maxRecDepth 100000 in
theorem ckD_157 : mT157.all (ckD cX11_isDoorAt) = true := dqLk (show dqL cX11_isDoorAt mT157 0 cX11_isDoorAt.data.toList = true by decide +kernel)
set_option maxRecDepth 100000 in
theorem ckD_158 : mT158.all (ckD cX11_isWalkerAt) = true := dqLk (show dqL cX11_isWalkerAt mT158 0 cX11_isWalkerAt.data.toList = true by decide +kernel)
set_option maxRecDepth 100000 in
theorem ckD_159 : mT159.all (ckD cX11_peek) = true := dqLk (show dqL cX11_peek mT159 0 cX11_peek.data.toList = true by decide +kernel)
set_option maxRecDepth 100000 in
theorem ckD_160 : mT160.all (ckD cX11_isSmall) = true := dqLk (show dqL cX11_isSmall mT160 0 cX11_isSmall.data.toList = true by decide +kernel)
set_option maxRecDepth 100000 in
theorem ckD_161 : mT161.all (ckD cX11_isDigit) = true := dqLk (show dqL cX11_isDigit mT161 0 cX11_isDigit.data.toList = true by decide +kernel)
set_option maxRecDepth 100000 in
theorem ckD_162 : mT162.all (ckD cX11_next) = true := dqLk (show dqL cX11_next mT162 0 cX11_next.data.toList = true by decide +kernel)
set_option maxRecDepth 100000 in
theorem ckD_163 : mT163.all (ckD cX11_bad) = true := dqLk (show dqL cX11_bad mT163 0 cX11_bad.data.toList = true by decide +kernel)
set_option maxRecDepth 100000 in
theorem ckD_164 : mT164.all (ckD cX11_isWord) = true := dqLk (show dqL cX11_isWord mT164 0 cX11_isWord.data.toList = true by decide +kernel)
set_option maxRecDepth 100000 in
theorem ckD_165 : mT165.all (ckD cX11_isSign) = true := dqLk (show dqL cX11_isSign mT165 0 cX11_isSign.data.toList = true by decide +kernel)
set_option maxRecDepth 100000 in
theorem ckD_166 : mT166.all (ckD cX11_sign) = true := dqLk (show dqL cX11_sign mT166 0 cX11_sign.data.toList = true by decide +kernel)
set_option maxRecDepth 100000 in
theorem ckD_167 : mT167.all (ckD cX11_takes) = true := dqLk (show dqL cX11_takes mT167 0 cX11_takes.data.toList = true by decide +kernel)
set_option maxRecDepth 100000 in
theorem ckD_168 : mT168.all (ckD cX11_lineOf) = true := dqLk (show dqL cX11_lineOf mT168 0 cX11_lineOf.data.toList = true by decide +kernel)
set_option maxRecDepth 100000 in
theorem ckD_169 : mT169.all (ckD cX11_read) = true := dqLk (show dqL cX11_read mT169 0 cX11_read.data.toList = true by decide +kernel)
set_option maxRecDepth 100000 in
theorem ckD_170 : mT170.all (ckD cX11_line) = true := dqLk (show dqL cX11_line mT170 0 cX11_line.data.toList = true by decide +kernel)
set_option maxRecDepth 100000 in
theorem ckD_171 : mT171.all (ckD cX11_measure) = true := dqLk (show dqL cX11_measure mT171 0 cX11_measure.data.toList = true by decide +kernel)
set_option maxRecDepth 100000 in
theorem ckD_172 : mT172.all (ckD cX11_find) = true := dqLk (show dqL cX11_find mT172 0 cX11_find.data.toList = true by decide +kernel)
set_option maxRecDepth 100000 in
theorem ckD_173 : mT173.all (ckD cX11_atom) = true := dqLk (show dqL cX11_atom mT173 0 cX11_atom.data.toList = true by decide +kernel)
set_option maxRecDepth 100000 in
theorem ckD_174 : mT174.all (ckD cX11_write) = true := dqLk (show dqL cX11_write mT174 0 cX11_write.data.toList = true by decide +kernel)
set_option maxRecDepth 100000 in
theorem ckD_175 : mT175.all (ckD cX11_writeDown) = true := dqLk (show dqL cX11_writeDown mT175 0 cX11_writeDown.data.toList = true by decide +kernel)
set_option maxRecDepth 100000 in
theorem ckD_176 : mT176.all (ckD cX11_binds) = true := dqLk (show dqL cX11_binds mT176 0 cX11_binds.data.toList = true by decide +kernel)
set_option maxRecDepth 100000 in
theorem ckD_177 : mT177.all (ckD cX11_open) = true := dqLk (show dqL cX11_open mT177 0 cX11_open.data.toList = true by decide +kernel)
set_option maxRecDepth 100000 in
theorem ckD_178 : mT178.all (ckD cX11_isOpen) = true := dqLk (show dqL cX11_isOpen mT178 0 cX11_isOpen.data.toList = true by decide +kernel)
set_option maxRecDepth 100000 in
theorem ckD_179 : mT179.all (ckD cX11_cond) = true := dqLk (show dqL cX11_cond mT179 0 cX11_cond.data.toList = true by decide +kernel)
set_option maxRecDepth 100000 in
theorem ckD_180 : mT180.all (ckD cX11_one) = true := dqLk (show dqL cX11_one mT180 0 cX11_one.data.toList = true by decide +kernel)
set_option maxRecDepth 100000 in
theorem ckD_181 : mT181.all (ckD cX11_text) = true := dqLk (show dqL cX11_text mT181 0 cX11_text.data.toList = true by decide +kernel)
set_option maxRecDepth 100000 in
theorem ckD_182 : mT182.all (ckD cX11_told) = true := dqLk (show dqL cX11_told mT182 0 cX11_told.data.toList = true by decide +kernel)
set_option maxRecDepth 100000 in
theorem ckD_183 : mT183.all (ckD cX11_law) = true := dqLk (show dqL cX11_law mT183 0 cX11_law.data.toList = true by decide +kernel)
set_option maxRecDepth 100000 in
theorem ckD_184 : mT184.all (ckD cX11_habit) = true := dqLk (show dqL cX11_habit mT184 0 cX11_habit.data.toList = true by decide +kernel)
set_option maxRecDepth 100000 in
theorem ckD_185 : mT185.all (ckD cX11_fault) = true := dqLk (show dqL cX11_fault mT185 0 cX11_fault.data.toList = true by decide +kernel)
set_option maxRecDepth 100000 in
theorem ckD_186 : mT186.all (ckD cX11_is) = true := dqLk (show dqL cX11_is mT186 0 cX11_is.data.toList = true by decide +kernel)
set_option maxRecDepth 100000 in
theorem ckD_187 : mT187.all (ckD cX11_holds) = true := dqLk (show dqL cX11_holds mT187 0 cX11_holds.data.toList = true by decide +kernel)
set_option maxRecDepth 100000 in
theorem ckD_188 : mT188.all (ckD cX11_first) = true := dqLk (show dqL cX11_first mT188 0 cX11_first.data.toList = true by decide +kernel)
set_option maxRecDepth 100000 in
theorem ckD_189 : mT189.all (ckD cX11_isWish) = true := dqLk (show dqL cX11_isWish mT189 0 cX11_isWish.data.toList = true by decide +kernel)
set_option maxRecDepth 100000 in
theorem ckD_190 : mT190.all (ckD cX11_wish) = true := dqLk (show dqL cX11_wish mT190 0 cX11_wish.data.toList = true by decide +kernel)
set_option maxRecDepth 100000 in
theorem ckD_191 : mT191.all (ckD cX11_drop) = true := dqLk (show dqL cX11_drop mT191 0 cX11_drop.data.toList = true by decide +kernel)
set_option maxRecDepth 100000 in
theorem ckD_192 : mT192.all (ckD cX11_east) = true := dqLk (show dqL cX11_east mT192 0 cX11_east.data.toList = true by decide +kernel)
set_option maxRecDepth 100000 in
theorem ckD_193 : mT193.all (ckD cX11_south) = true := dqLk (show dqL cX11_south mT193 0 cX11_south.data.toList = true by decide +kernel)
set_option maxRecDepth 100000 in
theorem ckD_194 : mT194.all (ckD cX11_beside) = true := dqLk (show dqL cX11_beside mT194 0 cX11_beside.data.toList = true by decide +kernel)
set_option maxRecDepth 100000 in
theorem ckD_195 : mT195.all (ckD cX11_across) = true := dqLk (show dqL cX11_across mT195 0 cX11_across.data.toList = true by decide +kernel)
set_option maxRecDepth 100000 in
theorem ckD_196 : mT196.all (ckD cX11_along) = true := dqLk (show dqL cX11_along mT196 0 cX11_along.data.toList = true by decide +kernel)
set_option maxRecDepth 100000 in
theorem ckD_197 : mT197.all (ckD cX11_measured) = true := dqLk (show dqL cX11_measured mT197 0 cX11_measured.data.toList = true by decide +kernel)
set_option maxRecDepth 100000 in
theorem ckD_198 : mT198.all (ckD cX11_crowd) = true := dqLk (show dqL cX11_crowd mT198 0 cX11_crowd.data.toList = true by decide +kernel)
set_option maxRecDepth 100000 in
theorem ckD_199 : mT199.all (ckD cX11_sees) = true := dqLk (show dqL cX11_sees mT199 0 cX11_sees.data.toList = true by decide +kernel)
set_option maxRecDepth 100000 in
theorem ckD_200 : mT200.all (ckD cX11_weight) = true := dqLk (show dqL cX11_weight mT200 0 cX11_weight.data.toList = true by decide +kernel)
set_option maxRecDepth 100000 in
theorem ckD_201 : mT201.all (ckD cX11_mayNot) = true := dqLk (show dqL cX11_mayNot mT201 0 cX11_mayNot.data.toList = true by decide +kernel)
set_option maxRecDepth 100000 in
theorem ckD_202 : mT202.all (ckD cX11_choose) = true := dqLk (show dqL cX11_choose mT202 0 cX11_choose.data.toList = true by decide +kernel)
set_option maxRecDepth 100000 in
theorem ckD_203 : mT203.all (ckD cX11_tread) = true := dqLk (show dqL cX11_tread mT203 0 cX11_tread.data.toList = true by decide +kernel)
set_option maxRecDepth 100000 in
theorem ckD_204 : mT204.all (ckD cX11_tick) = true := dqLk (show dqL cX11_tick mT204 0 cX11_tick.data.toList = true by decide +kernel)
set_option maxRecDepth 100000 in
theorem ckD_205 : mT205.all (ckD cX11_leave) = true := dqLk (show dqL cX11_leave mT205 0 cX11_leave.data.toList = true by decide +kernel)
set_option maxRecDepth 100000 in
theorem ckD_206 : mT206.all (ckD cX11_goes) = true := dqLk (show dqL cX11_goes mT206 0 cX11_goes.data.toList = true by decide +kernel)
set_option maxRecDepth 100000 in
theorem ckD_207 : mT207.all (ckD cX11_run) = true := dqLk (show dqL cX11_run mT207 0 cX11_run.data.toList = true by decide +kernel)
set_option maxRecDepth 100000 in
theorem ckD_208 : mT208.all (ckD cX11_endWeek) = true := dqLk (show dqL cX11_endWeek mT208 0 cX11_endWeek.data.toList = true by decide +kernel)
set_option maxRecDepth 100000 in
theorem ckD_209 : mT209.all (ckD cX11_week) = true := dqLk (show dqL cX11_week mT209 0 cX11_week.data.toList = true by decide +kernel)
set_option maxRecDepth 100000 in
theorem ckD_210 : mT210.all (ckD cX11_rain) = true := dqLk (show dqL cX11_rain mT210 0 cX11_rain.data.toList = true by decide +kernel)
set_option maxRecDepth 100000 in
theorem ckD_211 : mT211.all (ckD cX11_snow) = true := dqLk (show dqL cX11_snow mT211 0 cX11_snow.data.toList = true by decide +kernel)
set_option maxRecDepth 100000 in
theorem ckD_212 : mT212.all (ckD cX11_lay) = true := dqLk (show dqL cX11_lay mT212 0 cX11_lay.data.toList = true by decide +kernel)
set_option maxRecDepth 100000 in
theorem ckD_213 : mT213.all (ckD cX11_put) = true := dqLk (show dqL cX11_put mT213 0 cX11_put.data.toList = true by decide +kernel)
set_option maxRecDepth 100000 in
theorem ckD_214 : mT214.all (ckD cX11_cell) = true := dqLk (show dqL cX11_cell mT214 0 cX11_cell.data.toList = true by decide +kernel)
set_option maxRecDepth 100000 in
theorem ckD_215 : mT215.all (ckD cX11_walker) = true := dqLk (show dqL cX11_walker mT215 0 cX11_walker.data.toList = true by decide +kernel)
set_option maxRecDepth 100000 in
theorem ckD_216 : mT216.all (ckD cX11_wornMany) = true := dqLk (show dqL cX11_wornMany mT216 0 cX11_wornMany.data.toList = true by decide +kernel)
set_option maxRecDepth 100000 in
theorem ckD_217 : mT217.all (ckD cX11_net) = true := dqLk (show dqL cX11_net mT217 0 cX11_net.data.toList = true by decide +kernel)
set_option maxRecDepth 100000 in
theorem ckD_218 : mT218.all (ckD cX11_pieces) = true := dqLk (show dqL cX11_pieces mT218 0 cX11_pieces.data.toList = true by decide +kernel)
set_option maxRecDepth 100000 in
theorem ckD_219 : mT219.all (ckD cX11_spread) = true := dqLk (show dqL cX11_spread mT219 0 cX11_spread.data.toList = true by decide +kernel)
set_option maxRecDepth 100000 in
theorem ckD_220 : mT220.all (ckD cX11_note) = true := dqLk (show dqL cX11_note mT220 0 cX11_note.data.toList = true by decide +kernel)
set_option maxRecDepth 100000 in
theorem ckD_221 : mT221.all (ckD cX11_isNoted) = true := dqLk (show dqL cX11_isNoted mT221 0 cX11_isNoted.data.toList = true by decide +kernel)
set_option maxRecDepth 100000 in
theorem ckD_222 : mT222.all (ckD cX11_go) = true := dqLk (show dqL cX11_go mT222 0 cX11_go.data.toList = true by decide +kernel)
set_option maxRecDepth 100000 in
theorem ckD_223 : mT223.all (ckD cX11_rests) = true := dqLk (show dqL cX11_rests mT223 0 cX11_rests.data.toList = true by decide +kernel)
set_option maxRecDepth 100000 in
theorem ckD_224 : mT224.all (ckD cX11_price) = true := dqLk (show dqL cX11_price mT224 0 cX11_price.data.toList = true by decide +kernel)
set_option maxRecDepth 100000 in
theorem ckD_225 : mT225.all (ckD cX11_least) = true := dqLk (show dqL cX11_least mT225 0 cX11_least.data.toList = true by decide +kernel)
set_option maxRecDepth 100000 in
theorem ckD_226 : mT226.all (ckD cX11_widen) = true := dqLk (show dqL cX11_widen mT226 0 cX11_widen.data.toList = true by decide +kernel)
set_option maxRecDepth 100000 in
theorem ckD_227 : mT227.all (ckD cX11_shortest) = true := dqLk (show dqL cX11_shortest mT227 0 cX11_shortest.data.toList = true by decide +kernel)
set_option maxRecDepth 100000 in
theorem ckD_228 : mT228.all (ckD cX11_longer) = true := dqLk (show dqL cX11_longer mT228 0 cX11_longer.data.toList = true by decide +kernel)
set_option maxRecDepth 100000 in
theorem ckD_229 : mT229.all (ckD cX11_turns) = true := dqLk (show dqL cX11_turns mT229 0 cX11_turns.data.toList = true by decide +kernel)
set_option maxRecDepth 100000 in
theorem ckD_230 : mT230.all (ckD cX11_pave) = true := dqLk (show dqL cX11_pave mT230 0 cX11_pave.data.toList = true by decide +kernel)
set_option maxRecDepth 100000 in
theorem ckD_231 : mT231.all (ckD cX11_paved) = true := dqLk (show dqL cX11_paved mT231 0 cX11_paved.data.toList = true by decide +kernel)
set_option maxRecDepth 100000 in
theorem ckD_232 : mT232.all (ckD cX11_wait) = true := dqLk (show dqL cX11_wait mT232 0 cX11_wait.data.toList = true by decide +kernel)
set_option maxRecDepth 100000 in
theorem ckD_233 : mT233.all (ckD cX11_isTrod) = true := dqLk (show dqL cX11_isTrod mT233 0 cX11_isTrod.data.toList = true by decide +kernel)
set_option maxRecDepth 100000 in
theorem ckD_234 : mT234.all (ckD cX11_keep) = true := dqLk (show dqL cX11_keep mT234 0 cX11_keep.data.toList = true by decide +kernel)
set_option maxRecDepth 100000 in
theorem ckD_235 : mT235.all (ckD cX11_fences) = true := dqLk (show dqL cX11_fences mT235 0 cX11_fences.data.toList = true by decide +kernel)
set_option maxRecDepth 100000 in
theorem ckD_236 : mT236.all (ckD cX11_fenceAt) = true := dqLk (show dqL cX11_fenceAt mT236 0 cX11_fenceAt.data.toList = true by decide +kernel)
set_option maxRecDepth 100000 in
theorem ckD_237 : mT237.all (ckD cX11_lasts) = true := dqLk (show dqL cX11_lasts mT237 0 cX11_lasts.data.toList = true by decide +kernel)
set_option maxRecDepth 100000 in
theorem ckD_238 : mT238.all (ckD cX11_walk) = true := dqLk (show dqL cX11_walk mT238 0 cX11_walk.data.toList = true by decide +kernel)
set_option maxRecDepth 100000 in
theorem ckD_239 : mT239.all (ckD cX11_isWay) = true := dqLk (show dqL cX11_isWay mT239 0 cX11_isWay.data.toList = true by decide +kernel)
set_option maxRecDepth 100000 in
theorem ckD_240 : mT240.all (ckD cX11_way) = true := dqLk (show dqL cX11_way mT240 0 cX11_way.data.toList = true by decide +kernel)
set_option maxRecDepth 100000 in
theorem ckD_241 : mT241.all (ckD cX11_wayAt) = true := dqLk (show dqL cX11_wayAt mT241 0 cX11_wayAt.data.toList = true by decide +kernel)
set_option maxRecDepth 100000 in
theorem ckD_242 : mT242.all (ckD cX11_read_) = true := dqLk (show dqL cX11_read_ mT242 0 cX11_read_.data.toList = true by decide +kernel)
set_option maxRecDepth 100000 in
theorem ckD_243 : mT243.all (ckD cX11_isSnow) = true := dqLk (show dqL cX11_isSnow mT243 0 cX11_isSnow.data.toList = true by decide +kernel)
set_option maxRecDepth 100000 in
theorem ckD_244 : mT244.all (ckD cX11_reads) = true := dqLk (show dqL cX11_reads mT244 0 cX11_reads.data.toList = true by decide +kernel)
set_option maxRecDepth 100000 in
theorem ckD_245 : mT245.all (ckD cX11_fits) = true := dqLk (show dqL cX11_fits mT245 0 cX11_fits.data.toList = true by decide +kernel)
set_option maxRecDepth 100000 in
theorem ckD_246 : mT246.all (ckD cX11_image) = true := dqLk (show dqL cX11_image mT246 0 cX11_image.data.toList = true by decide +kernel)
set_option maxRecDepth 100000 in
theorem ckD_247 : mT247.all (ckD cX11_restore) = true := dqLk (show dqL cX11_restore mT247 0 cX11_restore.data.toList = true by decide +kernel)
set_option maxRecDepth 100000 in
theorem ckD_248 : mT248.all (ckD cX11_count) = true := dqLk (show dqL cX11_count mT248 0 cX11_count.data.toList = true by decide +kernel)
set_option maxRecDepth 100000 in
theorem ckD_249 : mT249.all (ckD cJ13_bitCount_95d88) = true := dqLk (show dqL cJ13_bitCount_95d88 mT249 0 cJ13_bitCount_95d88.data.toList = true by decide +kernel)
set_option maxRecDepth 100000 in
theorem ckD_250_0 : mT250_0.all (ckD cL_law) = true := dqLk (show dqL cL_law mT250_0 0 cL_law.data.toList = true by decide +kernel)
set_option maxRecDepth 100000 in
theorem ckD_250_1 : mT250_1.all (ckD cL_law) = true := dqLk (show dqL cL_law mT250_1 0 cL_law.data.toList = true by decide +kernel)
set_option maxRecDepth 100000 in
theorem ckD_250_2 : mT250_2.all (ckD cL_law) = true := dqLk (show dqL cL_law mT250_2 0 cL_law.data.toList = true by decide +kernel)
set_option maxRecDepth 100000 in
theorem ckD_250_3 : mT250_3.all (ckD cL_law) = true := dqLk (show dqL cL_law mT250_3 0 cL_law.data.toList = true by decide +kernel)
set_option maxRecDepth 100000 in
theorem ckD_250_4 : mT250_4.all (ckD cL_law) = true := dqLk (show dqL cL_law mT250_4 0 cL_law.data.toList = true by decide +kernel)
set_option maxRecDepth 100000 in
theorem ckD_250_5 : mT250_5.all (ckD cL_law) = true := dqLk (show dqL cL_law mT250_5 0 cL_law.data.toList = true by decide +kernel)
set_option maxRecDepth 100000 in
theorem ckD_250_6 : mT250_6.all (ckD cL_law) = true := dqLk (show dqL cL_law mT250_6 0 cL_law.data.toList = true by decide +kernel)
set_option maxRecDepth 100000 in
theorem ckD_250_7 : mT250_7.all (ckD cL_law) = true := dqLk (show dqL cL_law mT250_7 0 cL_law.data.toList = true by decide +kernel)
set_option maxRecDepth 100000 in
theorem ckD_250_8 : mT250_8.all (ckD cL_law) = true := dqLk (show dqL cL_law mT250_8 0 cL_law.data.toList = true by decide +kernel)
set_option maxRecDepth 100000 in
theorem ckD_250_9 : mT250_9.all (ckD cL_law) = true := dqLk (show dqL cL_law mT250_9 0 cL_law.data.toList = true by decide +kernel)
set_option maxRecDepth 100000 in
theorem ckD_250_10 : mT250_10.all (ckD cL_law) = true := dqLk (show dqL cL_law mT250_10 0 cL_law.data.toList = true by decide +kernel)
set_option maxRecDepth 100000 in
theorem ckD_250_11 : mT250_11.all (ckD cL_law) = true := dqLk (show dqL cL_law mT250_11 0 cL_law.data.toList = true by decide +kernel)
set_option maxRecDepth 100000 in
theorem ckD_250_12 : mT250_12.all (ckD cL_law) = true := dqLk (show dqL cL_law mT250_12 0 cL_law.data.toList = true by decide +kernel)
set_option maxRecDepth 100000 in
theorem ckD_250_13 : mT250_13.all (ckD cL_law) = true := dqLk (show dqL cL_law mT250_13 0 cL_law.data.toList = true by decide +kernel)
set_option maxRecDepth 100000 in
theorem ckD_250_14 : mT250_14.all (ckD cL_law) = true := dqLk (show dqL cL_law mT250_14 0 cL_law.data.toList = true by decide +kernel)
set_option maxRecDepth 100000 in
theorem ckD_250_15 : mT250_15.all (ckD cL_law) = true := dqLk (show dqL cL_law mT250_15 0 cL_law.data.toList = true by decide +kernel)
set_option maxRecDepth 100000 in
theorem ckD_250_16 : mT250_16.all (ckD cL_law) = true := dqLk (show dqL cL_law mT250_16 0 cL_law.data.toList = true by decide +kernel)
theorem ckD_250 : mT250.all (ckD cL_law) = true := by
  show (mT250_0 ++ (mT250_1 ++ (mT250_2 ++ (mT250_3 ++ (mT250_4 ++ (mT250_5 ++ (mT250_6 ++ (mT250_7 ++ (mT250_8 ++ (mT250_9 ++ (mT250_10 ++ (mT250_11 ++ (mT250_12 ++ (mT250_13 ++ (mT250_14 ++ (mT250_15 ++ (mT250_16))))))))))))))))).all _ = true
  simp only [List.all_append, ckD_250_0, ckD_250_1, ckD_250_2, ckD_250_3, ckD_250_4, ckD_250_5, ckD_250_6, ckD_250_7, ckD_250_8, ckD_250_9, ckD_250_10, ckD_250_11, ckD_250_12, ckD_250_13, ckD_250_14, ckD_250_15, ckD_250_16, Bool.and_self]
theorem ckDr_0 : ∀ r ∈ mR_0, r.2.2.2.2.2.2.2.all (ckD r.2.2.1) = true := by
  refine List.forall_mem_cons.mpr ⟨ckD_0, ?_⟩
  refine List.forall_mem_cons.mpr ⟨ckD_1, ?_⟩
  refine List.forall_mem_cons.mpr ⟨ckD_2, ?_⟩
  refine List.forall_mem_cons.mpr ⟨ckD_3, ?_⟩
  refine List.forall_mem_cons.mpr ⟨ckD_4, ?_⟩
  refine List.forall_mem_cons.mpr ⟨ckD_5, ?_⟩
  refine List.forall_mem_cons.mpr ⟨ckD_6, ?_⟩
  refine List.forall_mem_cons.mpr ⟨ckD_7, ?_⟩
  refine List.forall_mem_cons.mpr ⟨ckD_8, ?_⟩
  refine List.forall_mem_cons.mpr ⟨ckD_9, ?_⟩
  refine List.forall_mem_cons.mpr ⟨ckD_10, ?_⟩
  refine List.forall_mem_cons.mpr ⟨ckD_11, ?_⟩
  refine List.forall_mem_cons.mpr ⟨ckD_12, ?_⟩
  refine List.forall_mem_cons.mpr ⟨ckD_13, ?_⟩
  refine List.forall_mem_cons.mpr ⟨ckD_14, ?_⟩
  refine List.forall_mem_cons.mpr ⟨ckD_15, ?_⟩
  refine List.forall_mem_cons.mpr ⟨ckD_16, ?_⟩
  refine List.forall_mem_cons.mpr ⟨ckD_17, ?_⟩
  refine List.forall_mem_cons.mpr ⟨ckD_18, ?_⟩
  refine List.forall_mem_cons.mpr ⟨ckD_19, ?_⟩
  refine List.forall_mem_cons.mpr ⟨ckD_20, ?_⟩
  refine List.forall_mem_cons.mpr ⟨ckD_21, ?_⟩
  refine List.forall_mem_cons.mpr ⟨ckD_22, ?_⟩
  refine List.forall_mem_cons.mpr ⟨ckD_23, ?_⟩
  refine List.forall_mem_cons.mpr ⟨ckD_24, ?_⟩
  refine List.forall_mem_cons.mpr ⟨ckD_25, ?_⟩
  refine List.forall_mem_cons.mpr ⟨ckD_26, ?_⟩
  refine List.forall_mem_cons.mpr ⟨ckD_27, ?_⟩
  refine List.forall_mem_cons.mpr ⟨ckD_28, ?_⟩
  refine List.forall_mem_cons.mpr ⟨ckD_29, ?_⟩
  refine List.forall_mem_cons.mpr ⟨ckD_30, ?_⟩
  refine List.forall_mem_cons.mpr ⟨ckD_31, ?_⟩
  refine List.forall_mem_cons.mpr ⟨ckD_32, ?_⟩
  refine List.forall_mem_cons.mpr ⟨ckD_33, ?_⟩
  refine List.forall_mem_cons.mpr ⟨ckD_34, ?_⟩
  refine List.forall_mem_cons.mpr ⟨ckD_35, ?_⟩
  refine List.forall_mem_cons.mpr ⟨ckD_36, ?_⟩
  refine List.forall_mem_cons.mpr ⟨ckD_37, ?_⟩
  refine List.forall_mem_cons.mpr ⟨ckD_38, ?_⟩
  refine List.forall_mem_cons.mpr ⟨ckD_39, ?_⟩
  exact fun _ h => absurd h List.not_mem_nil
theorem ckDr_1 : ∀ r ∈ mR_1, r.2.2.2.2.2.2.2.all (ckD r.2.2.1) = true := by
  refine List.forall_mem_cons.mpr ⟨ckD_40, ?_⟩
  refine List.forall_mem_cons.mpr ⟨ckD_41, ?_⟩
  refine List.forall_mem_cons.mpr ⟨ckD_42, ?_⟩
  refine List.forall_mem_cons.mpr ⟨ckD_43, ?_⟩
  refine List.forall_mem_cons.mpr ⟨ckD_44, ?_⟩
  refine List.forall_mem_cons.mpr ⟨ckD_45, ?_⟩
  refine List.forall_mem_cons.mpr ⟨ckD_46, ?_⟩
  refine List.forall_mem_cons.mpr ⟨ckD_47, ?_⟩
  refine List.forall_mem_cons.mpr ⟨ckD_48, ?_⟩
  refine List.forall_mem_cons.mpr ⟨ckD_49, ?_⟩
  refine List.forall_mem_cons.mpr ⟨ckD_50, ?_⟩
  refine List.forall_mem_cons.mpr ⟨ckD_51, ?_⟩
  refine List.forall_mem_cons.mpr ⟨ckD_52, ?_⟩
  refine List.forall_mem_cons.mpr ⟨ckD_53, ?_⟩
  refine List.forall_mem_cons.mpr ⟨ckD_54, ?_⟩
  refine List.forall_mem_cons.mpr ⟨ckD_55, ?_⟩
  refine List.forall_mem_cons.mpr ⟨ckD_56, ?_⟩
  refine List.forall_mem_cons.mpr ⟨ckD_57, ?_⟩
  refine List.forall_mem_cons.mpr ⟨ckD_58, ?_⟩
  refine List.forall_mem_cons.mpr ⟨ckD_59, ?_⟩
  refine List.forall_mem_cons.mpr ⟨ckD_60, ?_⟩
  refine List.forall_mem_cons.mpr ⟨ckD_61, ?_⟩
  refine List.forall_mem_cons.mpr ⟨ckD_62, ?_⟩
  refine List.forall_mem_cons.mpr ⟨ckD_63, ?_⟩
  refine List.forall_mem_cons.mpr ⟨ckD_64, ?_⟩
  refine List.forall_mem_cons.mpr ⟨ckD_65, ?_⟩
  refine List.forall_mem_cons.mpr ⟨ckD_66, ?_⟩
  refine List.forall_mem_cons.mpr ⟨ckD_67, ?_⟩
  refine List.forall_mem_cons.mpr ⟨ckD_68, ?_⟩
  refine List.forall_mem_cons.mpr ⟨ckD_69, ?_⟩
  refine List.forall_mem_cons.mpr ⟨ckD_70, ?_⟩
  refine List.forall_mem_cons.mpr ⟨ckD_71, ?_⟩
  refine List.forall_mem_cons.mpr ⟨ckD_72, ?_⟩
  refine List.forall_mem_cons.mpr ⟨ckD_73, ?_⟩
  refine List.forall_mem_cons.mpr ⟨ckD_74, ?_⟩
  refine List.forall_mem_cons.mpr ⟨ckD_75, ?_⟩
  refine List.forall_mem_cons.mpr ⟨ckD_76, ?_⟩
  refine List.forall_mem_cons.mpr ⟨ckD_77, ?_⟩
  refine List.forall_mem_cons.mpr ⟨ckD_78, ?_⟩
  refine List.forall_mem_cons.mpr ⟨ckD_79, ?_⟩
  exact fun _ h => absurd h List.not_mem_nil
theorem ckDr_2 : ∀ r ∈ mR_2, r.2.2.2.2.2.2.2.all (ckD r.2.2.1) = true := by
  refine List.forall_mem_cons.mpr ⟨ckD_80, ?_⟩
  refine List.forall_mem_cons.mpr ⟨ckD_81, ?_⟩
  refine List.forall_mem_cons.mpr ⟨ckD_82, ?_⟩
  refine List.forall_mem_cons.mpr ⟨ckD_83, ?_⟩
  refine List.forall_mem_cons.mpr ⟨ckD_84, ?_⟩
  refine List.forall_mem_cons.mpr ⟨ckD_85, ?_⟩
  refine List.forall_mem_cons.mpr ⟨ckD_86, ?_⟩
  refine List.forall_mem_cons.mpr ⟨ckD_87, ?_⟩
  refine List.forall_mem_cons.mpr ⟨ckD_88, ?_⟩
  refine List.forall_mem_cons.mpr ⟨ckD_89, ?_⟩
  refine List.forall_mem_cons.mpr ⟨ckD_90, ?_⟩
  refine List.forall_mem_cons.mpr ⟨ckD_91, ?_⟩
  refine List.forall_mem_cons.mpr ⟨ckD_92, ?_⟩
  refine List.forall_mem_cons.mpr ⟨ckD_93, ?_⟩
  refine List.forall_mem_cons.mpr ⟨ckD_94, ?_⟩
  refine List.forall_mem_cons.mpr ⟨ckD_95, ?_⟩
  refine List.forall_mem_cons.mpr ⟨ckD_96, ?_⟩
  refine List.forall_mem_cons.mpr ⟨ckD_97, ?_⟩
  refine List.forall_mem_cons.mpr ⟨ckD_98, ?_⟩
  refine List.forall_mem_cons.mpr ⟨ckD_99, ?_⟩
  refine List.forall_mem_cons.mpr ⟨ckD_100, ?_⟩
  refine List.forall_mem_cons.mpr ⟨ckD_101, ?_⟩
  refine List.forall_mem_cons.mpr ⟨ckD_102, ?_⟩
  refine List.forall_mem_cons.mpr ⟨ckD_103, ?_⟩
  refine List.forall_mem_cons.mpr ⟨ckD_104, ?_⟩
  refine List.forall_mem_cons.mpr ⟨ckD_105, ?_⟩
  refine List.forall_mem_cons.mpr ⟨ckD_106, ?_⟩
  refine List.forall_mem_cons.mpr ⟨ckD_107, ?_⟩
  refine List.forall_mem_cons.mpr ⟨ckD_108, ?_⟩
  refine List.forall_mem_cons.mpr ⟨ckD_109, ?_⟩
  refine List.forall_mem_cons.mpr ⟨ckD_110, ?_⟩
  refine List.forall_mem_cons.mpr ⟨ckD_111, ?_⟩
  refine List.forall_mem_cons.mpr ⟨ckD_112, ?_⟩
  refine List.forall_mem_cons.mpr ⟨ckD_113, ?_⟩
  refine List.forall_mem_cons.mpr ⟨ckD_114, ?_⟩
  refine List.forall_mem_cons.mpr ⟨ckD_115, ?_⟩
  refine List.forall_mem_cons.mpr ⟨ckD_116, ?_⟩
  refine List.forall_mem_cons.mpr ⟨ckD_117, ?_⟩
  refine List.forall_mem_cons.mpr ⟨ckD_118, ?_⟩
  refine List.forall_mem_cons.mpr ⟨ckD_119, ?_⟩
  exact fun _ h => absurd h List.not_mem_nil
theorem ckDr_3 : ∀ r ∈ mR_3, r.2.2.2.2.2.2.2.all (ckD r.2.2.1) = true := by
  refine List.forall_mem_cons.mpr ⟨ckD_120, ?_⟩
  refine List.forall_mem_cons.mpr ⟨ckD_121, ?_⟩
  refine List.forall_mem_cons.mpr ⟨ckD_122, ?_⟩
  refine List.forall_mem_cons.mpr ⟨ckD_123, ?_⟩
  refine List.forall_mem_cons.mpr ⟨ckD_124, ?_⟩
  refine List.forall_mem_cons.mpr ⟨ckD_125, ?_⟩
  refine List.forall_mem_cons.mpr ⟨ckD_126, ?_⟩
  refine List.forall_mem_cons.mpr ⟨ckD_127, ?_⟩
  refine List.forall_mem_cons.mpr ⟨ckD_128, ?_⟩
  refine List.forall_mem_cons.mpr ⟨ckD_129, ?_⟩
  refine List.forall_mem_cons.mpr ⟨ckD_130, ?_⟩
  refine List.forall_mem_cons.mpr ⟨ckD_131, ?_⟩
  refine List.forall_mem_cons.mpr ⟨ckD_132, ?_⟩
  refine List.forall_mem_cons.mpr ⟨ckD_133, ?_⟩
  refine List.forall_mem_cons.mpr ⟨ckD_134, ?_⟩
  refine List.forall_mem_cons.mpr ⟨ckD_135, ?_⟩
  refine List.forall_mem_cons.mpr ⟨ckD_136, ?_⟩
  refine List.forall_mem_cons.mpr ⟨ckD_137, ?_⟩
  refine List.forall_mem_cons.mpr ⟨ckD_138, ?_⟩
  refine List.forall_mem_cons.mpr ⟨ckD_139, ?_⟩
  refine List.forall_mem_cons.mpr ⟨ckD_140, ?_⟩
  refine List.forall_mem_cons.mpr ⟨ckD_141, ?_⟩
  refine List.forall_mem_cons.mpr ⟨ckD_142, ?_⟩
  refine List.forall_mem_cons.mpr ⟨ckD_143, ?_⟩
  refine List.forall_mem_cons.mpr ⟨ckD_144, ?_⟩
  refine List.forall_mem_cons.mpr ⟨ckD_145, ?_⟩
  refine List.forall_mem_cons.mpr ⟨ckD_146, ?_⟩
  refine List.forall_mem_cons.mpr ⟨ckD_147, ?_⟩
  refine List.forall_mem_cons.mpr ⟨ckD_148, ?_⟩
  refine List.forall_mem_cons.mpr ⟨ckD_149, ?_⟩
  refine List.forall_mem_cons.mpr ⟨ckD_150, ?_⟩
  refine List.forall_mem_cons.mpr ⟨ckD_151, ?_⟩
  refine List.forall_mem_cons.mpr ⟨ckD_152, ?_⟩
  refine List.forall_mem_cons.mpr ⟨ckD_153, ?_⟩
  refine List.forall_mem_cons.mpr ⟨ckD_154, ?_⟩
  refine List.forall_mem_cons.mpr ⟨ckD_155, ?_⟩
  refine List.forall_mem_cons.mpr ⟨ckD_156, ?_⟩
  refine List.forall_mem_cons.mpr ⟨ckD_157, ?_⟩
  refine List.forall_mem_cons.mpr ⟨ckD_158, ?_⟩
  refine List.forall_mem_cons.mpr ⟨ckD_159, ?_⟩
  exact fun _ h => absurd h List.not_mem_nil
theorem ckDr_4 : ∀ r ∈ mR_4, r.2.2.2.2.2.2.2.all (ckD r.2.2.1) = true := by
  refine List.forall_mem_cons.mpr ⟨ckD_160, ?_⟩
  refine List.forall_mem_cons.mpr ⟨ckD_161, ?_⟩
  refine List.forall_mem_cons.mpr ⟨ckD_162, ?_⟩
  refine List.forall_mem_cons.mpr ⟨ckD_163, ?_⟩
  refine List.forall_mem_cons.mpr ⟨ckD_164, ?_⟩
  refine List.forall_mem_cons.mpr ⟨ckD_165, ?_⟩
  refine List.forall_mem_cons.mpr ⟨ckD_166, ?_⟩
  refine List.forall_mem_cons.mpr ⟨ckD_167, ?_⟩
  refine List.forall_mem_cons.mpr ⟨ckD_168, ?_⟩
  refine List.forall_mem_cons.mpr ⟨ckD_169, ?_⟩
  refine List.forall_mem_cons.mpr ⟨ckD_170, ?_⟩
  refine List.forall_mem_cons.mpr ⟨ckD_171, ?_⟩
  refine List.forall_mem_cons.mpr ⟨ckD_172, ?_⟩
  refine List.forall_mem_cons.mpr ⟨ckD_173, ?_⟩
  refine List.forall_mem_cons.mpr ⟨ckD_174, ?_⟩
  refine List.forall_mem_cons.mpr ⟨ckD_175, ?_⟩
  refine List.forall_mem_cons.mpr ⟨ckD_176, ?_⟩
  refine List.forall_mem_cons.mpr ⟨ckD_177, ?_⟩
  refine List.forall_mem_cons.mpr ⟨ckD_178, ?_⟩
  refine List.forall_mem_cons.mpr ⟨ckD_179, ?_⟩
  refine List.forall_mem_cons.mpr ⟨ckD_180, ?_⟩
  refine List.forall_mem_cons.mpr ⟨ckD_181, ?_⟩
  refine List.forall_mem_cons.mpr ⟨ckD_182, ?_⟩
  refine List.forall_mem_cons.mpr ⟨ckD_183, ?_⟩
  refine List.forall_mem_cons.mpr ⟨ckD_184, ?_⟩
  refine List.forall_mem_cons.mpr ⟨ckD_185, ?_⟩
  refine List.forall_mem_cons.mpr ⟨ckD_186, ?_⟩
  refine List.forall_mem_cons.mpr ⟨ckD_187, ?_⟩
  refine List.forall_mem_cons.mpr ⟨ckD_188, ?_⟩
  refine List.forall_mem_cons.mpr ⟨ckD_189, ?_⟩
  refine List.forall_mem_cons.mpr ⟨ckD_190, ?_⟩
  refine List.forall_mem_cons.mpr ⟨ckD_191, ?_⟩
  refine List.forall_mem_cons.mpr ⟨ckD_192, ?_⟩
  refine List.forall_mem_cons.mpr ⟨ckD_193, ?_⟩
  refine List.forall_mem_cons.mpr ⟨ckD_194, ?_⟩
  refine List.forall_mem_cons.mpr ⟨ckD_195, ?_⟩
  refine List.forall_mem_cons.mpr ⟨ckD_196, ?_⟩
  refine List.forall_mem_cons.mpr ⟨ckD_197, ?_⟩
  refine List.forall_mem_cons.mpr ⟨ckD_198, ?_⟩
  refine List.forall_mem_cons.mpr ⟨ckD_199, ?_⟩
  exact fun _ h => absurd h List.not_mem_nil
theorem ckDr_5 : ∀ r ∈ mR_5, r.2.2.2.2.2.2.2.all (ckD r.2.2.1) = true := by
  refine List.forall_mem_cons.mpr ⟨ckD_200, ?_⟩
  refine List.forall_mem_cons.mpr ⟨ckD_201, ?_⟩
  refine List.forall_mem_cons.mpr ⟨ckD_202, ?_⟩
  refine List.forall_mem_cons.mpr ⟨ckD_203, ?_⟩
  refine List.forall_mem_cons.mpr ⟨ckD_204, ?_⟩
  refine List.forall_mem_cons.mpr ⟨ckD_205, ?_⟩
  refine List.forall_mem_cons.mpr ⟨ckD_206, ?_⟩
  refine List.forall_mem_cons.mpr ⟨ckD_207, ?_⟩
  refine List.forall_mem_cons.mpr ⟨ckD_208, ?_⟩
  refine List.forall_mem_cons.mpr ⟨ckD_209, ?_⟩
  refine List.forall_mem_cons.mpr ⟨ckD_210, ?_⟩
  refine List.forall_mem_cons.mpr ⟨ckD_211, ?_⟩
  refine List.forall_mem_cons.mpr ⟨ckD_212, ?_⟩
  refine List.forall_mem_cons.mpr ⟨ckD_213, ?_⟩
  refine List.forall_mem_cons.mpr ⟨ckD_214, ?_⟩
  refine List.forall_mem_cons.mpr ⟨ckD_215, ?_⟩
  refine List.forall_mem_cons.mpr ⟨ckD_216, ?_⟩
  refine List.forall_mem_cons.mpr ⟨ckD_217, ?_⟩
  refine List.forall_mem_cons.mpr ⟨ckD_218, ?_⟩
  refine List.forall_mem_cons.mpr ⟨ckD_219, ?_⟩
  refine List.forall_mem_cons.mpr ⟨ckD_220, ?_⟩
  refine List.forall_mem_cons.mpr ⟨ckD_221, ?_⟩
  refine List.forall_mem_cons.mpr ⟨ckD_222, ?_⟩
  refine List.forall_mem_cons.mpr ⟨ckD_223, ?_⟩
  refine List.forall_mem_cons.mpr ⟨ckD_224, ?_⟩
  refine List.forall_mem_cons.mpr ⟨ckD_225, ?_⟩
  refine List.forall_mem_cons.mpr ⟨ckD_226, ?_⟩
  refine List.forall_mem_cons.mpr ⟨ckD_227, ?_⟩
  refine List.forall_mem_cons.mpr ⟨ckD_228, ?_⟩
  refine List.forall_mem_cons.mpr ⟨ckD_229, ?_⟩
  refine List.forall_mem_cons.mpr ⟨ckD_230, ?_⟩
  refine List.forall_mem_cons.mpr ⟨ckD_231, ?_⟩
  refine List.forall_mem_cons.mpr ⟨ckD_232, ?_⟩
  refine List.forall_mem_cons.mpr ⟨ckD_233, ?_⟩
  refine List.forall_mem_cons.mpr ⟨ckD_234, ?_⟩
  refine List.forall_mem_cons.mpr ⟨ckD_235, ?_⟩
  refine List.forall_mem_cons.mpr ⟨ckD_236, ?_⟩
  refine List.forall_mem_cons.mpr ⟨ckD_237, ?_⟩
  refine List.forall_mem_cons.mpr ⟨ckD_238, ?_⟩
  refine List.forall_mem_cons.mpr ⟨ckD_239, ?_⟩
  exact fun _ h => absurd h List.not_mem_nil
theorem ckDr_6 : ∀ r ∈ mR_6, r.2.2.2.2.2.2.2.all (ckD r.2.2.1) = true := by
  refine List.forall_mem_cons.mpr ⟨ckD_240, ?_⟩
  refine List.forall_mem_cons.mpr ⟨ckD_241, ?_⟩
  refine List.forall_mem_cons.mpr ⟨ckD_242, ?_⟩
  refine List.forall_mem_cons.mpr ⟨ckD_243, ?_⟩
  refine List.forall_mem_cons.mpr ⟨ckD_244, ?_⟩
  refine List.forall_mem_cons.mpr ⟨ckD_245, ?_⟩
  refine List.forall_mem_cons.mpr ⟨ckD_246, ?_⟩
  refine List.forall_mem_cons.mpr ⟨ckD_247, ?_⟩
  refine List.forall_mem_cons.mpr ⟨ckD_248, ?_⟩
  refine List.forall_mem_cons.mpr ⟨ckD_249, ?_⟩
  refine List.forall_mem_cons.mpr ⟨ckD_250, ?_⟩
  exact fun _ h => absurd h List.not_mem_nil
theorem ckDs : ∀ r ∈ mRs, r.2.2.2.2.2.2.2.all (ckD r.2.2.1) = true := by
  show ∀ r ∈ mR_0 ++ (mR_1 ++ (mR_2 ++ (mR_3 ++ (mR_4 ++ (mR_5 ++ (mR_6)))))), _
  exact List.forall_mem_append.mpr ⟨ckDr_0, List.forall_mem_append.mpr ⟨ckDr_1, List.forall_mem_append.mpr ⟨ckDr_2, List.forall_mem_append.mpr ⟨ckDr_3, List.forall_mem_append.mpr ⟨ckDr_4, List.forall_mem_append.mpr ⟨ckDr_5, ckDr_6⟩⟩⟩⟩⟩⟩
