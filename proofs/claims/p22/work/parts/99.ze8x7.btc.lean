/-! HOW MANY BITS: the library's bitCount -/
noncomputable def bqN (x : Int64) : Nat := x.toBitVec.toNat
def ctW (f : Nat → Bool) : Nat → Nat → Nat
  | 0, _ => 0
  | r + 1, i => (if f i = true then 1 else 0) + ctW f r (i + 1)
section BTC
variable {e n k i m : Nat} {M M' : Mem} {v : Option Value} {x y : Int64} {u : UInt64}
theorem bqN_lt : bqN x < 18446744073709551616 := x.toBitVec.isLt
theorem bqN_sub (h : bqN y ≤ bqN x) : bqN (x - y) = bqN x - bqN y := by
  unfold bqN at h ⊢
  rw [Int64.toBitVec_sub]
  exact BitVec.toNat_sub_of_le h
theorem bqN_add (h : bqN x + bqN y < 18446744073709551616) : bqN (x + y) = bqN x + bqN y := by
  unfold bqN at h ⊢
  rw [Int64.toBitVec_add, BitVec.toNat_add]
  exact Nat.mod_eq_of_lt h
theorem bqN_and : bqN (x &&& y) = bqN x &&& bqN y := by
  unfold bqN
  rw [Int64.toBitVec_and, BitVec.toNat_and]
theorem bqN_shr (h : (u.toBitVec % 64).toNat = k) : bqN ((x.toUInt64 >>> u).toInt64) = bqN x / 2 ^ k := by
  show ((x.toUInt64 >>> u).toBitVec).toNat = _
  rw [UInt64.toBitVec_shiftRight]
  show (x.toUInt64.toBitVec >>> (u.toBitVec % 64).toNat).toNat = _
  rw [h, BitVec.toNat_ushiftRight, Nat.shiftRight_eq_div_pow]
  rfl
theorem sh_1 : (((1 : Int32).toInt64.toUInt64 &&& Int64.toUInt64 63).toBitVec % 64).toNat = 1 := by decide
theorem sh_2 : (((2 : Int32).toInt64.toUInt64 &&& Int64.toUInt64 63).toBitVec % 64).toNat = 2 := by decide
theorem sh_4 : (((4 : Int32).toInt64.toUInt64 &&& Int64.toUInt64 63).toBitVec % 64).toNat = 4 := by decide
theorem sh_8 : (((8 : Int32).toInt64.toUInt64 &&& Int64.toUInt64 63).toBitVec % 64).toNat = 8 := by decide
theorem sh_16 : (((16 : Int32).toInt64.toUInt64 &&& Int64.toUInt64 63).toBitVec % 64).toNat = 16 := by decide
theorem sh_32 : (((32 : Int32).toInt64.toUInt64 &&& Int64.toUInt64 63).toBitVec % 64).toNat = 32 := by decide
theorem tm_1 : bqN 6148914691236517205 = mk1 32 := by decide +kernel
theorem tm_2 : bqN 3689348814741910323 = mk2 16 := by decide +kernel
theorem tm_4 : bqN 1085102592571150095 = mk4 8 := by decide +kernel
theorem bqN_127 : (x.toInt32 &&& 127).toInt = ((bqN x % 128 : Nat) : Int) := by
  have e : (x.toInt32 &&& 127).toBitVec.toNat = bqN x % 128 := by
    rw [Int32.toBitVec_and, BitVec.toNat_and]
    have h1 : x.toInt32.toBitVec.toNat = bqN x % 4294967296 := by
      show (x.toBitVec.signExtend 32).toNat = _
      rw [BitVec.signExtend_eq_setWidth_of_le _ (by decide), BitVec.toNat_setWidth]
      rfl
    have h2 : (127 : Int32).toBitVec.toNat = 2 ^ 7 - 1 := by decide
    rw [h1, h2, Nat.and_two_pow_sub_one_eq_mod]
    omega
  show (x.toInt32 &&& 127).toBitVec.toInt = _
  rw [BitVec.toInt_eq_toNat_of_lt (by rw [e]; omega), e]
theorem p2_le : ∀ k m, 15 * p2 k m + 6 ≤ 6 * 16 ^ k := by
  intro k
  induction k with
  | zero => intro m; exact Nat.le_refl _
  | succ k ih =>
    intro m
    have q := ih (m / 16)
    unfold p2
    rw [Nat.pow_succ]
    omega
theorem p4_le : ∀ k m, 255 * p4 k m + 30 ≤ 30 * 256 ^ k := by
  intro k
  induction k with
  | zero => intro m; exact Nat.le_refl _
  | succ k ih =>
    intro m
    have q := ih (m / 256)
    unfold p4
    rw [Nat.pow_succ]
    omega
theorem p4_dig : ∀ k m i, p4 k m / 256 ^ i % 256 ≤ 30 := by
  intro k
  induction k with
  | zero =>
    intro m i
    show 0 / 256 ^ i % 256 ≤ 30
    rw [Nat.zero_div]
    decide
  | succ k ih =>
    intro m i
    cases i with
    | zero =>
      unfold p4
      rw [Nat.pow_zero, Nat.div_one]
      omega
    | succ i =>
      have q := ih (m / 256) i
      have h : p4 (k + 1) m / 256 ^ (i + 1) = p4 k (m / 256) / 256 ^ i := by
        rw [Nat.pow_succ, Nat.mul_comm, ← Nat.div_div_eq_div_mul]
        have h2 : p4 (k + 1) m / 256 = p4 k (m / 256) := by
          show (m % 16 + m / 16 % 16 + 256 * p4 k (m / 256)) / 256 = _
          omega
        rw [h2]
      rw [h]
      exact q
theorem sb1_le : ∀ k n, sb1 k n ≤ k := by
  intro k
  induction k with
  | zero => intro n; exact Nat.le_refl _
  | succ k ih =>
    intro n
    have q := ih (n / 2)
    unfold sb1
    omega
theorem sb1_ct : ∀ k n i, sb1 k n = ctW (fun b => n.testBit (b - i)) k i := by
  intro k
  induction k with
  | zero => intro n i; rfl
  | succ k ih =>
    intro n i
    unfold sb1 ctW
    try dsimp only
    rw [Nat.sub_self, Nat.testBit_zero, ih (n / 2) (i + 1)]
    have h : ∀ r j, i + 1 ≤ j → ctW (fun b => (n / 2).testBit (b - (i + 1))) r j = ctW (fun b => n.testBit (b - i)) r j := by
      intro r
      induction r with
      | zero => intro j _; rfl
      | succ r ih2 =>
        intro j hj
        unfold ctW
        try dsimp only
        rw [ih2 (j + 1) (by omega)]
        have e : n.testBit (j - i) = (n / 2).testBit (j - (i + 1)) := by
          have e2 : j - i = (j - (i + 1)) + 1 := by omega
          rw [e2, Nat.testBit_succ]
        rw [e]
    rw [h k (i + 1) (Nat.le_refl _)]
    rcases Nat.mod_two_eq_zero_or_one n with q | q
    · rw [q]; rfl
    · rw [q]; rfl
theorem btc_ok (hS : SQ M) (H : Ev none e 249 0 [some (.long x), none] [] M v M' 0 0) : M' = M ∧ ∃ r : Int32, v = some (.int r) ∧ r.toInt = ((sb1 64 (bqN x) : Nat) : Int) := by
  have hn := bqN_lt (x := x)
  have H := btc_0 hS H
  obtain ⟨x1, e1⟩ : ∃ x1, x1 = x - ((x.toUInt64 >>> ((1 : Int32).toInt64.toUInt64 &&& Int64.toUInt64 63)).toInt64 &&& 6148914691236517205) := ⟨_, rfl⟩
  rw [← e1] at H
  have a1 : bqN ((x.toUInt64 >>> ((1 : Int32).toInt64.toUInt64 &&& Int64.toUInt64 63)).toInt64 &&& 6148914691236517205) = o1 32 (bqN x) := by
    rw [bqN_and, bqN_shr sh_1, tm_1]
    exact and_m1 32 (bqN x)
  have w4 : (4 : Nat) ^ 32 = 18446744073709551616 := by decide
  have t1 : bqN x1 = p1 32 (bqN x) := by
    rw [e1, bqN_sub (by rw [a1]; exact o1_le 32 (bqN x)), a1]
    exact o1_p1 32 (bqN x) (by rw [w4]; exact hn)
  have H := btc_10 hS H
  obtain ⟨x2, e2'⟩ : ∃ x2, x2 = (x1 &&& 3689348814741910323) + ((x1.toUInt64 >>> ((2 : Int32).toInt64.toUInt64 &&& Int64.toUInt64 63)).toInt64 &&& 3689348814741910323) := ⟨_, rfl⟩
  rw [← e2'] at H
  have l2 := p2_le 16 (bqN x1)
  have w16 : (16 : Nat) ^ 16 = 18446744073709551616 := by decide
  rw [w16] at l2
  have b1 : bqN (x1 &&& 3689348814741910323) = e2 16 (bqN x1) := by
    rw [bqN_and, tm_2]
    exact and_m2 16 (bqN x1)
  have b2 : bqN ((x1.toUInt64 >>> ((2 : Int32).toInt64.toUInt64 &&& Int64.toUInt64 63)).toInt64 &&& 3689348814741910323) = e2 16 (bqN x1 / 4) := by
    rw [bqN_and, bqN_shr sh_2, tm_2]
    exact and_m2 16 _
  have b3 := e2_p2 16 (bqN x1)
  have t2 : bqN x2 = p2 16 (bqN x1) := by
    rw [e2', bqN_add (by rw [b1, b2, b3]; omega), b1, b2, b3]
  have H := btc_24 hS H
  obtain ⟨x3, e3⟩ : ∃ x3, x3 = (x2 + (x2.toUInt64 >>> ((4 : Int32).toInt64.toUInt64 &&& Int64.toUInt64 63)).toInt64) &&& 1085102592571150095 := ⟨_, rfl⟩
  rw [← e3] at H
  have c1 : bqN ((x2.toUInt64 >>> ((4 : Int32).toInt64.toUInt64 &&& Int64.toUInt64 63)).toInt64) = bqN x2 / 16 := bqN_shr sh_4
  have t3 : bqN x3 = p4 8 (p2 16 (bqN x1)) := by
    rw [e3, bqN_and, tm_4, bqN_add (by rw [c1, t2]; omega), c1, t2]
    exact (and_m4 8 _).trans (e4_p4 8 _ (nb6_p2 8 (bqN x1)))
  have l3 := p4_le 8 (p2 16 (bqN x1))
  have w8 : (256 : Nat) ^ 8 = 18446744073709551616 := by decide
  rw [w8, ← t3] at l3
  have H := btc_34 hS H
  obtain ⟨x4, e4'⟩ : ∃ x4, x4 = x3 + (x3.toUInt64 >>> ((8 : Int32).toInt64.toUInt64 &&& Int64.toUInt64 63)).toInt64 := ⟨_, rfl⟩
  rw [← e4'] at H
  have d1 : bqN ((x3.toUInt64 >>> ((8 : Int32).toInt64.toUInt64 &&& Int64.toUInt64 63)).toInt64) = bqN x3 / 256 := bqN_shr sh_8
  have t4 : bqN x4 = bqN x3 + bqN x3 / 256 := by rw [e4', bqN_add (by rw [d1]; omega), d1]
  have H := btc_41 hS H
  obtain ⟨x5, e5⟩ : ∃ x5, x5 = x4 + (x4.toUInt64 >>> ((16 : Int32).toInt64.toUInt64 &&& Int64.toUInt64 63)).toInt64 := ⟨_, rfl⟩
  rw [← e5] at H
  have d2 : bqN ((x4.toUInt64 >>> ((16 : Int32).toInt64.toUInt64 &&& Int64.toUInt64 63)).toInt64) = bqN x4 / 65536 := bqN_shr sh_16
  have t5 : bqN x5 = bqN x4 + bqN x4 / 65536 := by rw [e5, bqN_add (by rw [d2]; omega), d2]
  have H := btc_48 hS H
  obtain ⟨x6, e6⟩ : ∃ x6, x6 = x5 + (x5.toUInt64 >>> ((32 : Int32).toInt64.toUInt64 &&& Int64.toUInt64 63)).toInt64 := ⟨_, rfl⟩
  rw [← e6] at H
  have d3 : bqN ((x5.toUInt64 >>> ((32 : Int32).toInt64.toUInt64 &&& Int64.toUInt64 63)).toInt64) = bqN x5 / 4294967296 := bqN_shr sh_32
  have t6 : bqN x6 = bqN x5 + bqN x5 / 4294967296 := by rw [e6, bqN_add (by rw [d3]; omega), d3]
  obtain ⟨r1, r2⟩ := btc_55 hS H
  refine ⟨r2, _, r1, ?_⟩
  rw [bqN_127]
  have s8 := sb8_end (n := bqN x3) bqN_lt (fun i _ => by rw [t3]; exact p4_dig 8 _ i)
  have ss : sb8 8 (bqN x3) = sb1 64 (bqN x) := by
    have q1 := sb8_p4 8 (p2 16 (bqN x1))
    have q2 := sb4_p2 16 (bqN x1)
    have q3 := sb2_p1 32 (bqN x)
    rw [t1] at q1 q2 t3
    rw [t3]
    exact (q1.trans q2).trans q3
  have l64 := sb1_le 64 (bqN x)
  rw [ss, ← t4, ← t5, ← t6] at s8
  revert s8 l64
  generalize sb1 64 (bqN x) = u
  generalize bqN x6 = w
  intro s8 l64
  have e : w % 128 = u := by omega
  rw [e]
end BTC
