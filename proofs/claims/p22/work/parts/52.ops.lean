/-! THE CHECKER, 3: what an instruction does to ints, by intervals -/
theorem i32_lt (x : Int32) : -2147483648 ≤ x.toInt ∧ x.toInt ≤ 2147483647 := by
  have h1 := x.le_toInt
  have h2 := x.toInt_lt
  constructor <;> omega
theorem i32_add {x y : Int32} (h1 : -2147483648 ≤ x.toInt + y.toInt) (h2 : x.toInt + y.toInt ≤ 2147483647) : (x + y).toInt = x.toInt + y.toInt := by
  rw [Int32.toInt_add]
  exact Int.bmod_eq_of_le (by omega) (by omega)
theorem i32_sub {x y : Int32} (h1 : -2147483648 ≤ x.toInt - y.toInt) (h2 : x.toInt - y.toInt ≤ 2147483647) : (x - y).toInt = x.toInt - y.toInt := by
  rw [Int32.toInt_sub]
  exact Int.bmod_eq_of_le (by omega) (by omega)
theorem i32_mul {x y : Int32} (h1 : -2147483648 ≤ x.toInt * y.toInt) (h2 : x.toInt * y.toInt ≤ 2147483647) : (x * y).toInt = x.toInt * y.toInt := by
  rw [Int32.toInt_mul]
  exact Int.bmod_eq_of_le (by omega) (by omega)
theorem i32_neg {x : Int32} (h1 : -2147483647 ≤ x.toInt) : (-x).toInt = -x.toInt := by
  have := i32_lt x
  rw [Int32.toInt_neg]
  exact Int.bmod_eq_of_le (by omega) (by omega)
theorem i32_ofInt {n : Int} (h1 : -2147483648 ≤ n) (h2 : n ≤ 2147483647) : (Int32.ofInt n).toInt = n := by
  have hs : ((Int32.size : Nat) : Int) = 4294967296 := rfl
  rw [Int32.toInt_ofInt]
  exact Int.bmod_eq_of_le (by omega) (by omega)
theorem i32_of8 {n : Int} (h1 : -128 ≤ n) (h2 : n ≤ 127) : (Int8.ofInt n).toInt32.toInt = n := by
  have hs : ((Int8.size : Nat) : Int) = 256 := rfl
  rw [Int8.toInt_toInt32, Int8.toInt_ofInt]
  exact Int.bmod_eq_of_le (by omega) (by omega)
theorem i32_of16 {n : Int} (h1 : -32768 ≤ n) (h2 : n ≤ 32767) : (Int16.ofInt n).toInt32.toInt = n := by
  have hs : ((Int16.size : Nat) : Int) = 65536 := rfl
  rw [Int16.toInt_toInt32, Int16.toInt_ofInt]
  exact Int.bmod_eq_of_le (by omega) (by omega)
theorem i32_div {x y : Int32} (h : 0 < y.toInt) : (x / y).toInt = x.toInt.tdiv y.toInt := by
  have hx := i32_lt x
  have hy := i32_lt y
  rw [Int32.toInt_div]
  have h3 : -2147483648 ≤ x.toInt.tdiv y.toInt ∧ x.toInt.tdiv y.toInt ≤ 2147483647 := by
    rcases Int.le_total 0 x.toInt with h0 | h0
    · have a1 : 0 ≤ x.toInt.tdiv y.toInt := Int.tdiv_nonneg h0 (by omega)
      have a2 : x.toInt.tdiv y.toInt ≤ x.toInt := by
        rw [Int.tdiv_eq_ediv_of_nonneg h0]
        exact Int.ediv_le_self _ h0
      omega
    · have e : x.toInt = -(-x.toInt) := by omega
      have a0 : 0 ≤ -x.toInt := by omega
      have a1 : 0 ≤ (-x.toInt).tdiv y.toInt := Int.tdiv_nonneg a0 (by omega)
      have a2 : (-x.toInt).tdiv y.toInt ≤ -x.toInt := by
        rw [Int.tdiv_eq_ediv_of_nonneg a0]
        exact Int.ediv_le_self _ a0
      have a3 : x.toInt.tdiv y.toInt = -((-x.toInt).tdiv y.toInt) := by
        conv => lhs; rw [e]
        rw [Int.neg_tdiv]
      omega
  exact Int.bmod_eq_of_le (by omega) (by omega)
/-- the full interval -/
noncomputable def ivF : Iv := (-2147483648, 2147483647)
noncomputable def ivIn (p : Iv) : Bool := iLe (-2147483648) p.1 && iLe p.2 2147483647
theorem ivIn_iff {p : Iv} (h : ivIn p = true) : -2147483648 ≤ p.1 ∧ p.2 ≤ 2147483647 := by
  unfold ivIn at h
  rw [Bool.and_eq_true] at h
  exact ⟨iLe_iff.mp h.1, iLe_iff.mp h.2⟩
noncomputable def iAbs (a : Int) : Int := match a with
  | .ofNat n => .ofNat n
  | .negSucc n => .ofNat (n + 1)
theorem iAbs_eq (a : Int) : iAbs a = a ∨ (iAbs a = -a) := by
  cases a with
  | ofNat n => exact Or.inl rfl
  | negSucc n => exact Or.inr rfl
theorem iAbs_ge (a : Int) : a ≤ iAbs a ∧ -a ≤ iAbs a ∧ 0 ≤ iAbs a := by
  cases a with
  | ofNat n => have : iAbs (.ofNat n) = (n : Int) := rfl
               have : Int.ofNat n = (n : Int) := rfl
               omega
  | negSucc n => have : iAbs (.negSucc n) = ((n + 1 : Nat) : Int) := rfl
                 have : Int.negSucc n = -((n : Int) + 1) := Int.negSucc_eq n
                 omega
/-- the least power of 2 that is greater, less 1 -/
noncomputable def msk (a : Int) : Nat := 2 ^ (Nat.log2 a.toNat + 1) - 1
/-- two-placed operations by their intervals: y (the upper) and x -/
noncomputable def opI (i : Instr) (y x : Iv) : Option Iv := match i with
  | .imul => let p := x.1 * y.1; let q := x.1 * y.2; let r := x.2 * y.1; let s := x.2 * y.2
             let w := (iMin (iMin p q) (iMin r s), iMax (iMax p q) (iMax r s))
             some (cond (ivIn w) w ivF)
  | .idiv => cond (iLe 1 y.1) (some (cond (iLe 0 x.1) (0, x.2.tdiv y.1) ivF)) none
  | .irem => cond (iLe 1 y.1) (some (cond (iLe 0 x.1) (0, iMin x.2 (y.2 - 1)) (1 - y.2, y.2 - 1))) none
  | .iand => some (cond (iLe 0 y.1) (0, cond (iLe 0 x.1) (iMin x.2 y.2) y.2) (cond (iLe 0 x.1) (0, x.2) ivF))
  | .ior => some (cond (iLe 0 y.1 && iLe 0 x.1) (0, (msk (iMax x.2 y.2) : Int)) ivF)
  | .ixor => some (cond (iLe 0 y.1 && iLe 0 x.1) (0, (msk (iMax x.2 y.2) : Int)) ivF)
  | .ishl => some (cond (iLe 0 x.1 && (iLe 0 y.1 && (iLe y.2 30 && iLe (x.2 * 2 ^ y.2.toNat) 2147483647))) (x.1 * 2 ^ y.1.toNat, x.2 * 2 ^ y.2.toNat) ivF)
  | .ishr => some (cond (iLe 0 y.1 && (iLe y.2 31 && iLe 0 x.1)) (0, x.2 / 2 ^ y.1.toNat) ivF)
  | .iushr => some (cond (iLe 0 y.1 && (iLe y.2 31 && iLe 0 x.1)) (0, x.2 / 2 ^ y.1.toNat) (cond (iLe 1 y.1 && iLe y.2 31) (0, 2 ^ (32 - y.1.toNat) - 1) ivF))
  | _ => none
theorem nI_nn {x : Int32} (h : 0 ≤ x.toInt) : ∃ n : Nat, n < 2147483648 ∧ x = nI n ∧ x.toInt = (n : Int) := by
  have h0 : ¬ x < 0 := by
    rw [Int32.lt_iff_toInt_lt]
    have : (0 : Int32).toInt = 0 := rfl
    omega
  obtain ⟨n, hn, rfl⟩ := nI_of h0
  exact ⟨n, hn, rfl, nI_toInt hn⟩
theorem full_in (z : Int32) : ivF.1 ≤ z.toInt ∧ z.toInt ≤ ivF.2 := i32_lt z
theorem mul_in {x y lx hx ly hy : Int} (h1 : lx ≤ x) (h2 : x ≤ hx) (h3 : ly ≤ y) (h4 : y ≤ hy) : iMin (iMin (lx * ly) (lx * hy)) (iMin (hx * ly) (hx * hy)) ≤ x * y ∧ x * y ≤ iMax (iMax (lx * ly) (lx * hy)) (iMax (hx * ly) (hx * hy)) := by
  have m1 := @iMin_le (iMin (lx * ly) (lx * hy)) (iMin (hx * ly) (hx * hy))
  have m2 := @iMin_le (lx * ly) (lx * hy)
  have m3 := @iMin_le (hx * ly) (hx * hy)
  have n1 := @le_iMax (iMax (lx * ly) (lx * hy)) (iMax (hx * ly) (hx * hy))
  have n2 := @le_iMax (lx * ly) (lx * hy)
  have n3 := @le_iMax (hx * ly) (hx * hy)
  -- along y, then along x
  have a1 : ∀ z : Int, (z * ly ≤ z * y ∧ z * y ≤ z * hy) ∨ (z * hy ≤ z * y ∧ z * y ≤ z * ly) := by
    intro z
    rcases Int.le_total 0 z with h | h
    · exact Or.inl ⟨Int.mul_le_mul_of_nonneg_left h3 h, Int.mul_le_mul_of_nonneg_left h4 h⟩
    · exact Or.inr ⟨Int.mul_le_mul_of_nonpos_left h h4, Int.mul_le_mul_of_nonpos_left h h3⟩
  have a2 : (lx * y ≤ x * y ∧ x * y ≤ hx * y) ∨ (hx * y ≤ x * y ∧ x * y ≤ lx * y) := by
    rcases Int.le_total 0 y with h | h
    · exact Or.inl ⟨Int.mul_le_mul_of_nonneg_right h1 h, Int.mul_le_mul_of_nonneg_right h2 h⟩
    · exact Or.inr ⟨Int.mul_le_mul_of_nonpos_right h2 h, Int.mul_le_mul_of_nonpos_right h1 h⟩
  have b1 := a1 lx
  have b2 := a1 hx
  generalize x * y = q at *
  generalize lx * y = q1 at *
  generalize hx * y = q2 at *
  generalize lx * ly = q3 at *
  generalize lx * hy = q4 at *
  generalize hx * ly = q5 at *
  generalize hx * hy = q6 at *
  constructor <;> rcases a2 with ⟨_, _⟩ | ⟨_, _⟩ <;> rcases b1 with ⟨_, _⟩ | ⟨_, _⟩ <;> rcases b2 with ⟨_, _⟩ | ⟨_, _⟩ <;> omega
theorem msk_lt {n : Nat} {h : Int} (h1 : (n : Int) ≤ h) : n < 2 ^ (Nat.log2 h.toNat + 1) := by
  have : n ≤ h.toNat := by omega
  exact Nat.lt_of_le_of_lt this Nat.lt_log2_self
theorem nI_or {a b : Nat} : nI a ||| nI b = nI (a ||| b) := by
  apply Int32.toBitVec_inj.mp
  rw [Int32.toBitVec_or]
  show BitVec.ofNat 32 a ||| BitVec.ofNat 32 b = BitVec.ofNat 32 (a ||| b)
  apply BitVec.eq_of_toNat_eq
  rw [BitVec.toNat_or, BitVec.toNat_ofNat, BitVec.toNat_ofNat, BitVec.toNat_ofNat, Nat.or_mod_two_pow]
theorem nI_xor {a b : Nat} : nI a ^^^ nI b = nI (a ^^^ b) := by
  apply Int32.toBitVec_inj.mp
  rw [Int32.toBitVec_xor]
  show BitVec.ofNat 32 a ^^^ BitVec.ofNat 32 b = BitVec.ofNat 32 (a ^^^ b)
  apply BitVec.eq_of_toNat_eq
  rw [BitVec.toNat_xor, BitVec.toNat_ofNat, BitVec.toNat_ofNat, BitVec.toNat_ofNat, Nat.xor_mod_two_pow]
theorem and_le (x : Int32) {n : Nat} (hn : n < 2147483648) : ∃ m, m ≤ n ∧ x &&& nI n = nI m := by
  refine ⟨(x.toBitVec.toNat &&& n), Nat.and_le_right, ?_⟩
  apply Int32.toBitVec_inj.mp
  rw [Int32.toBitVec_and]
  show x.toBitVec &&& BitVec.ofNat 32 n = BitVec.ofNat 32 _
  apply BitVec.eq_of_toNat_eq
  rw [BitVec.toNat_and, BitVec.toNat_ofNat, BitVec.toNat_ofNat, Nat.and_mod_two_pow, Nat.mod_eq_of_lt x.toBitVec.isLt]
theorem and_comm32 (x y : Int32) : x &&& y = y &&& x := by
  apply Int32.toBitVec_inj.mp
  rw [Int32.toBitVec_and, Int32.toBitVec_and, BitVec.and_comm]
theorem sh_l : ∀ n, n < 32 → ((nI n &&& 31).toBitVec.smod 32).toNat = n := by decide +kernel
theorem sh_u : ∀ n, n < 32 → (((nI n).toUInt32 &&& Int32.toUInt32 31).toBitVec % 32).toNat = n := by decide +kernel
theorem toInt_nat {z : Int32} {n : Nat} (h : z.toBitVec.toNat = n) (hn : n < 2147483648) : z.toInt = (n : Int) := by
  have : z.toInt = z.toBitVec.toInt := rfl
  rw [this, BitVec.toInt_eq_toNat_cond, h, if_pos (by omega)]
theorem opI_V {i : Instr} {x y : Int32} {ix iy p : Iv} (hx : ix.1 ≤ x.toInt ∧ x.toInt ≤ ix.2) (hy : iy.1 ≤ y.toInt ∧ y.toInt ≤ iy.2) (h : opI i iy ix = some p) (r : List Value) : ∃ z : Int32, gAlu i (.int y :: .int x :: r) = some (.int z :: r) ∧ p.1 ≤ z.toInt ∧ z.toInt ≤ p.2 := by
  obtain ⟨lx, ux⟩ := ix
  obtain ⟨ly, uy⟩ := iy
  obtain ⟨hx1, hx2⟩ := hx
  obtain ⟨hy1, hy2⟩ := hy
  have hx1 : lx ≤ x.toInt := hx1
  have hx2 : x.toInt ≤ ux := hx2
  have hy1 : ly ≤ y.toInt := hy1
  have hy2 : y.toInt ≤ uy := hy2
  have rx := i32_lt x
  have ry := i32_lt y
  cases i
  case imul =>
    refine ⟨x * y, rfl, ?_⟩
    cases h
    have m := mul_in hx1 hx2 hy1 hy2
    dsimp only
    cases hi : ivIn (iMin (iMin (lx * ly) (lx * uy)) (iMin (ux * ly) (ux * uy)), iMax (iMax (lx * ly) (lx * uy)) (iMax (ux * ly) (ux * uy))) with
    | false => exact full_in _
    | true =>
      have hi := ivIn_iff hi
      have e : (x * y).toInt = x.toInt * y.toInt := i32_mul (Int.le_trans hi.1 m.1) (Int.le_trans m.2 hi.2)
      rw [e]
      exact m
  case idiv =>
    unfold opI at h
    cases h1 : iLe 1 ly with
    | false => rw [h1] at h; cases h
    | true =>
      rw [h1] at h
      have h1 := iLe_iff.mp h1
      have hy0 : ¬ y = 0 := by
        rintro rfl
        have : (0 : Int32).toInt = 0 := rfl
        omega
      refine ⟨x / y, ?_, ?_⟩
      · show (if y = 0 then none else some (Value.int (x / y) :: r)) = _
        rw [if_neg hy0]
      · cases h
        dsimp only
        cases h2 : iLe 0 lx with
        | false => exact full_in _
        | true =>
          have h2 := iLe_iff.mp h2
          show 0 ≤ (x / y).toInt ∧ (x / y).toInt ≤ ux.tdiv ly
          have hx0 : 0 ≤ x.toInt := by omega
          rw [i32_div (by omega), Int.tdiv_eq_ediv_of_nonneg hx0, Int.tdiv_eq_ediv_of_nonneg (by omega)]
          refine ⟨Int.ediv_nonneg hx0 (by omega), ?_⟩
          have a1 : x.toInt / y.toInt ≤ x.toInt / ly := by
            have b1 : x.toInt / y.toInt * ly ≤ x.toInt / y.toInt * y.toInt := Int.mul_le_mul_of_nonneg_left hy1 (Int.ediv_nonneg hx0 (by omega))
            have b2 : x.toInt / y.toInt * y.toInt ≤ x.toInt := Int.ediv_mul_le _ (by omega)
            exact (Int.le_ediv_iff_mul_le (by omega)).mpr (by omega)
          have a2 : x.toInt / ly ≤ ux / ly := Int.ediv_le_ediv (by omega) hx2
          omega
  case irem =>
    unfold opI at h
    cases h1 : iLe 1 ly with
    | false => rw [h1] at h; cases h
    | true =>
      rw [h1] at h
      have h1 := iLe_iff.mp h1
      have hy0 : ¬ y = 0 := by
        rintro rfl
        have : (0 : Int32).toInt = 0 := rfl
        omega
      refine ⟨x - x / y * y, ?_, ?_⟩
      · show (if y = 0 then none else some (Value.int (x - x / y * y) :: r)) = _
        rw [if_neg hy0]
      · have hd := i32_div (x := x) (y := y) (by omega)
        have hdm : x.toInt = x.toInt.tdiv y.toInt * y.toInt + x.toInt.tmod y.toInt := by
          have := Int.tdiv_mul_add_tmod x.toInt y.toInt
          omega
        have ht : (0 ≤ x.toInt → 0 ≤ x.toInt.tmod y.toInt ∧ x.toInt.tmod y.toInt ≤ x.toInt) ∧ (x.toInt ≤ 0 → x.toInt.tmod y.toInt ≤ 0 ∧ x.toInt ≤ x.toInt.tmod y.toInt) ∧ x.toInt.tmod y.toInt < y.toInt ∧ -y.toInt < x.toInt.tmod y.toInt := by
          have pos : ∀ a b : Int, 0 ≤ a → 0 < b → 0 ≤ a.tmod b ∧ a.tmod b ≤ a ∧ a.tmod b < b := by
            intro a b ha hb
            rw [Int.tmod_eq_emod_of_nonneg ha]
            refine ⟨Int.emod_nonneg _ (by omega), ?_, Int.emod_lt_of_pos _ hb⟩
            have := Int.emod_add_mul_ediv a b
            have : 0 ≤ b * (a / b) := Int.mul_nonneg (by omega) (Int.ediv_nonneg ha (by omega))
            omega
          rcases Int.le_total 0 x.toInt with h0 | h0
          · have := pos _ y.toInt h0 (by omega)
            refine ⟨fun _ => ⟨this.1, this.2.1⟩, fun hh => ?_, this.2.2, by omega⟩
            omega
          · have := pos (-x.toInt) y.toInt (by omega) (by omega)
            rw [Int.neg_tmod] at this
            refine ⟨fun hh => ?_, fun _ => ?_, ?_, ?_⟩ <;> omega
        have e1 : (x / y * y).toInt = (x / y).toInt * y.toInt := by
          rw [← hd] at hdm
          refine i32_mul ?_ ?_ <;> omega
        have e2 : (x - x / y * y).toInt = x.toInt.tmod y.toInt := by
          rw [← hd] at hdm
          rw [i32_sub (by omega) (by omega), e1]
          omega
        rw [e2]
        cases h
        dsimp only
        cases h2 : iLe 0 lx with
        | false =>
          show 1 - uy ≤ _ ∧ _ ≤ uy - 1
          omega
        | true =>
          have h2 := iLe_iff.mp h2
          show 0 ≤ _ ∧ _ ≤ iMin ux (uy - 1)
          have := iMin_or ux (uy - 1)
          omega
  case iand =>
    refine ⟨x &&& y, rfl, ?_⟩
    cases h
    dsimp only
    cases h1 : iLe 0 ly with
    | true =>
      have h1 := iLe_iff.mp h1
      obtain ⟨n, hn, rfl, en⟩ := nI_nn (show 0 ≤ y.toInt by omega)
      obtain ⟨m, hm, e⟩ := and_le x hn
      rw [e, nI_toInt (by omega)]
      cases h2 : iLe 0 lx with
      | false =>
        show 0 ≤ _ ∧ _ ≤ uy
        omega
      | true =>
        have h2 := iLe_iff.mp h2
        obtain ⟨n2, hn2, rfl, en2⟩ := nI_nn (show 0 ≤ x.toInt by omega)
        obtain ⟨m2, hm2, e2⟩ := and_le (nI n) hn2
        rw [and_comm32, e] at e2
        have e3 : m = m2 := (nI_eq (by omega) (by omega)).mp e2
        show 0 ≤ _ ∧ _ ≤ iMin ux uy
        have := iMin_or ux uy
        omega
    | false =>
      cases h2 : iLe 0 lx with
      | false => exact full_in _
      | true =>
        have h2 := iLe_iff.mp h2
        obtain ⟨n, hn, rfl, en⟩ := nI_nn (show 0 ≤ x.toInt by omega)
        obtain ⟨m, hm, e⟩ := and_le y hn
        rw [and_comm32, e, nI_toInt (by omega)]
        show 0 ≤ _ ∧ _ ≤ ux
        omega
  case ior =>
    refine ⟨x ||| y, rfl, ?_⟩
    cases h
    dsimp only
    cases h1 : iLe 0 ly && iLe 0 lx with
    | false => exact full_in _
    | true =>
      rw [Bool.and_eq_true] at h1
      have h2 := iLe_iff.mp h1.1
      have h3 := iLe_iff.mp h1.2
      obtain ⟨n, hn, rfl, en⟩ := nI_nn (show 0 ≤ y.toInt by omega)
      obtain ⟨m, hm, rfl, em⟩ := nI_nn (show 0 ≤ x.toInt by omega)
      have hq := @le_iMax ux uy
      have b1 : m ||| n < 2 ^ (Nat.log2 (iMax ux uy).toNat + 1) := Nat.or_lt_two_pow (msk_lt (by omega)) (msk_lt (by omega))
      have b2 : m ||| n < 2 ^ 31 := Nat.or_lt_two_pow (by omega) (by omega)
      rw [nI_or, nI_toInt b2]
      show 0 ≤ _ ∧ _ ≤ ((msk (iMax ux uy) : Nat) : Int)
      unfold msk
      omega
  case ixor =>
    refine ⟨x ^^^ y, rfl, ?_⟩
    cases h
    dsimp only
    cases h1 : iLe 0 ly && iLe 0 lx with
    | false => exact full_in _
    | true =>
      rw [Bool.and_eq_true] at h1
      have h2 := iLe_iff.mp h1.1
      have h3 := iLe_iff.mp h1.2
      obtain ⟨n, hn, rfl, en⟩ := nI_nn (show 0 ≤ y.toInt by omega)
      obtain ⟨m, hm, rfl, em⟩ := nI_nn (show 0 ≤ x.toInt by omega)
      have hq := @le_iMax ux uy
      have b1 : m ^^^ n < 2 ^ (Nat.log2 (iMax ux uy).toNat + 1) := Nat.xor_lt_two_pow (msk_lt (by omega)) (msk_lt (by omega))
      have b2 : m ^^^ n < 2 ^ 31 := Nat.xor_lt_two_pow (by omega) (by omega)
      rw [nI_xor, nI_toInt b2]
      show 0 ≤ _ ∧ _ ≤ ((msk (iMax ux uy) : Nat) : Int)
      unfold msk
      omega
  case ishl =>
    refine ⟨x <<< (y &&& 31), rfl, ?_⟩
    cases h
    dsimp only
    cases h1 : iLe 0 lx && (iLe 0 ly && (iLe uy 30 && iLe (ux * 2 ^ uy.toNat) 2147483647)) with
    | false => exact full_in _
    | true =>
      rw [Bool.and_eq_true, Bool.and_eq_true, Bool.and_eq_true] at h1
      have h2 := iLe_iff.mp h1.1
      have h3 := iLe_iff.mp h1.2.1
      have h4 := iLe_iff.mp h1.2.2.1
      have h5 := iLe_iff.mp h1.2.2.2
      obtain ⟨n, hn, rfl, en⟩ := nI_nn (show 0 ≤ y.toInt by omega)
      obtain ⟨m, hm, rfl, em⟩ := nI_nn (show 0 ≤ x.toInt by omega)
      have c1 : (ly.toNat) ≤ n := by omega
      have c2 : n ≤ uy.toNat := by omega
      have d1 : 2 ^ ly.toNat ≤ 2 ^ n := Nat.pow_le_pow_right (by decide) c1
      have d2 : 2 ^ n ≤ 2 ^ uy.toNat := Nat.pow_le_pow_right (by decide) c2
      have f1 : lx.toNat * 2 ^ ly.toNat ≤ m * 2 ^ n := Nat.mul_le_mul (by omega) d1
      have f2 : m * 2 ^ n ≤ ux.toNat * 2 ^ uy.toNat := Nat.mul_le_mul (by omega) d2
      have g1 : ((lx.toNat * 2 ^ ly.toNat : Nat) : Int) = lx * 2 ^ ly.toNat := by
        rw [Int.natCast_mul, Int.natCast_pow, Int.toNat_of_nonneg h2]
        rfl
      have g2 : ((ux.toNat * 2 ^ uy.toNat : Nat) : Int) = ux * 2 ^ uy.toNat := by
        rw [Int.natCast_mul, Int.natCast_pow, Int.toNat_of_nonneg (by omega)]
        rfl
      have h6 : m * 2 ^ n < 2 ^ 31 := by omega
      rw [pk_shlN _ n (sh_l n (by omega)) (by omega), nI_toInt h6]
      show lx * 2 ^ ly.toNat ≤ _ ∧ _ ≤ ux * 2 ^ uy.toNat
      omega
  case ishr =>
    refine ⟨x >>> (y &&& 31), rfl, ?_⟩
    cases h
    dsimp only
    cases h1 : iLe 0 ly && (iLe uy 31 && iLe 0 lx) with
    | false => exact full_in _
    | true =>
      rw [Bool.and_eq_true, Bool.and_eq_true] at h1
      have h2 := iLe_iff.mp h1.1
      have h3 := iLe_iff.mp h1.2.1
      have h4 := iLe_iff.mp h1.2.2
      obtain ⟨n, hn, rfl, en⟩ := nI_nn (show 0 ≤ y.toInt by omega)
      obtain ⟨m, hm, rfl, em⟩ := nI_nn (show 0 ≤ x.toInt by omega)
      have d1 : 2 ^ ly.toNat ≤ 2 ^ n := Nat.pow_le_pow_right (by decide) (by omega)
      have e1 : m / 2 ^ n ≤ m / 2 ^ ly.toNat := Nat.div_le_div_left d1 (Nat.two_pow_pos _)
      have e2 : m / 2 ^ ly.toNat ≤ ux.toNat / 2 ^ ly.toNat := Nat.div_le_div_right (by omega)
      have e3 : ((ux.toNat / 2 ^ ly.toNat : Nat) : Int) = ux / 2 ^ ly.toNat := by
        rw [Int.natCast_ediv, Int.natCast_pow, Int.toNat_of_nonneg (by omega)]
        rfl
      have e4 : m / 2 ^ n ≤ m := Nat.div_le_self _ _
      rw [pk_shrN hm _ n (sh_l n (by omega)), nI_toInt (by omega)]
      show 0 ≤ _ ∧ _ ≤ ux / 2 ^ ly.toNat
      rw [← e3]
      exact ⟨Int.natCast_nonneg _, Int.ofNat_le.mpr (Nat.le_trans e1 e2)⟩
  case iushr =>
    refine ⟨(x.toUInt32 >>> (y.toUInt32 &&& Int32.toUInt32 31)).toInt32, rfl, ?_⟩
    cases h
    dsimp only
    cases h1 : iLe 0 ly && (iLe uy 31 && iLe 0 lx) with
    | true =>
      rw [Bool.and_eq_true, Bool.and_eq_true] at h1
      have h2 := iLe_iff.mp h1.1
      have h3 := iLe_iff.mp h1.2.1
      have h4 := iLe_iff.mp h1.2.2
      obtain ⟨n, hn, rfl, en⟩ := nI_nn (show 0 ≤ y.toInt by omega)
      obtain ⟨m, hm, rfl, em⟩ := nI_nn (show 0 ≤ x.toInt by omega)
      have d1 : 2 ^ ly.toNat ≤ 2 ^ n := Nat.pow_le_pow_right (by decide) (by omega)
      have e1 : m / 2 ^ n ≤ m / 2 ^ ly.toNat := Nat.div_le_div_left d1 (Nat.two_pow_pos _)
      have e2 : m / 2 ^ ly.toNat ≤ ux.toNat / 2 ^ ly.toNat := Nat.div_le_div_right (by omega)
      have e3 : ((ux.toNat / 2 ^ ly.toNat : Nat) : Int) = ux / 2 ^ ly.toNat := by
        rw [Int.natCast_ediv, Int.natCast_pow, Int.toNat_of_nonneg (by omega)]
        rfl
      have e4 : m / 2 ^ n ≤ m := Nat.div_le_self _ _
      rw [pk_ushrN (by omega) _ n (sh_u n (by omega)), nI_toInt (by omega)]
      show 0 ≤ _ ∧ _ ≤ ux / 2 ^ ly.toNat
      rw [← e3]
      exact ⟨Int.natCast_nonneg _, Int.ofNat_le.mpr (Nat.le_trans e1 e2)⟩
    | false =>
      cases h5 : iLe 1 ly && iLe uy 31 with
      | false => exact full_in _
      | true =>
        rw [Bool.and_eq_true] at h5
        have h2 := iLe_iff.mp h5.1
        have h3 := iLe_iff.mp h5.2
        obtain ⟨n, hn, rfl, en⟩ := nI_nn (show 0 ≤ y.toInt by omega)
        have e0 : x = nI x.toBitVec.toNat := Int32.toBitVec_inj.mp (by show _ = BitVec.ofNat 32 _; simp)
        have hb := x.toBitVec.isLt
        have d1 : 2 ^ (32 - n) ≤ 2 ^ (32 - ly.toNat) := Nat.pow_le_pow_right (by decide) (by omega)
        have d2 : 2 ^ (32 - n) ≤ 2 ^ 31 := Nat.pow_le_pow_right (by decide) (by omega)
        have d3 : 2 ^ n * 2 ^ (32 - n) = 2 ^ 32 := by rw [← Nat.pow_add]; congr 1; omega
        have e1 : x.toBitVec.toNat / 2 ^ n < 2 ^ (32 - n) := Nat.div_lt_of_lt_mul (by omega)
        have g1 : ((2 ^ (32 - ly.toNat) : Nat) : Int) = 2 ^ (32 - ly.toNat) := by
          rw [Int.natCast_pow]
          rfl
        rw [e0, pk_ushrN (by omega) _ n (sh_u n (by omega)), nI_toInt (by omega)]
        show 0 ≤ _ ∧ _ ≤ 2 ^ (32 - ly.toNat) - 1
        rw [← g1]
        refine ⟨Int.natCast_nonneg _, ?_⟩
        have e2 : x.toBitVec.toNat / 2 ^ n < 2 ^ (32 - ly.toNat) := Nat.lt_of_lt_of_le e1 d1
        generalize x.toBitVec.toNat / 2 ^ n = q at e2 ⊢
        generalize 2 ^ (32 - ly.toNat) = w at e2 ⊢
        omega
  all_goals cases h
