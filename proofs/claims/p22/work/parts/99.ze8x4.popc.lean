/-! HOW MANY BITS: the library's bitCount in plain numbers -/
def p1 : Nat → Nat → Nat
  | 0, _ => 0
  | k + 1, n => n % 2 + n / 2 % 2 + 4 * p1 k (n / 4)
def p2 : Nat → Nat → Nat
  | 0, _ => 0
  | k + 1, n => n % 4 + n / 4 % 4 + 16 * p2 k (n / 16)
def p4 : Nat → Nat → Nat
  | 0, _ => 0
  | k + 1, n => n % 16 + n / 16 % 16 + 256 * p4 k (n / 256)
def sb1 : Nat → Nat → Nat
  | 0, _ => 0
  | k + 1, n => n % 2 + sb1 k (n / 2)
def sb2 : Nat → Nat → Nat
  | 0, _ => 0
  | k + 1, n => n % 4 + sb2 k (n / 4)
def sb4 : Nat → Nat → Nat
  | 0, _ => 0
  | k + 1, n => n % 16 + sb4 k (n / 16)
def sb8 : Nat → Nat → Nat
  | 0, _ => 0
  | k + 1, n => n % 256 + sb8 k (n / 256)
def o1 : Nat → Nat → Nat
  | 0, _ => 0
  | k + 1, n => n / 2 % 2 + 4 * o1 k (n / 4)
def e2 : Nat → Nat → Nat
  | 0, _ => 0
  | k + 1, n => n % 4 + 16 * e2 k (n / 16)
def e4 : Nat → Nat → Nat
  | 0, _ => 0
  | k + 1, n => n % 16 + 256 * e4 k (n / 256)
def mk1 : Nat → Nat
  | 0 => 0
  | k + 1 => 1 + 4 * mk1 k
def mk2 : Nat → Nat
  | 0 => 0
  | k + 1 => 3 + 16 * mk2 k
def mk4 : Nat → Nat
  | 0 => 0
  | k + 1 => 15 + 256 * mk4 k
def nb6 : Nat → Nat → Prop
  | 0, n => n = 0
  | k + 1, n => n % 16 ≤ 6 ∧ n / 16 % 16 ≤ 6 ∧ nb6 k (n / 256)
section POPC
variable {n k s : Nat}
theorem sb2_p1 : ∀ k n, sb2 k (p1 k n) = sb1 (2 * k) n := by
  intro k
  induction k with
  | zero => intro n; rfl
  | succ k ih =>
    intro n
    have e : sb1 (2 * (k + 1)) n = n % 2 + (n / 2 % 2 + sb1 (2 * k) (n / 2 / 2)) := rfl
    have d : n / 2 / 2 = n / 4 := by omega
    rw [e, d]
    unfold p1 sb2
    have h1 : (n % 2 + n / 2 % 2 + 4 * p1 k (n / 4)) % 4 = n % 2 + n / 2 % 2 := by omega
    have h2 : (n % 2 + n / 2 % 2 + 4 * p1 k (n / 4)) / 4 = p1 k (n / 4) := by omega
    rw [h1, h2, ih]
    omega
theorem sb4_p2 : ∀ k n, sb4 k (p2 k n) = sb2 (2 * k) n := by
  intro k
  induction k with
  | zero => intro n; rfl
  | succ k ih =>
    intro n
    have e : sb2 (2 * (k + 1)) n = n % 4 + (n / 4 % 4 + sb2 (2 * k) (n / 4 / 4)) := rfl
    have d : n / 4 / 4 = n / 16 := by omega
    rw [e, d]
    unfold p2 sb4
    have h1 : (n % 4 + n / 4 % 4 + 16 * p2 k (n / 16)) % 16 = n % 4 + n / 4 % 4 := by omega
    have h2 : (n % 4 + n / 4 % 4 + 16 * p2 k (n / 16)) / 16 = p2 k (n / 16) := by omega
    rw [h1, h2, ih]
    omega
theorem sb8_p4 : ∀ k n, sb8 k (p4 k n) = sb4 (2 * k) n := by
  intro k
  induction k with
  | zero => intro n; rfl
  | succ k ih =>
    intro n
    have e : sb4 (2 * (k + 1)) n = n % 16 + (n / 16 % 16 + sb4 (2 * k) (n / 16 / 16)) := rfl
    have d : n / 16 / 16 = n / 256 := by omega
    rw [e, d]
    unfold p4 sb8
    have h1 : (n % 16 + n / 16 % 16 + 256 * p4 k (n / 256)) % 256 = n % 16 + n / 16 % 16 := by omega
    have h2 : (n % 16 + n / 16 % 16 + 256 * p4 k (n / 256)) / 256 = p4 k (n / 256) := by omega
    rw [h1, h2, ih]
    omega
theorem o1_le : ∀ k n, o1 k n ≤ n := by
  intro k
  induction k with
  | zero => intro n; exact Nat.zero_le _
  | succ k ih =>
    intro n
    have q := ih (n / 4)
    unfold o1
    omega
theorem o1_p1 : ∀ k n, n < 4 ^ k → n - o1 k n = p1 k n := by
  intro k
  induction k with
  | zero =>
    intro n h
    have h : n < 1 := h
    have e : n = 0 := by omega
    rw [e]
    rfl
  | succ k ih =>
    intro n h
    rw [Nat.pow_succ] at h
    have q := ih (n / 4) (by omega)
    have r := o1_le k (n / 4)
    unfold o1 p1
    omega
theorem and_sp {a b c d : Nat} (ha : a < 2 ^ s) (hc : c < 2 ^ s) : (a + 2 ^ s * b) &&& (c + 2 ^ s * d) = (a &&& c) + 2 ^ s * (b &&& d) := by
  have hac : a &&& c < 2 ^ s := Nat.lt_of_le_of_lt Nat.and_le_left ha
  apply Nat.eq_of_testBit_eq
  intro i
  rw [Nat.testBit_and, Nat.add_comm a, Nat.add_comm c, Nat.add_comm (a &&& c), Nat.testBit_two_pow_mul_add _ ha, Nat.testBit_two_pow_mul_add _ hc, Nat.testBit_two_pow_mul_add _ hac]
  by_cases h : i < s
  · rw [if_pos h, if_pos h, if_pos h, Nat.testBit_and]
  · rw [if_neg h, if_neg h, if_neg h, Nat.testBit_and]
theorem and_m1 : ∀ k n, (n / 2) &&& mk1 k = o1 k n := by
  intro k
  induction k with
  | zero => intro n; exact Nat.and_zero _
  | succ k ih =>
    intro n
    have q := ih (n / 4)
    have e : n / 2 = n / 2 % 4 + 2 ^ 2 * (n / 4 / 2) := by omega
    unfold mk1 o1
    rw [e, show 4 * mk1 k = 2 ^ 2 * mk1 k from rfl, and_sp (by omega) (by decide), q]
    have f : ∀ a, a < 4 → a &&& 1 = a % 2 := by decide
    rw [f _ (by omega)]
    omega
theorem and_m2 : ∀ k n, n &&& mk2 k = e2 k n := by
  intro k
  induction k with
  | zero => intro n; exact Nat.and_zero _
  | succ k ih =>
    intro n
    have q := ih (n / 16)
    have e : n = n % 16 + 2 ^ 4 * (n / 16) := by omega
    have f : ∀ a, a < 16 → a &&& 3 = a % 4 := by decide
    unfold mk2 e2
    have r : n &&& (3 + 16 * mk2 k) = (n % 16 + 2 ^ 4 * (n / 16)) &&& (3 + 2 ^ 4 * mk2 k) := by rw [← e]
    rw [r, and_sp (by omega) (by decide), q, f _ (by omega)]
    omega
theorem and_m4 : ∀ k n, n &&& mk4 k = e4 k n := by
  intro k
  induction k with
  | zero => intro n; exact Nat.and_zero _
  | succ k ih =>
    intro n
    have q := ih (n / 256)
    have e : n = n % 256 + 2 ^ 8 * (n / 256) := by omega
    have f : ∀ a, a < 256 → a &&& 15 = a % 16 := by decide +kernel
    unfold mk4 e4
    have r : n &&& (15 + 256 * mk4 k) = (n % 256 + 2 ^ 8 * (n / 256)) &&& (15 + 2 ^ 8 * mk4 k) := by rw [← e]
    rw [r, and_sp (by omega) (by decide), q, f _ (by omega)]
    omega
theorem e2_p2 : ∀ k n, e2 k n + e2 k (n / 4) = p2 k n := by
  intro k
  induction k with
  | zero => intro n; rfl
  | succ k ih =>
    intro n
    have q := ih (n / 16)
    have d : n / 4 / 16 = n / 16 / 4 := by omega
    unfold e2 p2
    rw [d]
    omega
theorem nb6_p2 : ∀ k n, nb6 k (p2 (2 * k) n) := by
  intro k
  induction k with
  | zero => intro n; rfl
  | succ k ih =>
    intro n
    have e : p2 (2 * (k + 1)) n = n % 4 + n / 4 % 4 + 16 * (n / 16 % 4 + n / 16 / 4 % 4 + 16 * p2 (2 * k) (n / 16 / 16)) := rfl
    have ha : n % 4 + n / 4 % 4 ≤ 6 := by omega
    have hb : n / 16 % 4 + n / 16 / 4 % 4 ≤ 6 := by omega
    have q := ih (n / 16 / 16)
    unfold nb6
    rw [e]
    revert ha hb q
    generalize n % 4 + n / 4 % 4 = a
    generalize n / 16 % 4 + n / 16 / 4 % 4 = b
    generalize p2 (2 * k) (n / 16 / 16) = x
    intro ha hb q
    have h : (a + 16 * (b + 16 * x)) / 256 = x := by omega
    rw [h]
    exact ⟨by omega, by omega, q⟩
theorem nb6_lo : ∀ k n, nb6 k n → n % 16 ≤ 6 := by
  intro k n h
  cases k with
  | zero =>
    have h : n = 0 := h
    rw [h]
    decide
  | succ k => exact h.1
theorem e4_p4 : ∀ k n, nb6 k n → e4 k (n + n / 16) = p4 k n := by
  intro k
  induction k with
  | zero => intro n _; rfl
  | succ k ih =>
    intro n h
    obtain ⟨h1, h2, h3⟩ := h
    have h4 := nb6_lo k _ h3
    have q := ih (n / 256) h3
    have d : (n + n / 16) / 256 = n / 256 + n / 256 / 16 ∧ (n + n / 16) % 16 = n % 16 + n / 16 % 16 := by
      have e1 : n = n % 16 + 16 * (n / 16 % 16) + 256 * (n / 256) := by omega
      have e2 : n / 16 = n / 16 % 16 + 16 * (n / 256) := by omega
      have e3 : n / 256 = n / 256 % 16 + 16 * (n / 256 / 16) := by omega
      revert h1 h2 h4 e1 e2 e3
      generalize n / 256 / 16 = q
      generalize n / 256 % 16 = r
      generalize n / 256 = m
      generalize n / 16 % 16 = c1
      generalize n / 16 = u
      generalize n % 16 = c0
      intro h1 h2 h4 e1 e2 e3
      subst e1 e2
      constructor <;> omega
    unfold e4 p4
    rw [d.1, d.2, q]
/-- its last three steps -/
def t8 (n : Nat) : Nat := n + n / 256
theorem t8_div {c0 c1 m : Nat} (h0 : c0 ≤ 30) (h1 : c1 ≤ 30) (h2 : m % 256 ≤ 30) : ∃ C, t8 (c0 + 256 * c1 + 65536 * m) = C + 65536 * t8 m ∧ C % 256 = c0 + c1 ∧ C ≤ 15420 := by
  refine ⟨c0 + c1 + 256 * (c1 + m % 256), ?_, by omega, by omega⟩
  unfold t8
  have e : (c0 + 256 * c1 + 65536 * m) / 256 = c1 + 256 * m := by omega
  rw [e]
  omega
theorem t8_all {d0 d1 d2 d3 d4 d5 d6 d7 : Nat} (h0 : d0 ≤ 30) (h1 : d1 ≤ 30) (h2 : d2 ≤ 30) (h3 : d3 ≤ 30) (h4 : d4 ≤ 30) (h5 : d5 ≤ 30) (h6 : d6 ≤ 30) (h7 : d7 ≤ 30) : ∀ n, n = d0 + 256 * d1 + 65536 * (d2 + 256 * d3 + 65536 * (d4 + 256 * d5 + 65536 * (d6 + 256 * d7 + 65536 * 0))) → (n + n / 256 + (n + n / 256) / 65536 + (n + n / 256 + (n + n / 256) / 65536) / 4294967296) % 256 = d0 + (d1 + (d2 + (d3 + (d4 + (d5 + (d6 + d7)))))) := by
  intro n hn
  obtain ⟨C0, a0, b0, c0⟩ := t8_div (m := d2 + 256 * d3 + 65536 * (d4 + 256 * d5 + 65536 * (d6 + 256 * d7 + 65536 * 0))) h0 h1 (by omega)
  obtain ⟨C1, a1, b1, c1⟩ := t8_div (m := d4 + 256 * d5 + 65536 * (d6 + 256 * d7 + 65536 * 0)) h2 h3 (by omega)
  obtain ⟨C2, a2, b2, c2⟩ := t8_div (m := d6 + 256 * d7 + 65536 * 0) h4 h5 (by omega)
  obtain ⟨C3, a3, b3, c3⟩ := t8_div (m := 0) h6 h7 (by decide)
  rw [← hn] at a0
  have e0 : n + n / 256 = t8 n := rfl
  have z : t8 0 = 0 := rfl
  rw [e0]
  rw [z] at a3
  revert a0 a1 a2 a3
  generalize t8 n = A
  generalize t8 (d2 + 256 * d3 + 65536 * (d4 + 256 * d5 + 65536 * (d6 + 256 * d7 + 65536 * 0))) = B
  generalize t8 (d4 + 256 * d5 + 65536 * (d6 + 256 * d7 + 65536 * 0)) = C
  generalize t8 (d6 + 256 * d7 + 65536 * 0) = D
  intro a0 a1 a2 a3
  clear hn e0
  have f1 : A / 65536 = B := by omega
  rw [f1]
  have f2 : (A + B) / 4294967296 = C + D := by
    have g : A + B = C0 + C1 + 65536 * (C1 + C2) + 4294967296 * (C + D) := by omega
    rw [g]
    omega
  rw [f2]
  have f3 : A + B + (C + D) = C0 + C1 + C2 + C3 + 65536 * (B + C + D) := by omega
  rw [f3]
  omega
theorem sb8_end {n : Nat} (h : n < 18446744073709551616) (hd : ∀ i, i < 8 → n / 256 ^ i % 256 ≤ 30) : (n + n / 256 + (n + n / 256) / 65536 + (n + n / 256 + (n + n / 256) / 65536) / 4294967296) % 256 = sb8 8 n := by
  have sp : ∀ m, m = m % 256 + 256 * (m / 256 % 256) + 65536 * (m / 256 / 256) := fun m => by omega
  have dd : ∀ i, n / 256 ^ (i + 1) = n / 256 ^ i / 256 := fun i => by rw [Nat.pow_succ, Nat.div_div_eq_div_mul]
  have g0 := hd 0 (by decide)
  have g1 := hd 1 (by decide)
  have g2 := hd 2 (by decide)
  have g3 := hd 3 (by decide)
  have g4 := hd 4 (by decide)
  have g5 := hd 5 (by decide)
  have g6 := hd 6 (by decide)
  have g7 := hd 7 (by decide)
  have p0 : n / 256 ^ 0 = n := by rw [Nat.pow_zero, Nat.div_one]
  have p1 : n / 256 ^ 1 = n / 256 := by rw [dd 0, p0]
  have p2 : n / 256 ^ 2 = n / 256 / 256 := by rw [dd 1, p1]
  have p3 : n / 256 ^ 3 = n / 256 / 256 / 256 := by rw [dd 2, p2]
  have p4 : n / 256 ^ 4 = n / 256 / 256 / 256 / 256 := by rw [dd 3, p3]
  have p5 : n / 256 ^ 5 = n / 256 / 256 / 256 / 256 / 256 := by rw [dd 4, p4]
  have p6 : n / 256 ^ 6 = n / 256 / 256 / 256 / 256 / 256 / 256 := by rw [dd 5, p5]
  have p7 : n / 256 ^ 7 = n / 256 / 256 / 256 / 256 / 256 / 256 / 256 := by rw [dd 6, p6]
  have p8 : n / 256 / 256 / 256 / 256 / 256 / 256 / 256 / 256 = 0 := by
    have q : n / 256 ^ 8 = 0 := Nat.div_eq_of_lt h
    rw [dd 7, p7] at q
    exact q
  rw [p0] at g0
  rw [p1] at g1
  rw [p2] at g2
  rw [p3] at g3
  rw [p4] at g4
  rw [p5] at g5
  rw [p6] at g6
  rw [p7] at g7
  have e : sb8 8 n = n % 256 + (n / 256 % 256 + (n / 256 / 256 % 256 + (n / 256 / 256 / 256 % 256 + (n / 256 / 256 / 256 / 256 % 256 + (n / 256 / 256 / 256 / 256 / 256 % 256 + (n / 256 / 256 / 256 / 256 / 256 / 256 % 256 + (n / 256 / 256 / 256 / 256 / 256 / 256 / 256 % 256 + 0))))))) := rfl
  rw [e, Nat.add_zero]
  refine t8_all g0 g1 g2 g3 g4 g5 g6 g7 n ?_
  have s0 := sp n
  have s1 := sp (n / 256 / 256)
  have s2 := sp (n / 256 / 256 / 256 / 256)
  have s3 := sp (n / 256 / 256 / 256 / 256 / 256 / 256)
  rw [p8] at s3
  rw [← s3, ← s2, ← s1]
  exact s0
end POPC
