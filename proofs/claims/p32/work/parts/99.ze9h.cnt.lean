/-! TELLINGS counted by their digits -/
/-- what is left of x behind its first j digits -/
noncomputable def shX (x : Nat) : Nat → Nat
  | 0 => x
  | j + 1 => shX x j / 10
noncomputable def dgX (x j : Nat) : Nat := shX x j % 10
noncomputable def lvX (W : Nat → List Nat) : Nat → Nat → ROWq → Nat → ROWq
  | 0, _, L, _ => L
  | r + 1, i, L, x => lvX W r (i + 1) (sbR L (ocN (W i)) ((x % 10 : Nat) : Int)) (x / 10)
noncomputable def goX (W : Nat → List Nat) (r i : Nat) (L : ROWq) (x : Nat) : Bool := zroB (lvX W r i L x) 256
section CNT
variable {W : Nat → List Nat} {L : ROWq} {f : Nat → Nat} {g : Nat → Nat → Nat} {i j n r x c : Nat} {t : Nat → Nat}
theorem shX_s : ∀ j, shX (x / 10) j = shX x (j + 1) := by
  intro j
  induction j with
  | zero => rfl
  | succ j ih =>
    show shX (x / 10) j / 10 = shX x (j + 1) / 10
    rw [ih]
theorem dgX_s : dgX x (j + 1) = dgX (x / 10) j := by
  unfold dgX
  rw [shX_s]
theorem dgX_9 : dgX x j ≤ 9 := by
  unfold dgX
  omega
theorem suN_app : ∀ n, suN f (i + n) = suN f i + suN (fun d => f (i + d)) n := by
  intro n
  induction n with
  | zero => rfl
  | succ n ih =>
    show suN f (i + n) + f (i + n) = suN f i + (suN (fun d => f (i + d)) n + f (i + n))
    rw [ih]
    omega
theorem suN_fr : ∀ n, suN f (n + 1) = f 0 + suN (fun d => f (d + 1)) n := by
  intro n
  induction n with
  | zero => show 0 + f 0 = f 0 + 0; omega
  | succ n ih =>
    show suN f (n + 1) + f (n + 1) = f 0 + (suN (fun d => f (d + 1)) n + f (n + 1))
    rw [ih]
    omega
theorem suN_blk : ∀ n, suN (fun x => g (x % 10) (x / 10)) (10 * n) = suN (fun d => suN (fun y => g d y) n) 10 := by
  intro n
  induction n with
  | zero => exact (suN_0 10 (fun _ _ => rfl)).symm
  | succ n ih =>
    rw [show 10 * (n + 1) = 10 * n + 10 by omega, suN_app, ih]
    have e : suN (fun d => suN (fun y => g d y) (n + 1)) 10 = suN (fun d => suN (fun y => g d y) n + g d n) 10 := rfl
    rw [e, suN_add]
    congr 1
    exact suN_congr 10 (fun d hd => by
      show g ((10 * n + d) % 10) ((10 * n + d) / 10) = g d n
      rw [show (10 * n + d) % 10 = d by omega, show (10 * n + d) / 10 = n by omega])
/-- the tellings by their digits -/
theorem nd_cnt : ∀ (r i : Nat) (L : ROWq), ndN W r i L = suN (fun x => if goX W r i L x = true then 1 else 0) (10 ^ r) := by
  intro r
  induction r with
  | zero =>
    intro i L
    show (if zroB L 256 = true then 1 else 0) = 0 + (if zroB L 256 = true then 1 else 0)
    omega
  | succ r ih =>
    intro i L
    rw [show 10 ^ (r + 1) = 10 * 10 ^ r by rw [Nat.pow_succ, Nat.mul_comm]]
    have e := suN_blk (g := fun d y => if goX W r (i + 1) (sbR L (ocN (W i)) (d : Int)) y = true then 1 else 0) (10 ^ r)
    refine Eq.trans ?_ e.symm
    show suN (fun d => ndN W r (i + 1) (sbR L (ocN (W i)) (d : Int))) 10 = _
    exact suN_congr 10 (fun d _ => ih (i + 1) _)
/-- a telling is its digits -/
theorem gd_dg : ∀ (r i : Nat) (L : ROWq) (x : Nat) (t : Nat → Nat), (∀ j, j < r → t (i + j) = dgX x j) → (gdTl W r i L t ↔ goX W r i L x = true) := by
  intro r
  induction r with
  | zero => intro i L x t _; exact (zroB_iff 256).symm
  | succ r ih =>
    intro i L x t h
    have h0 : t i = x % 10 := h 0 (by omega)
    have q := ih (i + 1) (sbR L (ocN (W i)) ((x % 10 : Nat) : Int)) (x / 10) t (fun j hj => by
      have := h (j + 1) (by omega)
      rw [dgX_s] at this
      rw [← this, show i + 1 + j = i + (j + 1) by omega])
    show (t i ≤ 9 ∧ gdTl W r (i + 1) (sbR L (ocN (W i)) (t i : Int)) t) ↔ goX W r (i + 1) (sbR L (ocN (W i)) ((x % 10 : Nat) : Int)) (x / 10) = true
    rw [h0]
    exact ⟨fun h => q.mp h.2, fun h => ⟨by omega, q.mpr h⟩⟩
/-- every choice of digits is a number's -/
theorem dg_ex : ∀ (r : Nat) (t : Nat → Nat), (∀ j, j < r → t j ≤ 9) → ∃ x, x < 10 ^ r ∧ ∀ j, j < r → t j = dgX x j := by
  intro r
  induction r with
  | zero => intro t _; exact ⟨0, by decide, fun j hj => absurd hj (Nat.not_lt_zero j)⟩
  | succ r ih =>
    intro t h
    obtain ⟨y, y1, y2⟩ := ih (fun j => t (j + 1)) (fun j hj => h (j + 1) (by omega))
    have h0 := h 0 (by omega)
    refine ⟨t 0 + 10 * y, ?_, fun j hj => ?_⟩
    · rw [Nat.pow_succ]
      omega
    · cases j with
      | zero =>
        show t 0 = (t 0 + 10 * y) % 10
        omega
      | succ j =>
        rw [dgX_s, show (t 0 + 10 * y) / 10 = y by omega]
        exact y2 j (by omega)
theorem lvX_eq : ∀ (r i : Nat) (L : ROWq) (x : Nat), lvX W r i L x c = L c - (suN (fun j => dgX x j * ocN (W (i + j)) c) r : Int) := by
  intro r
  induction r with
  | zero =>
    intro i L x
    show L c = L c - ((0 : Nat) : Int)
    omega
  | succ r ih =>
    intro i L x
    show lvX W r (i + 1) (sbR L (ocN (W i)) ((x % 10 : Nat) : Int)) (x / 10) c = _
    rw [ih, suN_fr]
    have e : suN (fun d => dgX x (d + 1) * ocN (W (i + (d + 1))) c) r = suN (fun j => dgX (x / 10) j * ocN (W (i + 1 + j)) c) r := suN_congr r (fun j _ => by
      rw [dgX_s, show i + (j + 1) = i + 1 + j by omega])
    rw [e]
    show L c - ((x % 10 : Nat) : Int) * (ocN (W i) c : Int) - _ = L c - (((x % 10) * ocN (W i) c + _ : Nat) : Int)
    rw [Int.natCast_add, Int.natCast_mul]
    omega
end CNT
