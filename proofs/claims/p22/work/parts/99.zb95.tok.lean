/-! THE TEXT, in itself: bytes, tokens -/
noncomputable def smI (c : Int32) : Int32 := if c < 97 then 0 else (if 122 < c then 0 else 1)
noncomputable def dgI (c : Int32) : Int32 := if c < 48 then 0 else (if 57 < c then 0 else 1)
/-- how many letters and digits stand from a place on -/
noncomputable def rlS (B : Nat → Int32) : Nat → Nat → Nat
  | 0, _ => 0
  | f + 1, p => if smI (B p) = 0 ∧ dgI (B p) = 0 then 0 else rlS B f (p + 1) + 1
abbrev Acc : Type := Int32 × Int32 × Int32
/-- letters, digits, value: one byte more -/
noncomputable def cs1 (c : Int32) (a : Acc) : Acc := if smI c = 0 then (a.1, a.2.1 + 1, if 3 < a.2.1 + 1 then a.2.2 else ((10 * a.2.2) + c) - 48) else (a.1 + 1, a.2.1, a.2.2)
noncomputable def cfS (B : Nat → Int32) : Nat → Nat → Acc → Acc
  | 0, _, a => a
  | k + 1, p, a => cfS B k (p + 1) (cs1 (B p) a)
noncomputable def sgS (c : Int32) : Int32 := if c = 59 ∨ c = 40 ∨ c = 41 ∨ c = 60 ∨ c = 61 ∨ c = 62 then c else 1
noncomputable def tyA (a : Acc) : Int32 := if a.2.1 = 0 ∧ ¬ 6 < a.1 then 2 else if a.1 = 0 ∧ ¬ 3 < a.2.1 then 3 else 1
/-- a token: its type (0 the end, 1 none, 2 a word, 3 a number, else a sign's byte), where it begins, where it stops, its value -/
abbrev Tok : Type := Int32 × Nat × Nat × Int32
noncomputable def tokS (B : Nat → Int32) (n p : Nat) : Tok := if rlS B (n - p) p = 0 then (sgS (B p), p, p + 1, 0) else (tyA (cfS B (rlS B (n - p) p) p (0, 0, 0)), p, p + rlS B (n - p) p, (cfS B (rlS B (n - p) p) p (0, 0, 0)).2.2)
noncomputable def mn4 (n : Nat) : Nat := if 400 < n then 400 else n
noncomputable def tsS (B : Nat → Int32) (n : Nat) : Nat → Nat → List Tok
  | 0, _ => []
  | f + 1, p => if mn4 n ≤ p then [(0, mn4 n, mn4 n, 0)] else if B p = 32 ∨ B p = 10 then tsS B n f (p + 1) else if (tokS B n p).1 = 1 then [tokS B n p] else tokS B n p :: tsS B n f (tokS B n p).2.2.1
theorem tokS_at {B : Nat → Int32} {n p : Nat} : (tokS B n p).2.1 = p := by
  unfold tokS
  split <;> rfl
theorem tokS_lt {B : Nat → Int32} {n p : Nat} : p < (tokS B n p).2.2.1 := by
  unfold tokS
  split
  · show p < p + 1
    omega
  · show p < p + _
    omega
theorem rlS_le {B : Nat → Int32} : ∀ f p, rlS B f p ≤ f := by
  intro f
  induction f with
  | zero => intro p; exact Nat.le_refl _
  | succ f ih =>
    intro p
    unfold rlS
    split
    · omega
    · have := ih (p + 1)
      omega
theorem tokS_le {B : Nat → Int32} {n p : Nat} (h : p < n) : (tokS B n p).2.2.1 ≤ n := by
  have := rlS_le (B := B) (n - p) p
  unfold tokS
  split
  · show p + 1 ≤ n
    omega
  · show p + _ ≤ n
    omega
theorem mn4_le {n : Nat} : mn4 n ≤ n := by
  unfold mn4
  split <;> omega
theorem tsS_f {B : Nat → Int32} {n : Nat} : ∀ f g p, p ≤ n → n < f + p → n < g + p → tsS B n f p = tsS B n g p := by
  intro f
  induction f with
  | zero => intro g p h0 h1 h2; omega
  | succ f ih =>
    intro g p h0 h1 h2
    cases g with
    | zero => omega
    | succ g =>
      unfold tsS
      by_cases h3 : mn4 n ≤ p
      · rw [if_pos h3, if_pos h3]
      · rw [if_neg h3, if_neg h3]
        have hm := mn4_le (n := n)
        by_cases h4 : B p = 32 ∨ B p = 10
        · rw [if_pos h4, if_pos h4]
          exact ih g (p + 1) (by omega) (by omega) (by omega)
        · rw [if_neg h4, if_neg h4]
          have h5 := tokS_lt (B := B) (n := n) (p := p)
          have h6 := tokS_le (B := B) (n := n) (p := p) (by omega)
          rw [ih g (tokS B n p).2.2.1 h6 (by omega) (by omega)]
/-- the tokens from a place on -/
noncomputable def tlS (B : Nat → Int32) (n p : Nat) : List Tok := tsS B n (n + 1 - p) p
theorem tlS_end {B : Nat → Int32} {n p : Nat} (h0 : p ≤ n) (h : mn4 n ≤ p) : tlS B n p = [(0, mn4 n, mn4 n, 0)] := by
  unfold tlS
  obtain ⟨f, hf⟩ : ∃ f, n + 1 - p = f + 1 := ⟨n - p, by omega⟩
  rw [hf]
  unfold tsS
  rw [if_pos h]
theorem tlS_bl {B : Nat → Int32} {n p : Nat} (h : ¬ mn4 n ≤ p) (hb : B p = 32 ∨ B p = 10) : tlS B n p = tlS B n (p + 1) := by
  have hm := mn4_le (n := n)
  unfold tlS
  obtain ⟨f, hf⟩ : ∃ f, n + 1 - p = f + 1 := ⟨n - p, by omega⟩
  rw [hf, tsS_f (n + 1 - (p + 1)) f (p + 1) (by omega) (by omega) (by omega)]
  conv => lhs; unfold tsS
  rw [if_neg h, if_pos hb]
theorem tlS_no {B : Nat → Int32} {n p : Nat} (h : ¬ mn4 n ≤ p) (hb : ¬ (B p = 32 ∨ B p = 10)) (h1 : (tokS B n p).1 = 1) : tlS B n p = [tokS B n p] := by
  have hm := mn4_le (n := n)
  unfold tlS
  obtain ⟨f, hf⟩ : ∃ f, n + 1 - p = f + 1 := ⟨n - p, by omega⟩
  rw [hf]
  unfold tsS
  rw [if_neg h, if_neg hb, if_pos h1]
theorem tlS_tok {B : Nat → Int32} {n p : Nat} (h : ¬ mn4 n ≤ p) (hb : ¬ (B p = 32 ∨ B p = 10)) (h1 : ¬ (tokS B n p).1 = 1) : tlS B n p = tokS B n p :: tlS B n (tokS B n p).2.2.1 := by
  have hm := mn4_le (n := n)
  have h5 := tokS_lt (B := B) (n := n) (p := p)
  have h6 := tokS_le (B := B) (n := n) (p := p) (by omega)
  unfold tlS
  obtain ⟨f, hf⟩ : ∃ f, n + 1 - p = f + 1 := ⟨n - p, by omega⟩
  rw [hf, tsS_f (n + 1 - (tokS B n p).2.2.1) f _ h6 (by omega) (by omega)]
  conv => lhs; unfold tsS
  rw [if_neg h, if_neg hb, if_neg h1]
theorem tlS_ne {B : Nat → Int32} {n : Nat} : ∀ j p, p ≤ n → n - p = j → tlS B n p ≠ [] := by
  intro j
  induction j with
  | zero =>
    intro p h0 h1
    have hm := mn4_le (n := n)
    rw [tlS_end h0 (by omega)]
    exact List.cons_ne_nil _ _
  | succ j ih =>
    intro p h0 h1
    by_cases h : mn4 n ≤ p
    · rw [tlS_end h0 h]
      exact List.cons_ne_nil _ _
    · by_cases hb : B p = 32 ∨ B p = 10
      · rw [tlS_bl h hb]
        exact ih (p + 1) (by omega) (by omega)
      · by_cases h1 : (tokS B n p).1 = 1
        · rw [tlS_no h hb h1]
          exact List.cons_ne_nil _ _
        · rw [tlS_tok h hb h1]
          exact List.cons_ne_nil _ _
/-- only the bytes below n count -/
theorem rlS_cg {B A : Nat → Int32} {n : Nat} (h : ∀ k, k < n → B k = A k) : ∀ f p, p + f ≤ n → rlS B f p = rlS A f p := by
  intro f
  induction f with
  | zero => intro p _; rfl
  | succ f ih =>
    intro p hp
    unfold rlS
    rw [h p (by omega), ih (p + 1) (by omega)]
theorem cfS_cg {B A : Nat → Int32} {n : Nat} (h : ∀ k, k < n → B k = A k) : ∀ f p a, p + f ≤ n → cfS B f p a = cfS A f p a := by
  intro f
  induction f with
  | zero => intro p a _; rfl
  | succ f ih =>
    intro p a hp
    unfold cfS
    rw [h p (by omega), ih (p + 1) _ (by omega)]
theorem tokS_cg {B A : Nat → Int32} {n p : Nat} (h : ∀ k, k < n → B k = A k) (hp : p < n) : tokS B n p = tokS A n p := by
  unfold tokS
  have h1 := rlS_cg h (n - p) p (by omega)
  have h2 := rlS_le (B := A) (n - p) p
  rw [h1, h p hp, cfS_cg h (rlS A (n - p) p) p _ (by omega)]
theorem tlS_cg {B A : Nat → Int32} {n : Nat} (h : ∀ k, k < n → B k = A k) : ∀ m p, n - p ≤ m → p ≤ n → tlS B n p = tlS A n p := by
  intro m
  induction m with
  | zero =>
    intro p h1 h2
    have hm := mn4_le (n := n)
    rw [tlS_end h2 (by omega), tlS_end h2 (by omega)]
  | succ m ih =>
    intro p h1 h2
    have hm := mn4_le (n := n)
    by_cases hq : mn4 n ≤ p
    · rw [tlS_end h2 hq, tlS_end h2 hq]
    · have hp : p < n := by omega
      by_cases hb : B p = 32 ∨ B p = 10
      · rw [tlS_bl hq hb, tlS_bl hq (by rw [← h p hp]; exact hb)]
        exact ih (p + 1) (by omega) (by omega)
      · have hb2 : ¬ (A p = 32 ∨ A p = 10) := by
          rw [← h p hp]
          exact hb
        have ht := tokS_cg h hp
        have h3 := tokS_lt (B := A) (n := n) (p := p)
        have h4 := tokS_le (B := A) (n := n) (p := p) hp
        by_cases h1 : (tokS B n p).1 = 1
        · rw [tlS_no hq hb h1, tlS_no hq hb2 (by rw [← ht]; exact h1), ht]
        · rw [tlS_tok hq hb h1, tlS_tok hq hb2 (by rw [← ht]; exact h1), ht, ih _ (by omega) h4]
