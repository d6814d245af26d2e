/-! THE PARSER, in itself -/
/-- what a step asks (as the reference numbers it: 0 to 11 the words, 20 not, 21 and, 22 or), its sign, its number -/
abbrev Cdq : Type := Int32 × Int32 × Int32
/-- the tokens left, how many ONES, the steps written -/
abbrev Sg : Type := List Tok × Nat × List Cdq
/-- so far; or a fault and its place -/
abbrev PR : Type := Sg ⊕ (Int32 × Nat)
noncomputable def hdT (ts : List Tok) : Tok := ts.headD (0, 0, 0, 0)
noncomputable def wdS (B : Nat → Int32) (t : Tok) : List Int32 := if t.1 = 2 then slS B t.2.1 (t.2.2.1 - t.2.1) else []
noncomputable def ixF (w : List Int32) : List (List Int32) → Int32 → Int32
  | [], _ => -1
  | u :: r, i => if w = u then i else ixF w r (i + 1)
def lawW : List (List Int32) := [[119, 101, 97, 114], [103, 114, 111, 119], [108, 105, 110, 101], [109, 117, 100], [100, 114, 121]]
def habW : List (List Int32) := [[119, 101, 105, 103, 104], [110, 101, 118, 101, 114], [115, 105, 103, 104, 116]]
def ifW : List Int32 := [105, 102]
def meaW : List (List Int32) := [[103, 114, 101, 101, 110], [119, 101, 116], [99, 108, 105, 109, 98], [99, 114, 111, 119, 100], [116, 117, 114, 110], [99, 111, 109, 101], [108, 105, 110, 101]]
def orW : List Int32 := [111, 114]
def andW : List Int32 := [97, 110, 100]
def oneW : List (List Int32) := [[103, 114, 97, 115, 115], [103, 114, 97, 118, 101, 108], [98, 101, 100], [112, 97, 118, 101, 100], [115, 116, 101, 112, 115], [115, 105, 103, 110], [109, 117, 100, 100, 121], [119, 111, 114, 110], [119, 101, 97, 114], [119, 101, 116], [104, 101, 105, 103, 104, 116], [116, 114, 111, 100], [110, 111, 116]]
section SPEC
variable (B : Nat → Int32)
noncomputable def cmpS (a : Int32) (s : Sg) : PR :=
  if (hdT s.1).1 ≠ 60 ∧ (hdT s.1).1 ≠ 61 ∧ (hdT s.1).1 ≠ 62 then .inr (1, (hdT s.1).2.1)
  else if (hdT s.1.tail).1 ≠ 3 then .inr (1, (hdT s.1.tail).2.1)
  else .inl (s.1.tail.tail, s.2.1, s.2.2 ++ [(a, (hdT s.1).1, (hdT s.1.tail).2.2.2)])
noncomputable def oneB (C O : Nat → Sg → PR) (dep : Nat) (s : Sg) : PR :=
  if ixF (wdS B (hdT s.1)) oneW 0 < 0 ∧ (hdT s.1).1 ≠ 40 then .inr (1, (hdT s.1).2.1)
  else if 40 ≤ s.2.1 ∨ 10 < dep then .inr (4, (hdT s.1).2.1)
  else if ixF (wdS B (hdT s.1)) oneW 0 < 0 then (match C (dep + 1) (s.1.tail, s.2.1 + 1, s.2.2) with
    | .inr f => .inr f
    | .inl s2 => if (hdT s2.1).1 ≠ 41 then .inr (1, (hdT s2.1).2.1) else .inl (s2.1.tail, s2.2.1, s2.2.2))
  else if ixF (wdS B (hdT s.1)) oneW 0 = 12 then (match O (dep + 1) (s.1.tail, s.2.1 + 1, s.2.2) with
    | .inr f => .inr f
    | .inl s2 => .inl (s2.1, s2.2.1, s2.2.2 ++ [(20, 0, 0)]))
  else if 8 ≤ ixF (wdS B (hdT s.1)) oneW 0 then cmpS (ixF (wdS B (hdT s.1)) oneW 0) (s.1.tail, s.2.1 + 1, s.2.2)
  else .inl (s.1.tail, s.2.1 + 1, s.2.2 ++ [(ixF (wdS B (hdT s.1)) oneW 0, 0, 0)])
/-- further ones of a word, j at most -/
noncomputable def mrB (w : List Int32) (c : Int32) (O : Nat → Sg → PR) (dep : Nat) : Nat → Sg → PR
  | 0, s => .inl s
  | j + 1, s => if wdS B (hdT s.1) = w then (match O dep (s.1.tail, s.2.1, s.2.2) with
    | .inr f => .inr f
    | .inl s2 => mrB w c O dep j (s2.1, s2.2.1, s2.2.2 ++ [(c, 0, 0)])) else .inl s
noncomputable def allB (O : Nat → Sg → PR) (dep : Nat) (s : Sg) : PR := match O dep s with
  | .inr f => .inr f
  | .inl s2 => mrB B andW 21 O dep 40 s2
noncomputable def conB (A : Nat → Sg → PR) (dep : Nat) (s : Sg) : PR := match A dep s with
  | .inr f => .inr f
  | .inl s2 => mrB B orW 22 A dep 40 s2
/-- cond, all, one: so many calls deep -/
noncomputable def prS : Nat → (Nat → Sg → PR) × (Nat → Sg → PR) × (Nat → Sg → PR)
  | 0 => (fun _ _ => .inr (0, 0), fun _ _ => .inr (0, 0), fun _ _ => .inr (0, 0))
  | d + 1 => (conB B (prS d).2.1, allB B (prS d).2.2, oneB B (prS d).1 (prS d).2.2)
end SPEC
/-- tokens as a text has them: what ends is the last, and only that -/
def wfT : List Tok → Prop
  | [] => False
  | t :: r => ((t.1 = 0 ∨ t.1 = 1) ∧ r = []) ∨ ((t.1 ≠ 0 ∧ t.1 ≠ 1) ∧ wfT r)
theorem tlS_wf {B : Nat → Int32} {n : Nat} : ∀ m p, n - p ≤ m → p ≤ n → wfT (tlS B n p) := by
  intro m
  induction m with
  | zero =>
    intro p h1 h2
    have hm := mn4_le (n := n)
    rw [tlS_end h2 (by omega)]
    exact Or.inl ⟨Or.inl rfl, rfl⟩
  | succ m ih =>
    intro p h1 h2
    have hm := mn4_le (n := n)
    by_cases h : mn4 n ≤ p
    · rw [tlS_end h2 h]
      exact Or.inl ⟨Or.inl rfl, rfl⟩
    · by_cases hb : B p = 32 ∨ B p = 10
      · rw [tlS_bl h hb]
        exact ih (p + 1) (by omega) (by omega)
      · by_cases h1 : (tokS B n p).1 = 1
        · rw [tlS_no h hb h1]
          exact Or.inl ⟨Or.inr h1, rfl⟩
        · rw [tlS_tok h hb h1]
          have h3 := tokS_lt (B := B) (n := n) (p := p)
          have h4 := tokS_le (B := B) (n := n) (p := p) (by omega)
          refine Or.inr ⟨⟨?_, h1⟩, ih _ (by omega) h4⟩
          unfold tokS
          split
          · unfold sgS
            split
            · rename_i q
              intro r
              have r : B p = 0 := r
              rw [r] at q
              revert q
              decide
            · exact (by decide : (1 : Int32) ≠ 0)
          · unfold tyA
            split
            · exact (by decide : (2 : Int32) ≠ 0)
            · split
              · exact (by decide : (3 : Int32) ≠ 0)
              · exact (by decide : (1 : Int32) ≠ 0)
theorem wfT.tl {ts : List Tok} (h : wfT ts) (h0 : (hdT ts).1 ≠ 0) (h1 : (hdT ts).1 ≠ 1) : wfT ts.tail := by
  cases ts with
  | nil => exact h.elim
  | cons t r =>
    rcases h with ⟨h, _⟩ | ⟨_, h⟩
    · exact (h.elim h0 h1).elim
    · exact h
