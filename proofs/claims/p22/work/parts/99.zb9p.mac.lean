/-! THE REFERENCE'S cond and one tell what the parser tells -/
section MAC
variable {n : Nat} {B : Nat → Int32}
/-- an ONE is to come -/
def EXP (d : Nat) (M M' : Mem) (v : Option Value) : Prop := ∃ (c0 c1 c2 c3 v1 : Option Value) (M1 : Mem), Ev none d 180 0 [some (.ref 633), c1, c2, c3] [] M v1 M1 0 0 ∧ Ev none (d + 1) 179 9 [some (.ref 633), c0] (v1.toList ++ []) M1 v M' 0 0
/-- an ONE is behind -/
def BST (d : Nat) (M M' : Mem) (v : Option Value) : Prop := ∃ c0 : Option Value, Ev none (d + 1) 179 14 [some (.ref 633), c0] [] M v M' 0 0
def FLT (M M' : Mem) (v : Option Value) (f : Int32 × Nat) : Prop := v = some (.int 0) ∧ SQ M' ∧ FB fQ wQ M M' ∧ zI M' 633 26 = f.1 ∧ (zI M' 633 27).toInt = (f.2 : Int)
theorem FLT.pre {M M1 M' : Mem} {v : Option Value} {f : Int32 × Nat} (h : FB fQ wQ M M1) (h2 : FLT M1 M' v f) : FLT M M' v f := ⟨h2.1, h2.2.1, h.trans h2.2.2.1, h2.2.2.2⟩
/-- ops that wait, their steps -/
def opsC (pend : List Int32) : List Cdq := pend.map (fun x => (x, 0, 0))
theorem wdP_1 {P : List Int32} (hP : P = [] ∨ ∃ Q, P = 23 :: Q) : ∀ (pend : List Int32) (cs : List Cdq), (∀ x ∈ pend, x = 21 ∨ x = 22) → wdP 1 (pend ++ P) cs = (P, cs ++ opsC pend) := by
  intro pend
  induction pend with
  | nil =>
    intro cs _
    rcases hP with rfl | ⟨Q, rfl⟩
    · show ([], cs) = ([], cs ++ [])
      rw [List.append_nil]
    · show (if (23 : Int32) = 23 ∨ bdI 23 < 1 then ((23 : Int32) :: Q, cs) else _) = _
      rw [if_pos (Or.inl rfl)]
      show _ = (_, cs ++ [])
      rw [List.append_nil]
  | cons x pend ih =>
    intro cs h
    show (if x = 23 ∨ bdI x < 1 then (x :: (pend ++ P), cs) else wdP 1 (pend ++ P) (cs ++ [(x, 0, 0)])) = _
    have hx : ¬ (x = 23 ∨ bdI x < 1) := by
      rcases h x List.mem_cons_self with rfl | rfl <;> decide
    rw [if_neg hx, ih _ (fun y hy => h y (List.mem_cons_of_mem _ hy)), List.append_assoc]
    rfl
theorem wdP_3 {P : List Int32} (hP : P = [] ∨ ∃ x Q, P = x :: Q ∧ x ≠ 20) (cs : List Cdq) : wdP 3 P cs = (P, cs) := by
  rcases hP with rfl | ⟨x, Q, rfl, hx⟩
  · rfl
  · show (if x = 23 ∨ bdI x < 3 then (x :: Q, cs) else _) = _
    rw [if_pos]
    unfold bdI
    rw [if_neg hx]
    right
    split <;> decide
theorem wdP_not {P : List Int32} {cs : List Cdq} : wdP 3 (20 :: P) cs = wdP 3 P (cs ++ [(20, 0, 0)]) := by
  show (if (20 : Int32) = 23 ∨ bdI 20 < 3 then _ else wdP 3 P (cs ++ [(20, 0, 0)])) = _
  rw [if_neg (by decide)]
/-- what an ONE, ALL, COND of the parser is to the machine -/
def MOne (B : Nat → Int32) (n : Nat) (D : Nat → Prop) (O : Nat → Sg → PR) : Prop := ∀ (d dep : Nat) (s : Sg) (P : List Int32) (M M' : Mem) (v : Option Value), D dep → opS P + 1 = dep → dep ≤ 11 → RC B n M s P → s.2.1 ≤ 40 → EXP d M M' v → match O dep s with
  | .inr f => FLT M M' v f
  | .inl s2 => ∃ M2, FB fQ wQ M M2 ∧ RC B n M2 (s2.1, s2.2.1, (wdP 3 P s2.2.2).2) (wdP 3 P s2.2.2).1 ∧ BST d M2 M' v
def MAll (B : Nat → Int32) (n : Nat) (D : Nat → Prop) (A : Nat → Sg → PR) : Prop := ∀ (d dep : Nat) (s : Sg) (P : List Int32) (M M' : Mem) (v : Option Value), D dep → opS P + 1 = dep → dep ≤ 11 → (P = [] ∨ (∃ Q, P = 23 :: Q) ∨ ∃ Q, P = 22 :: Q) → RC B n M s P → s.2.1 ≤ 40 → EXP d M M' v → match A dep s with
  | .inr f => FLT M M' v f
  | .inl s2 => ∃ M2 pend c, (∀ x ∈ pend, x = (21 : Int32)) ∧ s2.2.2 = c ++ opsC pend ∧ wdS B (hdT s2.1) ≠ andW ∧ FB fQ wQ M M2 ∧ RC B n M2 (s2.1, s2.2.1, c) (pend ++ P) ∧ BST d M2 M' v
def MCon (B : Nat → Int32) (n : Nat) (D : Nat → Prop) (C : Nat → Sg → PR) : Prop := ∀ (d dep : Nat) (s : Sg) (P : List Int32) (M M' : Mem) (v : Option Value), D dep → opS P + 1 = dep → dep ≤ 11 → (P = [] ∨ ∃ Q, P = 23 :: Q) → RC B n M s P → s.2.1 ≤ 40 → EXP d M M' v → match C dep s with
  | .inr f => FLT M M' v f
  | .inl s2 => ∃ M2 pend c, (∀ x ∈ pend, x = (21 : Int32) ∨ x = 22) ∧ s2.2.2 = c ++ opsC pend ∧ wdS B (hdT s2.1) ≠ andW ∧ wdS B (hdT s2.1) ≠ orW ∧ FB fQ wQ M M2 ∧ RC B n M2 (s2.1, s2.2.1, c) (pend ++ P) ∧ BST d M2 M' v
/-- a fault in an ONE ends it all -/
theorem bad_end {d : Nat} {M M0 M1 M' : Mem} {v v0 v1 : Option Value} {s : Sg} {P : List Int32} {k : Int32} {c0 : Option Value} {e : Nat} (hR : RC B n M s P) (H1 : Ev none e 163 0 [some (.ref 633), some (.int k)] [] M v0 M0 0 0) (hr : ∀ y : Int32, v0 = some (.int y) → SQ M0 → v1 = some (.int y) ∧ M1 = M0) (H : Ev none (d + 1) 179 9 [some (.ref 633), c0] (v1.toList ++ []) M1 v M' 0 0) : FLT M M' v (k, (hdT s.1).2.1) := by
  obtain ⟨rfl, S0, F0, r1, r2⟩ := hR.bad H1
  obtain ⟨rfl, rfl⟩ := hr 0 rfl S0
  rcases ceq_9 S0 H with ⟨_, h3, rfl⟩ | ⟨h3, _⟩
  · exact ⟨h3, S0, F0, r1, r2⟩
  · exact absurd rfl h3
/-- an ONE comes to its end -/
theorem one_end {d e : Nat} {M M1 M' : Mem} {v v1 v3 : Option Value} {M3 : Mem} {s : Sg} {P : List Int32} {c0 c3 : Option Value} {nt a : Int32} (hR : RC B n M s P) (H1 : Ev none e 175 0 [some (.ref 633), some (.int 3)] [] M v3 M3 0 0) (H2 : SQ M3 → v3 = none → v1 = some (.int 1) ∧ M1 = M3) (H : Ev none (d + 1) 179 9 [some (.ref 633), c0] (v1.toList ++ []) M1 v M' 0 0) : ∃ M2, FB fQ wQ M M2 ∧ RC B n M2 (s.1, s.2.1, (wdP 3 P s.2.2).2) (wdP 3 P s.2.2).1 ∧ BST d M2 M' v := by
  obtain ⟨rfl, F1, R1⟩ := RC.wdown P s M hR H1
  obtain ⟨rfl, rfl⟩ := H2 R1.1 rfl
  rcases ceq_9 R1.1 H with ⟨h3, _⟩ | ⟨_, H⟩
  · exact absurd h3 (by decide)
  · exact ⟨_, F1, R1, _, H⟩
theorem RC.ones {M : Mem} {s : Sg} {P : List Int32} (h : RC B n M s P) (h40 : s.2.1 < 40) : FB fQ wQ M (wF M 633 21 (zI M 633 21 + 1)) ∧ RC B n (wF M 633 21 (zI M 633 21 + 1)) (s.1, s.2.1 + 1, s.2.2) P := by
  obtain ⟨a1, a2, a3, a4, a5, a6, a7, a8, a9, a10, a11⟩ := h
  have F1 : FB [(633, 21)] [] M (wF M 633 21 (zI M 633 21 + 1)) := FB.wF (by decide)
  refine ⟨F1.more (by decide) (by decide), a1.kf, (F1.bR (by decide)).trans a2, by rw [F1.fi (by decide)]; exact a3, a4.frm F1 (by decide) (by decide) (by decide) (by decide) (by decide), a5, a6, ?_, a8.frm F1 (by decide) (by decide) (by decide) (by decide), by rw [F1.fi (by decide)]; exact a9, a10.frm F1 (by decide), by rw [F1.fi (by decide)]; exact a11⟩
  rw [fI_wF_eq a1.1 qa_633 qi_61_21, i32_p1 (by omega)]
  dsimp only
  omega
end MAC
