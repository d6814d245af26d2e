/-! LINES, in themselves; the class's state of them -/
/-- a line: its kind, measure, number, from which step, to which -/
abbrev Lnq : Type := Int32 × Int32 × Int32 × Nat × Nat
abbrev PLn : Type := (Sg × List Lnq) ⊕ (Int32 × Nat)
noncomputable def mostS (k : Int32) : Int32 := if k = 5 then 99 else if k = 7 then 9 else 999
noncomputable def hasK (ls : List Lnq) (k : Int32) : Bool := ls.any (fun l => decide (l.1 = k))
noncomputable def onceB (k : Int32) : Bool := decide (k = 2) || (decide (k = 3) || (decide (k = 4) || decide (k = 7)))
noncomputable def endB (s : Sg) (ls : List Lnq) (x m nu : Int32) (fr : Nat) : PLn := if (hdT s.1).1 ≠ 59 then .inr (1, (hdT s.1).2.1) else .inl ((s.1.tail, s.2.1, s.2.2), ls ++ [(x, m, nu, fr, s.2.2.length)])
noncomputable def cndB (B : Nat → Int32) (C : Sg → PR) (s : Sg) (ls : List Lnq) (x m nu : Int32) (fr : Nat) : PLn :=
  if x = 6 then (match C s with
    | .inr f => .inr f
    | .inl s2 => endB s2 ls x m nu fr)
  else if (x = 0 ∨ x = 1 ∨ x = 5) ∧ wdS B (hdT s.1) = ifW then (match C (s.1.tail, s.2.1, s.2.2) with
    | .inr f => .inr f
    | .inl s2 => endB s2 ls x m nu fr)
  else endB s ls x m nu fr
noncomputable def numB (B : Nat → Int32) (C : Sg → PR) (s : Sg) (ls : List Lnq) (x m : Int32) : PLn :=
  if (hdT s.1).1 ≠ 3 then .inr (1, (hdT s.1).2.1)
  else if mostS x < (hdT s.1).2.2.2 ∨ (x = 2 ∧ (hdT s.1).2.2.2 < 1) then .inr (2, (hdT s.1).2.1)
  else cndB B C (s.1.tail, s.2.1, s.2.2) ls x m (hdT s.1).2.2.2 s.2.2.length
noncomputable def bodB (B : Nat → Int32) (C : Sg → PR) (s : Sg) (ls : List Lnq) (x : Int32) : PLn :=
  if x = 6 then cndB B C s ls 6 0 0 s.2.2.length
  else if x = 5 then (if ixF (wdS B (hdT s.1)) meaW 0 < 0 then .inr (1, (hdT s.1).2.1) else numB B C (s.1.tail, s.2.1, s.2.2) ls 5 (ixF (wdS B (hdT s.1)) meaW 0))
  else numB B C s ls x 0
noncomputable def kdS (B : Nat → Int32) (law : Bool) (t : Tok) : Int32 := bif law then ixF (wdS B t) lawW 0 else (if ixF (wdS B t) habW 0 < 0 then -1 else 5 + ixF (wdS B t) habW 0)
noncomputable def lnB (B : Nat → Int32) (law : Bool) (C : Sg → PR) (s : Sg) (ls : List Lnq) : PLn :=
  if kdS B law (hdT s.1) < 0 then .inr (1, (hdT s.1).2.1)
  else if 16 ≤ ls.length ∨ (onceB (kdS B law (hdT s.1)) = true ∧ hasK ls (kdS B law (hdT s.1)) = true) then .inr (3, (hdT s.1).2.1)
  else bodB B C (s.1.tail, s.2.1, s.2.2) ls (kdS B law (hdT s.1))
noncomputable def tvS (ls : List Lnq) (k d : Int32) : Int32 := match ls.find? (fun l => decide (l.1 = k)) with
  | some l => l.2.2.1
  | none => d
noncomputable def tdB (a b c d : Bool) : Int32 := (bif a then 4 else 0) ||| ((bif b then 8 else 0) ||| ((bif c then 16 else 0) ||| (bif d then 128 else 0)))
noncomputable def tdS (ls : List Lnq) : Int32 := tdB (hasK ls 2) (hasK ls 3) (hasK ls 4) (hasK ls 7)
theorem hasK_app {ls : List Lnq} {l : Lnq} {k : Int32} : hasK (ls ++ [l]) k = (hasK ls k || decide (l.1 = k)) := by
  unfold hasK
  rw [List.any_append]
  show (_ || (decide (l.1 = k) || false)) = _
  rw [Bool.or_false]
theorem tv_app {ls : List Lnq} {l : Lnq} {k d : Int32} (h : hasK ls k = false) : tvS (ls ++ [l]) k d = if l.1 = k then l.2.2.1 else tvS ls k d := by
  have h2 : ls.find? (fun l => decide (l.1 = k)) = none := by
    rw [List.find?_eq_none]
    intro x hx
    have h3 := List.any_eq_false.mp h x hx
    exact h3
  unfold tvS
  rw [List.find?_append, h2]
  show (match (List.find? (fun l => decide (l.1 = k)) [l]) with
    | some l => l.2.2.1
    | none => d) = _
  by_cases hk : l.1 = k
  · rw [if_pos hk, List.find?_cons_of_pos (by exact decide_eq_true hk)]
  · rw [if_neg hk, List.find?_cons_of_neg (by rw [decide_eq_false hk]; decide)]
    rfl
theorem tv_app2 {ls : List Lnq} {l : Lnq} {k d : Int32} (h : l.1 ≠ k) : tvS (ls ++ [l]) k d = tvS ls k d := by
  unfold tvS
  rw [List.find?_append]
  have h2 : List.find? (fun l => decide (l.1 = k)) [l] = none := by
    rw [List.find?_cons_of_neg (by rw [decide_eq_false h]; decide)]
    rfl
  rw [h2, Option.or_none]
/-- the lines that a text holds -/
def LCt (M : Mem) (t : Nat) (ls : List Lnq) : Prop := (zI M t 8).toInt = (ls.length : Int) ∧ ls.length ≤ 16 ∧ ∀ j l, ls[j]? = some l → rN M (t + 1) j = l.1 ∧ rN M (t + 2) j = l.2.1 ∧ rN M (t + 3) j = l.2.2.1 ∧ (rN M (t + 4) j).toInt = (l.2.2.2.1 : Int) ∧ (rN M (t + 5) j).toInt = (l.2.2.2.2 : Int)
/-- what is told once -/
def FTq (M : Mem) (t : Nat) (ls : List Lnq) : Prop := zI M t 10 = tvS ls 2 40 ∧ zI M t 11 = tvS ls 3 50 ∧ zI M t 12 = tvS ls 4 10 ∧ zI M t 13 = tvS ls 7 3 ∧ zI M 3 10 = tdS ls
/-- the line begun -/
def ENq (M : Mem) (t i : Nat) (x m nu : Int32) (fr : Nat) : Prop := rN M (t + 1) i = x ∧ rN M (t + 2) i = m ∧ rN M (t + 3) i = nu ∧ (rN M (t + 4) i).toInt = (fr : Int)
def CL (B : Nat → Int32) (n t : Nat) (M : Mem) (s : Sg) (ls : List Lnq) : Prop := CSt B n t M s ∧ LCt M t ls ∧ FTq M t ls
def fLq (t : Nat) : List (Nat × Nat) := [(3, 6), (3, 7), (3, 11), (3, 12), (3, 13), (t, 9), (3, 10), (t, 8), (t, 10), (t, 11), (t, 12), (t, 13)]
def wLn (t : Nat) : List Nat := [t + 1, t + 2, t + 3, t + 4, t + 5, t + 6, t + 7, t + 8]
def ERt (M' : Mem) (v : Option Value) (f : Int32 × Nat) : Prop := v = some (.int 0) ∧ SQ M' ∧ zI M' 3 12 = f.1 ∧ (zI M' 3 13).toInt = (f.2 : Int)
section LSP
variable {n t : Nat} {B : Nat → Int32} {M M' : Mem} {s : Sg} {ls : List Lnq} {F : List (Nat × Nat)} {W : List Nat}
theorem CSt.frm (h : CSt B n t M s) (hS : SQ M') (hF : FA F W M M') (f : ∀ q ∈ [(3, 5), (3, 6), (3, 7), (3, 8), (3, 11), (t, 9), (3, 12)], q ∉ F) (w : ∀ b ∈ [2, 4, 5, 6, 7, t + 6, t + 7, t + 8], b ∉ W) : CSt B n t M' s := by
  obtain ⟨a1, a2, a3, a4, a5, a6, a7, a8, a9⟩ := h
  have f' := fun q hq => f q hq
  refine ⟨hS, ?_, a3.frm hF (f _ (by simp)) (f _ (by simp)) (f _ (by simp)) (w _ (by simp)) (w _ (by simp)) (w _ (by simp)) (w _ (by simp)), by rw [hF.fi (f _ (by simp))]; exact a4, a5, by rw [hF.fr (f _ (by simp))]; exact a6, a7.frm hF (f _ (by simp)) (w _ (by simp)) (w _ (by simp)) (w _ (by simp)), a8, by rw [hF.fi (f _ (by simp))]; exact a9⟩
  intro k hk
  rw [← a2 k hk]
  exact hF.rn (w _ (by simp))
theorem LCt.frm (h : LCt M t ls) (hF : FA F W M M') (f : (t, 8) ∉ F) (w : ∀ b ∈ [t + 1, t + 2, t + 3, t + 4, t + 5], b ∉ W) : LCt M' t ls := by
  refine ⟨by rw [hF.fi f]; exact h.1, h.2.1, fun j l hj => ?_⟩
  rw [hF.rn (w _ (by simp)), hF.rn (w _ (by simp)), hF.rn (w _ (by simp)), hF.rn (w _ (by simp)), hF.rn (w _ (by simp))]
  exact h.2.2 j l hj
theorem FTq.frm (h : FTq M t ls) (hF : FA F W M M') (f : ∀ q ∈ [(t, 10), (t, 11), (t, 12), (t, 13), (3, 10)], q ∉ F) : FTq M' t ls := by
  unfold FTq
  rw [hF.fi (f _ (by simp)), hF.fi (f _ (by simp)), hF.fi (f _ (by simp)), hF.fi (f _ (by simp)), hF.fi (f _ (by simp))]
  exact h
theorem ENq.frm {i : Nat} {x m nu : Int32} {fr : Nat} (h : ENq M t i x m nu fr) (hF : FA F W M M') (w : ∀ b ∈ [t + 1, t + 2, t + 3, t + 4], b ∉ W) : ENq M' t i x m nu fr := by
  unfold ENq
  rw [hF.rn (w _ (by simp)), hF.rn (w _ (by simp)), hF.rn (w _ (by simp)), hF.rn (w _ (by simp))]
  exact h
/-- cond's frame is within a line's -/
theorem FA.ln (h : FA (fP t) (wP t) M M') : FA (fLq t) (wLn t) M M' := h.more (fun q hq => by
  simp only [fP, fLq, List.mem_cons, List.not_mem_nil, or_false] at hq ⊢
  rcases hq with h | h | h | h | h | h <;> simp [h]) (fun q hq => by
  simp only [wP, wLn, List.mem_cons, List.not_mem_nil, or_false] at hq ⊢
  rcases hq with h | h | h <;> simp [h])
theorem fP_no (ht : 110 ≤ t) : (∀ q ∈ [(t, 10), (t, 11), (t, 12), (t, 13), (3, 10)], q ∉ fP t) ∧ (t, 8) ∉ fP t ∧ (∀ b ∈ [t + 1, t + 2, t + 3, t + 4, t + 5], b ∉ wP t) ∧ (∀ b ∈ [t + 1, t + 2, t + 3, t + 4], b ∉ wP t) := by
  refine ⟨fun q hq r => ?_, fun r => ?_, fun b hb r => ?_, fun b hb r => ?_⟩
  · simp only [fP, List.mem_cons, List.not_mem_nil, or_false] at hq r
    rcases hq with rfl | rfl | rfl | rfl | rfl <;> simp only [Prod.mk.injEq] at r <;> omega
  · simp only [fP, List.mem_cons, List.not_mem_nil, or_false, Prod.mk.injEq] at r
    omega
  · simp only [wP, List.mem_cons, List.not_mem_nil, or_false] at hb r
    omega
  · simp only [wP, List.mem_cons, List.not_mem_nil, or_false] at hb r
    omega
theorem td_bits : ∀ a b c d : Bool, ((tdB a b c d &&& ((1 : Int32) <<< ((2 : Int32) &&& 31))) = 0 ↔ a = false) ∧ ((tdB a b c d &&& ((1 : Int32) <<< ((3 : Int32) &&& 31))) = 0 ↔ b = false) ∧ ((tdB a b c d &&& ((1 : Int32) <<< ((4 : Int32) &&& 31))) = 0 ↔ c = false) ∧ ((tdB a b c d &&& ((1 : Int32) <<< ((7 : Int32) &&& 31))) = 0 ↔ d = false) ∧ (tdB a b c d &&& ((1 : Int32) <<< ((0 : Int32) &&& 31))) = 0 ∧ (tdB a b c d &&& ((1 : Int32) <<< ((1 : Int32) &&& 31))) = 0 ∧ (tdB a b c d &&& ((1 : Int32) <<< ((5 : Int32) &&& 31))) = 0 ∧ (tdB a b c d &&& ((1 : Int32) <<< ((6 : Int32) &&& 31))) = 0 ∧ (tdB a b c d ||| ((1 : Int32) <<< ((2 : Int32) &&& 31))) = tdB true b c d ∧ (tdB a b c d ||| ((1 : Int32) <<< ((3 : Int32) &&& 31))) = tdB a true c d ∧ (tdB a b c d ||| ((1 : Int32) <<< ((4 : Int32) &&& 31))) = tdB a b true d ∧ (tdB a b c d ||| ((1 : Int32) <<< ((7 : Int32) &&& 31))) = tdB a b c true ∧ (tdB a b c d ||| 0) = tdB a b c d := by decide
end LSP
