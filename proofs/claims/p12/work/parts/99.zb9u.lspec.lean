/-! LINES, in themselves; the class's state of them -/
/-- a line: its kind, measure, number, from which step, to which -/
abbrev Lnq : Type := Int32 × Int32 × Int32 × Nat × Nat
abbrev PLn : Type := (Sg × List Lnq) ⊕ (Int32 × Nat)
noncomputable def mostS (k : Int32) : Int32 := if k = 5 then 99 else if k = 7 then 9 else 999
noncomputable def hasK (ls : List Lnq) (k : Int32) : Bool := ls.any (fun l => decide (l.1 = k))
noncomputable def onceB (k : Int32) : Bool := decide (k = 2) || (decide (k = 3) || (decide (k = 4) || decide (k = 7)))
noncomputable def endB (s : Sg) (ls : List Lnq) (x m nu : Int32) (fr : Nat) : PLn := if (hdT s.1).1 ≠ 59 then .inr (1, (hdT s.1).2.1) else .inl ((s.1.tail, s.2.1, s.2.2), ls ++ [(x, m, nu, fr, s.2.2.length)])
noncomputable def cndB (B : Nat → Int32) (C : Sg → PR) (s : Sg) (ls : List Lnq) (x m nu : Int32) (fr : Nat) : PLn :=
  if x = 6 then (match C s with
    | .inr f => .inr f
    | .inl s2 => endB s2 ls x m nu fr)
  else if (x = 0 ∨ x = 1 ∨ x = 5) ∧ wdS B (hdT s.1) = ifW then (match C (s.1.tail, s.2.1, s.2.2) with
    | .inr f => .inr f
    | .inl s2 => endB s2 ls x m nu fr)
  else endB s ls x m nu fr
noncomputable def numB (B : Nat → Int32) (C : Sg → PR) (s : Sg) (ls : List Lnq) (x m : Int32) : PLn :=
  if (hdT s.1).1 ≠ 3 then .inr (1, (hdT s.1).2.1)
  else if mostS x < (hdT s.1).2.2.2 ∨ (x = 2 ∧ (hdT s.1).2.2.2 < 1) then .inr (2, (hdT s.1).2.1)
  else cndB B C (s.1.tail, s.2.1, s.2.2) ls x m (hdT s.1).2.2.2 s.2.2.length
noncomputable def bodB (B : Nat → Int32) (C : Sg → PR) (s : Sg) (ls : List Lnq) (x : Int32) : PLn :=
  if x = 6 then cndB B C s ls 6 0 0 s.2.2.length
  else if x = 5 then (if ixF (wdS B (hdT s.1)) meaW 0 < 0 then .inr (1, (hdT s.1).2.1) else numB B C (s.1.tail, s.2.1, s.2.2) ls 5 (ixF (wdS B (hdT s.1)) meaW 0))
  else numB B C s ls x 0
noncomputable def kdS (B : Nat → Int32) (law : Bool) (t : Tok) : Int32 := bif law then ixF (wdS B t) lawW 0 else (if ixF (wdS B t) habW 0 < 0 then -1 else 5 + ixF (wdS B t) habW 0)
noncomputable def lnB (B : Nat → Int32) (law : Bool) (C : Sg → PR) (s : Sg) (ls : List Lnq) : PLn :=
  if kdS B law (hdT s.1) < 0 then .inr (1, (hdT s.1).2.1)
  else if 16 ≤ ls.length ∨ (onceB (kdS B law (hdT s.1)) = true ∧ hasK ls (kdS B law (hdT s.1)) = true) then .inr (3, (hdT s.1).2.1)
  else bodB B C (s.1.tail, s.2.1, s.2.2) ls (kdS B law (hdT s.1))
noncomputable def tvS (ls : List Lnq) (k d : Int32) : Int32 := match ls.find? (fun l => decide (l.1 = k)) with
  | some l => l.2.2.1
  | none => d
noncomputable def tdB (a b c d : Bool) : Int32 := (bif a then 4 else 0) ||| ((bif b then 8 else 0) ||| ((bif c then 16 else 0) ||| (bif d then 128 else 0)))
noncomputable def tdS (ls : List Lnq) : Int32 := tdB (hasK ls 2) (hasK ls 3) (hasK ls 4) (hasK ls 7)
theorem hasK_app {ls : List Lnq} {l : Lnq} {k : Int32} : hasK (ls ++ [l]) k = (hasK ls k || decide (l.1 = k)) := by
  unfold hasK
  rw [List.any_append]
  show (_ || (decide (l.1 = k) || false)) = _
  rw [Bool.or_false]
theorem tv_app {ls : List Lnq} {l : Lnq} {k d : Int32} (h : hasK ls k = false) : tvS (ls ++ [l]) k d = if l.1 = k then l.2.2.1 else tvS ls k d := by
  have h2 : ls.find? (fun l => decide (l.1 = k)) = none := by
    rw [List.find?_eq_none]
    intro x hx
    have h3 := List.any_eq_false.mp h x hx
    exact h3
  unfold tvS
  rw [List.find?_append, h2]
  show (match (List.find? (fun l => decide (l.1 = k)) [l]) with
    | some l => l.2.2.1
    | none => d) = _
  by_cases hk : l.1 = k
  · rw [if_pos hk, List.find?_cons_of_pos (by exact decide_eq_true hk)]
  · rw [if_neg hk, List.find?_cons_of_neg (by rw [decide_eq_false hk]; decide)]
    rfl
theorem tv_app2 {ls : List Lnq} {l : Lnq} {k d : Int32} (h : l.1 ≠ k) : tvS (ls ++ [l]) k d = tvS ls k d := by
  unfold tvS
  rw [List.find?_append]
  have h2 : List.find? (fun l => decide (l.1 = k)) [l] = none := by
    rw [List.find?_cons_of_neg (by rw [decide_eq_false h]; decide)]
    rfl
  rw [h2, Option.or_none]
/-- the lines that a text holds -/
def LCt (M : Mem) (t : Nat) (ls : List Lnq) : Prop := (zI M t 8).toInt = (ls.length : Int) ∧ ls.length ≤ 16 ∧ ∀ j l, ls[j]? = some l → rN M (t + 1) j = l.1 ∧ rN M (t + 2) j = l.2.1 ∧ rN M (t + 3) j = l.2.2.1 ∧ (rN M (t + 4) j).toInt = (l.2.2.2.1 : Int) ∧ (rN M (t + 5) j).toInt = (l.2.2.2.2 : Int)
/-- what is told once -/
def FTq (M : Mem) (t : Nat) (ls : List Lnq) : Prop := zI M t 10 = tvS ls 2 40 ∧ zI M t 11 = tvS ls 3 50 ∧ zI M t 12 = tvS ls 4 10 ∧ zI M t 13 = tvS ls 7 3 ∧ zI M 3 10 = tdS ls
/-- the line begun -/
def ENq (M : Mem) (t i : Nat) (x m nu : Int32) (fr : Nat) : Prop := rN M (t + 1) i = x ∧ rN M (t + 2) i = m ∧ rN M (t + 3) i = nu ∧ (rN M (t + 4) i).toInt = (fr : Int)
def CL (B : Nat → Int32) (n t : Nat) (M : Mem) (s : Sg) (ls : List Lnq) : Prop := CSt B n t M s ∧ LCt M t ls ∧ FTq M t ls
def fLq (t : Nat) : List (Nat × Nat) := [(3, 6), (3, 7), (3, 11), (3, 12), (3, 13), (t, 9), (3, 10), (t, 8), (t, 10), (t, 11), (t, 12), (t, 13)]
def wLn (t : Nat) : List Nat := [t + 1, t + 2, t + 3, t + 4, t + 5, t + 6, t + 7, t + 8]
def ERt (M' : Mem) (v : Option Value) (f : Int32 × Nat) : Prop := v = some (.int 0) ∧ SQ M' ∧ zI M' 3 12 = f.1 ∧ (zI M' 3 13).toInt = (f.2 : Int)
section LSP
variable {n t : Nat} {B : Nat → Int32} {M M' : Mem} {s : Sg} {ls : List Lnq} {F : List (Nat × Nat)} {W : List Nat}
theorem CSt.frm (h : CSt B n t M s) (hS : SQ M') (hF : FA F W M M') (f : ∀ q ∈ [(3, 5), (3, 6), (3, 7), (3, 8), (3, 11), (t, 9), (3, 12)], q ∉ F) (w : ∀ b ∈ [2, 4, 5, 6, 7, t + 6, t + 7, t + 8], b ∉ W) : CSt B n t M' s := by
  obtain ⟨a1, a2, a3, a4, a5, a6, a7, a8, a9⟩ := h
  have f' := fun q hq => f q hq
  refine ⟨hS, ?_, a3.frm hF (f _ (by simp)) (f _ (by simp)) (f _ (by simp)) (w _ (by simp)) (w _ (by simp)) (w _ (by simp)) (w _ (by simp)), by rw [hF.fi (f _ (by simp))]; exact a4, a5, by rw [hF.fr (f _ (by simp))]; exact a6, a7.frm hF (f _ (by simp)) (w _ (by simp)) (w _ (by simp)) (w _ (by simp)), a8, by rw [hF.fi (f _ (by simp))]; exact a9⟩
  intro k hk
  rw [← a2 k hk]
  exact hF.rn (w _ (by simp))
theorem LCt.frm (h : LCt M t ls) (hF : FA F W M M') (f : (t, 8) ∉ F) (w : ∀ b ∈ [t + 1, t + 2, t + 3, t + 4, t + 5], b ∉ W) : LCt M' t ls := by
  refine ⟨by rw [hF.fi f]; exact h.1, h.2.1, fun j l hj => ?_⟩
  rw [hF.rn (w _ (by simp)), hF.rn (w _ (by simp)), hF.rn (w _ (by simp)), hF.rn (w _ (by simp)), hF.rn (w _ (by simp))]
  exact h.2.2 j l hj
theorem FTq.frm (h : FTq M t ls) (hF : FA F W M M') (f : ∀ q ∈ [(t, 10), (t, 11), (t, 12), (t, 13), (3, 10)], q ∉ F) : FTq M' t ls := by
  unfold FTq
  rw [hF.fi (f _ (by simp)), hF.fi (f _ (by simp)), hF.fi (f _ (by simp)), hF.fi (f _ (by simp)), hF.fi (f _ (by simp))]
  exact h
theorem ENq.frm {i : Nat} {x m nu : Int32} {fr : Nat} (h : ENq M t i x m nu fr) (hF : FA F W M M') (w : ∀ b ∈ [t + 1, t + 2, t + 3, t + 4], b ∉ W) : ENq M' t i x m nu fr := by
  unfold ENq
  rw [hF.rn (w _ (by simp)), hF.rn (w _ (by simp)), hF.rn (w _ (by simp)), hF.rn (w _ (by simp))]
  exact h
/-- cond's frame is within a line's -/
theorem FA.ln (h : FA (fP t) (wP t) M M') : FA (fLq t) (wLn t) M M' := h.more (fun q hq => by
  simp only [fP, fLq, List.mem_cons, List.not_mem_nil, or_false] at hq ⊢
  rcases hq with h | h | h | h | h | h <;> simp [h]) (fun q hq => by
  simp only [wP, wLn, List.mem_cons, List.not_mem_nil, or_false] at hq ⊢
  rcases hq with h | h | h <;> simp [h])
theorem fP_no (ht : 110 ≤ t) : (∀ q ∈ [(t, 10), (t, 11), (t, 12), (t, 13), (3, 10)], q ∉ fP t) ∧ (t, 8) ∉ fP t ∧ (∀ b ∈ [t + 1, t + 2, t + 3, t + 4, t + 5], b ∉ wP t) ∧ (∀ b ∈ [t + 1, t + 2, t + 3, t + 4], b ∉ wP t) := by
  refine ⟨fun q hq r => ?_, fun r => ?_, fun b hb r => ?_, fun b hb r => ?_⟩
  · simp only [fP, List.mem_cons, List.not_mem_nil, or_false] at hq r
    rcases hq with rfl | rfl | rfl | rfl | rfl <;> simp only [Prod.mk.injEq] at r <;> omega
  · simp only [fP, List.mem_cons, List.not_mem_nil, or_false, Prod.mk.injEq] at r
    omega
  · simp only [wP, List.mem_cons, List.not_mem_nil, or_false] at hb r
    omega
  · simp only [wP, List.mem_cons, List.not_mem_nil, or_false] at hb r
    omega
theorem td_bits : ∀ a b c d : Bool, ((tdB a b c d &&& ((1 : Int32) <<< ((2 : Int32) &&& 31))) = 0 ↔ a = false) ∧ ((tdB a b c d &&& ((1 : Int32) <<< ((3 : Int32) &&& 31))) = 0 ↔ b = false) ∧ ((tdB a b c d &&& ((1 : Int32) <<< ((4 : Int32) &&& 31))) = 0 ↔ c = false) ∧ ((tdB a b c d &&& ((1 : Int32) <<< ((7 : Int32) &&& 31))) = 0 ↔ d = false) ∧ (tdB a b c d &&& ((1 : Int32) <<< ((0 : Int32) &&& 31))) = 0 ∧ (tdB a b c d &&& ((1 : Int32) <<< ((1 : Int32) &&& 31))) = 0 ∧ (tdB a b c d &&& ((1 : Int32) <<< ((5 : Int32) &&& 31))) = 0 ∧ (tdB a b c d &&& ((1 : Int32) <<< ((6 : Int32) &&& 31))) = 0 ∧ (tdB a b c d ||| ((1 : Int32) <<< ((2 : Int32) &&& 31))) = tdB true b c d ∧ (tdB a b c d ||| ((1 : Int32) <<< ((3 : Int32) &&& 31))) = tdB a true c d ∧ (tdB a b c d ||| ((1 : Int32) <<< ((4 : Int32) &&& 31))) = tdB a b true d ∧ (tdB a b c d ||| ((1 : Int32) <<< ((7 : Int32) &&& 31))) = tdB a b c true ∧ (tdB a b c d ||| 0) = tdB a b c d := by decide
end LSP
/-! THE CLASS'S NUMBERS (made by glin.py) -/
def MID (B : Nat → Int32) (n t : Nat) (M : Mem) (s : Sg) (ls : List Lnq) (l : Lnq) : Prop := CSt B n t M s ∧ LCt M t ls ∧ ENq M t ls.length l.1 l.2.1 l.2.2.1 l.2.2.2.1 ∧ FTq M t (ls ++ [l])
def PRE (B : Nat → Int32) (n t : Nat) (M : Mem) (s : Sg) (ls : List Lnq) (x m : Int32) (fr : Nat) : Prop := CSt B n t M s ∧ LCt M t ls ∧ ENq M t ls.length x m 0 fr ∧ FTq M t ls ∧ ls.length < 16
def NUr (B : Nat → Int32) (n t : Nat) (M' : Mem) (v : Option Value) (s : Sg) (ls : List Lnq) (x m : Int32) (fr : Nat) : Prop := ((hdT s.1).1 ≠ 3 ∧ ERt M' v (1, (hdT s.1).2.1)) ∨ ((hdT s.1).1 = 3 ∧ (mostS x < (hdT s.1).2.2.2 ∨ (x = 2 ∧ (hdT s.1).2.2.2 < 1)) ∧ ERt M' v (2, (hdT s.1).2.1)) ∨ ((hdT s.1).1 = 3 ∧ ¬ (mostS x < (hdT s.1).2.2.2 ∨ (x = 2 ∧ (hdT s.1).2.2.2 < 1)) ∧ v = some (.int 1) ∧ MID B n t M' (s.1.tail, s.2.1, s.2.2) ls (x, m, (hdT s.1).2.2.2, fr, 0))
section NUM
variable {n t : Nat} {B : Nat → Int32} {M M' : Mem} {s : Sg} {ls : List Lnq}
theorem LCt.ui {a : Nat} {x : Int32} (h : LCt M t ls) : LCt (wI M a ls.length x) t ls := by
  refine ⟨by rw [fI_wI]; exact h.1, h.2.1, fun j l hj => ?_⟩
  have hjl := (List.getElem?_eq_some_iff.mp hj).1
  rw [rN_wI_ne (fun q => by omega), rN_wI_ne (fun q => by omega), rN_wI_ne (fun q => by omega), rN_wI_ne (fun q => by omega), rN_wI_ne (fun q => by omega)]
  exact h.2.2 j l hj
theorem LCt.uf {a k : Nat} {x : Int32} (h : LCt M t ls) (hk : k ≠ 8) : LCt (wF M a k x) t ls := by
  refine ⟨by rw [fI_wF_ne (fun q => hk q.2.symm)]; exact h.1, h.2.1, fun j l hj => ?_⟩
  rw [rN_wF, rN_wF, rN_wF, rN_wF, rN_wF]
  exact h.2.2 j l hj
theorem tdS_app {l : Lnq} : tdS (ls ++ [l]) = tdB (hasK ls 2 || decide (l.1 = 2)) (hasK ls 3 || decide (l.1 = 3)) (hasK ls 4 || decide (l.1 = 4)) (hasK ls 7 || decide (l.1 = 7)) := by
  unfold tdS
  rw [hasK_app, hasK_app, hasK_app, hasK_app]
theorem CSt.err {M1 : Mem} {v v1 : Option Value} {k : Int32} {d : Nat} (hC : CSt B n t M s) (H1 : Ev none d 27 0 [some (.ref 3), some (.int k)] [] M v1 M1 0 0) (hr : ∀ y : Int32, v1 = some (.int y) → SQ M1 → v = some (.int y) ∧ M' = M1) : FA (fP t) (wP t) M M' ∧ ERt M' v (k, (hdT s.1).2.1) := by
  obtain ⟨f1, f2⟩ := hC.fail H1
  obtain ⟨g1, g2, g3, g4⟩ := RS_err f2
  obtain ⟨r1, r2⟩ := hr 0 g1 g2
  subst r2
  exact ⟨f1, r1, g2, g3, g4⟩
theorem tdk0 : ∀ a b c d : Bool, tdB (a || decide ((0 : Int32) = 2)) (b || decide ((0 : Int32) = 3)) (c || decide ((0 : Int32) = 4)) (d || decide ((0 : Int32) = 7)) = tdB a b c d ||| 0 := by decide
theorem nu0_ok {e : Nat} {v : Option Value} {i m : Int32} {fr : Nat} (ht : gNth sT t = some 28) (hP : PRE B n t M s ls 0 m fr) (hi : i.toInt = (ls.length : Int)) (H : Ev none e 35 0 [some (.ref 3), some (.int i), some (.int 0), none, none, none] [] M v M' 0 0) : FA (fLq t) (wLn t) M M' ∧ NUr B n t M' v s ls 0 m fr := by
  obtain ⟨hC, hL, hE, hF, hl16⟩ := hP
  have hb := tx_ge ht
  obtain ⟨c1, c2, c3, c4, c5, c6, c7⟩ := hC.2.2.1.at
  have h8 := hC.2.2.2.2.2.1
  subst h8
  have hix : i.toNatClampNeg = ls.length := cl_n hi
  have hmo : mostS 0 = 999 := by decide
  rcases nb0_0 hC.1 ht H with ⟨g1, g2, -, e1, v1, M1, rfl, H1, H⟩ | ⟨g1, g2, -, -, e1, v1, M1, rfl, H1, H⟩ | ⟨g1, e1, v1, M1, rfl, H1, H⟩
  · rw [c5] at g1
    rw [c4 g1] at g2
    obtain ⟨f1, f2⟩ := hC.err (v := v) (M' := M') H1 (fun y hy S => by subst hy; exact nb0_71 S (by rw [(hC.fail H1).1.fr (by simp [fP])]; exact ht) H)
    exact ⟨f1.ln, Or.inr (Or.inl ⟨g1, Or.inl (by rw [hmo]; exact g2), f2⟩)⟩
  · rw [c5] at g1
    rw [c4 g1] at g2 H1 H
    rw [hix] at H1
    have hrd : zI M 3 10 = tdS ls := hF.2.2.2.2
    rw [hrd] at H1
    have F1 : FA [(3, 10)] [fR M 3 8 + 3] M (wF (wI M (fR M 3 8 + 3) ls.length (hdT s.1).2.2.2) 3 10 (tdS ls ||| 0)) := (FA.wI (by simp)).trans (FA.wF (by simp))
    have S3 : SQ (wF (wI M (fR M 3 8 + 3) ls.length (hdT s.1).2.2.2) 3 10 (tdS ls ||| 0)) := hC.1.ki.kf
    have L3 : LCt (wF (wI M (fR M 3 8 + 3) ls.length (hdT s.1).2.2.2) 3 10 (tdS ls ||| 0)) (fR M 3 8) ls := hL.ui.uf (by decide)
    have hlen : ls.length < (zrw M (fR M 3 8 + 3)).length := by rw [(hC.1.1.row (fx_g2 ht) qw_31).2]; exact hl16
    have E3 : ENq (wF (wI M (fR M 3 8 + 3) ls.length (hdT s.1).2.2.2) 3 10 (tdS ls ||| 0)) (fR M 3 8) ls.length 0 m (hdT s.1).2.2.2 fr := ⟨by rw [rN_wF, rN_wI_ne (fun q => by omega)]; exact hE.1, by rw [rN_wF, rN_wI_ne (fun q => by omega)]; exact hE.2.1, by rw [rN_wF, rN_wI_eq hlen], by rw [rN_wF, rN_wI_ne (fun q => by omega)]; exact hE.2.2.2⟩
    have Q3 : FTq (wF (wI M (fR M 3 8 + 3) ls.length (hdT s.1).2.2.2) 3 10 (tdS ls ||| 0)) (fR M 3 8) (ls ++ [(0, m, (hdT s.1).2.2.2, fr, 0)]) := ⟨by rw [fI_wF_ne (fun q => by omega), fI_wI, tv_app2 (by exact (by decide : (0 : Int32) ≠ 2))]; exact hF.1, by rw [fI_wF_ne (fun q => by omega), fI_wI, tv_app2 (by exact (by decide : (0 : Int32) ≠ 3))]; exact hF.2.1, by rw [fI_wF_ne (fun q => by omega), fI_wI, tv_app2 (by exact (by decide : (0 : Int32) ≠ 4))]; exact hF.2.2.1, by rw [fI_wF_ne (fun q => by omega), fI_wI, tv_app2 (by exact (by decide : (0 : Int32) ≠ 7))]; exact hF.2.2.2.1, by rw [fI_wF_eq hC.1.ki.1 qa_3 qi_3_10, tdS_app]; exact (tdk0 _ _ _ _).symm⟩
    have C3 : CSt B n (fR M 3 8) (wF (wI M (fR M 3 8 + 3) ls.length (hdT s.1).2.2.2) 3 10 (tdS ls ||| 0)) s := hC.frm S3 F1 (fun q hq r => by
      simp only [List.mem_cons, List.not_mem_nil, or_false] at hq r
      rcases hq with rfl | rfl | rfl | rfl | rfl | rfl | rfl <;> simp only [Prod.mk.injEq] at r <;> omega) (fun b hb r => by
      simp only [List.mem_cons, List.not_mem_nil, or_false] at hb r
      omega)
    obtain ⟨rfl, F4, C4⟩ := C3.go ht (by rw [g1]; decide) (by rw [g1]; decide) H1
    obtain ⟨r1, rfl⟩ := nb0_217 C4.1 (by rw [F4.fr (by simp [fP]), F1.fr (by simp)]; exact ht) H
    obtain ⟨p1, p2, p3, p4⟩ := fP_no hb.1
    refine ⟨(F1.more (fun q hq => ?_) (fun q hq => ?_)).trans F4.ln, Or.inr (Or.inr ⟨g1, ?_, r1, C4, L3.frm F4 p2 p3, E3.frm F4 p4, Q3.frm F4 p1⟩)⟩
    · simp only [fLq, List.mem_cons, List.not_mem_nil, or_false] at hq ⊢
      simp [hq]
    · simp only [wLn, List.mem_cons, List.not_mem_nil, or_false] at hq ⊢
      simp [hq]
    · rw [hmo]
      rintro (q | q)
      · exact g2 q
      · exact absurd q.1 (by decide)
  · rw [c5] at g1
    obtain ⟨f1, f2⟩ := hC.err (v := v) (M' := M') H1 (fun y hy S => by subst hy; exact nb0_13 S (by rw [(hC.fail H1).1.fr (by simp [fP])]; exact ht) H)
    exact ⟨f1.ln, Or.inl ⟨g1, f2⟩⟩
theorem tdk1 : ∀ a b c d : Bool, tdB (a || decide ((1 : Int32) = 2)) (b || decide ((1 : Int32) = 3)) (c || decide ((1 : Int32) = 4)) (d || decide ((1 : Int32) = 7)) = tdB a b c d ||| 0 := by decide
theorem nu1_ok {e : Nat} {v : Option Value} {i m : Int32} {fr : Nat} (ht : gNth sT t = some 28) (hP : PRE B n t M s ls 1 m fr) (hi : i.toInt = (ls.length : Int)) (H : Ev none e 35 0 [some (.ref 3), some (.int i), some (.int 1), none, none, none] [] M v M' 0 0) : FA (fLq t) (wLn t) M M' ∧ NUr B n t M' v s ls 1 m fr := by
  obtain ⟨hC, hL, hE, hF, hl16⟩ := hP
  have hb := tx_ge ht
  obtain ⟨c1, c2, c3, c4, c5, c6, c7⟩ := hC.2.2.1.at
  have h8 := hC.2.2.2.2.2.1
  subst h8
  have hix : i.toNatClampNeg = ls.length := cl_n hi
  have hmo : mostS 1 = 999 := by decide
  rcases nb1_0 hC.1 ht H with ⟨g1, g2, -, e1, v1, M1, rfl, H1, H⟩ | ⟨g1, g2, -, -, e1, v1, M1, rfl, H1, H⟩ | ⟨g1, e1, v1, M1, rfl, H1, H⟩
  · rw [c5] at g1
    rw [c4 g1] at g2
    obtain ⟨f1, f2⟩ := hC.err (v := v) (M' := M') H1 (fun y hy S => by subst hy; exact nb1_71 S (by rw [(hC.fail H1).1.fr (by simp [fP])]; exact ht) H)
    exact ⟨f1.ln, Or.inr (Or.inl ⟨g1, Or.inl (by rw [hmo]; exact g2), f2⟩)⟩
  · rw [c5] at g1
    rw [c4 g1] at g2 H1 H
    rw [hix] at H1
    have hrd : zI M 3 10 = tdS ls := hF.2.2.2.2
    rw [hrd] at H1
    have F1 : FA [(3, 10)] [fR M 3 8 + 3] M (wF (wI M (fR M 3 8 + 3) ls.length (hdT s.1).2.2.2) 3 10 (tdS ls ||| 0)) := (FA.wI (by simp)).trans (FA.wF (by simp))
    have S3 : SQ (wF (wI M (fR M 3 8 + 3) ls.length (hdT s.1).2.2.2) 3 10 (tdS ls ||| 0)) := hC.1.ki.kf
    have L3 : LCt (wF (wI M (fR M 3 8 + 3) ls.length (hdT s.1).2.2.2) 3 10 (tdS ls ||| 0)) (fR M 3 8) ls := hL.ui.uf (by decide)
    have hlen : ls.length < (zrw M (fR M 3 8 + 3)).length := by rw [(hC.1.1.row (fx_g2 ht) qw_31).2]; exact hl16
    have E3 : ENq (wF (wI M (fR M 3 8 + 3) ls.length (hdT s.1).2.2.2) 3 10 (tdS ls ||| 0)) (fR M 3 8) ls.length 1 m (hdT s.1).2.2.2 fr := ⟨by rw [rN_wF, rN_wI_ne (fun q => by omega)]; exact hE.1, by rw [rN_wF, rN_wI_ne (fun q => by omega)]; exact hE.2.1, by rw [rN_wF, rN_wI_eq hlen], by rw [rN_wF, rN_wI_ne (fun q => by omega)]; exact hE.2.2.2⟩
    have Q3 : FTq (wF (wI M (fR M 3 8 + 3) ls.length (hdT s.1).2.2.2) 3 10 (tdS ls ||| 0)) (fR M 3 8) (ls ++ [(1, m, (hdT s.1).2.2.2, fr, 0)]) := ⟨by rw [fI_wF_ne (fun q => by omega), fI_wI, tv_app2 (by exact (by decide : (1 : Int32) ≠ 2))]; exact hF.1, by rw [fI_wF_ne (fun q => by omega), fI_wI, tv_app2 (by exact (by decide : (1 : Int32) ≠ 3))]; exact hF.2.1, by rw [fI_wF_ne (fun q => by omega), fI_wI, tv_app2 (by exact (by decide : (1 : Int32) ≠ 4))]; exact hF.2.2.1, by rw [fI_wF_ne (fun q => by omega), fI_wI, tv_app2 (by exact (by decide : (1 : Int32) ≠ 7))]; exact hF.2.2.2.1, by rw [fI_wF_eq hC.1.ki.1 qa_3 qi_3_10, tdS_app]; exact (tdk1 _ _ _ _).symm⟩
    have C3 : CSt B n (fR M 3 8) (wF (wI M (fR M 3 8 + 3) ls.length (hdT s.1).2.2.2) 3 10 (tdS ls ||| 0)) s := hC.frm S3 F1 (fun q hq r => by
      simp only [List.mem_cons, List.not_mem_nil, or_false] at hq r
      rcases hq with rfl | rfl | rfl | rfl | rfl | rfl | rfl <;> simp only [Prod.mk.injEq] at r <;> omega) (fun b hb r => by
      simp only [List.mem_cons, List.not_mem_nil, or_false] at hb r
      omega)
    obtain ⟨rfl, F4, C4⟩ := C3.go ht (by rw [g1]; decide) (by rw [g1]; decide) H1
    obtain ⟨r1, rfl⟩ := nb1_217 C4.1 (by rw [F4.fr (by simp [fP]), F1.fr (by simp)]; exact ht) H
    obtain ⟨p1, p2, p3, p4⟩ := fP_no hb.1
    refine ⟨(F1.more (fun q hq => ?_) (fun q hq => ?_)).trans F4.ln, Or.inr (Or.inr ⟨g1, ?_, r1, C4, L3.frm F4 p2 p3, E3.frm F4 p4, Q3.frm F4 p1⟩)⟩
    · simp only [fLq, List.mem_cons, List.not_mem_nil, or_false] at hq ⊢
      simp [hq]
    · simp only [wLn, List.mem_cons, List.not_mem_nil, or_false] at hq ⊢
      simp [hq]
    · rw [hmo]
      rintro (q | q)
      · exact g2 q
      · exact absurd q.1 (by decide)
  · rw [c5] at g1
    obtain ⟨f1, f2⟩ := hC.err (v := v) (M' := M') H1 (fun y hy S => by subst hy; exact nb1_13 S (by rw [(hC.fail H1).1.fr (by simp [fP])]; exact ht) H)
    exact ⟨f1.ln, Or.inl ⟨g1, f2⟩⟩
theorem tdk2 : ∀ a b c d : Bool, tdB (a || decide ((2 : Int32) = 2)) (b || decide ((2 : Int32) = 3)) (c || decide ((2 : Int32) = 4)) (d || decide ((2 : Int32) = 7)) = tdB a b c d ||| ((1 : Int32) <<< ((2 : Int32) &&& 31)) := by decide
theorem nu2_ok {e : Nat} {v : Option Value} {i m : Int32} {fr : Nat} (ht : gNth sT t = some 28) (hP : PRE B n t M s ls 2 m fr) (hi : i.toInt = (ls.length : Int)) (hk : hasK ls 2 = false) (H : Ev none e 35 0 [some (.ref 3), some (.int i), some (.int 2), none, none, none] [] M v M' 0 0) : FA (fLq t) (wLn t) M M' ∧ NUr B n t M' v s ls 2 m fr := by
  obtain ⟨hC, hL, hE, hF, hl16⟩ := hP
  have hb := tx_ge ht
  obtain ⟨c1, c2, c3, c4, c5, c6, c7⟩ := hC.2.2.1.at
  have h8 := hC.2.2.2.2.2.1
  subst h8
  have hix : i.toNatClampNeg = ls.length := cl_n hi
  have hmo : mostS 2 = 999 := by decide
  rcases nb2_0 hC.1 ht H with ⟨g1, g2, -, e1, v1, M1, rfl, H1, H⟩ | ⟨g1, g2, g3, -, -, e1, v1, M1, rfl, H1, H⟩ | ⟨g1, g2, g3, -, e1, v1, M1, rfl, H1, H⟩ | ⟨g1, e1, v1, M1, rfl, H1, H⟩
  · rw [c5] at g1
    rw [c4 g1] at g2
    obtain ⟨f1, f2⟩ := hC.err (v := v) (M' := M') H1 (fun y hy S => by subst hy; exact nb2_71 S (by rw [(hC.fail H1).1.fr (by simp [fP])]; exact ht) H)
    exact ⟨f1.ln, Or.inr (Or.inl ⟨g1, Or.inl (by rw [hmo]; exact g2), f2⟩)⟩
  · rw [c5] at g1
    rw [c4 g1] at g2 g3 H1 H
    rw [hix] at H1
    have hrd : zI (wF (wI M (fR M 3 8 + 3) ls.length (hdT s.1).2.2.2) (fR M 3 8) 10 (hdT s.1).2.2.2) 3 10 = tdS ls := by
      rw [fI_wF_ne (fun q => by omega), fI_wI]
      exact hF.2.2.2.2
    rw [hrd] at H1
    have F1 : FA [(fR M 3 8, 10), (3, 10)] [fR M 3 8 + 3] M (wF (wF (wI M (fR M 3 8 + 3) ls.length (hdT s.1).2.2.2) (fR M 3 8) 10 (hdT s.1).2.2.2) 3 10 (tdS ls ||| ((1 : Int32) <<< ((2 : Int32) &&& 31)))) := ((FA.wI (by simp)).trans (FA.wF (by simp))).trans (FA.wF (by simp))
    have S3 : SQ (wF (wF (wI M (fR M 3 8 + 3) ls.length (hdT s.1).2.2.2) (fR M 3 8) 10 (hdT s.1).2.2.2) 3 10 (tdS ls ||| ((1 : Int32) <<< ((2 : Int32) &&& 31)))) := hC.1.ki.kf.kf
    have L3 : LCt (wF (wF (wI M (fR M 3 8 + 3) ls.length (hdT s.1).2.2.2) (fR M 3 8) 10 (hdT s.1).2.2.2) 3 10 (tdS ls ||| ((1 : Int32) <<< ((2 : Int32) &&& 31)))) (fR M 3 8) ls := (hL.ui.uf (by decide)).uf (by decide)
    have hlen : ls.length < (zrw M (fR M 3 8 + 3)).length := by rw [(hC.1.1.row (fx_g2 ht) qw_31).2]; exact hl16
    have E3 : ENq (wF (wF (wI M (fR M 3 8 + 3) ls.length (hdT s.1).2.2.2) (fR M 3 8) 10 (hdT s.1).2.2.2) 3 10 (tdS ls ||| ((1 : Int32) <<< ((2 : Int32) &&& 31)))) (fR M 3 8) ls.length 2 m (hdT s.1).2.2.2 fr := ⟨by rw [rN_wF, rN_wF, rN_wI_ne (fun q => by omega)]; exact hE.1, by rw [rN_wF, rN_wF, rN_wI_ne (fun q => by omega)]; exact hE.2.1, by rw [rN_wF, rN_wF, rN_wI_eq hlen], by rw [rN_wF, rN_wF, rN_wI_ne (fun q => by omega)]; exact hE.2.2.2⟩
    have Q3 : FTq (wF (wF (wI M (fR M 3 8 + 3) ls.length (hdT s.1).2.2.2) (fR M 3 8) 10 (hdT s.1).2.2.2) 3 10 (tdS ls ||| ((1 : Int32) <<< ((2 : Int32) &&& 31)))) (fR M 3 8) (ls ++ [(2, m, (hdT s.1).2.2.2, fr, 0)]) := ⟨by rw [fI_wF_ne (fun q => by omega), fI_wF_eq hC.1.ki.1 ht qi_28_10, tv_app hk]; rfl, by rw [fI_wF_ne (fun q => by omega), fI_wF_ne (fun q => by omega), fI_wI, tv_app2 (by exact (by decide : (2 : Int32) ≠ 3))]; exact hF.2.1, by rw [fI_wF_ne (fun q => by omega), fI_wF_ne (fun q => by omega), fI_wI, tv_app2 (by exact (by decide : (2 : Int32) ≠ 4))]; exact hF.2.2.1, by rw [fI_wF_ne (fun q => by omega), fI_wF_ne (fun q => by omega), fI_wI, tv_app2 (by exact (by decide : (2 : Int32) ≠ 7))]; exact hF.2.2.2.1, by rw [fI_wF_eq hC.1.ki.kf.1 qa_3 qi_3_10, tdS_app]; exact (tdk2 _ _ _ _).symm⟩
    have C3 : CSt B n (fR M 3 8) (wF (wF (wI M (fR M 3 8 + 3) ls.length (hdT s.1).2.2.2) (fR M 3 8) 10 (hdT s.1).2.2.2) 3 10 (tdS ls ||| ((1 : Int32) <<< ((2 : Int32) &&& 31)))) s := hC.frm S3 F1 (fun q hq r => by
      simp only [List.mem_cons, List.not_mem_nil, or_false] at hq r
      rcases hq with rfl | rfl | rfl | rfl | rfl | rfl | rfl <;> simp only [Prod.mk.injEq] at r <;> omega) (fun b hb r => by
      simp only [List.mem_cons, List.not_mem_nil, or_false] at hb r
      omega)
    obtain ⟨rfl, F4, C4⟩ := C3.go ht (by rw [g1]; decide) (by rw [g1]; decide) H1
    obtain ⟨r1, rfl⟩ := nb2_217 C4.1 (by rw [F4.fr (by simp [fP]), F1.fr (by simp)]; exact ht) H
    obtain ⟨p1, p2, p3, p4⟩ := fP_no hb.1
    refine ⟨(F1.more (fun q hq => ?_) (fun q hq => ?_)).trans F4.ln, Or.inr (Or.inr ⟨g1, ?_, r1, C4, L3.frm F4 p2 p3, E3.frm F4 p4, Q3.frm F4 p1⟩)⟩
    · simp only [fLq, List.mem_cons, List.not_mem_nil, or_false] at hq ⊢
      rcases hq with h | h <;> simp [h]
    · simp only [wLn, List.mem_cons, List.not_mem_nil, or_false] at hq ⊢
      simp [hq]
    · rw [hmo]
      rintro (q | q)
      · exact g2 q
      · have q2 := q.2
        rw [Int32.lt_iff_toInt_lt] at q2
        rw [Int32.le_iff_toInt_le] at g3
        omega
  · rw [c5] at g1
    rw [c4 g1] at g2 g3
    obtain ⟨f1, f2⟩ := hC.err (v := v) (M' := M') H1 (fun y hy S => by subst hy; exact nb2_71 S (by rw [(hC.fail H1).1.fr (by simp [fP])]; exact ht) H)
    exact ⟨f1.ln, Or.inr (Or.inl ⟨g1, Or.inr ⟨rfl, by rw [Int32.lt_iff_toInt_lt]; rw [Int32.le_iff_toInt_le] at g3; omega⟩, f2⟩)⟩
  · rw [c5] at g1
    obtain ⟨f1, f2⟩ := hC.err (v := v) (M' := M') H1 (fun y hy S => by subst hy; exact nb2_13 S (by rw [(hC.fail H1).1.fr (by simp [fP])]; exact ht) H)
    exact ⟨f1.ln, Or.inl ⟨g1, f2⟩⟩
theorem tdk3 : ∀ a b c d : Bool, tdB (a || decide ((3 : Int32) = 2)) (b || decide ((3 : Int32) = 3)) (c || decide ((3 : Int32) = 4)) (d || decide ((3 : Int32) = 7)) = tdB a b c d ||| ((1 : Int32) <<< ((3 : Int32) &&& 31)) := by decide
theorem nu3_ok {e : Nat} {v : Option Value} {i m : Int32} {fr : Nat} (ht : gNth sT t = some 28) (hP : PRE B n t M s ls 3 m fr) (hi : i.toInt = (ls.length : Int)) (hk : hasK ls 3 = false) (H : Ev none e 35 0 [some (.ref 3), some (.int i), some (.int 3), none, none, none] [] M v M' 0 0) : FA (fLq t) (wLn t) M M' ∧ NUr B n t M' v s ls 3 m fr := by
  obtain ⟨hC, hL, hE, hF, hl16⟩ := hP
  have hb := tx_ge ht
  obtain ⟨c1, c2, c3, c4, c5, c6, c7⟩ := hC.2.2.1.at
  have h8 := hC.2.2.2.2.2.1
  subst h8
  have hix : i.toNatClampNeg = ls.length := cl_n hi
  have hmo : mostS 3 = 999 := by decide
  rcases nb3_0 hC.1 ht H with ⟨g1, g2, -, e1, v1, M1, rfl, H1, H⟩ | ⟨g1, g2, -, -, e1, v1, M1, rfl, H1, H⟩ | ⟨g1, e1, v1, M1, rfl, H1, H⟩
  · rw [c5] at g1
    rw [c4 g1] at g2
    obtain ⟨f1, f2⟩ := hC.err (v := v) (M' := M') H1 (fun y hy S => by subst hy; exact nb3_71 S (by rw [(hC.fail H1).1.fr (by simp [fP])]; exact ht) H)
    exact ⟨f1.ln, Or.inr (Or.inl ⟨g1, Or.inl (by rw [hmo]; exact g2), f2⟩)⟩
  · rw [c5] at g1
    rw [c4 g1] at g2 H1 H
    rw [hix] at H1
    have hrd : zI M 3 10 = tdS ls := by
      exact hF.2.2.2.2
    rw [hrd] at H1
    have F1 : FA [(fR M 3 8, 11), (3, 10)] [fR M 3 8 + 3] M (wF (wF (wI M (fR M 3 8 + 3) ls.length (hdT s.1).2.2.2) (fR M 3 8) 11 (hdT s.1).2.2.2) 3 10 (tdS ls ||| ((1 : Int32) <<< ((3 : Int32) &&& 31)))) := ((FA.wI (by simp)).trans (FA.wF (by simp))).trans (FA.wF (by simp))
    have S3 : SQ (wF (wF (wI M (fR M 3 8 + 3) ls.length (hdT s.1).2.2.2) (fR M 3 8) 11 (hdT s.1).2.2.2) 3 10 (tdS ls ||| ((1 : Int32) <<< ((3 : Int32) &&& 31)))) := hC.1.ki.kf.kf
    have L3 : LCt (wF (wF (wI M (fR M 3 8 + 3) ls.length (hdT s.1).2.2.2) (fR M 3 8) 11 (hdT s.1).2.2.2) 3 10 (tdS ls ||| ((1 : Int32) <<< ((3 : Int32) &&& 31)))) (fR M 3 8) ls := (hL.ui.uf (by decide)).uf (by decide)
    have hlen : ls.length < (zrw M (fR M 3 8 + 3)).length := by rw [(hC.1.1.row (fx_g2 ht) qw_31).2]; exact hl16
    have E3 : ENq (wF (wF (wI M (fR M 3 8 + 3) ls.length (hdT s.1).2.2.2) (fR M 3 8) 11 (hdT s.1).2.2.2) 3 10 (tdS ls ||| ((1 : Int32) <<< ((3 : Int32) &&& 31)))) (fR M 3 8) ls.length 3 m (hdT s.1).2.2.2 fr := ⟨by rw [rN_wF, rN_wF, rN_wI_ne (fun q => by omega)]; exact hE.1, by rw [rN_wF, rN_wF, rN_wI_ne (fun q => by omega)]; exact hE.2.1, by rw [rN_wF, rN_wF, rN_wI_eq hlen], by rw [rN_wF, rN_wF, rN_wI_ne (fun q => by omega)]; exact hE.2.2.2⟩
    have Q3 : FTq (wF (wF (wI M (fR M 3 8 + 3) ls.length (hdT s.1).2.2.2) (fR M 3 8) 11 (hdT s.1).2.2.2) 3 10 (tdS ls ||| ((1 : Int32) <<< ((3 : Int32) &&& 31)))) (fR M 3 8) (ls ++ [(3, m, (hdT s.1).2.2.2, fr, 0)]) := ⟨by rw [fI_wF_ne (fun q => by omega), fI_wF_ne (fun q => by omega), fI_wI, tv_app2 (by exact (by decide : (3 : Int32) ≠ 2))]; exact hF.1, by rw [fI_wF_ne (fun q => by omega), fI_wF_eq hC.1.ki.1 ht qi_28_11, tv_app hk]; rfl, by rw [fI_wF_ne (fun q => by omega), fI_wF_ne (fun q => by omega), fI_wI, tv_app2 (by exact (by decide : (3 : Int32) ≠ 4))]; exact hF.2.2.1, by rw [fI_wF_ne (fun q => by omega), fI_wF_ne (fun q => by omega), fI_wI, tv_app2 (by exact (by decide : (3 : Int32) ≠ 7))]; exact hF.2.2.2.1, by rw [fI_wF_eq hC.1.ki.kf.1 qa_3 qi_3_10, tdS_app]; exact (tdk3 _ _ _ _).symm⟩
    have C3 : CSt B n (fR M 3 8) (wF (wF (wI M (fR M 3 8 + 3) ls.length (hdT s.1).2.2.2) (fR M 3 8) 11 (hdT s.1).2.2.2) 3 10 (tdS ls ||| ((1 : Int32) <<< ((3 : Int32) &&& 31)))) s := hC.frm S3 F1 (fun q hq r => by
      simp only [List.mem_cons, List.not_mem_nil, or_false] at hq r
      rcases hq with rfl | rfl | rfl | rfl | rfl | rfl | rfl <;> simp only [Prod.mk.injEq] at r <;> omega) (fun b hb r => by
      simp only [List.mem_cons, List.not_mem_nil, or_false] at hb r
      omega)
    obtain ⟨rfl, F4, C4⟩ := C3.go ht (by rw [g1]; decide) (by rw [g1]; decide) H1
    obtain ⟨r1, rfl⟩ := nb3_217 C4.1 (by rw [F4.fr (by simp [fP]), F1.fr (by simp)]; exact ht) H
    obtain ⟨p1, p2, p3, p4⟩ := fP_no hb.1
    refine ⟨(F1.more (fun q hq => ?_) (fun q hq => ?_)).trans F4.ln, Or.inr (Or.inr ⟨g1, ?_, r1, C4, L3.frm F4 p2 p3, E3.frm F4 p4, Q3.frm F4 p1⟩)⟩
    · simp only [fLq, List.mem_cons, List.not_mem_nil, or_false] at hq ⊢
      rcases hq with h | h <;> simp [h]
    · simp only [wLn, List.mem_cons, List.not_mem_nil, or_false] at hq ⊢
      simp [hq]
    · rw [hmo]
      rintro (q | q)
      · exact g2 q
      · exact absurd q.1 (by decide)
  · rw [c5] at g1
    obtain ⟨f1, f2⟩ := hC.err (v := v) (M' := M') H1 (fun y hy S => by subst hy; exact nb3_13 S (by rw [(hC.fail H1).1.fr (by simp [fP])]; exact ht) H)
    exact ⟨f1.ln, Or.inl ⟨g1, f2⟩⟩
theorem tdk4 : ∀ a b c d : Bool, tdB (a || decide ((4 : Int32) = 2)) (b || decide ((4 : Int32) = 3)) (c || decide ((4 : Int32) = 4)) (d || decide ((4 : Int32) = 7)) = tdB a b c d ||| ((1 : Int32) <<< ((4 : Int32) &&& 31)) := by decide
theorem nu4_ok {e : Nat} {v : Option Value} {i m : Int32} {fr : Nat} (ht : gNth sT t = some 28) (hP : PRE B n t M s ls 4 m fr) (hi : i.toInt = (ls.length : Int)) (hk : hasK ls 4 = false) (H : Ev none e 35 0 [some (.ref 3), some (.int i), some (.int 4), none, none, none] [] M v M' 0 0) : FA (fLq t) (wLn t) M M' ∧ NUr B n t M' v s ls 4 m fr := by
  obtain ⟨hC, hL, hE, hF, hl16⟩ := hP
  have hb := tx_ge ht
  obtain ⟨c1, c2, c3, c4, c5, c6, c7⟩ := hC.2.2.1.at
  have h8 := hC.2.2.2.2.2.1
  subst h8
  have hix : i.toNatClampNeg = ls.length := cl_n hi
  have hmo : mostS 4 = 999 := by decide
  rcases nb4_0 hC.1 ht H with ⟨g1, g2, -, e1, v1, M1, rfl, H1, H⟩ | ⟨g1, g2, -, -, e1, v1, M1, rfl, H1, H⟩ | ⟨g1, e1, v1, M1, rfl, H1, H⟩
  · rw [c5] at g1
    rw [c4 g1] at g2
    obtain ⟨f1, f2⟩ := hC.err (v := v) (M' := M') H1 (fun y hy S => by subst hy; exact nb4_71 S (by rw [(hC.fail H1).1.fr (by simp [fP])]; exact ht) H)
    exact ⟨f1.ln, Or.inr (Or.inl ⟨g1, Or.inl (by rw [hmo]; exact g2), f2⟩)⟩
  · rw [c5] at g1
    rw [c4 g1] at g2 H1 H
    rw [hix] at H1
    have hrd : zI M 3 10 = tdS ls := by
      exact hF.2.2.2.2
    rw [hrd] at H1
    have F1 : FA [(fR M 3 8, 12), (3, 10)] [fR M 3 8 + 3] M (wF (wF (wI M (fR M 3 8 + 3) ls.length (hdT s.1).2.2.2) (fR M 3 8) 12 (hdT s.1).2.2.2) 3 10 (tdS ls ||| ((1 : Int32) <<< ((4 : Int32) &&& 31)))) := ((FA.wI (by simp)).trans (FA.wF (by simp))).trans (FA.wF (by simp))
    have S3 : SQ (wF (wF (wI M (fR M 3 8 + 3) ls.length (hdT s.1).2.2.2) (fR M 3 8) 12 (hdT s.1).2.2.2) 3 10 (tdS ls ||| ((1 : Int32) <<< ((4 : Int32) &&& 31)))) := hC.1.ki.kf.kf
    have L3 : LCt (wF (wF (wI M (fR M 3 8 + 3) ls.length (hdT s.1).2.2.2) (fR M 3 8) 12 (hdT s.1).2.2.2) 3 10 (tdS ls ||| ((1 : Int32) <<< ((4 : Int32) &&& 31)))) (fR M 3 8) ls := (hL.ui.uf (by decide)).uf (by decide)
    have hlen : ls.length < (zrw M (fR M 3 8 + 3)).length := by rw [(hC.1.1.row (fx_g2 ht) qw_31).2]; exact hl16
    have E3 : ENq (wF (wF (wI M (fR M 3 8 + 3) ls.length (hdT s.1).2.2.2) (fR M 3 8) 12 (hdT s.1).2.2.2) 3 10 (tdS ls ||| ((1 : Int32) <<< ((4 : Int32) &&& 31)))) (fR M 3 8) ls.length 4 m (hdT s.1).2.2.2 fr := ⟨by rw [rN_wF, rN_wF, rN_wI_ne (fun q => by omega)]; exact hE.1, by rw [rN_wF, rN_wF, rN_wI_ne (fun q => by omega)]; exact hE.2.1, by rw [rN_wF, rN_wF, rN_wI_eq hlen], by rw [rN_wF, rN_wF, rN_wI_ne (fun q => by omega)]; exact hE.2.2.2⟩
    have Q3 : FTq (wF (wF (wI M (fR M 3 8 + 3) ls.length (hdT s.1).2.2.2) (fR M 3 8) 12 (hdT s.1).2.2.2) 3 10 (tdS ls ||| ((1 : Int32) <<< ((4 : Int32) &&& 31)))) (fR M 3 8) (ls ++ [(4, m, (hdT s.1).2.2.2, fr, 0)]) := ⟨by rw [fI_wF_ne (fun q => by omega), fI_wF_ne (fun q => by omega), fI_wI, tv_app2 (by exact (by decide : (4 : Int32) ≠ 2))]; exact hF.1, by rw [fI_wF_ne (fun q => by omega), fI_wF_ne (fun q => by omega), fI_wI, tv_app2 (by exact (by decide : (4 : Int32) ≠ 3))]; exact hF.2.1, by rw [fI_wF_ne (fun q => by omega), fI_wF_eq hC.1.ki.1 ht qi_28_12, tv_app hk]; rfl, by rw [fI_wF_ne (fun q => by omega), fI_wF_ne (fun q => by omega), fI_wI, tv_app2 (by exact (by decide : (4 : Int32) ≠ 7))]; exact hF.2.2.2.1, by rw [fI_wF_eq hC.1.ki.kf.1 qa_3 qi_3_10, tdS_app]; exact (tdk4 _ _ _ _).symm⟩
    have C3 : CSt B n (fR M 3 8) (wF (wF (wI M (fR M 3 8 + 3) ls.length (hdT s.1).2.2.2) (fR M 3 8) 12 (hdT s.1).2.2.2) 3 10 (tdS ls ||| ((1 : Int32) <<< ((4 : Int32) &&& 31)))) s := hC.frm S3 F1 (fun q hq r => by
      simp only [List.mem_cons, List.not_mem_nil, or_false] at hq r
      rcases hq with rfl | rfl | rfl | rfl | rfl | rfl | rfl <;> simp only [Prod.mk.injEq] at r <;> omega) (fun b hb r => by
      simp only [List.mem_cons, List.not_mem_nil, or_false] at hb r
      omega)
    obtain ⟨rfl, F4, C4⟩ := C3.go ht (by rw [g1]; decide) (by rw [g1]; decide) H1
    obtain ⟨r1, rfl⟩ := nb4_217 C4.1 (by rw [F4.fr (by simp [fP]), F1.fr (by simp)]; exact ht) H
    obtain ⟨p1, p2, p3, p4⟩ := fP_no hb.1
    refine ⟨(F1.more (fun q hq => ?_) (fun q hq => ?_)).trans F4.ln, Or.inr (Or.inr ⟨g1, ?_, r1, C4, L3.frm F4 p2 p3, E3.frm F4 p4, Q3.frm F4 p1⟩)⟩
    · simp only [fLq, List.mem_cons, List.not_mem_nil, or_false] at hq ⊢
      rcases hq with h | h <;> simp [h]
    · simp only [wLn, List.mem_cons, List.not_mem_nil, or_false] at hq ⊢
      simp [hq]
    · rw [hmo]
      rintro (q | q)
      · exact g2 q
      · exact absurd q.1 (by decide)
  · rw [c5] at g1
    obtain ⟨f1, f2⟩ := hC.err (v := v) (M' := M') H1 (fun y hy S => by subst hy; exact nb4_13 S (by rw [(hC.fail H1).1.fr (by simp [fP])]; exact ht) H)
    exact ⟨f1.ln, Or.inl ⟨g1, f2⟩⟩
theorem tdk5 : ∀ a b c d : Bool, tdB (a || decide ((5 : Int32) = 2)) (b || decide ((5 : Int32) = 3)) (c || decide ((5 : Int32) = 4)) (d || decide ((5 : Int32) = 7)) = tdB a b c d ||| 0 := by decide
theorem nu5_ok {e : Nat} {v : Option Value} {i m : Int32} {fr : Nat} (ht : gNth sT t = some 28) (hP : PRE B n t M s ls 5 m fr) (hi : i.toInt = (ls.length : Int)) (H : Ev none e 35 0 [some (.ref 3), some (.int i), some (.int 5), none, none, none] [] M v M' 0 0) : FA (fLq t) (wLn t) M M' ∧ NUr B n t M' v s ls 5 m fr := by
  obtain ⟨hC, hL, hE, hF, hl16⟩ := hP
  have hb := tx_ge ht
  obtain ⟨c1, c2, c3, c4, c5, c6, c7⟩ := hC.2.2.1.at
  have h8 := hC.2.2.2.2.2.1
  subst h8
  have hix : i.toNatClampNeg = ls.length := cl_n hi
  have hmo : mostS 5 = 99 := by decide
  rcases nb5_0 hC.1 ht H with ⟨g1, g2, -, e1, v1, M1, rfl, H1, H⟩ | ⟨g1, g2, -, -, e1, v1, M1, rfl, H1, H⟩ | ⟨g1, e1, v1, M1, rfl, H1, H⟩
  · rw [c5] at g1
    rw [c4 g1] at g2
    obtain ⟨f1, f2⟩ := hC.err (v := v) (M' := M') H1 (fun y hy S => by subst hy; exact nb5_71 S (by rw [(hC.fail H1).1.fr (by simp [fP])]; exact ht) H)
    exact ⟨f1.ln, Or.inr (Or.inl ⟨g1, Or.inl (by rw [hmo]; exact g2), f2⟩)⟩
  · rw [c5] at g1
    rw [c4 g1] at g2 H1 H
    rw [hix] at H1
    have hrd : zI M 3 10 = tdS ls := hF.2.2.2.2
    rw [hrd] at H1
    have F1 : FA [(3, 10)] [fR M 3 8 + 3] M (wF (wI M (fR M 3 8 + 3) ls.length (hdT s.1).2.2.2) 3 10 (tdS ls ||| 0)) := (FA.wI (by simp)).trans (FA.wF (by simp))
    have S3 : SQ (wF (wI M (fR M 3 8 + 3) ls.length (hdT s.1).2.2.2) 3 10 (tdS ls ||| 0)) := hC.1.ki.kf
    have L3 : LCt (wF (wI M (fR M 3 8 + 3) ls.length (hdT s.1).2.2.2) 3 10 (tdS ls ||| 0)) (fR M 3 8) ls := hL.ui.uf (by decide)
    have hlen : ls.length < (zrw M (fR M 3 8 + 3)).length := by rw [(hC.1.1.row (fx_g2 ht) qw_31).2]; exact hl16
    have E3 : ENq (wF (wI M (fR M 3 8 + 3) ls.length (hdT s.1).2.2.2) 3 10 (tdS ls ||| 0)) (fR M 3 8) ls.length 5 m (hdT s.1).2.2.2 fr := ⟨by rw [rN_wF, rN_wI_ne (fun q => by omega)]; exact hE.1, by rw [rN_wF, rN_wI_ne (fun q => by omega)]; exact hE.2.1, by rw [rN_wF, rN_wI_eq hlen], by rw [rN_wF, rN_wI_ne (fun q => by omega)]; exact hE.2.2.2⟩
    have Q3 : FTq (wF (wI M (fR M 3 8 + 3) ls.length (hdT s.1).2.2.2) 3 10 (tdS ls ||| 0)) (fR M 3 8) (ls ++ [(5, m, (hdT s.1).2.2.2, fr, 0)]) := ⟨by rw [fI_wF_ne (fun q => by omega), fI_wI, tv_app2 (by exact (by decide : (5 : Int32) ≠ 2))]; exact hF.1, by rw [fI_wF_ne (fun q => by omega), fI_wI, tv_app2 (by exact (by decide : (5 : Int32) ≠ 3))]; exact hF.2.1, by rw [fI_wF_ne (fun q => by omega), fI_wI, tv_app2 (by exact (by decide : (5 : Int32) ≠ 4))]; exact hF.2.2.1, by rw [fI_wF_ne (fun q => by omega), fI_wI, tv_app2 (by exact (by decide : (5 : Int32) ≠ 7))]; exact hF.2.2.2.1, by rw [fI_wF_eq hC.1.ki.1 qa_3 qi_3_10, tdS_app]; exact (tdk5 _ _ _ _).symm⟩
    have C3 : CSt B n (fR M 3 8) (wF (wI M (fR M 3 8 + 3) ls.length (hdT s.1).2.2.2) 3 10 (tdS ls ||| 0)) s := hC.frm S3 F1 (fun q hq r => by
      simp only [List.mem_cons, List.not_mem_nil, or_false] at hq r
      rcases hq with rfl | rfl | rfl | rfl | rfl | rfl | rfl <;> simp only [Prod.mk.injEq] at r <;> omega) (fun b hb r => by
      simp only [List.mem_cons, List.not_mem_nil, or_false] at hb r
      omega)
    obtain ⟨rfl, F4, C4⟩ := C3.go ht (by rw [g1]; decide) (by rw [g1]; decide) H1
    obtain ⟨r1, rfl⟩ := nb5_217 C4.1 (by rw [F4.fr (by simp [fP]), F1.fr (by simp)]; exact ht) H
    obtain ⟨p1, p2, p3, p4⟩ := fP_no hb.1
    refine ⟨(F1.more (fun q hq => ?_) (fun q hq => ?_)).trans F4.ln, Or.inr (Or.inr ⟨g1, ?_, r1, C4, L3.frm F4 p2 p3, E3.frm F4 p4, Q3.frm F4 p1⟩)⟩
    · simp only [fLq, List.mem_cons, List.not_mem_nil, or_false] at hq ⊢
      simp [hq]
    · simp only [wLn, List.mem_cons, List.not_mem_nil, or_false] at hq ⊢
      simp [hq]
    · rw [hmo]
      rintro (q | q)
      · exact g2 q
      · exact absurd q.1 (by decide)
  · rw [c5] at g1
    obtain ⟨f1, f2⟩ := hC.err (v := v) (M' := M') H1 (fun y hy S => by subst hy; exact nb5_13 S (by rw [(hC.fail H1).1.fr (by simp [fP])]; exact ht) H)
    exact ⟨f1.ln, Or.inl ⟨g1, f2⟩⟩
theorem tdk7 : ∀ a b c d : Bool, tdB (a || decide ((7 : Int32) = 2)) (b || decide ((7 : Int32) = 3)) (c || decide ((7 : Int32) = 4)) (d || decide ((7 : Int32) = 7)) = tdB a b c d ||| ((1 : Int32) <<< ((7 : Int32) &&& 31)) := by decide
theorem nu7_ok {e : Nat} {v : Option Value} {i m : Int32} {fr : Nat} (ht : gNth sT t = some 28) (hP : PRE B n t M s ls 7 m fr) (hi : i.toInt = (ls.length : Int)) (hk : hasK ls 7 = false) (H : Ev none e 35 0 [some (.ref 3), some (.int i), some (.int 7), none, none, none] [] M v M' 0 0) : FA (fLq t) (wLn t) M M' ∧ NUr B n t M' v s ls 7 m fr := by
  obtain ⟨hC, hL, hE, hF, hl16⟩ := hP
  have hb := tx_ge ht
  obtain ⟨c1, c2, c3, c4, c5, c6, c7⟩ := hC.2.2.1.at
  have h8 := hC.2.2.2.2.2.1
  subst h8
  have hix : i.toNatClampNeg = ls.length := cl_n hi
  have hmo : mostS 7 = 9 := by decide
  rcases nb7_0 hC.1 ht H with ⟨g1, g2, -, e1, v1, M1, rfl, H1, H⟩ | ⟨g1, g2, -, -, e1, v1, M1, rfl, H1, H⟩ | ⟨g1, e1, v1, M1, rfl, H1, H⟩
  · rw [c5] at g1
    rw [c4 g1] at g2
    obtain ⟨f1, f2⟩ := hC.err (v := v) (M' := M') H1 (fun y hy S => by subst hy; exact nb7_71 S (by rw [(hC.fail H1).1.fr (by simp [fP])]; exact ht) H)
    exact ⟨f1.ln, Or.inr (Or.inl ⟨g1, Or.inl (by rw [hmo]; exact g2), f2⟩)⟩
  · rw [c5] at g1
    rw [c4 g1] at g2 H1 H
    rw [hix] at H1
    have hrd : zI M 3 10 = tdS ls := by
      exact hF.2.2.2.2
    rw [hrd] at H1
    have F1 : FA [(fR M 3 8, 13), (3, 10)] [fR M 3 8 + 3] M (wF (wF (wI M (fR M 3 8 + 3) ls.length (hdT s.1).2.2.2) (fR M 3 8) 13 (hdT s.1).2.2.2) 3 10 (tdS ls ||| ((1 : Int32) <<< ((7 : Int32) &&& 31)))) := ((FA.wI (by simp)).trans (FA.wF (by simp))).trans (FA.wF (by simp))
    have S3 : SQ (wF (wF (wI M (fR M 3 8 + 3) ls.length (hdT s.1).2.2.2) (fR M 3 8) 13 (hdT s.1).2.2.2) 3 10 (tdS ls ||| ((1 : Int32) <<< ((7 : Int32) &&& 31)))) := hC.1.ki.kf.kf
    have L3 : LCt (wF (wF (wI M (fR M 3 8 + 3) ls.length (hdT s.1).2.2.2) (fR M 3 8) 13 (hdT s.1).2.2.2) 3 10 (tdS ls ||| ((1 : Int32) <<< ((7 : Int32) &&& 31)))) (fR M 3 8) ls := (hL.ui.uf (by decide)).uf (by decide)
    have hlen : ls.length < (zrw M (fR M 3 8 + 3)).length := by rw [(hC.1.1.row (fx_g2 ht) qw_31).2]; exact hl16
    have E3 : ENq (wF (wF (wI M (fR M 3 8 + 3) ls.length (hdT s.1).2.2.2) (fR M 3 8) 13 (hdT s.1).2.2.2) 3 10 (tdS ls ||| ((1 : Int32) <<< ((7 : Int32) &&& 31)))) (fR M 3 8) ls.length 7 m (hdT s.1).2.2.2 fr := ⟨by rw [rN_wF, rN_wF, rN_wI_ne (fun q => by omega)]; exact hE.1, by rw [rN_wF, rN_wF, rN_wI_ne (fun q => by omega)]; exact hE.2.1, by rw [rN_wF, rN_wF, rN_wI_eq hlen], by rw [rN_wF, rN_wF, rN_wI_ne (fun q => by omega)]; exact hE.2.2.2⟩
    have Q3 : FTq (wF (wF (wI M (fR M 3 8 + 3) ls.length (hdT s.1).2.2.2) (fR M 3 8) 13 (hdT s.1).2.2.2) 3 10 (tdS ls ||| ((1 : Int32) <<< ((7 : Int32) &&& 31)))) (fR M 3 8) (ls ++ [(7, m, (hdT s.1).2.2.2, fr, 0)]) := ⟨by rw [fI_wF_ne (fun q => by omega), fI_wF_ne (fun q => by omega), fI_wI, tv_app2 (by exact (by decide : (7 : Int32) ≠ 2))]; exact hF.1, by rw [fI_wF_ne (fun q => by omega), fI_wF_ne (fun q => by omega), fI_wI, tv_app2 (by exact (by decide : (7 : Int32) ≠ 3))]; exact hF.2.1, by rw [fI_wF_ne (fun q => by omega), fI_wF_ne (fun q => by omega), fI_wI, tv_app2 (by exact (by decide : (7 : Int32) ≠ 4))]; exact hF.2.2.1, by rw [fI_wF_ne (fun q => by omega), fI_wF_eq hC.1.ki.1 ht qi_28_13, tv_app hk]; rfl, by rw [fI_wF_eq hC.1.ki.kf.1 qa_3 qi_3_10, tdS_app]; exact (tdk7 _ _ _ _).symm⟩
    have C3 : CSt B n (fR M 3 8) (wF (wF (wI M (fR M 3 8 + 3) ls.length (hdT s.1).2.2.2) (fR M 3 8) 13 (hdT s.1).2.2.2) 3 10 (tdS ls ||| ((1 : Int32) <<< ((7 : Int32) &&& 31)))) s := hC.frm S3 F1 (fun q hq r => by
      simp only [List.mem_cons, List.not_mem_nil, or_false] at hq r
      rcases hq with rfl | rfl | rfl | rfl | rfl | rfl | rfl <;> simp only [Prod.mk.injEq] at r <;> omega) (fun b hb r => by
      simp only [List.mem_cons, List.not_mem_nil, or_false] at hb r
      omega)
    obtain ⟨rfl, F4, C4⟩ := C3.go ht (by rw [g1]; decide) (by rw [g1]; decide) H1
    obtain ⟨r1, rfl⟩ := nb7_217 C4.1 (by rw [F4.fr (by simp [fP]), F1.fr (by simp)]; exact ht) H
    obtain ⟨p1, p2, p3, p4⟩ := fP_no hb.1
    refine ⟨(F1.more (fun q hq => ?_) (fun q hq => ?_)).trans F4.ln, Or.inr (Or.inr ⟨g1, ?_, r1, C4, L3.frm F4 p2 p3, E3.frm F4 p4, Q3.frm F4 p1⟩)⟩
    · simp only [fLq, List.mem_cons, List.not_mem_nil, or_false] at hq ⊢
      rcases hq with h | h <;> simp [h]
    · simp only [wLn, List.mem_cons, List.not_mem_nil, or_false] at hq ⊢
      simp [hq]
    · rw [hmo]
      rintro (q | q)
      · exact g2 q
      · exact absurd q.1 (by decide)
  · rw [c5] at g1
    obtain ⟨f1, f2⟩ := hC.err (v := v) (M' := M') H1 (fun y hy S => by subst hy; exact nb7_13 S (by rw [(hC.fail H1).1.fr (by simp [fP])]; exact ht) H)
    exact ⟨f1.ln, Or.inl ⟨g1, f2⟩⟩
theorem tdk6 : ∀ a b c d : Bool, tdB (a || decide ((6 : Int32) = 2)) (b || decide ((6 : Int32) = 3)) (c || decide ((6 : Int32) = 4)) (d || decide ((6 : Int32) = 7)) = tdB a b c d ||| 0 := by decide
end NUM
/-! THE CLASS'S LINES (made by glin2.py) -/
def LNr (B : Nat → Int32) (n t : Nat) (M' : Mem) (v : Option Value) (r : PLn) : Prop := match r with
  | .inr f => ERt M' v f
  | .inl q => v = some (.int 1) ∧ CL B n t M' q.1 q.2
section LIN
variable {n t : Nat} {B : Nat → Int32} {M M' : Mem} {s : Sg} {ls : List Lnq}
theorem tv_to {x m nu k d : Int32} {fr a b : Nat} : tvS (ls ++ [(x, m, nu, fr, a)]) k d = tvS (ls ++ [(x, m, nu, fr, b)]) k d := by
  unfold tvS
  rw [List.find?_append, List.find?_append]
  cases List.find? (fun l => decide (l.1 = k)) ls with
  | some l => rfl
  | none =>
    by_cases h : x = k
    · rw [List.find?_cons_of_pos (by exact decide_eq_true h), List.find?_cons_of_pos (by exact decide_eq_true h)]
      rfl
    · rw [List.find?_cons_of_neg (by exact fun q => absurd (of_decide_eq_true q) h), List.find?_cons_of_neg (by exact fun q => absurd (of_decide_eq_true q) h)]
theorem FTq.to {x m nu : Int32} {fr a b : Nat} (h : FTq M t (ls ++ [(x, m, nu, fr, a)])) : FTq M t (ls ++ [(x, m, nu, fr, b)]) := by
  obtain ⟨h1, h2, h3, h4, h5⟩ := h
  exact ⟨h1.trans tv_to, h2.trans tv_to, h3.trans tv_to, h4.trans tv_to, by rw [h5, tdS_app, tdS_app]⟩
theorem LCt.add {l : Lnq} {to : Int32} {tn : Nat} (hS : SQ M) (ht : gNth sT t = some 28) (h : LCt M t ls) (hE : ENq M t ls.length l.1 l.2.1 l.2.2.1 l.2.2.2.1) (h16 : ls.length < 16) (hto : to.toInt = (tn : Int)) : LCt (wF (wI M (t + 5) ls.length to) t 8 (zI M t 8 + 1)) t (ls ++ [(l.1, l.2.1, l.2.2.1, l.2.2.2.1, tn)]) := by
  have hu := h.ui (a := t + 5) (x := to)
  refine ⟨?_, by rw [List.length_append]; exact h16, fun j l2 hj => ?_⟩
  · rw [fI_wF_eq hS.ki.1 ht qi_28_8, i32_p1 (by have := h.1; omega), h.1, List.length_append]
    rfl
  · rw [rN_wF, rN_wF, rN_wF, rN_wF, rN_wF]
    by_cases hj2 : j = ls.length
    · subst hj2
      rw [List.getElem?_append_right (Nat.le_refl _), Nat.sub_self] at hj
      cases hj
      rw [rN_wI_ne (fun q => by omega), rN_wI_ne (fun q => by omega), rN_wI_ne (fun q => by omega), rN_wI_ne (fun q => by omega), rN_wI_eq (by rw [(hS.1.row (fx_g4 ht) qw_33).2]; exact h16)]
      exact ⟨hE.1, hE.2.1, hE.2.2.1, hE.2.2.2, hto⟩
    · have hlt : j < ls.length := by
        have h1 := (List.getElem?_eq_some_iff.mp hj).1
        rw [List.length_append] at h1
        have h1 : j < ls.length + 1 := h1
        omega
      rw [List.getElem?_append_left hlt] at hj
      exact hu.2.2 j l2 hj
theorem MID.h16 {l : Lnq} (h : MID B n t M s ls l) (hl : ls.length < 16) : ls.length < 16 := hl
theorem fin_ok {x m nu : Int32} {fr : Nat} {i : Int32} {v : Option Value} (ht : gNth sT t = some 28) (h : MID B n t M s ls (x, m, nu, fr, 0)) (hl : ls.length < 16) (hi : i.toInt = (ls.length : Int)) (h1 : v = some (.int 1)) (h2 : M' = wF (wI M (fR M 3 8 + 5) i.toNatClampNeg (zI M (fR M 3 8) 9)) (fR M 3 8) 8 (zI M (fR M 3 8) 8 + 1)) : FA (fLq t) (wLn t) M M' ∧ LNr B n t M' v (.inl (s, ls ++ [(x, m, nu, fr, s.2.2.length)])) := by
  obtain ⟨hC, hL, hE, hF⟩ := h
  have hb := tx_ge ht
  have h8 := hC.2.2.2.2.2.1
  have hcs := hC.2.2.2.2.2.2.1.1
  subst h8
  have hix : i.toNatClampNeg = ls.length := cl_n hi
  rw [hix] at h2
  have hL2 := hL.add hC.1 ht hE hl hcs
  subst h2
  have F1 : FA [(fR M 3 8, 8)] [fR M 3 8 + 5] M (wF (wI M (fR M 3 8 + 5) ls.length (zI M (fR M 3 8) 9)) (fR M 3 8) 8 (zI M (fR M 3 8) 8 + 1)) := (FA.wI (by simp)).trans (FA.wF (by simp))
  refine ⟨F1.more (fun q hq => ?_) (fun q hq => ?_), h1, hC.frm hC.1.ki.kf F1 (fun q hq r => ?_) (fun b hb r => ?_), hL2, (hF.frm F1 (fun q hq r => ?_)).to⟩
  · simp only [fLq, List.mem_cons, List.not_mem_nil, or_false] at hq ⊢
    simp [hq]
  · simp only [wLn, List.mem_cons, List.not_mem_nil, or_false] at hq ⊢
    simp [hq]
  · simp only [List.mem_cons, List.not_mem_nil, or_false] at hq r
    rcases hq with rfl | rfl | rfl | rfl | rfl | rfl | rfl <;> simp only [Prod.mk.injEq] at r <;> omega
  · simp only [List.mem_cons, List.not_mem_nil, or_false] at hb r
    omega
  · simp only [List.mem_cons, List.not_mem_nil, or_false] at hq r
    rcases hq with rfl | rfl | rfl | rfl | rfl <;> simp only [Prod.mk.injEq] at r <;> omega
theorem MID.go {l : Lnq} {e : Nat} {v : Option Value} (ht : gNth sT t = some 28) (h : MID B n t M s ls l) (h0 : (hdT s.1).1 ≠ 0) (h1 : (hdT s.1).1 ≠ 1) (H : Ev none e 31 0 [some (.ref 3)] [] M v M' 0 0) : v = none ∧ FA (fLq t) (wLn t) M M' ∧ MID B n t M' (s.1.tail, s.2.1, s.2.2) ls l := by
  obtain ⟨hC, hL, hE, hF⟩ := h
  have hb := tx_ge ht
  obtain ⟨p1, p2, p3, p4⟩ := fP_no hb.1
  obtain ⟨g1, g2, g3⟩ := hC.go ht h0 h1 H
  exact ⟨g1, g2.ln, g3, hL.frm g2 p2 p3, hE.frm g2 p4, hF.frm g2 p1⟩
theorem MID.con {l : Lnq} {e : Nat} {v : Option Value} (ht : gNth sT t = some 28) (hn2 : n ≤ 440) (h : MID B n t M s ls l) (H : Ev none e 36 0 [some (.ref 3), some (.int 1), none] [] M v M' 0 0) : FA (fLq t) (wLn t) M M' ∧ (match (prS B e).1 1 s with
  | .inr f => ERt M' v f
  | .inl s2 => v = some (.int 1) ∧ MID B n t M' s2 ls l) := by
  obtain ⟨hC, hL, hE, hF⟩ := h
  have hb := tx_ge ht
  obtain ⟨p1, p2, p3, p4⟩ := fP_no hb.1
  obtain ⟨F1, R1⟩ := (cc_main ht hn2 e).1 1 1 s M M' v rfl (by omega) hC H
  refine ⟨F1.ln, ?_⟩
  cases hr : (prS B e).1 1 s with
  | inr f =>
    rw [hr] at R1
    exact RS_err R1
  | inl s2 =>
    rw [hr] at R1
    obtain ⟨r1, r2⟩ := RS_ok R1
    exact ⟨r1, r2, hL.frm F1 p2 p3, hE.frm F1 p4, hF.frm F1 p1⟩
/-- a measure and a number -/
theorem wg_ok {e : Nat} {v : Option Value} {i : Int32} {fr : Nat} (ht : gNth sT t = some 28) (hn2 : n ≤ 440) (hP : PRE B n t M s ls 5 0 fr) (hi : i.toInt = (ls.length : Int)) (H : Ev none e 34 0 [some (.ref 3), some (.int i), none] [] M v M' 0 0) : FA (fLq t) (wLn t) M M' ∧ ((ixF (wdS B (hdT s.1)) meaW 0 < 0 ∧ ERt M' v (1, (hdT s.1).2.1)) ∨ (¬ ixF (wdS B (hdT s.1)) meaW 0 < 0 ∧ NUr B n t M' v (s.1.tail, s.2.1, s.2.2) ls 5 (ixF (wdS B (hdT s.1)) meaW 0) fr)) := by
  obtain ⟨hC, hL, hE, hF, hl16⟩ := hP
  have hb := tx_ge ht
  have h8 := hC.2.2.2.2.2.1
  subst h8
  obtain ⟨e1, v1, M1, rfl, H1, H⟩ := wg_0 hC.1 ht H
  obtain ⟨rfl, rfl⟩ := amq_all (ws := meaW) hC.1 hn2 hC.2.2.1 rfl (by decide) (List.cons_ne_nil _ _) (by decide) (by decide) H1
  rw [hC.wd] at H
  generalize ha : ixF (wdS B (hdT s.1)) meaW 0 = a at H ⊢
  have hneg : a < 0 ↔ ¬ 0 ≤ a := by rw [Int32.lt_iff_toInt_lt, Int32.le_iff_toInt_le]; omega
  have hix : i.toNatClampNeg = ls.length := cl_n hi
  rcases wg_6 hC.1 ht H with ⟨g1, -, e2, v2, M2, he, H2, H⟩ | ⟨g1, e2, v2, M2, he, H2, H⟩
  · rw [hix] at H2
    have hty : (hdT s.1).1 = 2 := by
      rcases ixF_bd (w := wdS B (hdT s.1)) meaW 0 (by decide) (by decide) with q | ⟨_, _, q3⟩
      · rw [ha] at q
        rw [q] at g1
        exact absurd g1 (by decide)
      · exact wd_ne (B := B) (u := wdS B (hdT s.1)) rfl (fun x => by rw [x] at q3; revert q3; decide)
    have F1 : FA [] [fR M1 3 8 + 2] M1 (wI M1 (fR M1 3 8 + 2) ls.length a) := FA.wI (by simp)
    have hlen : ls.length < (zrw M1 (fR M1 3 8 + 2)).length := by rw [(hC.1.1.row (fx_g1 ht) qw_30).2]; exact hl16
    have E3 : ENq (wI M1 (fR M1 3 8 + 2) ls.length a) (fR M1 3 8) ls.length 5 a 0 fr := ⟨by rw [rN_wI_ne (fun q => by omega)]; exact hE.1, by rw [rN_wI_eq hlen], by rw [rN_wI_ne (fun q => by omega)]; exact hE.2.2.1, by rw [rN_wI_ne (fun q => by omega)]; exact hE.2.2.2⟩
    have C3 : CSt B n (fR M1 3 8) (wI M1 (fR M1 3 8 + 2) ls.length a) s := hC.frm hC.1.ki F1 (fun q _ r => by cases r) (fun b hb r => by
      simp only [List.mem_cons, List.not_mem_nil, or_false] at hb r
      omega)
    obtain ⟨p1, p2, p3, p4⟩ := fP_no hb.1
    obtain ⟨rfl, F4, C4⟩ := C3.go ht (by rw [hty]; decide) (by rw [hty]; decide) H2
    have P4 : PRE B n (fR M1 3 8) M2 (s.1.tail, s.2.1, s.2.2) ls 5 a fr := ⟨C4, (hL.ui (a := fR M1 3 8 + 2) (x := a)).frm F4 p2 p3, E3.frm F4 p4, (hF.frm F1 (fun q _ r => by cases r)).frm F4 p1, hl16⟩
    have hr4 : fR M2 3 8 = fR M1 3 8 := by rw [F4.fr (by simp [fP]), F1.fr (by simp)]
    obtain ⟨e3, v3, M3, he, H3, H⟩ := wg_31 C4.1 (by rw [hr4]; exact ht) H
    obtain ⟨F5, R5⟩ := nu5_ok ht P4 hi H3
    have FX : FA (fLq (fR M1 3 8)) (wLn (fR M1 3 8)) M1 M3 := ((F1.more (fun q hq => by cases hq) (fun q hq => by
      simp only [wLn, List.mem_cons, List.not_mem_nil, or_false] at hq ⊢
      simp [hq])).trans F4.ln).trans F5
    have hr5 : fR M3 3 8 = fR M1 3 8 := FX.fr (by simp [fLq]; omega)
    rcases R5 with ⟨q1, q2⟩ | ⟨q1, q2, q3⟩ | ⟨q1, q2, rfl, q4⟩
    · obtain ⟨rfl, S9, r9⟩ := q2
      obtain ⟨r1, rfl⟩ := wg_37 S9 (by rw [hr5]; exact ht) H
      exact ⟨FX, Or.inr ⟨fun x => (hneg.mp x) g1, Or.inl ⟨q1, r1, S9, r9⟩⟩⟩
    · obtain ⟨rfl, S9, r9⟩ := q3
      obtain ⟨r1, rfl⟩ := wg_37 S9 (by rw [hr5]; exact ht) H
      exact ⟨FX, Or.inr ⟨fun x => (hneg.mp x) g1, Or.inr (Or.inl ⟨q1, q2, r1, S9, r9⟩)⟩⟩
    · obtain ⟨r1, rfl⟩ := wg_37 q4.1.1 (by rw [hr5]; exact ht) H
      exact ⟨FX, Or.inr ⟨fun x => (hneg.mp x) g1, Or.inr (Or.inr ⟨q1, q2, r1, q4⟩)⟩⟩
  · obtain ⟨f1, f2⟩ := hC.err (v := v) (M' := M') H2 (fun y hy S => by subst hy; exact wg_16 S (by rw [(hC.fail H2).1.fr (by simp [fP])]; exact ht) H)
    exact ⟨f1.ln, Or.inl ⟨hneg.mpr g1, f2⟩⟩
theorem en0_ok {e : Nat} {v : Option Value} {a i m nu : Int32} {fr : Nat} {c5 c6 : Option Value} (ht : gNth sT t = some 28) (h : MID B n t M s ls (0, m, nu, fr, 0)) (hl : ls.length < 16) (hi : i.toInt = (ls.length : Int)) (H : (zI M 3 7 = 59 ∧ ∃ e1 v1 M1, e = e1 + 1 ∧ Ev none e1 31 0 [some (.ref 3)] [] M v1 M1 0 0 ∧ Ev none e 33 283 [some (.ref 3), some (.int a), some (.int 0), some (.int i), some (.int 1), c5, c6] (v1.toList ++ []) M1 v M' 0 0) ∨ (¬ (zI M 3 7 = 59) ∧ ∃ e1 v1 M1, e = e1 + 1 ∧ Ev none e1 27 0 [some (.ref 3), some (.int 1)] [] M v1 M1 0 0 ∧ Ev none e 33 278 [some (.ref 3), some (.int a), some (.int 0), some (.int i), some (.int 1), c5, c6] (v1.toList ++ []) M1 v M' 0 0)) : FA (fLq t) (wLn t) M M' ∧ LNr B n t M' v (endB s ls 0 m nu fr) := by
  have c5' := h.1.2.2.1.at.2.2.2.2.1
  have h8 := h.1.2.2.2.2.2.1
  unfold endB
  rcases H with ⟨g1, e1, v1, M1, rfl, H1, H⟩ | ⟨g1, e1, v1, M1, rfl, H1, H⟩
  · rw [c5'] at g1
    rw [if_neg (fun q => q g1)]
    obtain ⟨rfl, F1, Q1⟩ := h.go ht (by rw [g1]; decide) (by rw [g1]; decide) H1
    have h9 : fR M1 3 8 = t := Q1.1.2.2.2.2.2.1
    obtain ⟨-, r1, r2⟩ := ln0_283 Q1.1.1 (by rw [h9]; exact ht) H
    obtain ⟨F2, R2⟩ := fin_ok ht Q1 hl hi r1 r2
    exact ⟨F1.trans F2, R2⟩
  · rw [c5'] at g1
    rw [if_pos g1]
    obtain ⟨f1, f2⟩ := h.1.err (v := v) (M' := M') H1 (fun y hy S => by subst hy; exact ln0_278 S (by rw [(h.1.fail H1).1.fr (by simp [fP]), h8]; exact ht) H)
    exact ⟨f1.ln, f2⟩
theorem en1_ok {e : Nat} {v : Option Value} {a i m nu : Int32} {fr : Nat} {c5 c6 : Option Value} (ht : gNth sT t = some 28) (h : MID B n t M s ls (1, m, nu, fr, 0)) (hl : ls.length < 16) (hi : i.toInt = (ls.length : Int)) (H : (zI M 3 7 = 59 ∧ ∃ e1 v1 M1, e = e1 + 1 ∧ Ev none e1 31 0 [some (.ref 3)] [] M v1 M1 0 0 ∧ Ev none e 33 283 [some (.ref 3), some (.int a), some (.int 1), some (.int i), some (.int 1), c5, c6] (v1.toList ++ []) M1 v M' 0 0) ∨ (¬ (zI M 3 7 = 59) ∧ ∃ e1 v1 M1, e = e1 + 1 ∧ Ev none e1 27 0 [some (.ref 3), some (.int 1)] [] M v1 M1 0 0 ∧ Ev none e 33 278 [some (.ref 3), some (.int a), some (.int 1), some (.int i), some (.int 1), c5, c6] (v1.toList ++ []) M1 v M' 0 0)) : FA (fLq t) (wLn t) M M' ∧ LNr B n t M' v (endB s ls 1 m nu fr) := by
  have c5' := h.1.2.2.1.at.2.2.2.2.1
  have h8 := h.1.2.2.2.2.2.1
  unfold endB
  rcases H with ⟨g1, e1, v1, M1, rfl, H1, H⟩ | ⟨g1, e1, v1, M1, rfl, H1, H⟩
  · rw [c5'] at g1
    rw [if_neg (fun q => q g1)]
    obtain ⟨rfl, F1, Q1⟩ := h.go ht (by rw [g1]; decide) (by rw [g1]; decide) H1
    have h9 : fR M1 3 8 = t := Q1.1.2.2.2.2.2.1
    obtain ⟨-, r1, r2⟩ := ln1_283 Q1.1.1 (by rw [h9]; exact ht) H
    obtain ⟨F2, R2⟩ := fin_ok ht Q1 hl hi r1 r2
    exact ⟨F1.trans F2, R2⟩
  · rw [c5'] at g1
    rw [if_pos g1]
    obtain ⟨f1, f2⟩ := h.1.err (v := v) (M' := M') H1 (fun y hy S => by subst hy; exact ln1_278 S (by rw [(h.1.fail H1).1.fr (by simp [fP]), h8]; exact ht) H)
    exact ⟨f1.ln, f2⟩
theorem en2_ok {e : Nat} {v : Option Value} {a i m nu : Int32} {fr : Nat} {c5 c6 : Option Value} (ht : gNth sT t = some 28) (h : MID B n t M s ls (2, m, nu, fr, 0)) (hl : ls.length < 16) (hi : i.toInt = (ls.length : Int)) (H : (zI M 3 7 = 59 ∧ ∃ e1 v1 M1, e = e1 + 1 ∧ Ev none e1 31 0 [some (.ref 3)] [] M v1 M1 0 0 ∧ Ev none e 33 283 [some (.ref 3), some (.int a), some (.int 2), some (.int i), some (.int 1), c5, c6] (v1.toList ++ []) M1 v M' 0 0) ∨ (¬ (zI M 3 7 = 59) ∧ ∃ e1 v1 M1, e = e1 + 1 ∧ Ev none e1 27 0 [some (.ref 3), some (.int 1)] [] M v1 M1 0 0 ∧ Ev none e 33 278 [some (.ref 3), some (.int a), some (.int 2), some (.int i), some (.int 1), c5, c6] (v1.toList ++ []) M1 v M' 0 0)) : FA (fLq t) (wLn t) M M' ∧ LNr B n t M' v (endB s ls 2 m nu fr) := by
  have c5' := h.1.2.2.1.at.2.2.2.2.1
  have h8 := h.1.2.2.2.2.2.1
  unfold endB
  rcases H with ⟨g1, e1, v1, M1, rfl, H1, H⟩ | ⟨g1, e1, v1, M1, rfl, H1, H⟩
  · rw [c5'] at g1
    rw [if_neg (fun q => q g1)]
    obtain ⟨rfl, F1, Q1⟩ := h.go ht (by rw [g1]; decide) (by rw [g1]; decide) H1
    have h9 : fR M1 3 8 = t := Q1.1.2.2.2.2.2.1
    obtain ⟨-, r1, r2⟩ := ln2_283 Q1.1.1 (by rw [h9]; exact ht) H
    obtain ⟨F2, R2⟩ := fin_ok ht Q1 hl hi r1 r2
    exact ⟨F1.trans F2, R2⟩
  · rw [c5'] at g1
    rw [if_pos g1]
    obtain ⟨f1, f2⟩ := h.1.err (v := v) (M' := M') H1 (fun y hy S => by subst hy; exact ln2_278 S (by rw [(h.1.fail H1).1.fr (by simp [fP]), h8]; exact ht) H)
    exact ⟨f1.ln, f2⟩
theorem en3_ok {e : Nat} {v : Option Value} {a i m nu : Int32} {fr : Nat} {c5 c6 : Option Value} (ht : gNth sT t = some 28) (h : MID B n t M s ls (3, m, nu, fr, 0)) (hl : ls.length < 16) (hi : i.toInt = (ls.length : Int)) (H : (zI M 3 7 = 59 ∧ ∃ e1 v1 M1, e = e1 + 1 ∧ Ev none e1 31 0 [some (.ref 3)] [] M v1 M1 0 0 ∧ Ev none e 33 283 [some (.ref 3), some (.int a), some (.int 3), some (.int i), some (.int 1), c5, c6] (v1.toList ++ []) M1 v M' 0 0) ∨ (¬ (zI M 3 7 = 59) ∧ ∃ e1 v1 M1, e = e1 + 1 ∧ Ev none e1 27 0 [some (.ref 3), some (.int 1)] [] M v1 M1 0 0 ∧ Ev none e 33 278 [some (.ref 3), some (.int a), some (.int 3), some (.int i), some (.int 1), c5, c6] (v1.toList ++ []) M1 v M' 0 0)) : FA (fLq t) (wLn t) M M' ∧ LNr B n t M' v (endB s ls 3 m nu fr) := by
  have c5' := h.1.2.2.1.at.2.2.2.2.1
  have h8 := h.1.2.2.2.2.2.1
  unfold endB
  rcases H with ⟨g1, e1, v1, M1, rfl, H1, H⟩ | ⟨g1, e1, v1, M1, rfl, H1, H⟩
  · rw [c5'] at g1
    rw [if_neg (fun q => q g1)]
    obtain ⟨rfl, F1, Q1⟩ := h.go ht (by rw [g1]; decide) (by rw [g1]; decide) H1
    have h9 : fR M1 3 8 = t := Q1.1.2.2.2.2.2.1
    obtain ⟨-, r1, r2⟩ := ln3_283 Q1.1.1 (by rw [h9]; exact ht) H
    obtain ⟨F2, R2⟩ := fin_ok ht Q1 hl hi r1 r2
    exact ⟨F1.trans F2, R2⟩
  · rw [c5'] at g1
    rw [if_pos g1]
    obtain ⟨f1, f2⟩ := h.1.err (v := v) (M' := M') H1 (fun y hy S => by subst hy; exact ln3_278 S (by rw [(h.1.fail H1).1.fr (by simp [fP]), h8]; exact ht) H)
    exact ⟨f1.ln, f2⟩
theorem en4_ok {e : Nat} {v : Option Value} {a i m nu : Int32} {fr : Nat} {c5 c6 : Option Value} (ht : gNth sT t = some 28) (h : MID B n t M s ls (4, m, nu, fr, 0)) (hl : ls.length < 16) (hi : i.toInt = (ls.length : Int)) (H : (zI M 3 7 = 59 ∧ ∃ e1 v1 M1, e = e1 + 1 ∧ Ev none e1 31 0 [some (.ref 3)] [] M v1 M1 0 0 ∧ Ev none e 33 283 [some (.ref 3), some (.int a), some (.int 4), some (.int i), some (.int 1), c5, c6] (v1.toList ++ []) M1 v M' 0 0) ∨ (¬ (zI M 3 7 = 59) ∧ ∃ e1 v1 M1, e = e1 + 1 ∧ Ev none e1 27 0 [some (.ref 3), some (.int 1)] [] M v1 M1 0 0 ∧ Ev none e 33 278 [some (.ref 3), some (.int a), some (.int 4), some (.int i), some (.int 1), c5, c6] (v1.toList ++ []) M1 v M' 0 0)) : FA (fLq t) (wLn t) M M' ∧ LNr B n t M' v (endB s ls 4 m nu fr) := by
  have c5' := h.1.2.2.1.at.2.2.2.2.1
  have h8 := h.1.2.2.2.2.2.1
  unfold endB
  rcases H with ⟨g1, e1, v1, M1, rfl, H1, H⟩ | ⟨g1, e1, v1, M1, rfl, H1, H⟩
  · rw [c5'] at g1
    rw [if_neg (fun q => q g1)]
    obtain ⟨rfl, F1, Q1⟩ := h.go ht (by rw [g1]; decide) (by rw [g1]; decide) H1
    have h9 : fR M1 3 8 = t := Q1.1.2.2.2.2.2.1
    obtain ⟨-, r1, r2⟩ := ln4_283 Q1.1.1 (by rw [h9]; exact ht) H
    obtain ⟨F2, R2⟩ := fin_ok ht Q1 hl hi r1 r2
    exact ⟨F1.trans F2, R2⟩
  · rw [c5'] at g1
    rw [if_pos g1]
    obtain ⟨f1, f2⟩ := h.1.err (v := v) (M' := M') H1 (fun y hy S => by subst hy; exact ln4_278 S (by rw [(h.1.fail H1).1.fr (by simp [fP]), h8]; exact ht) H)
    exact ⟨f1.ln, f2⟩
theorem en5_ok {e : Nat} {v : Option Value} {a i m nu : Int32} {fr : Nat} {c5 c6 : Option Value} (ht : gNth sT t = some 28) (h : MID B n t M s ls (5, m, nu, fr, 0)) (hl : ls.length < 16) (hi : i.toInt = (ls.length : Int)) (H : (zI M 3 7 = 59 ∧ ∃ e1 v1 M1, e = e1 + 1 ∧ Ev none e1 31 0 [some (.ref 3)] [] M v1 M1 0 0 ∧ Ev none e 33 283 [some (.ref 3), some (.int a), some (.int 5), some (.int i), some (.int 1), c5, c6] (v1.toList ++ []) M1 v M' 0 0) ∨ (¬ (zI M 3 7 = 59) ∧ ∃ e1 v1 M1, e = e1 + 1 ∧ Ev none e1 27 0 [some (.ref 3), some (.int 1)] [] M v1 M1 0 0 ∧ Ev none e 33 278 [some (.ref 3), some (.int a), some (.int 5), some (.int i), some (.int 1), c5, c6] (v1.toList ++ []) M1 v M' 0 0)) : FA (fLq t) (wLn t) M M' ∧ LNr B n t M' v (endB s ls 5 m nu fr) := by
  have c5' := h.1.2.2.1.at.2.2.2.2.1
  have h8 := h.1.2.2.2.2.2.1
  unfold endB
  rcases H with ⟨g1, e1, v1, M1, rfl, H1, H⟩ | ⟨g1, e1, v1, M1, rfl, H1, H⟩
  · rw [c5'] at g1
    rw [if_neg (fun q => q g1)]
    obtain ⟨rfl, F1, Q1⟩ := h.go ht (by rw [g1]; decide) (by rw [g1]; decide) H1
    have h9 : fR M1 3 8 = t := Q1.1.2.2.2.2.2.1
    obtain ⟨-, r1, r2⟩ := ln5_283 Q1.1.1 (by rw [h9]; exact ht) H
    obtain ⟨F2, R2⟩ := fin_ok ht Q1 hl hi r1 r2
    exact ⟨F1.trans F2, R2⟩
  · rw [c5'] at g1
    rw [if_pos g1]
    obtain ⟨f1, f2⟩ := h.1.err (v := v) (M' := M') H1 (fun y hy S => by subst hy; exact ln5_278 S (by rw [(h.1.fail H1).1.fr (by simp [fP]), h8]; exact ht) H)
    exact ⟨f1.ln, f2⟩
theorem en6_ok {e : Nat} {v : Option Value} {a i m nu : Int32} {fr : Nat} {c5 c6 : Option Value} (ht : gNth sT t = some 28) (h : MID B n t M s ls (6, m, nu, fr, 0)) (hl : ls.length < 16) (hi : i.toInt = (ls.length : Int)) (H : (zI M 3 7 = 59 ∧ ∃ e1 v1 M1, e = e1 + 1 ∧ Ev none e1 31 0 [some (.ref 3)] [] M v1 M1 0 0 ∧ Ev none e 33 283 [some (.ref 3), some (.int a), some (.int 6), some (.int i), some (.int 1), c5, c6] (v1.toList ++ []) M1 v M' 0 0) ∨ (¬ (zI M 3 7 = 59) ∧ ∃ e1 v1 M1, e = e1 + 1 ∧ Ev none e1 27 0 [some (.ref 3), some (.int 1)] [] M v1 M1 0 0 ∧ Ev none e 33 278 [some (.ref 3), some (.int a), some (.int 6), some (.int i), some (.int 1), c5, c6] (v1.toList ++ []) M1 v M' 0 0)) : FA (fLq t) (wLn t) M M' ∧ LNr B n t M' v (endB s ls 6 m nu fr) := by
  have c5' := h.1.2.2.1.at.2.2.2.2.1
  have h8 := h.1.2.2.2.2.2.1
  unfold endB
  rcases H with ⟨g1, e1, v1, M1, rfl, H1, H⟩ | ⟨g1, e1, v1, M1, rfl, H1, H⟩
  · rw [c5'] at g1
    rw [if_neg (fun q => q g1)]
    obtain ⟨rfl, F1, Q1⟩ := h.go ht (by rw [g1]; decide) (by rw [g1]; decide) H1
    have h9 : fR M1 3 8 = t := Q1.1.2.2.2.2.2.1
    obtain ⟨-, r1, r2⟩ := ln6_283 Q1.1.1 (by rw [h9]; exact ht) H
    obtain ⟨F2, R2⟩ := fin_ok ht Q1 hl hi r1 r2
    exact ⟨F1.trans F2, R2⟩
  · rw [c5'] at g1
    rw [if_pos g1]
    obtain ⟨f1, f2⟩ := h.1.err (v := v) (M' := M') H1 (fun y hy S => by subst hy; exact ln6_278 S (by rw [(h.1.fail H1).1.fr (by simp [fP]), h8]; exact ht) H)
    exact ⟨f1.ln, f2⟩
theorem en7_ok {e : Nat} {v : Option Value} {a i m nu : Int32} {fr : Nat} {c5 c6 : Option Value} (ht : gNth sT t = some 28) (h : MID B n t M s ls (7, m, nu, fr, 0)) (hl : ls.length < 16) (hi : i.toInt = (ls.length : Int)) (H : (zI M 3 7 = 59 ∧ ∃ e1 v1 M1, e = e1 + 1 ∧ Ev none e1 31 0 [some (.ref 3)] [] M v1 M1 0 0 ∧ Ev none e 33 283 [some (.ref 3), some (.int a), some (.int 7), some (.int i), some (.int 1), c5, c6] (v1.toList ++ []) M1 v M' 0 0) ∨ (¬ (zI M 3 7 = 59) ∧ ∃ e1 v1 M1, e = e1 + 1 ∧ Ev none e1 27 0 [some (.ref 3), some (.int 1)] [] M v1 M1 0 0 ∧ Ev none e 33 278 [some (.ref 3), some (.int a), some (.int 7), some (.int i), some (.int 1), c5, c6] (v1.toList ++ []) M1 v M' 0 0)) : FA (fLq t) (wLn t) M M' ∧ LNr B n t M' v (endB s ls 7 m nu fr) := by
  have c5' := h.1.2.2.1.at.2.2.2.2.1
  have h8 := h.1.2.2.2.2.2.1
  unfold endB
  rcases H with ⟨g1, e1, v1, M1, rfl, H1, H⟩ | ⟨g1, e1, v1, M1, rfl, H1, H⟩
  · rw [c5'] at g1
    rw [if_neg (fun q => q g1)]
    obtain ⟨rfl, F1, Q1⟩ := h.go ht (by rw [g1]; decide) (by rw [g1]; decide) H1
    have h9 : fR M1 3 8 = t := Q1.1.2.2.2.2.2.1
    obtain ⟨-, r1, r2⟩ := ln7_283 Q1.1.1 (by rw [h9]; exact ht) H
    obtain ⟨F2, R2⟩ := fin_ok ht Q1 hl hi r1 r2
    exact ⟨F1.trans F2, R2⟩
  · rw [c5'] at g1
    rw [if_pos g1]
    obtain ⟨f1, f2⟩ := h.1.err (v := v) (M' := M') H1 (fun y hy S => by subst hy; exact ln7_278 S (by rw [(h.1.fail H1).1.fr (by simp [fP]), h8]; exact ht) H)
    exact ⟨f1.ln, f2⟩
end LIN
/-! THE CLASS'S LINES, whole (made by glin3.py) -/
section LIX
variable {n t : Nat} {B : Nat → Int32} {M M' : Mem} {s : Sg} {ls : List Lnq}
theorem PRE.mid6 {fr : Nat} (h : PRE B n t M s ls 6 0 fr) : MID B n t M s ls (6, 0, 0, fr, 0) := by
  obtain ⟨hC, hL, hE, hF, _⟩ := h
  refine ⟨hC, hL, hE, ?_, ?_, ?_, ?_, ?_⟩
  · rw [tv_app2 (by exact (by decide : (6 : Int32) ≠ 2))]; exact hF.1
  · rw [tv_app2 (by exact (by decide : (6 : Int32) ≠ 3))]; exact hF.2.1
  · rw [tv_app2 (by exact (by decide : (6 : Int32) ≠ 4))]; exact hF.2.2.1
  · rw [tv_app2 (by exact (by decide : (6 : Int32) ≠ 7))]; exact hF.2.2.2.1
  · rw [tdS_app]
    exact (hF.2.2.2.2.trans (Int32.or_zero).symm).trans (tdk6 _ _ _ _).symm
theorem LNr.err {v : Option Value} {f : Int32 × Nat} (h : ERt M' v f) : LNr B n t M' v (.inr f) := h
theorem li0_ok {e : Nat} {v : Option Value} {a : Int32} (ht : gNth sT t = some 28) (hn2 : n ≤ 440) (hCL : CL B n t M s ls) (hw : (hdT s.1).1 = 2) (H : Ev none (e + 1) 33 44 [some (.ref 3), some (.int a), some (.int 0), none, none, none, none] [] M v M' 0 0) : FA (fLq t) (wLn t) M M' ∧ LNr B n t M' v (if 16 ≤ ls.length ∨ (onceB 0 = true ∧ hasK ls 0 = true) then .inr (3, (hdT s.1).2.1) else bodB B ((prS B e).1 1) (s.1.tail, s.2.1, s.2.2) ls 0) := by
  obtain ⟨hC, hL, hF⟩ := hCL
  have hb := tx_ge ht
  have h8 := hC.2.2.2.2.2.1
  have hcs := hC.2.2.2.2.2.2.1.1
  subst h8
  have hix : (zI M (fR M 3 8) 8).toNatClampNeg = ls.length := cl_n hL.1
  have o16 : (16 : Int32).toInt = 16 := rfl
  have h16 : (16 ≤ zI M (fR M 3 8) 8) ↔ 16 ≤ ls.length := by rw [Int32.le_iff_toInt_le, hL.1]; omega
  have bits := td_bits (hasK ls 2) (hasK ls 3) (hasK ls 4) (hasK ls 7)
  have htd : zI M 3 10 = tdB (hasK ls 2) (hasK ls 3) (hasK ls 4) (hasK ls 7) := hF.2.2.2.2
  rcases ln0_44 hC.1 ht H with ⟨g1, e1, v1, M1, he, H1, H⟩ | ⟨g1, g2, -, -, -, -, -, e1, v1, M1, he, H1, H⟩ | ⟨g1, g2, e1, v1, M1, he, H1, H⟩
  · rw [if_pos (Or.inl (h16.mp g1))]
    obtain ⟨f1, f2⟩ := hC.err (v := v) (M' := M') H1 (fun y hy S => by subst hy; exact ln0_72 S (by rw [(hC.fail H1).1.fr (by simp [fP])]; exact ht) H)
    exact ⟨f1.ln, f2⟩
  rotate_left
  · rw [htd] at g2
    exact absurd bits.2.2.2.2.1 g2
  have hno : ¬ (16 ≤ ls.length ∨ (onceB 0 = true ∧ hasK ls 0 = true)) := fun q => q.elim (fun x => g1 (h16.mpr x)) (fun x => absurd x.1 (by decide))
  have hl16 : ls.length < 16 := by
    by_cases q : 16 ≤ ls.length
    · exact absurd (Or.inl q) hno
    · omega
  rw [if_neg hno]
  cases he
  rw [hix] at H1
  have s1 : SQ (wI M (fR M 3 8 + 1) ls.length 0) := hC.1.ki
  have F1 : FA [] [fR M 3 8 + 1, fR M 3 8 + 2, fR M 3 8 + 3, fR M 3 8 + 4, fR M 3 8 + 5] M (wI (wI (wI (wI (wI M (fR M 3 8 + 1) ls.length 0) (fR M 3 8 + 2) ls.length 0) (fR M 3 8 + 3) ls.length 0) (fR M 3 8 + 4) ls.length (zI M (fR M 3 8) 9)) (fR M 3 8 + 5) ls.length (zI M (fR M 3 8) 9)) := ((((FA.wI (by simp)).trans (FA.wI (by simp))).trans (FA.wI (by simp))).trans (FA.wI (by simp))).trans (FA.wI (by simp))
  have S5 : SQ (wI (wI (wI (wI (wI M (fR M 3 8 + 1) ls.length 0) (fR M 3 8 + 2) ls.length 0) (fR M 3 8 + 3) ls.length 0) (fR M 3 8 + 4) ls.length (zI M (fR M 3 8) 9)) (fR M 3 8 + 5) ls.length (zI M (fR M 3 8) 9)) := hC.1.ki.ki.ki.ki.ki
  have C5 : CSt B n (fR M 3 8) (wI (wI (wI (wI (wI M (fR M 3 8 + 1) ls.length 0) (fR M 3 8 + 2) ls.length 0) (fR M 3 8 + 3) ls.length 0) (fR M 3 8 + 4) ls.length (zI M (fR M 3 8) 9)) (fR M 3 8 + 5) ls.length (zI M (fR M 3 8) 9)) s := hC.frm S5 F1 (fun q _ r => by cases r) (fun b hb r => by
    simp only [List.mem_cons, List.not_mem_nil, or_false] at hb r
    omega)
  have E5 : ENq (wI (wI (wI (wI (wI M (fR M 3 8 + 1) ls.length 0) (fR M 3 8 + 2) ls.length 0) (fR M 3 8 + 3) ls.length 0) (fR M 3 8 + 4) ls.length (zI M (fR M 3 8) 9)) (fR M 3 8 + 5) ls.length (zI M (fR M 3 8) 9)) (fR M 3 8) ls.length 0 0 0 s.2.2.length := by
    refine ⟨?_, ?_, ?_, ?_⟩
    · rw [rN_wI_ne (fun q => by omega), rN_wI_ne (fun q => by omega), rN_wI_ne (fun q => by omega), rN_wI_ne (fun q => by omega), rN_wI_eq (by rw [(hC.1.1.row (fx_g0 ht) qw_29).2]; exact hl16)]
    · rw [rN_wI_ne (fun q => by omega), rN_wI_ne (fun q => by omega), rN_wI_ne (fun q => by omega), rN_wI_eq (by rw [(s1.1.row (fx_g1 ht) qw_30).2]; exact hl16)]
    · rw [rN_wI_ne (fun q => by omega), rN_wI_ne (fun q => by omega), rN_wI_eq (by rw [(s1.ki.1.row (fx_g2 ht) qw_31).2]; exact hl16)]
    · rw [rN_wI_ne (fun q => by omega), rN_wI_eq (by rw [(s1.ki.ki.1.row (fx_g3 ht) qw_32).2]; exact hl16)]
      exact hcs
  obtain ⟨p1, p2, p3, p4⟩ := fP_no hb.1
  obtain ⟨rfl, F2, C2⟩ := C5.go ht (by rw [hw]; decide) (by rw [hw]; decide) H1
  have P2 : PRE B n (fR M 3 8) M1 (s.1.tail, s.2.1, s.2.2) ls 0 0 s.2.2.length := ⟨C2, (hL.ui.ui.ui.ui.ui).frm F2 p2 p3, E5.frm F2 p4, (hF.frm F1 (fun q _ r => by cases r)).frm F2 p1, hl16⟩
  have F12 : FA (fLq (fR M 3 8)) (wLn (fR M 3 8)) M M1 := (F1.more (fun q hq => by cases hq) (fun q hq => by
    simp only [wLn, List.mem_cons, List.not_mem_nil, or_false] at hq ⊢
    rcases hq with h | h | h | h | h <;> simp [h])).trans F2.ln
  have h91 : fR M1 3 8 = fR M 3 8 := F12.fr (by simp [fLq]; omega)
  unfold bodB
  rw [if_neg (by decide : ¬ (0 : Int32) = 6), if_neg (by decide : ¬ (0 : Int32) = 5)]
  obtain ⟨e3, v3, M3, he, H3, H⟩ := ln0_147 C2.1 (by rw [h91]; exact ht) H
  cases he
  obtain ⟨F3, R3⟩ := nu0_ok ht P2 hL.1 H3
  have FX := F12.trans F3
  have h93 : fR M3 3 8 = fR M 3 8 := FX.fr (by simp [fLq]; omega)
  rcases R3 with ⟨q1, q2⟩ | ⟨q1, q2, q3⟩ | ⟨q1, q2, rfl, Q3⟩
  · unfold numB
    rw [if_pos q1]
    obtain ⟨rfl, S9, r9⟩ := q2
    rcases ln0_175 S9 (by rw [h93]; exact ht) H with ⟨_, h3, rfl⟩ | ⟨h3, _⟩
    · exact ⟨FX, h3, S9, r9⟩
    · exact absurd rfl h3
  · unfold numB
    rw [if_neg (fun q => q q1), if_pos q2]
    obtain ⟨rfl, S9, r9⟩ := q3
    rcases ln0_175 S9 (by rw [h93]; exact ht) H with ⟨_, h3, rfl⟩ | ⟨h3, _⟩
    · exact ⟨FX, h3, S9, r9⟩
    · exact absurd rfl h3
  · unfold numB
    rw [if_neg (fun q => q q1), if_neg q2]
    rcases ln0_175 Q3.1.1 (by rw [h93]; exact ht) H with ⟨h3, _⟩ | ⟨_, e4, v4, M4, he, H4, H⟩
    · exact absurd h3 (by decide)
    cases he
    obtain ⟨rfl, rfl⟩ := amq_all (ws := [ifW]) Q3.1.1 hn2 Q3.1.2.2.1 rfl (by decide) (List.cons_ne_nil _ _) (by decide) (by decide) H4
    rw [Q3.1.wd] at H
    have hx : ∀ w : List Int32, ixF w [ifW] 0 = if w = ifW then 0 else -1 := fun w => rfl
    unfold cndB
    rw [if_neg (by decide : ¬ (0 : Int32) = 6)]
    by_cases hw2 : wdS B (hdT ((s.1.tail.tail, s.2.1, s.2.2) : Sg).1) = ifW
    · rw [hx, if_pos (by exact hw2)] at H
      rw [if_pos ⟨by decide, hw2⟩]
      have h2t := wd_ne hw2 (by decide)
      rcases ln0_224 Q3.1.1 (by rw [h93]; exact ht) H with ⟨_, e5, v5, M5, he, H5, H⟩ | ⟨h3, _⟩ | ⟨h3, _⟩
      rotate_left
      · exact absurd rfl h3
      · exact absurd rfl h3
      obtain ⟨rfl, F5, Q5⟩ := Q3.go ht (by rw [show (hdT ((s.1.tail.tail, s.2.1, s.2.2) : Sg).1).1 = 2 from h2t]; decide) (by rw [show (hdT ((s.1.tail.tail, s.2.1, s.2.2) : Sg).1).1 = 2 from h2t]; decide) H5
      have h95 : fR M5 3 8 = fR M 3 8 := Q5.1.2.2.2.2.2.1
      obtain ⟨e6, v6, M6, he, H6, H⟩ := ln0_243 Q5.1.1 (by rw [h95]; exact ht) H
      cases he
      obtain ⟨F6, R6⟩ := Q5.con ht hn2 H6
      have FY := (FX.trans F5).trans F6
      have h96 : fR M6 3 8 = fR M 3 8 := FY.fr (by simp [fLq]; omega)
      cases hr : (prS B e).1 1 (((s.1.tail.tail, s.2.1, s.2.2) : Sg).1.tail, ((s.1.tail.tail, s.2.1, s.2.2) : Sg).2.1, ((s.1.tail.tail, s.2.1, s.2.2) : Sg).2.2) with
      | inr f =>
        rw [hr] at R6
        obtain ⟨rfl, S9, r9⟩ := R6
        rcases ln0_259 S9 (by rw [h96]; exact ht) H with ⟨_, h3, rfl⟩ | ⟨h3, _⟩ | ⟨h3, _⟩
        · exact ⟨FY, h3, S9, r9⟩
        · exact absurd rfl h3
        · exact absurd rfl h3
      | inl s2 =>
        rw [hr] at R6
        obtain ⟨rfl, Q6⟩ := R6
        rcases ln0_259 Q6.1.1 (by rw [h96]; exact ht) H with ⟨h3, _⟩ | ⟨_, g4, g5⟩ | ⟨_, g4, g5⟩
        · exact absurd h3 (by decide)
        · obtain ⟨f7, r7⟩ := en0_ok ht Q6 hl16 hL.1 (Or.inl ⟨g4, g5⟩)
          exact ⟨FY.trans f7, r7⟩
        · obtain ⟨f7, r7⟩ := en0_ok ht Q6 hl16 hL.1 (Or.inr ⟨g4, g5⟩)
          exact ⟨FY.trans f7, r7⟩
    · rw [hx, if_neg (by exact hw2)] at H
      rw [if_neg (fun q => hw2 q.2)]
      rcases ln0_224 Q3.1.1 (by rw [h93]; exact ht) H with ⟨h3, _⟩ | ⟨_, g4, g5⟩ | ⟨_, g4, g5⟩
      · exact absurd h3 (by decide)
      · obtain ⟨f7, r7⟩ := en0_ok ht Q3 hl16 hL.1 (Or.inl ⟨g4, g5⟩)
        exact ⟨FX.trans f7, r7⟩
      · obtain ⟨f7, r7⟩ := en0_ok ht Q3 hl16 hL.1 (Or.inr ⟨g4, g5⟩)
        exact ⟨FX.trans f7, r7⟩
theorem li1_ok {e : Nat} {v : Option Value} {a : Int32} (ht : gNth sT t = some 28) (hn2 : n ≤ 440) (hCL : CL B n t M s ls) (hw : (hdT s.1).1 = 2) (H : Ev none (e + 1) 33 44 [some (.ref 3), some (.int a), some (.int 1), none, none, none, none] [] M v M' 0 0) : FA (fLq t) (wLn t) M M' ∧ LNr B n t M' v (if 16 ≤ ls.length ∨ (onceB 1 = true ∧ hasK ls 1 = true) then .inr (3, (hdT s.1).2.1) else bodB B ((prS B e).1 1) (s.1.tail, s.2.1, s.2.2) ls 1) := by
  obtain ⟨hC, hL, hF⟩ := hCL
  have hb := tx_ge ht
  have h8 := hC.2.2.2.2.2.1
  have hcs := hC.2.2.2.2.2.2.1.1
  subst h8
  have hix : (zI M (fR M 3 8) 8).toNatClampNeg = ls.length := cl_n hL.1
  have o16 : (16 : Int32).toInt = 16 := rfl
  have h16 : (16 ≤ zI M (fR M 3 8) 8) ↔ 16 ≤ ls.length := by rw [Int32.le_iff_toInt_le, hL.1]; omega
  have bits := td_bits (hasK ls 2) (hasK ls 3) (hasK ls 4) (hasK ls 7)
  have htd : zI M 3 10 = tdB (hasK ls 2) (hasK ls 3) (hasK ls 4) (hasK ls 7) := hF.2.2.2.2
  rcases ln1_44 hC.1 ht H with ⟨g1, e1, v1, M1, he, H1, H⟩ | ⟨g1, g2, -, -, -, -, -, e1, v1, M1, he, H1, H⟩ | ⟨g1, g2, e1, v1, M1, he, H1, H⟩
  · rw [if_pos (Or.inl (h16.mp g1))]
    obtain ⟨f1, f2⟩ := hC.err (v := v) (M' := M') H1 (fun y hy S => by subst hy; exact ln1_72 S (by rw [(hC.fail H1).1.fr (by simp [fP])]; exact ht) H)
    exact ⟨f1.ln, f2⟩
  rotate_left
  · rw [htd] at g2
    exact absurd bits.2.2.2.2.2.1 g2
  have hno : ¬ (16 ≤ ls.length ∨ (onceB 1 = true ∧ hasK ls 1 = true)) := fun q => q.elim (fun x => g1 (h16.mpr x)) (fun x => absurd x.1 (by decide))
  have hl16 : ls.length < 16 := by
    by_cases q : 16 ≤ ls.length
    · exact absurd (Or.inl q) hno
    · omega
  rw [if_neg hno]
  cases he
  rw [hix] at H1
  have s1 : SQ (wI M (fR M 3 8 + 1) ls.length 1) := hC.1.ki
  have F1 : FA [] [fR M 3 8 + 1, fR M 3 8 + 2, fR M 3 8 + 3, fR M 3 8 + 4, fR M 3 8 + 5] M (wI (wI (wI (wI (wI M (fR M 3 8 + 1) ls.length 1) (fR M 3 8 + 2) ls.length 0) (fR M 3 8 + 3) ls.length 0) (fR M 3 8 + 4) ls.length (zI M (fR M 3 8) 9)) (fR M 3 8 + 5) ls.length (zI M (fR M 3 8) 9)) := ((((FA.wI (by simp)).trans (FA.wI (by simp))).trans (FA.wI (by simp))).trans (FA.wI (by simp))).trans (FA.wI (by simp))
  have S5 : SQ (wI (wI (wI (wI (wI M (fR M 3 8 + 1) ls.length 1) (fR M 3 8 + 2) ls.length 0) (fR M 3 8 + 3) ls.length 0) (fR M 3 8 + 4) ls.length (zI M (fR M 3 8) 9)) (fR M 3 8 + 5) ls.length (zI M (fR M 3 8) 9)) := hC.1.ki.ki.ki.ki.ki
  have C5 : CSt B n (fR M 3 8) (wI (wI (wI (wI (wI M (fR M 3 8 + 1) ls.length 1) (fR M 3 8 + 2) ls.length 0) (fR M 3 8 + 3) ls.length 0) (fR M 3 8 + 4) ls.length (zI M (fR M 3 8) 9)) (fR M 3 8 + 5) ls.length (zI M (fR M 3 8) 9)) s := hC.frm S5 F1 (fun q _ r => by cases r) (fun b hb r => by
    simp only [List.mem_cons, List.not_mem_nil, or_false] at hb r
    omega)
  have E5 : ENq (wI (wI (wI (wI (wI M (fR M 3 8 + 1) ls.length 1) (fR M 3 8 + 2) ls.length 0) (fR M 3 8 + 3) ls.length 0) (fR M 3 8 + 4) ls.length (zI M (fR M 3 8) 9)) (fR M 3 8 + 5) ls.length (zI M (fR M 3 8) 9)) (fR M 3 8) ls.length 1 0 0 s.2.2.length := by
    refine ⟨?_, ?_, ?_, ?_⟩
    · rw [rN_wI_ne (fun q => by omega), rN_wI_ne (fun q => by omega), rN_wI_ne (fun q => by omega), rN_wI_ne (fun q => by omega), rN_wI_eq (by rw [(hC.1.1.row (fx_g0 ht) qw_29).2]; exact hl16)]
    · rw [rN_wI_ne (fun q => by omega), rN_wI_ne (fun q => by omega), rN_wI_ne (fun q => by omega), rN_wI_eq (by rw [(s1.1.row (fx_g1 ht) qw_30).2]; exact hl16)]
    · rw [rN_wI_ne (fun q => by omega), rN_wI_ne (fun q => by omega), rN_wI_eq (by rw [(s1.ki.1.row (fx_g2 ht) qw_31).2]; exact hl16)]
    · rw [rN_wI_ne (fun q => by omega), rN_wI_eq (by rw [(s1.ki.ki.1.row (fx_g3 ht) qw_32).2]; exact hl16)]
      exact hcs
  obtain ⟨p1, p2, p3, p4⟩ := fP_no hb.1
  obtain ⟨rfl, F2, C2⟩ := C5.go ht (by rw [hw]; decide) (by rw [hw]; decide) H1
  have P2 : PRE B n (fR M 3 8) M1 (s.1.tail, s.2.1, s.2.2) ls 1 0 s.2.2.length := ⟨C2, (hL.ui.ui.ui.ui.ui).frm F2 p2 p3, E5.frm F2 p4, (hF.frm F1 (fun q _ r => by cases r)).frm F2 p1, hl16⟩
  have F12 : FA (fLq (fR M 3 8)) (wLn (fR M 3 8)) M M1 := (F1.more (fun q hq => by cases hq) (fun q hq => by
    simp only [wLn, List.mem_cons, List.not_mem_nil, or_false] at hq ⊢
    rcases hq with h | h | h | h | h <;> simp [h])).trans F2.ln
  have h91 : fR M1 3 8 = fR M 3 8 := F12.fr (by simp [fLq]; omega)
  unfold bodB
  rw [if_neg (by decide : ¬ (1 : Int32) = 6), if_neg (by decide : ¬ (1 : Int32) = 5)]
  obtain ⟨e3, v3, M3, he, H3, H⟩ := ln1_147 C2.1 (by rw [h91]; exact ht) H
  cases he
  obtain ⟨F3, R3⟩ := nu1_ok ht P2 hL.1 H3
  have FX := F12.trans F3
  have h93 : fR M3 3 8 = fR M 3 8 := FX.fr (by simp [fLq]; omega)
  rcases R3 with ⟨q1, q2⟩ | ⟨q1, q2, q3⟩ | ⟨q1, q2, rfl, Q3⟩
  · unfold numB
    rw [if_pos q1]
    obtain ⟨rfl, S9, r9⟩ := q2
    rcases ln1_175 S9 (by rw [h93]; exact ht) H with ⟨_, h3, rfl⟩ | ⟨h3, _⟩
    · exact ⟨FX, h3, S9, r9⟩
    · exact absurd rfl h3
  · unfold numB
    rw [if_neg (fun q => q q1), if_pos q2]
    obtain ⟨rfl, S9, r9⟩ := q3
    rcases ln1_175 S9 (by rw [h93]; exact ht) H with ⟨_, h3, rfl⟩ | ⟨h3, _⟩
    · exact ⟨FX, h3, S9, r9⟩
    · exact absurd rfl h3
  · unfold numB
    rw [if_neg (fun q => q q1), if_neg q2]
    rcases ln1_175 Q3.1.1 (by rw [h93]; exact ht) H with ⟨h3, _⟩ | ⟨_, e4, v4, M4, he, H4, H⟩
    · exact absurd h3 (by decide)
    cases he
    obtain ⟨rfl, rfl⟩ := amq_all (ws := [ifW]) Q3.1.1 hn2 Q3.1.2.2.1 rfl (by decide) (List.cons_ne_nil _ _) (by decide) (by decide) H4
    rw [Q3.1.wd] at H
    have hx : ∀ w : List Int32, ixF w [ifW] 0 = if w = ifW then 0 else -1 := fun w => rfl
    unfold cndB
    rw [if_neg (by decide : ¬ (1 : Int32) = 6)]
    by_cases hw2 : wdS B (hdT ((s.1.tail.tail, s.2.1, s.2.2) : Sg).1) = ifW
    · rw [hx, if_pos (by exact hw2)] at H
      rw [if_pos ⟨by decide, hw2⟩]
      have h2t := wd_ne hw2 (by decide)
      rcases ln1_224 Q3.1.1 (by rw [h93]; exact ht) H with ⟨_, e5, v5, M5, he, H5, H⟩ | ⟨h3, _⟩ | ⟨h3, _⟩
      rotate_left
      · exact absurd rfl h3
      · exact absurd rfl h3
      obtain ⟨rfl, F5, Q5⟩ := Q3.go ht (by rw [show (hdT ((s.1.tail.tail, s.2.1, s.2.2) : Sg).1).1 = 2 from h2t]; decide) (by rw [show (hdT ((s.1.tail.tail, s.2.1, s.2.2) : Sg).1).1 = 2 from h2t]; decide) H5
      have h95 : fR M5 3 8 = fR M 3 8 := Q5.1.2.2.2.2.2.1
      obtain ⟨e6, v6, M6, he, H6, H⟩ := ln1_243 Q5.1.1 (by rw [h95]; exact ht) H
      cases he
      obtain ⟨F6, R6⟩ := Q5.con ht hn2 H6
      have FY := (FX.trans F5).trans F6
      have h96 : fR M6 3 8 = fR M 3 8 := FY.fr (by simp [fLq]; omega)
      cases hr : (prS B e).1 1 (((s.1.tail.tail, s.2.1, s.2.2) : Sg).1.tail, ((s.1.tail.tail, s.2.1, s.2.2) : Sg).2.1, ((s.1.tail.tail, s.2.1, s.2.2) : Sg).2.2) with
      | inr f =>
        rw [hr] at R6
        obtain ⟨rfl, S9, r9⟩ := R6
        rcases ln1_259 S9 (by rw [h96]; exact ht) H with ⟨_, h3, rfl⟩ | ⟨h3, _⟩ | ⟨h3, _⟩
        · exact ⟨FY, h3, S9, r9⟩
        · exact absurd rfl h3
        · exact absurd rfl h3
      | inl s2 =>
        rw [hr] at R6
        obtain ⟨rfl, Q6⟩ := R6
        rcases ln1_259 Q6.1.1 (by rw [h96]; exact ht) H with ⟨h3, _⟩ | ⟨_, g4, g5⟩ | ⟨_, g4, g5⟩
        · exact absurd h3 (by decide)
        · obtain ⟨f7, r7⟩ := en1_ok ht Q6 hl16 hL.1 (Or.inl ⟨g4, g5⟩)
          exact ⟨FY.trans f7, r7⟩
        · obtain ⟨f7, r7⟩ := en1_ok ht Q6 hl16 hL.1 (Or.inr ⟨g4, g5⟩)
          exact ⟨FY.trans f7, r7⟩
    · rw [hx, if_neg (by exact hw2)] at H
      rw [if_neg (fun q => hw2 q.2)]
      rcases ln1_224 Q3.1.1 (by rw [h93]; exact ht) H with ⟨h3, _⟩ | ⟨_, g4, g5⟩ | ⟨_, g4, g5⟩
      · exact absurd h3 (by decide)
      · obtain ⟨f7, r7⟩ := en1_ok ht Q3 hl16 hL.1 (Or.inl ⟨g4, g5⟩)
        exact ⟨FX.trans f7, r7⟩
      · obtain ⟨f7, r7⟩ := en1_ok ht Q3 hl16 hL.1 (Or.inr ⟨g4, g5⟩)
        exact ⟨FX.trans f7, r7⟩
theorem li2_ok {e : Nat} {v : Option Value} {a : Int32} (ht : gNth sT t = some 28) (hn2 : n ≤ 440) (hCL : CL B n t M s ls) (hw : (hdT s.1).1 = 2) (H : Ev none (e + 1) 33 44 [some (.ref 3), some (.int a), some (.int 2), none, none, none, none] [] M v M' 0 0) : FA (fLq t) (wLn t) M M' ∧ LNr B n t M' v (if 16 ≤ ls.length ∨ (onceB 2 = true ∧ hasK ls 2 = true) then .inr (3, (hdT s.1).2.1) else bodB B ((prS B e).1 1) (s.1.tail, s.2.1, s.2.2) ls 2) := by
  obtain ⟨hC, hL, hF⟩ := hCL
  have hb := tx_ge ht
  have h8 := hC.2.2.2.2.2.1
  have hcs := hC.2.2.2.2.2.2.1.1
  subst h8
  have hix : (zI M (fR M 3 8) 8).toNatClampNeg = ls.length := cl_n hL.1
  have o16 : (16 : Int32).toInt = 16 := rfl
  have h16 : (16 ≤ zI M (fR M 3 8) 8) ↔ 16 ≤ ls.length := by rw [Int32.le_iff_toInt_le, hL.1]; omega
  have bits := td_bits (hasK ls 2) (hasK ls 3) (hasK ls 4) (hasK ls 7)
  have htd : zI M 3 10 = tdB (hasK ls 2) (hasK ls 3) (hasK ls 4) (hasK ls 7) := hF.2.2.2.2
  rcases ln2_44 hC.1 ht H with ⟨g1, e1, v1, M1, he, H1, H⟩ | ⟨g1, g2, -, -, -, -, -, e1, v1, M1, he, H1, H⟩ | ⟨g1, g2, e1, v1, M1, he, H1, H⟩
  · rw [if_pos (Or.inl (h16.mp g1))]
    obtain ⟨f1, f2⟩ := hC.err (v := v) (M' := M') H1 (fun y hy S => by subst hy; exact ln2_72 S (by rw [(hC.fail H1).1.fr (by simp [fP])]; exact ht) H)
    exact ⟨f1.ln, f2⟩
  rotate_left
  · rw [htd] at g2
    have hk : hasK ls 2 = true := by
      cases hq : hasK ls 2 with
      | true => rfl
      | false => exact absurd (bits.1.mpr hq) g2
    rw [if_pos (Or.inr ⟨rfl, hk⟩)]
    obtain ⟨f1, f2⟩ := hC.err (v := v) (M' := M') H1 (fun y hy S => by subst hy; exact ln2_72 S (by rw [(hC.fail H1).1.fr (by simp [fP])]; exact ht) H)
    exact ⟨f1.ln, f2⟩
  rw [htd] at g2
  have hk : hasK ls 2 = false := bits.1.mp g2
  have hno : ¬ (16 ≤ ls.length ∨ (onceB 2 = true ∧ hasK ls 2 = true)) := fun q => q.elim (fun x => g1 (h16.mpr x)) (fun x => by rw [hk] at x; exact absurd x.2 (by decide))
  have hl16 : ls.length < 16 := by
    by_cases q : 16 ≤ ls.length
    · exact absurd (Or.inl q) hno
    · omega
  rw [if_neg hno]
  cases he
  rw [hix] at H1
  have s1 : SQ (wI M (fR M 3 8 + 1) ls.length 2) := hC.1.ki
  have F1 : FA [] [fR M 3 8 + 1, fR M 3 8 + 2, fR M 3 8 + 3, fR M 3 8 + 4, fR M 3 8 + 5] M (wI (wI (wI (wI (wI M (fR M 3 8 + 1) ls.length 2) (fR M 3 8 + 2) ls.length 0) (fR M 3 8 + 3) ls.length 0) (fR M 3 8 + 4) ls.length (zI M (fR M 3 8) 9)) (fR M 3 8 + 5) ls.length (zI M (fR M 3 8) 9)) := ((((FA.wI (by simp)).trans (FA.wI (by simp))).trans (FA.wI (by simp))).trans (FA.wI (by simp))).trans (FA.wI (by simp))
  have S5 : SQ (wI (wI (wI (wI (wI M (fR M 3 8 + 1) ls.length 2) (fR M 3 8 + 2) ls.length 0) (fR M 3 8 + 3) ls.length 0) (fR M 3 8 + 4) ls.length (zI M (fR M 3 8) 9)) (fR M 3 8 + 5) ls.length (zI M (fR M 3 8) 9)) := hC.1.ki.ki.ki.ki.ki
  have C5 : CSt B n (fR M 3 8) (wI (wI (wI (wI (wI M (fR M 3 8 + 1) ls.length 2) (fR M 3 8 + 2) ls.length 0) (fR M 3 8 + 3) ls.length 0) (fR M 3 8 + 4) ls.length (zI M (fR M 3 8) 9)) (fR M 3 8 + 5) ls.length (zI M (fR M 3 8) 9)) s := hC.frm S5 F1 (fun q _ r => by cases r) (fun b hb r => by
    simp only [List.mem_cons, List.not_mem_nil, or_false] at hb r
    omega)
  have E5 : ENq (wI (wI (wI (wI (wI M (fR M 3 8 + 1) ls.length 2) (fR M 3 8 + 2) ls.length 0) (fR M 3 8 + 3) ls.length 0) (fR M 3 8 + 4) ls.length (zI M (fR M 3 8) 9)) (fR M 3 8 + 5) ls.length (zI M (fR M 3 8) 9)) (fR M 3 8) ls.length 2 0 0 s.2.2.length := by
    refine ⟨?_, ?_, ?_, ?_⟩
    · rw [rN_wI_ne (fun q => by omega), rN_wI_ne (fun q => by omega), rN_wI_ne (fun q => by omega), rN_wI_ne (fun q => by omega), rN_wI_eq (by rw [(hC.1.1.row (fx_g0 ht) qw_29).2]; exact hl16)]
    · rw [rN_wI_ne (fun q => by omega), rN_wI_ne (fun q => by omega), rN_wI_ne (fun q => by omega), rN_wI_eq (by rw [(s1.1.row (fx_g1 ht) qw_30).2]; exact hl16)]
    · rw [rN_wI_ne (fun q => by omega), rN_wI_ne (fun q => by omega), rN_wI_eq (by rw [(s1.ki.1.row (fx_g2 ht) qw_31).2]; exact hl16)]
    · rw [rN_wI_ne (fun q => by omega), rN_wI_eq (by rw [(s1.ki.ki.1.row (fx_g3 ht) qw_32).2]; exact hl16)]
      exact hcs
  obtain ⟨p1, p2, p3, p4⟩ := fP_no hb.1
  obtain ⟨rfl, F2, C2⟩ := C5.go ht (by rw [hw]; decide) (by rw [hw]; decide) H1
  have P2 : PRE B n (fR M 3 8) M1 (s.1.tail, s.2.1, s.2.2) ls 2 0 s.2.2.length := ⟨C2, (hL.ui.ui.ui.ui.ui).frm F2 p2 p3, E5.frm F2 p4, (hF.frm F1 (fun q _ r => by cases r)).frm F2 p1, hl16⟩
  have F12 : FA (fLq (fR M 3 8)) (wLn (fR M 3 8)) M M1 := (F1.more (fun q hq => by cases hq) (fun q hq => by
    simp only [wLn, List.mem_cons, List.not_mem_nil, or_false] at hq ⊢
    rcases hq with h | h | h | h | h <;> simp [h])).trans F2.ln
  have h91 : fR M1 3 8 = fR M 3 8 := F12.fr (by simp [fLq]; omega)
  unfold bodB
  rw [if_neg (by decide : ¬ (2 : Int32) = 6), if_neg (by decide : ¬ (2 : Int32) = 5)]
  obtain ⟨e3, v3, M3, he, H3, H⟩ := ln2_147 C2.1 (by rw [h91]; exact ht) H
  cases he
  obtain ⟨F3, R3⟩ := nu2_ok ht P2 hL.1 hk H3
  have FX := F12.trans F3
  have h93 : fR M3 3 8 = fR M 3 8 := FX.fr (by simp [fLq]; omega)
  rcases R3 with ⟨q1, q2⟩ | ⟨q1, q2, q3⟩ | ⟨q1, q2, rfl, Q3⟩
  · unfold numB
    rw [if_pos q1]
    obtain ⟨rfl, S9, r9⟩ := q2
    rcases ln2_175 S9 (by rw [h93]; exact ht) H with ⟨_, h3, rfl⟩ | ⟨h3, _⟩ | ⟨h3, _⟩
    · exact ⟨FX, h3, S9, r9⟩
    · exact absurd rfl h3
    · exact absurd rfl h3
  · unfold numB
    rw [if_neg (fun q => q q1), if_pos q2]
    obtain ⟨rfl, S9, r9⟩ := q3
    rcases ln2_175 S9 (by rw [h93]; exact ht) H with ⟨_, h3, rfl⟩ | ⟨h3, _⟩ | ⟨h3, _⟩
    · exact ⟨FX, h3, S9, r9⟩
    · exact absurd rfl h3
    · exact absurd rfl h3
  · unfold numB
    rw [if_neg (fun q => q q1), if_neg q2]
    unfold cndB
    rw [if_neg (by decide : ¬ (2 : Int32) = 6), if_neg (fun q => absurd q.1 (by decide))]
    rcases ln2_175 Q3.1.1 (by rw [h93]; exact ht) H with ⟨h3, _⟩ | ⟨_, g4, g5⟩ | ⟨_, g4, g5⟩
    · exact absurd h3 (by decide)
    · obtain ⟨f7, r7⟩ := en2_ok ht Q3 hl16 hL.1 (Or.inl ⟨g4, g5⟩)
      exact ⟨FX.trans f7, r7⟩
    · obtain ⟨f7, r7⟩ := en2_ok ht Q3 hl16 hL.1 (Or.inr ⟨g4, g5⟩)
      exact ⟨FX.trans f7, r7⟩
theorem li3_ok {e : Nat} {v : Option Value} {a : Int32} (ht : gNth sT t = some 28) (hn2 : n ≤ 440) (hCL : CL B n t M s ls) (hw : (hdT s.1).1 = 2) (H : Ev none (e + 1) 33 44 [some (.ref 3), some (.int a), some (.int 3), none, none, none, none] [] M v M' 0 0) : FA (fLq t) (wLn t) M M' ∧ LNr B n t M' v (if 16 ≤ ls.length ∨ (onceB 3 = true ∧ hasK ls 3 = true) then .inr (3, (hdT s.1).2.1) else bodB B ((prS B e).1 1) (s.1.tail, s.2.1, s.2.2) ls 3) := by
  obtain ⟨hC, hL, hF⟩ := hCL
  have hb := tx_ge ht
  have h8 := hC.2.2.2.2.2.1
  have hcs := hC.2.2.2.2.2.2.1.1
  subst h8
  have hix : (zI M (fR M 3 8) 8).toNatClampNeg = ls.length := cl_n hL.1
  have o16 : (16 : Int32).toInt = 16 := rfl
  have h16 : (16 ≤ zI M (fR M 3 8) 8) ↔ 16 ≤ ls.length := by rw [Int32.le_iff_toInt_le, hL.1]; omega
  have bits := td_bits (hasK ls 2) (hasK ls 3) (hasK ls 4) (hasK ls 7)
  have htd : zI M 3 10 = tdB (hasK ls 2) (hasK ls 3) (hasK ls 4) (hasK ls 7) := hF.2.2.2.2
  rcases ln3_44 hC.1 ht H with ⟨g1, e1, v1, M1, he, H1, H⟩ | ⟨g1, g2, -, -, -, -, -, e1, v1, M1, he, H1, H⟩ | ⟨g1, g2, e1, v1, M1, he, H1, H⟩
  · rw [if_pos (Or.inl (h16.mp g1))]
    obtain ⟨f1, f2⟩ := hC.err (v := v) (M' := M') H1 (fun y hy S => by subst hy; exact ln3_72 S (by rw [(hC.fail H1).1.fr (by simp [fP])]; exact ht) H)
    exact ⟨f1.ln, f2⟩
  rotate_left
  · rw [htd] at g2
    have hk : hasK ls 3 = true := by
      cases hq : hasK ls 3 with
      | true => rfl
      | false => exact absurd (bits.2.1.mpr hq) g2
    rw [if_pos (Or.inr ⟨rfl, hk⟩)]
    obtain ⟨f1, f2⟩ := hC.err (v := v) (M' := M') H1 (fun y hy S => by subst hy; exact ln3_72 S (by rw [(hC.fail H1).1.fr (by simp [fP])]; exact ht) H)
    exact ⟨f1.ln, f2⟩
  rw [htd] at g2
  have hk : hasK ls 3 = false := bits.2.1.mp g2
  have hno : ¬ (16 ≤ ls.length ∨ (onceB 3 = true ∧ hasK ls 3 = true)) := fun q => q.elim (fun x => g1 (h16.mpr x)) (fun x => by rw [hk] at x; exact absurd x.2 (by decide))
  have hl16 : ls.length < 16 := by
    by_cases q : 16 ≤ ls.length
    · exact absurd (Or.inl q) hno
    · omega
  rw [if_neg hno]
  cases he
  rw [hix] at H1
  have s1 : SQ (wI M (fR M 3 8 + 1) ls.length 3) := hC.1.ki
  have F1 : FA [] [fR M 3 8 + 1, fR M 3 8 + 2, fR M 3 8 + 3, fR M 3 8 + 4, fR M 3 8 + 5] M (wI (wI (wI (wI (wI M (fR M 3 8 + 1) ls.length 3) (fR M 3 8 + 2) ls.length 0) (fR M 3 8 + 3) ls.length 0) (fR M 3 8 + 4) ls.length (zI M (fR M 3 8) 9)) (fR M 3 8 + 5) ls.length (zI M (fR M 3 8) 9)) := ((((FA.wI (by simp)).trans (FA.wI (by simp))).trans (FA.wI (by simp))).trans (FA.wI (by simp))).trans (FA.wI (by simp))
  have S5 : SQ (wI (wI (wI (wI (wI M (fR M 3 8 + 1) ls.length 3) (fR M 3 8 + 2) ls.length 0) (fR M 3 8 + 3) ls.length 0) (fR M 3 8 + 4) ls.length (zI M (fR M 3 8) 9)) (fR M 3 8 + 5) ls.length (zI M (fR M 3 8) 9)) := hC.1.ki.ki.ki.ki.ki
  have C5 : CSt B n (fR M 3 8) (wI (wI (wI (wI (wI M (fR M 3 8 + 1) ls.length 3) (fR M 3 8 + 2) ls.length 0) (fR M 3 8 + 3) ls.length 0) (fR M 3 8 + 4) ls.length (zI M (fR M 3 8) 9)) (fR M 3 8 + 5) ls.length (zI M (fR M 3 8) 9)) s := hC.frm S5 F1 (fun q _ r => by cases r) (fun b hb r => by
    simp only [List.mem_cons, List.not_mem_nil, or_false] at hb r
    omega)
  have E5 : ENq (wI (wI (wI (wI (wI M (fR M 3 8 + 1) ls.length 3) (fR M 3 8 + 2) ls.length 0) (fR M 3 8 + 3) ls.length 0) (fR M 3 8 + 4) ls.length (zI M (fR M 3 8) 9)) (fR M 3 8 + 5) ls.length (zI M (fR M 3 8) 9)) (fR M 3 8) ls.length 3 0 0 s.2.2.length := by
    refine ⟨?_, ?_, ?_, ?_⟩
    · rw [rN_wI_ne (fun q => by omega), rN_wI_ne (fun q => by omega), rN_wI_ne (fun q => by omega), rN_wI_ne (fun q => by omega), rN_wI_eq (by rw [(hC.1.1.row (fx_g0 ht) qw_29).2]; exact hl16)]
    · rw [rN_wI_ne (fun q => by omega), rN_wI_ne (fun q => by omega), rN_wI_ne (fun q => by omega), rN_wI_eq (by rw [(s1.1.row (fx_g1 ht) qw_30).2]; exact hl16)]
    · rw [rN_wI_ne (fun q => by omega), rN_wI_ne (fun q => by omega), rN_wI_eq (by rw [(s1.ki.1.row (fx_g2 ht) qw_31).2]; exact hl16)]
    · rw [rN_wI_ne (fun q => by omega), rN_wI_eq (by rw [(s1.ki.ki.1.row (fx_g3 ht) qw_32).2]; exact hl16)]
      exact hcs
  obtain ⟨p1, p2, p3, p4⟩ := fP_no hb.1
  obtain ⟨rfl, F2, C2⟩ := C5.go ht (by rw [hw]; decide) (by rw [hw]; decide) H1
  have P2 : PRE B n (fR M 3 8) M1 (s.1.tail, s.2.1, s.2.2) ls 3 0 s.2.2.length := ⟨C2, (hL.ui.ui.ui.ui.ui).frm F2 p2 p3, E5.frm F2 p4, (hF.frm F1 (fun q _ r => by cases r)).frm F2 p1, hl16⟩
  have F12 : FA (fLq (fR M 3 8)) (wLn (fR M 3 8)) M M1 := (F1.more (fun q hq => by cases hq) (fun q hq => by
    simp only [wLn, List.mem_cons, List.not_mem_nil, or_false] at hq ⊢
    rcases hq with h | h | h | h | h <;> simp [h])).trans F2.ln
  have h91 : fR M1 3 8 = fR M 3 8 := F12.fr (by simp [fLq]; omega)
  unfold bodB
  rw [if_neg (by decide : ¬ (3 : Int32) = 6), if_neg (by decide : ¬ (3 : Int32) = 5)]
  obtain ⟨e3, v3, M3, he, H3, H⟩ := ln3_147 C2.1 (by rw [h91]; exact ht) H
  cases he
  obtain ⟨F3, R3⟩ := nu3_ok ht P2 hL.1 hk H3
  have FX := F12.trans F3
  have h93 : fR M3 3 8 = fR M 3 8 := FX.fr (by simp [fLq]; omega)
  rcases R3 with ⟨q1, q2⟩ | ⟨q1, q2, q3⟩ | ⟨q1, q2, rfl, Q3⟩
  · unfold numB
    rw [if_pos q1]
    obtain ⟨rfl, S9, r9⟩ := q2
    rcases ln3_175 S9 (by rw [h93]; exact ht) H with ⟨_, h3, rfl⟩ | ⟨h3, _⟩ | ⟨h3, _⟩
    · exact ⟨FX, h3, S9, r9⟩
    · exact absurd rfl h3
    · exact absurd rfl h3
  · unfold numB
    rw [if_neg (fun q => q q1), if_pos q2]
    obtain ⟨rfl, S9, r9⟩ := q3
    rcases ln3_175 S9 (by rw [h93]; exact ht) H with ⟨_, h3, rfl⟩ | ⟨h3, _⟩ | ⟨h3, _⟩
    · exact ⟨FX, h3, S9, r9⟩
    · exact absurd rfl h3
    · exact absurd rfl h3
  · unfold numB
    rw [if_neg (fun q => q q1), if_neg q2]
    unfold cndB
    rw [if_neg (by decide : ¬ (3 : Int32) = 6), if_neg (fun q => absurd q.1 (by decide))]
    rcases ln3_175 Q3.1.1 (by rw [h93]; exact ht) H with ⟨h3, _⟩ | ⟨_, g4, g5⟩ | ⟨_, g4, g5⟩
    · exact absurd h3 (by decide)
    · obtain ⟨f7, r7⟩ := en3_ok ht Q3 hl16 hL.1 (Or.inl ⟨g4, g5⟩)
      exact ⟨FX.trans f7, r7⟩
    · obtain ⟨f7, r7⟩ := en3_ok ht Q3 hl16 hL.1 (Or.inr ⟨g4, g5⟩)
      exact ⟨FX.trans f7, r7⟩
theorem li4_ok {e : Nat} {v : Option Value} {a : Int32} (ht : gNth sT t = some 28) (hn2 : n ≤ 440) (hCL : CL B n t M s ls) (hw : (hdT s.1).1 = 2) (H : Ev none (e + 1) 33 44 [some (.ref 3), some (.int a), some (.int 4), none, none, none, none] [] M v M' 0 0) : FA (fLq t) (wLn t) M M' ∧ LNr B n t M' v (if 16 ≤ ls.length ∨ (onceB 4 = true ∧ hasK ls 4 = true) then .inr (3, (hdT s.1).2.1) else bodB B ((prS B e).1 1) (s.1.tail, s.2.1, s.2.2) ls 4) := by
  obtain ⟨hC, hL, hF⟩ := hCL
  have hb := tx_ge ht
  have h8 := hC.2.2.2.2.2.1
  have hcs := hC.2.2.2.2.2.2.1.1
  subst h8
  have hix : (zI M (fR M 3 8) 8).toNatClampNeg = ls.length := cl_n hL.1
  have o16 : (16 : Int32).toInt = 16 := rfl
  have h16 : (16 ≤ zI M (fR M 3 8) 8) ↔ 16 ≤ ls.length := by rw [Int32.le_iff_toInt_le, hL.1]; omega
  have bits := td_bits (hasK ls 2) (hasK ls 3) (hasK ls 4) (hasK ls 7)
  have htd : zI M 3 10 = tdB (hasK ls 2) (hasK ls 3) (hasK ls 4) (hasK ls 7) := hF.2.2.2.2
  rcases ln4_44 hC.1 ht H with ⟨g1, e1, v1, M1, he, H1, H⟩ | ⟨g1, g2, -, -, -, -, -, e1, v1, M1, he, H1, H⟩ | ⟨g1, g2, e1, v1, M1, he, H1, H⟩
  · rw [if_pos (Or.inl (h16.mp g1))]
    obtain ⟨f1, f2⟩ := hC.err (v := v) (M' := M') H1 (fun y hy S => by subst hy; exact ln4_72 S (by rw [(hC.fail H1).1.fr (by simp [fP])]; exact ht) H)
    exact ⟨f1.ln, f2⟩
  rotate_left
  · rw [htd] at g2
    have hk : hasK ls 4 = true := by
      cases hq : hasK ls 4 with
      | true => rfl
      | false => exact absurd (bits.2.2.1.mpr hq) g2
    rw [if_pos (Or.inr ⟨rfl, hk⟩)]
    obtain ⟨f1, f2⟩ := hC.err (v := v) (M' := M') H1 (fun y hy S => by subst hy; exact ln4_72 S (by rw [(hC.fail H1).1.fr (by simp [fP])]; exact ht) H)
    exact ⟨f1.ln, f2⟩
  rw [htd] at g2
  have hk : hasK ls 4 = false := bits.2.2.1.mp g2
  have hno : ¬ (16 ≤ ls.length ∨ (onceB 4 = true ∧ hasK ls 4 = true)) := fun q => q.elim (fun x => g1 (h16.mpr x)) (fun x => by rw [hk] at x; exact absurd x.2 (by decide))
  have hl16 : ls.length < 16 := by
    by_cases q : 16 ≤ ls.length
    · exact absurd (Or.inl q) hno
    · omega
  rw [if_neg hno]
  cases he
  rw [hix] at H1
  have s1 : SQ (wI M (fR M 3 8 + 1) ls.length 4) := hC.1.ki
  have F1 : FA [] [fR M 3 8 + 1, fR M 3 8 + 2, fR M 3 8 + 3, fR M 3 8 + 4, fR M 3 8 + 5] M (wI (wI (wI (wI (wI M (fR M 3 8 + 1) ls.length 4) (fR M 3 8 + 2) ls.length 0) (fR M 3 8 + 3) ls.length 0) (fR M 3 8 + 4) ls.length (zI M (fR M 3 8) 9)) (fR M 3 8 + 5) ls.length (zI M (fR M 3 8) 9)) := ((((FA.wI (by simp)).trans (FA.wI (by simp))).trans (FA.wI (by simp))).trans (FA.wI (by simp))).trans (FA.wI (by simp))
  have S5 : SQ (wI (wI (wI (wI (wI M (fR M 3 8 + 1) ls.length 4) (fR M 3 8 + 2) ls.length 0) (fR M 3 8 + 3) ls.length 0) (fR M 3 8 + 4) ls.length (zI M (fR M 3 8) 9)) (fR M 3 8 + 5) ls.length (zI M (fR M 3 8) 9)) := hC.1.ki.ki.ki.ki.ki
  have C5 : CSt B n (fR M 3 8) (wI (wI (wI (wI (wI M (fR M 3 8 + 1) ls.length 4) (fR M 3 8 + 2) ls.length 0) (fR M 3 8 + 3) ls.length 0) (fR M 3 8 + 4) ls.length (zI M (fR M 3 8) 9)) (fR M 3 8 + 5) ls.length (zI M (fR M 3 8) 9)) s := hC.frm S5 F1 (fun q _ r => by cases r) (fun b hb r => by
    simp only [List.mem_cons, List.not_mem_nil, or_false] at hb r
    omega)
  have E5 : ENq (wI (wI (wI (wI (wI M (fR M 3 8 + 1) ls.length 4) (fR M 3 8 + 2) ls.length 0) (fR M 3 8 + 3) ls.length 0) (fR M 3 8 + 4) ls.length (zI M (fR M 3 8) 9)) (fR M 3 8 + 5) ls.length (zI M (fR M 3 8) 9)) (fR M 3 8) ls.length 4 0 0 s.2.2.length := by
    refine ⟨?_, ?_, ?_, ?_⟩
    · rw [rN_wI_ne (fun q => by omega), rN_wI_ne (fun q => by omega), rN_wI_ne (fun q => by omega), rN_wI_ne (fun q => by omega), rN_wI_eq (by rw [(hC.1.1.row (fx_g0 ht) qw_29).2]; exact hl16)]
    · rw [rN_wI_ne (fun q => by omega), rN_wI_ne (fun q => by omega), rN_wI_ne (fun q => by omega), rN_wI_eq (by rw [(s1.1.row (fx_g1 ht) qw_30).2]; exact hl16)]
    · rw [rN_wI_ne (fun q => by omega), rN_wI_ne (fun q => by omega), rN_wI_eq (by rw [(s1.ki.1.row (fx_g2 ht) qw_31).2]; exact hl16)]
    · rw [rN_wI_ne (fun q => by omega), rN_wI_eq (by rw [(s1.ki.ki.1.row (fx_g3 ht) qw_32).2]; exact hl16)]
      exact hcs
  obtain ⟨p1, p2, p3, p4⟩ := fP_no hb.1
  obtain ⟨rfl, F2, C2⟩ := C5.go ht (by rw [hw]; decide) (by rw [hw]; decide) H1
  have P2 : PRE B n (fR M 3 8) M1 (s.1.tail, s.2.1, s.2.2) ls 4 0 s.2.2.length := ⟨C2, (hL.ui.ui.ui.ui.ui).frm F2 p2 p3, E5.frm F2 p4, (hF.frm F1 (fun q _ r => by cases r)).frm F2 p1, hl16⟩
  have F12 : FA (fLq (fR M 3 8)) (wLn (fR M 3 8)) M M1 := (F1.more (fun q hq => by cases hq) (fun q hq => by
    simp only [wLn, List.mem_cons, List.not_mem_nil, or_false] at hq ⊢
    rcases hq with h | h | h | h | h <;> simp [h])).trans F2.ln
  have h91 : fR M1 3 8 = fR M 3 8 := F12.fr (by simp [fLq]; omega)
  unfold bodB
  rw [if_neg (by decide : ¬ (4 : Int32) = 6), if_neg (by decide : ¬ (4 : Int32) = 5)]
  obtain ⟨e3, v3, M3, he, H3, H⟩ := ln4_147 C2.1 (by rw [h91]; exact ht) H
  cases he
  obtain ⟨F3, R3⟩ := nu4_ok ht P2 hL.1 hk H3
  have FX := F12.trans F3
  have h93 : fR M3 3 8 = fR M 3 8 := FX.fr (by simp [fLq]; omega)
  rcases R3 with ⟨q1, q2⟩ | ⟨q1, q2, q3⟩ | ⟨q1, q2, rfl, Q3⟩
  · unfold numB
    rw [if_pos q1]
    obtain ⟨rfl, S9, r9⟩ := q2
    rcases ln4_175 S9 (by rw [h93]; exact ht) H with ⟨_, h3, rfl⟩ | ⟨h3, _⟩ | ⟨h3, _⟩
    · exact ⟨FX, h3, S9, r9⟩
    · exact absurd rfl h3
    · exact absurd rfl h3
  · unfold numB
    rw [if_neg (fun q => q q1), if_pos q2]
    obtain ⟨rfl, S9, r9⟩ := q3
    rcases ln4_175 S9 (by rw [h93]; exact ht) H with ⟨_, h3, rfl⟩ | ⟨h3, _⟩ | ⟨h3, _⟩
    · exact ⟨FX, h3, S9, r9⟩
    · exact absurd rfl h3
    · exact absurd rfl h3
  · unfold numB
    rw [if_neg (fun q => q q1), if_neg q2]
    unfold cndB
    rw [if_neg (by decide : ¬ (4 : Int32) = 6), if_neg (fun q => absurd q.1 (by decide))]
    rcases ln4_175 Q3.1.1 (by rw [h93]; exact ht) H with ⟨h3, _⟩ | ⟨_, g4, g5⟩ | ⟨_, g4, g5⟩
    · exact absurd h3 (by decide)
    · obtain ⟨f7, r7⟩ := en4_ok ht Q3 hl16 hL.1 (Or.inl ⟨g4, g5⟩)
      exact ⟨FX.trans f7, r7⟩
    · obtain ⟨f7, r7⟩ := en4_ok ht Q3 hl16 hL.1 (Or.inr ⟨g4, g5⟩)
      exact ⟨FX.trans f7, r7⟩
theorem li5_ok {e : Nat} {v : Option Value} {a : Int32} (ht : gNth sT t = some 28) (hn2 : n ≤ 440) (hCL : CL B n t M s ls) (hw : (hdT s.1).1 = 2) (H : Ev none (e + 1) 33 44 [some (.ref 3), some (.int a), some (.int 5), none, none, none, none] [] M v M' 0 0) : FA (fLq t) (wLn t) M M' ∧ LNr B n t M' v (if 16 ≤ ls.length ∨ (onceB 5 = true ∧ hasK ls 5 = true) then .inr (3, (hdT s.1).2.1) else bodB B ((prS B e).1 1) (s.1.tail, s.2.1, s.2.2) ls 5) := by
  obtain ⟨hC, hL, hF⟩ := hCL
  have hb := tx_ge ht
  have h8 := hC.2.2.2.2.2.1
  have hcs := hC.2.2.2.2.2.2.1.1
  subst h8
  have hix : (zI M (fR M 3 8) 8).toNatClampNeg = ls.length := cl_n hL.1
  have o16 : (16 : Int32).toInt = 16 := rfl
  have h16 : (16 ≤ zI M (fR M 3 8) 8) ↔ 16 ≤ ls.length := by rw [Int32.le_iff_toInt_le, hL.1]; omega
  have bits := td_bits (hasK ls 2) (hasK ls 3) (hasK ls 4) (hasK ls 7)
  have htd : zI M 3 10 = tdB (hasK ls 2) (hasK ls 3) (hasK ls 4) (hasK ls 7) := hF.2.2.2.2
  rcases ln5_44 hC.1 ht H with ⟨g1, e1, v1, M1, he, H1, H⟩ | ⟨g1, g2, -, -, -, -, -, e1, v1, M1, he, H1, H⟩ | ⟨g1, g2, e1, v1, M1, he, H1, H⟩
  · rw [if_pos (Or.inl (h16.mp g1))]
    obtain ⟨f1, f2⟩ := hC.err (v := v) (M' := M') H1 (fun y hy S => by subst hy; exact ln5_72 S (by rw [(hC.fail H1).1.fr (by simp [fP])]; exact ht) H)
    exact ⟨f1.ln, f2⟩
  rotate_left
  · rw [htd] at g2
    exact absurd bits.2.2.2.2.2.2.1 g2
  have hno : ¬ (16 ≤ ls.length ∨ (onceB 5 = true ∧ hasK ls 5 = true)) := fun q => q.elim (fun x => g1 (h16.mpr x)) (fun x => absurd x.1 (by decide))
  have hl16 : ls.length < 16 := by
    by_cases q : 16 ≤ ls.length
    · exact absurd (Or.inl q) hno
    · omega
  rw [if_neg hno]
  cases he
  rw [hix] at H1
  have s1 : SQ (wI M (fR M 3 8 + 1) ls.length 5) := hC.1.ki
  have F1 : FA [] [fR M 3 8 + 1, fR M 3 8 + 2, fR M 3 8 + 3, fR M 3 8 + 4, fR M 3 8 + 5] M (wI (wI (wI (wI (wI M (fR M 3 8 + 1) ls.length 5) (fR M 3 8 + 2) ls.length 0) (fR M 3 8 + 3) ls.length 0) (fR M 3 8 + 4) ls.length (zI M (fR M 3 8) 9)) (fR M 3 8 + 5) ls.length (zI M (fR M 3 8) 9)) := ((((FA.wI (by simp)).trans (FA.wI (by simp))).trans (FA.wI (by simp))).trans (FA.wI (by simp))).trans (FA.wI (by simp))
  have S5 : SQ (wI (wI (wI (wI (wI M (fR M 3 8 + 1) ls.length 5) (fR M 3 8 + 2) ls.length 0) (fR M 3 8 + 3) ls.length 0) (fR M 3 8 + 4) ls.length (zI M (fR M 3 8) 9)) (fR M 3 8 + 5) ls.length (zI M (fR M 3 8) 9)) := hC.1.ki.ki.ki.ki.ki
  have C5 : CSt B n (fR M 3 8) (wI (wI (wI (wI (wI M (fR M 3 8 + 1) ls.length 5) (fR M 3 8 + 2) ls.length 0) (fR M 3 8 + 3) ls.length 0) (fR M 3 8 + 4) ls.length (zI M (fR M 3 8) 9)) (fR M 3 8 + 5) ls.length (zI M (fR M 3 8) 9)) s := hC.frm S5 F1 (fun q _ r => by cases r) (fun b hb r => by
    simp only [List.mem_cons, List.not_mem_nil, or_false] at hb r
    omega)
  have E5 : ENq (wI (wI (wI (wI (wI M (fR M 3 8 + 1) ls.length 5) (fR M 3 8 + 2) ls.length 0) (fR M 3 8 + 3) ls.length 0) (fR M 3 8 + 4) ls.length (zI M (fR M 3 8) 9)) (fR M 3 8 + 5) ls.length (zI M (fR M 3 8) 9)) (fR M 3 8) ls.length 5 0 0 s.2.2.length := by
    refine ⟨?_, ?_, ?_, ?_⟩
    · rw [rN_wI_ne (fun q => by omega), rN_wI_ne (fun q => by omega), rN_wI_ne (fun q => by omega), rN_wI_ne (fun q => by omega), rN_wI_eq (by rw [(hC.1.1.row (fx_g0 ht) qw_29).2]; exact hl16)]
    · rw [rN_wI_ne (fun q => by omega), rN_wI_ne (fun q => by omega), rN_wI_ne (fun q => by omega), rN_wI_eq (by rw [(s1.1.row (fx_g1 ht) qw_30).2]; exact hl16)]
    · rw [rN_wI_ne (fun q => by omega), rN_wI_ne (fun q => by omega), rN_wI_eq (by rw [(s1.ki.1.row (fx_g2 ht) qw_31).2]; exact hl16)]
    · rw [rN_wI_ne (fun q => by omega), rN_wI_eq (by rw [(s1.ki.ki.1.row (fx_g3 ht) qw_32).2]; exact hl16)]
      exact hcs
  obtain ⟨p1, p2, p3, p4⟩ := fP_no hb.1
  obtain ⟨rfl, F2, C2⟩ := C5.go ht (by rw [hw]; decide) (by rw [hw]; decide) H1
  have P2 : PRE B n (fR M 3 8) M1 (s.1.tail, s.2.1, s.2.2) ls 5 0 s.2.2.length := ⟨C2, (hL.ui.ui.ui.ui.ui).frm F2 p2 p3, E5.frm F2 p4, (hF.frm F1 (fun q _ r => by cases r)).frm F2 p1, hl16⟩
  have F12 : FA (fLq (fR M 3 8)) (wLn (fR M 3 8)) M M1 := (F1.more (fun q hq => by cases hq) (fun q hq => by
    simp only [wLn, List.mem_cons, List.not_mem_nil, or_false] at hq ⊢
    rcases hq with h | h | h | h | h <;> simp [h])).trans F2.ln
  have h91 : fR M1 3 8 = fR M 3 8 := F12.fr (by simp [fLq]; omega)
  unfold bodB
  rw [if_neg (by decide : ¬ (5 : Int32) = 6), if_pos rfl]
  obtain ⟨e3, v3, M3, he, H3, H⟩ := ln5_147 C2.1 (by rw [h91]; exact ht) H
  cases he
  obtain ⟨F3, R3⟩ := wg_ok ht hn2 P2 hL.1 H3
  have FX := F12.trans F3
  have h93 : fR M3 3 8 = fR M 3 8 := FX.fr (by simp [fLq]; omega)
  rcases R3 with ⟨q1, q2⟩ | ⟨q0, ⟨q1, q2⟩ | ⟨q1, q2, q3⟩ | ⟨q1, q2, rfl, Q3⟩⟩
  · rw [if_pos q1]
    obtain ⟨rfl, S9, r9⟩ := q2
    rcases ln5_163 S9 (by rw [h93]; exact ht) H with ⟨_, h3, rfl⟩ | ⟨h3, _⟩
    · exact ⟨FX, h3, S9, r9⟩
    · exact absurd rfl h3
  · rw [if_neg q0]
    unfold numB
    rw [if_pos q1]
    obtain ⟨rfl, S9, r9⟩ := q2
    rcases ln5_163 S9 (by rw [h93]; exact ht) H with ⟨_, h3, rfl⟩ | ⟨h3, _⟩
    · exact ⟨FX, h3, S9, r9⟩
    · exact absurd rfl h3
  · rw [if_neg q0]
    unfold numB
    rw [if_neg (fun q => q q1), if_pos q2]
    obtain ⟨rfl, S9, r9⟩ := q3
    rcases ln5_163 S9 (by rw [h93]; exact ht) H with ⟨_, h3, rfl⟩ | ⟨h3, _⟩
    · exact ⟨FX, h3, S9, r9⟩
    · exact absurd rfl h3
  · rw [if_neg q0]
    unfold numB
    rw [if_neg (fun q => q q1), if_neg q2]
    rcases ln5_163 Q3.1.1 (by rw [h93]; exact ht) H with ⟨h3, _⟩ | ⟨_, e4, v4, M4, he, H4, H⟩
    · exact absurd h3 (by decide)
    cases he
    obtain ⟨rfl, rfl⟩ := amq_all (ws := [ifW]) Q3.1.1 hn2 Q3.1.2.2.1 rfl (by decide) (List.cons_ne_nil _ _) (by decide) (by decide) H4
    rw [Q3.1.wd] at H
    have hx : ∀ w : List Int32, ixF w [ifW] 0 = if w = ifW then 0 else -1 := fun w => rfl
    unfold cndB
    rw [if_neg (by decide : ¬ (5 : Int32) = 6)]
    by_cases hw2 : wdS B (hdT ((s.1.tail.tail.tail, s.2.1, s.2.2) : Sg).1) = ifW
    · rw [hx, if_pos (by exact hw2)] at H
      rw [if_pos ⟨by decide, hw2⟩]
      have h2t := wd_ne hw2 (by decide)
      rcases ln5_224 Q3.1.1 (by rw [h93]; exact ht) H with ⟨_, e5, v5, M5, he, H5, H⟩ | ⟨h3, _⟩ | ⟨h3, _⟩
      rotate_left
      · exact absurd rfl h3
      · exact absurd rfl h3
      obtain ⟨rfl, F5, Q5⟩ := Q3.go ht (by rw [show (hdT ((s.1.tail.tail.tail, s.2.1, s.2.2) : Sg).1).1 = 2 from h2t]; decide) (by rw [show (hdT ((s.1.tail.tail.tail, s.2.1, s.2.2) : Sg).1).1 = 2 from h2t]; decide) H5
      have h95 : fR M5 3 8 = fR M 3 8 := Q5.1.2.2.2.2.2.1
      obtain ⟨e6, v6, M6, he, H6, H⟩ := ln5_243 Q5.1.1 (by rw [h95]; exact ht) H
      cases he
      obtain ⟨F6, R6⟩ := Q5.con ht hn2 H6
      have FY := (FX.trans F5).trans F6
      have h96 : fR M6 3 8 = fR M 3 8 := FY.fr (by simp [fLq]; omega)
      cases hr : (prS B e).1 1 (((s.1.tail.tail.tail, s.2.1, s.2.2) : Sg).1.tail, ((s.1.tail.tail.tail, s.2.1, s.2.2) : Sg).2.1, ((s.1.tail.tail.tail, s.2.1, s.2.2) : Sg).2.2) with
      | inr f =>
        rw [hr] at R6
        obtain ⟨rfl, S9, r9⟩ := R6
        rcases ln5_259 S9 (by rw [h96]; exact ht) H with ⟨_, h3, rfl⟩ | ⟨h3, _⟩ | ⟨h3, _⟩
        · exact ⟨FY, h3, S9, r9⟩
        · exact absurd rfl h3
        · exact absurd rfl h3
      | inl s2 =>
        rw [hr] at R6
        obtain ⟨rfl, Q6⟩ := R6
        rcases ln5_259 Q6.1.1 (by rw [h96]; exact ht) H with ⟨h3, _⟩ | ⟨_, g4, g5⟩ | ⟨_, g4, g5⟩
        · exact absurd h3 (by decide)
        · obtain ⟨f7, r7⟩ := en5_ok ht Q6 hl16 hL.1 (Or.inl ⟨g4, g5⟩)
          exact ⟨FY.trans f7, r7⟩
        · obtain ⟨f7, r7⟩ := en5_ok ht Q6 hl16 hL.1 (Or.inr ⟨g4, g5⟩)
          exact ⟨FY.trans f7, r7⟩
    · rw [hx, if_neg (by exact hw2)] at H
      rw [if_neg (fun q => hw2 q.2)]
      rcases ln5_224 Q3.1.1 (by rw [h93]; exact ht) H with ⟨h3, _⟩ | ⟨_, g4, g5⟩ | ⟨_, g4, g5⟩
      · exact absurd h3 (by decide)
      · obtain ⟨f7, r7⟩ := en5_ok ht Q3 hl16 hL.1 (Or.inl ⟨g4, g5⟩)
        exact ⟨FX.trans f7, r7⟩
      · obtain ⟨f7, r7⟩ := en5_ok ht Q3 hl16 hL.1 (Or.inr ⟨g4, g5⟩)
        exact ⟨FX.trans f7, r7⟩
theorem li6_ok {e : Nat} {v : Option Value} {a : Int32} (ht : gNth sT t = some 28) (hn2 : n ≤ 440) (hCL : CL B n t M s ls) (hw : (hdT s.1).1 = 2) (H : Ev none (e + 1) 33 44 [some (.ref 3), some (.int a), some (.int 6), none, none, none, none] [] M v M' 0 0) : FA (fLq t) (wLn t) M M' ∧ LNr B n t M' v (if 16 ≤ ls.length ∨ (onceB 6 = true ∧ hasK ls 6 = true) then .inr (3, (hdT s.1).2.1) else bodB B ((prS B e).1 1) (s.1.tail, s.2.1, s.2.2) ls 6) := by
  obtain ⟨hC, hL, hF⟩ := hCL
  have hb := tx_ge ht
  have h8 := hC.2.2.2.2.2.1
  have hcs := hC.2.2.2.2.2.2.1.1
  subst h8
  have hix : (zI M (fR M 3 8) 8).toNatClampNeg = ls.length := cl_n hL.1
  have o16 : (16 : Int32).toInt = 16 := rfl
  have h16 : (16 ≤ zI M (fR M 3 8) 8) ↔ 16 ≤ ls.length := by rw [Int32.le_iff_toInt_le, hL.1]; omega
  have bits := td_bits (hasK ls 2) (hasK ls 3) (hasK ls 4) (hasK ls 7)
  have htd : zI M 3 10 = tdB (hasK ls 2) (hasK ls 3) (hasK ls 4) (hasK ls 7) := hF.2.2.2.2
  rcases ln6_44 hC.1 ht H with ⟨g1, e1, v1, M1, he, H1, H⟩ | ⟨g1, g2, -, -, -, -, -, e1, v1, M1, he, H1, H⟩ | ⟨g1, g2, e1, v1, M1, he, H1, H⟩
  · rw [if_pos (Or.inl (h16.mp g1))]
    obtain ⟨f1, f2⟩ := hC.err (v := v) (M' := M') H1 (fun y hy S => by subst hy; exact ln6_72 S (by rw [(hC.fail H1).1.fr (by simp [fP])]; exact ht) H)
    exact ⟨f1.ln, f2⟩
  rotate_left
  · rw [htd] at g2
    exact absurd bits.2.2.2.2.2.2.2.1 g2
  have hno : ¬ (16 ≤ ls.length ∨ (onceB 6 = true ∧ hasK ls 6 = true)) := fun q => q.elim (fun x => g1 (h16.mpr x)) (fun x => absurd x.1 (by decide))
  have hl16 : ls.length < 16 := by
    by_cases q : 16 ≤ ls.length
    · exact absurd (Or.inl q) hno
    · omega
  rw [if_neg hno]
  cases he
  rw [hix] at H1
  have s1 : SQ (wI M (fR M 3 8 + 1) ls.length 6) := hC.1.ki
  have F1 : FA [] [fR M 3 8 + 1, fR M 3 8 + 2, fR M 3 8 + 3, fR M 3 8 + 4, fR M 3 8 + 5] M (wI (wI (wI (wI (wI M (fR M 3 8 + 1) ls.length 6) (fR M 3 8 + 2) ls.length 0) (fR M 3 8 + 3) ls.length 0) (fR M 3 8 + 4) ls.length (zI M (fR M 3 8) 9)) (fR M 3 8 + 5) ls.length (zI M (fR M 3 8) 9)) := ((((FA.wI (by simp)).trans (FA.wI (by simp))).trans (FA.wI (by simp))).trans (FA.wI (by simp))).trans (FA.wI (by simp))
  have S5 : SQ (wI (wI (wI (wI (wI M (fR M 3 8 + 1) ls.length 6) (fR M 3 8 + 2) ls.length 0) (fR M 3 8 + 3) ls.length 0) (fR M 3 8 + 4) ls.length (zI M (fR M 3 8) 9)) (fR M 3 8 + 5) ls.length (zI M (fR M 3 8) 9)) := hC.1.ki.ki.ki.ki.ki
  have C5 : CSt B n (fR M 3 8) (wI (wI (wI (wI (wI M (fR M 3 8 + 1) ls.length 6) (fR M 3 8 + 2) ls.length 0) (fR M 3 8 + 3) ls.length 0) (fR M 3 8 + 4) ls.length (zI M (fR M 3 8) 9)) (fR M 3 8 + 5) ls.length (zI M (fR M 3 8) 9)) s := hC.frm S5 F1 (fun q _ r => by cases r) (fun b hb r => by
    simp only [List.mem_cons, List.not_mem_nil, or_false] at hb r
    omega)
  have E5 : ENq (wI (wI (wI (wI (wI M (fR M 3 8 + 1) ls.length 6) (fR M 3 8 + 2) ls.length 0) (fR M 3 8 + 3) ls.length 0) (fR M 3 8 + 4) ls.length (zI M (fR M 3 8) 9)) (fR M 3 8 + 5) ls.length (zI M (fR M 3 8) 9)) (fR M 3 8) ls.length 6 0 0 s.2.2.length := by
    refine ⟨?_, ?_, ?_, ?_⟩
    · rw [rN_wI_ne (fun q => by omega), rN_wI_ne (fun q => by omega), rN_wI_ne (fun q => by omega), rN_wI_ne (fun q => by omega), rN_wI_eq (by rw [(hC.1.1.row (fx_g0 ht) qw_29).2]; exact hl16)]
    · rw [rN_wI_ne (fun q => by omega), rN_wI_ne (fun q => by omega), rN_wI_ne (fun q => by omega), rN_wI_eq (by rw [(s1.1.row (fx_g1 ht) qw_30).2]; exact hl16)]
    · rw [rN_wI_ne (fun q => by omega), rN_wI_ne (fun q => by omega), rN_wI_eq (by rw [(s1.ki.1.row (fx_g2 ht) qw_31).2]; exact hl16)]
    · rw [rN_wI_ne (fun q => by omega), rN_wI_eq (by rw [(s1.ki.ki.1.row (fx_g3 ht) qw_32).2]; exact hl16)]
      exact hcs
  obtain ⟨p1, p2, p3, p4⟩ := fP_no hb.1
  obtain ⟨rfl, F2, C2⟩ := C5.go ht (by rw [hw]; decide) (by rw [hw]; decide) H1
  have P2 : PRE B n (fR M 3 8) M1 (s.1.tail, s.2.1, s.2.2) ls 6 0 s.2.2.length := ⟨C2, (hL.ui.ui.ui.ui.ui).frm F2 p2 p3, E5.frm F2 p4, (hF.frm F1 (fun q _ r => by cases r)).frm F2 p1, hl16⟩
  have F12 : FA (fLq (fR M 3 8)) (wLn (fR M 3 8)) M M1 := (F1.more (fun q hq => by cases hq) (fun q hq => by
    simp only [wLn, List.mem_cons, List.not_mem_nil, or_false] at hq ⊢
    rcases hq with h | h | h | h | h <;> simp [h])).trans F2.ln
  have h91 : fR M1 3 8 = fR M 3 8 := F12.fr (by simp [fLq]; omega)
  unfold bodB cndB
  rw [if_pos rfl, if_pos rfl]
  obtain ⟨e3, v3, M3, he, H3, H⟩ := ln6_147 C2.1 (by rw [h91]; exact ht) H
  cases he
  obtain ⟨F3, R3⟩ := P2.mid6.con ht hn2 H3
  have FX := F12.trans F3
  have h93 : fR M3 3 8 = fR M 3 8 := FX.fr (by simp [fLq]; omega)
  cases hr : (prS B e).1 1 (s.1.tail, s.2.1, s.2.2) with
  | inr f =>
    rw [hr] at R3
    obtain ⟨rfl, S9, r9⟩ := R3
    rcases ln6_259 S9 (by rw [h93]; exact ht) H with ⟨_, h3, rfl⟩ | ⟨h3, _⟩ | ⟨h3, _⟩
    · exact ⟨FX, h3, S9, r9⟩
    · exact absurd rfl h3
    · exact absurd rfl h3
  | inl s2 =>
    rw [hr] at R3
    obtain ⟨rfl, Q3⟩ := R3
    rcases ln6_259 Q3.1.1 (by rw [h93]; exact ht) H with ⟨h3, _⟩ | ⟨_, g4, g5⟩ | ⟨_, g4, g5⟩
    · exact absurd h3 (by decide)
    · obtain ⟨f7, r7⟩ := en6_ok ht Q3 hl16 hL.1 (Or.inl ⟨g4, g5⟩)
      exact ⟨FX.trans f7, r7⟩
    · obtain ⟨f7, r7⟩ := en6_ok ht Q3 hl16 hL.1 (Or.inr ⟨g4, g5⟩)
      exact ⟨FX.trans f7, r7⟩
theorem li7_ok {e : Nat} {v : Option Value} {a : Int32} (ht : gNth sT t = some 28) (hn2 : n ≤ 440) (hCL : CL B n t M s ls) (hw : (hdT s.1).1 = 2) (H : Ev none (e + 1) 33 44 [some (.ref 3), some (.int a), some (.int 7), none, none, none, none] [] M v M' 0 0) : FA (fLq t) (wLn t) M M' ∧ LNr B n t M' v (if 16 ≤ ls.length ∨ (onceB 7 = true ∧ hasK ls 7 = true) then .inr (3, (hdT s.1).2.1) else bodB B ((prS B e).1 1) (s.1.tail, s.2.1, s.2.2) ls 7) := by
  obtain ⟨hC, hL, hF⟩ := hCL
  have hb := tx_ge ht
  have h8 := hC.2.2.2.2.2.1
  have hcs := hC.2.2.2.2.2.2.1.1
  subst h8
  have hix : (zI M (fR M 3 8) 8).toNatClampNeg = ls.length := cl_n hL.1
  have o16 : (16 : Int32).toInt = 16 := rfl
  have h16 : (16 ≤ zI M (fR M 3 8) 8) ↔ 16 ≤ ls.length := by rw [Int32.le_iff_toInt_le, hL.1]; omega
  have bits := td_bits (hasK ls 2) (hasK ls 3) (hasK ls 4) (hasK ls 7)
  have htd : zI M 3 10 = tdB (hasK ls 2) (hasK ls 3) (hasK ls 4) (hasK ls 7) := hF.2.2.2.2
  rcases ln7_44 hC.1 ht H with ⟨g1, e1, v1, M1, he, H1, H⟩ | ⟨g1, g2, -, -, -, -, -, e1, v1, M1, he, H1, H⟩ | ⟨g1, g2, e1, v1, M1, he, H1, H⟩
  · rw [if_pos (Or.inl (h16.mp g1))]
    obtain ⟨f1, f2⟩ := hC.err (v := v) (M' := M') H1 (fun y hy S => by subst hy; exact ln7_72 S (by rw [(hC.fail H1).1.fr (by simp [fP])]; exact ht) H)
    exact ⟨f1.ln, f2⟩
  rotate_left
  · rw [htd] at g2
    have hk : hasK ls 7 = true := by
      cases hq : hasK ls 7 with
      | true => rfl
      | false => exact absurd (bits.2.2.2.1.mpr hq) g2
    rw [if_pos (Or.inr ⟨rfl, hk⟩)]
    obtain ⟨f1, f2⟩ := hC.err (v := v) (M' := M') H1 (fun y hy S => by subst hy; exact ln7_72 S (by rw [(hC.fail H1).1.fr (by simp [fP])]; exact ht) H)
    exact ⟨f1.ln, f2⟩
  rw [htd] at g2
  have hk : hasK ls 7 = false := bits.2.2.2.1.mp g2
  have hno : ¬ (16 ≤ ls.length ∨ (onceB 7 = true ∧ hasK ls 7 = true)) := fun q => q.elim (fun x => g1 (h16.mpr x)) (fun x => by rw [hk] at x; exact absurd x.2 (by decide))
  have hl16 : ls.length < 16 := by
    by_cases q : 16 ≤ ls.length
    · exact absurd (Or.inl q) hno
    · omega
  rw [if_neg hno]
  cases he
  rw [hix] at H1
  have s1 : SQ (wI M (fR M 3 8 + 1) ls.length 7) := hC.1.ki
  have F1 : FA [] [fR M 3 8 + 1, fR M 3 8 + 2, fR M 3 8 + 3, fR M 3 8 + 4, fR M 3 8 + 5] M (wI (wI (wI (wI (wI M (fR M 3 8 + 1) ls.length 7) (fR M 3 8 + 2) ls.length 0) (fR M 3 8 + 3) ls.length 0) (fR M 3 8 + 4) ls.length (zI M (fR M 3 8) 9)) (fR M 3 8 + 5) ls.length (zI M (fR M 3 8) 9)) := ((((FA.wI (by simp)).trans (FA.wI (by simp))).trans (FA.wI (by simp))).trans (FA.wI (by simp))).trans (FA.wI (by simp))
  have S5 : SQ (wI (wI (wI (wI (wI M (fR M 3 8 + 1) ls.length 7) (fR M 3 8 + 2) ls.length 0) (fR M 3 8 + 3) ls.length 0) (fR M 3 8 + 4) ls.length (zI M (fR M 3 8) 9)) (fR M 3 8 + 5) ls.length (zI M (fR M 3 8) 9)) := hC.1.ki.ki.ki.ki.ki
  have C5 : CSt B n (fR M 3 8) (wI (wI (wI (wI (wI M (fR M 3 8 + 1) ls.length 7) (fR M 3 8 + 2) ls.length 0) (fR M 3 8 + 3) ls.length 0) (fR M 3 8 + 4) ls.length (zI M (fR M 3 8) 9)) (fR M 3 8 + 5) ls.length (zI M (fR M 3 8) 9)) s := hC.frm S5 F1 (fun q _ r => by cases r) (fun b hb r => by
    simp only [List.mem_cons, List.not_mem_nil, or_false] at hb r
    omega)
  have E5 : ENq (wI (wI (wI (wI (wI M (fR M 3 8 + 1) ls.length 7) (fR M 3 8 + 2) ls.length 0) (fR M 3 8 + 3) ls.length 0) (fR M 3 8 + 4) ls.length (zI M (fR M 3 8) 9)) (fR M 3 8 + 5) ls.length (zI M (fR M 3 8) 9)) (fR M 3 8) ls.length 7 0 0 s.2.2.length := by
    refine ⟨?_, ?_, ?_, ?_⟩
    · rw [rN_wI_ne (fun q => by omega), rN_wI_ne (fun q => by omega), rN_wI_ne (fun q => by omega), rN_wI_ne (fun q => by omega), rN_wI_eq (by rw [(hC.1.1.row (fx_g0 ht) qw_29).2]; exact hl16)]
    · rw [rN_wI_ne (fun q => by omega), rN_wI_ne (fun q => by omega), rN_wI_ne (fun q => by omega), rN_wI_eq (by rw [(s1.1.row (fx_g1 ht) qw_30).2]; exact hl16)]
    · rw [rN_wI_ne (fun q => by omega), rN_wI_ne (fun q => by omega), rN_wI_eq (by rw [(s1.ki.1.row (fx_g2 ht) qw_31).2]; exact hl16)]
    · rw [rN_wI_ne (fun q => by omega), rN_wI_eq (by rw [(s1.ki.ki.1.row (fx_g3 ht) qw_32).2]; exact hl16)]
      exact hcs
  obtain ⟨p1, p2, p3, p4⟩ := fP_no hb.1
  obtain ⟨rfl, F2, C2⟩ := C5.go ht (by rw [hw]; decide) (by rw [hw]; decide) H1
  have P2 : PRE B n (fR M 3 8) M1 (s.1.tail, s.2.1, s.2.2) ls 7 0 s.2.2.length := ⟨C2, (hL.ui.ui.ui.ui.ui).frm F2 p2 p3, E5.frm F2 p4, (hF.frm F1 (fun q _ r => by cases r)).frm F2 p1, hl16⟩
  have F12 : FA (fLq (fR M 3 8)) (wLn (fR M 3 8)) M M1 := (F1.more (fun q hq => by cases hq) (fun q hq => by
    simp only [wLn, List.mem_cons, List.not_mem_nil, or_false] at hq ⊢
    rcases hq with h | h | h | h | h <;> simp [h])).trans F2.ln
  have h91 : fR M1 3 8 = fR M 3 8 := F12.fr (by simp [fLq]; omega)
  unfold bodB
  rw [if_neg (by decide : ¬ (7 : Int32) = 6), if_neg (by decide : ¬ (7 : Int32) = 5)]
  obtain ⟨e3, v3, M3, he, H3, H⟩ := ln7_147 C2.1 (by rw [h91]; exact ht) H
  cases he
  obtain ⟨F3, R3⟩ := nu7_ok ht P2 hL.1 hk H3
  have FX := F12.trans F3
  have h93 : fR M3 3 8 = fR M 3 8 := FX.fr (by simp [fLq]; omega)
  rcases R3 with ⟨q1, q2⟩ | ⟨q1, q2, q3⟩ | ⟨q1, q2, rfl, Q3⟩
  · unfold numB
    rw [if_pos q1]
    obtain ⟨rfl, S9, r9⟩ := q2
    rcases ln7_175 S9 (by rw [h93]; exact ht) H with ⟨_, h3, rfl⟩ | ⟨h3, _⟩ | ⟨h3, _⟩
    · exact ⟨FX, h3, S9, r9⟩
    · exact absurd rfl h3
    · exact absurd rfl h3
  · unfold numB
    rw [if_neg (fun q => q q1), if_pos q2]
    obtain ⟨rfl, S9, r9⟩ := q3
    rcases ln7_175 S9 (by rw [h93]; exact ht) H with ⟨_, h3, rfl⟩ | ⟨h3, _⟩ | ⟨h3, _⟩
    · exact ⟨FX, h3, S9, r9⟩
    · exact absurd rfl h3
    · exact absurd rfl h3
  · unfold numB
    rw [if_neg (fun q => q q1), if_neg q2]
    unfold cndB
    rw [if_neg (by decide : ¬ (7 : Int32) = 6), if_neg (fun q => absurd q.1 (by decide))]
    rcases ln7_175 Q3.1.1 (by rw [h93]; exact ht) H with ⟨h3, _⟩ | ⟨_, g4, g5⟩ | ⟨_, g4, g5⟩
    · exact absurd h3 (by decide)
    · obtain ⟨f7, r7⟩ := en7_ok ht Q3 hl16 hL.1 (Or.inl ⟨g4, g5⟩)
      exact ⟨FX.trans f7, r7⟩
    · obtain ⟨f7, r7⟩ := en7_ok ht Q3 hl16 hL.1 (Or.inr ⟨g4, g5⟩)
      exact ⟨FX.trans f7, r7⟩
end LIX
/-! THE CLASS'S READER: pieces of readText, law, habit (made by gcl.py) -/
noncomputable def X_51 (M : Mem) (t : Nat) : Mem := (wF (wF (wF (wF (wF (wF M t 8 0) t 9 0) t 10 40) t 11 50) t 12 10) t 13 3)
theorem g_51 {e : Nat} {M M' : Mem} {v : Option Value} {t : Nat} (hS : SQ M) (a_t : gNth sT t = some 28) (H : Ev none e 51 0 [some (.ref t)] [] M v M' 0 0) : v = none ∧ M' = X_51 M t := by
  unfold X_51
  have H : Ev none e 51 2 [some (.ref t)] [.int 0, .ref t] M v M' 0 0 := Ev.back 2 (fun n => rfl) H
  obtain ⟨N2, eN2⟩ : ∃ N, N = (wF M t 8 0) := ⟨_, rfl⟩
  have hN2 : SQ N2 := by rw [eN2]; exact hS.kf
  have H : Ev none e 51 5 [some (.ref t)] [] N2 v M' 0 0 := by rw [eN2]; exact Ev.pfi rfl rfl rfl hS.1 a_t qi_28_8 H
  have H : Ev none e 51 7 [some (.ref t)] [.int 0, .ref t] N2 v M' 0 0 := Ev.back 2 (fun n => rfl) H
  obtain ⟨N4, eN4⟩ : ∃ N, N = (wF N2 t 9 0) := ⟨_, rfl⟩
  have hN4 : SQ N4 := by rw [eN4]; exact hN2.kf
  have H : Ev none e 51 10 [some (.ref t)] [] N4 v M' 0 0 := by rw [eN4]; exact Ev.pfi rfl rfl rfl hN2.1 a_t qi_28_9 H
  have H : Ev none e 51 13 [some (.ref t)] [.int 40, .ref t] N4 v M' 0 0 := Ev.back 2 (fun n => rfl) H
  obtain ⟨N6, eN6⟩ : ∃ N, N = (wF N4 t 10 40) := ⟨_, rfl⟩
  have hN6 : SQ N6 := by rw [eN6]; exact hN4.kf
  have H : Ev none e 51 16 [some (.ref t)] [] N6 v M' 0 0 := by rw [eN6]; exact Ev.pfi rfl rfl rfl hN4.1 a_t qi_28_10 H
  have H : Ev none e 51 19 [some (.ref t)] [.int 50, .ref t] N6 v M' 0 0 := Ev.back 2 (fun n => rfl) H
  obtain ⟨N8, eN8⟩ : ∃ N, N = (wF N6 t 11 50) := ⟨_, rfl⟩
  have hN8 : SQ N8 := by rw [eN8]; exact hN6.kf
  have H : Ev none e 51 22 [some (.ref t)] [] N8 v M' 0 0 := by rw [eN8]; exact Ev.pfi rfl rfl rfl hN6.1 a_t qi_28_11 H
  have H : Ev none e 51 25 [some (.ref t)] [.int 10, .ref t] N8 v M' 0 0 := Ev.back 2 (fun n => rfl) H
  obtain ⟨N10, eN10⟩ : ∃ N, N = (wF N8 t 12 10) := ⟨_, rfl⟩
  have hN10 : SQ N10 := by rw [eN10]; exact hN8.kf
  have H : Ev none e 51 28 [some (.ref t)] [] N10 v M' 0 0 := by rw [eN10]; exact Ev.pfi rfl rfl rfl hN8.1 a_t qi_28_12 H
  have H : Ev none e 51 30 [some (.ref t)] [.int 3, .ref t] N10 v M' 0 0 := Ev.back 2 (fun n => rfl) H
  obtain ⟨N12, eN12⟩ : ∃ N, N = (wF N10 t 13 3) := ⟨_, rfl⟩
  have hN12 : SQ N12 := by rw [eN12]; exact hN10.kf
  have H : Ev none e 51 33 [some (.ref t)] [] N12 v M' 0 0 := by rw [eN12]; exact Ev.pfi rfl rfl rfl hN10.1 a_t qi_28_13 H
  obtain ⟨p1, p2⟩ := Ev.retb (fun n => rfl) H
  subst eN2 eN4 eN6 eN8 eN10 eN12
  exact ⟨p1, p2⟩
theorem X_51_sx {M : Mem} {t : Nat} (hS : SQ M) (a_t : gNth sT t = some 28) : SQ (X_51 M t) := by
  unfold X_51
  exact (((((hS.kf).kf).kf).kf).kf).kf
theorem rt_0 {e : Nat} {M M' : Mem} {v : Option Value} {lw : Int32} {t : Nat} (hS : SQ M) (a_t : gNth sT t = some 28) (H : Ev none e 26 0 [some (.ref 3), some (.ref t), some (.int lw), none] [] M v M' 0 0) : (∃ e1 v1 M1, e = e1 + 1 ∧ Ev none e1 28 0 [some (.ref 3), none, none, none, none] [] (wF (wF (wF (wF (X_51 (wF (wR M 3 8 t) 3 9 lw) t) 3 10 0) 3 11 0) 3 12 0) 3 13 0) v1 M1 0 0 ∧ Ev none e 26 41 [some (.ref 3), some (.ref t), some (.int lw), none] (v1.toList ++ []) M1 v M' 0 0) := by
  have H : Ev none e 26 2 [some (.ref 3), some (.ref t), some (.int lw), none] [.ref t, .ref 3] M v M' 0 0 := Ev.back 2 (fun n => rfl) H
  obtain ⟨N2, eN2⟩ : ∃ N, N = (wR M 3 8 t) := ⟨_, rfl⟩
  have hN2 : SQ N2 := by rw [eN2]; exact hS.kr_3_8 a_t
  have H : Ev none e 26 5 [some (.ref 3), some (.ref t), some (.int lw), none] [] N2 v M' 0 0 := by rw [eN2]; exact Ev.pfr rfl rfl rfl hS.1 qa_3 qo_3 H
  have H : Ev none e 26 7 [some (.ref 3), some (.ref t), some (.int lw), none] [.int lw, .ref 3] N2 v M' 0 0 := Ev.back 2 (fun n => rfl) H
  obtain ⟨N4, eN4⟩ : ∃ N, N = (wF N2 3 9 lw) := ⟨_, rfl⟩
  have hN4 : SQ N4 := by rw [eN4]; exact hN2.kf
  have H : Ev none e 26 10 [some (.ref 3), some (.ref t), some (.int lw), none] [] N4 v M' 0 0 := by rw [eN4]; exact Ev.pfi rfl rfl rfl hN2.1 qa_3 qi_3_9 H
  have H : Ev none e 26 11 [some (.ref 3), some (.ref t), some (.int lw), none] [.ref 3] N4 v M' 0 0 := Ev.back 1 (fun n => rfl) H
  have H : Ev none e 26 14 [some (.ref 3), some (.ref t), some (.int lw), none] [.ref (fR N4 3 8)] N4 v M' 0 0 := Ev.back 1 (gs_3 rfl rfl (gf_n hN4.1 qa_3 qn_3_8 (by decide) (by rw [(show fR N4 3 8 = fR N2 3 8 from by rw [eN4]; exact fR_wF).trans (show fR N2 3 8 = t from by rw [eN2]; exact fR_wR_eq hS.1 qa_3 qk_3_8)]; exact a_t) rfl)) H
  rw [(show fR N4 3 8 = fR N2 3 8 from by rw [eN4]; exact fR_wF).trans (show fR N2 3 8 = t from by rw [eN2]; exact fR_wR_eq hS.1 qa_3 qk_3_8)] at H
  obtain ⟨e1, rfl⟩ := Ev.dpos rfl rfl H
  obtain ⟨vK5, MK5, K5, H⟩ := Ev.callb (fun n => gs_7 rfl rfl (show gCal (.invokevirtual 36) 3 (.ref t :: []) N4 = some (.inr (51, [some (.ref t)], [])) from by show @cond (Option ((List Value × Mem) ⊕ (Nat × Lo × List Value))) (true && gRecv N4 (.ref t) 6 && gRoom [] && true) (some (.inr (51, [some (.ref t)], []))) none = _; rw [recv_s hN4.1 a_t qo_28]; rfl)) H
  obtain ⟨pK5, qK5⟩ := g_51 hN4 a_t K5
  rw [pK5, qK5] at H
  obtain ⟨N6, eN6⟩ : ∃ N, N = (X_51 N4 t) := ⟨_, rfl⟩
  have hN6 : SQ N6 := by rw [eN6]; exact X_51_sx hN4 a_t
  rw [← eN6] at H
  have H : Ev none (e1 + 1) 26 17 [some (.ref 3), some (.ref t), some (.int lw), none] [] N6 v M' 0 0 := H
  have H : Ev none (e1 + 1) 26 19 [some (.ref 3), some (.ref t), some (.int lw), none] [.int 0, .ref 3] N6 v M' 0 0 := Ev.back 2 (fun n => rfl) H
  obtain ⟨N8, eN8⟩ : ∃ N, N = (wF N6 3 10 0) := ⟨_, rfl⟩
  have hN8 : SQ N8 := by rw [eN8]; exact hN6.kf
  have H : Ev none (e1 + 1) 26 22 [some (.ref 3), some (.ref t), some (.int lw), none] [] N8 v M' 0 0 := by rw [eN8]; exact Ev.pfi rfl rfl rfl hN6.1 qa_3 qi_3_10 H
  have H : Ev none (e1 + 1) 26 24 [some (.ref 3), some (.ref t), some (.int lw), none] [.int 0, .ref 3] N8 v M' 0 0 := Ev.back 2 (fun n => rfl) H
  obtain ⟨N10, eN10⟩ : ∃ N, N = (wF N8 3 11 0) := ⟨_, rfl⟩
  have hN10 : SQ N10 := by rw [eN10]; exact hN8.kf
  have H : Ev none (e1 + 1) 26 27 [some (.ref 3), some (.ref t), some (.int lw), none] [] N10 v M' 0 0 := by rw [eN10]; exact Ev.pfi rfl rfl rfl hN8.1 qa_3 qi_3_11 H
  have H : Ev none (e1 + 1) 26 29 [some (.ref 3), some (.ref t), some (.int lw), none] [.int 0, .ref 3] N10 v M' 0 0 := Ev.back 2 (fun n => rfl) H
  obtain ⟨N12, eN12⟩ : ∃ N, N = (wF N10 3 12 0) := ⟨_, rfl⟩
  have hN12 : SQ N12 := by rw [eN12]; exact hN10.kf
  have H : Ev none (e1 + 1) 26 32 [some (.ref 3), some (.ref t), some (.int lw), none] [] N12 v M' 0 0 := by rw [eN12]; exact Ev.pfi rfl rfl rfl hN10.1 qa_3 qi_3_12 H
  have H : Ev none (e1 + 1) 26 34 [some (.ref 3), some (.ref t), some (.int lw), none] [.int 0, .ref 3] N12 v M' 0 0 := Ev.back 2 (fun n => rfl) H
  obtain ⟨N14, eN14⟩ : ∃ N, N = (wF N12 3 13 0) := ⟨_, rfl⟩
  have hN14 : SQ N14 := by rw [eN14]; exact hN12.kf
  have H : Ev none (e1 + 1) 26 37 [some (.ref 3), some (.ref t), some (.int lw), none] [] N14 v M' 0 0 := by rw [eN14]; exact Ev.pfi rfl rfl rfl hN12.1 qa_3 qi_3_13 H
  have H : Ev none (e1 + 1) 26 38 [some (.ref 3), some (.ref t), some (.int lw), none] [.ref 3] N14 v M' 0 0 := Ev.back 1 (fun n => rfl) H
  obtain ⟨vK15, MK15, K15, H⟩ := Ev.callb (fun n => gs_7 rfl rfl (show gCal (.invokevirtual 54) 3 (.ref 3 :: []) N14 = some (.inr (28, [some (.ref 3), none, none, none, none], [])) from by show @cond (Option ((List Value × Mem) ⊕ (Nat × Lo × List Value))) (true && gRecv N14 (.ref 3) 3 && gRoom [] && true) (some (.inr (28, [some (.ref 3), none, none, none, none], []))) none = _; rw [recv_s hN14.1 qa_3 qo_3]; rfl)) H
  have K15 : Ev none e1 28 0 [some (.ref 3), none, none, none, none] [] N14 vK15 MK15 0 0 := K15
  have HF := H
  subst eN2 eN4 eN6 eN8 eN10 eN12 eN14
  exact ⟨e1, vK15, MK15, rfl, K15, HF⟩
theorem rt_41 {e : Nat} {M M' : Mem} {v : Option Value} {lw : Int32} {c1 : Option Value} (hS : SQ M) (H : Ev none e 26 41 [some (.ref 3), c1, some (.int lw), none] [] M v M' 0 0) : Ev none e 26 58 [some (.ref 3), c1, some (.int lw), some (.int 0)] [] (wF (wF M 3 6 0) 3 7 (rI M 4 0)) v M' 0 0 := by
  have H : Ev none e 26 43 [some (.ref 3), c1, some (.int lw), none] [.int 0, .ref 3] M v M' 0 0 := Ev.back 2 (fun n => rfl) H
  obtain ⟨N2, eN2⟩ : ∃ N, N = (wF M 3 6 0) := ⟨_, rfl⟩
  have hN2 : SQ N2 := by rw [eN2]; exact hS.kf
  have H : Ev none e 26 46 [some (.ref 3), c1, some (.int lw), none] [] N2 v M' 0 0 := by rw [eN2]; exact Ev.pfi rfl rfl rfl hS.1 qa_3 qi_3_6 H
  have H : Ev none e 26 48 [some (.ref 3), c1, some (.int lw), none] [.ref 3, .ref 3] N2 v M' 0 0 := Ev.back 2 (fun n => rfl) H
  have H : Ev none e 26 51 [some (.ref 3), c1, some (.int lw), none] [.ref 4, .ref 3] N2 v M' 0 0 := Ev.back 1 (gs_3 rfl rfl (gf_u hN2.1 qa_3 qr_3_1 qu_4 rfl)) H
  have H : Ev none e 26 52 [some (.ref 3), c1, some (.int lw), none] [.int 0, .ref 4, .ref 3] N2 v M' 0 0 := Ev.back 1 (fun n => rfl) H
  obtain ⟨b3, H⟩ := Ev.ial rfl rfl hN2.1 qa_4 qw_4 H
  have H : Ev none e 26 53 [some (.ref 3), c1, some (.int lw), none] [.int (rI N2 4 0), .ref 3] N2 v M' 0 0 := H
  rw [show rI N2 4 0 = rI M 4 0 from by rw [eN2]; exact rN_wF] at H
  obtain ⟨N5, eN5⟩ : ∃ N, N = (wF N2 3 7 (rI M 4 0)) := ⟨_, rfl⟩
  have hN5 : SQ N5 := by rw [eN5]; exact hN2.kf
  have H : Ev none e 26 56 [some (.ref 3), c1, some (.int lw), none] [] N5 v M' 0 0 := by rw [eN5]; exact Ev.pfi rfl rfl rfl hN2.1 qa_3 qi_3_7 H
  have H : Ev none e 26 58 [some (.ref 3), c1, some (.int lw), some (.int 0)] [] N5 v M' 0 0 := Ev.back 2 (fun n => rfl) H
  have HF := H
  subst eN2 eN5
  exact HF
theorem rt_58 {e : Nat} {M M' : Mem} {v : Option Value} {lw nn : Int32} {c1 : Option Value} (hS : SQ M) (H : Ev none e 26 58 [some (.ref 3), c1, some (.int lw), some (.int nn)] [] M v M' 0 0) : (16 < nn ∧ v = some (.int 0) ∧ M' = M) ∨ (¬ (16 < nn) ∧ (zI M 3 7) = 0 ∧ (zI M 1 1) ≤ 400 ∧ v = some (.int 1) ∧ M' = M) ∨ (¬ (16 < nn) ∧ (zI M 3 7) = 0 ∧ ¬ ((zI M 1 1) ≤ 400) ∧ (∃ e1 v1 M1, e = e1 + 1 ∧ Ev none e1 27 0 [some (.ref 3), some (.int 1)] [] M v1 M1 0 0 ∧ Ev none e 26 89 [some (.ref 3), c1, some (.int lw), some (.int nn)] (v1.toList ++ []) M1 v M' 0 0)) ∨ (¬ (16 < nn) ∧ ¬ ((zI M 3 7) = 0) ∧ (∃ e1 v1 M1, e = e1 + 1 ∧ Ev none e1 33 0 [some (.ref 3), none, none, none, none, none, none] [] M v1 M1 0 0 ∧ Ev none e 26 102 [some (.ref 3), c1, some (.int lw), some (.int nn)] (v1.toList ++ []) M1 v M' 0 0)) := by
  have H : Ev none e 26 (if 16 < nn then 113 else 64) [some (.ref 3), c1, some (.int lw), some (.int nn)] [] M v M' 0 0 := Ev.back 3 (fun n => rfl) H
  by_cases h1 : 16 < nn
  · rw [if_pos h1] at H
    have H : Ev none e 26 114 [some (.ref 3), c1, some (.int lw), some (.int nn)] [.int 0] M v M' 0 0 := Ev.back 1 (fun n => rfl) H
    obtain ⟨z1, z2⟩ := Ev.retz rfl rfl H
    exact Or.inl ⟨h1, z1, z2⟩
  · rw [if_neg h1] at H
    have H : Ev none e 26 65 [some (.ref 3), c1, some (.int lw), some (.int nn)] [.ref 3] M v M' 0 0 := Ev.back 1 (fun n => rfl) H
    have H : Ev none e 26 68 [some (.ref 3), c1, some (.int lw), some (.int nn)] [.int (zI M 3 7)] M v M' 0 0 := Ev.back 1 (gs_3 rfl rfl (gf_i hS.1 qa_3 qi_3_7 rfl)) H
    have H : Ev none e 26 (if (zI M 3 7) = 0 then 71 else 98) [some (.ref 3), c1, some (.int lw), some (.int nn)] [] M v M' 0 0 := Ev.back 1 (fun n => rfl) H
    by_cases h2 : (zI M 3 7) = 0
    · rw [if_pos h2] at H
      have H : Ev none e 26 72 [some (.ref 3), c1, some (.int lw), some (.int nn)] [.ref 3] M v M' 0 0 := Ev.back 1 (fun n => rfl) H
      have H : Ev none e 26 75 [some (.ref 3), c1, some (.int lw), some (.int nn)] [.ref 1] M v M' 0 0 := Ev.back 1 (gs_3 rfl rfl (gf_u hS.1 qa_3 qr_3_0 qu_1 rfl)) H
      have H : Ev none e 26 78 [some (.ref 3), c1, some (.int lw), some (.int nn)] [.int (zI M 1 1)] M v M' 0 0 := Ev.back 1 (gs_3 rfl rfl (gf_i hS.1 qa_1 qi_1_1 rfl)) H
      have H : Ev none e 26 (if (zI M 1 1) ≤ 400 then 92 else 84) [some (.ref 3), c1, some (.int lw), some (.int nn)] [] M v M' 0 0 := Ev.back 2 (fun n => rfl) H
      by_cases h3 : (zI M 1 1) ≤ 400
      · rw [if_pos h3] at H
        have H : Ev none e 26 97 [some (.ref 3), c1, some (.int lw), some (.int nn)] [.int 1] M v M' 0 0 := Ev.back 2 (fun n => rfl) H
        obtain ⟨z1, z2⟩ := Ev.retz rfl rfl H
        exact Or.inr (Or.inl ⟨h1, h2, h3, z1, z2⟩)
      · rw [if_neg h3] at H
        have H : Ev none e 26 86 [some (.ref 3), c1, some (.int lw), some (.int nn)] [.int 1, .ref 3] M v M' 0 0 := Ev.back 2 (fun n => rfl) H
        obtain ⟨e1, rfl⟩ := Ev.dpos rfl rfl H
        obtain ⟨vK4, MK4, K4, H⟩ := Ev.callb (fun n => gs_7 rfl rfl (show gCal (.invokevirtual 68) 3 (.int 1 :: .ref 3 :: []) M = some (.inr (27, [some (.ref 3), some (.int 1)], [])) from by show @cond (Option ((List Value × Mem) ⊕ (Nat × Lo × List Value))) (true && gRecv M (.ref 3) 3 && gRoom [] && true) (some (.inr (27, [some (.ref 3), some (.int 1)], []))) none = _; rw [recv_s hS.1 qa_3 qo_3]; rfl)) H
        have K4 : Ev none e1 27 0 [some (.ref 3), some (.int 1)] [] M vK4 MK4 0 0 := K4
        have HF := H
        exact Or.inr (Or.inr (Or.inl ⟨h1, h2, h3, ⟨e1, vK4, MK4, rfl, K4, HF⟩⟩))
    · rw [if_neg h2] at H
      have H : Ev none e 26 99 [some (.ref 3), c1, some (.int lw), some (.int nn)] [.ref 3] M v M' 0 0 := Ev.back 1 (fun n => rfl) H
      obtain ⟨e1, rfl⟩ := Ev.dpos rfl rfl H
      obtain ⟨vK5, MK5, K5, H⟩ := Ev.callb (fun n => gs_7 rfl rfl (show gCal (.invokevirtual 72) 3 (.ref 3 :: []) M = some (.inr (33, [some (.ref 3), none, none, none, none, none, none], [])) from by show @cond (Option ((List Value × Mem) ⊕ (Nat × Lo × List Value))) (true && gRecv M (.ref 3) 3 && gRoom [] && true) (some (.inr (33, [some (.ref 3), none, none, none, none, none, none], []))) none = _; rw [recv_s hS.1 qa_3 qo_3]; rfl)) H
      have K5 : Ev none e1 33 0 [some (.ref 3), none, none, none, none, none, none] [] M vK5 MK5 0 0 := K5
      have HF := H
      exact Or.inr (Or.inr (Or.inr (⟨h1, h2, ⟨e1, vK5, MK5, rfl, K5, HF⟩⟩)))
theorem rt_89 {e : Nat} {M M' : Mem} {v : Option Value} {lw nn y : Int32} {c1 : Option Value} (hS : SQ M) (H : Ev none e 26 89 [some (.ref 3), c1, some (.int lw), some (.int nn)] [.int y] M v M' 0 0) : (y = 0 ∧ v = some (.int 0) ∧ M' = M) ∨ (¬ (y = 0) ∧ v = some (.int 1) ∧ M' = M) := by
  have H : Ev none e 26 (if y = 0 then 96 else 92) [some (.ref 3), c1, some (.int lw), some (.int nn)] [] M v M' 0 0 := Ev.back 1 (fun n => rfl) H
  by_cases h1 : y = 0
  · rw [if_pos h1] at H
    have H : Ev none e 26 97 [some (.ref 3), c1, some (.int lw), some (.int nn)] [.int 0] M v M' 0 0 := Ev.back 1 (fun n => rfl) H
    obtain ⟨z1, z2⟩ := Ev.retz rfl rfl H
    exact Or.inl ⟨h1, z1, z2⟩
  · rw [if_neg h1] at H
    have H : Ev none e 26 97 [some (.ref 3), c1, some (.int lw), some (.int nn)] [.int 1] M v M' 0 0 := Ev.back 2 (fun n => rfl) H
    obtain ⟨z1, z2⟩ := Ev.retz rfl rfl H
    exact Or.inr (⟨h1, z1, z2⟩)
theorem rt_102 {e : Nat} {M M' : Mem} {v : Option Value} {lw nn y : Int32} {c1 : Option Value} (hS : SQ M) (H : Ev none e 26 102 [some (.ref 3), c1, some (.int lw), some (.int nn)] [.int y] M v M' 0 0) : (y = 0 ∧ v = some (.int 0) ∧ M' = M) ∨ (¬ (y = 0) ∧ Ev none e 26 58 [some (.ref 3), c1, some (.int lw), some (.int (nn + 1))] [] M v M' 0 0) := by
  have H : Ev none e 26 (if y = 0 then 105 else 107) [some (.ref 3), c1, some (.int lw), some (.int nn)] [] M v M' 0 0 := Ev.back 1 (fun n => rfl) H
  by_cases h1 : y = 0
  · rw [if_pos h1] at H
    have H : Ev none e 26 106 [some (.ref 3), c1, some (.int lw), some (.int nn)] [.int 0] M v M' 0 0 := Ev.back 1 (fun n => rfl) H
    obtain ⟨z1, z2⟩ := Ev.retz rfl rfl H
    exact Or.inl ⟨h1, z1, z2⟩
  · rw [if_neg h1] at H
    have H : Ev none e 26 58 [some (.ref 3), c1, some (.int lw), some (.int (nn + 1))] [] M v M' 0 0 := Ev.back 2 (fun n => rfl) H
    have HF := H
    exact Or.inr (⟨h1, HF⟩)
theorem lw_0 {e : Nat} {M M' : Mem} {v : Option Value} (hS : SQ M) (H : Ev none e 85 0 [some (.ref 0), none, none] [] M v M' 0 0) : (∃ e1 v1 M1, e = e1 + 1 ∧ Ev none e1 26 0 [some (.ref 3), some (.ref (fR M 104 3)), some (.int 1), none] [] M v1 M1 0 0 ∧ Ev none e 85 15 [some (.ref 0), none, none] (v1.toList ++ []) M1 v M' 0 0) := by
  have H : Ev none e 85 1 [some (.ref 0), none, none] [.ref 0] M v M' 0 0 := Ev.back 1 (fun n => rfl) H
  have H : Ev none e 85 4 [some (.ref 0), none, none] [.ref 3] M v M' 0 0 := Ev.back 1 (gs_3 rfl rfl (gf_u hS.1 qa_0 qr_0_1 qu_3 rfl)) H
  have H : Ev none e 85 5 [some (.ref 0), none, none] [.ref 0, .ref 3] M v M' 0 0 := Ev.back 1 (fun n => rfl) H
  have H : Ev none e 85 8 [some (.ref 0), none, none] [.ref 104, .ref 3] M v M' 0 0 := Ev.back 1 (gs_3 rfl rfl (gf_u hS.1 qa_0 qr_0_3 qu_22 rfl)) H
  have H : Ev none e 85 11 [some (.ref 0), none, none] [.ref (fR M 104 3), .ref 3] M v M' 0 0 := Ev.back 1 (gs_3 rfl rfl (gf_r hS.1 qa_104 qr_22_3 rfl)) H
  have H : Ev none e 85 12 [some (.ref 0), none, none] [.int 1, .ref (fR M 104 3), .ref 3] M v M' 0 0 := Ev.back 1 (fun n => rfl) H
  obtain ⟨e1, rfl⟩ := Ev.dpos rfl rfl H
  obtain ⟨vK1, MK1, K1, H⟩ := Ev.callb (fun n => gs_7 rfl rfl (show gCal (.invokevirtual 130) 10 (.int 1 :: .ref (fR M 104 3) :: .ref 3 :: []) M = some (.inr (26, [some (.ref 3), some (.ref (fR M 104 3)), some (.int 1), none], [])) from by show @cond (Option ((List Value × Mem) ⊕ (Nat × Lo × List Value))) (true && gRecv M (.ref 3) 3 && gRoom [] && true) (some (.inr (26, [some (.ref 3), some (.ref (fR M 104 3)), some (.int 1), none], []))) none = _; rw [recv_s hS.1 qa_3 qo_3]; rfl)) H
  have K1 : Ev none e1 26 0 [some (.ref 3), some (.ref (fR M 104 3)), some (.int 1), none] [] M vK1 MK1 0 0 := K1
  have HF := H
  exact ⟨e1, vK1, MK1, rfl, K1, HF⟩
theorem lw_15 {e : Nat} {M M' : Mem} {v : Option Value} {y : Int32} (hS : SQ M) (H : Ev none e 85 15 [some (.ref 0), none, none] [.int y] M v M' 0 0) : (y = 0 ∧ (∃ e1 v1 M1, e = e1 + 1 ∧ Ev none e1 87 0 [some (.ref 0), some (.int y), some (.ref (fR M 104 2))] [] M v1 M1 0 0 ∧ Ev none e 85 62 [some (.ref 0), some (.int y), none] (v1.toList ++ []) M1 v M' 0 0)) ∨ (¬ (y = 0) ∧ (∃ e1 v1 M1, e = e1 + 1 ∧ Ev none e1 87 0 [some (.ref 0), some (.int y), some (.ref (fR (wR (wR M 104 2 (fR M 104 3)) 104 3 (fR M 104 2)) 104 2))] [] (wR (wR M 104 2 (fR M 104 3)) 104 3 (fR M 104 2)) v1 M1 0 0 ∧ Ev none e 85 62 [some (.ref 0), some (.int y), some (.ref (fR M 104 2))] (v1.toList ++ []) M1 v M' 0 0)) := by
  have H : Ev none e 85 (if y = 0 then 50 else 20) [some (.ref 0), some (.int y), none] [] M v M' 0 0 := Ev.back 3 (fun n => rfl) H
  by_cases h1 : y = 0
  · rw [if_pos h1] at H
    have H : Ev none e 85 53 [some (.ref 0), some (.int y), none] [.ref 0, .int y, .ref 0] M v M' 0 0 := Ev.back 3 (fun n => rfl) H
    have H : Ev none e 85 56 [some (.ref 0), some (.int y), none] [.ref 104, .int y, .ref 0] M v M' 0 0 := Ev.back 1 (gs_3 rfl rfl (gf_u hS.1 qa_0 qr_0_3 qu_22 rfl)) H
    have H : Ev none e 85 59 [some (.ref 0), some (.int y), none] [.ref (fR M 104 2), .int y, .ref 0] M v M' 0 0 := Ev.back 1 (gs_3 rfl rfl (gf_r hS.1 qa_104 qr_22_2 rfl)) H
    obtain ⟨e1, rfl⟩ := Ev.dpos rfl rfl H
    obtain ⟨vK2, MK2, K2, H⟩ := Ev.callb (fun n => gs_7 rfl rfl (show gCal (.invokevirtual 137) 10 (.ref (fR M 104 2) :: .int y :: .ref 0 :: []) M = some (.inr (87, [some (.ref 0), some (.int y), some (.ref (fR M 104 2))], [])) from by show @cond (Option ((List Value × Mem) ⊕ (Nat × Lo × List Value))) (true && gRecv M (.ref 0) 10 && gRoom [] && true) (some (.inr (87, [some (.ref 0), some (.int y), some (.ref (fR M 104 2))], []))) none = _; rw [recv_s hS.1 qa_0 qo_0]; rfl)) H
    have K2 : Ev none e1 87 0 [some (.ref 0), some (.int y), some (.ref (fR M 104 2))] [] M vK2 MK2 0 0 := K2
    have HF := H
    exact Or.inl ⟨h1, ⟨e1, vK2, MK2, rfl, K2, HF⟩⟩
  · rw [if_neg h1] at H
    have H : Ev none e 85 21 [some (.ref 0), some (.int y), none] [.ref 0] M v M' 0 0 := Ev.back 1 (fun n => rfl) H
    have H : Ev none e 85 24 [some (.ref 0), some (.int y), none] [.ref 104] M v M' 0 0 := Ev.back 1 (gs_3 rfl rfl (gf_u hS.1 qa_0 qr_0_3 qu_22 rfl)) H
    have H : Ev none e 85 27 [some (.ref 0), some (.int y), none] [.ref (fR M 104 2)] M v M' 0 0 := Ev.back 1 (gs_3 rfl rfl (gf_r hS.1 qa_104 qr_22_2 rfl)) H
    have H : Ev none e 85 29 [some (.ref 0), some (.int y), some (.ref (fR M 104 2))] [.ref 0] M v M' 0 0 := Ev.back 2 (fun n => rfl) H
    have H : Ev none e 85 32 [some (.ref 0), some (.int y), some (.ref (fR M 104 2))] [.ref 104] M v M' 0 0 := Ev.back 1 (gs_3 rfl rfl (gf_u hS.1 qa_0 qr_0_3 qu_22 rfl)) H
    have H : Ev none e 85 33 [some (.ref 0), some (.int y), some (.ref (fR M 104 2))] [.ref 0, .ref 104] M v M' 0 0 := Ev.back 1 (fun n => rfl) H
    have H : Ev none e 85 36 [some (.ref 0), some (.int y), some (.ref (fR M 104 2))] [.ref 104, .ref 104] M v M' 0 0 := Ev.back 1 (gs_3 rfl rfl (gf_u hS.1 qa_0 qr_0_3 qu_22 rfl)) H
    have H : Ev none e 85 39 [some (.ref 0), some (.int y), some (.ref (fR M 104 2))] [.ref (fR M 104 3), .ref 104] M v M' 0 0 := Ev.back 1 (gs_3 rfl rfl (gf_r hS.1 qa_104 qr_22_3 rfl)) H
    obtain ⟨N4, eN4⟩ : ∃ N, N = (wR M 104 2 (fR M 104 3)) := ⟨_, rfl⟩
    have hN4 : SQ N4 := by rw [eN4]; exact hS.kr_22_2 (hS.1.fr qa_104 qr_22_3).2
    have H : Ev none e 85 42 [some (.ref 0), some (.int y), some (.ref (fR M 104 2))] [] N4 v M' 0 0 := by rw [eN4]; exact Ev.pfr rfl rfl rfl hS.1 qa_104 qo_22 H
    have H : Ev none e 85 43 [some (.ref 0), some (.int y), some (.ref (fR M 104 2))] [.ref 0] N4 v M' 0 0 := Ev.back 1 (fun n => rfl) H
    have H : Ev none e 85 46 [some (.ref 0), some (.int y), some (.ref (fR M 104 2))] [.ref 104] N4 v M' 0 0 := Ev.back 1 (gs_3 rfl rfl (gf_u hN4.1 qa_0 qr_0_3 qu_22 rfl)) H
    have H : Ev none e 85 47 [some (.ref 0), some (.int y), some (.ref (fR M 104 2))] [.ref (fR M 104 2), .ref 104] N4 v M' 0 0 := Ev.back 1 (fun n => rfl) H
    obtain ⟨N6, eN6⟩ : ∃ N, N = (wR N4 104 3 (fR M 104 2)) := ⟨_, rfl⟩
    have hN6 : SQ N6 := by rw [eN6]; exact hN4.kr_22_3 (hS.1.fr qa_104 qr_22_2).2
    have H : Ev none e 85 50 [some (.ref 0), some (.int y), some (.ref (fR M 104 2))] [] N6 v M' 0 0 := by rw [eN6]; exact Ev.pfr rfl rfl rfl hN4.1 qa_104 qo_22 H
    have H : Ev none e 85 53 [some (.ref 0), some (.int y), some (.ref (fR M 104 2))] [.ref 0, .int y, .ref 0] N6 v M' 0 0 := Ev.back 3 (fun n => rfl) H
    have H : Ev none e 85 56 [some (.ref 0), some (.int y), some (.ref (fR M 104 2))] [.ref 104, .int y, .ref 0] N6 v M' 0 0 := Ev.back 1 (gs_3 rfl rfl (gf_u hN6.1 qa_0 qr_0_3 qu_22 rfl)) H
    have H : Ev none e 85 59 [some (.ref 0), some (.int y), some (.ref (fR M 104 2))] [.ref (fR N6 104 2), .int y, .ref 0] N6 v M' 0 0 := Ev.back 1 (gs_3 rfl rfl (gf_r hN6.1 qa_104 qr_22_2 rfl)) H
    obtain ⟨e1, rfl⟩ := Ev.dpos rfl rfl H
    obtain ⟨vK7, MK7, K7, H⟩ := Ev.callb (fun n => gs_7 rfl rfl (show gCal (.invokevirtual 137) 10 (.ref (fR N6 104 2) :: .int y :: .ref 0 :: []) N6 = some (.inr (87, [some (.ref 0), some (.int y), some (.ref (fR N6 104 2))], [])) from by show @cond (Option ((List Value × Mem) ⊕ (Nat × Lo × List Value))) (true && gRecv N6 (.ref 0) 10 && gRoom [] && true) (some (.inr (87, [some (.ref 0), some (.int y), some (.ref (fR N6 104 2))], []))) none = _; rw [recv_s hN6.1 qa_0 qo_0]; rfl)) H
    have K7 : Ev none e1 87 0 [some (.ref 0), some (.int y), some (.ref (fR N6 104 2))] [] N6 vK7 MK7 0 0 := K7
    have HF := H
    subst eN4 eN6
    exact Or.inr (⟨h1, ⟨e1, vK7, MK7, rfl, K7, HF⟩⟩)
theorem lw_62 {e : Nat} {M M' : Mem} {v : Option Value} {y z : Int32} {c2 : Option Value} (hS : SQ M) (H : Ev none e 85 62 [some (.ref 0), some (.int y), c2] [.int z] M v M' 0 0) : v = some (.int z) ∧ M' = M := by
  obtain ⟨z1, z2⟩ := Ev.retz rfl rfl H
  exact ⟨z1, z2⟩
theorem rends_0 {e : Nat} {M M' : Mem} {v : Option Value} {y : Int32} {t : Nat} (hS : SQ M) (a_t : gNth sT t = some 28) (H : Ev none e 87 0 [some (.ref 0), some (.int y), some (.ref t)] [] M v M' 0 0) : (y = 0 ∧ v = some (.int ((-1) - (zI M 3 13))) ∧ M' = (wF (wF M 1 1 0) 0 15 (zI M 3 12))) ∨ (¬ (y = 0) ∧ v = some (.int (zI M t 8)) ∧ M' = (wF (wF M 1 1 0) 0 15 (zI M 3 12))) := by
  have H : Ev none e 87 1 [some (.ref 0), some (.int y), some (.ref t)] [.ref 0] M v M' 0 0 := Ev.back 1 (fun n => rfl) H
  have H : Ev none e 87 4 [some (.ref 0), some (.int y), some (.ref t)] [.ref 1] M v M' 0 0 := Ev.back 1 (gs_3 rfl rfl (gf_u hS.1 qa_0 qr_0_0 qu_1 rfl)) H
  have H : Ev none e 87 5 [some (.ref 0), some (.int y), some (.ref t)] [.int 0, .ref 1] M v M' 0 0 := Ev.back 1 (fun n => rfl) H
  obtain ⟨N2, eN2⟩ : ∃ N, N = (wF M 1 1 0) := ⟨_, rfl⟩
  have hN2 : SQ N2 := by rw [eN2]; exact hS.kf
  have H : Ev none e 87 8 [some (.ref 0), some (.int y), some (.ref t)] [] N2 v M' 0 0 := by rw [eN2]; exact Ev.pfi rfl rfl rfl hS.1 qa_1 qi_1_1 H
  have H : Ev none e 87 10 [some (.ref 0), some (.int y), some (.ref t)] [.ref 0, .ref 0] N2 v M' 0 0 := Ev.back 2 (fun n => rfl) H
  have H : Ev none e 87 13 [some (.ref 0), some (.int y), some (.ref t)] [.ref 3, .ref 0] N2 v M' 0 0 := Ev.back 1 (gs_3 rfl rfl (gf_u hN2.1 qa_0 qr_0_1 qu_3 rfl)) H
  have H : Ev none e 87 16 [some (.ref 0), some (.int y), some (.ref t)] [.int (zI N2 3 12), .ref 0] N2 v M' 0 0 := Ev.back 1 (gs_3 rfl rfl (gf_i hN2.1 qa_3 qi_3_12 rfl)) H
  rw [show zI N2 3 12 = zI M 3 12 from by rw [eN2]; exact fI_wF_ne (fun q => absurd q.2 (by decide))] at H
  obtain ⟨N4, eN4⟩ : ∃ N, N = (wF N2 0 15 (zI M 3 12)) := ⟨_, rfl⟩
  have hN4 : SQ N4 := by rw [eN4]; exact hN2.kf
  have H : Ev none e 87 19 [some (.ref 0), some (.int y), some (.ref t)] [] N4 v M' 0 0 := by rw [eN4]; exact Ev.pfi rfl rfl rfl hN2.1 qa_0 qi_0_15 H
  have H : Ev none e 87 (if y = 0 then 30 else 23) [some (.ref 0), some (.int y), some (.ref t)] [] N4 v M' 0 0 := Ev.back 2 (fun n => rfl) H
  by_cases h5 : y = 0
  · rw [if_pos h5] at H
    have H : Ev none e 87 32 [some (.ref 0), some (.int y), some (.ref t)] [.ref 0, .int (-1)] N4 v M' 0 0 := Ev.back 2 (fun n => rfl) H
    have H : Ev none e 87 35 [some (.ref 0), some (.int y), some (.ref t)] [.ref 3, .int (-1)] N4 v M' 0 0 := Ev.back 1 (gs_3 rfl rfl (gf_u hN4.1 qa_0 qr_0_1 qu_3 rfl)) H
    have H : Ev none e 87 38 [some (.ref 0), some (.int y), some (.ref t)] [.int (zI N4 3 13), .int (-1)] N4 v M' 0 0 := Ev.back 1 (gs_3 rfl rfl (gf_i hN4.1 qa_3 qi_3_13 rfl)) H
    rw [(show zI N4 3 13 = zI N2 3 13 from by rw [eN4]; exact fI_wF_ne (fun q => absurd q.2 (by decide))).trans (show zI N2 3 13 = zI M 3 13 from by rw [eN2]; exact fI_wF_ne (fun q => absurd q.2 (by decide)))] at H
    obtain ⟨m6, em6⟩ : ∃ m : Int32, m = (-1) := ⟨_, rfl⟩
    have H : Ev none e 87 38 [some (.ref 0), some (.int y), some (.ref t)] [.int (zI M 3 13), .int m6] N4 v M' 0 0 := by rw [em6]; exact H
    have H : Ev none e 87 39 [some (.ref 0), some (.int y), some (.ref t)] [.int (m6 - (zI M 3 13))] N4 v M' 0 0 := Ev.back 1 (fun n => rfl) H
    rw [em6] at H
    obtain ⟨z1, z2⟩ := Ev.retz rfl rfl H
    subst eN2 eN4
    exact Or.inl ⟨h5, z1, z2⟩
  · rw [if_neg h5] at H
    have H : Ev none e 87 24 [some (.ref 0), some (.int y), some (.ref t)] [.ref t] N4 v M' 0 0 := Ev.back 1 (fun n => rfl) H
    have H : Ev none e 87 27 [some (.ref 0), some (.int y), some (.ref t)] [.int (zI N4 t 8)] N4 v M' 0 0 := Ev.back 1 (gs_3 rfl rfl (gf_i hN4.1 a_t qi_28_8 rfl)) H
    rw [(show zI N4 t 8 = zI N2 t 8 from by rw [eN4]; exact fI_wF_ne (fun q => absurd q.2 (by decide))).trans (show zI N2 t 8 = zI M t 8 from by rw [eN2]; exact fI_wF_ne (fun q => absurd q.2 (by decide)))] at H
    have H : Ev none e 87 39 [some (.ref 0), some (.int y), some (.ref t)] [.int (zI M t 8)] N4 v M' 0 0 := Ev.back 1 (fun n => rfl) H
    obtain ⟨z1, z2⟩ := Ev.retz rfl rfl H
    subst eN2 eN4
    exact Or.inr (⟨h5, z1, z2⟩)
/-! THE CLASS READS A TEXT -/
noncomputable def txB (B : Nat → Int32) (law : Bool) (C : Sg → PR) (big : Bool) : Nat → Sg → List Lnq → PLn
  | 0, _, _ => .inr (0, 0)
  | j + 1, s, ls => if (hdT s.1).1 = 0 then (bif big then .inr (1, (hdT s.1).2.1) else .inl (s, ls)) else (match lnB B law C s ls with
    | .inr f => .inr f
    | .inl q => txB B law C big j q.1 q.2)
theorem lnB_len {B : Nat → Int32} {law : Bool} {C : Sg → PR} {s : Sg} {ls : List Lnq} {q : Sg × List Lnq} (h : lnB B law C s ls = .inl q) : q.2.length = ls.length + 1 := by
  have hE : ∀ {s x m nu fr q}, endB s ls x m nu fr = .inl q → q.2.length = ls.length + 1 := fun {s x m nu fr q} h => by
    unfold endB at h
    split at h
    · cases h
    · cases h
      rw [List.length_append]
      rfl
  have hC : ∀ {s x m nu fr q}, cndB B C s ls x m nu fr = .inl q → q.2.length = ls.length + 1 := fun {s x m nu fr q} h => by
    unfold cndB at h
    split at h
    · split at h
      · cases h
      · exact hE h
    · split at h
      · split at h
        · cases h
        · exact hE h
      · exact hE h
  have hN : ∀ {s x m q}, numB B C s ls x m = .inl q → q.2.length = ls.length + 1 := fun {s x m q} h => by
    unfold numB at h
    split at h
    · cases h
    · split at h
      · cases h
      · exact hC h
  unfold lnB at h
  split at h
  · cases h
  · split at h
    · cases h
    · unfold bodB at h
      split at h
      · exact hC h
      · split at h
        · split at h
          · cases h
          · exact hN h
        · exact hN h
section CTX
variable {n t : Nat} {B : Nat → Int32} {M M' : Mem} {s : Sg} {ls : List Lnq}
theorem law_cases {w : List Int32} (h : ¬ ixF w lawW 0 < 0) : ixF w lawW 0 = 0 ∨ ixF w lawW 0 = 1 ∨ ixF w lawW 0 = 2 ∨ ixF w lawW 0 = 3 ∨ ixF w lawW 0 = 4 := by
  rcases ixF_bd (w := w) lawW 0 (by decide) (by decide) with q | ⟨q1, q2, _⟩
  · rw [q] at h
    exact absurd (by decide) h
  · have z0 : (0 : Int32).toInt = 0 := rfl
    have h4 : (lawW.length : Int) = 5 := rfl
    obtain ⟨m, hm, he⟩ := i32_in (a := ixF w lawW 0) (k := 4) (by omega) (by omega) (by omega)
    rw [he]
    exact (by decide : ∀ m : Nat, m ≤ 4 → nI m = 0 ∨ nI m = 1 ∨ nI m = 2 ∨ nI m = 3 ∨ nI m = 4) m hm
theorem hab_cases {w : List Int32} (h : ¬ ixF w habW 0 < 0) : ixF w habW 0 = 0 ∨ ixF w habW 0 = 1 ∨ ixF w habW 0 = 2 := by
  rcases ixF_bd (w := w) habW 0 (by decide) (by decide) with q | ⟨q1, q2, _⟩
  · rw [q] at h
    exact absurd (by decide) h
  · have z0 : (0 : Int32).toInt = 0 := rfl
    have h4 : (habW.length : Int) = 3 := rfl
    obtain ⟨m, hm, he⟩ := i32_in (a := ixF w habW 0) (k := 2) (by omega) (by omega) (by omega)
    rw [he]
    exact (by decide : ∀ m : Nat, m ≤ 2 → nI m = 0 ∨ nI m = 1 ∨ nI m = 2) m hm
theorem ix_wd {tk : Tok} {ws : List (List Int32)} (hl : (ws.length : Int) ≤ 50) (hne : ∀ u ∈ ws, u ≠ []) (h : ¬ ixF (wdS B tk) ws 0 < 0) : tk.1 = 2 := by
  have z0 : (0 : Int32).toInt = 0 := rfl
  rcases ixF_bd (w := wdS B tk) ws 0 (by decide) (by omega) with q | ⟨_, _, q3⟩
  · rw [q] at h
    exact absurd (by decide) h
  · exact wd_ne (B := B) (u := wdS B tk) rfl (hne _ q3)
theorem ln_ok {e : Nat} {v : Option Value} {law : Bool} (ht : gNth sT t = some 28) (hn2 : n ≤ 440) (hCL : CL B n t M s ls) (hlw : zI M 3 9 = bif law then 1 else 0) (H : Ev none (e + 1) 33 0 [some (.ref 3), none, none, none, none, none, none] [] M v M' 0 0) : FA (fLq t) (wLn t) M M' ∧ LNr B n t M' v (lnB B law ((prS B e).1 1) s ls) := by
  have hC := hCL.1
  have h8 := hC.2.2.2.2.2.1
  have hneg : ∀ x : Int32, x < 0 ↔ ¬ 0 ≤ x := fun x => by rw [Int32.lt_iff_toInt_lt, Int32.le_iff_toInt_le]; omega
  have hz : (zI M 3 9 = 0) ↔ law = false := by
    rw [hlw]
    cases law
    · exact ⟨fun _ => rfl, fun _ => rfl⟩
    · exact ⟨fun q => absurd q (by decide), fun q => by cases q⟩
  have e27 : ∀ {e1 : Nat} {v2 : Option Value} {M2 : Mem} {a : Int32}, Ev none e1 27 0 [some (.ref 3), some (.int 1)] [] M v2 M2 0 0 → Ev none (e + 1) 33 28 [some (.ref 3), some (.int a), none, none, none, none, none] (v2.toList ++ []) M2 v M' 0 0 → FA (fLq t) (wLn t) M M' ∧ ERt M' v (1, (hdT s.1).2.1) := by
    intro e1 v2 M2 a H2 H
    obtain ⟨f1, f2⟩ := hC.err (v := v) (M' := M') H2 (fun y hy S => by subst hy; exact ln_28 S (by rw [(hC.fail H2).1.fr (by simp [fP]), h8]; exact ht) H)
    exact ⟨f1.ln, f2⟩
  unfold lnB kdS
  rcases ln_0 hC.1 (by rw [h8]; exact ht) H with ⟨g1, e1, v1, M1, he, H1, H⟩ | ⟨g1, e1, v1, M1, he, H1, H⟩
  · have hl := hz.mp g1
    subst hl
    cases he
    obtain ⟨rfl, rfl⟩ := amq_all (ws := habW) hC.1 hn2 hC.2.2.1 rfl (by decide) (List.cons_ne_nil _ _) (by decide) (by decide) H1
    rw [hC.wd] at H
    show FA (fLq t) (wLn t) M1 M' ∧ LNr B n t M' v (if (if ixF (wdS B (hdT s.1)) habW 0 < 0 then (-1 : Int32) else 5 + ixF (wdS B (hdT s.1)) habW 0) < 0 then .inr (1, (hdT s.1).2.1) else if 16 ≤ ls.length ∨ (onceB (if ixF (wdS B (hdT s.1)) habW 0 < 0 then (-1 : Int32) else 5 + ixF (wdS B (hdT s.1)) habW 0) = true ∧ hasK ls (if ixF (wdS B (hdT s.1)) habW 0 < 0 then (-1 : Int32) else 5 + ixF (wdS B (hdT s.1)) habW 0) = true) then .inr (3, (hdT s.1).2.1) else bodB B ((prS B e).1 1) (s.1.tail, s.2.1, s.2.2) ls (if ixF (wdS B (hdT s.1)) habW 0 < 0 then (-1 : Int32) else 5 + ixF (wdS B (hdT s.1)) habW 0))
    by_cases hx : ixF (wdS B (hdT s.1)) habW 0 < 0
    · rw [if_pos hx, if_pos (by decide)]
      rcases ln_18 hC.1 (by rw [h8]; exact ht) H with ⟨q, _⟩ | ⟨q, _⟩ | ⟨_, e2, v2, M2, he, H2, H⟩
      · exact absurd q ((hneg _).mp hx)
      · exact absurd q ((hneg _).mp hx)
      · exact e27 H2 H
    · have h2t := ix_wd (by decide) (by decide) hx
      rw [if_neg hx]
      rcases ln_18 hC.1 (by rw [h8]; exact ht) H with ⟨_, _, H⟩ | ⟨_, q, _⟩ | ⟨q, _⟩
      · rcases hab_cases hx with hk | hk | hk
        · rw [hk] at H ⊢
          rw [if_neg (by decide)]
          exact li5_ok ht hn2 hCL h2t H
        · rw [hk] at H ⊢
          rw [if_neg (by decide)]
          exact li6_ok ht hn2 hCL h2t H
        · rw [hk] at H ⊢
          rw [if_neg (by decide)]
          exact li7_ok ht hn2 hCL h2t H
      · exact absurd g1 q
      · exact absurd ((hneg _).mpr q) hx
  · have hl : law = true := by
      cases law
      · exact absurd (hz.mpr rfl) g1
      · rfl
    subst hl
    cases he
    obtain ⟨rfl, rfl⟩ := amq_all (ws := lawW) hC.1 hn2 hC.2.2.1 rfl (by decide) (List.cons_ne_nil _ _) (by decide) (by decide) H1
    rw [hC.wd] at H
    show FA (fLq t) (wLn t) M1 M' ∧ LNr B n t M' v (if ixF (wdS B (hdT s.1)) lawW 0 < 0 then .inr (1, (hdT s.1).2.1) else if 16 ≤ ls.length ∨ (onceB (ixF (wdS B (hdT s.1)) lawW 0) = true ∧ hasK ls (ixF (wdS B (hdT s.1)) lawW 0) = true) then .inr (3, (hdT s.1).2.1) else bodB B ((prS B e).1 1) (s.1.tail, s.2.1, s.2.2) ls (ixF (wdS B (hdT s.1)) lawW 0))
    by_cases hx : ixF (wdS B (hdT s.1)) lawW 0 < 0
    · rw [if_pos hx]
      rcases ln_18 hC.1 (by rw [h8]; exact ht) H with ⟨q, _⟩ | ⟨q, _⟩ | ⟨_, e2, v2, M2, he, H2, H⟩
      · exact absurd q ((hneg _).mp hx)
      · exact absurd q ((hneg _).mp hx)
      · exact e27 H2 H
    · have h2t := ix_wd (by decide) (by decide) hx
      rw [if_neg hx]
      rcases ln_18 hC.1 (by rw [h8]; exact ht) H with ⟨_, q, _⟩ | ⟨_, _, H⟩ | ⟨q, _⟩
      · exact absurd q g1
      · rcases law_cases hx with hk | hk | hk | hk | hk
        · rw [hk] at H ⊢
          exact li0_ok ht hn2 hCL h2t H
        · rw [hk] at H ⊢
          exact li1_ok ht hn2 hCL h2t H
        · rw [hk] at H ⊢
          exact li2_ok ht hn2 hCL h2t H
        · rw [hk] at H ⊢
          exact li3_ok ht hn2 hCL h2t H
        · rw [hk] at H ⊢
          exact li4_ok ht hn2 hCL h2t H
      · exact absurd ((hneg _).mpr q) hx
/-- line by line -/
theorem tx_loop {e : Nat} {law : Bool} {lw : Int32} {c1 : Option Value} (ht : gNth sT t = some 28) (hn2 : n ≤ 440) : ∀ (j : Nat) (nn : Int32) (s : Sg) (ls : List Lnq) (M M' : Mem) (v : Option Value), nn.toInt = (ls.length : Int) → ls.length + j = 17 → CL B n t M s ls → (zI M 1 1).toInt = (n : Int) → zI M 3 9 = (bif law then 1 else 0) → Ev none (e + 2) 26 58 [some (.ref 3), c1, some (.int lw), some (.int nn)] [] M v M' 0 0 → FA (fLq t) (wLn t) M M' ∧ LNr B n t M' v (txB B law ((prS B e).1 1) (decide (400 < n)) j s ls) := by
  intro j
  induction j with
  | zero =>
    intro nn s ls M M' v _ h1 hCL _ _ _
    have := hCL.2.1.2.1
    omega
  | succ j ih =>
    intro nn s ls M M' v hnn h1 hCL hn hlw H
    have hC := hCL.1
    have c5 := hC.2.2.1.at.2.2.2.2.1
    have o16 : (16 : Int32).toInt = 16 := rfl
    have o400 : (400 : Int32).toInt = 400 := rfl
    have hb := tx_ge ht
    have h8 := hC.2.2.2.2.2.1
    unfold txB
    rcases rt_58 hC.1 H with ⟨q, _⟩ | ⟨_, g1, g2, g3, rfl⟩ | ⟨_, g1, g2, e1, v1, M1, he, H1, H⟩ | ⟨_, g1, e1, v1, M1, he, H1, H⟩
    · rw [Int32.lt_iff_toInt_lt] at q
      omega
    · rw [c5] at g1
      rw [Int32.le_iff_toInt_le] at g2
      rw [if_pos g1, decide_eq_false (by omega)]
      exact ⟨FA.refl _, g3, hCL⟩
    · rw [c5] at g1
      rw [Int32.le_iff_toInt_le] at g2
      rw [if_pos g1, decide_eq_true (by omega)]
      obtain ⟨f1, f2⟩ := hC.err (v := v) (M' := M') H1 (fun y hy S => by
        subst hy
        have hy0 := (hC.fail H1).2
        obtain ⟨r1, _⟩ := RS_err hy0
        cases r1
        rcases rt_89 S H with ⟨_, r⟩ | ⟨r, _⟩
        · exact r
        · exact absurd rfl r)
      exact ⟨f1.ln, f2⟩
    · rw [c5] at g1
      rw [if_neg g1]
      cases he
      obtain ⟨F1, R1⟩ := ln_ok ht hn2 hCL hlw H1
      cases hr : lnB B law ((prS B e).1 1) s ls with
      | inr f =>
        rw [hr] at R1
        obtain ⟨rfl, S9, r9⟩ := R1
        rcases rt_102 S9 H with ⟨_, h3, rfl⟩ | ⟨h3, _⟩
        · exact ⟨F1, h3, S9, r9⟩
        · exact absurd rfl h3
      | inl q =>
        rw [hr] at R1
        obtain ⟨rfl, C1⟩ := R1
        have hlen := lnB_len hr
        rcases rt_102 C1.1.1 H with ⟨h3, _⟩ | ⟨_, H⟩
        · exact absurd h3 (by decide)
        have n1 : (nn + 1).toInt = nn.toInt + 1 := i32_p1 (by omega)
        obtain ⟨F2, R2⟩ := ih (nn + 1) q.1 q.2 _ _ _ (by omega) (by omega) C1 (by rw [F1.fi (by simp [fLq])]; exact hn) (by rw [F1.fi (by simp [fLq]; omega)]; exact hlw) H
        exact ⟨F1.trans F2, R2⟩
end CTX
/-! THE CLASS READS A TEXT, from its start; law -/
noncomputable def M0t (M : Mem) (t : Nat) (lw : Int32) : Mem := wF (wF (wF (wF (X_51 (wF (wR M 3 8 t) 3 9 lw) t) 3 10 0) 3 11 0) 3 12 0) 3 13 0
section RTX
variable {n t : Nat} {B : Nat → Int32} {M M' : Mem} {lw : Int32}
theorem bdT_tl {B : Nat → Int32} {n : Nat} : ∀ m p, n - p ≤ m → p ≤ n → bdT n (tlS B n p) ∧ (tlS B n p).length ≤ mn4 n - p + 1 := by
  intro m
  induction m with
  | zero =>
    intro p h1 h2
    have hm := mn4_le (n := n)
    rw [tlS_end h2 (by omega)]
    refine ⟨fun t ht => ?_, by simp⟩
    rw [List.mem_singleton] at ht
    subst ht
    exact ⟨Nat.le_refl _, hm⟩
  | succ m ih =>
    intro p h1 h2
    have hm := mn4_le (n := n)
    by_cases h : mn4 n ≤ p
    · rw [tlS_end h2 h]
      refine ⟨fun t ht => ?_, by simp⟩
      rw [List.mem_singleton] at ht
      subst ht
      exact ⟨Nat.le_refl _, hm⟩
    · by_cases hb : B p = 32 ∨ B p = 10
      · rw [tlS_bl h hb]
        have := ih (p + 1) (by omega) (by omega)
        exact ⟨this.1, by omega⟩
      · have a0 := tokS_at (B := B) (n := n) (p := p)
        have a1 := tokS_lt (B := B) (n := n) (p := p)
        have a2 := tokS_le (B := B) (n := n) (p := p) (by omega)
        by_cases h1 : (tokS B n p).1 = 1
        · rw [tlS_no h hb h1]
          refine ⟨fun t ht => ?_, by simp⟩
          rw [List.mem_singleton] at ht
          subst ht
          exact ⟨by omega, a2⟩
        · rw [tlS_tok h hb h1]
          have := ih (tokS B n p).2.2.1 (by omega) a2
          refine ⟨fun t ht => ?_, by rw [List.length_cons]; omega⟩
          rcases List.mem_cons.mp ht with rfl | ht
          · exact ⟨by omega, a2⟩
          · exact this.1 t ht
theorem M0t_eq : M0t M t lw = (wF (wF (wF (wF (wF (wF (wF (wF (wF (wF (wF (wR M 3 8 t) 3 9 lw) t 8 0) t 9 0) t 10 40) t 11 50) t 12 10) t 13 3) 3 10 0) 3 11 0) 3 12 0) 3 13 0) := rfl
theorem M0t_sq (hS : SQ M) (ht : gNth sT t = some 28) : SQ (M0t M t lw) := by
  rw [M0t_eq]
  exact (((((((((((((hS).kr_3_8 ht)).kf).kf).kf).kf).kf).kf).kf).kf).kf).kf).kf
theorem M0t_fa : FA [(3, 8), (3, 9), (t, 8), (t, 9), (t, 10), (t, 11), (t, 12), (t, 13), (3, 10), (3, 11), (3, 12), (3, 13)] [] M (M0t M t lw) := by
  rw [M0t_eq]
  exact (((((((((((FA.wR (by simp)).trans (FA.wF (by simp))).trans (FA.wF (by simp))).trans (FA.wF (by simp))).trans (FA.wF (by simp))).trans (FA.wF (by simp))).trans (FA.wF (by simp))).trans (FA.wF (by simp))).trans (FA.wF (by simp))).trans (FA.wF (by simp))).trans (FA.wF (by simp))).trans (FA.wF (by simp))
theorem M0t_3_9 (hS : SQ M) (ht : gNth sT t = some 28) : zI (M0t M t lw) 3 9 = lw := by
  have hb := tx_ge ht
  rw [M0t_eq, fI_wF_ne (by omega), fI_wF_ne (by omega), fI_wF_ne (by omega), fI_wF_ne (by omega), fI_wF_ne (by omega), fI_wF_ne (by omega), fI_wF_ne (by omega), fI_wF_ne (by omega), fI_wF_ne (by omega), fI_wF_ne (by omega)]
  exact fI_wF_eq ((hS).kr_3_8 ht).1 qa_3 qi_3_9
theorem M0t_t_8 (hS : SQ M) (ht : gNth sT t = some 28) : zI (M0t M t lw) t 8 = 0 := by
  have hb := tx_ge ht
  rw [M0t_eq, fI_wF_ne (by omega), fI_wF_ne (by omega), fI_wF_ne (by omega), fI_wF_ne (by omega), fI_wF_ne (by omega), fI_wF_ne (by omega), fI_wF_ne (by omega), fI_wF_ne (by omega), fI_wF_ne (by omega)]
  exact fI_wF_eq (((hS).kr_3_8 ht)).kf.1 ht qi_28_8
theorem M0t_t_9 (hS : SQ M) (ht : gNth sT t = some 28) : zI (M0t M t lw) t 9 = 0 := by
  have hb := tx_ge ht
  rw [M0t_eq, fI_wF_ne (by omega), fI_wF_ne (by omega), fI_wF_ne (by omega), fI_wF_ne (by omega), fI_wF_ne (by omega), fI_wF_ne (by omega), fI_wF_ne (by omega), fI_wF_ne (by omega)]
  exact fI_wF_eq ((((hS).kr_3_8 ht)).kf).kf.1 ht qi_28_9
theorem M0t_t_10 (hS : SQ M) (ht : gNth sT t = some 28) : zI (M0t M t lw) t 10 = 40 := by
  have hb := tx_ge ht
  rw [M0t_eq, fI_wF_ne (by omega), fI_wF_ne (by omega), fI_wF_ne (by omega), fI_wF_ne (by omega), fI_wF_ne (by omega), fI_wF_ne (by omega), fI_wF_ne (by omega)]
  exact fI_wF_eq (((((hS).kr_3_8 ht)).kf).kf).kf.1 ht qi_28_10
theorem M0t_t_11 (hS : SQ M) (ht : gNth sT t = some 28) : zI (M0t M t lw) t 11 = 50 := by
  have hb := tx_ge ht
  rw [M0t_eq, fI_wF_ne (by omega), fI_wF_ne (by omega), fI_wF_ne (by omega), fI_wF_ne (by omega), fI_wF_ne (by omega), fI_wF_ne (by omega)]
  exact fI_wF_eq ((((((hS).kr_3_8 ht)).kf).kf).kf).kf.1 ht qi_28_11
theorem M0t_t_12 (hS : SQ M) (ht : gNth sT t = some 28) : zI (M0t M t lw) t 12 = 10 := by
  have hb := tx_ge ht
  rw [M0t_eq, fI_wF_ne (by omega), fI_wF_ne (by omega), fI_wF_ne (by omega), fI_wF_ne (by omega), fI_wF_ne (by omega)]
  exact fI_wF_eq (((((((hS).kr_3_8 ht)).kf).kf).kf).kf).kf.1 ht qi_28_12
theorem M0t_t_13 (hS : SQ M) (ht : gNth sT t = some 28) : zI (M0t M t lw) t 13 = 3 := by
  have hb := tx_ge ht
  rw [M0t_eq, fI_wF_ne (by omega), fI_wF_ne (by omega), fI_wF_ne (by omega), fI_wF_ne (by omega)]
  exact fI_wF_eq ((((((((hS).kr_3_8 ht)).kf).kf).kf).kf).kf).kf.1 ht qi_28_13
theorem M0t_3_10 (hS : SQ M) (ht : gNth sT t = some 28) : zI (M0t M t lw) 3 10 = 0 := by
  have hb := tx_ge ht
  rw [M0t_eq, fI_wF_ne (by omega), fI_wF_ne (by omega), fI_wF_ne (by omega)]
  exact fI_wF_eq (((((((((hS).kr_3_8 ht)).kf).kf).kf).kf).kf).kf).kf.1 qa_3 qi_3_10
theorem M0t_3_11 (hS : SQ M) (ht : gNth sT t = some 28) : zI (M0t M t lw) 3 11 = 0 := by
  have hb := tx_ge ht
  rw [M0t_eq, fI_wF_ne (by omega), fI_wF_ne (by omega)]
  exact fI_wF_eq ((((((((((hS).kr_3_8 ht)).kf).kf).kf).kf).kf).kf).kf).kf.1 qa_3 qi_3_11
theorem M0t_3_12 (hS : SQ M) (ht : gNth sT t = some 28) : zI (M0t M t lw) 3 12 = 0 := by
  have hb := tx_ge ht
  rw [M0t_eq, fI_wF_ne (by omega)]
  exact fI_wF_eq (((((((((((hS).kr_3_8 ht)).kf).kf).kf).kf).kf).kf).kf).kf).kf.1 qa_3 qi_3_12
theorem M0t_r (hS : SQ M) (ht : gNth sT t = some 28) : fR (M0t M t lw) 3 8 = t := by
  rw [M0t_eq, fR_wF, fR_wF, fR_wF, fR_wF, fR_wF, fR_wF, fR_wF, fR_wF, fR_wF, fR_wF, fR_wF]
  exact fR_wR_eq hS.1 qa_3 qk_3_8
def fTx (t : Nat) : List (Nat × Nat) := [(3, 5), (3, 6), (3, 7), (3, 8), (3, 9), (3, 10), (3, 11), (3, 12), (3, 13), (t, 8), (t, 9), (t, 10), (t, 11), (t, 12), (t, 13)]
def wTx (t : Nat) : List Nat := [4, 5, 6, 7, t + 1, t + 2, t + 3, t + 4, t + 5, t + 6, t + 7, t + 8]
/-- what a text's reading comes to -/
noncomputable def rdB (B : Nat → Int32) (n : Nat) (law : Bool) (C : Sg → PR) : PLn := txB B law C (decide (400 < n)) 17 (tlS B n 0, 0, []) []
theorem rt_ok {e : Nat} {v : Option Value} {law : Bool} (hS : SQ M) (ht : gNth sT t = some 28) (hn : (zI M 1 1).toInt = (n : Int)) (hn2 : n ≤ 440) (hB : ∀ k, k < n → bC M k = B k) (H : Ev none (e + 2) 26 0 [some (.ref 3), some (.ref t), some (.int (bif law then 1 else 0)), none] [] M v M' 0 0) : FA (fTx t) (wTx t) M M' ∧ LNr B n t M' v (rdB B n law ((prS B e).1 1)) := by
  have hb := tx_ge ht
  obtain ⟨e1, v1, M1, he, H1, H⟩ := rt_0 hS ht H
  have H1 : Ev none e1 28 0 [some (.ref 3), none, none, none, none] [] (M0t M t (bif law then 1 else 0)) v1 M1 0 0 := H1
  have s0 := M0t_sq (lw := bif law then 1 else 0) hS ht
  have f0 := M0t_fa (M := M) (t := t) (lw := bif law then 1 else 0)
  have b0 : bC (M0t M t (bif law then 1 else 0)) = bC M := by
    funext k
    exact f0.rn (by simp)
  obtain ⟨rfl, s1, f1, c1, c2⟩ := ft_all (n := n) s0 (by rw [f0.fi (by simp)]; exact hn) hn2 H1
  rw [b0, tlS_cg hB n 0 (by omega) (by omega)] at c1 c2
  have H := rt_41 s1 H
  obtain ⟨z1, z2⟩ := bdT_tl (B := B) (n := n) n 0 (by omega) (by omega)
  have hw := tlS_wf (B := B) (n := n) n 0 (by omega) (by omega)
  have h4 : mn4 n ≤ 400 := by
    unfold mn4
    split <;> omega
  obtain ⟨r, hr⟩ := hw.ne
  have q1 : rI M1 4 0 = (hdT (tlS B n 0)).1 := by
    have := (c2 0 (hdT (tlS B n 0)) (by rw [hr]; rfl)).1
    exact this
  have s2 : SQ (wF (wF M1 3 6 0) 3 7 (rI M1 4 0)) := s1.kf.kf
  have f2 : FA [(3, 6), (3, 7)] [] M1 (wF (wF M1 3 6 0) 3 7 (rI M1 4 0)) := (FA.wF (by simp)).trans (FA.wF (by simp))
  have b1 : ∀ k, k < n → bC (wF (wF M1 3 6 0) 3 7 (rI M1 4 0)) k = B k := by
    intro k hk
    rw [← hB k hk, ← b0]
    exact (f2.rn (by simp)).trans (f1.rn (by simp))
  have g : ∀ a k, (a, k) ≠ (3, 5) → (a, k) ≠ (3, 6) → (a, k) ≠ (3, 7) → zI (wF (wF M1 3 6 0) 3 7 (rI M1 4 0)) a k = zI (M0t M t (bif law then 1 else 0)) a k := fun a k h1 h2 h3 => by
    rw [f2.fi (by simp only [List.mem_cons, List.not_mem_nil, or_false]; intro q; rcases q with q | q; exact h2 q; exact h3 q), f1.fi (by simp only [List.mem_cons, List.not_mem_nil, or_false]; exact h1)]
  have gt : ∀ k, zI (wF (wF M1 3 6 0) 3 7 (rI M1 4 0)) t k = zI (M0t M t (bif law then 1 else 0)) t k := fun k => g t k (fun q => by injection q; omega) (fun q => by injection q; omega) (fun q => by injection q; omega)
  have C0 : CL B n t (wF (wF M1 3 6 0) 3 7 (rI M1 4 0)) (tlS B n 0, 0, []) [] := by
    refine ⟨⟨s2, b1, ⟨tlS B n 0, 0, rfl, hw, z1, ?_, ?_, by omega, ?_, ?_⟩, ?_, Nat.zero_le _, ?_, ⟨?_, Nat.zero_le _, fun j c h => by cases h⟩, Nat.zero_le _, ?_⟩, ⟨?_, Nat.zero_le _, fun j c h => by cases h⟩, ?_, ?_, ?_, ?_, ?_⟩
    · rw [fI_wF_ne (by decide), fI_wF_eq s1.1 qa_3 qi_3_6]
      rfl
    · rw [f2.fi (by decide)]
      exact c1
    · intro j tk h
      have := c2 j tk h
      rw [f2.rn (by simp), f2.rn (by simp), f2.rn (by simp), f2.rn (by simp)]
      exact this
    · rw [fI_wF_eq s1.kf.1 qa_3 qi_3_7]
      exact q1
    · rw [g 3 11 (by decide) (by decide) (by decide), M0t_3_11 hS ht]
      rfl
    · rw [f2.fr (by decide), f1.fr (by decide)]
      exact M0t_r hS ht
    · rw [gt, M0t_t_9 hS ht]
      rfl
    · rw [g 3 12 (by decide) (by decide) (by decide), M0t_3_12 hS ht]
    · rw [gt, M0t_t_8 hS ht]
      rfl
    · rw [gt, M0t_t_10 hS ht]
      rfl
    · rw [gt, M0t_t_11 hS ht]
      rfl
    · rw [gt, M0t_t_12 hS ht]
      rfl
    · rw [gt, M0t_t_13 hS ht]
      rfl
    · rw [g 3 10 (by decide) (by decide) (by decide), M0t_3_10 hS ht]
      rfl
  obtain ⟨f3, R⟩ := tx_loop ht hn2 17 0 _ [] _ M' v rfl rfl C0 (by rw [f2.fi (by decide), f1.fi (by decide), f0.fi (by simp)]; exact hn) (by rw [g 3 9 (by decide) (by decide) (by decide), M0t_3_9 hS ht]) H
  refine ⟨?_, R⟩
  exact (((f0.more (fun q hq => by simp only [fTx, List.mem_cons, List.not_mem_nil, or_false] at hq ⊢; rcases hq with h | h | h | h | h | h | h | h | h | h | h | h <;> simp [h]) (fun q hq => by cases hq)).trans (f1.more (fun q hq => by simp only [fTx, List.mem_cons, List.not_mem_nil, or_false] at hq ⊢; simp [hq]) (fun q hq => by simp only [wTx, List.mem_cons, List.not_mem_nil, or_false] at hq ⊢; rcases hq with h | h | h | h <;> simp [h]))).trans (f2.more (fun q hq => by simp only [fTx, List.mem_cons, List.not_mem_nil, or_false] at hq ⊢; rcases hq with h | h <;> simp [h]) (fun q hq => by cases hq))).trans (f3.more (fun q hq => by simp only [fLq, fTx, List.mem_cons, List.not_mem_nil, or_false] at hq ⊢; rcases hq with h | h | h | h | h | h | h | h | h | h | h | h <;> simp [h]) (fun q hq => by simp only [wLn, wTx, List.mem_cons, List.not_mem_nil, or_false] at hq ⊢; rcases hq with h | h | h | h | h | h | h | h <;> simp [h]))
end RTX
/-! THE CLASS'S law -/
noncomputable def ansB (r : PLn) : Int := match r with
  | .inr f => -1 - (f.2 : Int)
  | .inl q => (q.2.length : Int)
noncomputable def fltB (r : PLn) : Int32 := match r with
  | .inr f => f.1
  | .inl _ => 0
/-- what a text holds -/
def TXT (M : Mem) (t : Nat) (q : Sg × List Lnq) : Prop := LCt M t q.2 ∧ CC M t q.1.2.2 ∧ zI M t 10 = tvS q.2 2 40 ∧ zI M t 11 = tvS q.2 3 50 ∧ zI M t 12 = tvS q.2 4 10 ∧ zI M t 13 = tvS q.2 7 3
section LAWC
variable {n t : Nat} {B : Nat → Int32} {M M' : Mem} {F : List (Nat × Nat)} {W : List Nat}
theorem TXT.frm {q : Sg × List Lnq} (h : TXT M t q) (hF : FA F W M M') (f : ∀ k, 8 ≤ k → k ≤ 13 → (t, k) ∉ F) (w : ∀ b, t < b → b ≤ t + 8 → b ∉ W) : TXT M' t q := by
  obtain ⟨a1, a2, a3, a4, a5, a6⟩ := h
  refine ⟨a1.frm hF (f 8 (by omega) (by omega)) (fun b hb => ?_), a2.frm hF (f 9 (by omega) (by omega)) (w _ (by omega) (by omega)) (w _ (by omega) (by omega)) (w _ (by omega) (by omega)), ?_, ?_, ?_, ?_⟩
  · simp only [List.mem_cons, List.not_mem_nil, or_false] at hb
    exact w b (by omega) (by omega)
  · rw [hF.fi (f 10 (by omega) (by omega))]; exact a3
  · rw [hF.fi (f 11 (by omega) (by omega))]; exact a4
  · rw [hF.fi (f 12 (by omega) (by omega))]; exact a5
  · rw [hF.fi (f 13 (by omega) (by omega))]; exact a6
theorem i32_m1x {x m : Int32} (hm : m = -1) (h : 0 ≤ x.toInt) : (m - x).toInt = -1 - x.toInt := by
  have h1 : m.toInt = -1 := by rw [hm]; rfl
  have h2 := i32_lt x
  rw [i32_sub (by omega) (by omega), h1]
theorem tN (hS : SQ M) : gNth sT (fR M 104 3) = some 28 ∧ gNth sT (fR M 104 2) = some 28 := ⟨(hS.1.fr qa_104 qr_22_3).2, (hS.1.fr qa_104 qr_22_2).2⟩
def fRe (t : Nat) : List (Nat × Nat) := [(104, 2), (104, 3), (1, 1), (0, 15)] ++ fTx t
theorem FA.re (h : FA (fTx t) (wTx t) M M') : FA (fRe t) (wTx t) M M' := h.more (fun q hq => List.mem_append_right _ hq) (fun _ hq => hq)
/-- both ends of a reading -/
theorem re_no {e : Nat} {v : Option Value} {f : Int32 × Nat} (hS : SQ M) (ht : gNth sT t = some 28) (h1 : zI M 3 12 = f.1) (h2 : (zI M 3 13).toInt = (f.2 : Int)) (H : Ev none e 87 0 [some (.ref 0), some (.int 0), some (.ref t)] [] M v M' 0 0) : (∃ x, v = some (.int x) ∧ x.toInt = -1 - (f.2 : Int)) ∧ SQ M' ∧ FA [(1, 1), (0, 15)] [] M M' ∧ zI M' 1 1 = 0 ∧ zI M' 0 15 = f.1 := by
  rcases rends_0 hS ht H with ⟨_, rfl, rfl⟩ | ⟨q, _⟩
  · obtain ⟨m, hm⟩ : ∃ m : Int32, m = -1 := ⟨_, rfl⟩
    refine ⟨⟨_, rfl, ?_⟩, hS.kf.kf, (FA.wF (by simp)).trans (FA.wF (by simp)), ?_, ?_⟩
    · rw [← hm, i32_m1x hm (by omega), h2]
    · rw [fI_wF_ne (by decide), fI_wF_eq hS.1 qa_1 qi_1_1]
    · rw [fI_wF_eq hS.kf.1 qa_0 qi_0_15]
      exact h1
  · exact absurd rfl q
theorem re_yes {e : Nat} {v : Option Value} (hS : SQ M) (ht : gNth sT t = some 28) (H : Ev none e 87 0 [some (.ref 0), some (.int 1), some (.ref t)] [] M v M' 0 0) : v = some (.int (zI M t 8)) ∧ SQ M' ∧ FA [(1, 1), (0, 15)] [] M M' ∧ zI M' 1 1 = 0 ∧ zI M' 0 15 = zI M 3 12 := by
  rcases rends_0 hS ht H with ⟨q, _⟩ | ⟨_, rfl, rfl⟩
  · exact absurd q (by decide)
  · refine ⟨rfl, hS.kf.kf, (FA.wF (by simp)).trans (FA.wF (by simp)), ?_, ?_⟩
    · rw [fI_wF_ne (by decide), fI_wF_eq hS.1 qa_1 qi_1_1]
    · rw [fI_wF_eq hS.kf.1 qa_0 qi_0_15]
theorem law_ok {e : Nat} {v : Option Value} (hS : SQ M) (hn : (zI M 1 1).toInt = (n : Int)) (hn2 : n ≤ 440) (hB : ∀ k, k < n → bC M k = B k) (H : Ev none (e + 3) 85 0 [some (.ref 0), none, none] [] M v M' 0 0) : (∃ x, v = some (.int x) ∧ x.toInt = ansB (rdB B n true ((prS B e).1 1))) ∧ SQ M' ∧ FA (fRe (fR M 104 3)) (wTx (fR M 104 3)) M M' ∧ zI M' 1 1 = 0 ∧ zI M' 0 15 = fltB (rdB B n true ((prS B e).1 1)) ∧ (match rdB B n true ((prS B e).1 1) with
    | .inr _ => fR M' 104 2 = fR M 104 2 ∧ fR M' 104 3 = fR M 104 3
    | .inl q => fR M' 104 2 = fR M 104 3 ∧ fR M' 104 3 = fR M 104 2 ∧ TXT M' (fR M 104 3) q) := by
  obtain ⟨t3, t2⟩ := tN hS
  obtain ⟨e1, v1, M1, he, H1, H⟩ := lw_0 hS H
  obtain ⟨rfl⟩ : e + 2 = e1 := by omega
  obtain ⟨f1, R⟩ := rt_ok (law := true) hS t3 hn hn2 hB H1
  obtain ⟨sp, hsp⟩ : ∃ sp, sp = fR M 104 3 := ⟨_, rfl⟩
  rw [← hsp] at t3 f1 R ⊢
  have hb := tx_ge t3
  cases hr : rdB B n true ((prS B e).1 1) with
  | inr f =>
    rw [hr] at R
    obtain ⟨rfl, s1, r1, r2⟩ := R
    rcases lw_15 s1 H with ⟨_, e2, v2, M2, he2, H2, H⟩ | ⟨q, _⟩
    · obtain ⟨⟨x, rfl, hx⟩, s2, f2, z1, z2⟩ := re_no s1 (tN s1).2 r1 r2 H2
      obtain ⟨rfl, rfl⟩ := lw_62 s2 H
      refine ⟨⟨x, rfl, hx⟩, s2, f1.re.trans (f2.more (fun q hq => ?_) (fun q hq => by cases hq)), z1, z2, ?_, ?_⟩
      · simp only [List.mem_cons, List.not_mem_nil, or_false] at hq
        rcases hq with rfl | rfl <;> simp [fRe]
      · rw [f2.fr (by decide), f1.fr (by simp [fTx])]
      · rw [f2.fr (by decide), f1.fr (by simp [fTx])]
        exact hsp.symm
    · exact absurd rfl q
  | inl q =>
    rw [hr] at R
    obtain ⟨rfl, C1⟩ := R
    have s1 := C1.1.1
    rcases lw_15 s1 H with ⟨q, _⟩ | ⟨_, e2, v2, M2, he2, H2, H⟩
    · exact absurd q (by decide)
    · obtain ⟨t13, t12⟩ := tN s1
      have r3 : fR M1 104 3 = sp := (f1.fr (by simp [fTx])).trans hsp.symm
      have r2 : fR M1 104 2 = fR M 104 2 := f1.fr (by simp [fTx])
      have s1b : SQ (wR M1 104 2 (fR M1 104 3)) := s1.kr_22_2 t13
      have s2 : SQ (wR (wR M1 104 2 (fR M1 104 3)) 104 3 (fR M1 104 2)) := s1b.kr_22_3 t12
      have f2 : FA [(104, 2), (104, 3)] [] M1 (wR (wR M1 104 2 (fR M1 104 3)) 104 3 (fR M1 104 2)) := (FA.wR (by simp)).trans (FA.wR (by simp))
      have e2 : fR (wR (wR M1 104 2 (fR M1 104 3)) 104 3 (fR M1 104 2)) 104 2 = sp := by
        rw [fR_wR_ne (by decide), fR_wR_eq s1.1 qa_104 qk_22_2, r3]
      have e3 : fR (wR (wR M1 104 2 (fR M1 104 3)) 104 3 (fR M1 104 2)) 104 3 = fR M 104 2 := by
        rw [fR_wR_eq s1b.1 qa_104 qk_22_3, r2]
      have h9 : zI M1 3 12 = 0 := C1.1.2.2.2.2.2.2.2.2
      rw [e2] at H2
      obtain ⟨rfl, s3, f3, z1, z2⟩ := re_yes s2 t3 H2
      obtain ⟨rfl, rfl⟩ := lw_62 s3 H
      refine ⟨⟨_, rfl, ?_⟩, s3, (f1.re.trans (f2.more (fun q hq => ?_) (fun q hq => by cases hq))).trans (f3.more (fun q hq => ?_) (fun q hq => by cases hq)), z1, ?_, ?_, ?_, ?_⟩
      · rw [f2.fi (by simp)]
        exact C1.2.1.1
      · simp only [List.mem_cons, List.not_mem_nil, or_false] at hq
        rcases hq with rfl | rfl <;> simp [fRe]
      · simp only [List.mem_cons, List.not_mem_nil, or_false] at hq
        rcases hq with rfl | rfl <;> simp [fRe]
      · rw [z2, f2.fi (by simp), h9]
        rfl
      · rw [f3.fr (by decide), e2]
      · rw [f3.fr (by decide), e3]
      · exact (TXT.frm ⟨C1.2.1, C1.1.2.2.2.2.2.2.1, C1.2.2.1, C1.2.2.2.1, C1.2.2.2.2.1, C1.2.2.2.2.2.1⟩ f2 (fun k _ _ => by simp; omega) (fun b _ _ => by simp)).frm f3 (fun k _ _ => by simp; omega) (fun b _ _ => by simp)
end LAWC
