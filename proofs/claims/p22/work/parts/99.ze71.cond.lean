/-! CONDITIONS, evaluated: what the parser writes is well formed, and never deep -/
/-- what is asked of a CELL -/
def atC (c : Cdq) : Prop := 0 ≤ c.1.toInt ∧ (c.1.toInt ≤ 7 ∨ (8 ≤ c.1.toInt ∧ c.1.toInt ≤ 11 ∧ (c.2.1 = 60 ∨ c.2.1 = 61 ∨ c.2.1 = 62) ∧ 0 ≤ c.2.2.toInt ∧ c.2.2.toInt ≤ 999))
theorem atC.no {c : Cdq} (h : atC c) : c.1 ≠ 20 ∧ c.1 ≠ 21 ∧ c.1 ≠ 22 := by
  have e0 : (20 : Int32).toInt = 20 := rfl
  have e1 : (21 : Int32).toInt = 21 := rfl
  have e2 : (22 : Int32).toInt = 22 := rfl
  obtain ⟨h0, h⟩ := h
  refine ⟨fun q => ?_, fun q => ?_, fun q => ?_⟩ <;> rw [q] at h0 h <;> rcases h with h | ⟨_, h, _⟩ <;> omega
/-- steps well formed, d values lying on the pile, 32 at most; one is left -/
def okC : List Cdq → Nat → Prop
  | [], d => d = 1
  | c :: r, d => if c.1 = 20 then 1 ≤ d ∧ okC r d else if c.1 = 21 ∨ c.1 = 22 then 2 ≤ d ∧ okC r (d - 1) else atC c ∧ d < 32 ∧ okC r (d + 1)
/-- one value more, no more than m deep -/
def GC (cs : List Cdq) (m : Nat) : Prop := ∀ (d : Nat) (r : List Cdq), d + m ≤ 32 → okC r (d + 1) → okC (cs ++ r) d
theorem GC.atom (c : Cdq) (h : atC c) : GC [c] 1 := by
  intro d r hd hr
  show (if c.1 = 20 then _ else _)
  rw [if_neg h.no.1, if_neg (fun q => q.elim h.no.2.1 h.no.2.2)]
  exact ⟨h, by omega, hr⟩
theorem GC.nott (cs : List Cdq) (m : Nat) (h : GC cs m) : GC (cs ++ [(20, 0, 0)]) m := by
  intro d r hd hr
  rw [List.append_assoc]
  refine h d _ hd ?_
  show (if (20 : Int32) = 20 then _ else _)
  rw [if_pos rfl]
  exact ⟨by omega, hr⟩
theorem GC.bin (as bs : List Cdq) (m k : Nat) (c : Int32) (h1 : GC as m) (h2 : GC bs k) (hc : c = 21 ∨ c = 22) : GC (as ++ (bs ++ [(c, 0, 0)])) (max m (k + 1)) := by
  intro d r hd hr
  rw [List.append_assoc, List.append_assoc]
  refine h1 d _ (by omega) (h2 (d + 1) _ (by omega) ?_)
  have h20 : ¬ c = 20 := by rcases hc with rfl | rfl <;> decide
  show (if c = 20 then _ else _)
  rw [if_neg h20, if_pos hc]
  exact ⟨by omega, hr⟩
theorem GC.ok {cs : List Cdq} {m : Nat} (h : GC cs m) (hm : m ≤ 32) : okC cs 0 := by
  have := h 0 [] (by omega) rfl
  rw [List.append_nil] at this
  exact this
/-- what a COND comes to, its steps one by one; the pile's top is the head -/
def evC (tr : Cdq → Bool) : List Cdq → List Bool → List Bool
  | [], st => st
  | c :: r, st => evC tr r (if c.1 = 20 then (match st with
      | x :: q => (!x) :: q
      | [] => []) else if c.1 = 21 then (match st with
      | y :: x :: q => (x && y) :: q
      | _ => []) else if c.1 = 22 then (match st with
      | y :: x :: q => (x || y) :: q
      | _ => []) else tr c :: st)
section WFC
variable {B : Nat → Int32}
def bO (dep : Nat) : Nat := 1 + 2 * (11 - dep)
def TKn (ts : List Tok) : Prop := ∀ t ∈ ts, t.1 = 3 → 0 ≤ t.2.2.2.toInt ∧ t.2.2.2.toInt ≤ 999
theorem TKn.tl {ts : List Tok} (h : TKn ts) : TKn ts.tail := fun t ht => h t (List.mem_of_mem_tail ht)
theorem TKn.hd {ts : List Tok} (h : TKn ts) (h3 : (hdT ts).1 = 3) : 0 ≤ (hdT ts).2.2.2.toInt ∧ (hdT ts).2.2.2.toInt ≤ 999 := by
  cases ts with
  | nil => exact absurd h3 (show ¬ (0 : Int32) = 3 by decide)
  | cons t r => exact h t List.mem_cons_self h3
def WO (b : Nat → Nat) (O : Nat → Sg → PR) : Prop := ∀ dep s s2, TKn s.1 → O dep s = .inl s2 → TKn s2.1 ∧ ∃ cs m, s2.2.2 = s.2.2 ++ cs ∧ GC cs m ∧ m ≤ b dep
theorem mr_wf {w : List Int32} {c : Int32} {O : Nat → Sg → PR} {b : Nat → Nat} {dep : Nat} (hc : c = 21 ∨ c = 22) (hO : WO b O) : ∀ (j : Nat) (s s2 : Sg) (X cs : List Cdq) (m : Nat), TKn s.1 → s.2.2 = X ++ cs → GC cs m → m ≤ b dep + 1 → mrB B w c O dep j s = .inl s2 → TKn s2.1 ∧ ∃ cs' m', s2.2.2 = X ++ cs' ∧ GC cs' m' ∧ m' ≤ b dep + 1 := by
  intro j
  induction j with
  | zero =>
    intro s s2 X cs m ht h1 h2 h3 h
    cases h
    exact ⟨ht, cs, m, h1, h2, h3⟩
  | succ j ih =>
    intro s s2 X cs m ht h1 h2 h3 h
    unfold mrB at h
    by_cases hw : wdS B (hdT s.1) = w
    · rw [if_pos hw] at h
      cases ho : O dep (s.1.tail, s.2.1, s.2.2) with
      | inr f => rw [ho] at h; cases h
      | inl s3 =>
        rw [ho] at h
        obtain ⟨ht3, ds, k, e1, e2, e3⟩ := hO dep _ _ ht.tl ho
        refine ih (s3.1, s3.2.1, s3.2.2 ++ [(c, 0, 0)]) s2 X (cs ++ (ds ++ [(c, 0, 0)])) (max m (k + 1)) ht3 ?_ (GC.bin cs ds m k c h2 e2 hc) (by omega) h
        show s3.2.2 ++ [(c, 0, 0)] = X ++ (cs ++ (ds ++ [(c, 0, 0)]))
        rw [e1]
        show (s.2.2 ++ ds) ++ [(c, 0, 0)] = _
        rw [h1]
        simp only [List.append_assoc]
    · rw [if_neg hw] at h
      cases h
      exact ⟨ht, cs, m, h1, h2, h3⟩
theorem all_wf {O : Nat → Sg → PR} {b : Nat → Nat} (hO : WO b O) : WO (fun d => b d + 1) (allB B O) := by
  intro dep s s2 ht h
  unfold allB at h
  cases ho : O dep s with
  | inr f => rw [ho] at h; cases h
  | inl s3 =>
    rw [ho] at h
    obtain ⟨ht3, cs, m, e1, e2, e3⟩ := hO dep _ _ ht ho
    exact mr_wf (Or.inl rfl) hO 40 s3 s2 s.2.2 cs m ht3 e1 e2 (by omega) h
theorem con_wf {A : Nat → Sg → PR} {b : Nat → Nat} (hA : WO b A) : WO (fun d => b d + 1) (conB B A) := by
  intro dep s s2 ht h
  unfold conB at h
  cases ho : A dep s with
  | inr f => rw [ho] at h; cases h
  | inl s3 =>
    rw [ho] at h
    obtain ⟨ht3, cs, m, e1, e2, e3⟩ := hA dep _ _ ht ho
    exact mr_wf (Or.inr rfl) hA 40 s3 s2 s.2.2 cs m ht3 e1 e2 (by omega) h
theorem ix13 {w : List Int32} (h : ¬ ixF w oneW 0 < 0) : 0 ≤ (ixF w oneW 0).toInt ∧ (ixF w oneW 0).toInt ≤ 12 := by
  have z0 : (0 : Int32).toInt = 0 := rfl
  have hl : (oneW.length : Int) = 13 := rfl
  rcases ixF_bd (w := w) oneW 0 (by decide) (by decide) with q | ⟨q1, q2, _⟩
  · rw [q] at h
    exact absurd (by decide) h
  · omega
theorem one_wf {C O : Nat → Sg → PR} (hC : WO (fun d => bO d + 2) C) (hO : WO bO O) : WO bO (oneB B C O) := by
  intro dep s s2 ht h
  have e12 : (12 : Int32).toInt = 12 := rfl
  have e8 : (8 : Int32).toInt = 8 := rfl
  unfold oneB at h
  by_cases h1 : ixF (wdS B (hdT s.1)) oneW 0 < 0 ∧ (hdT s.1).1 ≠ 40
  · rw [if_pos h1] at h
    cases h
  · rw [if_neg h1] at h
    by_cases h2 : 40 ≤ s.2.1 ∨ 10 < dep
    · rw [if_pos h2] at h
      cases h
    · rw [if_neg h2] at h
      have hd : dep ≤ 10 := by omega
      by_cases h3 : ixF (wdS B (hdT s.1)) oneW 0 < 0
      · rw [if_pos h3] at h
        cases hc : C (dep + 1) (s.1.tail, s.2.1 + 1, s.2.2) with
        | inr f => rw [hc] at h; cases h
        | inl s3 =>
          rw [hc] at h
          obtain ⟨ht3, cs, m, e1, e2, e3⟩ := hC _ _ _ ht.tl hc
          have h : (if (hdT s3.1).1 ≠ 41 then (.inr (1, (hdT s3.1).2.1) : PR) else .inl (s3.1.tail, s3.2.1, s3.2.2)) = .inl s2 := h
          by_cases h4 : (hdT s3.1).1 ≠ 41
          · rw [if_pos h4] at h
            cases h
          · rw [if_neg h4] at h
            cases h
            exact ⟨ht3.tl, cs, m, e1, e2, by have e3 : m ≤ bO (dep + 1) + 2 := e3; unfold bO at e3 ⊢; omega⟩
      · rw [if_neg h3] at h
        obtain ⟨i1, i2⟩ := ix13 h3
        by_cases h4 : ixF (wdS B (hdT s.1)) oneW 0 = 12
        · rw [if_pos h4] at h
          cases hc : O (dep + 1) (s.1.tail, s.2.1 + 1, s.2.2) with
          | inr f => rw [hc] at h; cases h
          | inl s3 =>
            rw [hc] at h
            cases h
            obtain ⟨ht3, cs, m, e1, e2, e3⟩ := hO _ _ _ ht.tl hc
            refine ⟨ht3, cs ++ [(20, 0, 0)], m, ?_, GC.nott cs m e2, by unfold bO at e3 ⊢; omega⟩
            show s3.2.2 ++ [(20, 0, 0)] = _
            rw [e1, List.append_assoc]
        · rw [if_neg h4] at h
          have i3 : (ixF (wdS B (hdT s.1)) oneW 0).toInt ≤ 11 := by
            have : (ixF (wdS B (hdT s.1)) oneW 0).toInt ≠ 12 := fun q => h4 (Int32.toInt_inj.mp (q.trans e12.symm))
            omega
          have b1 : 1 ≤ bO dep := by unfold bO; omega
          by_cases h5 : 8 ≤ ixF (wdS B (hdT s.1)) oneW 0
          · rw [if_pos h5] at h
            rw [Int32.le_iff_toInt_le] at h5
            unfold cmpS at h
            by_cases g1 : (hdT s.1.tail).1 ≠ 60 ∧ (hdT s.1.tail).1 ≠ 61 ∧ (hdT s.1.tail).1 ≠ 62
            · rw [if_pos g1] at h
              cases h
            · rw [if_neg g1] at h
              by_cases g2 : (hdT s.1.tail.tail).1 ≠ 3
              · rw [if_pos g2] at h
                cases h
              · rw [if_neg g2] at h
                cases h
                have g3 := ht.tl.tl.hd (Decidable.not_not.mp g2)
                refine ⟨ht.tl.tl.tl, _, 1, rfl, GC.atom _ ⟨i1, Or.inr ⟨(by show (8 : Int) ≤ (ixF (wdS B (hdT s.1)) oneW 0).toInt; omega), i3, ?_, g3⟩⟩, b1⟩
                show (hdT s.1.tail).1 = 60 ∨ (hdT s.1.tail).1 = 61 ∨ (hdT s.1.tail).1 = 62
                by_cases q1 : (hdT s.1.tail).1 = 60
                · exact Or.inl q1
                · by_cases q2 : (hdT s.1.tail).1 = 61
                  · exact Or.inr (Or.inl q2)
                  · by_cases q3 : (hdT s.1.tail).1 = 62
                    · exact Or.inr (Or.inr q3)
                    · exact absurd ⟨q1, q2, q3⟩ g1
          · rw [if_neg h5] at h
            rw [Int32.le_iff_toInt_le] at h5
            cases h
            exact ⟨ht.tl, _, 1, rfl, GC.atom _ ⟨i1, Or.inl (by show (ixF (wdS B (hdT s.1)) oneW 0).toInt ≤ (7 : Int); omega)⟩, b1⟩
theorem pr_wf : ∀ d : Nat, WO (fun d => bO d + 2) (prS B d).1 ∧ WO (fun d => bO d + 1) (prS B d).2.1 ∧ WO bO (prS B d).2.2 := by
  intro d
  induction d with
  | zero => exact ⟨fun _ _ _ _ h => (by cases h), fun _ _ _ _ h => (by cases h), fun _ _ _ _ h => (by cases h)⟩
  | succ d ih =>
    exact ⟨con_wf ih.2.1, all_wf ih.2.2, one_wf ih.1 ih.2.2⟩
end WFC
