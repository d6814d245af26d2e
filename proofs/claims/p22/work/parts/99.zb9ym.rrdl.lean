/-! THE REFERENCE'S read, whole -/
section RRL
variable {e n kk : Nat} {M M1 M' : Mem} {v : Option Value} {B : Nat → Int32} {s : Sg} {ls : List Lnq}
theorem RTk.fin {ts : List Tok} (h : RTk B n M ts) : ((hdT ts).1 = 0 ∧ zI M 633 22 = (if 400 < n then 4 else 0)) ∨ ((hdT ts).1 ≠ 0 ∧ zI M 633 22 ≠ 0) := by
  cases ts with
  | nil => exact h.elim
  | cons t r =>
    obtain ⟨_, h⟩ := h
    rcases h with ⟨h1, h2⟩ | ⟨h1, h2⟩ | ⟨h1, h2, _⟩
    · exact Or.inl ⟨h1, h2⟩
    · exact Or.inr ⟨by show t.1 ≠ 0; rw [h1]; decide, by rw [h2]; decide⟩
    · refine Or.inr ⟨h1.1, ?_⟩
      rcases h2 with ⟨_, q, _⟩ | ⟨_, q, _⟩ | ⟨_, q, _⟩ <;> rw [q] <;> decide
theorem rdq_one {l : Int32} {law : Bool} {c2 c3 c4 : Option Value} (hl : l = bif law then 1 else 0) (hn2 : n ≤ 440) (hk : 33 ≤ kk) (h : R0 B n M s) (h40 : s.2.1 ≤ 40) (hL : LQ M ls) (hz : zI M 633 22 ≠ 0) (H : Ev none e 169 0 [some (.ref 633), some (.int l), c2, c3, c4] [] M v M' 0 0) : RDn B n e l M M' v (lnB B law ((prS B kk).1 1) s ls) := by
  have em : G_168 M l = kdS B law (hdT s.1) := by
    rw [hl]
    exact fll h.2.2.2.1 h.2.2.2.2.2.1
  have hneg : ∀ x : Int32, x < 0 ↔ ¬ 0 ≤ x := fun x => by rw [Int32.lt_iff_toInt_lt, Int32.le_iff_toInt_le]; omega
  have hK : 0 ≤ kdS B law (hdT s.1) → K8 (kdS B law (hdT s.1)) ∧ (hdT s.1).1 = 2 := by
    intro q
    unfold kdS at q ⊢
    cases law
    · have q : 0 ≤ (if ixF (wdS B (hdT s.1)) habW 0 < 0 then (-1 : Int32) else 5 + ixF (wdS B (hdT s.1)) habW 0) := q
      show K8 (if ixF (wdS B (hdT s.1)) habW 0 < 0 then (-1 : Int32) else 5 + ixF (wdS B (hdT s.1)) habW 0) ∧ _
      by_cases hx : ixF (wdS B (hdT s.1)) habW 0 < 0
      · rw [if_pos hx] at q
        exact absurd q (by decide)
      · rw [if_neg hx]
        refine ⟨?_, ix_wd (by decide) (by decide) hx⟩
        rcases hab_cases hx with y | y | y <;> rw [y] <;> unfold K8 <;> decide
    · have q : 0 ≤ ixF (wdS B (hdT s.1)) lawW 0 := q
      show K8 (ixF (wdS B (hdT s.1)) lawW 0) ∧ _
      have hx : ¬ ixF (wdS B (hdT s.1)) lawW 0 < 0 := fun y => (hneg _).mp y q
      refine ⟨?_, ix_wd (by decide) (by decide) hx⟩
      rcases law_cases hx with y | y | y | y | y <;> rw [y] <;> unfold K8 <;> decide
  have e16 : (16 : Int32).toInt = 16 := rfl
  have h16 : rI M 639 7 = 16 ↔ 16 ≤ ls.length := by
    have h1 : (rI M 639 7).toInt = (ls.length : Int) := hL.1
    have h2 := hL.2.1
    rw [← Int32.toInt_inj, h1, e16]
    omega
  unfold lnB
  have bd3 : ∀ {k c4 : Option Value} {c2 : Option Value} {e1 : Nat} {v1 : Option Value} {M1 : Mem}, Ev none e1 163 0 [some (.ref 633), some (.int 3)] [] M v1 M1 0 0 → Ev none e 169 75 [some (.ref 633), some (.int l), k, c2, c4] (v1.toList ++ []) M1 v M' 0 0 → FLq M M' v (3, (hdT s.1).2.1) := fun H1 H => by
    obtain ⟨rfl, f1⟩ := h.bad H1
    obtain ⟨rfl, rfl⟩ := rdq_75 f1.1 H
    exact FLT.ql ⟨rfl, f1⟩
  have hfd : ∀ {k : Int32} {e1 : Nat} {v1 : Option Value} {M1 : Mem} {c3 c4 : Option Value}, K8 k → (hdT s.1).1 = 2 → onceB k = true → Ev none e1 172 0 [some (.ref 633), some (.int 7), some (.int k), none] [] M v1 M1 0 0 → Ev none e 169 45 [some (.ref 633), some (.int l), some (.int k), c3, c4] (v1.toList ++ []) M1 v M' 0 0 → RDn B n e l M M' v (if 16 ≤ ls.length ∨ (onceB k = true ∧ hasK ls k = true) then .inr (3, (hdT s.1).2.1) else bodB B ((prS B kk).1 1) (s.1.tail, s.2.1, s.2.2) ls k) := fun {k e1 v1 M1 c3 c4} hk8 h2 ho H1 H => by
    obtain ⟨rfl, y, rfl, hy⟩ := fdq_ok h.1 hL.T (by omega) rfl H1
    rcases rdq_45 h.1 H with ⟨q, g, e2, v2, M2, he2, H2, H⟩ | ⟨q, g, e2, v2, M2, he2, H2, H⟩ | ⟨q, e2, v2, M2, he2, H2, H⟩
    · rw [if_pos (Or.inl (h16.mp g))]
      exact bd3 H2 H
    · have hh : hasK ls k = false := by
        rcases hy with ⟨_, a, _⟩ | ⟨a, _⟩
        · exact a
        · rw [Int32.lt_iff_toInt_lt] at q
          have z0 : (0 : Int32).toInt = 0 := rfl
          omega
      have hlt : ¬ 16 ≤ ls.length := fun x => g (h16.mpr x)
      rw [if_neg (fun x => x.elim hlt (fun x => by rw [hh] at x; exact absurd x.2 (by decide)))]
      exact rdq_go hk8 hn2 hk h h40 hL (by omega) h2 H2 H
    · have hh : hasK ls k = true := by
        rcases hy with ⟨a, _⟩ | ⟨_, _, a, _⟩
        · exact absurd a q
        · exact a
      rw [if_pos (Or.inr ⟨ho, hh⟩)]
      exact bd3 H2 H
  rcases rdq_0 h.1 H with ⟨q, _⟩ | ⟨_, g1, g2, g3, e1, v1, M1, he, H1, H⟩ | ⟨_, g1, g2, g3, g4, e1, v1, M1, he, H1, H⟩ | ⟨_, g1, g2, g3, g4, e1, v1, M1, he, H1, H⟩ | ⟨_, g1, g2, e1, v1, M1, he, H1, H⟩ | ⟨_, g1, e1, v1, M1, he, H1, H⟩
  · exact absurd q hz
  · rw [em] at g1 g2 g3 H1 H
    obtain ⟨k8, h2⟩ := hK g1
    rw [if_neg (fun x => (hneg _).mp x g1)]
    refine hfd k8 h2 ?_ H1 H
    rcases once_k (M := M) k8 with ⟨a, _⟩ | ⟨_, _, a⟩
    · exact a
    · exact absurd g3 a
  · rw [em] at g1
    rw [if_neg (fun x => (hneg _).mp x g1), if_pos (Or.inl (h16.mp g4))]
    exact bd3 H1 H
  · rw [em] at g1 g2 g3 H
    obtain ⟨k8, h2⟩ := hK g1
    have ho : onceB (kdS B law (hdT s.1)) = false := by
      rcases once_k (M := M) k8 with ⟨_, a⟩ | ⟨a, _⟩
      · rcases a with a | a
        · exact absurd g2 a
        · exact absurd a g3
      · exact a
    have hlt : ¬ 16 ≤ ls.length := fun x => g4 (h16.mpr x)
    rw [if_neg (fun x => (hneg _).mp x g1), if_neg (fun x => x.elim hlt (fun x => by rw [ho] at x; exact absurd x.1 (by decide)))]
    exact rdq_go k8 hn2 hk h h40 hL (by omega) h2 H1 H
  · rw [em] at g1 g2 H1 H
    obtain ⟨k8, h2⟩ := hK g1
    rw [if_neg (fun x => (hneg _).mp x g1)]
    refine hfd k8 h2 ?_ H1 H
    rcases once_k (M := M) k8 with ⟨a, _⟩ | ⟨_, a, _⟩
    · exact a
    · exact absurd a g2
  · rw [em] at g1
    rw [if_pos ((hneg _).mpr g1)]
    obtain ⟨rfl, f1⟩ := h.bad H1
    obtain ⟨rfl, rfl⟩ := rdq_22 f1.1 H
    exact FLT.ql ⟨rfl, f1⟩
/-- all lines -/
def RDr (B : Nat → Int32) (n : Nat) (M M' : Mem) (v : Option Value) (r : PLn) : Prop := match r with
  | .inr f => FLq M M' v f
  | .inl q => v = some (.int 1) ∧ FB fQl wQl M M' ∧ R0 B n M' q.1 ∧ LQ M' q.2
theorem kd_neg {law : Bool} {tk : Tok} (h : tk.1 ≠ 2) : kdS B law tk < 0 := by
  have hw : wdS B tk = [] := by
    unfold wdS
    rw [if_neg h]
  unfold kdS
  rw [hw]
  cases law <;> decide
theorem rdq_loop {l : Int32} {law : Bool} (hl : l = bif law then 1 else 0) (hn2 : n ≤ 440) (hk : 33 ≤ kk) : ∀ (j : Nat) (s : Sg) (ls : List Lnq) (M M' : Mem) (v c2 c3 c4 : Option Value), ls.length + j = 17 → R0 B n M s → s.2.1 ≤ 40 → LQ M ls → Ev none e 169 0 [some (.ref 633), some (.int l), c2, c3, c4] [] M v M' 0 0 → RDr B n M M' v (txB B law ((prS B kk).1 1) (decide (400 < n)) j s ls) := by
  intro j
  induction j with
  | zero =>
    intro s ls M M' v c2 c3 c4 h1 _ _ hL _
    have := hL.2.1
    omega
  | succ j ih =>
    intro s ls M M' v c2 c3 c4 h1 h h40 hL H
    unfold txB
    by_cases hz : zI M 633 22 = 0
    · rcases h.2.2.2.1.fin with ⟨q1, q2⟩ | ⟨_, q⟩
      · rw [if_pos q1]
        have hb : ¬ 400 < n := fun x => by
          rw [if_pos x, hz] at q2
          exact absurd q2 (by decide)
        rw [decide_eq_false hb]
        rcases rdq_0 h.1 H with ⟨_, rfl, rfl⟩ | ⟨q, _⟩ | ⟨q, _⟩ | ⟨q, _⟩ | ⟨q, _⟩ | ⟨q, _⟩
        · exact ⟨rfl, FB.refl _, h, hL⟩
        all_goals exact absurd hz q
      · exact absurd hz q
    · have R := rdq_one hl hn2 hk h h40 hL hz H
      rcases h.2.2.2.1.fin with ⟨q1, q2⟩ | ⟨q1, _⟩
      · rw [if_pos q1]
        have hb : 400 < n := by
          rcases Nat.lt_or_ge 400 n with x | x
          · exact x
          · rw [if_neg (by omega)] at q2
            exact absurd q2 hz
        rw [decide_eq_true hb]
        unfold lnB at R
        rw [if_pos (kd_neg (by rw [q1]; decide))] at R
        exact R
      · rw [if_neg q1]
        cases hr : lnB B law ((prS B kk).1 1) s ls with
        | inr f =>
          rw [hr] at R
          exact R
        | inl q =>
          rw [hr] at R
          obtain ⟨M1, d2, d3, d4, H1, F1, R1, L1, b1⟩ := R
          have hlen := lnB_len hr
          have R2 := ih q.1 q.2 M1 M' v d2 d3 d4 (by omega) R1 b1 L1 H1
          show RDr B n M M' v (txB B law ((prS B kk).1 1) (decide (400 < n)) j q.1 q.2)
          cases hx : txB B law ((prS B kk).1 1) (decide (400 < n)) j q.1 q.2 with
          | inr f =>
            rw [hx] at R2
            exact FLq.pre F1 R2
          | inl w =>
            rw [hx] at R2
            exact ⟨R2.1, F1.trans R2.2.1, R2.2.2⟩
end RRL
