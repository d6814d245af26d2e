/-! THE REFERENCE'S WORDS AND SIGNS -/
theorem lg0 {x y : Int64} : lg_cmp x y = 0 ↔ x = y := by
  unfold lg_cmp
  by_cases h : x > y
  · rw [if_pos h]
    refine ⟨fun q => absurd q (by decide), fun q => ?_⟩
    rw [q] at h
    exact absurd h (Int64.lt_irrefl)
  · rw [if_neg h]
    by_cases h2 : x = y
    · rw [if_pos h2]
      exact ⟨fun _ => h2, fun _ => rfl⟩
    · rw [if_neg h2]
      exact ⟨fun q => absurd q (by decide), fun q => absurd q h2⟩
/-- words with what they stand for -/
noncomputable def chP (x : Int64) : List (Int64 × Int32) → Int32
  | [] => -1
  | (C, i) :: r => if lg_cmp x C = 0 then i else chP x r
noncomputable def ixP (w : List Int32) : List (List Int32 × Int32) → Int32
  | [] => -1
  | (u, i) :: r => if w = u then i else ixP w r
theorem chP_ok {w : List Int32} (hw : okW w) : ∀ (l : List (List Int32 × Int32)), (∀ q ∈ l, okW q.1) → chP (pkF w) (l.map (fun q => (pkF q.1, q.2))) = ixP w l := by
  intro l
  induction l with
  | nil => intro _; rfl
  | cons q r ih =>
    intro h
    obtain ⟨u, i⟩ := q
    show (if lg_cmp (pkF w) (pkF u) = 0 then i else chP (pkF w) (r.map (fun q => (pkF q.1, q.2)))) = if w = u then i else ixP w r
    rw [ih (fun q hq => h q (List.mem_cons_of_mem _ hq))]
    have hu := h (u, i) List.mem_cons_self
    congr 1
    exact propext (lg0.trans ⟨fun q => pkq_inj hw hu q, fun q => by rw [q]⟩)
theorem ixP_nil : ∀ (l : List (List Int32 × Int32)), (∀ q ∈ l, q.1 ≠ []) → ixP [] l = -1 := by
  intro l
  induction l with
  | nil => intro _; rfl
  | cons q r ih =>
    intro h
    obtain ⟨u, i⟩ := q
    show (if [] = u then i else ixP [] r) = -1
    rw [if_neg (fun x => h (u, i) List.mem_cons_self x.symm)]
    exact ih (fun q hq => h q (List.mem_cons_of_mem _ hq))
def okBw (w : List Int32) : Bool := decide (w.length ≤ 6) && (decide (w ≠ []) && w.all (fun c => decide (1 ≤ c.toInt) && decide (c.toInt ≤ 255)))
theorem okBw_V {w : List Int32} (h : okBw w = true) : okW w ∧ w ≠ [] := by
  obtain ⟨h1, h2⟩ := and_t h
  obtain ⟨h2, h3⟩ := and_t h2
  refine ⟨⟨of_decide_eq_true h1, fun c hc => ?_⟩, of_decide_eq_true h2⟩
  obtain ⟨a, b⟩ := and_t (List.all_eq_true.mp h3 c hc)
  exact ⟨of_decide_eq_true a, of_decide_eq_true b⟩
section WRD
variable {n : Nat} {M : Mem} {B : Nat → Int32} {ts : List Tok}
/-- what the reference holds of its token -/
theorem RTk.tok (h : RTk B n M ts) (hg : gdT B ts) : ((hdT ts).1 = 2 ∧ zI M 633 22 = 1 ∧ okW (wdS B (hdT ts)) ∧ fL M 633 31 = pkF (wdS B (hdT ts))) ∨ ((hdT ts).1 ≠ 2 ∧ zI M 633 22 ≠ 1 ∧ wdS B (hdT ts) = []) := by
  cases ts with
  | nil => exact h.elim
  | cons t r =>
    obtain ⟨_, h⟩ := h
    show (t.1 = 2 ∧ _) ∨ (t.1 ≠ 2 ∧ _)
    have nw : t.1 ≠ 2 → wdS B t = [] := fun q => by
      unfold wdS
      rw [if_neg q]
    rcases h with ⟨h1, h2⟩ | ⟨h1, h2⟩ | ⟨_, h1, _⟩
    · have q : t.1 ≠ 2 := by rw [h1]; decide
      refine Or.inr ⟨q, ?_, nw q⟩
      rw [h2]
      split <;> decide
    · have q : t.1 ≠ 2 := by rw [h1]; decide
      refine Or.inr ⟨q, ?_, nw q⟩
      rw [h2]
      decide
    · rcases h1 with ⟨q, h2, h3, h4⟩ | ⟨h1, h2, _⟩ | ⟨h1, h2, _⟩
      · have hw : wdS B t = slS B t.2.1 (t.2.2.1 - t.2.1) := by
          unfold wdS
          rw [if_pos q]
        refine Or.inl ⟨q, h2, ?_, ?_⟩
        · show okW (wdS B t)
          rw [hw]
          exact (hg t List.mem_cons_self).1 q h3
        · show fL M 633 31 = pkF (wdS B t)
          rw [hw]
          exact h4
      · have q : t.1 ≠ 2 := by rw [h1]; decide
        refine Or.inr ⟨q, ?_, nw q⟩
        rw [h2]
        decide
      · have q : t.1 ≠ 2 := fun x => by rw [x] at h1; revert h1; decide
        refine Or.inr ⟨q, ?_, nw q⟩
        rw [h2]
        decide
theorem RTk.ch (h : RTk B n M ts) (hg : gdT B ts) (l : List (List Int32 × Int32)) (hl : ∀ q ∈ l, okBw q.1 = true) : (if zI M 633 22 = 1 then chP (fL M 633 31) (l.map (fun q => (pkF q.1, q.2))) else -1) = ixP (wdS B (hdT ts)) l := by
  rcases h.tok hg with ⟨_, h2, h3, h4⟩ | ⟨_, h2, h3⟩
  · rw [if_pos h2, h4]
    exact chP_ok h3 l (fun q hq => (okBw_V (hl q hq)).1)
  · rw [if_neg h2, h3]
    exact (ixP_nil l (fun q hq => (okBw_V (hl q hq)).2)).symm
theorem RTk.word {u : List Int32} {C : Int64} (h : RTk B n M ts) (hg : gdT B ts) (hu : okBw u = true) (hC : pkF u = C) : (G_164 M C = 1 ∧ wdS B (hdT ts) = u) ∨ (G_164 M C = 0 ∧ wdS B (hdT ts) ≠ u) := by
  unfold G_164
  obtain ⟨u1, u2⟩ := okBw_V hu
  rcases h.tok hg with ⟨_, h2, h3, h4⟩ | ⟨_, h2, h3⟩
  · rw [if_pos h2, h4, ← hC]
    by_cases q : wdS B (hdT ts) = u
    · rw [if_pos (lg0.mpr (by rw [q]))]
      exact Or.inl ⟨rfl, q⟩
    · rw [if_neg (fun x => q (pkq_inj h3 u1 (lg0.mp x)))]
      exact Or.inr ⟨rfl, q⟩
  · rw [if_neg h2, h3]
    exact Or.inr ⟨rfl, fun q => u2 q.symm⟩
theorem RTk.sign {c : Int32} (h : RTk B n M ts) (hc : c = 59 ∨ c = 40 ∨ c = 41 ∨ c = 60 ∨ c = 61 ∨ c = 62) : (G_165 M c = 1 ∧ (hdT ts).1 = c ∧ zI M 633 25 = c) ∨ (G_165 M c = 0 ∧ (hdT ts).1 ≠ c) := by
  unfold G_165
  cases ts with
  | nil => exact h.elim
  | cons t r =>
    obtain ⟨_, h⟩ := h
    show (_ ∧ t.1 = c ∧ _) ∨ (_ ∧ t.1 ≠ c)
    have no : zI M 633 22 ≠ 3 → t.1 ≠ c → ((if zI M 633 22 = 3 then (if zI M 633 25 = c then (1 : Int32) else 0) else 0) = 1 ∧ t.1 = c ∧ zI M 633 25 = c) ∨ ((if zI M 633 22 = 3 then (if zI M 633 25 = c then (1 : Int32) else 0) else 0) = 0 ∧ t.1 ≠ c) := fun q1 q2 => Or.inr ⟨by rw [if_neg q1], q2⟩
    have ne : ∀ x : Int32, x = 0 ∨ x = 1 ∨ x = 2 ∨ x = 3 → t.1 = x → t.1 ≠ c := fun x hx q q2 => by
      rw [q] at q2
      rw [← q2] at hc
      rcases hx with rfl | rfl | rfl | rfl <;> revert hc <;> decide
    rcases h with ⟨h1, h2⟩ | ⟨h1, h2⟩ | ⟨_, h1, _⟩
    · refine no ?_ (ne 0 (Or.inl rfl) h1)
      rw [h2]
      split <;> decide
    · exact no (by rw [h2]; decide) (ne 1 (Or.inr (Or.inl rfl)) h1)
    · rcases h1 with ⟨h1, h2, _⟩ | ⟨h1, h2, _⟩ | ⟨h1, h2, h3⟩
      · exact no (by rw [h2]; decide) (ne 2 (Or.inr (Or.inr (Or.inl rfl))) h1)
      · exact no (by rw [h2]; decide) (ne 3 (Or.inr (Or.inr (Or.inr rfl))) h1)
      · rw [if_pos h2, h3]
        by_cases q : t.1 = c
        · rw [if_pos q]
          exact Or.inl ⟨rfl, q, q⟩
        · rw [if_neg q]
          exact Or.inr ⟨rfl, q⟩
/-- a number -/
theorem RTk.num (h : RTk B n M ts) : (zI M 633 22 = 2 ∧ (hdT ts).1 = 3 ∧ zI M 633 25 = (hdT ts).2.2.2) ∨ (zI M 633 22 ≠ 2 ∧ (hdT ts).1 ≠ 3) := by
  cases ts with
  | nil => exact h.elim
  | cons t r =>
    obtain ⟨_, h⟩ := h
    show (_ ∧ t.1 = 3 ∧ _) ∨ (_ ∧ t.1 ≠ 3)
    rcases h with ⟨h1, h2⟩ | ⟨h1, h2⟩ | ⟨_, h1, _⟩
    · refine Or.inr ⟨?_, by rw [h1]; decide⟩
      rw [h2]
      split <;> decide
    · exact Or.inr ⟨by rw [h2]; decide, by rw [h1]; decide⟩
    · rcases h1 with ⟨h1, h2, _⟩ | ⟨h1, h2, h3⟩ | ⟨h1, h2, h3⟩
      · exact Or.inr ⟨by rw [h2]; decide, by rw [h1]; decide⟩
      · exact Or.inl ⟨h2, h1, h3⟩
      · refine Or.inr ⟨by rw [h2]; decide, fun x => ?_⟩
        rw [x] at h1
        revert h1
        decide
def atoL : List (List Int32 × Int32) := [([103, 114, 97, 115, 115], 0), ([103, 114, 97, 118, 101, 108], 1), ([98, 101, 100], 2), ([112, 97, 118, 101, 100], 3), ([115, 116, 101, 112, 115], 4), ([115, 105, 103, 110], 5), ([109, 117, 100, 100, 121], 6), ([119, 111, 114, 110], 7), ([119, 101, 97, 114], 8), ([119, 101, 116], 9), ([104, 101, 105, 103, 104, 116], 10), ([116, 114, 111, 100], 11)]
def notW : List Int32 := [110, 111, 116]
theorem pk_ato : atoL.map (fun q => (pkF q.1, q.2)) = [(444300620659, 0), (113740959081836, 1), (6448484, 2), (482671486308, 3), (495874044019, 4), (1936287598, 5), (470120948857, 6), (2003792494, 7), (2003132786, 8), (7824756, 9), (114784769370228, 10), (1953656676, 11)] := by decide +kernel
theorem ok_ato : ∀ q ∈ atoL, okBw q.1 = true := by decide +kernel
theorem RTk.atom (h : RTk B n M ts) (hg : gdT B ts) : G_173 M = ixP (wdS B (hdT ts)) atoL := by
  rw [← h.ch hg atoL ok_ato, pk_ato]
  rfl
/-- the ONES' words: what the class counts -/
theorem one_ix (w : List Int32) : ixF w oneW 0 = if w = notW then 12 else ixP w atoL := by
  by_cases h : w = notW
  · rw [if_pos h, h]
    decide +kernel
  · rw [if_neg h]
    show (if w = _ then (0 : Int32) else if w = _ then (0 + 1 : Int32) else if w = _ then (0 + 1 + 1 : Int32) else if w = _ then (0 + 1 + 1 + 1 : Int32) else if w = _ then (0 + 1 + 1 + 1 + 1 : Int32) else if w = _ then (0 + 1 + 1 + 1 + 1 + 1 : Int32) else if w = _ then (0 + 1 + 1 + 1 + 1 + 1 + 1 : Int32) else if w = _ then (0 + 1 + 1 + 1 + 1 + 1 + 1 + 1 : Int32) else if w = _ then (0 + 1 + 1 + 1 + 1 + 1 + 1 + 1 + 1 : Int32) else if w = _ then (0 + 1 + 1 + 1 + 1 + 1 + 1 + 1 + 1 + 1 : Int32) else if w = _ then (0 + 1 + 1 + 1 + 1 + 1 + 1 + 1 + 1 + 1 + 1 : Int32) else if w = _ then (0 + 1 + 1 + 1 + 1 + 1 + 1 + 1 + 1 + 1 + 1 + 1 : Int32) else if w = notW then _ else (-1 : Int32)) = _
    rw [if_neg h]
    rfl
theorem ixP_rng {w : List Int32} : ∀ (l : List (List Int32 × Int32)), (∀ q ∈ l, (0 : Int32) ≤ q.2) → (ixP w l = -1) ∨ (0 : Int32) ≤ ixP w l := by
  intro l
  induction l with
  | nil => intro _; exact Or.inl rfl
  | cons q r ih =>
    intro h
    obtain ⟨u, i⟩ := q
    show (if w = u then i else ixP w r) = -1 ∨ (0 : Int32) ≤ if w = u then i else ixP w r
    by_cases hq : w = u
    · rw [if_pos hq]
      exact Or.inr (h (u, i) List.mem_cons_self)
    · rw [if_neg hq]
      exact ih (fun q hq => h q (List.mem_cons_of_mem _ hq))
end WRD
