/-! THE REFERENCE'S line: the state, and how it moves -/
def fQl : List (Nat × Nat) := (633, 32) :: fQ
def wQl : List Nat := [639, 640, 641, 642, 643, 644] ++ wQ
def FLq (M M' : Mem) (v : Option Value) (f : Int32 × Nat) : Prop := v = some (.int 0) ∧ SQ M' ∧ FB fQl wQl M M' ∧ zI M' 633 26 = f.1 ∧ (zI M' 633 27).toInt = (f.2 : Int)
/-- the lines read so far -/
def LQ (M : Mem) (ls : List Lnq) : Prop := (rN M 639 7).toInt = (ls.length : Int) ∧ ls.length ≤ 16 ∧ ∀ j l, ls[j]? = some l → rN M 640 (112 + j) = l.1 ∧ rN M 641 (112 + j) = l.2.1 ∧ rN M 642 (112 + j) = l.2.2.1 ∧ (rN M 643 (112 + j)).toInt = (l.2.2.2.1 : Int) ∧ (rN M 644 (112 + j)).toInt = (l.2.2.2.2 : Int)
section RLS
variable {e n : Nat} {M M1 M' : Mem} {v : Option Value} {B : Nat → Int32} {s : Sg} {ls : List Lnq} {F : List (Nat × Nat)} {W : List Nat}
theorem FB.ql (h : FB fQ wQ M M') : FB fQl wQl M M' := h.more (fun q hq => List.mem_cons_of_mem _ hq) (fun q hq => List.mem_append_right _ hq)
theorem FLT.ql {f : Int32 × Nat} (h : FLT M M' v f) : FLq M M' v f := ⟨h.1, h.2.1, h.2.2.1.ql, h.2.2.2⟩
theorem FLq.pre {f : Int32 × Nat} (h : FB fQl wQl M M1) (h2 : FLq M1 M' v f) : FLq M M' v f := ⟨h2.1, h2.2.1, h.trans h2.2.2.1, h2.2.2.2⟩
theorem R0.frm (h : R0 B n M s) (hS : SQ M') (hF : FB F W M M') (f : ∀ k ∈ [3, 4, 19, 21, 22, 23, 25, 26, 31], (633, k) ∉ F) (w : ∀ b ∈ [634, 645, 646, 647], b ∉ W) : R0 B n M' s := by
  obtain ⟨a1, a2, a3, a4, a5, a6, a7, a8, a9⟩ := h
  exact ⟨hS, (hF.bR (w _ (by simp))).trans a2, by rw [hF.fi (f _ (by simp))]; exact a3, a4.frm hF (f _ (by simp)) (f _ (by simp)) (f _ (by simp)) (f _ (by simp)) (f _ (by simp)), a5, a6, by rw [hF.fi (f _ (by simp))]; exact a7, a8.frm hF (f _ (by simp)) (w _ (by simp)) (w _ (by simp)) (w _ (by simp)), by rw [hF.fi (f _ (by simp))]; exact a9⟩
theorem R0.next (hn2 : n ≤ 440) (h : R0 B n M s) (h0 : (hdT s.1).1 ≠ 0) (h1 : (hdT s.1).1 ≠ 1) (H : Ev none e 162 0 [some (.ref 633), none, none, none] [] M v M' 0 0) : v = none ∧ FB fQ wQ M M' ∧ R0 B n M' (s.1.tail, s.2.1, s.2.2) := by
  obtain ⟨a1, a2, a3, a4, a5, a6, a7, a8, a11⟩ := h
  obtain ⟨r, hr⟩ := a5.ne
  have h4 := a4
  rw [hr] at h4
  obtain ⟨b1, b2⟩ := h4
  rcases b2 with ⟨b2, _⟩ | ⟨b2, _⟩ | ⟨_, _, b3, b4, b5⟩
  · exact absurd b2 h0
  · exact absurd b2 h1
  obtain ⟨g1, g2, g3, g4⟩ := nx_all hn2 (n - (hdT s.1).2.2.1) _ M (Nat.le_refl _) b3 a1 a3 b4 H
  have ht : s.1.tail = tlS (bR M) n (hdT s.1).2.2.1 := by
    rw [hr, a2]
    exact b5
  have hb : bR M' = bR M := g3.bR (by decide)
  refine ⟨g1, g3.more (by decide) (fun q hq => by cases hq), g2, hb.trans a2, by rw [g3.fi (by decide)]; exact a3, ?_, a5.tl h0 h1, fun t hm => a6 t (List.mem_of_mem_tail hm), by rw [g3.fi (by decide)]; exact a7, a8.frm g3 (by decide) List.not_mem_nil List.not_mem_nil List.not_mem_nil, by rw [g3.fi (by decide)]; exact a11⟩
  show RTk B n M' s.1.tail
  rw [ht, ← a2]
  exact g4
theorem R0.bad {k : Int32} (h : R0 B n M s) (H : Ev none e 163 0 [some (.ref 633), some (.int k)] [] M v M' 0 0) : FLT M M' v (k, (hdT s.1).2.1) := by
  obtain ⟨a1, a2, a3, a4, a5, a6, a7, a8, a11⟩ := h
  obtain ⟨r, hr⟩ := a5.ne
  rw [hr] at a4
  obtain ⟨g1, g2⟩ := g_163 a1 H
  have S1 : SQ M' := by
    rw [g2]
    exact X_163_sx a1
  unfold X_163 at g2
  subst g2
  refine ⟨?_, S1, (FB.wF (by decide)).trans (FB.wF (by decide)), ?_, ?_⟩
  · rw [g1]
    rfl
  · rw [fI_wF_ne (by decide), fI_wF_eq a1.1 qa_633 qi_61_26]
  · rw [fI_wF_eq a1.kf.1 qa_633 qi_61_27]
    exact a4.1
/-- the sign that ends a line -/
theorem sgn_ok (hn2 : n ≤ 440) (h : R0 B n M s) (H : Ev none e 166 0 [some (.ref 633), some (.int 59)] [] M v M' 0 0) : ((hdT s.1).1 ≠ 59 ∧ FLT M M' v (1, (hdT s.1).2.1)) ∨ ((hdT s.1).1 = 59 ∧ v = some (.int 1) ∧ FB fQ wQ M M' ∧ R0 B n M' (s.1.tail, s.2.1, s.2.2)) := by
  rcases h.2.2.2.1.sign (c := 59) (Or.inl rfl) with ⟨q1, q2, _⟩ | ⟨q1, q2⟩
  · rcases snq_0 h.1 H with ⟨g, _⟩ | ⟨_, e1, v1, M1, he, H1, H⟩
    · rw [q1] at g
      exact absurd g (by decide)
    · obtain ⟨rfl, f1, r1⟩ := h.next hn2 (by rw [q2]; decide) (by rw [q2]; decide) H1
      obtain ⟨rfl, rfl⟩ := snq_18 r1.1 H
      exact Or.inr ⟨q2, rfl, f1, r1⟩
  · rcases snq_0 h.1 H with ⟨_, e1, v1, M1, he, H1, H⟩ | ⟨g, _⟩
    · obtain ⟨rfl, f1⟩ := h.bad H1
      obtain ⟨rfl, rfl⟩ := snq_13 f1.1 H
      exact Or.inl ⟨q2, rfl, f1⟩
    · exact absurd q1 g
theorem g140 {x lo hi : Int32} : G_140 M x lo hi = 0 ↔ (x < lo ∨ hi < x) := by
  unfold G_140
  by_cases h1 : x < lo
  · rw [if_pos h1]
    exact ⟨fun _ => Or.inl h1, fun _ => rfl⟩
  · rw [if_neg h1]
    by_cases h2 : hi < x
    · rw [if_pos h2]
      exact ⟨fun _ => Or.inr h2, fun _ => rfl⟩
    · rw [if_neg h2]
      exact ⟨fun q => absurd q (by decide), fun q => q.elim (fun q => absurd q h1) (fun q => absurd q h2)⟩
/-- a number -/
theorem tks_ok {lo hi : Int32} (hn2 : n ≤ 440) (h : R0 B n M s) (H : Ev none e 167 0 [some (.ref 633), some (.int lo), some (.int hi)] [] M v M' 0 0) : match tkR s lo hi with
    | .inl f => FLT M M' v f
    | .inr nu => v = some (.int 1) ∧ FB fQl wQ M M' ∧ R0 B n M' (s.1.tail, s.2.1, s.2.2) ∧ zI M' 633 32 = nu := by
  unfold tkR
  rcases h.2.2.2.1.num with ⟨q1, q2, q3⟩ | ⟨q1, q2⟩
  · rw [if_neg (fun x => x q2)]
    rcases tkq_0 h.1 H with ⟨_, g, e1, v1, M1, he, H1, H⟩ | ⟨_, g, e1, v1, M1, he, H1, H⟩ | ⟨g, _⟩
    · rw [q3] at g
      rw [if_pos (g140.mp g)]
      obtain ⟨rfl, f1⟩ := h.bad H1
      obtain ⟨rfl, rfl⟩ := tkq_31 f1.1 H
      exact ⟨rfl, f1⟩
    · rw [q3] at g H1
      rw [if_neg (fun x => g (g140.mpr x))]
      have F1 : FB [(633, 32)] [] M (wF M 633 32 (hdT s.1).2.2.2) := FB.wF (by simp)
      have R1 : R0 B n (wF M 633 32 (hdT s.1).2.2.2) s := h.frm h.1.kf F1 (by decide) (by simp)
      obtain ⟨rfl, f1, r1⟩ := R1.next hn2 (by rw [q2]; decide) (by rw [q2]; decide) H1
      obtain ⟨rfl, rfl⟩ := tkq_44 r1.1 H
      refine ⟨rfl, (F1.more (fun q hq => ?_) (fun q hq => by cases hq)).trans (f1.more (fun q hq => List.mem_cons_of_mem _ hq) (fun _ hq => hq)), r1, ?_⟩
      · rw [List.mem_singleton] at hq
        rw [hq]
        exact List.mem_cons_self
      · rw [f1.fi (by decide), fI_wF_eq h.1.1 qa_633 qi_61_32]
    · exact absurd q1 g
  · rw [if_pos q2]
    rcases tkq_0 h.1 H with ⟨g, _⟩ | ⟨g, _⟩ | ⟨_, e1, v1, M1, he, H1, H⟩
    · exact absurd g q1
    · exact absurd g q1
    · obtain ⟨rfl, f1⟩ := h.bad H1
      obtain ⟨rfl, rfl⟩ := tkq_13 f1.1 H
      exact ⟨rfl, f1⟩
/-- writes at the line begun keep the lines before -/
theorem LQ.frm (h : LQ M ls) (hF : FB F W M M') (w : ∀ b ∈ [639, 640, 641, 642, 643, 644], b ∉ W) : LQ M' ls := by
  refine ⟨by rw [hF.rn (w _ (by simp))]; exact h.1, h.2.1, fun j l hj => ?_⟩
  rw [hF.rn (w _ (by simp)), hF.rn (w _ (by simp)), hF.rn (w _ (by simp)), hF.rn (w _ (by simp)), hF.rn (w _ (by simp))]
  exact h.2.2 j l hj
theorem LQ.wr {b : Nat} {x : Int32} (h : LQ M ls) (hb : b ≠ 639) : LQ (wI M b (112 + ls.length) x) ls := by
  have g : ∀ c j, j < ls.length → rN (wI M b (112 + ls.length) x) c (112 + j) = rN M c (112 + j) := fun c j hj => rN_wI_ne (fun q => by omega)
  refine ⟨by rw [rN_wI_ne (fun q => hb q.1.symm)]; exact h.1, h.2.1, fun j l hj => ?_⟩
  have hlt : j < ls.length := by
    rcases Nat.lt_or_ge j ls.length with q | q
    · exact q
    · rw [List.getElem?_eq_none q] at hj
      cases hj
  rw [g _ j hlt, g _ j hlt, g _ j hlt, g _ j hlt, g _ j hlt]
  exact h.2.2 j l hj
/-- the line begun -/
def ER (M : Mem) (i : Nat) (x m nu : Int32) (fr : Nat) : Prop := rN M 640 i = x ∧ rN M 641 i = m ∧ rN M 642 i = nu ∧ (rN M 643 i).toInt = (fr : Int)
theorem ER.frm {i : Nat} {x m nu : Int32} {fr : Nat} (h : ER M i x m nu fr) (hF : FB F W M M') (w : ∀ b ∈ [640, 641, 642, 643], b ∉ W) : ER M' i x m nu fr := by
  unfold ER
  rw [hF.rn (w _ (by simp)), hF.rn (w _ (by simp)), hF.rn (w _ (by simp)), hF.rn (w _ (by simp))]
  exact h
theorem r_len (hS : SQ M) : (zrw M 640).length = 128 ∧ (zrw M 641).length = 128 ∧ (zrw M 642).length = 128 ∧ (zrw M 643).length = 128 ∧ (zrw M 644).length = 128 := ⟨(hS.1.row qa_640 qw_68).2, (hS.1.row qa_641 qw_69).2, (hS.1.row qa_642 qw_70).2, (hS.1.row qa_643 qw_71).2, (hS.1.row qa_644 qw_72).2⟩
end RLS
