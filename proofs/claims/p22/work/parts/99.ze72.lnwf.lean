/-! LINES of a text that was read: each has its steps, well formed -/
section LWF
variable {B : Nat → Int32}
/-- a line's numbers -/
def nuOK (x m nu : Int32) : Prop := 0 ≤ nu.toInt ∧ nu.toInt ≤ 999 ∧ (x = 5 → nu.toInt ≤ 99 ∧ 0 ≤ m.toInt ∧ m.toInt ≤ 6) ∧ (x = 2 → 1 ≤ nu.toInt) ∧ (x = 7 → nu.toInt ≤ 9)
def LSt (s : Sg) (ls : List Lnq) (x : Int32) (q : Sg × List Lnq) : Prop := TKn q.1.1 ∧ ∃ m nu cs, nuOK x m nu ∧ q.2 = ls ++ [(x, m, nu, s.2.2.length, (s.2.2 ++ cs).length)] ∧ q.1.2.2 = s.2.2 ++ cs ∧ (cs = [] ∨ ∃ k, k ≤ 23 ∧ GC cs k)
def CW (C : Sg → PR) : Prop := ∀ s s2, TKn s.1 → C s = .inl s2 → TKn s2.1 ∧ ∃ cs k, s2.2.2 = s.2.2 ++ cs ∧ GC cs k ∧ k ≤ 23
theorem pr_cw (d : Nat) : CW ((prS B d).1 1) := fun s s2 ht h => (pr_wf (B := B) d).1 1 s s2 ht h
theorem end_st {s s2 : Sg} {ls : List Lnq} {x m nu : Int32} {q : Sg × List Lnq} {cs : List Cdq} (hn : nuOK x m nu) (ht : TKn s2.1) (h1 : s2.2.2 = s.2.2 ++ cs) (h2 : cs = [] ∨ ∃ k, k ≤ 23 ∧ GC cs k) (h : endB s2 ls x m nu s.2.2.length = .inl q) : LSt s ls x q := by
  unfold endB at h
  split at h
  · cases h
  · cases h
    exact ⟨ht.tl, m, nu, cs, hn, by rw [h1], h1, h2⟩
theorem cnd_st {C : Sg → PR} (hC : CW C) {s : Sg} {ls : List Lnq} {x m nu : Int32} {q : Sg × List Lnq} (hn : nuOK x m nu) (ht : TKn s.1) (h : cndB B C s ls x m nu s.2.2.length = .inl q) : LSt s ls x q := by
  unfold cndB at h
  split at h
  · cases hc : C s with
    | inr f => rw [hc] at h; cases h
    | inl s2 =>
      rw [hc] at h
      obtain ⟨ht2, cs, k, e1, e2, e3⟩ := hC _ _ ht hc
      exact end_st hn ht2 e1 (Or.inr ⟨k, e3, e2⟩) h
  · split at h
    · cases hc : C (s.1.tail, s.2.1, s.2.2) with
      | inr f => rw [hc] at h; cases h
      | inl s2 =>
        rw [hc] at h
        obtain ⟨ht2, cs, k, e1, e2, e3⟩ := hC _ _ ht.tl hc
        exact end_st (s := s) hn ht2 e1 (Or.inr ⟨k, e3, e2⟩) h
    · exact end_st (cs := []) hn ht (List.append_nil _).symm (Or.inl rfl) h
theorem num_st {C : Sg → PR} (hC : CW C) {s : Sg} {ls : List Lnq} {x m : Int32} {q : Sg × List Lnq} (hm : x = 5 → 0 ≤ m.toInt ∧ m.toInt ≤ 6) (ht : TKn s.1) (h : numB B C s ls x m = .inl q) : LSt s ls x q := by
  unfold numB at h
  by_cases h3 : (hdT s.1).1 ≠ 3
  · rw [if_pos h3] at h
    cases h
  · rw [if_neg h3] at h
    have hd := ht.hd (Decidable.not_not.mp h3)
    split at h
    · cases h
    · rename_i hr
      refine cnd_st (s := (s.1.tail, s.2.1, s.2.2)) hC ?_ ht.tl h
      have e1 : (99 : Int32).toInt = 99 := rfl
      have e2 : (9 : Int32).toInt = 9 := rfl
      have e3 : (1 : Int32).toInt = 1 := rfl
      have r1 : ¬ mostS x < (hdT s.1).2.2.2 := fun q => hr (Or.inl q)
      rw [Int32.lt_iff_toInt_lt] at r1
      refine ⟨hd.1, hd.2, fun h5 => ⟨?_, hm h5⟩, fun h2 => ?_, fun h7 => ?_⟩
      · subst h5
        have r1 : ¬ (99 : Int32).toInt < _ := r1
        omega
      · have r2 : ¬ (hdT s.1).2.2.2 < 1 := fun q => hr (Or.inr ⟨h2, q⟩)
        rw [Int32.lt_iff_toInt_lt] at r2
        omega
      · subst h7
        have r1 : ¬ (9 : Int32).toInt < _ := r1
        omega
theorem bod_st {C : Sg → PR} (hC : CW C) {s : Sg} {ls : List Lnq} {x : Int32} {q : Sg × List Lnq} (ht : TKn s.1) (h : bodB B C s ls x = .inl q) : LSt s ls x q := by
  unfold bodB at h
  by_cases h1 : x = 6
  · rw [if_pos h1] at h
    rw [h1]
    exact cnd_st hC ⟨by decide, by decide, fun q => absurd q (by decide), fun q => absurd q (by decide), fun q => absurd q (by decide)⟩ ht h
  · rw [if_neg h1] at h
    by_cases h2 : x = 5
    · rw [if_pos h2] at h
      rw [h2]
      split at h
      · cases h
      · rename_i hm
        refine num_st (s := (s.1.tail, s.2.1, s.2.2)) hC (fun _ => ?_) ht.tl h
        have z0 : (0 : Int32).toInt = 0 := rfl
        have hl : (meaW.length : Int) = 7 := rfl
        rcases ixF_bd (w := wdS B (hdT s.1)) meaW 0 (by decide) (by decide) with q | ⟨q1, q2, _⟩
        · rw [q] at hm
          exact absurd (by decide) hm
        · omega
    · rw [if_neg h2] at h
      exact num_st hC (fun q => absurd q h2) ht h
theorem ln_st {law : Bool} {C : Sg → PR} (hC : CW C) {s : Sg} {ls : List Lnq} {q : Sg × List Lnq} (ht : TKn s.1) (h : lnB B law C s ls = .inl q) : LSt s ls (kdS B law (hdT s.1)) q := by
  unfold lnB at h
  split at h
  · cases h
  · split at h
    · cases h
    · exact bod_st (s := (s.1.tail, s.2.1, s.2.2)) hC ht.tl h
/-- a text well formed -/
def LW (q : Sg × List Lnq) : Prop := ∀ l ∈ q.2, nuOK l.1 l.2.1 l.2.2.1 ∧ l.2.2.2.1 ≤ l.2.2.2.2 ∧ l.2.2.2.2 ≤ q.1.2.2.length ∧ (l.2.2.2.1 = l.2.2.2.2 ∨ ∃ k, k ≤ 23 ∧ GC ((q.1.2.2.drop l.2.2.2.1).take (l.2.2.2.2 - l.2.2.2.1)) k)
theorem LW.add {s : Sg} {ls : List Lnq} {x : Int32} {q : Sg × List Lnq} (h : LW (s, ls)) (hq : LSt s ls x q) : LW q := by
  obtain ⟨_, m, nu, cs, e0, e1, e2, e3⟩ := hq
  intro l hl
  rw [e1] at hl
  rw [e2]
  rcases List.mem_append.mp hl with hl | hl
  · obtain ⟨a0, a1, a2, a3⟩ := h l hl
    have a2 : l.2.2.2.2 ≤ s.2.2.length := a2
    refine ⟨a0, a1, by rw [List.length_append]; omega, ?_⟩
    rcases a3 with a3 | ⟨k, k1, k2⟩
    · exact Or.inl a3
    · refine Or.inr ⟨k, k1, ?_⟩
      have k2 : GC ((s.2.2.drop l.2.2.2.1).take (l.2.2.2.2 - l.2.2.2.1)) k := k2
      rw [List.drop_append_of_le_length (by omega), List.take_append_of_le_length (by rw [List.length_drop]; omega)]
      exact k2
  · rw [List.mem_singleton] at hl
    subst hl
    refine ⟨e0, by rw [List.length_append]; exact Nat.le_add_right _ _, Nat.le_refl _, ?_⟩
    rcases e3 with rfl | ⟨k, k1, k2⟩
    · exact Or.inl (by rw [List.append_nil])
    · refine Or.inr ⟨k, k1, ?_⟩
      show GC (((s.2.2 ++ cs).drop s.2.2.length).take ((s.2.2 ++ cs).length - s.2.2.length)) k
      rw [List.drop_left, List.length_append, Nat.add_sub_cancel_left, List.take_length]
      exact k2
theorem tx_wf {law : Bool} {C : Sg → PR} {big : Bool} (hC : CW C) : ∀ (j : Nat) (s : Sg) (ls : List Lnq) (q : Sg × List Lnq), TKn s.1 → LW (s, ls) → txB B law C big j s ls = .inl q → LW q := by
  intro j
  induction j with
  | zero =>
    intro s ls q _ _ h
    cases h
  | succ j ih =>
    intro s ls q ht hw h
    unfold txB at h
    split at h
    · cases big with
      | true => cases h
      | false => cases h; exact hw
    · cases hr : lnB B law C s ls with
      | inr f => rw [hr] at h; cases h
      | inl q2 =>
        rw [hr] at h
        have hl := ln_st hC ht hr
        exact ih q2.1 q2.2 q hl.1 (hw.add hl) h
theorem tl_nu {n : Nat} (hn : n ≤ 440) : ∀ m p, n - p ≤ m → p ≤ n → TKn (tlS B n p) := by
  intro m
  induction m with
  | zero =>
    intro p h1 h2
    have hm := mn4_le (n := n)
    rw [tlS_end h2 (by omega)]
    intro t ht
    rw [List.mem_singleton.mp ht]
    exact fun h => absurd h (show ¬ (0 : Int32) = 3 by decide)
  | succ m ih =>
    intro p h1 h2
    have hm := mn4_le (n := n)
    by_cases h : mn4 n ≤ p
    · rw [tlS_end h2 h]
      intro t ht
      rw [List.mem_singleton.mp ht]
      exact fun h => absurd h (show ¬ (0 : Int32) = 3 by decide)
    · by_cases hb : B p = 32 ∨ B p = 10
      · rw [tlS_bl h hb]
        exact ih (p + 1) (by omega) (by omega)
      · have hnu : 0 ≤ (tokS B n p).2.2.2.toInt ∧ (tokS B n p).2.2.2.toInt ≤ 999 := by
          unfold tokS
          split
          · exact ⟨Int.le_refl 0, (by decide : (0 : Int32).toInt ≤ 999)⟩
          · have := rlS_le (B := B) (n - p) p
            have h := cfS_nv (B := B) (rlS B (n - p) p) p (0, 0, 0) 0 (fun j hj => rlS_al _ _ _ hj) ⟨by decide, by decide, by decide, by decide, by decide, by decide, by decide⟩ (by omega)
            exact ⟨h.2.2.1, h.2.2.2.1⟩
        by_cases h1 : (tokS B n p).1 = 1
        · rw [tlS_no h hb h1]
          intro t ht
          rw [List.mem_singleton.mp ht]
          exact fun _ => hnu
        · rw [tlS_tok h hb h1]
          have h3 := tokS_lt (B := B) (n := n) (p := p)
          have h4 := tokS_le (B := B) (n := n) (p := p) (by omega)
          intro t ht
          rcases List.mem_cons.mp ht with rfl | ht
          · exact fun _ => hnu
          · exact ih _ (by omega) h4 t ht
theorem rd_wf {n d : Nat} {law : Bool} {q : Sg × List Lnq} (hn : n ≤ 440) (h : rdB B n law ((prS B d).1 1) = .inl q) : LW q := tx_wf (pr_cw d) 17 _ [] q (tl_nu hn n 0 (by omega) (by omega)) (fun l hl => by cases hl) h
end LWF
