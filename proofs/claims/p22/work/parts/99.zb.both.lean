/-! WHAT STANDS BETWEEN CALLS: both sides -/
def INV (M : Mem) : Prop := TM sT sG M ∧ ∀ x, x = 24 ∨ x = 28 ∨ x = 32 ∨ x = 34 → FL0 x [] M
noncomputable def fb4 (x : Nat) : Bool := Nat.beq x 24 || (Nat.beq x 28 || (Nat.beq x 32 || Nat.beq x 34))
theorem fb4_V {x : Nat} (h : fb4 x = true) : x = 24 ∨ x = 28 ∨ x = 32 ∨ x = 34 := by
  unfold fb4 at h
  rw [Bool.or_eq_true, Bool.or_eq_true, Bool.or_eq_true] at h
  rcases h with h | h | h | h
  · exact Or.inl (Nat.eq_of_beq_eq_true h)
  · exact Or.inr (Or.inl (Nat.eq_of_beq_eq_true h))
  · exact Or.inr (Or.inr (Or.inl (Nat.eq_of_beq_eq_true h)))
  · exact Or.inr (Or.inr (Or.inr (Nat.eq_of_beq_eq_true h)))
/-- a contract asks for no more, and keeps it -/
noncomputable def invC (c : CN) : Bool := c.2.2.2.1.isEmpty && (c.2.2.2.2.1.all (fun f => f.2.isEmpty && fb4 f.1) && [24, 28, 32, 34].all (fun x => c.2.2.2.2.2.1.all (fun q => !mdIn (dp0 x) q.1 q.2) || c.2.2.2.2.2.2.all (fun s => s.2.2.2.1.any (fun f => Nat.beq f.1 x && f.2.isEmpty))))
theorem inv_c {c : CN} {k d : Nat} {M : Mem} {ws : List Value} (hc : cnOK sT sG FL0 c) (hB : invC c = true) (hm : (gNth mRs c.1).map (fun q => q.2.2.2.1) = some k) (hd : c.2.1 ≤ d) (ha : Two (taOK sT) c.2.2.1 ws) (hI : INV M) : ∃ v M', Ev none d c.1 0 (gPad k (gArgs ws)) [] M v M' 0 0 ∧ INV M' ∧ M'.length = M.length ∧ ∃ s ∈ c.2.2.2.2.2.2, csOK sT FL0 ws v M' s := by
  obtain ⟨b1, b2⟩ := and_t hB
  obtain ⟨b2, b3⟩ := and_t b2
  obtain ⟨hT, hf4⟩ := hI
  cases hq : gNth mRs c.1 with
  | none => rw [hq] at hm; cases hm
  | some q =>
    rw [hq] at hm
    have hm : q.2.2.2.1 = k := Option.some.inj hm
    have h3 : c.2.2.2.1 = [] := List.isEmpty_iff.mp b1
    obtain ⟨v, M', e1, e2, e3, s, e4, e5, _⟩ := hc d M ws q hd hq ha ⟨[], by rw [h3]; trivial, fun f hf => by
      obtain ⟨g1, g2⟩ := and_t (List.all_eq_true.mp b2 f hf)
      obtain ⟨fx, ps⟩ := f
      have g1 : ps = [] := List.isEmpty_iff.mp g1
      subst g1
      exact ⟨[], trivial, hf4 fx (fb4_V g2)⟩⟩ hT
    rw [hm] at e1
    have b4 := fun x hx => List.all_eq_true.mp b3 x hx
    refine ⟨v, M', e1, ⟨e2, fun x hx => ?_⟩, e3.1, s, e4, e5⟩
    have h9 := hf4 x hx
    rcases hx with rfl | rfl | rfl | rfl
    · exact inv_fl (b4 24 (by decide)) e3 e4 e5 h9
    · exact inv_fl (b4 28 (by decide)) e3 e4 e5 h9
    · exact inv_fl (b4 32 (by decide)) e3 e4 e5 h9
    · exact inv_fl (b4 34 (by decide)) e3 e4 e5 h9
theorem frm_nil {M M' : Mem} (h : Frm sT [] M M') : M' = M := by
  refine List.ext_getElem? (fun a => ?_)
  rw [← nth_eq, ← nth_eq]
  cases hM : gNth M a with
  | none =>
    rw [nth_eq] at hM ⊢
    rw [List.getElem?_eq_none_iff] at hM ⊢
    rw [h.1]
    exact hM
  | some e =>
    rcases e with ⟨t, x⟩ | ⟨c, vs⟩
    · obtain ⟨x', h1, h2⟩ := h.2.2 a t x hM
      rw [h1, h2 (fun g _ q => by cases q)]
    · obtain ⟨vs', h1, _, h3⟩ := h.2.1 a c vs hM
      have h4 : vs' = vs := List.ext_getElem? (fun k => by rw [← nth_eq, ← nth_eq]; exact h3 k (fun q => by cases q))
      rw [h1, h4]
theorem nth_app {α : Type} {l : List α} {e : α} {a : Nat} {x : α} (h : gNth l a = some x) : gNth (l ++ [e]) a = some x := by
  rw [nth_eq] at h ⊢
  rw [List.getElem?_append_left (List.getElem?_eq_some_iff.mp h).1]
  exact h
/-- one cell more, behind -/
theorem INV.app {M : Mem} (h : INV M) (e : AE) : INV (M ++ [e]) := by
  obtain ⟨⟨t1, t2⟩, hf⟩ := h
  refine ⟨⟨by rw [List.length_append]; omega, fun a g t h1 h2 => ?_⟩, fun x hx => ?_⟩
  · obtain ⟨e2, q1, q2⟩ := t2 a g t h1 h2
    exact ⟨e2, nth_app q1, q2⟩
  · have h9 := hf x hx
    rcases hx with rfl | rfl | rfl | rfl
    · obtain ⟨lm, lf, lt, ls, a1, a2, a3, a4, a5⟩ := fl0_24 h9
      exact (show P24 _ from ⟨lm, lf, lt, ls, nth_app a1, nth_app a2, nth_app a3, nth_app a4, a5⟩)
    · obtain ⟨t, l, a1, a2⟩ := fl0_28 h9
      exact (show P28 _ from ⟨t, l, nth_app a1, a2⟩)
    · obtain ⟨t, t2, l, lb, a1, a2, a3⟩ := fl0_32 h9
      exact (show P32 _ from ⟨t, t2, l, lb, nth_app a1, nth_app a2, a3⟩)
    · have h8 := fl0_34 h9
      exact (show P34 _ from fun a ha => by
        obtain ⟨vl, l, n, a1, a2, a3, a4, a5, a6, a7⟩ := h8 a ha
        refine ⟨vl, l, n, nth_app a1, a2, a3, nth_app a4, a5, a6, fun k hk => ?_⟩
        obtain ⟨b, b1, us, x, b2, b3⟩ := a7 k hk
        exact ⟨b, b1, us, x, nth_app b2, b3⟩)
noncomputable def chkL : List (Option Nat) → Nat → Bool
  | [], _ => true
  | some b :: r, k => gPc k (fun k => Nat.beq b k && chkL r (k + 1))
  | none :: _, _ => false
theorem chkL_V : ∀ (l : List (Option Nat)) (k0 : Nat), chkL l k0 = true → ∀ j x, gNth l j = some x → x = some (k0 + j) := by
  intro l
  induction l with
  | nil => intro k0 _ j x hj; cases hj
  | cons y r ih =>
    intro k0 h j x hj
    cases y with
    | none => cases h
    | some b =>
      have h : gPc k0 (fun k => Nat.beq b k && chkL r (k + 1)) = true := h
      rw [gPc_eq] at h
      obtain ⟨h1, h2⟩ := and_t h
      cases Nat.eq_of_beq_eq_true h1
      cases j with
      | zero => cases hj; rfl
      | succ j =>
        have := ih (k0 + 1) h2 j x hj
        rw [this]
        congr 1
        omega
noncomputable def wk0B (a : Nat) : Bool := match gNth mem0 a, gNth mem0 (a + 11) with
  | some (.inr (1, vl)), some (.inl (6, .inr (.inr l))) => (match gNth vl 14, gNth vl 15 with
    | some (.ref b), some (.int n) => Nat.beq b (a + 11) && decide (n = 0)
    | _, _ => false) && (chkL l (a + 36) && Nat.beq (gLn l) 60)
  | _, _ => false
theorem wk0_V {a : Nat} (h : wk0B a = true) : WK a mem0 := by
  unfold wk0B at h
  split at h
  rotate_left
  · cases h
  rename_i vl l e1 e2
  obtain ⟨h1, h2⟩ := and_t h
  split at h1
  rotate_left
  · cases h1
  rename_i b n e3 e4
  obtain ⟨h3, h4⟩ := and_t h1
  cases Nat.eq_of_beq_eq_true h3
  cases of_decide_eq_true h4
  obtain ⟨h5, h6⟩ := and_t h2
  have h7 := chkL_V l _ h5
  have h8 := Nat.eq_of_beq_eq_true h6
  rw [gln_len] at h8
  refine ⟨vl, l, 0, e1, e3, e4, e2, fun j k b hj hk => ?_, fun k b hk => ?_, fun k hk => ?_⟩
  · have g1 := Option.some.inj (h7 j _ hj)
    have g2 := Option.some.inj (h7 k _ hk)
    omega
  · have g1 := Option.some.inj (h7 k _ hk)
    have g2 := gNth_lt _ _ _ hk
    omega
  · have o : (0 : Int32).toInt.toNat = 0 := rfl
    rw [o] at hk
    exact absurd hk (Nat.not_lt_zero k)
set_option maxRecDepth 200000 in
theorem wk0_all : ([8, 243, 345, 441, 537].all wk0B) = true := by decide +kernel
theorem INV0 : INV mem0 := by
  obtain ⟨h1, h2, h3, h4⟩ := inv0
  refine ⟨h1, fun x hx => ?_⟩
  rcases hx with rfl | rfl | rfl | rfl
  · exact h2
  · exact h3
  · exact h4
  · exact (show P34 mem0 from fun a ha => wk0_V (List.all_eq_true.mp wk0_all a ha))
set_option maxRecDepth 100000 in
theorem sT_00 : gNth sT 0 = some 0 := by decide +kernel
set_option maxRecDepth 100000 in
theorem sT_08 : gNth sT 8 = some 8 := by decide +kernel
set_option maxRecDepth 100000 in
theorem cl_land : fdB 0 10 2 8 = true := by decide +kernel
set_option maxRecDepth 100000 in
theorem cl_walk : fdB 0 10 3 22 = true := by decide +kernel
/-- the two receivers -/
theorem INV.r0 {M : Mem} (h : INV M) : ∃ vs, gNth M 0 = some (.inr (10, vs)) := by
  obtain ⟨vs, b, h1, _⟩ := h.1.fref sT_00 cl_land
  exact ⟨vs, h1⟩
theorem INV.r633 {M : Mem} (h : INV M) : ∃ vs, gNth M 633 = some (.inr (11, vs)) := by
  obtain ⟨vs, h1, _⟩ := h.1.thr
  exact ⟨vs, h1⟩
