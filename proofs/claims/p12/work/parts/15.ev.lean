/-! PURE: runs of `go` put together -/
theorem gAdd_none (c s : Nat) : gAdd c s none = none := rfl
theorem step_mono {SA SB : Sta} {r1 r2 : Run} (hs : SA = none ∨ SA = SB) (hr : ∀ d me pc ls st M x, r1 d me pc ls st M = some x → r2 d me pc ls st M = some x) {d me pc : Nat} {ls : Lo} {st : List Value} {M : Mem} {x : Option Value × Mem × Nat × Nat} (h : gStep SA r1 r1 d me pc ls st M = some x) : gStep SB r2 r2 d me pc ls st M = some x := by
  have hget : ∀ (i : Instr) (o : Nat) (ini : Bool) (st : List Value) (M : Mem) (q : List Value × Mem), gGet i SA o ini st M = some q → gGet i SB o ini st M = some q := by
    intro i o ini st M q hq
    rcases hs with hs | hs
    · subst hs
      have hx : ∀ j l, gSx none j = some l → gSx SB j = some l := by
        intro j l hj
        match j, hj with
        | 0, hj => cases hj
        | 1, hj => exact hj
        | 2, hj => exact hj
        | 3, hj => exact hj
        | 4, hj => exact hj
        | n + 5, hj => cases hj
      cases i
      case iaload =>
        simp only [gGet] at hq ⊢
        split at hq
        · exact hq
        · split at hq
          · rename_i l hl
            rw [hx _ _ hl]
            exact hq
          · cases hq
        · cases hq
      case arraylength =>
        simp only [gGet] at hq ⊢
        split at hq
        · exact hq
        · split at hq
          · rename_i l hl
            rw [hx _ _ hl]
            exact hq
          · cases hq
        · cases hq
      all_goals exact hq
    · subst hs
      exact hq
  have hadd : ∀ (c s : Nat) (y1 y2 : Rs), (∀ x, y1 = some x → y2 = some x) → ∀ x, gAdd c s y1 = some x → gAdd c s y2 = some x := by
    intro c s y1 y2 hy x hx
    obtain ⟨v, M9, c9, s9⟩ := x
    obtain ⟨c1, s1, h1, rfl, rfl⟩ := add_inv hx
    rw [hy _ h1]
    rfl
  unfold gStep at h ⊢
  split at h
  · cases h
  · rename_i o y9 cc9 mx9 ret np9 kf tab hrow
    try rw [hrow]
    try dsimp only
    split at h
    · cases h
    · rename_i kd i hlook
      try rw [hlook]
      try dsimp only
      split at h
      · split at h
        · rename_i hg
          try rw [hg]
          exact hr _ _ _ _ _ _ _ h
        · cases h
      · split at h
        · rename_i hg
          try rw [hg]
          exact hr _ _ _ _ _ _ _ h
        · cases h
      · split at h
        · rename_i hg
          try rw [hg]
          exact hr _ _ _ _ _ _ _ h
        · cases h
      · split at h
        · rename_i hg
          rw [hget _ _ _ _ _ _ hg]
          exact hr _ _ _ _ _ _ _ h
        · cases h
      · split at h
        · rename_i hg
          rw [hget _ _ _ _ _ _ hg]
          exact hr _ _ _ _ _ _ _ h
        · cases h
      · split at h
        · rename_i hg
          try rw [hg]
          exact hadd _ _ _ _ (fun x hx => hr _ _ _ _ _ _ _ hx) _ h
        · cases h
      · exact h
      · split at h
        · cases h
        · split at h
          · cases h
          · rename_i hg
            try rw [hg]
            exact hr _ _ _ _ _ _ _ h
          · rename_i hg
            try rw [hg]
            obtain ⟨v1, M1, c1, s1, h1, h2⟩ := then_inv h
            try dsimp only
            rw [hr _ _ _ _ _ _ _ h1]
            exact hadd _ _ _ _ (fun x hx => hr _ _ _ _ _ _ _ hx) _ h2
theorem go_mono1 (SA : Sta) : ∀ (n : Nat) (d me pc : Nat) (ls : Lo) (st : List Value) (M : Mem) (x : Option Value × Mem × Nat × Nat), go SA n d me pc ls st M = some x → go SA (n + 1) d me pc ls st M = some x := by
  intro n
  induction n with
  | zero => intro d me pc ls st M x h; cases h
  | succ n ih =>
    intro d me pc ls st M x h
    rw [go_succ] at h ⊢
    exact step_mono (Or.inr rfl) ih h
theorem go_mono {SA : Sta} {n d me pc : Nat} {ls : Lo} {st : List Value} {M : Mem} {x : Option Value × Mem × Nat × Nat} (h : go SA n d me pc ls st M = some x) : ∀ k : Nat, go SA (n + k) d me pc ls st M = some x := by
  intro k
  induction k with
  | zero => exact h
  | succ k ih => exact go_mono1 SA _ _ _ _ _ _ _ _ ih
theorem go_sc (SB : Sta) : ∀ (n : Nat) (d me pc : Nat) (ls : Lo) (st : List Value) (M : Mem) (x : Option Value × Mem × Nat × Nat), go none n d me pc ls st M = some x → go SB n d me pc ls st M = some x := by
  intro n
  induction n with
  | zero => intro d me pc ls st M x h; cases h
  | succ n ih =>
    intro d me pc ls st M x h
    rw [go_succ] at h ⊢
    exact step_mono (Or.inl rfl) ih h
/-- the run from here comes to its return: what comes back, the memory, how much was made -/
def Ev (sc : Sta) (d me pc : Nat) (ls : Lo) (st : List Value) (M : Mem) (v : Option Value) (M' : Mem) (c s : Nat) : Prop := ∃ n, go sc n d me pc ls st M = some (v, M', c, s)
theorem Ev.any {d me pc : Nat} {ls : Lo} {st : List Value} {M M' : Mem} {v : Option Value} {c s : Nat} (h : Ev none d me pc ls st M v M' c s) (sc : Sta) : Ev sc d me pc ls st M v M' c s := by
  obtain ⟨n, h⟩ := h
  exact ⟨n, go_sc sc _ _ _ _ _ _ _ _ h⟩
theorem Ev.step {sc : Sta} {d me pc pc' : Nat} {ls ls' : Lo} {st st' : List Value} {M M1 M' : Mem} {v : Option Value} {c s : Nat} (k : Nat) (h : ∀ n, go sc (n + k) d me pc ls st M = go sc n d me pc' ls' st' M1) (h2 : Ev sc d me pc' ls' st' M1 v M' c s) : Ev sc d me pc ls st M v M' c s := by
  obtain ⟨n, h2⟩ := h2
  exact ⟨n + k, (h n).trans h2⟩
theorem Ev.add {sc : Sta} {d me pc pc' : Nat} {ls ls' : Lo} {st st' : List Value} {M M1 M' : Mem} {v : Option Value} {c s c1 s1 : Nat} (k : Nat) (h : ∀ n, go sc (n + k) d me pc ls st M = gAdd c1 s1 (go sc n d me pc' ls' st' M1)) (h2 : Ev sc d me pc' ls' st' M1 v M' c s) : Ev sc d me pc ls st M v M' (c1 + c) (s1 + s) := by
  obtain ⟨n, h2⟩ := h2
  refine ⟨n + k, (h n).trans ?_⟩
  rw [h2]
  rfl
theorem Ev.call {sc : Sta} {d me pc : Nat} {ls ls0 : Lo} {st rest : List Value} {M M1 M' : Mem} {v v1 : Option Value} {c s c1 s1 id : Nat} (h : ∀ n, go sc (n + 1) (d + 1) me pc ls st M = gThen (go sc n d id 0 ls0 [] M) (fun v M' c s => gAdd c s (go sc n (d + 1) me (pc + 3) ls (v.toList ++ rest) M'))) (h1 : Ev sc d id 0 ls0 [] M v1 M1 c1 s1) (h2 : Ev sc (d + 1) me (pc + 3) ls (v1.toList ++ rest) M1 v M' c s) : Ev sc (d + 1) me pc ls st M v M' (c1 + c) (s1 + s) := by
  obtain ⟨n1, h1⟩ := h1
  obtain ⟨n2, h2⟩ := h2
  refine ⟨n1 + n2 + 1, (h _).trans ?_⟩
  rw [go_mono h1 n2]
  show gAdd c1 s1 (go sc (n1 + n2) (d + 1) me (pc + 3) ls (v1.toList ++ rest) M1) = _
  rw [Nat.add_comm n1 n2, go_mono h2 n1]
  rfl
theorem Ev.ret {sc : Sta} {d me pc : Nat} {ls : Lo} {st : List Value} {M : Mem} {v : Option Value} (h : ∀ n, go sc (n + 1) d me pc ls st M = some (v, M, 0, 0)) : Ev sc d me pc ls st M v M 0 0 := ⟨1, h 0⟩
theorem Ev.of {d me pc n : Nat} {ls : Lo} {st : List Value} {M M' : Mem} {v : Option Value} {c s : Nat} (h : goF none n d me pc ls st M = some (v, M', c, s)) (sc : Sta) : Ev sc d me pc ls st M v M' c s := by
  rw [goF_eq] at h
  exact ⟨n, go_sc sc _ _ _ _ _ _ _ _ h⟩
theorem Ev.cast {sc : Sta} {d me pc : Nat} {ls : Lo} {st : List Value} {M M' : Mem} {v : Option Value} {c s c1 s1 : Nat} (h : Ev sc d me pc ls st M v M' c s) (hc : c = c1) (hs : s = s1) : Ev sc d me pc ls st M v M' c1 s1 := by
  subst hc
  subst hs
  exact h
