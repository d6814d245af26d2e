/-! THE WALKING, in itself: what stays well formed -/
def okD (P : PK) : Prop := wh4 P ∧ (0 ≤ (P 2).toInt ∧ (P 2).toInt ≤ 9 ∧ ∀ d, d < (P 2).toInt.toNat → inC P (P (3 + d))) ∧ 0 ≤ (P 12).toInt ∧ (P 12).toInt ≤ 24 ∧ ∀ k, k < (P 12).toInt.toNat → (0 ≤ (P (13 + 6 * k)).toInt ∧ (P (13 + 6 * k)).toInt < (P 2).toInt) ∧ (0 ≤ (P (13 + 6 * k + 1)).toInt ∧ (P (13 + 6 * k + 1)).toInt < (P 2).toInt) ∧ (0 ≤ (P (13 + 6 * k + 2)).toInt ∧ (P (13 + 6 * k + 2)).toInt ≤ 5) ∧ 1 ≤ (P (13 + 6 * k + 3)).toInt ∧ (P (13 + 6 * k + 5) = 0 ∨ P (13 + 6 * k + 5) = 1)
def okK (P : PK) : Prop := 0 ≤ (P 157).toInt ∧ (P 157).toInt ≤ 60 ∧ ∀ k, k < (P 157).toInt.toNat → inC P (P (158 + 6 * k)) ∧ 0 ≤ (P (158 + 6 * k + 1)).toInt ∧ (P (158 + 6 * k + 1)).toInt < (P 12).toInt ∧ -1 ≤ (P (158 + 6 * k + 3)).toInt
def okC1 (B : Nat) (P : PK) (c : Int32) : Prop := (0 ≤ (cE P 0 c).toInt ∧ (cE P 0 c).toInt ≤ 6) ∧ 0 ≤ (cE P 2 c).toInt ∧ (0 ≤ (cE P 3 c).toInt ∧ (cE P 3 c).toInt ≤ 999) ∧ (0 ≤ (cE P 4 c).toInt ∧ (cE P 4 c).toInt ≤ 200) ∧ (0 ≤ (cE P 5 c).toInt ∧ (cE P 5 c).toInt ≤ (B : Int)) ∧ 0 ≤ (cE P 6 c).toInt ∧ (cE P 6 c).toInt ≤ (B : Int)
def okE (B : Nat) (P : PK) : Prop := ∀ c, inC P c → okC1 B P c
section KEE
variable {g q : TQ} {P P' : PK} {c c' d x : Int32} {B f f' i j k n : Nat}
theorem up_eq : uPk P i x i = x := if_pos rfl
theorem up_ne (h : j ≠ i) : uPk P i x j = P j := if_neg h
theorem cls_eq (h0 : P' 0 = P 0) (h1 : P' 1 = P 1) : clsP P' = clsP P := by unfold clsP; rw [h0, h1]
theorem inC.eq (h0 : P' 0 = P 0) (h1 : P' 1 = P 1) : inC P' c ↔ inC P c := by unfold inC; rw [cls_eq h0 h1]
theorem wh4.eq (h0 : P' 0 = P 0) (h1 : P' 1 = P 1) (h : wh4 P) : wh4 P' := by unfold wh4; rw [h0, h1]; exact h
theorem bes_eq (h0 : P' 0 = P 0) (h1 : P' 1 = P 1) : besP P' c d = besP P c d := by unfold besP; rw [h0, h1]
theorem cX_ge : 522 ≤ cX f c := by unfold cX; omega
theorem cX_inj (hf : f < 7) (hf' : f' < 7) (hc : 0 ≤ c.toInt) (hc' : 0 ≤ c'.toInt) (h : cX f' c' = cX f c) : f' = f ∧ c' = c := by
  unfold cX at h
  have e1 : f' = f := by omega
  refine ⟨e1, Int32.toInt_inj.mp ?_⟩
  have := Int.toNat_of_nonneg hc
  have := Int.toNat_of_nonneg hc'
  omega
theorem cE_up (hf : f < 7) (hf' : f' < 7) (hc : 0 ≤ c.toInt) (hc' : 0 ≤ c'.toInt) : cE (uPk P (cX f c) x) f' c' = if f' = f ∧ c' = c then x else cE P f' c' := by
  by_cases h : f' = f ∧ c' = c
  · rw [if_pos h, h.1, h.2]
    exact up_eq
  · rw [if_neg h]
    exact up_ne (fun q => h (cX_inj hf hf' hc hc' q))
theorem cE_lo (h : i < 522) : cE (uPk P i x) f c = cE P f c := up_ne (by have := cX_ge (f := f) (c := c); omega)
theorem okD.sb (hs : ∀ j, j < 157 → P' j = P j) (h : okD P) : okD P' := by
  obtain ⟨h1, ⟨h2, h3, h4⟩, h5, h6, h7⟩ := h
  have e0 := hs 0 (by decide)
  have e1 := hs 1 (by decide)
  refine ⟨h1.eq e0 e1, ⟨by rw [hs 2 (by decide)]; exact h2, by rw [hs 2 (by decide)]; exact h3, fun d hd => ?_⟩, by rw [hs 12 (by decide)]; exact h5, by rw [hs 12 (by decide)]; exact h6, fun k hk => ?_⟩
  · rw [hs 2 (by decide)] at hd
    rw [inC.eq e0 e1, hs _ (by omega)]
    exact h4 d hd
  · rw [hs 12 (by decide)] at hk
    rw [hs _ (by omega), hs 2 (by decide), hs _ (by omega), hs _ (by omega), hs _ (by omega), hs _ (by omega)]
    exact h7 k hk
theorem okE.sb (h0 : P' 0 = P 0) (h1 : P' 1 = P 1) (hs : ∀ j, 522 ≤ j → P' j = P j) (h : okE B P) : okE B P' := fun c hc => by
  have e : ∀ f, cE P' f c = cE P f c := fun f => hs _ cX_ge
  unfold okC1
  rw [e, e, e, e, e, e]
  exact h c ((inC.eq h0 h1).mp hc)
theorem okE.more {B' : Nat} (hB : B ≤ B') (h : okE B P) : okE B' P := fun c hc => by
  obtain ⟨a1, a2, a3, a4, a5, a6⟩ := h c hc
  exact ⟨a1, a2, a3, a4, ⟨a5.1, by omega⟩, a6.1, by omega⟩
theorem okE.nn (h : okE B P) : ∀ c, inC P c → nnC P c := fun c hc => by
  obtain ⟨a1, a2, a3, a4, a5, a6⟩ := h c hc
  exact ⟨a2, a3.1, a4.1, a5.1⟩
theorem fst_rng {k c d : Int32} (hd : 0 ≤ d.toInt ∧ d.toInt ≤ 999) : ∀ (ls : List Lnq), (∀ l ∈ ls, nuOK l.1 l.2.1 l.2.2.1) → 0 ≤ (fstL g P k c d ls).toInt ∧ (fstL g P k c d ls).toInt ≤ 999 := by
  intro ls
  induction ls with
  | nil => intro _; exact hd
  | cons l r ih =>
    intro h
    unfold fstL
    split
    · have := h l List.mem_cons_self
      exact ⟨this.1, this.2.1⟩
    · exact ih (fun l hl => h l (List.mem_cons_of_mem _ hl))
theorem wea_E (hc : 0 ≤ c.toInt) (hc' : 0 ≤ c'.toInt) (hf : f < 7) : cE (weaP g P c) f c' = if f = 3 ∧ c' = c ∧ grnB P c = true then (if 999 < cE P 3 c + fstL g P 0 c 5 g.2 then 999 else cE P 3 c + fstL g P 0 c 5 g.2) else cE P f c' := by
  unfold weaP
  obtain ⟨z, ez⟩ : ∃ z, z = (if 999 < cE P 3 c + fstL g P 0 c 5 g.2 then 999 else cE P 3 c + fstL g P 0 c 5 g.2) := ⟨_, rfl⟩
  rw [← ez]
  by_cases hg : grnB P c = true
  · rw [if_pos hg, cE_up (by decide) hf hc hc']
    by_cases h : f = 3 ∧ c' = c
    · rw [if_pos h, if_pos ⟨h.1, h.2, hg⟩]
    · rw [if_neg h, if_neg (fun q => h ⟨q.1, q.2.1⟩)]
  · rw [if_neg hg, if_neg (fun q => hg q.2.2)]
theorem trd_E (hc : 0 ≤ c.toInt) (hc' : 0 ≤ c'.toInt) (hf : f < 7) : cE (trdP g P c) f c' = if f = 5 ∧ c' = c then cE P 5 c + 1 else if f = 6 ∧ c' = c then cE P 6 c + 1 else cE (weaP g P c) f c' := by
  have w5 : cE (weaP g P c) 5 c = cE P 5 c := by rw [wea_E hc hc (by decide), if_neg (fun q => absurd q.1 (by decide))]
  have w6 : cE (weaP g P c) 6 c = cE P 6 c := by rw [wea_E hc hc (by decide), if_neg (fun q => absurd q.1 (by decide))]
  have w66 : cE (uPk (weaP g P c) (cX 5 c) (cE P 5 c + 1)) 6 c = cE P 6 c := by rw [cE_up (by decide) (by decide) hc hc, if_neg (fun q => absurd q.1 (by decide)), w6]
  unfold trdP
  rw [w5, w66, cE_up (by decide) hf hc hc', cE_up (by decide) hf hc hc']
  by_cases h5 : f = 5 ∧ c' = c
  · rw [if_pos h5, if_pos h5, if_neg (fun q => absurd (q.1.symm.trans h5.1) (by decide))]
  · rw [if_neg h5, if_neg h5]
theorem trd_lo (h : j < 522) : trdP g P c j = P j := by
  have h1 : ∀ f, j ≠ cX f c := fun f => by have := cX_ge (f := f) (c := c); omega
  unfold trdP
  rw [up_ne (h1 6), up_ne (h1 5)]
  unfold weaP
  split
  · exact up_ne (h1 3)
  · rfl
theorem okE.trd (hw : LW g) (hB : B ≤ 100000000) (h : okE B P) (hc : inC P c) : okE (B + 1) (trdP g P c) := fun c' hc' => by
  have e0 : trdP g P c 0 = P 0 := trd_lo (by decide)
  have e1 : trdP g P c 1 = P 1 := trd_lo (by decide)
  have hc2 : inC P c' := (inC.eq e0 e1).mp hc'
  have t1 : (1 : Int32).toInt = 1 := rfl
  have t9 : (999 : Int32).toInt = 999 := rfl
  obtain ⟨a1, a2, a3, a4, a5, a6⟩ := h c' hc2
  obtain ⟨_, _, b3, _, b5, b6⟩ := h c hc
  have fr := fst_rng (g := g) (P := P) (k := 0) (c := c) (d := 5) (by decide) g.2 (fun l hl => (hw l hl).1)
  have ew : ∀ f, f < 7 → f ≠ 3 → cE (weaP g P c) f c' = cE P f c' := fun f hf h3 => by rw [wea_E hc.1 hc2.1 hf, if_neg (fun q => h3 q.1)]
  unfold okC1
  rw [trd_E hc.1 hc2.1 (by decide), trd_E hc.1 hc2.1 (by decide), trd_E hc.1 hc2.1 (by decide), trd_E hc.1 hc2.1 (by decide), trd_E hc.1 hc2.1 (by decide), trd_E hc.1 hc2.1 (by decide)]
  rw [if_neg (fun q => absurd q.1 (by decide)), if_neg (fun q => absurd q.1 (by decide)), ew 0 (by decide) (by decide)]
  rw [if_neg (fun q => absurd q.1 (by decide)), if_neg (fun q => absurd q.1 (by decide)), ew 2 (by decide) (by decide)]
  rw [if_neg (fun q => absurd q.1 (by decide)), if_neg (fun q => absurd q.1 (by decide))]
  rw [if_neg (fun q => absurd q.1 (by decide)), if_neg (fun q => absurd q.1 (by decide)), ew 4 (by decide) (by decide)]
  rw [ew 5 (by decide) (by decide), ew 6 (by decide) (by decide)]
  have s5 : (cE P 5 c + 1).toInt = (cE P 5 c).toInt + 1 := i32_add (by omega) (by omega)
  have s6 : (cE P 6 c + 1).toInt = (cE P 6 c).toInt + 1 := i32_add (by omega) (by omega)
  refine ⟨a1, a2, ?_, a4, ?_, ?_⟩
  · rw [wea_E hc.1 hc2.1 (by decide)]
    split
    · split
      · decide
      · rename_i h9
        rw [Int32.lt_iff_toInt_lt, t9, i32_add (by omega) (by omega)] at h9
        rw [i32_add (by omega) (by omega)]
        omega
    · exact a3
  · by_cases hcc : c' = c
    · rw [if_pos ⟨rfl, hcc⟩, s5]
      omega
    · rw [if_neg (fun q => hcc q.2), if_neg (fun q => hcc q.2)]
      omega
  · rw [if_neg (fun q => absurd q.1 (by decide))]
    by_cases hcc : c' = c
    · rw [if_pos ⟨rfl, hcc⟩, s6]
      omega
    · rw [if_neg (fun q => hcc q.2)]
      omega
/-! how many are on a CELL -/
theorem crd_congr : ∀ n, (∀ t, t < n → P' (158 + 6 * t) = P (158 + 6 * t)) → crdP P' c n = crdP P c n := by
  intro n
  induction n with
  | zero => intro _; rfl
  | succ n ih =>
    intro h
    show crdP P' c n + _ = crdP P c n + _
    rw [ih (fun t ht => h t (by omega)), h n (by omega)]
noncomputable def onI (a c : Int32) : Int32 := if a = c then 1 else 0
theorem crd_up : ∀ n k, k < n → (∀ t, t < n → t ≠ k → P' (158 + 6 * t) = P (158 + 6 * t)) → crdP P' c n = crdP P c n - onI (P (158 + 6 * k)) c + onI (P' (158 + 6 * k)) c := by
  intro n
  induction n with
  | zero => intro k h; exact absurd h (Nat.not_lt_zero k)
  | succ n ih =>
    intro k hk h
    show crdP P' c n + onI (P' (158 + 6 * n)) c = crdP P c n + onI (P (158 + 6 * n)) c - _ + _
    by_cases hkn : k = n
    · subst hkn
      rw [crd_congr k (fun t ht => h t (by omega) (by omega))]
      grind
    · rw [ih k (by omega) (fun t ht => h t (by omega)), h n (by omega) (by omega)]
      grind
theorem crd_del : ∀ n k, k ≤ n → (∀ t, t < k → P' (158 + 6 * t) = P (158 + 6 * t)) → (∀ t, k ≤ t → t < n → P' (158 + 6 * t) = P (158 + 6 * (t + 1))) → crdP P' c n = crdP P c (n + 1) - onI (P (158 + 6 * k)) c := by
  intro n
  induction n with
  | zero =>
    intro k hk _ _
    have : k = 0 := by omega
    subst this
    show (0 : Int32) = 0 + onI (P (158 + 6 * 0)) c - _
    grind
  | succ n ih =>
    intro k hk h1 h2
    show crdP P' c n + onI (P' (158 + 6 * n)) c = crdP P c (n + 1) + onI (P (158 + 6 * (n + 1))) c - _
    by_cases hkn : k = n + 1
    · subst hkn
      rw [crd_congr n (fun t ht => h1 t (by omega)), h1 n (by omega)]
      show crdP P c n + onI (P (158 + 6 * n)) c = crdP P c n + onI (P (158 + 6 * n)) c + _ - _
      grind
    · rw [ih k (by omega) h1 (fun t h3 h4 => h2 t h3 (by omega)), h2 n (by omega) (by omega)]
      grind
theorem crd_nn : ∀ n, n ≤ 1000 → 0 ≤ (crdP P c n).toInt ∧ (crdP P c n).toInt ≤ (n : Int) := by
  intro n
  induction n with
  | zero => intro _; exact (by decide : 0 ≤ (0 : Int32).toInt ∧ (0 : Int32).toInt ≤ ((0 : Nat) : Int))
  | succ n ih =>
    intro hn
    obtain ⟨h1, h2⟩ := ih (by omega)
    have t1 : (1 : Int32).toInt = 1 := rfl
    have t0 : (0 : Int32).toInt = 0 := rfl
    show 0 ≤ (crdP P c n + _).toInt ∧ (crdP P c n + _).toInt ≤ _
    split
    · rw [i32_add (by omega) (by omega)]
      omega
    · rw [i32_add (by omega) (by omega)]
      omega
/-- somebody is there -/
theorem crd_pos : ∀ n, n ≤ 1000 → (0 < crdP P c n ↔ ∃ t, t < n ∧ P (158 + 6 * t) = c) := by
  intro n
  induction n with
  | zero => intro _; exact ⟨fun h => absurd h (show ¬ (0 : Int32) < 0 by decide), fun ⟨t, h, _⟩ => absurd h (Nat.not_lt_zero t)⟩
  | succ n ih =>
    intro hn
    have h1 := crd_nn (P := P) (c := c) n (by omega)
    have t1 : (1 : Int32).toInt = 1 := rfl
    have t0 : (0 : Int32).toInt = 0 := rfl
    have ih := ih (by omega)
    rw [Int32.lt_iff_toInt_lt, t0] at ih
    show 0 < crdP P c n + _ ↔ _
    rw [Int32.lt_iff_toInt_lt, t0]
    by_cases hp : P (158 + 6 * n) = c
    · rw [if_pos hp, i32_add (by omega) (by omega)]
      exact ⟨fun _ => ⟨n, by omega, hp⟩, fun _ => by omega⟩
    · rw [if_neg hp, i32_add (by omega) (by omega), t0, Int.add_zero, ih]
      constructor
      · rintro ⟨t, h2, h3⟩
        exact ⟨t, by omega, h3⟩
      · rintro ⟨t, h2, h3⟩
        refine ⟨t, ?_, h3⟩
        have : t ≠ n := fun q => hp (q ▸ h3)
        omega
/-! where a walker goes -/
theorem to_rng {here goal : Int32} : ∀ (n : Nat) (d : Int32), 0 ≤ d.toInt → d.toInt + (n : Int) = 8 → toP P here goal n d = -1 ∨ (0 ≤ (toP P here goal n d).toInt ∧ (toP P here goal n d).toInt < 8 ∧ besP P here (toP P here goal n d) = goal) := by
  intro n
  induction n with
  | zero => intro d _ _; exact Or.inl rfl
  | succ n ih =>
    intro d h0 h1
    unfold toP
    split
    · rename_i h
      exact Or.inr ⟨h0, by omega, h⟩
    · exact ih (d + 1) (by rw [i32_p1 (by omega)]; omega) (by rw [i32_p1 (by omega)]; omega)
theorem bst_rng {w : WC} : ∀ (n : Nat) (d b le : Int32), 0 ≤ d.toInt → d.toInt + (n : Int) = 8 → (b = -1 ∨ (0 ≤ b.toInt ∧ b.toInt < 8 ∧ ¬ besP P w.1 b < 0)) → bstP g P q w n d b le = -1 ∨ (0 ≤ (bstP g P q w n d b le).toInt ∧ (bstP g P q w n d b le).toInt < 8 ∧ ¬ besP P w.1 (bstP g P q w n d b le) < 0) := by
  intro n
  induction n with
  | zero => intro d b le _ _ hb; exact hb
  | succ n ih =>
    intro d b le h0 h1 hb
    have d1 : (d + 1).toInt = d.toInt + 1 := i32_p1 (by omega)
    unfold bstP
    split
    · exact ih (d + 1) b le (by omega) (by omega) hb
    · rename_i h
      refine ih (d + 1) d _ (by omega) (by omega) (Or.inr ⟨h0, by omega, fun q => h (Or.inl ?_)⟩)
      unfold badB
      rw [decide_eq_true q, Bool.true_or]
theorem cho_rng {w : WC} (hg : 0 ≤ w.2.1.toInt) : choP g P q w = -1 ∨ (0 ≤ (choP g P q w).toInt ∧ (choP g P q w).toInt < 8 ∧ ¬ besP P w.1 (choP g P q w) < 0) := by
  unfold choP
  split
  · exact bst_rng 8 0 (-1) 0 (by decide) (by decide) (Or.inl rfl)
  · rename_i h
    rcases to_rng (P := P) (here := w.1) (goal := w.2.1) 8 0 (by decide) (by decide) with e | ⟨e1, e2, e3⟩
    · rw [e] at h
      exact absurd (by decide) h
    · exact Or.inr ⟨e1, e2, by rw [e3, i32_z]; omega⟩
end KEE
