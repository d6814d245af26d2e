/-! THE REFERENCE'S calls on its park -/
section RCAL
variable {e B : Nat} {T : TS} {P Q : PK} {M M1 M' : Mem} {v : Option Value} {c k d x a b h ev fi t : Int32} {n i j : Nat} {ss : List Int32} {w dd : Int32} {f0 : Bool}
theorem RST.w0 (h : RST T P M) (j : Nat) (hj : j < 28 ∨ 31 ≤ j) (y : Int32) : RST T P (wF M 633 j y) := h.fz h.1.kf (FZ.wF (F := fun a k => a = 633 ∧ k = j) (W := noO) (O := noO) ⟨rfl, rfl⟩) (fun k k1 k2 q => by have := q.2; omega) (fun _ _ q => q)
theorem rda_l (h : RST T P M) (n9 : (P 2).toInt ≤ 9) : ∀ (n k : Nat) (kz : Int32), kz.toInt = (k : Int) → (k : Int) + (n : Int) = (P 2).toInt → Ev none e 157 2 [some (.ref 633), some (.int c), some (.int kz)] [] M v M' 0 0 → M' = M ∧ v = some (.int (bI (hdP P c n k))) := by
  have e2 : rI M 635 2 = P 2 := r_s h (n := 2) rfl (by decide)
  have t3 : (3 : Int32).toInt = 3 := rfl
  intro n
  induction n with
  | zero =>
    intro k kz hk hn H
    rcases rda_2 h.1 H with ⟨_, _, r1, r2⟩ | ⟨a1, _⟩ | ⟨a1, _⟩
    · exact ⟨r2, r1⟩
    all_goals exact absurd (Int32.le_iff_toInt_le.mpr (by rw [e2]; omega)) a1
  | succ n ih =>
    intro k kz hk hn H
    have e3 : (3 + kz).toInt = ((3 + k : Nat) : Int) := by rw [i32_add (by omega) (by omega)]; omega
    have er : rI M 635 (3 + kz) = P (3 + k) := r_s h e3 (by omega)
    unfold hdP
    rcases rda_2 h.1 H with ⟨a1, _⟩ | ⟨_, a2, _, _, r1, r2⟩ | ⟨_, a2, _, _, H⟩
    · have := Int32.le_iff_toInt_le.mp a1
      rw [e2] at this
      omega
    · rw [er] at a2
      rw [if_pos a2]
      exact ⟨r2, r1⟩
    · rw [er] at a2
      rw [if_neg a2]
      exact ih (k + 1) (kz + 1) (by rw [i32_p1 (by omega)]; omega) (by omega) H
theorem rda_ok (h : RST T P M) (hD : okD P) (H : Ev none e 157 0 [some (.ref 633), some (.int c), none] [] M v M' 0 0) : M' = M ∧ v = some (.int (bI (hasP P c))) := rda_l h hD.2.1.2.1 (P 2).toInt.toNat 0 0 rfl (by have := hD.2.1.1; omega) (rda_0 h.1 H)
theorem rwa_l (h : RST T P M) (n60 : (P 157).toInt ≤ 60) : ∀ (n k : Nat) (kz : Int32), kz.toInt = (k : Int) → (k : Int) + (n : Int) = (P 157).toInt → Ev none e 158 2 [some (.ref 633), some (.int c), some (.int kz)] [] M v M' 0 0 → M' = M ∧ v = some (.int (bI (wkrP P c n k))) := by
  have e2 : rI M 635 157 = P 157 := r_s h (n := 157) rfl (by decide)
  have t6 : (6 : Int32).toInt = 6 := rfl
  have t158 : (158 : Int32).toInt = 158 := rfl
  intro n
  induction n with
  | zero =>
    intro k kz hk hn H
    rcases rwa_2 h.1 H with ⟨_, _, r1, r2⟩ | ⟨a1, _⟩ | ⟨a1, _⟩
    · exact ⟨r2, r1⟩
    all_goals exact absurd (Int32.le_iff_toInt_le.mpr (by rw [e2]; omega)) a1
  | succ n ih =>
    intro k kz hk hn H
    have m6 : (6 * kz).toInt = 6 * kz.toInt := i32_mul (by rw [t6]; omega) (by rw [t6]; omega)
    have e3 : (158 + 6 * kz).toInt = ((158 + 6 * k : Nat) : Int) := by rw [i32_add (by omega) (by omega), m6]; omega
    have er : rI M 635 (158 + 6 * kz) = P (158 + 6 * k) := r_s h e3 (by omega)
    unfold wkrP
    rcases rwa_2 h.1 H with ⟨a1, _⟩ | ⟨_, a2, _, _, r1, r2⟩ | ⟨_, a2, _, _, H⟩
    · have := Int32.le_iff_toInt_le.mp a1
      rw [e2] at this
      omega
    · rw [er] at a2
      rw [if_pos a2]
      exact ⟨r2, r1⟩
    · rw [er] at a2
      rw [if_neg a2]
      exact ih (k + 1) (kz + 1) (by rw [i32_p1 (by omega)]; omega) (by omega) H
theorem rwa_ok (h : RST T P M) (hK : okK P) (H : Ev none e 158 0 [some (.ref 633), some (.int c), none] [] M v M' 0 0) : M' = M ∧ v = some (.int (bI (wthP P c))) := rwa_l h hK.2.1 (P 157).toInt.toNat 0 0 rfl (by have := hK.1; omega) (rwa_0 h.1 H)
theorem g140_R {lo hi : Int32} : G_140 M x lo hi = 0 ↔ ¬ inX x lo hi := g126_R (M := M)
theorem g145_ok (h : RST T P M) (hw : wh4 P) : G_145 M c = 0 ↔ ¬ inC P c := by
  obtain ⟨_, c256, c16⟩ := cls_int hw
  have hg := g144_ok h hw
  have e1 : (G_144 M - 1).toInt = (clsP P : Int) - 1 := by rw [i32_m1 (by omega)]; omega
  unfold G_145
  rw [g140_R]
  unfold inX inC
  have t0 : (0 : Int32).toInt = 0 := rfl
  rw [e1, t0]
  constructor
  · exact fun q r => q ⟨r.1, by omega⟩
  · exact fun q r => q ⟨r.1, by omega⟩
theorem g152_ok (h : RST T P M) (hD : okD P) : G_152 M d = 0 ↔ ¬ inD P d := by
  have e2 : rI M 635 2 = P 2 := r_s h (n := 2) rfl (by decide)
  have h0 := hD.2.1.1
  have e1 : (rI M 635 2 - 1).toInt = (P 2).toInt - 1 := by rw [e2, i32_m1 (by omega)]
  unfold G_152
  rw [g140_R]
  unfold inX inD
  have t0 : (0 : Int32).toInt = 0 := rfl
  rw [e1, t0]
  constructor
  · exact fun q r => q ⟨r.1, by omega⟩
  · exact fun q r => q ⟨r.1, by omega⟩
theorem g189_ok (h : RST T P M) (hD : okD P) : G_189 M k = 1 ↔ isW P k := by
  have e2 : rI M 635 12 = P 12 := r_s h (n := 12) rfl (by decide)
  have h0 := hD.2.2.1
  have h24 := hD.2.2.2.1
  have e1 : (rI M 635 12 - 1).toInt = (P 12).toInt - 1 := by rw [e2, i32_m1 (by omega)]
  have t0 : (0 : Int32).toInt = 0 := rfl
  have o : ¬ ((0 : Int32) = 1) := by decide
  unfold G_189 isW
  by_cases hin : G_140 M k 0 (rI M 635 12 - 1) = 0
  · rw [if_pos hin]
    rw [g140_R] at hin
    unfold inX at hin
    rw [e1, t0] at hin
    exact ⟨fun q => absurd q o, fun q => absurd ⟨q.1.1, by omega⟩ hin⟩
  · rw [if_neg hin]
    rw [g140_R, Classical.not_not] at hin
    unfold inX at hin
    rw [e1, t0] at hin
    have t6 : (6 : Int32).toInt = 6 := rfl
    have t13 : (13 : Int32).toInt = 13 := rfl
    have t5 : (5 : Int32).toInt = 5 := rfl
    have m6 : (6 * k).toInt = 6 * k.toInt := i32_mul (by rw [t6]; omega) (by rw [t6]; omega)
    have m13 : (13 + 6 * k).toInt = 13 + 6 * k.toInt := by rw [i32_add (by omega) (by omega), m6]; omega
    have e3 : (13 + 6 * k + 5).toInt = ((13 + 6 * k.toInt.toNat + 5 : Nat) : Int) := by rw [i32_add (by omega) (by omega), m13]; omega
    rw [r_s h e3 (by omega)]
    by_cases h5 : P (13 + 6 * k.toInt.toNat + 5) = 1
    · rw [if_pos h5]
      exact ⟨fun _ => ⟨⟨hin.1, by omega⟩, h5⟩, fun _ => rfl⟩
    · rw [if_neg h5]
      exact ⟨fun q => absurd q o, fun q => absurd q.2 h5⟩
theorem rdoor_ok (h : RST T P M) (hD : okD P) (H : Ev none e 156 0 [some (.ref 633), some (.int c)] [] M v M' 0 0) : (dorN P c ∧ v = some (.int (-1)) ∧ RST T P M') ∨ (¬ dorN P c ∧ v = some (.int (P 2)) ∧ RST T (dorP P c) M') := by
  have hw := hD.1
  have e2 : rI M 635 2 = P 2 := r_s h (n := 2) rfl (by decide)
  have h0 := h.w0 0 (by decide) 0
  unfold dorN
  rcases rdo_0 h.1 H with ⟨a1, _, r1, r2⟩ | ⟨_, a1, _, r1, r2⟩ | ⟨_, a0, a1, _, r1, r2⟩ | ⟨a1, a2, a3, _, e1, v1, M1, rfl, H1, H⟩
  · rw [e2] at a1
    exact Or.inl ⟨Or.inl a1, r1, r2 ▸ h0⟩
  · rw [g145_ok h0 hw] at a1
    exact Or.inl ⟨Or.inr (Or.inl a1), r1, r2 ▸ h0⟩
  · rw [g145_ok h0 hw, Classical.not_not] at a0
    rw [g148_ok h0 hw a0, bI_0] at a1
    exact Or.inl ⟨Or.inr (Or.inr (Or.inl a1)), r1, r2 ▸ h0⟩
  · rw [e2] at a1
    rw [g145_ok h0 hw, Classical.not_not] at a2
    rw [g148_ok h0 hw a2, bI_0] at a3
    obtain ⟨rfl, rfl⟩ := rda_ok h0 hD H1
    have e2' : rI (wF M 633 0 0) 635 2 = P 2 := r_s h0 (n := 2) rfl (by decide)
    have b0 := hD.2.1.1
    have b9 := hD.2.1.2.1
    have t9 : (9 : Int32).toInt = 9 := rfl
    have n9 : (P 2).toInt ≠ 9 := fun q => a1 (Int32.toInt_inj.mp (q.trans t9.symm))
    rcases rdo_37 h0.1 H with ⟨a4, _, _, _, _, _, r1, r2⟩ | ⟨a4, r1, r2⟩
    · rw [bI_0] at a4
      have t3 : (3 : Int32).toInt = 3 := rfl
      have ix : (3 + rI (wF M 633 0 0) 635 2).toNatClampNeg = 3 + (P 2).toInt.toNat := cl_n (by rw [e2', i32_add (by omega) (by omega)]; omega)
      have i2 : (2 : Int32).toNatClampNeg = 2 := rfl
      rw [ix, i2] at r1 r2
      have u1 := h0.up (i := 3 + (P 2).toInt.toNat) (by omega) (x := c)
      have e2u : rI (wI (wF M 633 0 0) 635 (3 + (P 2).toInt.toNat) c) 635 2 = P 2 := (r_s u1 (n := 2) rfl (by decide)).trans (up_ne (by omega))
      rw [e2u] at r1 r2
      have u2 := u1.up (i := 2) (by decide) (x := P 2 + 1)
      have e2v : rI (wI (wI (wF M 633 0 0) 635 (3 + (P 2).toInt.toNat) c) 635 2 (P 2 + 1)) 635 2 = P 2 + 1 := (r_s u2 (n := 2) rfl (by decide)).trans up_eq
      rw [e2v] at r1
      refine Or.inr ⟨fun q => ?_, ?_, r2 ▸ u2⟩
      · rcases q with q | q | q | q
        · exact a1 q
        · exact q a2
        · exact a3 q
        · rw [a4] at q; cases q
      · rw [r1]
        have : P 2 + 1 - 1 = P 2 := by grind
        rw [this]
    · rw [bI_0, Bool.not_eq_false] at a4
      exact Or.inl ⟨Or.inr (Or.inr (Or.inr a4)), r1, r2 ▸ h0⟩
theorem rdrop_ok (h : RST T P M) (hD : okD P) (H : Ev none e 191 0 [some (.ref 633), some (.int k)] [] M v M' 0 0) : (¬ isW P k ∧ v = some (.int 0) ∧ RST T P M') ∨ (isW P k ∧ v = some (.int 1) ∧ RST T (drpP P k) M') := by
  have h0 := h.w0 0 (by decide) 0
  have o : ¬ ((0 : Int32) = 1) := by decide
  have b24 := hD.2.2.2.1
  rcases rdr_0 h.1 H with ⟨a1, r1, r2⟩ | ⟨a1, _, r1, r2⟩
  · exact Or.inl ⟨fun q => by rw [← g189_ok h0 hD, a1] at q; exact o q, r1, r2 ▸ h0⟩
  · have hW : isW P k := by
      rw [← g189_ok h0 hD]
      unfold G_189 at a1 ⊢
      split at a1
      · exact absurd rfl a1
      · rename_i q
        rw [if_neg q]
        split at a1
        · rename_i q2
          rw [if_pos q2]
        · exact absurd rfl a1
    have hW0 := hW
    obtain ⟨⟨k0, k1⟩, _⟩ := hW0
    have t6 : (6 : Int32).toInt = 6 := rfl
    have t13 : (13 : Int32).toInt = 13 := rfl
    have t5 : (5 : Int32).toInt = 5 := rfl
    have m6 : (6 * k).toInt = 6 * k.toInt := i32_mul (by rw [t6]; omega) (by rw [t6]; omega)
    have m13 : (13 + 6 * k).toInt = 13 + 6 * k.toInt := by rw [i32_add (by omega) (by omega), m6]; omega
    have ix : (13 + 6 * k + 5).toNatClampNeg = 13 + 6 * k.toInt.toNat + 5 := cl_n (by rw [i32_add (by omega) (by omega), m13]; omega)
    rw [ix] at r2
    exact Or.inr ⟨hW, r1, r2 ▸ h0.up (by omega)⟩
end RCAL
