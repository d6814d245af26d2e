/-! THE REFERENCE'S wish, rain, snow, lay, image, restore, layAside, layBack -/
section RWIS
variable {e B : Nat} {T : TS} {P P' Q : PK} {PI : Nat → PK} {M M0 M1 M' : Mem} {v : Option Value} {c k d x a b h ev fi t : Int32} {n i j : Nat}
theorem i32_f (i : Int32) (n : Nat) (hi : i.toInt = (n : Int)) (f : Int32) (g : Nat) (hf : f.toInt = (g : Int)) (hn : n + g < 100000) : (i + f).toInt = ((n + g : Nat) : Int) := by
  rw [i32_add (by omega) (by omega), hi, hf]
  omega
theorem rwish_ok (hR : RST T P M) (hD : okD P) (H : Ev none e 190 0 [some (.ref 633), some (.int a), some (.int b), some (.int h), some (.int ev), some (.int fi), none] [] M v M' 0 0) : (wisN P a b h ev fi ∧ v = some (.int (-1)) ∧ RST T P M') ∨ (¬ wisN P a b h ev fi ∧ v = some (.int (P 12)) ∧ RST T (wisP P a b h ev fi) M') := by
  have e12 : rI M 635 12 = P 12 := r_s hR (n := 12) rfl (by decide)
  have h0 := hR.w0 0 (by decide) 0
  have b0 := hD.2.2.1
  have b24 := hD.2.2.2.1
  unfold wisN
  rcases rwi_0 hR.1 H with ⟨a1, _, r1, r2⟩ | ⟨_, a1, _, r1, r2⟩ | ⟨_, _, a1, _, r1, r2⟩ | ⟨_, _, _, a1, _, r1, r2⟩ | ⟨_, _, _, _, a1, _, r1, r2⟩ | ⟨_, _, _, _, _, a1, _, r1, r2⟩ | ⟨_, _, _, _, _, _, a1, _, r1, r2⟩ | ⟨a1, a2, a3, a4, a5, a6, a7, _, _, H⟩
  · rw [e12] at a1
    exact Or.inl ⟨Or.inl a1, r1, r2 ▸ h0⟩
  · rw [g152_ok h0 hD] at a1
    exact Or.inl ⟨Or.inr (Or.inl a1), r1, r2 ▸ h0⟩
  · rw [g152_ok h0 hD] at a1
    exact Or.inl ⟨Or.inr (Or.inr (Or.inl a1)), r1, r2 ▸ h0⟩
  · exact Or.inl ⟨Or.inr (Or.inr (Or.inr (Or.inl a1))), r1, r2 ▸ h0⟩
  · rw [g140_R] at a1
    exact Or.inl ⟨Or.inr (Or.inr (Or.inr (Or.inr (Or.inl a1)))), r1, r2 ▸ h0⟩
  · rw [g140_R] at a1
    exact Or.inl ⟨Or.inr (Or.inr (Or.inr (Or.inr (Or.inr (Or.inl a1))))), r1, r2 ▸ h0⟩
  · rw [g140_R] at a1
    exact Or.inl ⟨Or.inr (Or.inr (Or.inr (Or.inr (Or.inr (Or.inr a1))))), r1, r2 ▸ h0⟩
  · rw [e12] at a1 H
    rw [g152_ok h0 hD, Classical.not_not] at a2 a3
    rw [g140_R, Classical.not_not] at a5 a6 a7
    have t24 : (24 : Int32).toInt = 24 := rfl
    have n24 : (P 12).toInt ≠ 24 := fun q => a1 (Int32.toInt_inj.mp (q.trans t24.symm))
    obtain ⟨m, em⟩ : ∃ m, m = (P 12).toInt.toNat := ⟨_, rfl⟩
    have t6 : (6 : Int32).toInt = 6 := rfl
    have t13 : (13 : Int32).toInt = 13 := rfl
    have m6 : (6 * P 12).toInt = 6 * (P 12).toInt := i32_mul (by rw [t6]; omega) (by rw [t6]; omega)
    have x0 : (13 + 6 * P 12).toInt = ((13 + 6 * m : Nat) : Int) := by rw [i32_add (by omega) (by omega), m6]; omega
    obtain ⟨kx, ekx⟩ : ∃ kx, kx = 13 + 6 * P 12 := ⟨_, rfl⟩
    rw [← ekx] at x0 H
    have x1 := i32_f kx _ x0 1 1 rfl (by omega)
    have x2 := i32_f kx _ x0 2 2 rfl (by omega)
    have x3 := i32_f kx _ x0 3 3 rfl (by omega)
    have x4 := i32_f kx _ x0 4 4 rfl (by omega)
    have x5 := i32_f kx _ x0 5 5 rfl (by omega)
    obtain ⟨_, H⟩ := rwi_88 h0.1 H
    rw [cl_n x0] at H
    have u1 := h0.up (i := 13 + 6 * m) (by omega) (x := a)
    obtain ⟨_, H⟩ := rwi_96 u1.1 H
    rw [cl_n x1] at H
    have u2 := u1.up (i := 13 + 6 * m + 1) (by omega) (x := b)
    obtain ⟨_, H⟩ := rwi_106 u2.1 H
    rw [cl_n x2] at H
    have u3 := u2.up (i := 13 + 6 * m + 2) (by omega) (x := h)
    obtain ⟨_, H⟩ := rwi_116 u3.1 H
    rw [cl_n x3] at H
    have u4 := u3.up (i := 13 + 6 * m + 3) (by omega) (x := ev)
    obtain ⟨_, H⟩ := rwi_127 u4.1 H
    rw [cl_n x4] at H
    have u5 := u4.up (i := 13 + 6 * m + 4) (by omega) (x := fi)
    obtain ⟨_, H⟩ := rwi_138 u5.1 H
    rw [cl_n x5] at H
    have u6 := u5.up (i := 13 + 6 * m + 5) (by omega) (x := 1)
    have hw6 : wiQ P m a b h ev fi = uPk (uPk (uPk (uPk (uPk (uPk P (13 + 6 * m) a) (13 + 6 * m + 1) b) (13 + 6 * m + 2) h) (13 + 6 * m + 3) ev) (13 + 6 * m + 4) fi) (13 + 6 * m + 5) 1 := rfl
    rw [← hw6] at u6
    obtain ⟨N, eN⟩ : ∃ N, N = wI (wI (wI (wI (wI (wI (wF M 633 0 0) 635 (13 + 6 * m) a) 635 (13 + 6 * m + 1) b) 635 (13 + 6 * m + 2) h) 635 (13 + 6 * m + 3) ev) 635 (13 + 6 * m + 4) fi) 635 (13 + 6 * m + 5) 1 := ⟨_, rfl⟩
    rw [← eN] at u6 H
    obtain ⟨_, _, H⟩ := rwi_148 u6.1 H
    have i12 : (12 : Int32).toNatClampNeg = 12 := rfl
    have e12u : rI N 635 12 = P 12 := (r_s u6 (n := 12) rfl (by decide)).trans (wiQ_o (by omega))
    rw [e12u, i12] at H
    have u7 := u6.up (i := 12) (by decide) (x := P 12 + 1)
    obtain ⟨_, r1, r2⟩ := rwi_159 u7.1 H
    have e12v : rI (wI N 635 12 (P 12 + 1)) 635 12 = P 12 + 1 := (r_s u7 (n := 12) rfl (by decide)).trans up_eq
    rw [e12v] at r1
    have hw : wisP P a b h ev fi = uPk (wiQ P m a b h ev fi) 12 (P 12 + 1) := by rw [em]; rfl
    refine Or.inr ⟨fun q => ?_, ?_, ?_⟩
    · rcases q with q | q | q | q | q | q | q
      · exact a1 q
      · exact q a2
      · exact q a3
      · exact a4 q
      · exact q a5
      · exact q a6
      · exact q a7
    · rw [r1]
      have : P 12 + 1 - 1 = P 12 := by grind
      rw [this]
    · rw [hw, r2]
      exact u7
theorem rrai_l (hw : wh4 P) : ∀ (n : Nat) (c : Int32) (Q : PK) (M : Mem), RST T Q M → hiS P Q → 0 ≤ c.toInt → c.toInt + (n : Int) = (clsP P : Int) → Ev none e 210 20 [some (.ref 633), some (.int x), some (.int c)] [] M v M' 0 0 → v = some (.int 1) ∧ RST T (raiP x n c Q) M' := by
  obtain ⟨_, c256, _⟩ := cls_int hw
  intro n
  induction n with
  | zero =>
    intro c Q M hR hs hc hn H
    have hg := g144_ok hR (hw.eq (hs 0 (by decide)) (hs 1 (by decide)))
    rw [cls_eq (hs 0 (by decide)) (hs 1 (by decide))] at hg
    rcases rra_20 hR.1 H with ⟨_, r1, r2⟩ | ⟨a1, _⟩ | ⟨a1, _⟩ | ⟨a1, _⟩
    · exact ⟨r1, r2 ▸ hR⟩
    all_goals exact absurd (Int32.le_iff_toInt_le.mpr (by omega)) a1
  | succ n ih =>
    intro c Q M hR hs hc hn H
    have hwQ := hw.eq (hs 0 (by decide)) (hs 1 (by decide))
    have hg := g144_ok hR hwQ
    rw [cls_eq (hs 0 (by decide)) (hs 1 (by decide))] at hg
    have hcP : inC P c := ⟨hc, by omega⟩
    have hcQ : inC Q c := (inC.hi hs).mpr hcP
    have e1 : (c + 1).toInt = c.toInt + 1 := i32_p1 (by omega)
    have k0 : G_146 M c 0 = cE Q 0 c := r_cell hR hwQ hcQ (fn := 0) rfl (by decide)
    have k4 : G_146 M c 4 = cE Q 4 c := r_cell hR hwQ hcQ (fn := 4) rfl (by decide)
    have t3 : (3 : Int32).toInt = 3 := rfl
    have t200 : (200 : Int32).toInt = 200 := rfl
    rcases rra_20 hR.1 H with ⟨a1, _⟩ | ⟨_, a2, H⟩ | ⟨_, a2, a3, H⟩ | ⟨_, a2, a3, H⟩
    · have := Int32.le_iff_toInt_le.mp a1
      omega
    · rw [k0] at a2
      have n3 : ¬ cE Q 0 c < 3 := fun q => by
        have q := Int32.lt_iff_toInt_lt.mp q
        have r := Int32.le_iff_toInt_le.mp a2
        omega
      have hr : ra1P Q x c = Q := by unfold ra1P; rw [if_neg n3]
      have hun : raiP x (n + 1) c Q = raiP x n (c + 1) Q := by
        show raiP x n (c + 1) (ra1P Q x c) = _
        rw [hr]
      rw [hun]
      exact ih (c + 1) Q M hR hs (by omega) (by omega) H
    · rw [k0] at a2
      rw [k4] at a3 H
      have n3 : ¬ (3 : Int32).toInt ≤ (cE Q 0 c).toInt := fun q => a2 (Int32.le_iff_toInt_le.mpr q)
      have h3 : cE Q 0 c < 3 := Int32.lt_iff_toInt_lt.mpr (by omega)
      have a3 := Int32.le_iff_toInt_le.mp a3
      rw [x147_ok hR hwQ hcQ (fn := 4) rfl (by decide)] at H
      have hr : ra1P Q x c = uPk Q (cX 4 c) (cE Q 4 c + x) := by
        unfold ra1P
        rw [if_pos h3]
        by_cases h2 : cE Q 4 c + x < 200
        · rw [if_pos h2]
        · have n2 : ¬ (cE Q 4 c + x).toInt < (200 : Int32).toInt := fun q => h2 (Int32.lt_iff_toInt_lt.mpr q)
          have : cE Q 4 c + x = 200 := Int32.toInt_inj.mp (by omega)
          rw [if_neg h2, this]
      have u := hR.up (cX_lt hwQ hcQ (f := 4) (by decide)) (x := cE Q 4 c + x)
      rw [← hr] at u
      exact ih (c + 1) (ra1P Q x c) _ u (fun j hj => (ra1_hi j hj).trans (hs j hj)) (by omega) (by omega) H
    · rw [k0] at a2
      rw [k4] at a3
      have n3 : ¬ (3 : Int32).toInt ≤ (cE Q 0 c).toInt := fun q => a2 (Int32.le_iff_toInt_le.mpr q)
      have h3 : cE Q 0 c < 3 := Int32.lt_iff_toInt_lt.mpr (by omega)
      have n2 : ¬ cE Q 4 c + x < 200 := fun q => a3 (Int32.le_iff_toInt_le.mpr (by have := Int32.lt_iff_toInt_lt.mp q; omega))
      rw [x147_ok hR hwQ hcQ (fn := 4) rfl (by decide)] at H
      have hr : ra1P Q x c = uPk Q (cX 4 c) 200 := by
        unfold ra1P
        rw [if_pos h3, if_neg n2]
      have u := hR.up (cX_lt hwQ hcQ (f := 4) (by decide)) (x := 200)
      rw [← hr] at u
      exact ih (c + 1) (ra1P Q x c) _ u (fun j hj => (ra1_hi j hj).trans (hs j hj)) (by omega) (by omega) H
theorem rrain_ok (hR : RST T P M) (hD : okD P) (H : Ev none e 210 0 [some (.ref 633), some (.int x), none] [] M v M' 0 0) : (¬ inX x 1 200 ∧ v = some (.int 0) ∧ RST T P M') ∨ (inX x 1 200 ∧ v = some (.int 1) ∧ RST T (raiP x (clsP P) 0 P) M') := by
  have h0 := hR.w0 0 (by decide) 0
  have z0 : (0 : Int32).toInt = 0 := rfl
  rcases rra_0 hR.1 H with ⟨a1, r1, r2⟩ | ⟨a1, H⟩
  · rw [g140_R] at a1
    exact Or.inl ⟨a1, r1, r2 ▸ h0⟩
  · rw [g140_R, Classical.not_not] at a1
    obtain ⟨r1, r2⟩ := rrai_l hD.1 (clsP P) 0 P _ h0 (fun _ _ => rfl) (by decide) (by omega) H
    exact Or.inr ⟨a1, r1, r2⟩
theorem rsno_l (hw : wh4 P) : ∀ (n : Nat) (c : Int32) (Q : PK) (M : Mem), RST T Q M → hiS P Q → 0 ≤ c.toInt → c.toInt + (n : Int) = (clsP P : Int) → Ev none e 211 7 [some (.ref 633), some (.int c)] [] M v M' 0 0 → v = none ∧ RST T (zerP 6 n c Q) M' := by
  obtain ⟨_, c256, _⟩ := cls_int hw
  intro n
  induction n with
  | zero =>
    intro c Q M hR hs hc hn H
    have hg := g144_ok hR (hw.eq (hs 0 (by decide)) (hs 1 (by decide)))
    rw [cls_eq (hs 0 (by decide)) (hs 1 (by decide))] at hg
    rcases rsn_7 hR.1 H with ⟨_, r1, r2⟩ | ⟨a1, _⟩
    · exact ⟨r1, r2 ▸ hR⟩
    · exact absurd (Int32.le_iff_toInt_le.mpr (by omega)) a1
  | succ n ih =>
    intro c Q M hR hs hc hn H
    have hwQ := hw.eq (hs 0 (by decide)) (hs 1 (by decide))
    have hg := g144_ok hR hwQ
    rw [cls_eq (hs 0 (by decide)) (hs 1 (by decide))] at hg
    have hcQ : inC Q c := (inC.hi hs).mpr ⟨hc, by omega⟩
    have e1 : (c + 1).toInt = c.toInt + 1 := i32_p1 (by omega)
    rcases rsn_7 hR.1 H with ⟨a1, _⟩ | ⟨_, H⟩
    · have := Int32.le_iff_toInt_le.mp a1
      omega
    · rw [x147_ok hR hwQ hcQ (fn := 6) rfl (by decide)] at H
      have u := hR.up (cX_lt hwQ hcQ (f := 6) (by decide)) (x := 0)
      exact ih (c + 1) _ _ u (fun j hj => (up_ne (by have := cX_ge (f := 6) (c := c); omega)).trans (hs j hj)) (by omega) (by omega) H
theorem rsnow_ok (hR : RST T P M) (hD : okD P) (H : Ev none e 211 0 [some (.ref 633), none] [] M v M' 0 0) : v = none ∧ RST T (zerP 6 (clsP P) 0 P) M' := by
  have h0 := hR.w0 0 (by decide) 0
  have z0 : (0 : Int32).toInt = 0 := rfl
  exact rsno_l hD.1 (clsP P) 0 P _ h0 (fun _ _ => rfl) (by decide) (by omega) (rsn_0 hR.1 H)
theorem x213_ok (hR : RST T P M) (hw : wh4 P) (hc : inC P c) : RST T (layP P c k) (X_213 M c k) := by
  have u1 := hR.up (cX_lt hw hc (f := 0) (by decide)) (x := k)
  have e1 : X_147 M c 0 k = wI M 635 (cX 0 c) k := x147_ok hR hw hc (fn := 0) rfl (by decide)
  have hs : hiS P (uPk P (cX 0 c) k) := fun j hj => up_ne (by have := cX_ge (f := 0) (c := c); omega)
  have hc1 : inC (uPk P (cX 0 c) k) c := (inC.hi hs).mpr hc
  have hw1 : wh4 (uPk P (cX 0 c) k) := hw.eq (hs 0 (by decide)) (hs 1 (by decide))
  have e0 : cE (uPk P (cX 0 c) k) 0 c = k := up_eq
  unfold X_213 layP
  rw [e1, g149_ok u1 hw1 hc1]
  unfold grnB
  rw [e0]
  by_cases hk : k = 0 ∨ k = 2
  · rw [if_pos hk, if_neg (fun q => by rw [bI_0] at q; rcases hk with r | r <;> simp [r] at q)]
    exact u1
  · have n0 : ¬ k = 0 := fun q => hk (Or.inl q)
    have n2 : ¬ k = 2 := fun q => hk (Or.inr q)
    rw [if_neg hk, decide_eq_false n0, decide_eq_false n2, if_pos (show bI (false || false) = 0 from rfl), x147_ok u1 hw1 hc1 (fn := 3) rfl (by decide)]
    exact u1.up (cX_lt hw1 hc1 (f := 3) (by decide))
theorem rlay_ok (hR : RST T P M) (hD : okD P) (hK : okK P) (H : Ev none e 212 0 [some (.ref 633), some (.int c), some (.int k)] [] M v M' 0 0) : (layN P c k ∧ v = some (.int 0) ∧ RST T P M') ∨ (¬ layN P c k ∧ v = some (.int 1) ∧ RST T (layP P c k) M') := by
  have hw := hD.1
  have h0 := hR.w0 0 (by decide) 0
  have hS0 := hR.1
  obtain ⟨N, eN⟩ : ∃ N, N = wF M 633 0 0 := ⟨_, rfl⟩
  rw [← eN] at h0
  have fin : ∀ M1 v1 e1, inC P c → ¬ layN P c k → Ev none e1 213 0 [some (.ref 633), some (.int c), some (.int k)] [] N v1 M1 0 0 → Ev none e 212 58 [some (.ref 633), some (.int c), some (.int k)] (v1.toList ++ []) M1 v M' 0 0 → (layN P c k ∧ v = some (.int 0) ∧ RST T P M') ∨ (¬ layN P c k ∧ v = some (.int 1) ∧ RST T (layP P c k) M') := fun M1 v1 e1 ic nl H1 H => by
    obtain ⟨rv, rm⟩ := g_213 h0.1 H1
    rw [rv, rm] at H
    have x := x213_ok (k := k) h0 hw ic
    obtain ⟨r1, r2⟩ := rla_58 x.1 H
    exact Or.inr ⟨nl, r1, r2 ▸ x⟩
  have dr : ∀ M1 v1 e1, (k = 3 ∨ k = 6) → inC P c → inX k 0 6 → Ev none e1 157 0 [some (.ref 633), some (.int c), none] [] N v1 M1 0 0 → Ev none e 212 39 [some (.ref 633), some (.int c), some (.int k)] (v1.toList ++ []) M1 v M' 0 0 → (layN P c k ∧ v = some (.int 0) ∧ RST T P M') ∨ (¬ layN P c k ∧ v = some (.int 1) ∧ RST T (layP P c k) M') := fun M1 v1 e1 hk ic ik H1 H => by
    obtain ⟨rm, rv⟩ := rda_ok h0 hD H1
    rw [rv, rm] at H
    rcases rla_39 h0.1 H with ⟨a1, e2, v2, M2, _, H2, H⟩ | ⟨a1, r1, r2⟩
    · rw [bI_0] at a1
      obtain ⟨rm2, rv2⟩ := rwa_ok h0 hK H2
      rw [rv2, rm2] at H
      rcases rla_47 h0.1 H with ⟨a2, e3, v3, M3, _, H3, H⟩ | ⟨a2, r1, r2⟩
      · rw [bI_0] at a2
        refine fin _ _ _ ic (fun q => ?_) H3 H
        rcases q with q | q | ⟨_, q | q⟩
        · exact q ic
        · exact q ik
        · rw [a1] at q; cases q
        · rw [a2] at q; cases q
      · rw [bI_0, Bool.not_eq_false] at a2
        exact Or.inl ⟨Or.inr (Or.inr ⟨hk, Or.inr a2⟩), r1, r2 ▸ h0⟩
    · rw [bI_0, Bool.not_eq_false] at a1
      exact Or.inl ⟨Or.inr (Or.inr ⟨hk, Or.inl a1⟩), r1, r2 ▸ h0⟩
  have H9 := rla_0 hS0 H
  rw [← eN] at H9
  rcases H9 with ⟨a1, r1, r2⟩ | ⟨_, a1, r1, r2⟩ | ⟨a1, a2, a3, e1, v1, M1, _, H1, H⟩ | ⟨a1, a2, _, a3, e1, v1, M1, _, H1, H⟩ | ⟨a1, a2, a3, a4, e1, v1, M1, _, H1, H⟩
  · rw [g145_ok h0 hw] at a1
    exact Or.inl ⟨Or.inl a1, r1, r2 ▸ h0⟩
  · rw [g140_R] at a1
    exact Or.inl ⟨Or.inr (Or.inl a1), r1, r2 ▸ h0⟩
  · rw [g145_ok h0 hw, Classical.not_not] at a1
    rw [g140_R, Classical.not_not] at a2
    exact dr _ _ _ (Or.inl a3) a1 a2 H1 H
  · rw [g145_ok h0 hw, Classical.not_not] at a1
    rw [g140_R, Classical.not_not] at a2
    exact dr _ _ _ (Or.inr a3) a1 a2 H1 H
  · rw [g145_ok h0 hw, Classical.not_not] at a1
    rw [g140_R, Classical.not_not] at a2
    refine fin _ _ _ a1 (fun q => ?_) H1 H
    rcases q with q | q | ⟨q | q, _⟩
    · exact q a1
    · exact q a2
    · exact a3 q
    · exact a4 q
/-- what is kept -/
def RIM (PI : Nat → PK) (M : Mem) : Prop := ∀ k, k < 3 → ¬ rN M 638 k = 0 → ∀ i, i < 2314 → rN M 636 (2314 * k + i) = PI k i
theorem rim_l {m : Nat} (m3 : m < 3) (hk : k.toInt = (m : Int)) (M0 : Mem) : ∀ (r i : Nat) (iz : Int32) (M : Mem), RST T P M → iz.toInt = (i : Int) → i + r = 2314 → (∀ j, j < i → rN M 636 (2314 * m + j) = P j) → (∀ j, ¬ (2314 * m ≤ j ∧ j < 2314 * m + 2314) → rN M 636 j = rN M0 636 j) → (∀ j, rN M 638 j = rN M0 638 j) → Ev none e 246 18 [some (.ref 633), some (.int k), some (.int iz)] [] M v M' 0 0 → v = some (.int 1) ∧ RST T P M' ∧ (∀ j, j < 2314 → rN M' 636 (2314 * m + j) = P j) ∧ (∀ j, ¬ (2314 * m ≤ j ∧ j < 2314 * m + 2314) → rN M' 636 j = rN M0 636 j) ∧ ∀ j, j ≠ m → rN M' 638 j = rN M0 638 j := by
  have t2314 : (2314 : Int32).toInt = 2314 := rfl
  intro r
  induction r with
  | zero =>
    intro i iz M hR hi hn h1 h2 h3 H
    rcases rim_18 hR.1 H with ⟨_, _, r1, r2⟩ | ⟨a1, _⟩
    · rw [cl_n hk] at r2
      have hF : FZ noF (fun a => a = 638) noO M M' := by rw [r2]; exact FZ.wI (W := fun a => a = 638) rfl
      have hS' : SQ M' := by rw [r2]; exact hR.1.ki
      have g : ∀ j, rN M' 636 j = rN M 636 j := fun j => hF.rn (by omega)
      refine ⟨r1, hR.fz hS' hF (fun _ _ _ q => q) (fun a ha q => by omega), fun j hj => (g _).trans (h1 j (by omega)), fun j hj => (g _).trans (h2 j hj), fun j hj => ?_⟩
      rw [r2, rN_wI_ne (fun q => hj q.2)]
      exact h3 j
    · exact absurd (Int32.le_iff_toInt_le.mpr (by omega)) a1
  | succ r ih =>
    intro i iz M hR hi hn h1 h2 h3 H
    rcases rim_18 hR.1 H with ⟨a1, _⟩ | ⟨_, _, _, H⟩
    · have := Int32.le_iff_toInt_le.mp a1
      omega
    · have ix := i32_kept hk hi (by omega) (by omega)
      rw [cl_n ix, r_s hR hi (by omega)] at H
      have hF : FZ noF (fun a => a = 636) noO M (wI M 636 (2314 * m + i) (P i)) := FZ.wI (W := fun a => a = 636) rfl
      have len : (zrw M 636).length = 6942 := (hR.1.1.row qa_636 qw_64).2
      refine ih (i + 1) (iz + 1) _ (hR.fz hR.1.ki hF (fun _ _ _ q => q) (fun a ha q => by omega)) (by rw [i32_p1 (by omega)]; omega) (by omega) (fun j hj => ?_) (fun j hj => ?_) (fun j => ?_) H
      · by_cases hji : j = i
        · subst hji
          exact rN_wI_eq (by omega)
        · rw [rN_wI_ne (by omega)]
          exact h1 j (by omega)
      · rw [rN_wI_ne (by omega)]
        exact h2 j hj
      · rw [rN_wI_ne (by omega)]
        exact h3 j
theorem rimage_ok (hR : RST T P M) (hI : RIM PI M) (H : Ev none e 246 0 [some (.ref 633), some (.int k), none] [] M v M' 0 0) : (¬ inX k 0 2 ∧ v = some (.int 0) ∧ RST T P M' ∧ RIM PI M') ∨ (inX k 0 2 ∧ v = some (.int 1) ∧ RST T P M' ∧ RIM (upI PI k.toInt.toNat P) M') := by
  have h0 := hR.w0 0 (by decide) 0
  rcases rim_0 hR.1 H with ⟨a1, r1, r2⟩ | ⟨a1, H⟩
  · rw [g140_R] at a1
    refine Or.inl ⟨a1, r1, r2 ▸ h0, ?_⟩
    rw [r2]
    intro k hk
    rw [rN_wF]
    intro hr i hi
    rw [rN_wF]
    exact hI k hk hr i hi
  · rw [g140_R, Classical.not_not] at a1
    obtain ⟨m, m3, hk⟩ := img_rng a1
    have em : k.toInt.toNat = m := by omega
    obtain ⟨r1, r2, r3, r4, r5⟩ := rim_l m3 hk M 2314 0 0 _ h0 rfl rfl (fun j hj => absurd hj (Nat.not_lt_zero _)) (fun j _ => rN_wF) (fun j => rN_wF) H
    refine Or.inr ⟨a1, r1, r2, fun j hj hr i hi => ?_⟩
    rw [em]
    unfold upI
    by_cases hjm : j = m
    · rw [if_pos hjm, hjm]
      exact r3 i hi
    · rw [if_neg hjm]
      rw [r5 j hjm] at hr
      rw [r4 _ (by omega)]
      exact hI j hj hr i hi
theorem rre_l {m : Nat} (m3 : m < 3) (hk : k.toInt = (m : Int)) : ∀ (r i : Nat) (iz : Int32) (P : PK) (M : Mem), RST T P M → (∀ j, j < 2314 → rN M 636 (2314 * m + j) = Q j) → iz.toInt = (i : Int) → i + r = 2314 → (∀ j, j < i → P j = Q j) → Ev none e 247 27 [some (.ref 633), some (.int k), some (.int iz)] [] M v M' 0 0 → v = some (.int 1) ∧ RST T Q M' := by
  have t2314 : (2314 : Int32).toInt = 2314 := rfl
  intro r
  induction r with
  | zero =>
    intro i iz P M hR h1 hi hn h2 H
    rcases rre_27 hR.1 H with ⟨_, r1, r2⟩ | ⟨a1, _⟩
    · exact ⟨r1, r2 ▸ hR.eq (fun j hj => (h2 j (by omega)).symm)⟩
    · exact absurd (Int32.le_iff_toInt_le.mpr (by omega)) a1
  | succ r ih =>
    intro i iz P M hR h1 hi hn h2 H
    rcases rre_27 hR.1 H with ⟨a1, _⟩ | ⟨_, _, _, H⟩
    · have := Int32.le_iff_toInt_le.mp a1
      omega
    · have ix := i32_kept hk hi (by omega) (by omega)
      rw [cl_n hi, rI_n ix, h1 i (by omega)] at H
      refine ih (i + 1) (iz + 1) _ _ (hR.up (i := i) (by omega) (x := Q i)) (fun j hj => ?_) (by rw [i32_p1 (by omega)]; omega) (by omega) (fun j hj => ?_) H
      · rw [rN_wI_ne (by omega)]
        exact h1 j hj
      · by_cases hji : j = i
        · rw [hji]; exact up_eq
        · rw [up_ne hji]; exact h2 j (by omega)
theorem rrest_ok (hR : RST T P M) (hI : RIM PI M) (H : Ev none e 247 0 [some (.ref 633), some (.int k), none] [] M v M' 0 0) : ((¬ inX k 0 2 ∨ rN M 638 k.toInt.toNat = 0) ∧ v = some (.int 0) ∧ RST T P M') ∨ (inX k 0 2 ∧ ¬ rN M 638 k.toInt.toNat = 0 ∧ v = some (.int 1) ∧ RST T (PI k.toInt.toNat) M') := by
  have h0 := hR.w0 0 (by decide) 0
  rcases rre_0 hR.1 H with ⟨a1, r1, r2⟩ | ⟨a1, a2, _, r1, r2⟩ | ⟨a1, a2, _, H⟩
  · rw [g140_R] at a1
    exact Or.inl ⟨Or.inl a1, r1, r2 ▸ h0⟩
  · rw [g140_R, Classical.not_not] at a1
    obtain ⟨m, m3, hk⟩ := img_rng a1
    have em : k.toInt.toNat = m := by omega
    rw [rI_n hk] at a2
    rw [em]
    exact Or.inl ⟨Or.inr a2, r1, r2 ▸ h0⟩
  · rw [g140_R, Classical.not_not] at a1
    obtain ⟨m, m3, hk⟩ := img_rng a1
    have em : k.toInt.toNat = m := by omega
    rw [rI_n hk] at a2
    rw [em]
    obtain ⟨r1, r2⟩ := rre_l (Q := PI m) m3 hk 2314 0 0 P _ h0 (fun j hj => by rw [rN_wF]; exact hI m m3 a2 j hj) rfl rfl (fun j hj => absurd hj (Nat.not_lt_zero _)) H
    exact Or.inr ⟨a1, a2, r1, r2⟩
theorem las_l : ∀ (r i : Nat) (iz : Int32) (M : Mem), RST T P M → iz.toInt = (i : Int) → i + r = 2314 → (∀ j, j < i → rN M 637 j = P j) → Ev none e 153 2 [some (.ref 633), some (.int iz)] [] M v M' 0 0 → v = none ∧ RST T P M' ∧ (∀ j, j < 2314 → rN M' 637 j = P j) ∧ FZ noF (fun a => a = 637) noO M M' := by
  have t2314 : (2314 : Int32).toInt = 2314 := rfl
  intro r
  induction r with
  | zero =>
    intro i iz M hR hi hn h1 H
    rcases las_2 hR.1 H with ⟨_, r1, r2⟩ | ⟨a1, _⟩
    · subst r2
      exact ⟨r1, hR, fun j hj => h1 j (by omega), FZ.refl _⟩
    · exact absurd (Int32.le_iff_toInt_le.mpr (by omega)) a1
  | succ r ih =>
    intro i iz M hR hi hn h1 H
    rcases las_2 hR.1 H with ⟨a1, _⟩ | ⟨_, _, _, H⟩
    · have := Int32.le_iff_toInt_le.mp a1
      omega
    · rw [cl_n hi, r_s hR hi (by omega)] at H
      have hF : FZ noF (fun a => a = 637) noO M (wI M 637 i (P i)) := FZ.wI (W := fun a => a = 637) rfl
      have len : (zrw M 637).length = 2314 := (hR.1.1.row qa_637 qw_65).2
      obtain ⟨r1, r2, r3, r4⟩ := ih (i + 1) (iz + 1) _ (hR.fz hR.1.ki hF (fun _ _ _ q => q) (fun a ha q => by omega)) (by rw [i32_p1 (by omega)]; omega) (by omega) (fun j hj => by
        by_cases hji : j = i
        · subst hji
          exact rN_wI_eq (by omega)
        · rw [rN_wI_ne (by omega)]
          exact h1 j (by omega)) H
      exact ⟨r1, r2, r3, hF.trans r4⟩
theorem las_ok (hR : RST T P M) (H : Ev none e 153 0 [some (.ref 633), none] [] M v M' 0 0) : v = none ∧ RST T P M' ∧ (∀ j, j < 2314 → rN M' 637 j = P j) ∧ FZ noF (fun a => a = 637) noO M M' := las_l 2314 0 0 M hR rfl rfl (fun j hj => absurd hj (Nat.not_lt_zero _)) (las_0 hR.1 H)
theorem lbk_l : ∀ (r i : Nat) (iz : Int32) (P : PK) (M : Mem), RST T P M → (∀ j, j < 2314 → rN M 637 j = Q j) → iz.toInt = (i : Int) → i + r = 2314 → (∀ j, j < i → P j = Q j) → Ev none e 154 2 [some (.ref 633), some (.int iz)] [] M v M' 0 0 → v = none ∧ RST T Q M' ∧ FZ noF (fun a => a = 635) noO M M' := by
  have t2314 : (2314 : Int32).toInt = 2314 := rfl
  intro r
  induction r with
  | zero =>
    intro i iz P M hR h1 hi hn h2 H
    rcases lbk_2 hR.1 H with ⟨_, r1, r2⟩ | ⟨a1, _⟩
    · subst r2
      exact ⟨r1, hR.eq (fun j hj => (h2 j (by omega)).symm), FZ.refl _⟩
    · exact absurd (Int32.le_iff_toInt_le.mpr (by omega)) a1
  | succ r ih =>
    intro i iz P M hR h1 hi hn h2 H
    rcases lbk_2 hR.1 H with ⟨a1, _⟩ | ⟨_, _, _, H⟩
    · have := Int32.le_iff_toInt_le.mp a1
      omega
    · rw [cl_n hi, rI_n hi, h1 i (by omega)] at H
      obtain ⟨r1, r2, r3⟩ := ih (i + 1) (iz + 1) _ _ (hR.up (i := i) (by omega) (x := Q i)) (fun j hj => by
        rw [rN_wI_ne (by omega)]
        exact h1 j hj) (by rw [i32_p1 (by omega)]; omega) (by omega) (fun j hj => by
        by_cases hji : j = i
        · rw [hji]; exact up_eq
        · rw [up_ne hji]; exact h2 j (by omega)) H
      exact ⟨r1, r2, (FZ.wI (W := fun a => a = 635) rfl).trans r3⟩
theorem lbk_ok (hR : RST T P M) (hQ : ∀ j, j < 2314 → rN M 637 j = Q j) (H : Ev none e 154 0 [some (.ref 633), none] [] M v M' 0 0) : v = none ∧ RST T Q M' ∧ FZ noF (fun a => a = 635) noO M M' := lbk_l 2314 0 0 P M hR hQ rfl rfl (fun j hj => absurd hj (Nat.not_lt_zero _)) (lbk_0 hR.1 H)
end RWIS
