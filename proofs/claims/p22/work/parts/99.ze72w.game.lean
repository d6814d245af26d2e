/-! THE GAME'S CALLS, in themselves -/
noncomputable def hdP (P : PK) (c : Int32) : Nat → Nat → Bool
  | 0, _ => false
  | n + 1, k => if P (3 + k) = c then true else hdP P c n (k + 1)
/-- a DOOR is there -/
noncomputable def hasP (P : PK) (c : Int32) : Bool := hdP P c (P 2).toInt.toNat 0
noncomputable def wkrP (P : PK) (c : Int32) : Nat → Nat → Bool
  | 0, _ => false
  | n + 1, k => if P (158 + 6 * k) = c then true else wkrP P c n (k + 1)
/-- a WALKER is there -/
noncomputable def wthP (P : PK) (c : Int32) : Bool := wkrP P c (P 157).toInt.toNat 0
def inX (x lo hi : Int32) : Prop := lo.toInt ≤ x.toInt ∧ x.toInt ≤ hi.toInt
def inD (P : PK) (d : Int32) : Prop := 0 ≤ d.toInt ∧ d.toInt < (P 2).toInt
def dorN (P : PK) (c : Int32) : Prop := P 2 = 9 ∨ ¬ inC P c ∨ opnB P c = false ∨ hasP P c = true
noncomputable def dorP (P : PK) (c : Int32) : PK := uPk (uPk P (3 + (P 2).toInt.toNat) c) 2 (P 2 + 1)
def wisN (P : PK) (a b h ev fi : Int32) : Prop := P 12 = 24 ∨ ¬ inD P a ∨ ¬ inD P b ∨ a = b ∨ ¬ inX h 0 5 ∨ ¬ inX ev 1 200 ∨ ¬ inX fi 0 60000
noncomputable def wiQ (P : PK) (k : Nat) (a b h ev fi : Int32) : PK := uPk (uPk (uPk (uPk (uPk (uPk P (13 + 6 * k) a) (13 + 6 * k + 1) b) (13 + 6 * k + 2) h) (13 + 6 * k + 3) ev) (13 + 6 * k + 4) fi) (13 + 6 * k + 5) 1
noncomputable def wisP (P : PK) (a b h ev fi : Int32) : PK := uPk (wiQ P (P 12).toInt.toNat a b h ev fi) 12 (P 12 + 1)
/-- a WISH that is -/
def isW (P : PK) (k : Int32) : Prop := (0 ≤ k.toInt ∧ k.toInt < (P 12).toInt) ∧ P (13 + 6 * k.toInt.toNat + 5) = 1
noncomputable def drpP (P : PK) (k : Int32) : PK := uPk P (13 + 6 * k.toInt.toNat + 5) 0
/-- rain on a CELL, on n CELLS -/
noncomputable def ra1P (P : PK) (x c : Int32) : PK := if cE P 0 c < 3 then uPk P (cX 4 c) (if cE P 4 c + x < 200 then cE P 4 c + x else 200) else P
noncomputable def raiP (x : Int32) : Nat → Int32 → PK → PK
  | 0, _, P => P
  | n + 1, c, P => raiP x n (c + 1) (ra1P P x c)
def layN (P : PK) (c k : Int32) : Prop := ¬ inC P c ∨ ¬ inX k 0 6 ∨ ((k = 3 ∨ k = 6) ∧ (hasP P c = true ∨ wthP P c = true))
noncomputable def layP (P : PK) (c k : Int32) : PK := if k = 0 ∨ k = 2 then uPk P (cX 0 c) k else uPk (uPk P (cX 0 c) k) (cX 3 c) 0
/-- what run answers, and how it leaves THE PARK -/
def runN (P : PK) (t : Int32) : Prop := ¬ inX t 1 400 ∨ 60000 < (P 518).toInt + t.toInt
noncomputable def runP (T : TS) (P : PK) (t : Int32) : PK := (tksP T t.toInt.toNat (P, [])).1
section GAM
variable {P P' : PK} {c c' d k x a b h ev fi : Int32} {B n i j : Nat}
theorem okD.dor (hD : okD P) (h9 : ¬ P 2 = 9) (hc : inC P c) : okD (dorP P c) ∧ (∀ j, 12 ≤ j → dorP P c j = P j) ∧ dorP P c 0 = P 0 ∧ dorP P c 1 = P 1 := by
  obtain ⟨h1, ⟨h2, h3, h4⟩, h5, h6, h7⟩ := hD
  have t9 : (9 : Int32).toInt = 9 := rfl
  have n9 : (P 2).toInt ≠ 9 := fun q => h9 (Int32.toInt_inj.mp (q.trans t9.symm))
  obtain ⟨m, em⟩ : ∃ m, m = (P 2).toInt.toNat := ⟨_, rfl⟩
  obtain ⟨Q, eQ⟩ : ∃ Q, Q = dorP P c := ⟨_, rfl⟩
  rw [← eQ]
  unfold dorP at eQ
  rw [← em] at eQ
  have q2 : Q 2 = P 2 + 1 := by rw [eQ]; exact up_eq
  have q2i : (Q 2).toInt = (P 2).toInt + 1 := by rw [q2]; exact i32_p1 (by omega)
  have qn : Q (3 + m) = c := by rw [eQ, up_ne (by omega)]; exact up_eq
  have qo : ∀ j, j ≠ 2 → j ≠ 3 + m → Q j = P j := fun j j1 j2 => by rw [eQ, up_ne j1, up_ne j2]
  have e0 := qo 0 (by decide) (by omega)
  have e1 := qo 1 (by decide) (by omega)
  have hi : ∀ j, 12 ≤ j → Q j = P j := fun j hj => qo j (by omega) (by omega)
  refine ⟨⟨h1.eq e0 e1, ⟨by omega, by omega, fun d hd => ?_⟩, by rw [hi 12 (by decide)]; exact h5, by rw [hi 12 (by decide)]; exact h6, fun k hk => ?_⟩, hi, e0, e1⟩
  · rw [inC.eq e0 e1]
    by_cases hdm : d = m
    · rw [hdm, qn]; exact hc
    · rw [qo _ (by omega) (by omega)]
      exact h4 d (by omega)
  · rw [hi 12 (by decide)] at hk
    rw [hi (13 + 6 * k) (by omega), hi (13 + 6 * k + 1) (by omega), hi (13 + 6 * k + 2) (by omega), hi (13 + 6 * k + 3) (by omega), hi (13 + 6 * k + 5) (by omega)]
    obtain ⟨u1, u2, u3, u4⟩ := h7 k hk
    exact ⟨⟨u1.1, by omega⟩, ⟨u2.1, by omega⟩, u3, u4⟩
theorem wiQ_o {k : Nat} (hj : j < 13 + 6 * k ∨ 13 + 6 * k + 6 ≤ j) : wiQ P k a b h ev fi j = P j := by
  unfold wiQ
  rw [up_ne (by omega), up_ne (by omega), up_ne (by omega), up_ne (by omega), up_ne (by omega), up_ne (by omega)]
theorem wiQ_i {k : Nat} : wiQ P k a b h ev fi (13 + 6 * k) = a ∧ wiQ P k a b h ev fi (13 + 6 * k + 1) = b ∧ wiQ P k a b h ev fi (13 + 6 * k + 2) = h ∧ wiQ P k a b h ev fi (13 + 6 * k + 3) = ev ∧ wiQ P k a b h ev fi (13 + 6 * k + 4) = fi ∧ wiQ P k a b h ev fi (13 + 6 * k + 5) = 1 := by
  unfold wiQ
  refine ⟨?_, ?_, ?_, ?_, ?_, up_eq⟩
  · rw [up_ne (by omega), up_ne (by omega), up_ne (by omega), up_ne (by omega), up_ne (by omega)]; exact up_eq
  · rw [up_ne (by omega), up_ne (by omega), up_ne (by omega), up_ne (by omega)]; exact up_eq
  · rw [up_ne (by omega), up_ne (by omega), up_ne (by omega)]; exact up_eq
  · rw [up_ne (by omega), up_ne (by omega)]; exact up_eq
  · rw [up_ne (by omega)]; exact up_eq
theorem okD.wis (hD : okD P) (h24 : ¬ P 12 = 24) (ha : inD P a) (hb : inD P b) (hh : inX h 0 5) (he : inX ev 1 200) : okD (wisP P a b h ev fi) ∧ (∀ j, 157 ≤ j → wisP P a b h ev fi j = P j) ∧ wisP P a b h ev fi 12 = P 12 + 1 ∧ (∀ j, j < 12 → wisP P a b h ev fi j = P j) := by
  obtain ⟨h1, ⟨h2, h3, h4⟩, h5, h6, h7⟩ := hD
  have t24 : (24 : Int32).toInt = 24 := rfl
  have n24 : (P 12).toInt ≠ 24 := fun q => h24 (Int32.toInt_inj.mp (q.trans t24.symm))
  obtain ⟨m, em⟩ : ∃ m, m = (P 12).toInt.toNat := ⟨_, rfl⟩
  obtain ⟨Q, eQ⟩ : ∃ Q, Q = wisP P a b h ev fi := ⟨_, rfl⟩
  rw [← eQ]
  unfold wisP at eQ
  rw [← em] at eQ
  have q12 : Q 12 = P 12 + 1 := by rw [eQ]; exact up_eq
  have q12i : (Q 12).toInt = (P 12).toInt + 1 := by rw [q12]; exact i32_p1 (by omega)
  have qo : ∀ j, j ≠ 12 → (j < 13 + 6 * m ∨ 13 + 6 * m + 6 ≤ j) → Q j = P j := fun j j1 j2 => by rw [eQ, up_ne j1]; exact wiQ_o j2
  have qi : ∀ j, j ≠ 12 → Q j = wiQ P m a b h ev fi j := fun j j1 => by rw [eQ, up_ne j1]
  obtain ⟨i0, i1, i2, i3, i4, i5⟩ := wiQ_i (P := P) (k := m) (a := a) (b := b) (h := h) (ev := ev) (fi := fi)
  have lo : ∀ j, j < 12 → Q j = P j := fun j hj => qo j (by omega) (by omega)
  have e0 := lo 0 (by decide)
  have e1 := lo 1 (by decide)
  have t0 : (0 : Int32).toInt = 0 := rfl
  have t5 : (5 : Int32).toInt = 5 := rfl
  have t1 : (1 : Int32).toInt = 1 := rfl
  unfold inX at hh he
  refine ⟨⟨h1.eq e0 e1, ⟨by rw [lo 2 (by decide)]; exact h2, by rw [lo 2 (by decide)]; exact h3, fun d hd => ?_⟩, by omega, by omega, fun k hk => ?_⟩, fun j hj => qo j (by omega) (by omega), q12, lo⟩
  · rw [lo 2 (by decide)] at hd
    rw [inC.eq e0 e1, lo _ (by omega)]
    exact h4 d hd
  · rw [lo 2 (by decide)]
    by_cases hkm : k = m
    · rw [hkm, qi _ (by omega), qi _ (by omega), qi _ (by omega), qi _ (by omega), qi _ (by omega), i0, i1, i2, i3, i5]
      exact ⟨ha, hb, ⟨by omega, by omega⟩, by omega, Or.inr rfl⟩
    · rw [qo _ (by omega) (by omega), qo _ (by omega) (by omega), qo _ (by omega) (by omega), qo _ (by omega) (by omega), qo _ (by omega) (by omega)]
      exact h7 k (by omega)
theorem okK.wis (hK : okK P) (h0 : P' 0 = P 0) (h1 : P' 1 = P 1) (h12 : (P 12).toInt ≤ (P' 12).toInt) (hs : ∀ j, 157 ≤ j → P' j = P j) : okK P' := by
  obtain ⟨a1, a2, a3⟩ := hK
  refine ⟨by rw [hs 157 (by decide)]; exact a1, by rw [hs 157 (by decide)]; exact a2, fun k hk => ?_⟩
  rw [hs 157 (by decide)] at hk
  obtain ⟨b1, b2, b3, b4⟩ := a3 k hk
  rw [inC.eq h0 h1, hs (158 + 6 * k) (by omega), hs (158 + 6 * k + 1) (by omega), hs (158 + 6 * k + 3) (by omega)]
  exact ⟨b1, b2, by omega, b4⟩
theorem okD.drp (hD : okD P) (hk : 0 ≤ k.toInt ∧ k.toInt < (P 12).toInt) : okD (drpP P k) ∧ ∀ j, j ≠ 13 + 6 * k.toInt.toNat + 5 → drpP P k j = P j := by
  obtain ⟨h1, ⟨h2, h3, h4⟩, h5, h6, h7⟩ := hD
  have qo : ∀ j, j ≠ 13 + 6 * k.toInt.toNat + 5 → drpP P k j = P j := fun j hj => up_ne hj
  have e0 := qo 0 (by omega)
  have e1 := qo 1 (by omega)
  refine ⟨⟨h1.eq e0 e1, ⟨by rw [qo 2 (by omega)]; exact h2, by rw [qo 2 (by omega)]; exact h3, fun d hd => ?_⟩, by rw [qo 12 (by omega)]; exact h5, by rw [qo 12 (by omega)]; exact h6, fun i hi => ?_⟩, qo⟩
  · rw [qo 2 (by omega)] at hd
    rw [inC.eq e0 e1, qo _ (by omega)]
    exact h4 d hd
  · rw [qo 12 (by omega)] at hi
    rw [qo 2 (by omega), qo _ (by omega), qo _ (by omega), qo _ (by omega), qo _ (by omega)]
    obtain ⟨u1, u2, u3, u4, u5⟩ := h7 i hi
    refine ⟨u1, u2, u3, u4, ?_⟩
    by_cases hik : i = k.toInt.toNat
    · rw [hik]
      exact Or.inl up_eq
    · rw [qo _ (by omega)]
      exact u5
/-- nothing below the cells changes -/
def hiS (P P' : PK) : Prop := ∀ j, j < 522 → P' j = P j
theorem hiS.D (hs : hiS P P') (h : okD P) : okD P' := h.sb (fun j hj => hs j (by omega))
theorem hiS.K (hs : hiS P P') (h : okK P) : okK P' := by
  obtain ⟨a1, a2, a3⟩ := h
  have e := hs 157 (by decide)
  refine ⟨by rw [e]; exact a1, by rw [e]; exact a2, fun k hk => ?_⟩
  rw [e] at hk
  rw [inC.eq (hs 0 (by decide)) (hs 1 (by decide)), hs (158 + 6 * k) (by omega), hs (158 + 6 * k + 1) (by omega), hs (158 + 6 * k + 3) (by omega), hs 12 (by decide)]
  exact a3 k hk
theorem ra1_hi : hiS P (ra1P P x c) := fun j hj => by
  unfold ra1P
  split
  · exact up_ne (by have := cX_ge (f := 4) (c := c); omega)
  · rfl
theorem okE.ra1 (hE : okE B P) (hc : inC P c) (hx : inX x 1 200) : okE B (ra1P P x c) := fun c' hc' => by
  unfold ra1P at hc' ⊢
  split
  · rename_i h3
    rw [if_pos h3] at hc'
    have hc2 : inC P c' := hc'
    have e : ∀ f, f < 7 → cE (uPk P (cX 4 c) (if cE P 4 c + x < 200 then cE P 4 c + x else 200)) f c' = if f = 4 ∧ c' = c then (if cE P 4 c + x < 200 then cE P 4 c + x else 200) else cE P f c' := fun f hf => cE_up (by decide) hf hc.1 hc2.1
    obtain ⟨a1, a2, a3, a4, a5, a6⟩ := hE c' hc2
    have nf : ∀ f g : Nat, f ≠ g → ¬ (f = g ∧ c' = c) := fun f g hfg q => hfg q.1
    unfold okC1
    rw [e 0 (by decide), e 2 (by decide), e 3 (by decide), e 4 (by decide), e 5 (by decide), e 6 (by decide), if_neg (nf 0 4 (by decide)), if_neg (nf 2 4 (by decide)), if_neg (nf 3 4 (by decide)), if_neg (nf 5 4 (by decide)), if_neg (nf 6 4 (by decide))]
    refine ⟨a1, a2, a3, ?_, a5, a6⟩
    have t200 : (200 : Int32).toInt = 200 := rfl
    have t1 : (1 : Int32).toInt = 1 := rfl
    unfold inX at hx
    split
    · rename_i hq
      rw [hq.2] at a4
      have ea : (cE P 4 c + x).toInt = (cE P 4 c).toInt + x.toInt := i32_add (by omega) (by omega)
      split
      · rename_i hl
        have := Int32.lt_iff_toInt_lt.mp hl
        omega
      · omega
    · exact a4
  · rename_i h3
    rw [if_neg h3] at hc'
    exact hE c' hc'
theorem inC.hi (hs : hiS P P') : inC P' c ↔ inC P c := inC.eq (hs 0 (by decide)) (hs 1 (by decide))
theorem lay_hi : hiS P (layP P c k) := fun j hj => by
  have c0 := cX_ge (f := 0) (c := c)
  have c3 := cX_ge (f := 3) (c := c)
  unfold layP
  split
  · exact up_ne (by omega)
  · rw [up_ne (by omega)]
    exact up_ne (by omega)
theorem okE.lay (hE : okE B P) (hc : inC P c) (hk : inX k 0 6) : okE B (layP P c k) := fun c' hc' => by
  have hc2 : inC P c' := (inC.hi lay_hi).mp hc'
  obtain ⟨a1, a2, a3, a4, a5, a6⟩ := hE c' hc2
  have e : ∀ f, f < 7 → cE (uPk P (cX 0 c) k) f c' = if f = 0 ∧ c' = c then k else cE P f c' := fun f hf => cE_up (by decide) hf hc.1 hc2.1
  have e3 : ∀ f, f < 7 → cE (uPk (uPk P (cX 0 c) k) (cX 3 c) 0) f c' = if f = 3 ∧ c' = c then 0 else cE (uPk P (cX 0 c) k) f c' := fun f hf => cE_up (by decide) hf hc.1 hc2.1
  have t0 : (0 : Int32).toInt = 0 := rfl
  have t6 : (6 : Int32).toInt = 6 := rfl
  unfold inX at hk
  have k0 : 0 ≤ (if 0 = 0 ∧ c' = c then k else cE P 0 c').toInt ∧ (if 0 = 0 ∧ c' = c then k else cE P 0 c').toInt ≤ 6 := by
    split
    · omega
    · exact a1
  have nf : ∀ f g : Nat, f ≠ g → ¬ (f = g ∧ c' = c) := fun f g hfg q => hfg q.1
  unfold layP okC1
  split
  · rw [e 0 (by decide), e 2 (by decide), e 3 (by decide), e 4 (by decide), e 5 (by decide), e 6 (by decide), if_neg (nf 2 0 (by decide)), if_neg (nf 3 0 (by decide)), if_neg (nf 4 0 (by decide)), if_neg (nf 5 0 (by decide)), if_neg (nf 6 0 (by decide))]
    exact ⟨k0, a2, a3, a4, a5, a6⟩
  · rw [e3 0 (by decide), e3 2 (by decide), e3 3 (by decide), e3 4 (by decide), e3 5 (by decide), e3 6 (by decide), e 0 (by decide), e 2 (by decide), e 3 (by decide), e 4 (by decide), e 5 (by decide), e 6 (by decide), if_neg (nf 2 0 (by decide)), if_neg (nf 3 0 (by decide)), if_neg (nf 4 0 (by decide)), if_neg (nf 5 0 (by decide)), if_neg (nf 6 0 (by decide)), if_neg (nf 0 3 (by decide)), if_neg (nf 2 3 (by decide)), if_neg (nf 4 3 (by decide)), if_neg (nf 5 3 (by decide)), if_neg (nf 6 3 (by decide))]
    refine ⟨k0, a2, ?_, a4, a5, a6⟩
    split
    · rw [t0]; omega
    · exact a3
theorem wkr_iff : ∀ n k, wkrP P c n k = true ↔ ∃ t, k ≤ t ∧ t < k + n ∧ P (158 + 6 * t) = c := by
  intro n
  induction n with
  | zero =>
    intro k
    exact ⟨fun q => (by cases q), fun ⟨t, h1, h2, _⟩ => (by omega)⟩
  | succ n ih =>
    intro k
    unfold wkrP
    by_cases hk : P (158 + 6 * k) = c
    · rw [if_pos hk]
      exact ⟨fun _ => ⟨k, Nat.le_refl _, by omega, hk⟩, fun _ => rfl⟩
    · rw [if_neg hk, ih]
      constructor
      · rintro ⟨t, h1, h2, h3⟩
        exact ⟨t, by omega, by omega, h3⟩
      · rintro ⟨t, h1, h2, h3⟩
        by_cases htk : t = k
        · rw [htk] at h3
          exact absurd h3 hk
        · exact ⟨t, by omega, by omega, h3⟩
/-- the crowd knows whether a WALKER is there -/
theorem wth_crd (h60 : (P 157).toInt ≤ 60) : 0 < crdP P c (P 157).toInt.toNat ↔ wthP P c = true := by
  unfold wthP
  rw [crd_pos _ (by omega), wkr_iff]
  constructor
  · rintro ⟨t, h1, h2⟩
    exact ⟨t, Nat.zero_le _, by omega, h2⟩
  · rintro ⟨t, _, h1, h2⟩
    exact ⟨t, by omega, h2⟩
end GAM
