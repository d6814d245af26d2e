/-! GOOD GROUND: what is not green has no wear, DOORS are on cells that can be stepped on: kept by whatever happens -/
/-- kinds and DOORS as they were; wear as it was, but on green cells, or 0 -/
def kpN (P Q : PK) : Prop := (∀ j, j < 12 → Q j = P j) ∧ ∀ k : Nat, Q (522 + 7 * k) = P (522 + 7 * k) ∧ (Q (522 + 7 * k + 3) = P (522 + 7 * k + 3) ∨ P (522 + 7 * k) = 0 ∨ P (522 + 7 * k) = 2 ∨ Q (522 + 7 * k + 3) = 0)
section OKG
variable {T : TS} {g : TQ} {P Q R : PK} {c d x a b h ev fi k : Int32} {i j n m B : Nat} {ss : List Int32} {o : Nat → Int32}
theorem kpN.refl : kpN P P := ⟨fun _ _ => rfl, fun _ => ⟨rfl, Or.inl rfl⟩⟩
theorem kpN.trans (h1 : kpN P Q) (h2 : kpN Q R) : kpN P R := ⟨fun j hj => (h2.1 j hj).trans (h1.1 j hj), fun k => by
  obtain ⟨a1, a2⟩ := h1.2 k
  obtain ⟨b1, b2⟩ := h2.2 k
  refine ⟨b1.trans a1, ?_⟩
  rcases b2 with b2 | b2 | b2 | b2
  · rcases a2 with a2 | a2 | a2 | a2
    · exact Or.inl (b2.trans a2)
    · exact Or.inr (Or.inl a2)
    · exact Or.inr (Or.inr (Or.inl a2))
    · exact Or.inr (Or.inr (Or.inr (b2.trans a2)))
  · exact Or.inr (Or.inl (a1 ▸ b2))
  · exact Or.inr (Or.inr (Or.inl (a1 ▸ b2)))
  · exact Or.inr (Or.inr (Or.inr b2))⟩
theorem kpN.up (h : 12 ≤ i) (hk : ∀ k, i ≠ 522 + 7 * k ∧ i ≠ 522 + 7 * k + 3) : kpN P (uPk P i x) := ⟨fun j hj => up_ne (by omega), fun k => ⟨up_ne (fun q => (hk k).1 q.symm), Or.inl (up_ne (fun q => (hk k).2 q.symm))⟩⟩
theorem kpN.lo (h1 : ∀ j, j < 12 → Q j = P j) (h2 : ∀ j, 522 ≤ j → Q j = P j) : kpN P Q := ⟨h1, fun k => ⟨h2 _ (by omega), Or.inl (h2 _ (by omega))⟩⟩
theorem okG.kp (hO : okG P) (n9 : (P 2).toInt ≤ 9) (h : kpN P Q) : okG Q := by
  obtain ⟨h1, h2⟩ := h
  have e0 := h1 0 (by decide)
  have e1 := h1 1 (by decide)
  have e2 := h1 2 (by decide)
  have ek : ∀ c, cE Q 0 c = cE P 0 c := fun c => (h2 c.toInt.toNat).1
  refine ⟨fun c hc hg => ?_, fun d hd => ?_⟩
  · have hc2 : inC P c := (inC.eq e0 e1).mp hc
    have hg2 : grnB P c = false := by
      unfold grnB at hg ⊢
      rw [ek] at hg
      exact hg
    obtain ⟨b1, b2⟩ := Bool.or_eq_false_iff.mp hg2
    rcases (h2 c.toInt.toNat).2 with q | q | q | q
    · exact Eq.trans (show cE Q 3 c = cE P 3 c from q) (hO.1 c hc2 hg2)
    · exact absurd (show cE P 0 c = 0 from q) (of_decide_eq_false b1)
    · exact absurd (show cE P 0 c = 2 from q) (of_decide_eq_false b2)
    · exact q
  · rw [e2] at hd
    rw [h1 (3 + d) (by omega)]
    have h3 := hO.2 d hd
    unfold opnB at h3 ⊢
    rw [ek]
    exact h3
/-- as it was, where it matters -/
theorem okG.eq (hO : okG P) (hD : okD P) (e : ∀ i, i < 2314 → Q i = P i) : okG Q := by
  have e0 := e 0 (by decide)
  have e1 := e 1 (by decide)
  have e2 := e 2 (by decide)
  have n9 := hD.2.1.2.1
  have ec : ∀ c, inC P c → ∀ f, f < 7 → cE Q f c = cE P f c := fun c hc f hf => e _ (by
    obtain ⟨_, c256, _⟩ := cls_int hD.1
    have := hc.2
    unfold cX
    omega)
  refine ⟨fun c hc hg => ?_, fun d hd => ?_⟩
  · have hc2 : inC P c := (inC.eq e0 e1).mp hc
    rw [ec c hc2 3 (by decide)]
    refine hO.1 c hc2 ?_
    unfold grnB at hg ⊢
    rw [ec c hc2 0 (by decide)] at hg
    exact hg
  · rw [e2] at hd
    rw [e (3 + d) (by omega)]
    have h3 := hO.2 d hd
    unfold opnB at h3 ⊢
    rw [ec _ (hD.2.1.2.2 d hd) 0 (by decide)]
    exact h3
theorem cX_ne5 (hf : i = 4 ∨ i = 5 ∨ i = 6) : ∀ k, cX i c ≠ 522 + 7 * k ∧ cX i c ≠ 522 + 7 * k + 3 := fun k => by
  unfold cX
  omega
/-! a step, a TICK, a WEEK -/
theorem wea_kp : kpN P (weaP g P c) := by
  unfold weaP
  split
  · rename_i hg
    have hk : P (522 + 7 * c.toInt.toNat) = 0 ∨ P (522 + 7 * c.toInt.toNat) = 2 := by
      rcases Bool.or_eq_true_iff.mp (show (decide (cE P 0 c = 0) || decide (cE P 0 c = 2)) = true from hg) with q | q
      · exact Or.inl (of_decide_eq_true q)
      · exact Or.inr (of_decide_eq_true q)
    refine ⟨fun j hj => up_ne (by unfold cX; omega), fun k => ⟨up_ne (by unfold cX; omega), ?_⟩⟩
    by_cases q : k = c.toInt.toNat
    · rw [q]
      rcases hk with z | z
      · exact Or.inr (Or.inl z)
      · exact Or.inr (Or.inr (Or.inl z))
    · exact Or.inl (up_ne (by unfold cX; omega))
  · exact kpN.refl
theorem trd_kp : kpN P (trdP g P c) := by
  unfold trdP
  exact (wea_kp.trans (kpN.up (by unfold cX; omega) (cX_ne5 (Or.inr (Or.inl rfl))))).trans (kpN.up (by unfold cX; omega) (cX_ne5 (Or.inr (Or.inr rfl))))
theorem stp_kp (hK : okK P) (hk : n < (P 157).toInt.toNat) : kpN P (stpP T (P, ss) n).1 := by
  have h60 := hK.2.1
  have ha : kpN P (ageP P n) := kpN.up (by omega) (fun k => by omega)
  unfold stpP
  split
  · exact ha
  · exact (ha.trans (kpN.lo (fun j hj => mov_o j (by omega) (by omega) (by omega)) (fun j hj => mov_o j (by omega) (by omega) (by omega)))).trans trd_kp
theorem goe_kp (hK : okK P) (hk : n < (P 157).toInt.toNat) : kpN P (goeP T (P, ss) n).1.1 := by
  have h := stp_kp (T := T) (ss := ss) hK hk
  unfold goeP
  split
  · exact h.trans (kpN.up (by decide) (fun k => by omega))
  · split
    · exact h
    · exact h.trans (kpN.up (by decide) (fun k => by omega))
theorem wlk_kp : ∀ (r k : Nat) (P : PK) (ss : List Int32), okD P → okK P → (k : Int) + (r : Int) = (P 157).toInt → kpN P (wlkP T r k (P, ss)).1 := by
  intro r
  induction r with
  | zero => intro k P ss _ _ _; exact kpN.refl
  | succ r ih =>
    intro k P ss hD hK hn
    have h60 := hK.2.1
    have hkn : k < (P 157).toInt.toNat := by omega
    obtain ⟨R, eR⟩ : ∃ R, R = goeP T (P, ss) k := ⟨_, rfl⟩
    have hlo : ∀ j, (j < 158 ∨ j = 518 ∨ j = 521) → R.1.1 j = P j := by rw [eR]; exact goe_lo hK hkn
    have hK2 : okK R.1.1 := by rw [eR]; exact goe_K hD hK hkn
    have hkp : kpN P R.1.1 := by rw [eR]; exact goe_kp hK hkn
    have hD2 : okD R.1.1 := hD.sb (fun j hj => hlo j (by omega))
    have h157' : R.1.1 157 = P 157 := hlo 157 (by omega)
    have hw : wlkP T (r + 1) k (P, ss) = (if R.2 = true then wlkP T r (k + 1) R.1 else wlkP T r k (leaP R.1.1 k, R.1.2)) := by rw [eR]; rfl
    rw [hw]
    by_cases hb : R.2 = true
    · rw [if_pos hb]
      exact hkp.trans (ih (k + 1) R.1.1 R.1.2 hD2 hK2 (by rw [h157']; omega))
    · rw [if_neg hb]
      have q : ∀ j, (j < 157 ∨ 518 ≤ j) → leaP R.1.1 k j = R.1.1 j := fun j hj => lea_hi hK2.1 hK2.2.1 hj
      have hl157 : leaP R.1.1 k 157 = R.1.1 157 - 1 := by unfold leaP; rw [if_pos rfl]
      have hm : (R.1.1 157 - 1).toInt = (R.1.1 157).toInt - 1 := i32_m1 (by rw [h157']; omega)
      exact (hkp.trans (kpN.lo (fun j hj => q j (by omega)) (fun j hj => q j (by omega)))).trans (ih k (leaP R.1.1 k) R.1.2 (hD2.sb (fun j hj => q j (Or.inl hj))) (hK2.lea (by rw [h157']; exact hkn)) (by rw [hl157, hm, h157']; omega))
theorem tck_kp {p : PS} (hD : okD p.1) (hK : okK p.1) : kpN p.1 (tckP T p).1 := by
  obtain ⟨P, ss⟩ := p
  have hD : okD P := hD
  have hK : okK P := hK
  have h12 := hD.2.2.1
  have bk := beg_keep (P 12).toInt.toNat 0 P hK.1 hK.2.1
  have hK1 : okK (bg0P P) := beg_K (P 12).toInt.toNat 0 P hD hK (by omega)
  have hD1 : okD (bg0P P) := hD.sb (fun j hj => bk j (Or.inl hj))
  have k1 : kpN P (bg0P P) := kpN.lo (fun j hj => bk j (by omega)) (fun j hj => bk j (by omega))
  have k2 := wlk_kp (T := T) (bg0P P 157).toInt.toNat 0 (bg0P P) ss hD1 hK1 (by have := hK1.1; omega)
  unfold tckP
  dsimp only
  exact (k1.trans k2).trans (kpN.up (by decide) (fun k => by omega))
theorem tks_kp : ∀ (r : Nat) (p : PS), okD p.1 → okK p.1 → kpN p.1 (tksP T r p).1 := by
  intro r
  induction r with
  | zero => intro p _ _; exact kpN.refl
  | succ r ih =>
    intro p hD hK
    obtain ⟨d1, k1⟩ := tck_keep (T := T) hD hK
    exact (tck_kp hD hK).trans (ih (tckP T p) d1 k1)
theorem max0_0 (h : 0 ≤ x.toInt) : max0 (0 - x) = 0 := by
  have t0 : (0 : Int32).toInt = 0 := rfl
  have e : (0 - x).toInt = -x.toInt := by
    have := i32_any x
    rw [i32_sub (by omega) (by omega)]
    omega
  unfold max0
  by_cases q : 0 - x < 0
  · rw [if_pos q]
  · rw [if_neg q]
    rw [Int32.lt_iff_toInt_lt] at q
    exact Int32.toInt_inj.mp (by omega)
theorem wk1_kp (hg : LW g) (hO : okG P) (hc : inC P c) : kpN P (wk1P g P c) := by
  have fr := fst_rng (g := g) (P := P) (k := 1) (c := c) (d := 10) (by decide) g.2 (fun l hl => (hg l hl).1)
  have h1 : kpN P (uPk P (cX 3 c) (max0 (cE P 3 c - fstL g P 1 c 10 g.2))) := by
    refine ⟨fun j hj => up_ne (by unfold cX; omega), fun k => ⟨up_ne (by unfold cX; omega), ?_⟩⟩
    by_cases q : k = c.toInt.toNat
    · rw [q]
      by_cases z : grnB P c = true
      · rcases Bool.or_eq_true_iff.mp (show (decide (cE P 0 c = 0) || decide (cE P 0 c = 2)) = true from z) with y | y
        · exact Or.inr (Or.inl (of_decide_eq_true y))
        · exact Or.inr (Or.inr (Or.inl (of_decide_eq_true y)))
      · refine Or.inr (Or.inr (Or.inr (Eq.trans up_eq ?_)))
        rw [hO.1 c hc (Bool.eq_false_iff.mpr z)]
        exact max0_0 fr.1
    · exact Or.inl (up_ne (by unfold cX; omega))
  unfold wk1P
  exact h1.trans (kpN.up (by unfold cX; omega) (cX_ne5 (Or.inl rfl)))
theorem wka_kp (hg : LW g) : ∀ (r : Nat) (cn : Nat) (P : PK), cn + r = clsP P → wh4 P → (P 2).toInt ≤ 9 → okG P → kpN P (wkaP g r (nI cn) P) := by
  intro r
  induction r with
  | zero => intro cn P _ _ _ _; exact kpN.refl
  | succ r ih =>
    intro cn P hr hw n9 hO
    obtain ⟨_, c256, _⟩ := cls_int hw
    obtain ⟨ic, tc, c2⟩ := nIin hw (show cn < clsP P by omega)
    have k1 := wk1_kp hg hO ic
    have e0 := k1.1 0 (by decide)
    have e1 := k1.1 1 (by decide)
    unfold wkaP
    rw [nI_p1 (by omega)]
    exact k1.trans (ih (cn + 1) _ (by rw [cls_eq e0 e1]; omega) (hw.eq e0 e1) (by rw [k1.1 2 (by decide)]; exact n9) (hO.kp n9 k1))
theorem zer_kp (hf : i = 5 ∨ i = 6) : ∀ (r : Nat) (c : Int32) (P : PK), kpN P (zerP i r c P) := by
  intro r
  induction r with
  | zero => intro c P; exact kpN.refl
  | succ r ih =>
    intro c P
    unfold zerP
    exact (kpN.up (by unfold cX; omega) (cX_ne5 (Or.inr hf))).trans (ih _ _)
theorem wek_kp (hg : LW g) (hw : wh4 P) (n9 : (P 2).toInt ≤ 9) (hO : okG P) : kpN P (wekP g P) := by
  unfold wekP
  exact (wka_kp hg (clsP P) 0 P (by omega) hw n9 hO).trans (zer_kp (Or.inl rfl) _ _ _)
theorem rai_kp : ∀ (r : Nat) (c : Int32) (P : PK), kpN P (raiP x r c P) := by
  intro r
  induction r with
  | zero => intro c P; exact kpN.refl
  | succ r ih =>
    intro c P
    have h : kpN P (ra1P P x c) := by
      unfold ra1P
      split
      · exact kpN.up (by unfold cX; omega) (cX_ne5 (Or.inl rfl))
      · exact kpN.refl
    unfold raiP
    exact h.trans (ih _ _)
/-! the calls -/
theorem hdP_of : ∀ (r k : Nat), (∃ t, k ≤ t ∧ t < k + r ∧ P (3 + t) = c) → hdP P c r k = true := by
  intro r
  induction r with
  | zero => intro k ⟨t, h1, h2, _⟩; omega
  | succ r ih =>
    intro k ⟨t, h1, h2, h3⟩
    unfold hdP
    by_cases q : P (3 + k) = c
    · rw [if_pos q]
    · rw [if_neg q]
      exact ih (k + 1) ⟨t, by
        by_cases z : t = k
        · rw [z] at h3
          exact absurd h3 q
        · omega, by omega, h3⟩
theorem okG.dor (hO : okG P) (hD : okD P) (h : ¬ dorN P c) : okG (dorP P c) := by
  have h1 : ¬ P 2 = 9 := fun q => h (Or.inl q)
  have h2 : inC P c := Classical.byContradiction (fun q => h (Or.inr (Or.inl q)))
  have h3 : opnB P c = true := by
    by_cases q : opnB P c = true
    · exact q
    · exact absurd (Or.inr (Or.inr (Or.inl (Bool.eq_false_iff.mpr q)))) h
  obtain ⟨d1, d2, d3, d4⟩ := hD.dor h1 h2
  have ek : ∀ z f, cE (dorP P c) f z = cE P f z := fun z f => d2 _ (by unfold cX; omega)
  have eo : ∀ z, opnB (dorP P c) z = opnB P z := fun z => by
    unfold opnB
    rw [ek]
  have n9 := hD.2.1.2.1
  have n0 := hD.2.1.1
  refine ⟨fun z hz hg => ?_, fun d hd => ?_⟩
  · rw [ek]
    refine hO.1 z ((inC.eq d3 d4).mp hz) ?_
    unfold grnB at hg ⊢
    rw [ek] at hg
    exact hg
  · rw [eo]
    have q2 : dorP P c 2 = P 2 + 1 := up_eq
    rw [q2, i32_p1 (by omega)] at hd
    by_cases q : d = (P 2).toInt.toNat
    · rw [show dorP P c (3 + d) = c from by
        rw [q]
        unfold dorP
        rw [up_ne (by omega), up_eq]]
      exact h3
    · rw [show dorP P c (3 + d) = P (3 + d) from by
        unfold dorP
        rw [up_ne (by omega), up_ne (by omega)]]
      exact hO.2 d (by omega)
theorem wis_kp (hD : okD P) : kpN P (wisP P a b h ev fi) := by
  have n24 := hD.2.2.2.1
  have e : ∀ j, (j < 12 ∨ 522 ≤ j) → wisP P a b h ev fi j = P j := fun j hj => by
    unfold wisP
    rw [up_ne (by omega), wiQ_o (by omega)]
  exact kpN.lo (fun j hj => e j (Or.inl hj)) (fun j hj => e j (Or.inr hj))
theorem drp_kp (hD : okD P) (hk : isW P k) : kpN P (drpP P k) := by
  have n24 := hD.2.2.2.1
  have h1 := hk.1
  exact kpN.up (by omega) (fun k => by omega)
theorem okG.lay (hO : okG P) (hD : okD P) (h : ¬ layN P c k) : okG (layP P c k) := by
  have h2 : inC P c := Classical.byContradiction (fun q => h (Or.inl q))
  have h3 : ¬ ((k = 3 ∨ k = 6) ∧ (hasP P c = true ∨ wthP P c = true)) := fun q => h (Or.inr (Or.inr q))
  have e : ∀ f z, f < 7 → 0 ≤ z.toInt → cE (uPk P (cX 0 c) k) f z = if f = 0 ∧ z = c then k else cE P f z := fun f z hf hz => cE_up (by decide) hf h2.1 hz
  have e3 : ∀ f z, f < 7 → 0 ≤ z.toInt → cE (uPk (uPk P (cX 0 c) k) (cX 3 c) 0) f z = if f = 3 ∧ z = c then 0 else cE (uPk P (cX 0 c) k) f z := fun f z hf hz => cE_up (by decide) hf h2.1 hz
  have lo : ∀ j, j < 522 → layP P c k j = P j := fun j hj => by
    have hx : ∀ f, j ≠ cX f c := fun f => by
      unfold cX
      omega
    unfold layP
    split
    · exact up_ne (hx 0)
    · rw [up_ne (hx 3), up_ne (hx 0)]
  have ek : ∀ z, 0 ≤ z.toInt → cE (layP P c k) 0 z = if z = c then k else cE P 0 z := fun z hz => by
    unfold layP
    by_cases q : z = c
    · rw [if_pos q]
      split
      · rw [e 0 z (by decide) hz, if_pos ⟨rfl, q⟩]
      · rw [e3 0 z (by decide) hz, if_neg (fun y => absurd y.1 (by decide)), e 0 z (by decide) hz, if_pos ⟨rfl, q⟩]
    · rw [if_neg q]
      split
      · rw [e 0 z (by decide) hz, if_neg (fun y => q y.2)]
      · rw [e3 0 z (by decide) hz, if_neg (fun y => q y.2), e 0 z (by decide) hz, if_neg (fun y => q y.2)]
  have inE : ∀ z, inC (layP P c k) z ↔ inC P z := fun z => inC.eq (lo 0 (by decide)) (lo 1 (by decide))
  refine ⟨fun z hz hg => ?_, fun d hd => ?_⟩
  · have hz2 := (inE z).mp hz
    have hk2 := ek z hz2.1
    unfold grnB at hg
    rw [hk2] at hg
    by_cases q : z = c
    · rw [if_pos q] at hg
      obtain ⟨b1, b2⟩ := Bool.or_eq_false_iff.mp hg
      unfold layP
      rw [if_neg (fun y => by
        rcases y with y | y
        · exact of_decide_eq_false b1 y
        · exact of_decide_eq_false b2 y), e3 3 z (by decide) hz2.1, if_pos ⟨rfl, q⟩]
    · rw [if_neg q] at hg
      have h4 := hO.1 z hz2 hg
      unfold layP
      split
      · rw [e 3 z (by decide) hz2.1, if_neg (fun y => q y.2)]
        exact h4
      · rw [e3 3 z (by decide) hz2.1, if_neg (fun y => q y.2), e 3 z (by decide) hz2.1, if_neg (fun y => q y.2)]
        exact h4
  · rw [lo 2 (by decide)] at hd
    have n9 := hD.2.1.2.1
    rw [lo (3 + d) (by omega)]
    have hi := hD.2.1.2.2 d hd
    have h4 := hO.2 d hd
    unfold opnB at h4 ⊢
    rw [ek _ hi.1]
    by_cases q : P (3 + d) = c
    · rw [if_pos q]
      have hp : hasP P c = true := hdP_of _ 0 ⟨d, by omega, by omega, q⟩
      have k3 : ¬ k = 3 := fun y => h3 ⟨Or.inl y, Or.inl hp⟩
      have k6 : ¬ k = 6 := fun y => h3 ⟨Or.inr y, Or.inl hp⟩
      rw [decide_eq_false k3, decide_eq_false k6]
      rfl
    · rw [if_neg q]
      exact h4
theorem okG.par : okG (parP a b o) := by
  have e2 : parP a b o 2 = 0 := by
    unfold parP
    rw [if_neg (by decide), if_neg (by decide), if_neg (fun q => absurd q.1 (by decide))]
  refine ⟨fun c _ _ => ?_, fun d hd => ?_⟩
  · unfold cE cX parP
    rw [if_neg (by omega), if_neg (by omega)]
    split
    · rw [show (522 + 7 * c.toInt.toNat + 3 - 522) % 7 = 3 by omega]
      rfl
    · rfl
  · rw [e2] at hd
    exact absurd hd (Nat.not_lt_zero d)
end OKG
