/-! LEAST, both sides told -/
def lsT (P : PK) (n : Nat) (o : Nat → Int32) : Prop := ∀ i, i < n → inD P (o i) ∧ ∀ j, j < i → ¬ P (3 + (o j).toInt.toNat) = P (3 + (o i).toInt.toNat)
noncomputable def tCq (P : PK) (o : Nat → Int32) (i : Nat) : Nat := (P (3 + (o i).toInt.toNat)).toInt.toNat
def CLQ (P : PK) (m : Nat) (t : Nat → Nat) (v : Option Value) : Prop := ∃ (C : Nat → ROW) (y : Int32), SyC (edL P) (clsP P) m 1000000 (prL P) t C (2 ^ m) ∧ v = some (.int y) ∧ ((C (2 ^ m - 1) (t m) < 1000000 ∧ y.toInt = C (2 ^ m - 1) (t m)) ∨ (¬ C (2 ^ m - 1) (t m) < 1000000 ∧ y = -1))
def RLQ (P : PK) (m : Nat) (t : Nat → Nat) (v : Option Value) : Prop := ∃ C : Nat → ROW, SyC (edL P) (clsP P) m 10000000 (prL P) t C (2 ^ m) ∧ ∃ x : Int, (∀ c, c < clsP P → x ≤ C (2 ^ m - 1) c) ∧ (x = 10000000 ∨ ∃ c, c < clsP P ∧ x = C (2 ^ m - 1) c) ∧ x ≤ 10000000 ∧ ∃ y : Int32, v = some (.int y) ∧ ((x < 10000000 ∧ y.toInt = x) ∨ (¬ x < 10000000 ∧ y = -1))
theorem bt_top : ∀ k, k < 6 → (2 ^ k - 1) &&& 2 ^ k = 0 := by decide +kernel
theorem shl_n7 : ∀ i, i < 7 → ((1 : Int32) <<< (nI i &&& 31)) = nI (2 ^ i) := by decide +kernel
section LSAL
variable {e n m i j k r : Nat} {T : TS} {P : PK} {PI : Nat → PK} {t : Nat → Nat} {M M0 M1 M' : Mem} {v v1 v2 : Option Value} {o : Nat → Int32} {z a : Int32}
theorem nI_iqq (h : z.toInt = (n : Int)) (hn : n < 100000) : z = nI n := Int32.toInt_inj.mp (by rw [nI_toInt (by omega), h])
theorem door_inq (hD : okD P) (ia : inD P a) : inC P (P (3 + a.toInt.toNat)) := hD.2.1.2.2 _ (by have := ia.1; have := ia.2; omega)
/-- what leastOfTape leaves -/
theorem leastS_ok_t (h9 : CST T P PI M) (hI : INV M) (he : 7 ≤ e) (H1 : Ev none e 101 0 [some (.ref 0), none, none, none, none] [] M v M' 0 0) : CST T P PI M' ∧ ∃ r, v = some (.int r) := by
  rcases lot_0 h9.sq h9.ld H1 with ⟨_, r1, r2⟩ | ⟨a1, H1⟩
  · rw [r2]; exact ⟨h9, _, r1⟩
  · rw [g126_R, Classical.not_not] at a1
    have n1 : 2 ≤ (zI M 1 1).toInt := a1.1
    have n6 : (zI M 1 1).toInt ≤ 6 := a1.2
    exact lot_l (n := (zI M 1 1).toInt.toNat) (by omega) (by omega) (zI M 1 1).toInt.toNat 0 _ _ _ _ h9 hI (by omega) (by have z0 : (0 : Int32).toInt = 0 := rfl; omega) (by decide) (by omega) H1
/-- the same answer -/
theorem les_al (hw : wh4 P) (hm : m < 6) (m1 : 1 ≤ m) (ht : t m < clsP P) (h1 : CLQ P m t v1) (h2 : RLQ P (m + 1) t v2) : v1 = v2 := by
  obtain ⟨_, c256, _⟩ := cls_int hw
  obtain ⟨C1, y1, s1, r1, q1⟩ := h1
  obtain ⟨C2, s2, x, x1, x2, x3, y2, r2, q2⟩ := h2
  have hE : ∀ c o w, c < clsP P → o < clsP P → edL P c o w → w = prL P c := fun c o w _ _ h => edL_w h
  have hp : ∀ c, c < clsP P → 1 ≤ prL P c ∧ prL P c ≤ 21 := fun c _ => prL_r c
  have pk := Nat.two_pow_pos m
  have e2 : 2 ^ (m + 1) = 2 ^ m + 2 ^ m := by rw [Nat.pow_succ]; omega
  have p2 : 2 ≤ 2 ^ m := Nat.pow_le_pow_right (n := 2) (by decide) m1
  have p32 : 2 ^ m ≤ 32 := by
    have := Nat.pow_le_pow_right (n := 2) (by decide) (show m ≤ 5 by omega)
    omega
  have cap := sy_cap (F2 := 10000000) (m2 := m + 1) (B2 := 2 ^ (m + 1)) hE hp (by decide) (by decide) (by omega) (Nat.le_refl _) (by omega) s1 s2 (2 ^ m - 1) (by omega) (by omega) (t m) ht
  have hi := sy_hi s2 (s := 2 ^ m - 1) (by omega) (by omega) ht
  have bnd := sy_bnd hE hp (by decide) c256 s2 (2 ^ m - 1) (by omega) (by omega) (t m) ht
  have one := sy_one (i := m) s2 (by omega) (by omega) ht
  have mrg := sy_mrg (s := 2 ^ (m + 1) - 1) (p := 2 ^ m - 1) (q := 2 ^ m) s2 ⟨by omega, pk, bt_top m hm, by omega⟩ (by omega) ht
  have rr := rer (k := m) hE hp (by decide) hm (fun c o w hc ho h => edL_s hw hc ho h) ht s2 (2 ^ m - 1) (by omega) 0 pk (Nat.and_zero _)
  have xa := x1 (t m) ht
  have xk : x = C2 (2 ^ m - 1) (t m) := by
    refine Int.le_antisymm (by omega) ?_
    rcases x2 with q | ⟨c, hc, q⟩
    · omega
    · have g := rr c hc
      have g1 : C0q (prL P) C2 (2 ^ m - 1 + 0) = C2 (2 ^ m - 1) := if_neg (by omega)
      have g2 : C0q (prL P) C2 0 = prL P := if_pos rfl
      rw [g1, g2, show 2 ^ m - 1 + 2 ^ m = 2 ^ (m + 1) - 1 by omega] at g
      omega
  have cap : C1 (2 ^ m - 1) (t m) = if C2 (2 ^ m - 1) (t m) ≤ 1000000 then C2 (2 ^ m - 1) (t m) else 1000000 := cap
  have ey : y1 = y2 := by
    rcases q1 with ⟨a1, a2⟩ | ⟨a1, a2⟩ <;> rcases q2 with ⟨b1, b2⟩ | ⟨b1, b2⟩
    · refine Int32.toInt_inj.mp ?_
      split at cap <;> omega
    · exfalso
      split at cap <;> omega
    · exfalso
      split at cap <;> omega
    · rw [a2, b2]
  rw [r1, r2, ey]
/-! the class's DOORS -/
theorem door_n (hD : okD P) (hd : inD P a) : P (3 + a.toInt.toNat) = nI (P (3 + a.toInt.toNat)).toInt.toNat ∧ (P (3 + a.toInt.toNat)).toInt.toNat < clsP P := by
  have hi := door_inq hD hd
  have h2 := hi.2
  have h0 := hi.1
  obtain ⟨_, c256, _⟩ := cls_int hD.1
  exact ⟨Int32.toInt_inj.mp (by rw [nI_toInt (by omega)]; omega), h2⟩
theorem clot_l (hm : m ≤ 5) (m1 : 1 ≤ m) (he : 6 ≤ e) (hO : okG P) (hP2 : (P 2).toInt ≤ 9) : ∀ (r i : Nat) (c3 c4 : Option Value) (M : Mem), i + r = m + 1 → CST T P PI M → INV M → (∀ j, j < m + 1 → rN M 2 j = o j) → LP6 M → (∀ j, j < i → rN M 344 j = P (3 + (o j).toInt.toNat) ∧ inD P (o j) ∧ ∀ j', j' < j → ¬ P (3 + (o j').toInt.toNat) = P (3 + (o j).toInt.toNat)) → Ev none e 101 23 [some (.ref 0), some (.int (nI (m + 1))), some (.int (nI i)), c3, c4] [] M v M' 0 0 → (¬ lsT P (m + 1) o ∧ v = some (.int (-2))) ∨ (lsT P (m + 1) o ∧ CLQ P m (tCq P o) v) := by
  have tm : (nI (m + 1)).toInt = ((m + 1 : Nat) : Int) := nI_toInt (by omega)
  intro r
  induction r with
  | zero =>
    intro i c3 c4 M hi hC hI ht h6 hg H
    have ti : (nI i).toInt = (i : Int) := nI_toInt (by omega)
    rcases lot_23 hC.sq hC.ld H with ⟨_, e1, v1, M1, he1, H1, H⟩ | ⟨a1, _⟩
    · have hl : lsT P (m + 1) o := fun j hj => (hg j (by omega)).2
      obtain ⟨rv, c1, x1, I1, F1⟩ := hC.ent hI (by omega) H1
      rw [rv] at H
      obtain ⟨e2, v2, M2, he2, H2, H⟩ := lot_115 c1.sq H
      have hD := hC.ok.1
      obtain ⟨C, y, q1, q2, q3⟩ := lsc_ok (t := tCq P o) hD hm x1 (fun k hk => (F1.on (fun q => q)).trans (h6 k hk)) (fun j hj => by
        obtain ⟨a1, a2, _⟩ := hg j (by omega)
        obtain ⟨b1, b2⟩ := door_n hD a2
        refine ⟨?_, b2, ?_⟩
        · rw [F1.rn (fun q => by
            rcases q with q | q
            · unfold shgW at q
              omega
            · omega), a1]
          exact b1
        · have d0 := a2.1
          have d1 := a2.2
          have := hO.2 (o j).toInt.toNat (by omega)
          rw [b1] at this
          exact this) H2
      rw [q2] at H
      have S2 : SQ M2 := (net_call (cn := kX2_leastCost) (mx := 7) (wsv := [.ref 192, .ref 344, .int (nI (m + 1))]) kX2_leastCost_ok (by decide +kernel) my_all.2.2.2.1 (by show 3 ≤ e2; omega) (Two.mk rfl (Two.mk rfl (Two.mk ⟨_, rfl, by show (2 : Int) ≤ (nI (m + 1)).toInt; omega, by show (nI (m + 1)).toInt ≤ (6 : Int); omega⟩ trivial))) I1 c1.sq.2 H2).2.1
      obtain ⟨p1, _⟩ := lot_127 S2 H
      exact Or.inr ⟨hl, C, y, q1, p1, q3⟩
    · exact absurd (Int32.le_iff_toInt_le.mpr (by omega)) a1
  | succ r ih =>
    intro i c3 c4 M hi hC hI ht h6 hg H
    have ti : (nI i).toInt = (i : Int) := nI_toInt (by omega)
    rcases lot_23 hC.sq hC.ld H with ⟨a1, _⟩ | ⟨_, _, e1, v1, M1, he1, H1, H⟩
    · have := Int32.le_iff_toInt_le.mp a1
      omega
    · have eo : rI M 2 (nI i) = o i := (rI_n ti).trans (ht i (by omega))
      rw [eo] at H1 H
      obtain ⟨rv, rm⟩ := isd_0 hC.sq hC.ld H1
      rw [rm, rv] at H
      rcases lot_43 hC.sq hC.ld H with ⟨a1, r1, _⟩ | ⟨a1, d9, i6, H⟩
      · exact Or.inl ⟨fun q => (isd_ok hC).mp a1 (q i (by omega)).1, r1⟩
      · have ia : inD P (o i) := by
          by_cases q : inD P (o i)
          · exact q
          · exact absurd ((isd_ok hC).mpr q) a1
        have hz0 := ia.1
        have hz1 := ia.2
        have er : rI M (8 + 9) (o i) = P (3 + (o i).toInt.toNat) := (rI_n (p := (o i).toInt.toNat) (by omega)).trans (hC.lan.1.2.2.1.2 (o i).toInt.toNat (by omega))
        rw [er, cl_n ti] at H
        have hc := (hC.ok.1.2.1.2.2 (o i).toInt.toNat (by omega)).lt hC.ok.1.1
        obtain ⟨w1, w2⟩ := hI.1.wIx (i := i) qa_344 tm_h.2.1 (x := P (3 + (o i).toInt.toNat)) (by omega) (by omega)
        have C1 := hC.e344 (i := i) (x := P (3 + (o i).toInt.toNat))
        have I1 := hI.frmT w1 w2 (by decide +kernel)
        obtain ⟨N, eN⟩ : ∃ N, N = wI M 344 i (P (3 + (o i).toInt.toNat)) := ⟨_, rfl⟩
        have F1 : FZ noF (fun b => b = 344) noO M N := by rw [eN]; exact FZ.wI rfl
        have len : (zrw M 344).length = 6 := (hC.sq.1.row qa_344 qw_60).2
        have ri : rN N 344 i = P (3 + (o i).toInt.toNat) := by rw [eN]; exact rN_wI_eq (by omega)
        have rj : ∀ j, j < i → rN N 344 j = P (3 + (o j).toInt.toNat) := fun j hj => by
          rw [eN, rN_wI_ne (by omega)]
          exact (hg j hj).1
        rw [← eN] at C1 I1 H
        have lp : ∀ (s : Nat) (j : Nat), j + s = i → (∀ j', j' < j → ¬ P (3 + (o j').toInt.toNat) = P (3 + (o i).toInt.toNat)) → Ev none e 101 67 [some (.ref 0), some (.int (nI (m + 1))), some (.int (nI i)), some (.int (o i)), some (.int (nI j))] [] N v M' 0 0 → (¬ lsT P (m + 1) o ∧ v = some (.int (-2))) ∨ (lsT P (m + 1) o ∧ CLQ P m (tCq P o) v) := by
          intro s
          induction s with
          | zero =>
            intro j hj hn H
            have tj : (nI j).toInt = (j : Int) := nI_toInt (by omega)
            rcases lot_67 C1.sq C1.ld H with ⟨_, H⟩ | ⟨a1, _⟩ | ⟨a1, _⟩
            · rw [nI_p1 (by omega)] at H
              refine ih (i + 1) _ _ N (by omega) C1 I1 (fun j hj => (F1.rn (by omega)).trans (ht j hj)) (fun k hk => (F1.on (fun q => q)).trans (h6 k hk)) (fun j2 hj2 => ?_) H
              by_cases y : j2 = i
              · rw [y]
                exact ⟨ri, ia, fun j' hj' => hn j' (by omega)⟩
              · exact ⟨rj j2 (by omega), (hg j2 (by omega)).2⟩
            all_goals exact absurd (Int32.le_iff_toInt_le.mpr (by omega)) a1
          | succ s ihs =>
            intro j hj hn H
            have tj : (nI j).toInt = (j : Int) := nI_toInt (by omega)
            have ej : rI N 344 (nI j) = P (3 + (o j).toInt.toNat) := (rI_n tj).trans (rj j (by omega))
            have ei : rI N 344 (nI i) = P (3 + (o i).toInt.toNat) := (rI_n ti).trans ri
            rcases lot_67 C1.sq C1.ld H with ⟨a1, _⟩ | ⟨_, a2, _, _, r1, _⟩ | ⟨_, a2, _, _, H⟩
            · have := Int32.le_iff_toInt_le.mp a1
              omega
            · rw [ej, ei] at a2
              exact Or.inl ⟨fun q => (q i (by omega)).2 j (by omega) a2, r1⟩
            · rw [ej, ei] at a2
              rw [nI_p1 (by omega)] at H
              refine ihs (j + 1) (by omega) (fun j' hj' => ?_) H
              by_cases y : j' = j
              · rw [y]
                exact a2
              · exact hn j' (by omega)
        exact lp i 0 (by omega) (fun j' hj' => absurd hj' (Nat.not_lt_zero j')) H
/-- least, the class's -/
theorem cles_ok (h9 : CST T P PI M) (hI : INV M) (he : 8 ≤ e) (hO : okG P) (h6 : LP6 M) (ht : ∀ j : Nat, (j : Int) < (zI M 1 1).toInt → rN M 2 j = o j) (hz : zI M 1 1 = z) (H : Ev none e 100 0 [some (.ref 0), none] [] M v M' 0 0) : (¬ inX z 2 6 ∧ v = some (.int (-2))) ∨ (inX z 2 6 ∧ ¬ lsT P z.toInt.toNat o ∧ v = some (.int (-2))) ∨ (inX z 2 6 ∧ lsT P z.toInt.toNat o ∧ CLQ P (z.toInt.toNat - 1) (tCq P o) v) := by
  obtain ⟨e1, v1, M1, he1, H1, H⟩ := lea_0 h9.sq H
  have c1 := (leastS_ok_t h9 hI (by omega) H1).1
  have r1 : v = v1 := by
    obtain ⟨y, hy⟩ := (leastS_ok_t h9 hI (by omega) H1).2
    rw [hy] at H
    rw [(lea_4 c1.sq H).1, hy]
  rw [r1]
  rcases lot_0 h9.sq h9.ld H1 with ⟨a1, q1, _⟩ | ⟨a1, H1⟩
  · rw [g126_R, hz] at a1
    exact Or.inl ⟨a1, q1⟩
  · rw [g126_R, Classical.not_not, hz] at a1
    have n1 : 2 ≤ z.toInt := a1.1
    have n6 : z.toInt ≤ 6 := a1.2
    have ez : z = nI (z.toInt.toNat - 1 + 1) := nI_iqq (by omega) (by omega)
    rw [hz, ez] at H1
    have hD := h9.ok.1
    rcases clot_l (m := z.toInt.toNat - 1) (by omega) (by omega) (by omega) hO hD.2.1.2.1 (z.toInt.toNat - 1 + 1) 0 none none M (by omega) h9 hI (fun j hj => ht j (by rw [hz]; omega)) h6 (fun j hj => absurd hj (Nat.not_lt_zero j)) H1 with ⟨q1, q2⟩ | ⟨q1, q2⟩
    · rw [show z.toInt.toNat - 1 + 1 = z.toInt.toNat by omega] at q1
      exact Or.inr (Or.inl ⟨a1, q1, q2⟩)
    · rw [show z.toInt.toNat - 1 + 1 = z.toInt.toNat by omega] at q1
      exact Or.inr (Or.inr ⟨a1, q1, q2⟩)
/-! the reference's DOORS -/
theorem rlot_l (hR : RST T P M) (hD : okD P) (hu : unD P) (n6 : n ≤ 6) (h3 : zI M 633 3 = nI n) (ht : ∀ j, j < n → rN M 634 j &&& 255 = o j) : ∀ (r i : Nat) (o2 : Option Value), i + r = n → (∀ j, j < i → inD P (o j) ∧ ∀ j', j' < j → ¬ P (3 + (o j').toInt.toNat) = P (3 + (o j).toInt.toNat)) → Ev none e 225 27 [some (.ref 633), some (.int (nI i)), o2, none, none, none, none, none] [] M v M' 0 0 → (¬ lsT P n o ∧ v = some (.int (-2))) ∨ (lsT P n o ∧ Ev none e 225 101 [some (.ref 633), some (.int (G_144 M)), some (.int (((1 : Int32) <<< ((nI n) &&& 31)) - 1)), some (.int 1), none, none, none, none] [] M v M' 0 0) := by
  have tn : (nI n).toInt = (n : Int) := nI_toInt (by omega)
  have eo : ∀ j, j < n → G_142 M (nI j) = o j := fun j hj => by
    unfold G_142
    rw [rI_n (nI_toInt (by omega))]
    exact ht j hj
  intro r
  induction r with
  | zero =>
    intro i o2 hi hg H
    have ti : (nI i).toInt = (i : Int) := nI_toInt (by omega)
    rcases lsr_27 hR.1 H with ⟨_, H⟩ | ⟨a1, _⟩ | ⟨a1, _⟩
    · rw [h3] at H
      exact Or.inr ⟨fun j hj => hg j (by omega), H⟩
    all_goals exact absurd (Int32.le_iff_toInt_le.mpr (by rw [h3]; omega)) a1
  | succ r ih =>
    intro i o2 hi hg H
    have ti : (nI i).toInt = (i : Int) := nI_toInt (by omega)
    have oi := eo i (by omega)
    rcases lsr_27 hR.1 H with ⟨a1, _⟩ | ⟨_, a2, r1, _⟩ | ⟨_, a2, H⟩
    · have := Int32.le_iff_toInt_le.mp a1
      rw [h3] at this
      omega
    · rw [oi, g152_ok hR hD] at a2
      exact Or.inl ⟨fun q => a2 (q i (by omega)).1, r1⟩
    · rw [oi, g152_ok hR hD, Classical.not_not] at a2
      have lp : ∀ (s : Nat) (j : Nat), j + s = i → (∀ j', j' < j → ¬ P (3 + (o j').toInt.toNat) = P (3 + (o i).toInt.toNat)) → Ev none e 225 52 [some (.ref 633), some (.int (nI i)), some (.int (nI j)), none, none, none, none, none] [] M v M' 0 0 → (¬ lsT P n o ∧ v = some (.int (-2))) ∨ (lsT P n o ∧ Ev none e 225 101 [some (.ref 633), some (.int (G_144 M)), some (.int (((1 : Int32) <<< ((nI n) &&& 31)) - 1)), some (.int 1), none, none, none, none] [] M v M' 0 0) := by
        intro s
        induction s with
        | zero =>
          intro j hj hn H
          have tj : (nI j).toInt = (j : Int) := nI_toInt (by omega)
          rcases lsr_52 hR.1 H with ⟨_, H⟩ | ⟨a1, _⟩ | ⟨a1, _⟩
          · rw [nI_p1 (by omega)] at H
            refine ih (i + 1) _ (by omega) (fun j2 hj2 => ?_) H
            by_cases y : j2 = i
            · rw [y]
              exact ⟨a2, fun j' hj' => hn j' (by omega)⟩
            · exact hg j2 (by omega)
          all_goals exact absurd (Int32.le_iff_toInt_le.mpr (by omega)) a1
        | succ s ihs =>
          intro j hj hn H
          have tj : (nI j).toInt = (j : Int) := nI_toInt (by omega)
          have dj := (hg j (by omega)).1
          have iff : P (3 + (o j).toInt.toNat) = P (3 + (o i).toInt.toNat) ↔ o j = o i := by
            constructor
            · intro q
              have j0 := dj.1
              have j1 := dj.2
              have i0 := a2.1
              have i1 := a2.2
              have := hu _ _ (by omega) (by omega) q
              exact Int32.toInt_inj.mp (by omega)
            · intro q
              rw [q]
          rcases lsr_52 hR.1 H with ⟨a1, _⟩ | ⟨_, b2, r1, _⟩ | ⟨_, b2, H⟩
          · have := Int32.le_iff_toInt_le.mp a1
            omega
          · rw [eo j (by omega), oi] at b2
            exact Or.inl ⟨fun q => (q i (by omega)).2 j (by omega) (iff.mpr b2), r1⟩
          · rw [eo j (by omega), oi] at b2
            rw [nI_p1 (by omega)] at H
            refine ihs (j + 1) (by omega) (fun j' hj' => ?_) H
            by_cases y : j' = j
            · rw [y]
              exact fun q => b2 (iff.mp q)
            · exact hn j' (by omega)
      exact lp i 0 (by omega) (fun j' hj' => absurd hj' (Nat.not_lt_zero j')) H
/-- least, the reference's -/
theorem rles_ok (hR : RST T P M) (hD : okD P) (hu : unD P) (hO : okG P) (ht : ∀ j : Nat, (j : Int) < (zI M 633 2).toInt → rN M 634 j &&& 255 = o j) (hz : zI M 633 2 = z) (H : Ev none e 225 0 [some (.ref 633), none, none, none, none, none, none, none] [] M v M' 0 0) : (¬ inX z 2 6 ∧ v = some (.int (-2))) ∨ (inX z 2 6 ∧ ¬ lsT P z.toInt.toNat o ∧ v = some (.int (-2))) ∨ (inX z 2 6 ∧ lsT P z.toInt.toNat o ∧ RLQ P z.toInt.toNat (tCq P o) v) := by
  have hw := hD.1
  obtain ⟨_, c256, _⟩ := cls_int hw
  have S0 : SQ (wF M 633 0 0) := hR.1.kf
  obtain ⟨N, eN⟩ : ∃ N, N = X_139 (wF M 633 0 0) := ⟨_, rfl⟩
  have SN : SQ N := by rw [eN]; exact X_139_sx S0
  have FN : FZ (fun a k => a = 633 ∧ k ≤ 4) noO noO M N := by
    rw [eN]
    unfold X_139
    exact (((FZ.wF (F := fun a k => a = 633 ∧ k ≤ 4) (W := noO) (O := noO) ⟨rfl, by decide⟩).trans (FZ.wF ⟨rfl, by decide⟩)).trans (FZ.wF ⟨rfl, by decide⟩)).trans (FZ.wF ⟨rfl, by decide⟩)
  have e3 : zI N 633 3 = z := by
    rw [← hz, eN]
    unfold X_139
    rw [fI_wF_ne (by decide), fI_wF_ne (by decide), fI_wF_eq S0.1 qa_633 qi_61_3, fI_wF_ne (by decide)]
  have RN : RST T P N := hR.fz SN FN (fun k k1 k2 q => by have := q.2; omega) (fun a ha q => q)
  have H := lsr_0 hR.1 H
  rw [← eN, e3, g140_R] at H
  rcases H with ⟨a1, r1, _⟩ | ⟨a1, H⟩
  · exact Or.inl ⟨a1, r1⟩
  · rw [Classical.not_not] at a1
    have n1 : 2 ≤ z.toInt := a1.1
    have n6 : z.toInt ≤ 6 := a1.2
    obtain ⟨n, en⟩ : ∃ n, n = z.toInt.toNat := ⟨_, rfl⟩
    have ez : z = nI n := nI_iqq (by omega) (by omega)
    rw [← en]
    have htN : ∀ j, j < n → rN N 634 j &&& 255 = o j := fun j hj => by
      rw [FN.rn (fun q => q)]
      exact ht j (by rw [hz]; omega)
    rcases rlot_l (n := n) (o := o) RN hD hu (by omega) (by rw [e3, ez]) htN n 0 none (by omega) (fun j hj => absurd hj (Nat.not_lt_zero j)) H with ⟨q1, q2⟩ | ⟨q1, H⟩
    · exact Or.inr (Or.inl ⟨a1, q1, q2⟩)
    · refine Or.inr (Or.inr ⟨a1, q1, ?_⟩)
      have p0 := Nat.two_pow_pos n
      have g4 : G_144 N = nI (clsP P) := nI_iqq (g144_ok RN hw) (by omega)
      have k64 : 2 ^ n ≤ 64 := by
        have := Nat.pow_le_pow_right (n := 2) (by decide) (show n ≤ 6 by omega)
        omega
      have sh6 : ((1 : Int32) <<< ((nI n) &&& 31)) = nI (2 ^ n) := shl_n7 n (by omega)
      rw [g4, sh6, nI_m1 p0 (by omega)] at H
      have dn : ∀ i, i < n → P (3 + (o i).toInt.toNat) = nI (tCq P o i) ∧ tCq P o i < clsP P ∧ opnB P (nI (tCq P o i)) = true := fun i hi => by
        have d := (q1 i hi).1
        obtain ⟨b1, b2⟩ := door_n hD d
        refine ⟨b1, b2, ?_⟩
        have d0 := d.1
        have d1 := d.2
        have := hO.2 (o i).toInt.toNat (by omega)
        rw [b1] at this
        exact this
      have K : RLq T P n (tCq P o) N := by
        refine ⟨RN, by rw [e3, ez], fun i hi => ?_⟩
        have d := (q1 i hi).1
        have d0 := d.1
        have d1 := d.2
        have d9 := hD.2.1.2.1
        have t3 : (3 : Int32).toInt = 3 := rfl
        have eo : G_142 N (nI i) = o i := by
          unfold G_142
          rw [rI_n (nI_toInt (by omega))]
          exact htN i hi
        have ea : (3 + o i).toInt = ((3 + (o i).toInt.toNat : Nat) : Int) := by rw [i32_add (by omega) (by omega)]; omega
        obtain ⟨b1, b2, b3⟩ := dn i hi
        rw [eo]
        refine ⟨by omega, by omega, ?_, b2, b3⟩
        rw [rI_n ea]
        exact (RN.2.1 _ (by omega)).trans b1
      obtain ⟨M2, p5, p6, p7, S2, y2, H⟩ := lsr_s hw (by omega) (fun i hi => (dn i hi).2.2) (2 ^ n - 1) 1 N none none none none (by omega) (by decide) K (fun s h1 h2 => by omega) H
      have hE : ∀ c o w, c < clsP P → o < clsP P → edL P c o w → w = prL P c := fun c o w _ _ h => edL_w h
      have hp : ∀ c, c < clsP P → 1 ≤ prL P c ∧ prL P c ≤ 21 := fun c _ => prL_r c
      have p2 : 2 ≤ 2 ^ n := Nat.pow_le_pow_right (n := 2) (by decide) (show 1 ≤ n by omega)
      have low := sy_low hE hp (by decide) y2
      exact ⟨coR M2, y2, lsr_b (s := 2 ^ n - 1) hw S2 (by omega) (fun c hc => by
        have a := low (2 ^ n - 1) (by omega) (by omega) c hc
        have b := sy_hi y2 (s := 2 ^ n - 1) (by omega) (by omega) hc
        have := hp c hc
        omega) (clsP P) 0 10000000 _ _ _ (by omega) (by decide) (fun c hc => absurd hc (Nat.not_lt_zero c)) (Or.inl rfl) H⟩
end LSAL
