/-! THE REFERENCE'S lasts, isTrod -/
section RTRJ
variable {e B : Nat} {T : TS} {P P' P0 Q : PK} {M M0 M1 M' : Mem} {v : Option Value} {c k d x a b t y : Int32} {w dd : Int32} {f0 : Bool} {n i j : Nat}
theorem g189_0 (h : RST T P M) (hD : okD P) : G_189 M k = 0 ↔ ¬ isW P k := by
  rw [← g189_ok h hD]
  unfold G_189
  split
  · exact ⟨fun _ q => absurd q (by decide), fun _ => rfl⟩
  · split
    · exact ⟨fun q => absurd q (by decide), fun q => absurd rfl q⟩
    · exact ⟨fun _ q => absurd q (by decide), fun _ => rfl⟩
theorem RTR.d0 {P0 : PK} (h : RTR T P P0 M) (hQ : okD Q) (hK : okK Q) (hR : RST T Q M') (hF : FZ noF (fun a => a = 635) noO M M') : RTR T Q P0 M' := ⟨hR, hQ, hK, by obtain ⟨b, hb⟩ := h.2.2.2.1; exact ⟨b, (hF.fi (fun q => q)).trans hb⟩, fun j hj => (hF.rn (by decide)).trans (h.2.2.2.2 j hj)⟩
theorem rls_l {P0 : PK} (hn : t.toInt = (n : Int)) (hc0 : inC P0 c) (k40 : y.toInt ≤ 40) : ∀ (r : Nat) (wz : Int32) (P : PK) (M : Mem), RTR T P P0 M → P 0 = P0 0 → P 1 = P0 1 → wrnB (T 0) P c = true → wz.toInt + (r : Int) = y.toInt + 1 → 1 ≤ wz.toInt → Ev none e 237 81 [some (.ref 633), some (.int k), some (.int c), some (.int y), some (.int t), some (.int (-1)), some (.int wz)] [] M v M' 0 0 → v = some (.int (lasL T n c r (wz - 1) P)) ∧ RST T P0 M' := by
  have uk := i32_any y
  have tm : (-1 : Int32).toInt = -1 := rfl
  have z0 : (0 : Int32).toInt = 0 := rfl
  intro r
  induction r with
  | zero =>
    intro wz P M h p0 p1 hwn hw h1 H
    rcases rls_81 h.1.1 H with ⟨_, e1, v1, M1, _, H1, H⟩ | ⟨a1, _⟩ | ⟨a1, _⟩
    · obtain ⟨rv, q1, _⟩ := h.bk H1
      rw [rv] at H
      obtain ⟨r1, r2⟩ := rls_120 q1.1 H
      unfold lasL
      rw [if_pos hwn]
      exact ⟨r1, r2 ▸ q1⟩
    all_goals exact absurd (Int32.lt_iff_toInt_lt.mpr (by omega)) a1
  | succ r ih =>
    intro wz P M h p0 p1 hwn hw h1 H
    rcases rls_81 h.1.1 H with ⟨a1, _⟩ | ⟨_, a1, _⟩ | ⟨_, _, e1, v1, M1, _, H1, H⟩
    · have := Int32.lt_iff_toInt_lt.mp a1
      omega
    · have := Int32.le_iff_toInt_le.mp a1
      omega
    · obtain ⟨rv2, s1, s2⟩ := rgo_ok h hn H1
      rw [rv2] at H
      have w0 := wks_0 (T := T) (t := n) h.2.1 h.2.2.1
      have q0 := (w0 0 (by decide)).trans p0
      have q1 := (w0 1 (by decide)).trans p1
      have hcP : inC (wksP T n P) c := (inC.eq q0 q1).mpr hc0
      have e1' : (wz + 1).toInt = wz.toInt + 1 := i32_p1 (by omega)
      have em : wz - 1 + 1 = wz := by grind
      have ep : wz + 1 - 1 = wz := by grind
      unfold lasL
      rw [if_pos hwn, em]
      rcases rls_98 s1.1.1 H with ⟨a1, H⟩ | ⟨a1, H⟩
      · rw [g150_ok s1.1 s1.2.1.1 hcP, bI_0] at a1
        have hl : lasL T n c r wz (wksP T n P) = wz := by
          cases r with
          | zero => unfold lasL; rw [if_neg (by rw [a1]; decide)]
          | succ r => unfold lasL; rw [if_neg (by rw [a1]; decide)]
        rw [hl]
        have hg : (∃ e1 v1 M2, e = e1 + 1 ∧ Ev none e1 154 0 [some (.ref 633), none] [] M1 v1 M2 0 0 ∧ Ev none e 237 120 [some (.ref 633), some (.int k), some (.int c), some (.int y), some (.int t), some (.int wz), some (.int (wz + 1))] (v1.toList ++ []) M2 v M' 0 0) → v = some (.int wz) ∧ RST T P0 M' := fun ⟨e4, v4, M4, _, H4, H⟩ => by
          obtain ⟨rv4, u1, _⟩ := s1.bk H4
          rw [rv4] at H
          obtain ⟨r1, r2⟩ := rls_120 u1.1 H
          exact ⟨r1, r2 ▸ u1⟩
        rcases rls_81 s1.1.1 H with ⟨_, H⟩ | ⟨_, _, H⟩ | ⟨_, a2, _⟩
        · exact hg H
        · exact hg H
        · exact absurd (Int32.le_iff_toInt_le.mpr (by omega)) a2
      · rw [g150_ok s1.1 s1.2.1.1 hcP, bI_0, Bool.not_eq_false] at a1
        have q := ih (wz + 1) _ M1 s1 q0 q1 a1 (by omega) (by omega) H
        rw [ep] at q
        exact q
def lasN (P : PK) (k c y t : Int32) : Prop := ¬ isW P k ∨ ¬ inC P c ∨ ¬ inX y 1 40 ∨ ¬ inX t 1 200
theorem drp_wrn {g : TQ} (hk : 0 ≤ k.toInt ∧ k.toInt < 24) : wrnB g (drpP P k) c = wrnB g P c := by
  unfold wrnB drpP
  rw [cE_lo (by omega)]
theorem rlasts_ok (hR : RST T P M) (hD : okD P) (hK : okK P) (hb : ∃ b, zI M 633 42 = bI b) (H : Ev none e 237 0 [some (.ref 633), some (.int k), some (.int c), some (.int y), some (.int t), none, none] [] M v M' 0 0) : (lasN P k c y t ∧ v = some (.int (-2)) ∧ RST T P M') ∨ (¬ lasN P k c y t ∧ v = some (.int (lasL T t.toInt.toNat c y.toInt.toNat 0 (drpP P k))) ∧ RST T P M') := by
  have h0 := hR.w0 0 (by decide) 0
  have hb0 : ∃ b, zI (wF M 633 0 0) 633 42 = bI b := by
    obtain ⟨b, hb⟩ := hb
    exact ⟨b, by rw [fI_wF_ne (by decide)]; exact hb⟩
  have b24 := hD.2.2.2.1
  unfold lasN
  rcases rls_0 hR.1 H with ⟨a1, r1, r2⟩ | ⟨_, a1, r1, r2⟩ | ⟨_, _, a1, r1, r2⟩ | ⟨_, _, _, a1, r1, r2⟩ | ⟨a1, a2, a3, a4, a5, r1, r2⟩ | ⟨a1, a2, a3, a4, a5, e1, v1, M1, _, H1, H⟩
  · rw [g189_0 h0 hD] at a1
    exact Or.inl ⟨Or.inl a1, r1, r2 ▸ h0⟩
  · rw [g145_ok h0 hD.1] at a1
    exact Or.inl ⟨Or.inr (Or.inl a1), r1, r2 ▸ h0⟩
  · rw [g140_R] at a1
    exact Or.inl ⟨Or.inr (Or.inr (Or.inl a1)), r1, r2 ▸ h0⟩
  · rw [g140_R] at a1
    exact Or.inl ⟨Or.inr (Or.inr (Or.inr a1)), r1, r2 ▸ h0⟩
  all_goals
    rw [g189_0 h0 hD, Classical.not_not] at a1
    rw [g145_ok h0 hD.1, Classical.not_not] at a2
    rw [g140_R, Classical.not_not] at a3 a4
    rw [g150_ok h0 hD.1 a2, bI_0] at a5
    have hk := a1.1
    have hk24 : 0 ≤ k.toInt ∧ k.toInt < 24 := ⟨hk.1, by omega⟩
    have nl : ¬ (¬ isW P k ∨ ¬ inC P c ∨ ¬ inX y 1 40 ∨ ¬ inX t 1 200) := fun q => by
      rcases q with q | q | q | q
      · exact q a1
      · exact q a2
      · exact q a3
      · exact q a4
    have y1 : 1 ≤ y.toInt := a3.1
    have y40 : y.toInt ≤ 40 := a3.2
    have t1 : 1 ≤ t.toInt := a4.1
  · refine Or.inr ⟨nl, ?_, r2 ▸ h0⟩
    rw [r1]
    have hy : y.toInt.toNat = (y.toInt.toNat - 1) + 1 := by omega
    rw [hy]
    unfold lasL
    rw [if_neg (by rw [drp_wrn hk24, a5]; decide)]
  · rw [Bool.not_eq_false] at a5
    obtain ⟨rv, q1, _⟩ := RTR.mk0 h0 hD hK hb0 H1
    rw [rv] at H
    obtain ⟨_, H⟩ := rls_60 q1.1.1 H
    have t6 : (6 : Int32).toInt = 6 := rfl
    have t13 : (13 : Int32).toInt = 13 := rfl
    have t5 : (5 : Int32).toInt = 5 := rfl
    have m6 : (6 * k).toInt = 6 * k.toInt := i32_mul (by rw [t6]; omega) (by rw [t6]; omega)
    have m13 : (13 + 6 * k).toInt = 13 + 6 * k.toInt := by rw [i32_add (by omega) (by omega), m6]; omega
    have ix : (13 + 6 * k + 5).toNatClampNeg = 13 + 6 * k.toInt.toNat + 5 := cl_n (by rw [i32_add (by omega) (by omega), m13]; omega)
    rw [ix] at H
    obtain ⟨dD, dO⟩ := hD.drp hk
    have q2 : RTR T (drpP P k) P (wI M1 635 (13 + 6 * k.toInt.toNat + 5) 0) := q1.d0 dD (hK.wis (dO 0 (by omega)) (dO 1 (by omega)) (by rw [dO 12 (by omega)]; exact Int.le_refl _) (fun j hj => dO j (by omega))) (q1.1.up (by omega)) (FZ.wI rfl)
    obtain ⟨r1, r2⟩ := rls_l (n := t.toInt.toNat) (y := y) (k := k) (by omega) a2 y40 y.toInt.toNat 1 (drpP P k) _ q2 (dO 0 (by omega)) (dO 1 (by omega)) (by rw [drp_wrn hk24]; exact a5) (by have o : (1 : Int32).toInt = 1 := rfl; omega) (by decide) H
    exact Or.inr ⟨nl, r1, r2⟩
/-! isTrod -/
def ritW (a : Nat) : Prop := a = 635 ∨ a = 637 ∨ a = 649
theorem lay6_lo {P : PK} : ∀ j, j < 522 → layP P c 6 j = P j := lay_hi
theorem fen1_lo {P : PK} : ∀ j, j < 522 → fen1 P a j = P j := fun j hj => by
  unfold fen1
  split
  · exact lay_hi j hj
  · rfl
theorem rit_l {P0 : PK} (hn : t.toInt = (n : Int)) : ∀ (r i : Nat) (iz : Int32) (P : PK) (ss : List Int32) (M : Mem), RST T P M → okD P → okK P → WFr w false ss M → ARn dd P M → (∀ j, j < 2314 → rN M 637 j = P0 j) → iz.toInt = (i : Int) → i + r = n → Ev none e 233 34 [some (.ref 633), some (.int a), some (.int b), some (.int t), some (.int iz)] [] M v M' 0 0 → v = some (.int (bI (decide (w ∈ (gofP T w r (P, ss)).2)))) ∧ RST T P0 M' ∧ zI M' 633 40 = w ∧ zI M' 633 42 = bI (decide (w ∈ (gofP T w r (P, ss)).2)) ∧ FZ rkF ritW noO M M' := by
  intro r
  induction r with
  | zero =>
    intro i iz P ss M hR hD hK hf ha h9 hi hin H
    have hf42 : zI M 633 42 = bI (decide (w ∈ ss)) := hf.2
    have hg : (∃ e1 v1 M1, e = e1 + 1 ∧ Ev none e1 154 0 [some (.ref 633), none] [] M v1 M1 0 0 ∧ Ev none e 233 61 [some (.ref 633), some (.int a), some (.int b), some (.int t), some (.int iz)] (v1.toList ++ []) M1 v M' 0 0) → v = some (.int (bI (decide (w ∈ ss)))) ∧ RST T P0 M' ∧ zI M' 633 40 = w ∧ zI M' 633 42 = bI (decide (w ∈ ss)) ∧ FZ rkF ritW noO M M' := fun ⟨e4, v4, M4, _, H4, H⟩ => by
      obtain ⟨rv4, u1, u2⟩ := lbk_ok hR h9 H4
      rw [rv4] at H
      obtain ⟨r1, r2⟩ := rit_61 u1.1 H
      have e42 : zI M4 633 42 = zI M 633 42 := u2.fi (fun q => q)
      rw [e42, hf42] at r1
      exact ⟨r1, r2 ▸ u1, by rw [r2]; exact (u2.fi (fun q => q)).trans hf.1, by rw [r2, e42, hf42], by rw [r2]; exact u2.more (fun _ _ q => q.elim) (fun a q => Or.inl q) (fun _ q => q)⟩
    rcases rit_34 hR.1 H with ⟨_, H⟩ | ⟨a1, _⟩ | ⟨a1, _⟩
    · exact hg H
    all_goals exact absurd (Int32.le_iff_toInt_le.mpr (by omega)) a1
  | succ r ih =>
    intro i iz P ss M hR hD hK hf ha h9 hi hin H
    have hf42 : zI M 633 42 = bI (decide (w ∈ ss)) := hf.2
    by_cases hw : w ∈ ss
    · have e : gofP T w (r + 1) (P, ss) = (P, ss) := if_pos hw
      rw [e]
      show v = some (.int (bI (decide (w ∈ ss)))) ∧ RST T P0 M' ∧ zI M' 633 40 = w ∧ zI M' 633 42 = bI (decide (w ∈ ss)) ∧ FZ rkF ritW noO M M'
      rcases rit_34 hR.1 H with ⟨a1, _⟩ | ⟨_, a1, _⟩ | ⟨_, _, e4, v4, M4, _, H4, H⟩
      · have := Int32.le_iff_toInt_le.mp a1
        omega
      · rw [hf42, decide_eq_true hw] at a1
        exact absurd a1 (by decide)
      · obtain ⟨rv4, u1, u2⟩ := lbk_ok hR h9 H4
        rw [rv4] at H
        obtain ⟨r1, r2⟩ := rit_61 u1.1 H
        have e42 : zI M4 633 42 = zI M 633 42 := u2.fi (fun q => q)
        rw [e42, hf42] at r1
        exact ⟨r1, r2 ▸ u1, by rw [r2]; exact (u2.fi (fun q => q)).trans hf.1, by rw [r2, e42, hf42], by rw [r2]; exact u2.more (fun _ _ q => q.elim) (fun a q => Or.inl q) (fun _ q => q)⟩
    · have e : gofP T w (r + 1) (P, ss) = gofP T w r (tckP T (P, ss)) := if_neg hw
      rw [e]
      rcases rit_34 hR.1 H with ⟨a1, _⟩ | ⟨_, _, e1, v1, M1, _, H1, H⟩ | ⟨_, a1, _⟩
      · have := Int32.le_iff_toInt_le.mp a1
        omega
      · obtain ⟨rv, q2, q3, q4, q5, q6, q7, q8⟩ := rtick_ok hR hD hK hf ha H1
        rw [rv] at H
        have H := rit_51 q2.1 H
        obtain ⟨w1, w2, w3, w4, w5⟩ := ih (i + 1) (iz + 1) (tckP T (P, ss)).1 (tckP T (P, ss)).2 M1 q2 q3 q4 q6 q7 (fun j hj => (q5.rn (by unfold rkW; decide)).trans (h9 j hj)) (by rw [i32_p1 (by have := i32_any t; omega)]; omega) (by omega) H
        exact ⟨w1, w2, w3, w4, (q5.more (fun _ _ q => q) (fun a q => by unfold rkW at q; unfold ritW; omega) (fun _ q => q)).trans w5⟩
      · rw [hf42, decide_eq_false hw] at a1
        exact absurd rfl a1
theorem put_ok (hR : RST T P M) (hw : wh4 P) (hc : inC P c) (H : Ev none e 213 0 [some (.ref 633), some (.int c), some (.int 6)] [] M v M' 0 0) : v = none ∧ RST T (layP P c 6) M' ∧ FZ noF (fun a => a = 635) noO M M' := by
  obtain ⟨rv, rm⟩ := g_213 hR.1 H
  refine ⟨rv, rm ▸ x213_ok hR hw hc, ?_⟩
  rw [rm]
  unfold X_213 X_147
  split
  · exact (FZ.wI (W := fun a => a = 635) rfl).trans (FZ.wI rfl)
  · exact FZ.wI rfl
/-- isTrod; the fences on CELLS where no DOOR and no WALKER is keep the PARK good: nothing below the CELLS changes -/
theorem ritro_ok (hR : RST T P M) (hD : okD P) (hK : okK P) (hb : ∃ b, zI M 633 42 = bI b) (ha : a = -1 ∨ inC P a) (hbb : b = -1 ∨ inC P b) (hn : t.toInt = (n : Int)) (H : Ev none e 233 0 [some (.ref 633), some (.int a), some (.int b), some (.int t), none] [] M v M' 0 0) : v = some (.int (bI (trodB T P (zI M 633 40) n a b))) ∧ RST T P M' ∧ zI M' 633 40 = zI M 633 40 ∧ (∃ b, zI M' 633 42 = bI b) ∧ FZ rkF ritW noO M M' := by
  obtain ⟨e1, v1, M1, _, H1, H⟩ := rit_0 hR.1 H
  obtain ⟨r1, r2, r3, r4⟩ := las_ok hR H1
  rw [r1] at H
  have neg : ∀ z : Int32, z = -1 → z < 0 := fun z hz => by rw [hz]; decide
  have nng : ∀ z : Int32, z < 0 ↔ ¬ (0 : Int32) ≤ z := fun z => by
    rw [Int32.lt_iff_toInt_lt, Int32.le_iff_toInt_le]
    omega
  have s1 : ∃ M2, RST T (fen1 P a) M2 ∧ FZ noF (fun a => a = 635) noO M1 M2 ∧ Ev none e 233 15 [some (.ref 633), some (.int a), some (.int b), some (.int t), none] [] M2 v M' 0 0 := by
    rcases rit_4 r2.1 H with ⟨a1, H⟩ | ⟨a1, e2, v2, M2, _, H2, H⟩
    · refine ⟨M1, ?_, FZ.refl _, H⟩
      unfold fen1
      rw [if_neg ((nng a).mp a1)]
      exact r2
    · have ic : inC P a := ha.resolve_left (fun q => a1 (neg a q))
      obtain ⟨u1, u2, u3⟩ := put_ok r2 hD.1 ic H2
      rw [u1] at H
      refine ⟨M2, ?_, u3, H⟩
      unfold fen1
      rw [if_pos (Classical.not_not.mp (fun q => a1 ((nng a).mpr q)))]
      exact u2
  obtain ⟨M2, s1, s2, H⟩ := s1
  have lo1 : hiS P (fen1 P a) := fen1_lo
  have hD1 := lo1.D hD
  have s3 : ∃ M3, RST T (fenP P a b) M3 ∧ FZ noF (fun a => a = 635) noO M2 M3 ∧ Ev none e 233 26 [some (.ref 633), some (.int a), some (.int b), some (.int t), none] [] M3 v M' 0 0 := by
    rcases rit_15 s1.1 H with ⟨a1, H⟩ | ⟨a1, e2, v2, M3, _, H2, H⟩
    · refine ⟨M2, ?_, FZ.refl _, H⟩
      unfold fenP
      rw [show fen1 (fen1 P a) b = fen1 P a from if_neg ((nng b).mp a1)]
      exact s1
    · have ic : inC P b := hbb.resolve_left (fun q => a1 (neg b q))
      obtain ⟨u1, u2, u3⟩ := put_ok s1 hD1.1 ((inC.hi lo1).mpr ic) H2
      rw [u1] at H
      refine ⟨M3, ?_, u3, H⟩
      unfold fenP
      rw [show fen1 (fen1 P a) b = layP (fen1 P a) b 6 from if_pos (Classical.not_not.mp (fun q => a1 ((nng b).mpr q)))]
      exact u2
  obtain ⟨M3, s3, s4, H⟩ := s3
  have lo2 : hiS P (fenP P a b) := fun j hj => (fen1_lo j hj).trans (fen1_lo j hj)
  have H := rit_26 s3.1 H
  have u0 : RST T (fenP P a b) (wF M3 633 42 0) := s3.w0 42 (by decide) 0
  have F4 : FZ (fun a k => a = 633 ∧ k = 42) noO noO M3 (wF M3 633 42 0) := FZ.wF (F := fun a k => a = 633 ∧ k = 42) ⟨rfl, rfl⟩
  have e40 : zI (wF M3 633 42 0) 633 40 = zI M 633 40 := (F4.fi (by decide)).trans ((s4.fi (fun q => q)).trans ((s2.fi (fun q => q)).trans (r4.fi (fun q => q))))
  have e42 : zI (wF M3 633 42 0) 633 42 = 0 := fI_wF_eq s3.1.1 qa_633 qi_61_42
  have hf : WFr (zI M 633 40) false [] (wF M3 633 42 0) := ⟨e40, by rw [e42, decide_eq_false (by simp)]; rfl⟩
  have ha2 : ARn (zI (wF M3 633 42 0) 633 41 - fenP P a b 519) (fenP P a b) (wF M3 633 42 0) := by unfold ARn; grind
  obtain ⟨v1, v2, v3, v4, v5⟩ := rit_l (w := zI M 633 40) hn n 0 0 (fenP P a b) [] _ u0 (lo2.D hD) (lo2.K hK) hf ha2 (fun j hj => (rN_wF).trans ((s4.rn (by decide)).trans ((s2.rn (by decide)).trans (r3 j hj)))) rfl (by omega) H
  have g1 : ∀ {A B : Mem}, FZ noF (fun a => a = 635) noO A B → FZ rkF ritW noO A B := fun h => h.more (fun _ _ q => q.elim) (fun a q => Or.inl q) (fun _ q => q)
  exact ⟨v1, v2, v3, ⟨_, v4⟩, ((((r4.more (fun _ _ q => q.elim) (fun a q => Or.inr (Or.inl q)) (fun _ q => q)).trans (g1 s2)).trans (g1 s4)).trans (F4.more (fun a k q => ⟨q.1, Or.inr (Or.inr q.2)⟩) (fun _ q => q.elim) (fun _ q => q))).trans v5⟩
end RTRJ
/-! THE CLASS'S trials: weeks on the other land -/
/-- what a trial touches -/
def triF (a k : Nat) : Prop := (243 ≤ a ∧ a < 339) ∨ (a = 104 ∧ 7 ≤ k) ∨ a = 105
def triW (a : Nat) : Prop := (244 ≤ a ∧ a ≤ 252) ∨ (106 ≤ a ∧ a ≤ 108) ∨ a = 128 ∨ (130 ≤ a ∧ a ≤ 136)
def triO (a : Nat) : Prop := a = 254
section CTRI
variable {e B L : Nat} {T T' : TS} {P P' P0 Q : PK} {PI : Nat → PK} {M M0 M1 M' : Mem} {v : Option Value} {c k d x a b t y ws : Int32} {n i j : Nat} {ss : List Int32} {F : Nat → Nat → Prop} {W O : Nat → Prop}
/-- a land changed, nothing looked at yet -/
theorem STA.new (h : STA L T P M) (hS : SQ M') (hF : FZ (cpF L) (cpW L) noO M M') (hA : LAN L Q M') (h0 : Q 0 = P 0) (h1 : Q 1 = P 1) (hn : ∀ c, inC Q c → nnC Q c) (hv : ∀ j, j < 1536 → rN M' 128 j = -1) : STA L T Q M' ∧ LST L Q M' := by
  have hl := ld_cases h.ld
  obtain ⟨a1, a2, a3, a4, a5, a6, a7⟩ := h
  have ok : okF L (cpF L) (cpW L) noO := by
    refine ⟨⟨by unfold cpF; omega, by unfold cpF; omega⟩, fun t ht => ?_, ⟨fun q => q, fun q => q⟩, by unfold cpW; omega, by unfold cpW; omega, by unfold cpW; omega⟩
    have := tx_cases ht
    exact ⟨fun k => by unfold cpF; omega, fun k k1 k8 => by unfold cpW; omega⟩
  exact ⟨⟨a1.mv hS hF ok hA.2.2.1 h0 h1 hn hA.2.2.2.2, vc_new hv (a1.2.1.eq h0 h1), hA.1, hA.2.1, fun k hk => (hF.on (fun q => q)).trans (a5 k hk), a6.on (fun j => hF.on (fun q => q)), (hF.fi (by unfold cpF; omega)).trans a7⟩, hA.2.2.2.1⟩
/-- the state of the live land and of the images, through what happens on the other land -/
theorem CST.tri (h : CST T P PI M) (hF : FZ triF triW triO M M') (hG : GRI M') (hX : STA 243 T' Q M') : CST T P PI M' := by
  obtain ⟨a1, ⟨a2, a3, a4⟩, a5, a6, a7, a8, ⟨a9, a10⟩, a11⟩ := h
  have nf : ∀ a k, ¬ ((243 ≤ a ∧ a < 339) ∨ (a = 104 ∧ 7 ≤ k) ∨ a = 105) → ¬ triF a k := fun a k ha q => ha q
  have nw : ∀ a, ¬ ((244 ≤ a ∧ a ≤ 252) ∨ (106 ≤ a ∧ a ≤ 108) ∨ a = 128 ∨ (130 ≤ a ∧ a ≤ 136)) → ¬ triW a := fun a ha q => ha q
  have no : ∀ a, a ≠ 254 → ¬ triO a := fun a ha q => ha q
  refine ⟨hX.sq, ⟨(hF.fr (nf _ _ (by omega))).trans a2, (hF.fr (nf _ _ (by omega))).trans a3, fun k hk => (hF.on (no _ (by decide))).trans (a4 k hk)⟩, a5.fz a1.1 hF (nf _ _ (by omega)) (fun t ht => ?_) (no _ (by decide)), fun m hm => (hF.on (no _ (by decide))).trans (a6 m hm), hG, fun L hL => ?_, ⟨a9, a10.fz hF (fun a k h1 h2 => nf _ _ (by omega)) (fun a h1 h2 => nw _ (by omega)) (no _ (by decide)) (a8 8 lnd_8).2 a9.n24 a9.k60⟩, fun k hk hr => ?_⟩
  · have := tx_cases ht
    exact ⟨fun k => nf _ _ (by omega), fun k k1 k8 => nw _ (by omega)⟩
  · by_cases hL8 : L = 243
    · subst hL8
      exact ⟨hX.2.2.2.2.1, hX.2.2.2.2.2.1⟩
    · have hc := ld_cases hL
      exact ⟨fun k hk => (hF.on (no _ (by omega))).trans ((a8 L hL).1 k hk), (a8 L hL).2.on (fun j => hF.on (no _ (by omega)))⟩
  · have er : rN M' 340 k = rN M 340 k := hF.rn (nw _ (by decide))
    rw [er] at hr
    obtain ⟨b1, b2⟩ := a11 k hk hr
    have hi := lnd_im k hk
    exact ⟨b1, b2.fz hF (fun a k q1 q2 => nf _ _ (by unfold imgA at q1 q2; omega)) (fun a q1 q2 => nw _ (by unfold imgA at q1 q2; omega)) (no _ (by unfold imgA; omega)) (a8 _ hi).2 b1.n24 b1.k60⟩
/-- a trial: B bounds what was trod -/
def TRI (T : TS) (P0 : PK) (PI : Nat → PK) (B : Nat) (w : Int32) (ss : List Int32) (P : PK) (M : Mem) : Prop := CST T P0 PI M ∧ STA 243 T P M ∧ LST 243 P M ∧ okD P ∧ okK P ∧ okE B P ∧ WFl w ss M
/-- the verdicts are forgotten by enter -/
theorem ent_v (hS : SQ M) (hL : gNth sT L = some 8) (hA : LAN L P M) (hw : wh4 P) (hG : GRI M) (H : Ev none e 54 0 [some (.ref 104), some (.ref L)] [] M v M' 0 0) : ∀ j, j < 1536 → rN M' 128 j = -1 := by
  obtain ⟨e1, v1, M1, rfl, H1, H⟩ := ent_0 hS hL H
  have S0 : SQ (wR M 104 7 L) := hS.kr_22_7 hL
  have F0 : FZ (fun a k => a = 104 ∧ k = 7) noO noO M (wR M 104 7 L) := FZ.wR ⟨rfl, rfl⟩
  rw [hA.1.1, hA.1.2.1] at H1
  obtain ⟨hv1, S1, _⟩ := shape_ok S0 ⟨hw.1, hw.2.1⟩ ⟨hw.2.2.1, hw.2.2.2⟩ (hG.fz F0 (by omega) (by omega) (fun _ _ _ q => q)) H1
  rw [hv1] at H
  obtain ⟨_, eM⟩ := ent_26 S1 hL H
  have eM2 : M' = wA (wF (wF (wF M1 104 8 0) 104 9 (-1)) 104 10 0) 128 (-1) := eM
  intro j hj
  rw [eM2]
  exact rN_wA_eq S1.kf.kf.kf.1 qa_128 qw_37 hj
theorem opcT_ok (h : CST T P PI M) (H : Ev none e 133 0 [some (.ref 0)] [] M v M' 0 0) : v = none ∧ TRI T P PI (60 * (P 518).toInt.toNat) (-1) [] P M' ∧ (∀ j, j < 1536 → rN M' 128 j = -1) ∧ FZ triF triW triO M M' := by
  have h9 := h
  obtain ⟨r1, r2, r3, r4, r5⟩ := openC_ok h H
  refine ⟨r1, ⟨r2, r3, r4, h.ok.1, h.ok.2.1, h.ok.2.2.2, r5⟩, ?_⟩
  have hS := h.sq
  have hD := h.ok.1
  obtain ⟨e1, v1, M1, _, H1, H⟩ := opc_0 hS h.ld h.2.1.2.1 H
  obtain ⟨_, _, _, _, hG, hXs, _, _⟩ := id h
  obtain ⟨rv, s1, s2, s3⟩ := copy_ok hS lnd_tr lnd_8 (by decide) hD h.ok.2.1 (hXs _ lnd_tr).1 h.wx (hXs _ lnd_tr).2 h.wk h.lan H1
  rw [rv] at H
  have h1 : CST T P PI M1 := h.cop lnd_tr (by decide) s1 s2 (fun k hk _ => by unfold imgA; omega)
  obtain ⟨e2, v2, M2, _, H2, H⟩ := opc_11 s1 h1.ld h1.2.1.2.1 H
  have q := ent_v s1 lnd_tr s3 hD.1 h1.2.2.2.2.1 H2
  obtain ⟨rv2, q2, _, q4, _⟩ := enter_ok s1 lnd_tr hD.1 h1.ok.2.2.2.nn h1.2.2.2.2.1 h1.2.2.2.1 h1.2.2.1 s3 (h1.2.2.2.2.2.1 _ lnd_tr).1 (h1.2.2.2.2.2.1 _ lnd_tr).2 h1.ok.n24 h1.ok.k60 H2
  rw [rv2] at H
  obtain ⟨_, u2⟩ := opc_22 q2.sq H
  rw [u2]
  refine ⟨q, (s2.more (fun a k q => ?_) (fun a q => ?_) (fun _ q => q.elim)).trans (q4.more (fun a k q => ?_) (fun a q => ?_) (fun _ q => q.elim))⟩
  · unfold cpF at q
    unfold triF
    omega
  · unfold cpW at q
    unfold triW
    omega
  · unfold enF shgF at q
    unfold triF
    omega
  · unfold enW shgW at q
    unfold triW
    omega
theorem gw_tri (h : FZ (gwF 243) (gwW 243) (gwO 243) M M') : FZ triF triW triO M M' := h.more (fun a k q => by unfold gwF at q; unfold triF; omega) (fun a q => by unfold gwW lkW at q; unfold triW; omega) (fun a q => by unfold gwO at q; unfold triO; omega)
theorem tri_F (h : FZ (gwF 243) (gwW 243) (gwO 243) M M') (hC : CST T P0 PI M) (hX : STA 243 T' Q M') : CST T P0 PI M' := by
  refine hC.tri (gw_tri h) (hC.2.2.2.2.1.fz h ?_ ?_ ?_) hX
  · unfold gwF; omega
  · unfold gwF; omega
  · intro a h1 h2
    unfold gwW lkW
    omega
theorem gof_K {w : Int32} : ∀ (r : Nat) (p : PS), okD p.1 → okK p.1 → okD (gofP T w r p).1 ∧ okK (gofP T w r p).1 := by
  intro r
  induction r with
  | zero => intro p h1 h2; exact ⟨h1, h2⟩
  | succ r ih =>
    intro p h1 h2
    unfold gofP
    split
    · exact ⟨h1, h2⟩
    · obtain ⟨d1, k1⟩ := tck_keep (T := T) h1 h2
      exact ih (tckP T p) d1 k1
/-- one week of a trial, nobody watched -/
theorem onk_ok (h : TRI T P0 PI B (-1) [] P M) (hB : B + 60 * n ≤ 100000000) (ht : t.toInt = (n : Int)) (H : Ev none e 134 0 [some (.ref 0), some (.int t)] [] M v M' 0 0) : v = none ∧ TRI T P0 PI (B + 60 * n) (-1) [] (wksP T n P) M' ∧ FZ triF triW triO M M' := by
  obtain ⟨hC, hX, hl, hD, hK, hE, hf⟩ := h
  obtain ⟨e1, v1, M1, _, H1, H⟩ := onk_0 hX.sq H
  obtain ⟨P6, ss6, g1, rv, s1, s2, s3, s4, s5, s6, s7, s8, s9⟩ := gow_ok hX hD hK hE hB hl hf ht H1
  rw [rv] at H
  obtain ⟨e2, v2, M2, _, H2, H⟩ := onk_8 s1.sq H
  have hn : ¬ (-1 : Int32) ∈ ss6 := fun q => by
    rcases s9 _ q with q | q
    · cases q
    · exact absurd q.1 (by decide)
  have hr : (tksP T n (P, [])).1 = P6 := by
    rw [← gof_tks (w := -1) n (P, []) (by rw [g1]; exact hn), g1]
  obtain ⟨rv2, q1, q2, q3, q4, q5, q6, q7, q8⟩ := ewk_ok s1 s2 s3 s4 s5 H2
  rw [rv2] at H
  obtain ⟨u1, u2⟩ := onk_16 q1.sq H
  have ew : wksP T n P = wekP (T 0) P6 := by unfold wksP; rw [hr]
  rw [ew, u2]
  have c1 := tri_F s7 hC s1
  refine ⟨u1, ⟨tri_F q6 c1 q1, q1, q5, q2, q3, q4, ⟨(q7 9).trans s6.1, (q7 10).trans (s6.2.trans ?_)⟩⟩, (gw_tri s7).trans (gw_tri q6)⟩
  rw [decide_eq_false hn]
  rfl
theorem tri_worn {w : Int32} (h : TRI T P0 PI B w ss P M) (hc : inC P c) : G_56 M c = bI (wrnB (T 0) P c) := g56_ok h.2.1.1.1 hc
end CTRI
/-! THE CLASS'S net, lasts, nobodySteps, fences -/
section CFEN
variable {e B L : Nat} {T T' : TS} {P P' P0 Q : PK} {PI : Nat → PK} {M M0 M1 M' : Mem} {v : Option Value} {c k d x a b t y ws z : Int32} {n i j : Nat} {ss : List Int32} {F : Nat → Nat → Prop} {W O : Nat → Prop}
theorem cnet_ok (h : CST T P PI M) (H : Ev none e 97 0 [some (.ref 0)] [] M v M' 0 0) : v = some (.int (nwP (T 0) P)) ∧ CST T P PI M' := by
  obtain ⟨e1, v1, M1, _, H1, H⟩ := net_0 h.sq h.ld H
  obtain ⟨rv1, b2, b3, b4, b5, b6⟩ := centr_ok h H1
  rw [rv1] at H
  obtain ⟨e3, v3, M3, _, H3, H⟩ := net_11 b2.sq H
  obtain ⟨rm, rv3⟩ := wcl_ok b2.1 b2.2.2.1.1 b2.2.2.1.2.1 H3
  rw [rv3, rm] at H
  obtain ⟨u1, u2⟩ := net_18 b2.sq H
  refine ⟨u1, ?_⟩
  rw [u2]
  refine h.wlk b4 (fun a k q => ?_) (fun a q => ?_) (fun a q => q.elim) b5 b2 b3 h.ok
  · unfold enF shgF at q
    omega
  · unfold enW shgW at q
    omega
/-- a land whose k-th wish is dropped -/
theorem LAN.drp (hS : SQ M) (hL : gNth sT L = some 8) (hA : LAN L P M) (hx : WXr L M) (hk : WKs L M) (hD : okD P) (k60 : (P 157).toInt ≤ 60) (w1 : 0 ≤ k.toInt ∧ k.toInt < (P 12).toInt) : LAN L (drpP P k) (wF M (L + 12 + k.toInt.toNat) 5 0) := by
  obtain ⟨m, em⟩ : ∃ m, m = k.toInt.toNat := ⟨_, rfl⟩
  have b24 := hD.2.2.2.1
  rw [← em]
  obtain ⟨b1, b2⟩ := hD.drp (k := k) w1
  rw [← em] at b2
  have hF : FZ (fun a f => a = L + 12 + m ∧ f = 5) noO noO M (wF M (L + 12 + m) 5 0) := FZ.wF (F := fun a f => a = L + 12 + m ∧ f = 5) ⟨rfl, rfl⟩
  have b3 := b2 0 (by omega)
  have b4 := b2 1 (by omega)
  refine hA.lo hF b3 b4 (fun j hj => b2 j (by omega)) (fun a k _ _ q => Or.inr (by omega)) (fun a q => q.elim) (fun q => q) hk k60 ⟨?_, fun d hd => ?_⟩ ⟨?_, fun i hi f hf => ?_⟩
  · rw [b2 2 (by omega), hF.fi (by omega)]
    exact hA.1.2.2.1.1
  · rw [b2 2 (by omega)] at hd
    have := hD.2.1.2.1
    rw [b2 _ (by omega)]
    exact (hF.rn (fun q => q)).trans (hA.1.2.2.1.2 d hd)
  · rw [b2 12 (by omega), hF.fi (by omega)]
    exact hA.1.2.2.2.1
  · rw [b2 12 (by omega)] at hi
    by_cases hif : i = m ∧ f = 5
    · rw [hif.1, hif.2]
      have e5 : drpP P k (13 + 6 * m + 5) = 0 := by rw [em]; exact up_eq
      rw [e5]
      exact fI_wF_eq hS.1 (wi_t hS.1 hL hx (by omega)) qi_20_5
    · rw [b2 _ (by omega), hF.fi (by omega)]
      exact hA.1.2.2.2.2 i hi f hf
theorem lsv_l {tt : Nat} (ht : t.toInt = (tt : Int)) (hc0 : inC P0 c) : ∀ (r : Nat) (nz : Int32) (B : Nat) (P : PK) (M : Mem), TRI T P0 PI B (-1) [] P M → P 0 = P0 0 → P 1 = P0 1 → nz.toInt + (r : Int) = ws.toInt → 0 ≤ nz.toInt → r ≤ 40 → tt ≤ 200 → B + 60 * tt * r ≤ 100000000 → Ev none e 114 64 [some (.ref 0), some (.int k), some (.int c), some (.int ws), some (.int t), some (.int nz)] [] M v M' 0 0 → v = some (.int (lasL T tt c r nz P)) ∧ CST T P0 PI M' := by
  have uw := i32_any ws
  intro r
  induction r with
  | zero =>
    intro nz B P M h p0 p1 hw h1 _ _ hB H
    have hcP : inC P c := (inC.eq p0 p1).mpr hc0
    have hg := tri_worn h hcP
    have en : ws = nz := Int32.toInt_inj.mp (by omega)
    unfold lasL
    rcases lsv_64 h.2.1.sq H with ⟨_, a2, r1, r2⟩ | ⟨_, a2, r1, r2⟩ | ⟨a1, _⟩ | ⟨a1, _⟩
    · rw [hg, bI_0] at a2
      rw [if_neg (by rw [a2]; decide), r2]
      exact ⟨by rw [r1, en], h.1⟩
    · rw [hg, bI_0, Bool.not_eq_false] at a2
      rw [if_pos a2, r2]
      exact ⟨r1, h.1⟩
    all_goals exact absurd (Int32.le_iff_toInt_le.mpr (by omega)) a1
  | succ r ih =>
    intro nz B P M h p0 p1 hw h1 r40 t200 hB H
    have hcP : inC P c := (inC.eq p0 p1).mpr hc0
    have hg := tri_worn h hcP
    unfold lasL
    rcases lsv_64 h.2.1.sq H with ⟨a1, _⟩ | ⟨a1, _⟩ | ⟨_, a2, r1, r2⟩ | ⟨_, a2, e1, v1, M1, _, H1, H⟩
    · have := Int32.le_iff_toInt_le.mp a1
      omega
    · have := Int32.le_iff_toInt_le.mp a1
      omega
    · rw [hg, bI_0] at a2
      rw [if_neg (by rw [a2]; decide), r2]
      exact ⟨r1, h.1⟩
    · rw [hg, bI_0, Bool.not_eq_false] at a2
      rw [if_pos a2]
      have hm : 60 * tt * (r + 1) = 60 * tt * r + 60 * tt := by rw [Nat.mul_add, Nat.mul_one]
      obtain ⟨rv, q1, _⟩ := onk_ok h (n := tt) (by omega) ht H1
      rw [rv] at H
      have H := lsv_90 q1.2.1.sq H
      have w0 := wks_0 (T := T) (t := tt) h.2.2.2.1 h.2.2.2.2.1
      exact ih (nz + 1) (B + 60 * tt) _ M1 q1 ((w0 0 (by decide)).trans p0) ((w0 1 (by decide)).trans p1) (by rw [i32_p1 (by omega)]; omega) (by rw [i32_p1 (by omega)]; omega) (by omega) t200 (by omega) H
/-- the budget of what can be trod -/
theorem okA.bud (h : okA P) : 60 * (P 518).toInt.toNat ≤ 3600000 := by
  have := h.2.2.1
  omega
theorem lasts_ok (h : CST T P PI M) (H : Ev none e 114 0 [some (.ref 0), some (.int k), some (.int c), some (.int ws), some (.int t), none] [] M v M' 0 0) : (lasN P k c ws t ∧ v = some (.int (-2)) ∧ CST T P PI M') ∨ (¬ lasN P k c ws t ∧ v = some (.int (lasL T t.toInt.toNat c ws.toInt.toNat 0 (drpP P k))) ∧ CST T P PI M') := by
  have hS := h.sq
  have hD := h.ok.1
  have o1 : ¬ ((1 : Int32) = 0) := by decide
  obtain ⟨e1, v1, M1, _, H1, H⟩ := lsv_0 hS H
  obtain ⟨rm, rv⟩ := isw_ok h H1
  rw [rm] at H
  unfold lasN
  rcases rv with ⟨hW, rv⟩ | ⟨hW, rv⟩
  · rw [rv] at H
    rcases lsv_5 hS H with ⟨a1, _⟩ | ⟨_, e2, v2, M2, _, H2, H⟩
    · exact absurd a1 o1
    · obtain ⟨rv2, rm2⟩ := isc_0 hS h.ld H2
      rw [rv2, rm2] at H
      rcases lsv_13 hS H with ⟨a2, r1, r2⟩ | ⟨_, a2, r1, r2⟩ | ⟨_, _, a2, r1, r2⟩ | ⟨a2, a3, a4, e3, v3, M3, _, H3, H⟩
      · rw [isc_ok h.lan hD.1] at a2
        exact Or.inl ⟨Or.inr (Or.inl a2), r1, r2 ▸ h⟩
      · rw [g126_R] at a2
        exact Or.inl ⟨Or.inr (Or.inr (Or.inl a2)), r1, r2 ▸ h⟩
      · rw [g126_R] at a2
        exact Or.inl ⟨Or.inr (Or.inr (Or.inr a2)), r1, r2 ▸ h⟩
      · rw [isc_ok h.lan hD.1, Classical.not_not] at a2
        rw [g126_R, Classical.not_not] at a3 a4
        have nl : ¬ (¬ isW P k ∨ ¬ inC P c ∨ ¬ inX ws 1 40 ∨ ¬ inX t 1 200) := fun q => by
          rcases q with q | q | q | q
          · exact q hW
          · exact q a2
          · exact q a3
          · exact q a4
        have y1 : 1 ≤ ws.toInt := a3.1
        have y40 : ws.toInt ≤ 40 := a3.2
        have t1 : 1 ≤ t.toInt := a4.1
        have t200 : t.toInt ≤ 200 := a4.2
        obtain ⟨rv3, q1, qv, _⟩ := opcT_ok h H3
        rw [rv3] at H
        have w1 := hW.1
        have b24 := hD.2.2.2.1
        obtain ⟨_, H⟩ := lsv_48 q1.2.1.sq q1.1.2.1.2.1 H
        rw [wx_oI q1.2.1.2.2.2.2.1 (by omega) (by omega)] at H
        have hcl := q1.2.1.2.2.2.2.2.1
        have lan : LAN 243 (drpP P k) (wF M3 (243 + 12 + k.toInt.toNat) 5 0) := LAN.drp q1.2.1.sq lnd_tr (q1.2.1.lan q1.2.2.1) q1.2.1.2.2.2.2.1 hcl hD h.ok.k60 w1
        obtain ⟨dD, dO⟩ := hD.drp w1
        have d0 := dO 0 (by omega)
        have d1 := dO 1 (by omega)
        have hE : okE (60 * (P 518).toInt.toNat) (drpP P k) := h.ok.2.2.2.sb d0 d1 (fun j hj => dO j (by omega))
        have hF : FZ (fun a f => a = 243 + 12 + k.toInt.toNat ∧ f = 5) noO noO M3 (wF M3 (243 + 12 + k.toInt.toNat) 5 0) := FZ.wF (F := fun a f => a = 243 + 12 + k.toInt.toNat ∧ f = 5) ⟨rfl, rfl⟩
        obtain ⟨x1, x2⟩ := q1.2.1.new q1.2.1.sq.kf (hF.more (fun a k q => by unfold cpF; omega) (fun _ q => q.elim) (fun _ q => q)) lan d0 d1 hE.nn (fun j hj => rN_wF.trans (qv j hj))
        have c1 := q1.1.tri (hF.more (fun a k q => by unfold triF; omega) (fun _ q => q.elim) (fun _ q => q.elim)) (q1.1.2.2.2.2.1.fz hF (by omega) (by omega) (fun _ _ _ q => q)) x1
        have hK : okK (drpP P k) := h.ok.2.1.wis d0 d1 (by rw [dO 12 (by omega)]; exact Int.le_refl _) (fun j hj => dO j (by omega))
        have tr : TRI T P PI (60 * (P 518).toInt.toNat) (-1) [] (drpP P k) (wF M3 (243 + 12 + k.toInt.toNat) 5 0) := ⟨c1, x1, x2, dD, hK, hE, ⟨(hF.fi (by omega)).trans q1.2.2.2.2.2.2.1, (hF.fi (by omega)).trans q1.2.2.2.2.2.2.2⟩⟩
        have H := lsv_61 tr.2.1.sq H
        have hb := h.ok.bud
        have hm : 60 * t.toInt.toNat * ws.toInt.toNat ≤ 60 * 200 * 40 := Nat.mul_le_mul (Nat.mul_le_mul_left _ (by omega)) (by omega)
        obtain ⟨r1, r2⟩ := lsv_l (tt := t.toInt.toNat) (ws := ws) (by omega) a2 ws.toInt.toNat 0 _ _ _ tr d0 d1 (by have z0 : (0 : Int32).toInt = 0 := rfl; omega) (by decide) (by omega) (by omega) (by omega) H
        exact Or.inr ⟨nl, r1, r2⟩
  · rw [rv] at H
    rcases lsv_5 hS H with ⟨_, r1, r2⟩ | ⟨a1, _⟩
    · exact Or.inl ⟨Or.inl hW, r1, r2 ▸ h⟩
    · exact absurd rfl a1
/-! nobodySteps -/
theorem TRI.fen (h : TRI T P0 PI B (-1) [] P M) (hv : ∀ j, j < 1536 → rN M 128 j = -1) (hc : inC P c) : TRI T P0 PI B (-1) [] (layP P c 6) (X_10 M 243 c 6) ∧ (∀ j, j < 1536 → rN (X_10 M 243 c 6) 128 j = -1) ∧ FZ triF triW triO M (X_10 M 243 c 6) := by
  obtain ⟨hC, hX, hl, hD, hK, hE, hf⟩ := h
  obtain ⟨x1, x2, x3⟩ := x10_ok (k := 6) hX.sq hX.ld hX.cel hX.wh hc
  have hs : hiS P (layP P c 6) := lay_hi
  have e0 := hs 0 (by decide)
  have e1 := hs 1 (by decide)
  have hE2 : okE B (layP P c 6) := hE.lay hc (by unfold inX; decide)
  have lan : LAN 243 (layP P c 6) (X_10 M 243 c 6) := (hX.lan hl).hi x3 hs (fun a q => by omega) x2 hD hK.2.1
  have hv2 : ∀ j, j < 1536 → rN (X_10 M 243 c 6) 128 j = -1 := fun j hj => (x3.rn (by omega)).trans (hv j hj)
  obtain ⟨s1, s2⟩ := hX.new x1 (x3.more (fun _ _ q => q.elim) (fun a q => by unfold cpW; omega) (fun _ q => q)) lan e0 e1 hE2.nn hv2
  have f2 : FZ triF triW triO M (X_10 M 243 c 6) := x3.more (fun _ _ q => q.elim) (fun a q => by unfold triW; omega) (fun _ q => q.elim)
  exact ⟨⟨hC.tri f2 (hC.2.2.2.2.1.fz x3 (fun q => q) (fun q => q) (fun a _ _ => by omega)) s1, s1, s2, hs.D hD, hs.K hK, hE2, ⟨(x3.fi (fun q => q)).trans hf.1, (x3.fi (fun q => q)).trans hf.2⟩⟩, hv2, f2⟩
theorem STA.f9 (h : STA L T P M) (hD : okD P) : STA L T P (wF M 104 9 x) := by
  have hF : FZ (fun a k => a = 104 ∧ k = 9) noO noO M (wF M 104 9 x) := FZ.wF (F := fun a k => a = 104 ∧ k = 9) ⟨rfl, rfl⟩
  have hl := ld_cases h.ld
  obtain ⟨a1, a2, a3, a4, a5, a6, a7⟩ := h
  have ok : okF L (fun a k => a = 104 ∧ k = 9) noO noO := ⟨⟨by omega, by omega⟩, fun t ht => ⟨fun k q => by have := tx_cases ht; omega, fun _ _ _ q => q⟩, ⟨fun q => q, fun q => q⟩, fun q => q, fun q => q, fun q => q⟩
  have cr : ∀ c, inC P c → rI (wF M 104 9 x) (L + 8) c = crdP P c (P 157).toInt.toNat := fun c hc => (hF.rn (fun q => q)).trans (a1.2.2.2.2.2.2.2 c hc)
  have lc : LCel L P (wF M 104 9 x) := fun k f hk hf => rN_wF.trans (a1.1.2.2.2.2.2.2 k f hk hf)
  exact ⟨a1.mv a1.1.1.kf hF ok lc rfl rfl a1.2.2.1 cr, a2.mv rfl rfl (fun _ _ => rfl) (fun b j _ => rN_wF), a3.mv hF (by omega) (by omega) (by omega) (by omega) (fun k f _ => by omega) (fun q => q) (fun _ _ => rfl) hD.2.1.2.1 hD.2.2.2.1, ⟨(hF.fi (by omega)).trans a4.1, (hF.fi (by omega)).trans a4.2.1, (hF.fi (by omega)).trans a4.2.2.1, (hF.fi (by omega)).trans a4.2.2.2⟩, fun k hk => (hF.on (fun q => q)).trans (a5 k hk), a6.on (fun j => hF.on (fun q => q)), (hF.fi (by omega)).trans a7⟩
theorem nbs_ok (h : CST T P PI M) (ha : a = -1 ∨ inC P a) (hb : b = -1 ∨ inC P b) (ht : t.toInt = (n : Int)) (hn : n ≤ 100) (H : Ev none e 111 0 [some (.ref 0), some (.int c), some (.int t), some (.int a), some (.int b)] [] M v M' 0 0) : v = some (.int (bI (!trodB T P c n a b))) ∧ CST T P PI M' ∧ FZ triF triW triO M M' := by
  obtain ⟨e1, v1, M1, _, H1, H⟩ := nbs_0 h.sq H
  obtain ⟨rv1, q1, qv, qF⟩ := opcT_ok h H1
  rw [rv1] at H
  have hm1 : ∀ (R : PK) (z : Int32), z = -1 → ¬ inC R z := fun R z hz q => by
    have := q.1
    rw [hz] at this
    exact absurd this (by decide)
  have nn : ∀ (R : PK) (z : Int32), (z = -1 ∨ inC R z) → (inC R z ↔ (0 : Int32) ≤ z) := fun R z hz => by
    have z0 : (0 : Int32).toInt = 0 := rfl
    have zm : (-1 : Int32).toInt = -1 := rfl
    rw [Int32.le_iff_toInt_le]
    constructor
    · intro q
      have := q.1
      omega
    · intro q
      exact hz.resolve_left (fun r => by rw [r] at q; omega)
  have ic : ∀ {N : Mem} {z : Int32} {ee : Nat} {vv : Option Value} {MM : Mem}, CST T P PI N → Ev none ee 127 0 [some (.ref 0), some (.int z)] [] N vv MM 0 0 → MM = N ∧ ∃ r, vv = some (.int r) ∧ (r = 0 ↔ ¬ inC P z) := fun {N z ee vv MM} hN HH => by
    obtain ⟨rv, rm⟩ := isc_0 hN.sq hN.ld HH
    exact ⟨rm, _, rv, isc_ok hN.lan hN.ok.1.1⟩
  obtain ⟨e2, v2, M2, _, H2, H⟩ := nbs_4 q1.2.1.sq H
  obtain ⟨rm2, r2, rv2, hr2⟩ := ic q1.1 H2
  rw [rv2, rm2] at H
  have s1 : ∃ M3, TRI T P PI (60 * (P 518).toInt.toNat) (-1) [] (fen1 P a) M3 ∧ (∀ j, j < 1536 → rN M3 128 j = -1) ∧ FZ triF triW triO M1 M3 ∧ Ev none e 111 22 [some (.ref 0), some (.int c), some (.int t), some (.int a), some (.int b)] [] M3 v M' 0 0 := by
    unfold fen1
    rcases nbs_9 q1.2.1.sq q1.1.2.1.2.1 H with ⟨a1, H⟩ | ⟨a1, H⟩
    · rw [hr2, nn P a ha] at a1
      rw [if_neg a1]
      exact ⟨M1, q1, qv, FZ.refl _, H⟩
    · rw [hr2, Classical.not_not] at a1
      rw [if_pos ((nn P a ha).mp a1)]
      obtain ⟨u1, u2, u3⟩ := q1.fen qv a1
      exact ⟨_, u1, u2, u3, H⟩
  obtain ⟨M3, s1, sv, sF, H⟩ := s1
  obtain ⟨e4, v4, M4, _, H4, H⟩ := nbs_22 s1.2.1.sq H
  obtain ⟨rm4, r4, rv4, hr4⟩ := ic s1.1 H4
  rw [rv4, rm4] at H
  have lo1 : hiS P (fen1 P a) := fen1_lo
  have s5 : ∃ M5, TRI T P PI (60 * (P 518).toInt.toNat) (-1) [] (fenP P a b) M5 ∧ FZ triF triW triO M3 M5 ∧ Ev none e 111 42 [some (.ref 0), some (.int c), some (.int t), some (.int a), some (.int b)] [] M5 v M' 0 0 := by
    unfold fenP
    rcases nbs_28 s1.2.1.sq s1.1.2.1.2.1 H with ⟨a1, H⟩ | ⟨a1, H⟩
    · rw [hr4, nn P b hb] at a1
      rw [show fen1 (fen1 P a) b = fen1 P a from if_neg a1]
      exact ⟨M3, s1, FZ.refl _, H⟩
    · rw [hr4, Classical.not_not] at a1
      rw [show fen1 (fen1 P a) b = layP (fen1 P a) b 6 from if_pos ((nn P b hb).mp a1)]
      obtain ⟨u1, u2, u3⟩ := s1.fen sv ((inC.hi lo1).mpr a1)
      exact ⟨_, u1, u3, H⟩
  obtain ⟨M5, s5, sF5, H⟩ := s5
  obtain ⟨e6, v6, M6, _, H6, H⟩ := nbs_42 s5.2.1.sq H
  obtain ⟨hC5, hX5, hl5, hD5, hK5, hE5, hf5⟩ := s5
  have F9 : FZ (fun a k => a = 104 ∧ k = 9) noO noO M5 (wF M5 104 9 c) := FZ.wF (F := fun a k => a = 104 ∧ k = 9) ⟨rfl, rfl⟩
  have hX6 := hX5.f9 (x := c) hD5
  have lan6 : LAN 243 (fenP P a b) (wF M5 104 9 c) := (hX5.lan hl5).fz F9 (fun a k h1 h2 => by omega) (fun _ _ _ q => q) (fun q => q) hX5.2.2.2.2.2.1 hD5.2.2.2.1 hK5.2.1
  have hf6 : WFl c [] (wF M5 104 9 c) := ⟨fI_wF_eq hX5.sq.1 qa_104 qi_22_9, by rw [fI_wF_ne (by omega), hf5.2, decide_eq_false (by simp), decide_eq_false (by simp)]⟩
  have hbud := h.ok.bud
  obtain ⟨P6, ss6, g1, rv6, w1, w2, w3, w4, w5, w6, w7, w8, w9⟩ := gow_ok hX6 hD5 hK5 hE5 (r := n) (by omega) lan6.2.2.2.1 hf6 ht H6
  rw [rv6] at H
  have c5 : CST T P PI (wF M5 104 9 c) := hC5.tri (F9.more (fun a k q => by unfold triF; omega) (fun _ q => q.elim) (fun _ q => q.elim)) (hC5.2.2.2.2.1.fz F9 (by omega) (by omega) (fun _ _ _ q => q)) hX6
  have c6 := tri_F w7 c5 w1
  have FF : FZ triF triW triO M M6 := (((qF.trans sF).trans sF5).trans (F9.more (fun a k q => by unfold triF; omega) (fun _ q => q.elim) (fun _ q => q.elim))).trans (gw_tri w7)
  have et : trodB T P c n a b = decide (c ∈ ss6) := by unfold trodB; rw [g1]
  rw [et]
  have z10 : zI M6 104 10 = bI (decide (c ∈ ss6)) := w6.2
  rcases nbs_58 w1.sq H with ⟨a1, u1, u2⟩ | ⟨a1, u1, u2⟩
  · rw [z10, bI_0] at a1
    rw [u1, u2, a1]
    exact ⟨rfl, c6, FF⟩
  · rw [z10, bI_0, Bool.not_eq_false] at a1
    rw [u1, u2, a1]
    exact ⟨rfl, c6, FF⟩
end CFEN
/-! FENCES: both sides -/
noncomputable def fe1 (T : TS) (P : PK) (c : Int32) (t : Nat) (o : Nat → Int32) : Nat → Nat → Option (Int32 × Int32 × Int32)
  | 0, _ => none
  | r + 1, i => if trodB T P c t (o i) (-1) = false then some (1, o i, -1) else fe1 T P c t o r (i + 1)
noncomputable def fe2j (T : TS) (P : PK) (c : Int32) (t : Nat) (o : Nat → Int32) (i : Nat) : Nat → Nat → Option (Int32 × Int32 × Int32)
  | 0, _ => none
  | r + 1, j => if trodB T P c t (o i) (o j) = false then some (2, o i, o j) else fe2j T P c t o i r (j + 1)
noncomputable def orE (a b : Option (Int32 × Int32 × Int32)) : Option (Int32 × Int32 × Int32) := match a with
  | some q => some q
  | none => b
noncomputable def fe2 (T : TS) (P : PK) (c : Int32) (t : Nat) (o : Nat → Int32) : Nat → Nat → Option (Int32 × Int32 × Int32)
  | 0, _ => none
  | r + 1, i => orE (fe2j T P c t o i r (i + 1)) (fe2 T P c t o r (i + 1))
noncomputable def fenA (T : TS) (P : PK) (c : Int32) (t : Nat) (o : Nat → Int32) (n : Nat) : Option (Int32 × Int32 × Int32) :=
  if trodB T P c t (-1) (-1) = false then some (0, -1, -1) else orE (fe1 T P c t o n 0) (fe2 T P c t o n 0)
noncomputable def fenR (a : Option (Int32 × Int32 × Int32)) : Int32 := match a with
  | some q => q.1
  | none => -1
def fok (P : PK) (x : Int32) : Prop := inC P x ∧ opnB P x = true ∧ hasP P x = false ∧ wthP P x = false
def fenN (P : PK) (c t z : Int32) (o : Nat → Int32) (n : Nat) : Prop := ¬ inC P c ∨ ¬ inX t 1 100 ∨ ¬ inX z 1 12 ∨ ∃ i, i < n ∧ ¬ fok P (o i)
/-- what the latest fences told, on the class's side and on the reference's -/
def FNc (q : Int32 × Int32 × Int32) (M : Mem) : Prop := zI M 0 14 = q.1 ∧ rN M 343 0 = q.2.1 ∧ rN M 343 1 = q.2.2
def FNr (q : Int32 × Int32 × Int32) (M : Mem) : Prop := zI M 633 53 = q.1 ∧ rN M 656 0 = q.2.1 ∧ rN M 656 1 = q.2.2
section FENC
variable {e B L : Nat} {T T' : TS} {P P' P0 Q : PK} {PI : Nat → PK} {M M0 M1 M' : Mem} {v : Option Value} {c k d x a b t y ws z : Int32} {n i j tt : Nat} {o : Nat → Int32}
theorem fto_l (h : CST T P PI M) (hz : (zI M 1 1).toInt = (n : Int)) (ho : ∀ i, i < n → rN M 2 i = o i) : ∀ (r i : Nat) (iz : Int32) (c4 : Option Value), iz.toInt = (i : Int) → i + r = n → (∀ j, j < i → fok P (o j)) → Ev none e 109 38 [some (.ref 0), some (.int c), some (.int t), some (.int iz), c4] [] M v M' 0 0 → M' = M ∧ ((v = some (.int 1) ∧ ∀ j, j < n → fok P (o j)) ∨ (v = some (.int 0) ∧ ∃ j, j < n ∧ ¬ fok P (o j))) := by
  have ub := i32_any (zI M 1 1)
  have hD := h.ok.1
  intro r
  induction r with
  | zero =>
    intro i iz c4 hi hn hg H
    rcases fto_38 h.sq H with ⟨_, r1, r2⟩ | ⟨a1, _⟩
    · exact ⟨r2, Or.inl ⟨r1, fun j hj => hg j (by omega)⟩⟩
    · exact absurd (Int32.le_iff_toInt_le.mpr (by omega)) a1
  | succ r ih =>
    intro i iz c4 hi hn hg H
    have er : rI M 2 iz = o i := (rI_n hi).trans (ho i (by omega))
    have z0 : (0 : Int32).toInt = 0 := rfl
    rcases fto_38 h.sq H with ⟨a1, _⟩ | ⟨_, _, e1, v1, M1, _, H1, H⟩
    · have := Int32.le_iff_toInt_le.mp a1
      omega
    · rw [er] at H1 H
      obtain ⟨rv1, rm1⟩ := isc_0 h.sq h.ld H1
      rw [rv1, rm1] at H
      rcases fto_66 h.sq h.ld H with ⟨a1, r1, r2⟩ | ⟨a1, a2, r1, r2⟩ | ⟨a1, a2, e2, v2, M2, _, H2, H⟩
      · rw [isc_ok h.lan hD.1] at a1
        exact ⟨r2, Or.inr ⟨r1, i, by omega, fun q => a1 q.1⟩⟩
      · rw [isc_ok h.lan hD.1, Classical.not_not] at a1
        rw [g7L h.lan.2.2.1 a1, bI_0] at a2
        exact ⟨r2, Or.inr ⟨r1, i, by omega, fun q => by have zq := q.2.1; rw [a2] at zq; cases zq⟩⟩
      · rw [isc_ok h.lan hD.1, Classical.not_not] at a1
        rw [g7L h.lan.2.2.1 a1, bI_0, Bool.not_eq_false] at a2
        obtain ⟨rm2, rv2⟩ := hsd_ok h.sq lnd_8 h.lan hD H2
        rw [rv2, rm2] at H
        have hcr : rI M (8 + 8) (o i) = crdP P (o i) (P 157).toInt.toNat := h.lan.2.2.2.2 _ a1
        rcases fto_90 h.sq h.ld H with ⟨b1, b2, _, H⟩ | ⟨b1, b2, _, r1, r2⟩ | ⟨b1, r1, r2⟩
        · rw [bI_0] at b1
          rw [hcr] at b2
          have b2 := Int32.le_iff_toInt_le.mp b2
          have hw : wthP P (o i) = false := by
            rw [Bool.eq_false_iff]
            intro q
            rw [← wth_crd h.ok.k60] at q
            have := Int32.lt_iff_toInt_lt.mp q
            omega
          refine ih (i + 1) (iz + 1) _ (by rw [i32_p1 (by omega)]; omega) (by omega) (fun j hj => ?_) H
          by_cases hji : j = i
          · rw [hji]
            exact ⟨a1, a2, b1, hw⟩
          · exact hg j (by omega)
        · rw [hcr] at b2
          have b2' : ¬ (crdP P (o i) (P 157).toInt.toNat).toInt ≤ (0 : Int32).toInt := fun s => b2 (Int32.le_iff_toInt_le.mpr s)
          have hp : 0 < crdP P (o i) (P 157).toInt.toNat := Int32.lt_iff_toInt_lt.mpr (by omega)
          exact ⟨r2, Or.inr ⟨r1, i, by omega, fun q => by have zq := q.2.2.2; rw [(wth_crd h.ok.k60).mp hp] at zq; cases zq⟩⟩
        · rw [bI_0, Bool.not_eq_false] at b1
          exact ⟨r2, Or.inr ⟨r1, i, by omega, fun q => by have zq := q.2.2.1; rw [b1] at zq; cases zq⟩⟩
theorem fto_ok (h : CST T P PI M) (hz : (zI M 1 1).toInt = (n : Int)) (ho : ∀ i, i < n → rN M 2 i = o i) (H : Ev none e 109 0 [some (.ref 0), some (.int c), some (.int t), none, none] [] M v M' 0 0) : M' = M ∧ ((¬ fenN P c t (zI M 1 1) o n ∧ v = some (.int 1)) ∨ (fenN P c t (zI M 1 1) o n ∧ v = some (.int 0))) := by
  have hD := h.ok.1
  unfold fenN
  obtain ⟨e1, v1, M1, _, H1, H⟩ := fto_0 h.sq H
  obtain ⟨rv1, rm1⟩ := isc_0 h.sq h.ld H1
  rw [rv1, rm1] at H
  rcases fto_5 h.sq H with ⟨a1, r1, r2⟩ | ⟨_, a1, r1, r2⟩ | ⟨_, _, a1, r1, r2⟩ | ⟨a1, a2, a3, H⟩
  · rw [isc_ok h.lan hD.1] at a1
    exact ⟨r2, Or.inr ⟨Or.inl a1, r1⟩⟩
  · rw [g126_R] at a1
    exact ⟨r2, Or.inr ⟨Or.inr (Or.inl a1), r1⟩⟩
  · rw [g126_R] at a1
    exact ⟨r2, Or.inr ⟨Or.inr (Or.inr (Or.inl a1)), r1⟩⟩
  · rw [isc_ok h.lan hD.1, Classical.not_not] at a1
    rw [g126_R, Classical.not_not] at a2 a3
    obtain ⟨rm, rv⟩ := fto_l h hz ho n 0 0 none rfl (by omega) (fun j hj => absurd hj (Nat.not_lt_zero _)) H
    rcases rv with ⟨rv, g⟩ | ⟨rv, i, i1, i2⟩
    · refine ⟨rm, Or.inl ⟨fun q => ?_, rv⟩⟩
      rcases q with q | q | q | ⟨i, i1, i2⟩
      · exact q a1
      · exact q a2
      · exact q a3
      · exact i2 (g i i1)
    · exact ⟨rm, Or.inr ⟨Or.inr (Or.inr (Or.inr ⟨i, i1, i2⟩)), rv⟩⟩
/-- between the trials of fences -/
def FIV (T : TS) (P : PK) (PI : Nat → PK) (z : Int32) (n : Nat) (o : Nat → Int32) (M0 M : Mem) : Prop := CST T P PI M ∧ zI M 1 1 = z ∧ (∀ i, i < n → rN M 2 i = o i) ∧ zI M 0 14 = zI M0 0 14 ∧ ∀ j, rN M 343 j = rN M0 343 j
theorem FIV.tri (h : FIV T P PI z n o M0 M) (hC : CST T P PI M') (hF : FZ triF triW triO M M') : FIV T P PI z n o M0 M' := ⟨hC, (hF.fi (by unfold triF; omega)).trans h.2.1, fun i hi => (hF.rn (by unfold triW; omega)).trans (h.2.2.1 i hi), (hF.fi (by unfold triF; omega)).trans h.2.2.2.1, fun j => (hF.rn (by unfold triW; omega)).trans (h.2.2.2.2 j)⟩
theorem x112_ok {n9 : Int32} (h : CST T P PI M) : CST T P PI (X_112 M n9 a b) ∧ FNc (n9, a, b) (X_112 M n9 a b) := by
  have i0 : (0 : Int32).toNatClampNeg = 0 := rfl
  have i1 : (1 : Int32).toNatClampNeg = 1 := rfl
  unfold X_112
  rw [i0, i1]
  have hF : FZ (fun a k => a = 0 ∧ k = 14) (fun a => a = 343) noO M (wI (wI (wF M 0 14 n9) 343 0 a) 343 1 b) := ((FZ.wF (F := fun a k => a = 0 ∧ k = 14) ⟨rfl, rfl⟩).trans (FZ.wI (W := fun a => a = 343) rfl)).trans (FZ.wI rfl)
  have l1 : (zrw (wF M 0 14 n9) 343).length = 2 := (h.sq.kf.1.row qa_343 qw_59).2
  have l2 : (zrw (wI (wF M 0 14 n9) 343 0 a) 343).length = 2 := (h.sq.kf.ki.1.row qa_343 qw_59).2
  refine ⟨h.scr h.sq.kf.ki.ki hF ⟨by omega, by omega, by omega⟩ (fun L hL _ => ⟨fun a k q1 q2 q => ?_, fun a q1 q2 => ?_⟩) (fun t ht => ⟨fun k q => ?_, fun k k1 k8 => ?_⟩) ⟨fun q => q, fun q => q, fun q => q⟩ (fun _ _ _ q => q) (fun L hL => ⟨fun k hk => (hF.on (fun q => q)).trans ((h.2.2.2.2.2.1 L hL).1 k hk), (h.2.2.2.2.2.1 L hL).2.on (fun j => hF.on (fun q => q))⟩) (h.2.2.2.2.1.fz hF (by omega) (by omega) (fun a _ _ => by omega)) (by omega), ?_, ?_, ?_⟩
  · have := ld_cases hL
    have := q.1
    omega
  · have := ld_cases hL
    omega
  · have := tx_cases ht
    have := q.1
    omega
  · have := tx_cases ht
    omega
  · rw [fI_wI, fI_wI]
    exact fI_wF_eq h.sq.1 qa_0 qi_0_14
  · rw [rN_wI_ne (by omega)]
    exact rN_wI_eq (by omega)
  · exact rN_wI_eq (by omega)
theorem ffe1_l (ht : t.toInt = (tt : Int)) (ht1 : tt ≤ 100) (hz : z.toInt = (n : Int)) (hok : ∀ i, i < n → fok P (o i)) : ∀ (r i : Nat) (iz : Int32) (c4 : Option Value) (M : Mem), FIV T P PI z n o M0 M → iz.toInt = (i : Int) → i + r = n → Ev none e 110 21 [some (.ref 0), some (.int c), some (.int t), some (.int iz), c4] [] M v M' 0 0 → (∃ q, fe1 T P c tt o r i = some q ∧ v = some (.int q.1) ∧ CST T P PI M' ∧ FNc q M') ∨ (fe1 T P c tt o r i = none ∧ ∃ M1, FIV T P PI z n o M0 M1 ∧ ∃ c4, Ev none e 110 75 [some (.ref 0), some (.int c), some (.int t), some (.int 0), c4] [] M1 v M' 0 0) := by
  have ub := i32_any z
  intro r
  induction r with
  | zero =>
    intro i iz c4 M h hi hn H
    rcases ffe_21 h.1.sq H with ⟨_, H⟩ | ⟨a1, _⟩
    · exact Or.inr ⟨rfl, M, h, _, H⟩
    · exact absurd (Int32.le_iff_toInt_le.mpr (by rw [h.2.1]; omega)) a1
  | succ r ih =>
    intro i iz c4 M h hi hn H
    rcases ffe_21 h.1.sq H with ⟨a1, _⟩ | ⟨_, _, e1, v1, M1, _, H1, H⟩
    · rw [h.2.1] at a1
      have := Int32.le_iff_toInt_le.mp a1
      omega
    · have er : rI M 2 iz = o i := (rI_n hi).trans (h.2.2.1 i (by omega))
      rw [er] at H1
      obtain ⟨rv, q1, q2⟩ := nbs_ok h.1 (Or.inr (hok i (by omega)).1) (Or.inl rfl) ht ht1 H1
      rw [rv] at H
      have h1 := h.tri q1 q2
      unfold fe1
      rcases ffe_48 q1.sq H with ⟨a1, H⟩ | ⟨a1, _, r1, r2⟩
      · rw [bI_0, Bool.not_eq_false'] at a1
        rw [if_neg (by rw [a1]; decide)]
        exact ih (i + 1) (iz + 1) c4 M1 h1 (by rw [i32_p1 (by omega)]; omega) (by omega) H
      · rw [bI_0, Bool.not_eq_false'] at a1
        rw [Bool.not_eq_true] at a1
        have er1 : rI M1 2 iz = o i := (rI_n hi).trans (h1.2.2.1 i (by omega))
        rw [er1] at r1 r2
        obtain ⟨u1, u2⟩ := x112_ok (n9 := 1) (a := o i) (b := -1) q1
        rw [if_pos a1]
        exact Or.inl ⟨_, rfl, r1, r2 ▸ u1, r2 ▸ u2⟩
theorem ffe2j_l (ht : t.toInt = (tt : Int)) (ht1 : tt ≤ 100) (hz : z.toInt = (n : Int)) (hok : ∀ i, i < n → fok P (o i)) {i : Nat} {iz : Int32} (hi : iz.toInt = (i : Int)) (hin : i < n) : ∀ (r j : Nat) (jz : Int32) (M : Mem), FIV T P PI z n o M0 M → jz.toInt = (j : Int) → j + r = n → Ev none e 110 91 [some (.ref 0), some (.int c), some (.int t), some (.int iz), some (.int jz)] [] M v M' 0 0 → (∃ q, fe2j T P c tt o i r j = some q ∧ v = some (.int q.1) ∧ CST T P PI M' ∧ FNc q M') ∨ (fe2j T P c tt o i r j = none ∧ ∃ M1, FIV T P PI z n o M0 M1 ∧ ∃ c4, Ev none e 110 75 [some (.ref 0), some (.int c), some (.int t), some (.int (iz + 1)), c4] [] M1 v M' 0 0) := by
  have ub := i32_any z
  intro r
  induction r with
  | zero =>
    intro j jz M h hj hn H
    rcases ffe_91 h.1.sq H with ⟨_, H⟩ | ⟨a1, _⟩
    · exact Or.inr ⟨rfl, M, h, _, H⟩
    · exact absurd (Int32.le_iff_toInt_le.mpr (by rw [h.2.1]; omega)) a1
  | succ r ih =>
    intro j jz M h hj hn H
    rcases ffe_91 h.1.sq H with ⟨a1, _⟩ | ⟨_, _, _, e1, v1, M1, _, H1, H⟩
    · rw [h.2.1] at a1
      have := Int32.le_iff_toInt_le.mp a1
      omega
    · have er : rI M 2 iz = o i := (rI_n hi).trans (h.2.2.1 i hin)
      have es : rI M 2 jz = o j := (rI_n hj).trans (h.2.2.1 j (by omega))
      rw [er, es] at H1
      obtain ⟨rv, q1, q2⟩ := nbs_ok h.1 (Or.inr (hok i hin).1) (Or.inr (hok j (by omega)).1) ht ht1 H1
      rw [rv] at H
      have h1 := h.tri q1 q2
      unfold fe2j
      rcases ffe_128 q1.sq H with ⟨a1, H⟩ | ⟨a1, _, _, r1, r2⟩
      · rw [bI_0, Bool.not_eq_false'] at a1
        rw [if_neg (by rw [a1]; decide)]
        exact ih (j + 1) (jz + 1) M1 h1 (by rw [i32_p1 (by omega)]; omega) (by omega) H
      · rw [bI_0, Bool.not_eq_false'] at a1
        rw [Bool.not_eq_true] at a1
        have er1 : rI M1 2 iz = o i := (rI_n hi).trans (h1.2.2.1 i hin)
        have es1 : rI M1 2 jz = o j := (rI_n hj).trans (h1.2.2.1 j (by omega))
        rw [er1, es1] at r1 r2
        obtain ⟨u1, u2⟩ := x112_ok (n9 := 2) (a := o i) (b := o j) q1
        rw [if_pos a1]
        exact Or.inl ⟨_, rfl, r1, r2 ▸ u1, r2 ▸ u2⟩
theorem ffe2_l (ht : t.toInt = (tt : Int)) (ht1 : tt ≤ 100) (hz : z.toInt = (n : Int)) (hok : ∀ i, i < n → fok P (o i)) : ∀ (r i : Nat) (iz : Int32) (c4 : Option Value) (M : Mem), FIV T P PI z n o M0 M → iz.toInt = (i : Int) → i + r = n → Ev none e 110 75 [some (.ref 0), some (.int c), some (.int t), some (.int iz), c4] [] M v M' 0 0 → (∃ q, fe2 T P c tt o r i = some q ∧ v = some (.int q.1) ∧ CST T P PI M' ∧ FNc q M') ∨ (fe2 T P c tt o r i = none ∧ v = some (.int (-1)) ∧ FIV T P PI z n o M0 M') := by
  have ub := i32_any z
  intro r
  induction r with
  | zero =>
    intro i iz c4 M h hi hn H
    rcases ffe_75 h.1.sq H with ⟨_, r1, r2⟩ | ⟨a1, _⟩
    · exact Or.inr ⟨rfl, r1, r2 ▸ h⟩
    · exact absurd (Int32.le_iff_toInt_le.mpr (by rw [h.2.1]; omega)) a1
  | succ r ih =>
    intro i iz c4 M h hi hn H
    rcases ffe_75 h.1.sq H with ⟨a1, _⟩ | ⟨_, H⟩
    · rw [h.2.1] at a1
      have := Int32.le_iff_toInt_le.mp a1
      omega
    · have e1 : (iz + 1).toInt = ((i + 1 : Nat) : Int) := by rw [i32_p1 (by omega)]; omega
      unfold fe2
      rcases ffe2j_l ht ht1 hz hok hi (by omega) r (i + 1) (iz + 1) M h e1 (by omega) H with ⟨q, q1, q2, q3, q4⟩ | ⟨q1, M1, q2, c5, H⟩
      · rw [q1]
        exact Or.inl ⟨q, rfl, q2, q3, q4⟩
      · rw [q1]
        exact ih (i + 1) (iz + 1) c5 M1 q2 e1 (by omega) H
theorem fences_ok (h : CST T P PI M) (hz : (zI M 1 1).toInt = (n : Int)) (ho : ∀ i, i < n → rN M 2 i = o i) (H : Ev none e 108 0 [some (.ref 0), some (.int c), some (.int t), none] [] M v M' 0 0) : CST T P PI M' ∧ ((fenN P c t (zI M 1 1) o n ∧ v = some (.int (-2)) ∧ M' = wF M 1 1 0) ∨ (¬ fenN P c t (zI M 1 1) o n ∧ v = some (.int (fenR (fenA T P c t.toInt.toNat o n))) ∧ (∀ q, fenA T P c t.toInt.toNat o n = some q → FNc q M') ∧ (fenA T P c t.toInt.toNat o n = none → zI M' 0 14 = zI M 0 14 ∧ ∀ j, rN M' 343 j = rN M 343 j))) := by
  obtain ⟨e1, v1, M1, _, H1, H⟩ := fnc_0 h.sq H
  obtain ⟨rm, rv⟩ := fto_ok h hz ho H1
  rw [rm] at H
  have o1 : ¬ ((1 : Int32) = 0) := by decide
  rcases rv with ⟨hN, rv⟩ | ⟨hN, rv⟩
  · rw [rv] at H
    rcases fnc_6 h.sq H with ⟨q, _⟩ | ⟨_, e2, v2, M2, _, H2, H⟩
    · exact absurd q o1
    · have hok : ∀ i, i < n → fok P (o i) := fun i hi => Classical.not_not.mp (fun q => hN (Or.inr (Or.inr (Or.inr ⟨i, hi, q⟩))))
      have ht : inX t 1 100 := Classical.not_not.mp (fun q => hN (Or.inr (Or.inl q)))
      have t1 : 1 ≤ t.toInt := ht.1
      have t100 : t.toInt ≤ 100 := ht.2
      have ht2 : t.toInt = (t.toInt.toNat : Int) := by omega
      have iv0 : FIV T P PI (zI M 1 1) n o M M := ⟨h, rfl, ho, rfl, fun _ => rfl⟩
      have fin : (∃ q, fenA T P c t.toInt.toNat o n = some q ∧ v2 = some (.int q.1) ∧ CST T P PI M2 ∧ FNc q M2) ∨ (fenA T P c t.toInt.toNat o n = none ∧ v2 = some (.int (-1)) ∧ FIV T P PI (zI M 1 1) n o M M2) := by
        obtain ⟨e3, v3, M3, _, H3, H2⟩ := ffe_0 h.sq H2
        obtain ⟨rv3, q1, q2⟩ := nbs_ok h (Or.inl rfl) (Or.inl rfl) ht2 (by omega) H3
        rw [rv3] at H2
        have h1 := iv0.tri q1 q2
        unfold fenA
        rcases ffe_8 q1.sq H2 with ⟨a1, H2⟩ | ⟨a1, r1, r2⟩
        · rw [bI_0, Bool.not_eq_false'] at a1
          rw [if_neg (by rw [a1]; decide)]
          rcases ffe1_l ht2 (by omega) hz hok n 0 0 none M3 h1 rfl (by omega) H2 with ⟨q, s1, s2, s3, s4⟩ | ⟨s1, M4, s2, c5, H2⟩
          · rw [s1]
            exact Or.inl ⟨q, rfl, s2, s3, s4⟩
          · rw [s1]
            exact ffe2_l ht2 (by omega) hz hok n 0 0 c5 M4 s2 rfl (by omega) H2
        · rw [bI_0, Bool.not_eq_false'] at a1
          rw [Bool.not_eq_true] at a1
          obtain ⟨u1, u2⟩ := x112_ok (n9 := 0) (a := -1) (b := -1) q1
          rw [if_pos a1]
          exact Or.inl ⟨_, rfl, r1, r2 ▸ u1, r2 ▸ u2⟩
      have f14 : ∀ N : Mem, zI (wF N 1 1 0) 0 14 = zI N 0 14 := fun N => fI_wF_ne (by decide)
      rcases fin with ⟨q, s1, s2, s3, s4⟩ | ⟨s1, s2, s3⟩
      · rw [s2] at H
        obtain ⟨r1, r2⟩ := fnc_15 s3.sq H
        rw [s1]
        refine ⟨r2 ▸ s3.tp, Or.inr ⟨hN, r1, fun q' hq => ?_, fun hq => by cases hq⟩⟩
        cases hq
        rw [r2]
        exact ⟨(f14 _).trans s4.1, rN_wF.trans s4.2.1, rN_wF.trans s4.2.2⟩
      · rw [s2] at H
        obtain ⟨r1, r2⟩ := fnc_15 s3.1.sq H
        rw [s1]
        refine ⟨r2 ▸ s3.1.tp, Or.inr ⟨hN, r1, (fun q' hq => by cases hq), fun _ => ?_⟩⟩
        rw [r2]
        exact ⟨(f14 _).trans s3.2.2.2.1, fun j => rN_wF.trans (s3.2.2.2.2 j)⟩
  · rw [rv] at H
    rcases fnc_6 h.sq H with ⟨_, r1, r2⟩ | ⟨a1, _⟩
    · exact ⟨r2 ▸ h.tp, Or.inl ⟨hN, r1, r2⟩⟩
    · exact absurd rfl a1
end FENC
/-! FENCES: the reference's -/
section RFEN
variable {e B L : Nat} {T T' : TS} {P P' P0 Q : PK} {M M0 M1 M' : Mem} {v : Option Value} {c k d x a b t y ws z f : Int32} {n i j tt : Nat} {o : Nat → Int32}
theorem rfn_t (h : RST T P M) (hD : okD P) (hK : okK P) (hz : (zI M 633 3).toInt = (n : Int)) (ho : ∀ i, i < n → rN M 634 i &&& 255 = o i) : ∀ (r i : Nat) (iz : Int32), iz.toInt = (i : Int) → i + r = n → (∀ j, j < i → fok P (o j)) → Ev none e 235 45 [some (.ref 633), some (.int c), some (.int t), some (.int iz), none, none] [] M v M' 0 0 → (v = some (.int (-2)) ∧ M' = M ∧ ∃ j, j < n ∧ ¬ fok P (o j)) ∨ ((∀ j, j < n → fok P (o j)) ∧ ∃ jz, Ev none e 235 110 [some (.ref 633), some (.int c), some (.int t), some (.int jz), none, none] [] M v M' 0 0) := by
  have ub := i32_any (zI M 633 3)
  intro r
  induction r with
  | zero =>
    intro i iz hi hn hg H
    rcases rfn_45 h.1 H with ⟨_, H⟩ | ⟨a1, _⟩ | ⟨a1, _⟩ | ⟨a1, _⟩
    · exact Or.inr ⟨fun j hj => hg j (by omega), _, H⟩
    all_goals exact absurd (Int32.le_iff_toInt_le.mpr (by omega)) a1
  | succ r ih =>
    intro i iz hi hn hg H
    have er : G_142 M iz = o i := by
      unfold G_142
      rw [rI_n hi]
      exact ho i (by omega)
    rcases rfn_45 h.1 H with ⟨a1, _⟩ | ⟨_, a1, r1, r2⟩ | ⟨_, a1, a2, r1, r2⟩ | ⟨_, a1, a2, e1, v1, M1, _, H1, H⟩
    · have := Int32.le_iff_toInt_le.mp a1
      omega
    · rw [er, g145_ok h hD.1] at a1
      exact Or.inl ⟨r1, r2, i, by omega, fun q => a1 q.1⟩
    · rw [er, g145_ok h hD.1, Classical.not_not] at a1
      rw [er, g148_ok h hD.1 a1, bI_0] at a2
      exact Or.inl ⟨r1, r2, i, by omega, fun q => by have zq := q.2.1; rw [a2] at zq; cases zq⟩
    · rw [er, g145_ok h hD.1, Classical.not_not] at a1
      rw [er, g148_ok h hD.1 a1, bI_0, Bool.not_eq_false] at a2
      rw [er] at H1
      obtain ⟨rm, rv⟩ := rda_ok h hD H1
      rw [rv, rm] at H
      rcases rfn_86 h.1 H with ⟨b1, e2, v2, M2, _, H2, H⟩ | ⟨b1, r1, r2⟩
      · rw [bI_0] at b1
        rw [er] at H2
        obtain ⟨rm2, rv2⟩ := rwa_ok h hK H2
        rw [rv2, rm2] at H
        rcases rfn_98 h.1 H with ⟨b2, H⟩ | ⟨b2, r1, r2⟩
        · rw [bI_0] at b2
          refine ih (i + 1) (iz + 1) (by rw [i32_p1 (by omega)]; omega) (by omega) (fun j hj => ?_) H
          by_cases hji : j = i
          · rw [hji]
            exact ⟨a1, a2, b1, b2⟩
          · exact hg j (by omega)
        · rw [bI_0, Bool.not_eq_false] at b2
          exact Or.inl ⟨r1, r2, i, by omega, fun q => by have zq := q.2.2.2; rw [b2] at zq; cases zq⟩
      · rw [bI_0, Bool.not_eq_false] at b1
        exact Or.inl ⟨r1, r2, i, by omega, fun q => by have zq := q.2.2.1; rw [b1] at zq; cases zq⟩
def RIV (T : TS) (P : PK) (c z : Int32) (n : Nat) (o : Nat → Int32) (M0 M : Mem) : Prop := RST T P M ∧ (∃ b, zI M 633 42 = bI b) ∧ zI M 633 40 = c ∧ zI M 633 3 = z ∧ (∀ i, i < n → rN M 634 i &&& 255 = o i) ∧ zI M 633 53 = zI M0 633 53 ∧ ∀ j, rN M 656 j = rN M0 656 j
theorem RIV.it (h : RIV T P c z n o M0 M) (hR : RST T P M') (hb : ∃ b, zI M' 633 42 = bI b) (h40 : zI M' 633 40 = zI M 633 40) (hF : FZ rkF ritW noO M M') : RIV T P c z n o M0 M' := ⟨hR, hb, h40.trans h.2.2.1, (hF.fi (by unfold rkF; omega)).trans h.2.2.2.1, fun i hi => by rw [hF.rn (by unfold ritW; decide)]; exact h.2.2.2.2.1 i hi, (hF.fi (by unfold rkF; omega)).trans h.2.2.2.2.2.1, fun j => (hF.rn (by unfold ritW; decide)).trans (h.2.2.2.2.2.2 j)⟩
theorem RIV.oc (h : RIV T P c z n o M0 M) {iz : Int32} (hi : iz.toInt = (i : Int)) (hin : i < n) : G_142 M iz = o i := by
  unfold G_142
  rw [rI_n hi]
  exact h.2.2.2.2.1 i hin
/-- what fences tells in the end -/
def FRE (T : TS) (P : PK) (z : Int32) (M0 : Mem) (r : Option (Int32 × Int32 × Int32)) (v : Option Value) (M' : Mem) : Prop := v = some (.int (fenR r)) ∧ RST T P M' ∧ (∀ q, r = some q → FNr q M') ∧ (r = none → zI M' 633 53 = zI M0 633 53 ∧ ∀ j, rN M' 656 j = rN M0 656 j)
theorem x234_ok {n9 : Int32} (h : RST T P M) : RST T P (X_234 M n9 a b) ∧ FNr (n9, a, b) (X_234 M n9 a b) ∧ zI (X_234 M n9 a b) 633 3 = zI M 633 3 := by
  have i0 : (0 : Int32).toNatClampNeg = 0 := rfl
  have i1 : (1 : Int32).toNatClampNeg = 1 := rfl
  unfold X_234
  rw [i0, i1]
  have hF : FZ (fun a k => a = 633 ∧ k = 53) (fun a => a = 656) noO M (wI (wI (wF M 633 53 n9) 656 0 a) 656 1 b) := ((FZ.wF (F := fun a k => a = 633 ∧ k = 53) ⟨rfl, rfl⟩).trans (FZ.wI (W := fun a => a = 656) rfl)).trans (FZ.wI rfl)
  have l1 : (zrw (wF M 633 53 n9) 656).length = 2 := (h.1.kf.1.row qa_656 qw_84).2
  have l2 : (zrw (wI (wF M 633 53 n9) 656 0 a) 656).length = 2 := (h.1.kf.ki.1.row qa_656 qw_84).2
  refine ⟨h.fz h.1.kf.ki.ki hF (fun k h1 h2 q => by omega) (fun a ha q => by omega), ⟨?_, ?_, ?_⟩, hF.fi (by omega)⟩
  · rw [fI_wI, fI_wI]
    exact fI_wF_eq h.1.1 qa_633 qi_61_53
  · rw [rN_wI_ne (by omega)]
    exact rN_wI_eq (by omega)
  · exact rN_wI_eq (by omega)
/-- found: nothing more is tried -/
theorem rfn_o190 {i5 : Int32} {c5 : Option Value} (h : RST T P M) (hf : 0 ≤ f) (hq : FNr (f, a, b) M) (H : Ev none e 235 190 [some (.ref 633), some (.int c), some (.int t), some (.int f), some (.int i5), c5] [] M v M' 0 0) : FRE T P z M0 (some (f, a, b)) v M' := by
  have g : ∀ r2 : M' = wF M 633 40 (-1), v = some (.int f) → FRE T P z M0 (some (f, a, b)) v M' := fun r2 r1 => by
    refine ⟨r1, r2 ▸ h.w0 40 (by decide) _, fun q hq' => ?_, fun q => by cases q⟩
    cases hq'
    rw [r2]
    exact ⟨(fI_wF_ne (by decide)).trans hq.1, rN_wF.trans hq.2.1, rN_wF.trans hq.2.2⟩
  rcases rfn_190 h.1 H with ⟨_, r1, r2⟩ | ⟨_, _, r1, r2⟩ | ⟨_, a1, _⟩
  · exact g r2 r1
  · exact g r2 r1
  · exact absurd hf a1
theorem rfn_o140 {i5 : Int32} {c5 : Option Value} (h : RST T P M) (hf : 0 ≤ f) (hq : FNr (f, a, b) M) (H : Ev none e 235 140 [some (.ref 633), some (.int c), some (.int t), some (.int f), some (.int i5), c5] [] M v M' 0 0) : FRE T P z M0 (some (f, a, b)) v M' := by
  rcases rfn_140 h.1 H with ⟨_, H⟩ | ⟨_, _, H⟩ | ⟨_, a1, _⟩
  · exact rfn_o190 h hf hq H
  · exact rfn_o190 h hf hq H
  · exact absurd hf a1
theorem rfn_o209 {i5 j5 : Int32} (h : RST T P M) (hf : 0 ≤ f) (hq : FNr (f, a, b) M) (H : Ev none e 235 209 [some (.ref 633), some (.int c), some (.int t), some (.int f), some (.int i5), some (.int j5)] [] M v M' 0 0) : FRE T P z M0 (some (f, a, b)) v M' := by
  rcases rfn_209 h.1 H with ⟨_, H⟩ | ⟨_, _, H⟩ | ⟨_, a1, _⟩
  · exact rfn_o190 h hf hq H
  · exact rfn_o190 h hf hq H
  · exact absurd hf a1
theorem nf1 : ¬ (0 : Int32) ≤ -1 := by decide
theorem rfn2j_l (hD : okD P) (hK : okK P) (ht : t.toInt = (tt : Int)) (hz : z.toInt = (n : Int)) (hok : ∀ i, i < n → fok P (o i)) {i : Nat} {iz : Int32} (hi : iz.toInt = (i : Int)) (hin : i < n) : ∀ (r j : Nat) (jz : Int32) (M : Mem), RIV T P c z n o M0 M → jz.toInt = (j : Int) → j + r = n → Ev none e 235 209 [some (.ref 633), some (.int c), some (.int t), some (.int (-1)), some (.int iz), some (.int jz)] [] M v M' 0 0 → (∃ q, fe2j T P c tt o i r j = some q ∧ FRE T P z M0 (some q) v M') ∨ (fe2j T P c tt o i r j = none ∧ ∃ M1, RIV T P c z n o M0 M1 ∧ ∃ c5, Ev none e 235 190 [some (.ref 633), some (.int c), some (.int t), some (.int (-1)), some (.int (iz + 1)), c5] [] M1 v M' 0 0) := by
  have ub := i32_any z
  intro r
  induction r with
  | zero =>
    intro j jz M h hj hn H
    rcases rfn_209 h.1.1 H with ⟨_, H⟩ | ⟨a1, _⟩ | ⟨a1, _⟩
    · exact Or.inr ⟨rfl, M, h, _, H⟩
    all_goals exact absurd (Int32.le_iff_toInt_le.mpr (by rw [h.2.2.2.1]; omega)) a1
  | succ r ih =>
    intro j jz M h hj hn H
    rcases rfn_209 h.1.1 H with ⟨a1, _⟩ | ⟨_, a1, _⟩ | ⟨_, _, e1, v1, M1, _, H1, H⟩
    · rw [h.2.2.2.1] at a1
      have := Int32.le_iff_toInt_le.mp a1
      omega
    · exact absurd a1 nf1
    · rw [h.oc hi hin, h.oc hj (by omega)] at H1
      obtain ⟨rv, q1, q2, q3, q4⟩ := ritro_ok h.1 hD hK h.2.1 (Or.inr (hok i hin).1) (Or.inr (hok j (by omega)).1) ht H1
      rw [h.2.2.1] at rv
      rw [rv] at H
      have h1 := h.it q1 q3 q2 q4
      unfold fe2j
      rcases rfn_239 h1.1.1 H with ⟨a1, H⟩ | ⟨a1, H⟩
      · rw [bI_0] at a1
        rw [if_pos a1]
        rw [h1.oc hi hin, h1.oc hj (by omega)] at H
        obtain ⟨u1, u2, _⟩ := x234_ok (n9 := 2) (a := o i) (b := o j) h1.1
        exact Or.inl ⟨_, rfl, rfn_o209 u1 (by decide) u2 H⟩
      · rw [bI_0, Bool.not_eq_false] at a1
        rw [if_neg (by rw [a1]; decide)]
        exact ih (j + 1) (jz + 1) M1 h1 (by rw [i32_p1 (by omega)]; omega) (by omega) H
theorem rfn2_l (hD : okD P) (hK : okK P) (ht : t.toInt = (tt : Int)) (hz : z.toInt = (n : Int)) (hok : ∀ i, i < n → fok P (o i)) : ∀ (r i : Nat) (iz : Int32) (c5 : Option Value) (M : Mem), RIV T P c z n o M0 M → iz.toInt = (i : Int) → i + r = n → Ev none e 235 190 [some (.ref 633), some (.int c), some (.int t), some (.int (-1)), some (.int iz), c5] [] M v M' 0 0 → FRE T P z M0 (fe2 T P c tt o r i) v M' := by
  have ub := i32_any z
  intro r
  induction r with
  | zero =>
    intro i iz c5 M h hi hn H
    rcases rfn_190 h.1.1 H with ⟨_, r1, r2⟩ | ⟨a1, _⟩ | ⟨a1, _⟩
    · refine ⟨r1, r2 ▸ h.1.w0 40 (by decide) _, (fun q hq => by cases hq), fun _ => ?_⟩
      rw [r2]
      exact ⟨(fI_wF_ne (by decide)).trans h.2.2.2.2.2.1, fun j => rN_wF.trans (h.2.2.2.2.2.2 j)⟩
    all_goals exact absurd (Int32.le_iff_toInt_le.mpr (by rw [h.2.2.2.1]; omega)) a1
  | succ r ih =>
    intro i iz c5 M h hi hn H
    rcases rfn_190 h.1.1 H with ⟨a1, _⟩ | ⟨_, a1, _⟩ | ⟨_, _, H⟩
    · rw [h.2.2.2.1] at a1
      have := Int32.le_iff_toInt_le.mp a1
      omega
    · exact absurd a1 nf1
    · have e1 : (iz + 1).toInt = ((i + 1 : Nat) : Int) := by rw [i32_p1 (by omega)]; omega
      unfold fe2
      rcases rfn2j_l hD hK ht hz hok hi (by omega) r (i + 1) (iz + 1) M h e1 (by omega) H with ⟨q, q1, q2⟩ | ⟨q1, M1, q2, c6, H⟩
      · rw [q1]
        exact q2
      · rw [q1]
        exact ih (i + 1) (iz + 1) c6 M1 q2 e1 (by omega) H
theorem rfn1_l (hD : okD P) (hK : okK P) (ht : t.toInt = (tt : Int)) (hz : z.toInt = (n : Int)) (hok : ∀ i, i < n → fok P (o i)) : ∀ (r i : Nat) (iz : Int32) (c5 : Option Value) (M : Mem), RIV T P c z n o M0 M → iz.toInt = (i : Int) → i + r = n → Ev none e 235 140 [some (.ref 633), some (.int c), some (.int t), some (.int (-1)), some (.int iz), c5] [] M v M' 0 0 → FRE T P z M0 (orE (fe1 T P c tt o r i) (fe2 T P c tt o n 0)) v M' := by
  have ub := i32_any z
  intro r
  induction r with
  | zero =>
    intro i iz c5 M h hi hn H
    rcases rfn_140 h.1.1 H with ⟨_, H⟩ | ⟨a1, _⟩ | ⟨a1, _⟩
    · exact rfn2_l hD hK ht hz hok n 0 0 c5 M h rfl (by omega) H
    all_goals exact absurd (Int32.le_iff_toInt_le.mpr (by rw [h.2.2.2.1]; omega)) a1
  | succ r ih =>
    intro i iz c5 M h hi hn H
    rcases rfn_140 h.1.1 H with ⟨a1, _⟩ | ⟨_, a1, _⟩ | ⟨_, _, e1, v1, M1, _, H1, H⟩
    · rw [h.2.2.2.1] at a1
      have := Int32.le_iff_toInt_le.mp a1
      omega
    · exact absurd a1 nf1
    · rw [h.oc hi (by omega)] at H1
      obtain ⟨rv, q1, q2, q3, q4⟩ := ritro_ok h.1 hD hK h.2.1 (Or.inr (hok i (by omega)).1) (Or.inl rfl) ht H1
      rw [h.2.2.1] at rv
      rw [rv] at H
      have h1 := h.it q1 q3 q2 q4
      unfold fe1
      rcases rfn_165 h1.1.1 H with ⟨a1, H⟩ | ⟨a1, H⟩
      · rw [bI_0] at a1
        rw [if_pos a1]
        rw [h1.oc hi (by omega)] at H
        obtain ⟨u1, u2, _⟩ := x234_ok (n9 := 1) (a := o i) (b := -1) h1.1
        exact rfn_o140 u1 (by decide) u2 H
      · rw [bI_0, Bool.not_eq_false] at a1
        rw [if_neg (by rw [a1]; decide)]
        exact ih (i + 1) (iz + 1) c5 M1 h1 (by rw [i32_p1 (by omega)]; omega) (by omega) H
theorem rfences_ok (hR : RST T P M) (hD : okD P) (hK : okK P) (hb : ∃ b, zI M 633 42 = bI b) (hz : (zI M 633 2).toInt = (n : Int)) (ho : ∀ k, k < n → rN M 634 k &&& 255 = o k) (H : Ev none e 235 0 [some (.ref 633), some (.int c), some (.int t), none, none, none] [] M v M' 0 0) : (fenN P c t (zI M 633 2) o n ∧ v = some (.int (-2)) ∧ RST T P M' ∧ zI M' 633 53 = zI M 633 53 ∧ ∀ j, rN M' 656 j = rN M 656 j) ∨ (¬ fenN P c t (zI M 633 2) o n ∧ FRE T P (zI M 633 2) M (fenA T P c t.toInt.toNat o n) v M') := by
  have h0 : RST T P (X_139 (wF M 633 0 0)) := by
    unfold X_139
    exact (((hR.w0 0 (by decide) 0).w0 3 (by decide) _).w0 2 (by decide) 0).w0 4 (by decide) 0
  have z3 : zI (X_139 (wF M 633 0 0)) 633 3 = zI M 633 2 := by
    unfold X_139
    rw [fI_wF_ne (by decide), fI_wF_ne (by decide), fI_wF_eq hR.1.kf.1 qa_633 qi_61_3, fI_wF_ne (by decide)]
  have zo : ∀ k, k ≠ 0 → k ≠ 2 → k ≠ 3 → k ≠ 4 → zI (X_139 (wF M 633 0 0)) 633 k = zI M 633 k := fun k h1 h2 h3 h4 => by
    unfold X_139
    rw [fI_wF_ne (by omega), fI_wF_ne (by omega), fI_wF_ne (by omega), fI_wF_ne (by omega)]
  have rr : ∀ a j, rN (X_139 (wF M 633 0 0)) a j = rN M a j := fun a j => by
    unfold X_139
    rw [rN_wF, rN_wF, rN_wF, rN_wF]
  obtain ⟨N, eN⟩ : ∃ N, N = X_139 (wF M 633 0 0) := ⟨_, rfl⟩
  have H9 := rfn_0 hR.1 H
  rw [← eN] at h0 z3 zo rr H9
  have no : RST T P N ∧ zI N 633 53 = zI M 633 53 ∧ ∀ j, rN N 656 j = rN M 656 j := ⟨h0, zo 53 (by decide) (by decide) (by decide) (by decide), fun j => rr 656 j⟩
  unfold fenN
  rcases H9 with ⟨a1, r1, r2⟩ | ⟨_, a1, r1, r2⟩ | ⟨_, _, a1, r1, r2⟩ | ⟨a1, a2, a3, H⟩
  · rw [g145_ok h0 hD.1] at a1
    exact Or.inl ⟨Or.inl a1, r1, r2 ▸ no⟩
  · rw [g140_R] at a1
    exact Or.inl ⟨Or.inr (Or.inl a1), r1, r2 ▸ no⟩
  · rw [g140_R, z3] at a1
    exact Or.inl ⟨Or.inr (Or.inr (Or.inl a1)), r1, r2 ▸ no⟩
  · rw [g145_ok h0 hD.1, Classical.not_not] at a1
    rw [g140_R, Classical.not_not] at a2 a3
    rw [z3] at a3
    have t1 : 1 ≤ t.toInt := a2.1
    rcases rfn_t (o := o) h0 hD hK (by rw [z3]; exact hz) (fun i hi => by rw [rr]; exact ho i hi) n 0 0 rfl (by omega) (fun j hj => absurd hj (Nat.not_lt_zero _)) H with ⟨r1, r2, i, i1, i2⟩ | ⟨hok, jz, H⟩
    · exact Or.inl ⟨Or.inr (Or.inr (Or.inr ⟨i, i1, i2⟩)), r1, r2 ▸ no⟩
    · refine Or.inr ⟨fun q => ?_, ?_⟩
      · rcases q with q | q | q | ⟨i, i1, i2⟩
        · exact q a1
        · exact q a2
        · exact q a3
        · exact i2 (hok i i1)
      · obtain ⟨e1, v1, M1, _, H1, H⟩ := rfn_110 h0.1 H
        have ht2 : t.toInt = (t.toInt.toNat : Int) := by omega
        have u0 := h0.w0 40 (by decide) c
        have iv : RIV T P c (zI M 633 2) n o M (wF N 633 40 c) := ⟨u0, by obtain ⟨b, hb⟩ := hb; exact ⟨b, by rw [fI_wF_ne (by decide), zo 42 (by decide) (by decide) (by decide) (by decide)]; exact hb⟩, fI_wF_eq h0.1.1 qa_633 qi_61_40, by rw [fI_wF_ne (by decide)]; exact z3, fun i hi => by rw [rN_wF, rr]; exact ho i hi, by rw [fI_wF_ne (by decide)]; exact no.2.1, fun j => rN_wF.trans (no.2.2 j)⟩
        obtain ⟨rv, q1, q2, q3, q4⟩ := ritro_ok u0 hD hK iv.2.1 (Or.inl rfl) (Or.inl rfl) ht2 H1
        rw [iv.2.2.1] at rv
        rw [rv] at H
        have h1 := iv.it q1 q3 q2 q4
        unfold fenA
        rcases rfn_122 h1.1.1 H with ⟨b1, H⟩ | ⟨b1, H⟩
        · rw [bI_0] at b1
          rw [if_pos b1]
          obtain ⟨w1, w2, _⟩ := x234_ok (n9 := 0) (a := -1) (b := -1) h1.1
          exact rfn_o140 w1 (by decide) w2 H
        · rw [bI_0, Bool.not_eq_false] at b1
          rw [if_neg (by rw [b1]; decide)]
          exact rfn1_l hD hK ht2 hz hok n 0 0 none M1 h1 rfl (by omega) H
end RFEN
/-! THE CLASS'S calls that keep the state: rests, paved, wait, pieces, least, longer -/
set_option maxRecDepth 200000 in
theorem mx_all : (gNth mRs 15).map (fun q => q.2.2.2.1) = some 3 ∧ (gNth mRs 16).map (fun q => q.2.2.2.1) = some 4 ∧ (gNth mRs 17).map (fun q => q.2.2.2.1) = some 5 ∧ (gNth mRs 18).map (fun q => q.2.2.2.1) = some 4 ∧ (gNth mRs 19).map (fun q => q.2.2.2.1) = some 7 ∧ (gNth mRs 21).map (fun q => q.2.2.2.1) = some 7 ∧ (gNth mRs 133).map (fun q => q.2.2.2.1) = some 1 ∧ (gNth mRs 134).map (fun q => q.2.2.2.1) = some 2 := by refine ⟨?_, ?_, ?_, ?_, ?_, ?_, ?_, ?_⟩ <;> decide +kernel
set_option maxRecDepth 200000 in
theorem cls_small : (sG.all (fun t => match t with
  | .inl (ci, _) => Nat.blt ci 12
  | .inr _ => true)) = true := by decide +kernel
set_option maxRecDepth 200000 in
theorem gr_net : ((List.range 664).all (fun a => match gNth sT a with
  | some g => !([42, 43, 44, 47, 48, 49, 50, 51, 52, 53, 54, 55].any (fun c => Nat.beq c g)) || Nat.ble 193 a && Nat.blt a 243
  | none => false)) = true := by decide +kernel
set_option maxRecDepth 200000 in
theorem gr_snow : ((List.range 664).all (fun a => match gNth sT a with
  | some g => (match gNth sG g with
    | some (.inl (ci, _)) => !(Nat.beq ci 4) || Nat.beq a 229
    | _ => true)
  | none => false)) = true := by decide +kernel
def netF (a _k : Nat) : Prop := a = 229 ∨ 664 ≤ a
def netW (a : Nat) : Prop := (193 ≤ a ∧ a < 243) ∨ 664 ≤ a
def netM (md : Md) : Bool := md.all (fun q => [4, 1042, 1043, 1044, 1047, 1048, 1049, 1050, 1051, 1052, 1053, 1054, 1055].any (fun c => Nat.beq c q.1))
section CCAS
variable {e B L a0 k0 : Nat} {wsv : List Value} {T T' : TS} {P P' P0 Q : PK} {PI : Nat → PK} {md : Md} {M M0 M1 M' : Mem} {v : Option Value} {c k d x a b t y ws w : Int32} {n i j tt : Nat} {ss : List Int32} {F : Nat → Nat → Prop} {W O : Nat → Prop}
theorem net_g (ha : a0 < 664) : ∃ g, gNth sT a0 = some g ∧ (g ∈ [42, 43, 44, 47, 48, 49, 50, 51, 52, 53, 54, 55] → 193 ≤ a0 ∧ a0 < 243) := by
  have q := List.all_eq_true.mp gr_net a0 (List.mem_range.mpr ha)
  cases hT : gNth sT a0 with
  | none => rw [hT] at q; cases q
  | some g =>
    rw [hT] at q
    refine ⟨g, rfl, fun hg => ?_⟩
    have q : (!([42, 43, 44, 47, 48, 49, 50, 51, 52, 53, 54, 55].any (fun c => Nat.beq c g)) || Nat.ble 193 a0 && Nat.blt a0 243) = true := q
    have h1 : [42, 43, 44, 47, 48, 49, 50, 51, 52, 53, 54, 55].any (fun c => Nat.beq c g) = true := List.any_eq_true.mpr ⟨g, hg, Nat.beq_refl g⟩
    rw [h1] at q
    have q : (Nat.ble 193 a0 && Nat.blt a0 243) = true := q
    obtain ⟨q1, q2⟩ := and_t q
    exact ⟨Nat.le_of_ble_eq_true q1, Nat.le_of_ble_eq_true q2⟩
theorem net_md (hm : netM md = true) {q : Nat × Nat} (hq : q ∈ md) : q.1 ∈ [4, 1042, 1043, 1044, 1047, 1048, 1049, 1050, 1051, 1052, 1053, 1054, 1055] := any_beq (List.all_eq_true.mp hm q hq)
theorem net_mF (hm : netM md = true) (h : mF md a0 k0) : netF a0 k0 := by
  unfold netF
  rcases Nat.lt_or_ge a0 664 with ha | ha
  · obtain ⟨g, h1, _⟩ := net_g ha
    rcases h with h | ⟨g2, ci, fs, h2, h3, h4⟩
    · rw [h1] at h; cases h
    · have hmem : (.inl (ci, fs) : CT) ∈ sG := by
        rw [nth_eq] at h3
        exact List.mem_of_getElem? h3
      have q : Nat.blt ci 12 = true := List.all_eq_true.mp cls_small _ hmem
      have q : ci < 12 := Nat.le_of_ble_eq_true q
      have r : ci ∈ [4, 1042, 1043, 1044, 1047, 1048, 1049, 1050, 1051, 1052, 1053, 1054, 1055] := net_md hm h4
      simp only [List.mem_cons, List.not_mem_nil, or_false] at r
      have r4 : ci = 4 := by omega
      subst r4
      have s := List.all_eq_true.mp gr_snow a0 (List.mem_range.mpr ha)
      rw [h2] at s
      dsimp only at s
      rw [h3] at s
      have s : (!(Nat.beq 4 4) || Nat.beq a0 229) = true := s
      have s : Nat.beq a0 229 = true := s
      exact Or.inl (Nat.eq_of_beq_eq_true s)
  · exact Or.inr ha
theorem net_mW (hm : netM md = true) (h : mW md a0) : netW a0 := by
  unfold netW
  rcases Nat.lt_or_ge a0 664 with ha | ha
  · obtain ⟨g, h1, h5⟩ := net_g ha
    rcases h with h | ⟨g2, h2, h4⟩
    · rw [h1] at h; cases h
    · rw [h1] at h2
      cases h2
      have r : 1000 + g ∈ [4, 1042, 1043, 1044, 1047, 1048, 1049, 1050, 1051, 1052, 1053, 1054, 1055] := net_md hm h4
      simp only [List.mem_cons, List.not_mem_nil, or_false] at r
      exact Or.inl (h5 (by simp only [List.mem_cons, List.not_mem_nil, or_false]; omega))
  · exact Or.inr ha
/-- rows of the net alone change -/
theorem net_fz (hS : SH M) (hF : Frm sT md M M') (hm : netM md = true) : FZ netF netW netW M M' := (frm_fz hS hF).more (fun _ _ q => net_mF hm q) (fun _ q => net_mW hm q) (fun _ q => net_mW hm q)
theorem STA.nt (h : STA L T P M) (hD : okD P) (hS : SQ M') (hF : FZ netF netW netW M M') : STA L T P M' := by
  have hl := ld_cases h.ld
  obtain ⟨a1, a2, a3, a4, a5, a6, a7⟩ := h
  have fw : ∀ a, a < 193 ∨ (243 ≤ a ∧ a < 664) → ¬ netW a := fun a ha q => by unfold netW at q; omega
  have ff : ∀ a k, a < 193 ∨ (243 ≤ a ∧ a < 664) → ¬ netF a k := fun a k ha q => by unfold netF at q; omega
  have ok : okF L netF netW netW := ⟨⟨ff _ _ (by decide), ff _ _ (by decide)⟩, fun t ht => by
    have := tx_cases ht
    exact ⟨fun k => ff _ _ (by omega), fun k k1 k8 => fw _ (by omega)⟩, ⟨fw _ (by decide), fw _ (by decide)⟩, fw _ (by decide), fw _ (by decide), fw _ (by decide)⟩
  have cr : ∀ c, inC P c → rI M' (L + 8) c = crdP P c (P 157).toInt.toNat := fun c hc => (hF.rn (fw _ (by omega))).trans (a1.2.2.2.2.2.2.2 c hc)
  have lc : LCel L P M' := fun k f hk hf => (hF.rn (fw _ (by omega))).trans (a1.1.2.2.2.2.2.2 k f hk hf)
  exact ⟨a1.mv hS hF ok lc rfl rfl a1.2.2.1 cr, a2.mv rfl rfl (fun _ _ => rfl) (fun b j hb => hF.rn (fw _ (by unfold lkW at hb; omega))), a3.mv hF (ff _ _ (by omega)) (ff _ _ (by omega)) (ff _ _ (by omega)) (ff _ _ (by omega)) (fun k f _ => ff _ _ (by omega)) (fw _ (by omega)) (fun _ _ => rfl) hD.2.1.2.1 hD.2.2.2.1, ⟨(hF.fi (ff _ _ (by omega))).trans a4.1, (hF.fi (ff _ _ (by omega))).trans a4.2.1, (hF.fi (ff _ _ (by omega))).trans a4.2.2.1, (hF.fi (ff _ _ (by omega))).trans a4.2.2.2⟩, fun k hk => (hF.on (fw _ (by omega))).trans (a5 k hk), a6.on (fun j => hF.on (fw _ (by omega))), (hF.fi (ff _ _ (by decide))).trans a7⟩
theorem LST.nt (h : LST L P M) (hL : gNth sT L = some 8) (hk : WKs L M) (k60 : (P 157).toInt ≤ 60) (hF : FZ netF netW netW M M') : LST L P M' := by
  have hl := ld_cases hL
  refine ⟨(hF.fi (by unfold netF; omega)).trans h.1, fun k hkk => ?_⟩
  have bq := hk.2 k (by omega)
  rw [hF.on (by unfold netW; omega)]
  exact (h.2 k hkk).eq (fun f _ => hF.fi (by unfold netF; omega)) (fun j _ => rfl)
theorem CST.nt (h : CST T P PI M) (hS : SQ M') (hF : FZ netF netW netW M M') : CST T P PI M' := by
  have fw : ∀ a, a < 193 ∨ (243 ≤ a ∧ a < 664) → ¬ netW a := fun a ha q => by unfold netW at q; omega
  have ff : ∀ a k, a < 193 ∨ (243 ≤ a ∧ a < 664) → ¬ netF a k := fun a k ha q => by unfold netF at q; omega
  refine h.scr hS hF ⟨ff _ _ (by decide), ff _ _ (by decide), ff _ _ (by decide)⟩ (fun L hL _ => ⟨fun a k q1 q2 => ?_, fun a q1 q2 => ?_⟩) (fun t ht => ⟨fun k => ?_, fun k k1 k8 => ?_⟩) ⟨fw _ (by decide), fw _ (by decide), fw _ (by decide)⟩ (fun L hL _ => ?_) (fun L hL => ⟨fun k hk => ?_, ?_⟩) (h.2.2.2.2.1.fz hF (ff _ _ (by decide)) (ff _ _ (by decide)) (fun a h1 h2 => fw _ (by omega))) (fw _ (by decide))
  · have := ld_cases hL
    exact ff _ _ (by omega)
  · have := ld_cases hL
    exact fw _ (by omega)
  · have := tx_cases ht
    exact ff _ _ (by omega)
  · have := tx_cases ht
    exact fw _ (by omega)
  · have := ld_cases hL
    exact fw _ (by omega)
  · have := ld_cases hL
    exact (hF.on (fw _ (by omega))).trans ((h.2.2.2.2.2.1 L hL).1 k hk)
  · have := ld_cases hL
    exact (h.2.2.2.2.2.1 L hL).2.on (fun j => hF.on (fw _ (by omega)))
theorem TRI.nt (h : TRI T P0 PI B w ss P M) (hS : SQ M') (hF : FZ netF netW netW M M') : TRI T P0 PI B w ss P M' := by
  obtain ⟨hC, hX, hl, hD, hK, hE, hf⟩ := h
  exact ⟨hC.nt hS hF, hX.nt hD hS hF, hl.nt hX.ld hX.2.2.2.2.2.1 hK.2.1 hF, hD, hK, hE, ⟨(hF.fi (by unfold netF; decide)).trans hf.1, (hF.fi (by unfold netF; decide)).trans hf.2⟩⟩
/-- a call of the net's that changes its rows alone -/
theorem net_call {cn : CN} {mx : Nat} {wsv : List Value} (hc : cnOK sT sG FL0 cn) (hB : (invC cn && (fxM cn.2.2.2.2.2.1 && netM cn.2.2.2.2.2.1)) = true) (hm : (gNth mRs cn.1).map (fun q => q.2.2.2.1) = some mx) (hd : cn.2.1 ≤ e) (ha : Two (taOK sT) cn.2.2.1 wsv) (hI : INV M) (hX : FX M) (H : Ev none e cn.1 0 (gPad mx (gArgs wsv)) [] M v M' 0 0) : INV M' ∧ SQ M' ∧ FZ netF netW netW M M' ∧ ∃ s ∈ cn.2.2.2.2.2.2, csOK sT FL0 wsv v M' s := by
  obtain ⟨b1, hB⟩ := and_t hB
  obtain ⟨b2, b3⟩ := and_t hB
  obtain ⟨q1, q2, q3⟩ := inv_d hc b1 hm hd ha hI H
  exact ⟨q1, ⟨q1.1.sh, hX.frm hI.1.sh q2 b2⟩, net_fz hI.1.sh q2 b3, q3⟩
theorem ret_n {cs : List CS} (h : (cs.all (fun s => match s.1 with | none => true | some _ => false)) = true) (hs : ∃ s ∈ cs, csOK sT FL0 wsv v M' s) : v = none := by
  obtain ⟨s, hs, hcs, _⟩ := hs
  have q := List.all_eq_true.mp h s hs
  cases hv : s.1 with
  | some t => rw [hv] at q; cases q
  | none =>
    rw [hv] at hcs
    cases v with
    | none => rfl
    | some w => exact hcs.elim
theorem ret_i {cs : List CS} (h : (cs.all (fun s => match s.1 with | some (.inl _) => true | _ => false)) = true) (hs : ∃ s ∈ cs, csOK sT FL0 wsv v M' s) : ∃ r, v = some (.int r) := by
  obtain ⟨s, hs, hcs, _⟩ := hs
  have q := List.all_eq_true.mp h s hs
  cases hv : s.1 with
  | none => rw [hv] at q; cases q
  | some t =>
    rw [hv] at hcs q
    cases v with
    | none => exact hcs.elim
    | some w =>
      rcases t with ⟨lo, hi⟩ | n
      · obtain ⟨x, rfl, _⟩ := hcs
        exact ⟨x, rfl⟩
      · cases q
theorem keepC (hI : INV M) (hX : FX M) (he : 1 ≤ e) (H : Ev none e 15 0 [some (.ref 192), some (.int x), none] [] M v M' 0 0) : v = none ∧ INV M' ∧ SQ M' ∧ FZ netF netW netW M M' := by
  obtain ⟨q1, q2, q3, q4⟩ := net_call (cn := kX2_keep) (mx := 3) (wsv := [.ref 192, .int x]) kX2_keep_ok (by decide +kernel) mx_all.1 he (Two.mk rfl (Two.mk ⟨x, rfl, i32_any x⟩ trivial)) hI hX H
  exact ⟨ret_n (by decide) q4, q1, q2, q3⟩
theorem aloneC (hI : INV M) (hX : FX M) (he : 1 ≤ e) (hx : 0 ≤ x.toInt ∧ x.toInt ≤ 20) (hy : 0 ≤ y.toInt ∧ y.toInt ≤ 20) (H : Ev none e 17 0 [some (.ref 192), some (.int x), some (.int y), none, none] [] M v M' 0 0) : (∃ r, v = some (.int r)) ∧ INV M' ∧ SQ M' ∧ FZ netF netW netW M M' := by
  obtain ⟨q1, q2, q3, q4⟩ := net_call (cn := kX2_alone) (mx := 5) (wsv := [.ref 192, .int x, .int y]) kX2_alone_ok (by decide +kernel) mx_all.2.2.1 he (Two.mk rfl (Two.mk ⟨x, rfl, hx⟩ (Two.mk ⟨y, rfl, hy⟩ trivial))) hI hX H
  obtain ⟨r, hr⟩ := ret_i (by decide) q4
  exact ⟨⟨r, hr⟩, q1, q2, q3⟩
theorem sizeC (hI : INV M) (hX : FX M) (he : 1 ≤ e) (hx : 0 ≤ x.toInt ∧ x.toInt ≤ 20) (H : Ev none e 16 0 [some (.ref 192), some (.int x), none, none] [] M v M' 0 0) : (∃ r, v = some (.int r)) ∧ INV M' ∧ SQ M' ∧ FZ netF netW netW M M' := by
  obtain ⟨q1, q2, q3, q4⟩ := net_call (cn := kX2_size) (mx := 4) (wsv := [.ref 192, .int x]) kX2_size_ok (by decide +kernel) mx_all.2.1 he (Two.mk rfl (Two.mk ⟨x, rfl, hx⟩ trivial)) hI hX H
  obtain ⟨r, hr⟩ := ret_i (by decide) q4
  exact ⟨⟨r, hr⟩, q1, q2, q3⟩
theorem opcI (hI : INV M) (he : 4 ≤ e) (H : Ev none e 133 0 [some (.ref 0)] [] M v M' 0 0) : INV M' := (inv_d (c := kX10_openCase) (k := 1) (ws := [.ref 0]) kX10_openCase_ok (by decide +kernel) mx_all.2.2.2.2.2.2.1 he (Two.mk rfl trivial) hI H).1
theorem onkI (hI : INV M) (he : 7 ≤ e) (H : Ev none e 134 0 [some (.ref 0), some (.int t)] [] M v M' 0 0) : INV M' := (inv_d (c := kX10_oneWeek) (k := 2) (ws := [.ref 0, .int t]) kX10_oneWeek_ok (by decide +kernel) mx_all.2.2.2.2.2.2.2 he (Two.mk rfl (Two.mk ⟨t, rfl, i32_any t⟩ trivial)) hI H).1
theorem rsc_l (ht : t.toInt = (tt : Int)) (t200 : tt ≤ 200) (he : 8 ≤ e) : ∀ (r : Nat) (nz : Int32) (B : Nat) (P : PK) (M : Mem), TRI T P0 PI B (-1) [] P M → INV M → nz.toInt + (r : Int) = w.toInt + 1 → 1 ≤ nz.toInt → w.toInt ≤ 40 → B + 60 * tt * r ≤ 100000000 → Ev none e 99 38 [some (.ref 0), some (.int w), some (.int t), some (.int nz)] [] M v M' 0 0 → CST T P0 PI M' := by
  intro r
  induction r with
  | zero =>
    intro nz B P M h hI hw h1 w40 hB H
    rcases rsc_38 h.2.1.sq H with ⟨_, _, r2⟩ | ⟨a1, _⟩
    · rw [r2]; exact h.1
    · exact absurd (Int32.lt_iff_toInt_lt.mpr (by omega)) a1
  | succ r ih =>
    intro nz B P M h hI hw h1 w40 hB H
    rcases rsc_38 h.2.1.sq H with ⟨_, _, r2⟩ | ⟨_, e1, v1, M1, he1, H1, H⟩
    · rw [r2]; exact h.1
    · have hm : 60 * tt * (r + 1) = 60 * tt * r + 60 * tt := by rw [Nat.mul_add, Nat.mul_one]
      have I1 := onkI hI (by omega) H1
      obtain ⟨rv, q1, _⟩ := onk_ok h (n := tt) (by omega) ht H1
      rw [rv] at H
      obtain ⟨e2, v2, M2, he2, H2, H⟩ := rsc_48 q1.2.1.sq H
      obtain ⟨rv2, I2, S2, F2⟩ := keepC I1 q1.2.1.sq.2 (by omega) H2
      rw [rv2] at H
      have q2 := q1.nt S2 F2
      obtain ⟨e3, v3, M3, he3, H3, H⟩ := rsc_58 q2.2.1.sq H
      obtain ⟨⟨p, rv3⟩, I3, S3, F3⟩ := aloneC I2 S2.2 (by omega) (by decide) (by decide) H3
      rw [rv3] at H
      have q3 := q2.nt S3 F3
      obtain ⟨e4, v4, M4, he4, H4, H⟩ := rsc_67 q3.2.1.sq H
      obtain ⟨⟨p4, rv4⟩, I4, S4, F4⟩ := aloneC I3 S3.2 (by omega) (by decide) (by decide) H4
      rw [rv4] at H
      have q4 := q3.nt S4 F4
      rcases rsc_76 q4.2.1.sq H with ⟨_, _, r2⟩ | ⟨_, H⟩
      · rw [r2]; exact q4.1
      · exact ih (nz + 1) (B + 60 * tt) _ M4 q4 I4 (by rw [i32_p1 (by omega)]; omega) (by rw [i32_p1 (by omega)]; omega) w40 (by omega) H
theorem restsS_ok (h : CST T P PI M) (hI : INV M) (he : 9 ≤ e) (H : Ev none e 99 0 [some (.ref 0), some (.int w), some (.int t), none] [] M v M' 0 0) : CST T P PI M' := by
  rcases rsc_0 h.sq H with ⟨_, _, r2⟩ | ⟨_, _, _, r2⟩ | ⟨a1, a2, e1, v1, M1, he1, H1, H⟩
  · rw [r2]; exact h
  · rw [r2]; exact h
  · rw [g126_R, Classical.not_not] at a1 a2
    have w1 : 1 ≤ w.toInt := a1.1
    have w40 : w.toInt ≤ 40 := a1.2
    have t1 : 1 ≤ t.toInt := a2.1
    have t200 : t.toInt ≤ 200 := a2.2
    obtain ⟨rv, q1, _⟩ := opcT_ok h H1
    rw [rv] at H
    have I1 := opcI hI (by omega) H1
    obtain ⟨e2, v2, M2, he2, H2, H⟩ := rsc_28 q1.2.1.sq H
    obtain ⟨rv2, I2, S2, F2⟩ := keepC I1 q1.2.1.sq.2 (by omega) H2
    rw [rv2] at H
    have q2 := q1.nt S2 F2
    have hb := h.ok.bud
    have hm : 60 * t.toInt.toNat * w.toInt.toNat ≤ 60 * 200 * 40 := Nat.mul_le_mul (Nat.mul_le_mul_left _ (by omega)) (by omega)
    exact rsc_l (tt := t.toInt.toNat) (by omega) (by omega) (by omega) w.toInt.toNat 1 _ _ M2 q2 I2 (by have z1 : (1 : Int32).toInt = 1 := rfl; omega) (by decide) w40 (by omega) (rsc_36 q2.2.1.sq H)
theorem kwk_l (ht : t.toInt = (tt : Int)) (t200 : tt ≤ 200) (he : 8 ≤ e) : ∀ (r : Nat) (nz : Int32) (B : Nat) (P : PK) (M : Mem), TRI T P0 PI B (-1) [] P M → INV M → nz.toInt + (r : Int) = w.toInt + 1 → 1 ≤ nz.toInt → w.toInt ≤ 20 → B + 60 * tt * r ≤ 100000000 → Ev none e 107 6 [some (.ref 0), some (.int w), some (.int t), some (.int nz)] [] M v M' 0 0 → v = none ∧ CST T P0 PI M' ∧ INV M' := by
  intro r
  induction r with
  | zero =>
    intro nz B P M h hI hw h1 w40 hB H
    rcases kwk_6 h.2.1.sq H with ⟨_, r1, r2⟩ | ⟨a1, _⟩
    · rw [r2]; exact ⟨r1, h.1, hI⟩
    · exact absurd (Int32.lt_iff_toInt_lt.mpr (by omega)) a1
  | succ r ih =>
    intro nz B P M h hI hw h1 w40 hB H
    rcases kwk_6 h.2.1.sq H with ⟨_, r1, r2⟩ | ⟨_, e1, v1, M1, he1, H1, H⟩
    · rw [r2]; exact ⟨r1, h.1, hI⟩
    · have hm : 60 * tt * (r + 1) = 60 * tt * r + 60 * tt := by rw [Nat.mul_add, Nat.mul_one]
      have I1 := onkI hI (by omega) H1
      obtain ⟨rv, q1, _⟩ := onk_ok h (n := tt) (by omega) ht H1
      rw [rv] at H
      obtain ⟨e2, v2, M2, he2, H2, H⟩ := kwk_16 q1.2.1.sq H
      obtain ⟨rv2, I2, S2, F2⟩ := keepC I1 q1.2.1.sq.2 (by omega) H2
      rw [rv2] at H
      have q2 := q1.nt S2 F2
      exact ih (nz + 1) (B + 60 * tt) _ M2 q2 I2 (by rw [i32_p1 (by omega)]; omega) (by rw [i32_p1 (by omega)]; omega) w40 (by omega) (kwk_24 q2.2.1.sq H)
theorem kwkS_ok (h : CST T P PI M) (hI : INV M) (he : 9 ≤ e) (w1 : 1 ≤ w.toInt ∧ w.toInt ≤ 20) (t1 : 1 ≤ t.toInt ∧ t.toInt ≤ 200) (H : Ev none e 107 0 [some (.ref 0), some (.int w), some (.int t), none] [] M v M' 0 0) : v = none ∧ CST T P PI M' ∧ INV M' := by
  obtain ⟨e1, v1, M1, he1, H1, H⟩ := kwk_0 h.sq H
  obtain ⟨rv, q1, _⟩ := opcT_ok h H1
  rw [rv] at H
  have I1 := opcI hI (by omega) H1
  have hb := h.ok.bud
  have hm : 60 * t.toInt.toNat * w.toInt.toNat ≤ 60 * 200 * 20 := Nat.mul_le_mul (Nat.mul_le_mul_left _ (by omega)) (by omega)
  exact kwk_l (tt := t.toInt.toNat) (by omega) (by omega) (by omega) w.toInt.toNat 1 _ _ M1 q1 I1 (by have z1 : (1 : Int32).toInt = 1 := rfl; omega) (by decide) w1.2 (by omega) (kwk_4 q1.2.1.sq H)
theorem g106_R : G_106 M ws t = 0 ↔ ¬ (inX ws 1 20 ∧ inX t 1 200) := by
  unfold G_106
  by_cases h1 : G_126 M ws 1 20 = 0
  · rw [if_pos h1]
    rw [g126_R] at h1
    exact ⟨fun _ q => h1 q.1, fun _ => rfl⟩
  · rw [if_neg h1]
    rw [g126_R, Classical.not_not] at h1
    by_cases h2 : G_126 M t 1 200 = 0
    · rw [if_pos h2]
      rw [g126_R] at h2
      exact ⟨fun _ q => h2 q.2, fun _ => rfl⟩
    · rw [if_neg h2]
      rw [g126_R, Classical.not_not] at h2
      exact ⟨fun q => absurd q (by decide), fun q => absurd ⟨h1, h2⟩ q⟩
theorem pavedS_ok (h : CST T P PI M) (hI : INV M) (he : 10 ≤ e) (H : Ev none e 104 0 [some (.ref 0), some (.int w), some (.int ws), some (.int t), some (.int x)] [] M v M' 0 0) : CST T P PI M' := by
  rcases pvd_0 h.sq H with ⟨_, _, r2⟩ | ⟨_, _, _, r2⟩ | ⟨_, _, _, _, r2⟩ | ⟨a1, a2, a3, e1, v1, M1, he1, H1, H⟩
  · rw [r2]; exact h
  · rw [r2]; exact h
  · rw [r2]; exact h
  · rw [g106_R, Classical.not_not] at a1
    rw [g126_R, Classical.not_not] at a2
    have w1 : 1 ≤ ws.toInt := a1.1.1
    have w20 : ws.toInt ≤ 20 := a1.1.2
    have b1 : 1 ≤ w.toInt := a2.1
    have b2 : w.toInt ≤ ws.toInt := a2.2
    obtain ⟨rv, q1, I1⟩ := kwkS_ok h hI (by omega) ⟨w1, w20⟩ a1.2 H1
    rw [rv] at H
    rcases pvd_36 q1.sq H with ⟨_, e2, v2, M2, he2, H2, H⟩ | ⟨_, _, e2, v2, M2, he2, H2, H⟩ | ⟨_, _, e2, v2, M2, he2, H2, H⟩
    · obtain ⟨⟨p, rv2⟩, I2, S2, F2⟩ := sizeC I1 q1.sq.2 (by omega) ⟨by omega, by omega⟩ H2
      rw [rv2] at H
      obtain ⟨_, r2⟩ := pvd_72 S2 H
      rw [r2]
      exact q1.nt S2 F2
    · obtain ⟨⟨p, rv2⟩, I2, S2, F2⟩ := aloneC I1 q1.sq.2 (by omega) ⟨by omega, by omega⟩ ⟨by omega, by omega⟩ H2
      rw [rv2] at H
      obtain ⟨_, r2⟩ := pvd_82 S2 H
      rw [r2]
      exact q1.nt S2 F2
    · obtain ⟨⟨p, rv2⟩, I2, S2, F2⟩ := aloneC I1 q1.sq.2 (by omega) ⟨by omega, by omega⟩ ⟨by omega, by omega⟩ H2
      rw [rv2] at H
      obtain ⟨_, r2⟩ := pvd_92 S2 H
      rw [r2]
      exact q1.nt S2 F2
theorem wai_l (hws : ws.toInt ≤ 20) (he : 2 ≤ e) : ∀ (r : Nat) (wz be le : Int32) (c6 : Option Value) (M : Mem), CST T P PI M → INV M → wz.toInt + (r : Int) = ws.toInt + 1 → 1 ≤ wz.toInt → Ev none e 105 27 [some (.ref 0), some (.int ws), some (.int t), some (.int be), some (.int le), some (.int wz), c6] [] M v M' 0 0 → CST T P PI M' := by
  intro r
  induction r with
  | zero =>
    intro wz be le c6 M h hI hw h1 H
    rcases wai_27 h.sq H with ⟨_, _, r2⟩ | ⟨a1, _⟩
    · rw [r2]; exact h
    · exact absurd (Int32.lt_iff_toInt_lt.mpr (by omega)) a1
  | succ r ih =>
    intro wz be le c6 M h hI hw h1 H
    rcases wai_27 h.sq H with ⟨_, _, r2⟩ | ⟨_, e2, v2, M2, he2, H2, H⟩
    · rw [r2]; exact h
    · obtain ⟨⟨p, rv2⟩, I2, S2, F2⟩ := aloneC hI h.sq.2 (by omega) ⟨by omega, by omega⟩ ⟨by omega, by omega⟩ H2
      rw [rv2] at H
      have c2 := h.nt S2 F2
      obtain ⟨e3, v3, M3, he3, H3, H⟩ := wai_43 S2 H
      obtain ⟨⟨p3, rv3⟩, I3, S3, F3⟩ := aloneC I2 S2.2 (by omega) ⟨by omega, by omega⟩ ⟨by omega, by omega⟩ H3
      rw [rv3] at H
      have c3 := c2.nt S3 F3
      rcases wai_53 S3 H with ⟨_, H⟩ | ⟨_, H⟩
      · exact ih (wz + 1) _ _ _ M3 c3 I3 (by rw [i32_p1 (by omega)]; omega) (by rw [i32_p1 (by omega)]; omega) H
      · exact ih (wz + 1) _ _ _ M3 c3 I3 (by rw [i32_p1 (by omega)]; omega) (by rw [i32_p1 (by omega)]; omega) H
theorem waitS_ok (h : CST T P PI M) (hI : INV M) (he : 10 ≤ e) (H : Ev none e 105 0 [some (.ref 0), some (.int ws), some (.int t), none, none, none, none] [] M v M' 0 0) : CST T P PI M' := by
  rcases wai_0 h.sq H with ⟨_, _, r2⟩ | ⟨a1, e1, v1, M1, he1, H1, H⟩
  · rw [r2]; exact h
  · rw [g106_R, Classical.not_not] at a1
    have w1 : 1 ≤ ws.toInt := a1.1.1
    have w20 : ws.toInt ≤ 20 := a1.1.2
    obtain ⟨rv, q1, I1⟩ := kwkS_ok h hI (by omega) ⟨w1, w20⟩ a1.2 H1
    rw [rv] at H
    exact wai_l w20 (by omega) ws.toInt.toNat 1 1 276 none M1 q1 I1 (by have z1 : (1 : Int32).toInt = 1 := rfl; omega) (by decide) (wai_17 q1.sq H)
/-! pieces, least, longer -/
theorem CST.ent (h : CST T P PI M) (hI : INV M) (he : 4 ≤ e) (H : Ev none e 54 0 [some (.ref 104), some (.ref 8)] [] M v M' 0 0) : v = none ∧ CST T P PI M' ∧ STA 8 T P M' ∧ INV M' ∧ FZ enF enW noO M M' := by
  obtain ⟨rv1, b2, b3, b4, b5, b6⟩ := centr_ok h H
  refine ⟨rv1, h.wlk b4 (fun a k q => ?_) (fun a q => ?_) (fun a q => q.elim) b5 b2 b3 h.ok, b2, enter_inv hI h.sq.2 lnd_8 he H, b4⟩
  · unfold enF shgF at q
    omega
  · unfold enW shgW at q
    omega
theorem piecesS_ok (h : CST T P PI M) (hI : INV M) (he : 5 ≤ e) (H : Ev none e 98 0 [some (.ref 0)] [] M v M' 0 0) : CST T P PI M' := by
  obtain ⟨e1, v1, M1, he1, H1, H⟩ := pcs_0 h.sq h.ld H
  obtain ⟨rv1, c1, _, I1, _⟩ := h.ent hI (by omega) H1
  rw [rv1] at H
  obtain ⟨e2, v2, M2, he2, H2, H⟩ := pcs_11 c1.sq H
  obtain ⟨I2, S2, F2, q4⟩ := net_call (cn := kX2_parts) (mx := 4) (wsv := [.ref 192]) kX2_parts_ok (by decide +kernel) mx_all.2.2.2.1 (by show 3 ≤ e2; omega) (Two.mk rfl trivial) I1 c1.sq.2 H2
  obtain ⟨r, hr⟩ := ret_i (by decide) q4
  rw [hr] at H
  obtain ⟨_, r2⟩ := pcs_18 S2 H
  rw [r2]
  exact c1.nt S2 F2
theorem longerS_ok (h : CST T P PI M) (hI : INV M) (he : 6 ≤ e) (H : Ev none e 102 0 [some (.ref 0), some (.int a), some (.int b)] [] M v M' 0 0) : CST T P PI M' := by
  obtain ⟨e1, v1, M1, he1, H1, H⟩ := lon_0 h.sq H
  obtain ⟨rm, rv⟩ := twd_ok h H1
  rw [rm] at H
  rcases rv with ⟨ia, ib, nab, rv⟩ | ⟨_, rv⟩
  · rw [rv] at H
    rcases lon_6 h.sq h.ld H with ⟨q, _⟩ | ⟨_, e2, v2, M2, he2, H2, H⟩
    · exact absurd q (by decide)
    · obtain ⟨rv2, c2, _, I2, _⟩ := h.ent hI (by omega) H2
      rw [rv2] at H
      obtain ⟨_, _, e3, v3, M3, he3, H3, H⟩ := lon_23 c2.sq c2.ld H
      have dr : ∀ z : Int32, inD P z → 0 ≤ (rI M2 (8 + 9) z).toInt ∧ (rI M2 (8 + 9) z).toInt ≤ 255 := fun z hz => by
        have hz0 := hz.1
        have hz1 := hz.2
        have e : rI M2 (8 + 9) z = P (3 + z.toInt.toNat) := (rI_n (p := z.toInt.toNat) (by omega)).trans (c2.lan.1.2.2.1.2 z.toInt.toNat (by omega))
        have hc := (c2.ok.1.2.1.2.2 z.toInt.toNat (by omega)).lt c2.ok.1.1
        rw [e]
        omega
      obtain ⟨I4, S4, F4, q4⟩ := net_call (cn := kX2_hundredths) (mx := 7) (wsv := [.ref 192, .int (rI M2 (8 + 9) a), .int (rI M2 (8 + 9) b)]) kX2_hundredths_ok (by decide +kernel) mx_all.2.2.2.2.1 (by show 4 ≤ e3; omega) (Two.mk rfl (Two.mk ⟨_, rfl, dr a ia⟩ (Two.mk ⟨_, rfl, dr b ib⟩ trivial))) I2 c2.sq.2 H3
      obtain ⟨r, hr⟩ := ret_i (by decide) q4
      rw [hr] at H
      obtain ⟨_, r2⟩ := lon_48 S4 H
      rw [r2]
      exact c2.nt S4 F4
  · rw [rv] at H
    rcases lon_6 h.sq h.ld H with ⟨_, _, r2⟩ | ⟨a1, _⟩
    · rw [r2]; exact h
    · exact absurd rfl a1
end CCAS
/-! THE CLASS'S WAY: pieces (made by gwal6.py) -/
noncomputable def X_73s (M : Mem) (av : Int32) (ow : Int32) : Mem := (wF (wF (wF (wF (wF M 137 0 av) 137 1 ow) 137 2 0) 137 3 (-1)) 137 4 (-1))
theorem g_73s {e : Nat} {M M' : Mem} {v : Option Value} {av ow : Int32} (hS : SQ M) (H : Ev none e 73 0 [some (.ref 137), some (.int av), some (.int ow)] [] M v M' 0 0) : v = none ∧ M' = X_73s M av ow := by
  unfold X_73s
  have H : Ev none e 73 2 [some (.ref 137), some (.int av), some (.int ow)] [.int av, .ref 137] M v M' 0 0 := Ev.back 2 (fun n => rfl) H
  obtain ⟨N2, eN2⟩ : ∃ N, N = (wF M 137 0 av) := ⟨_, rfl⟩
  have hN2 : SQ N2 := by rw [eN2]; exact hS.kf
  have H : Ev none e 73 5 [some (.ref 137), some (.int av), some (.int ow)] [] N2 v M' 0 0 := by rw [eN2]; exact Ev.pfi rfl rfl rfl hS.1 qa_137 qi_40_0 H
  have H : Ev none e 73 7 [some (.ref 137), some (.int av), some (.int ow)] [.int ow, .ref 137] N2 v M' 0 0 := Ev.back 2 (fun n => rfl) H
  obtain ⟨N4, eN4⟩ : ∃ N, N = (wF N2 137 1 ow) := ⟨_, rfl⟩
  have hN4 : SQ N4 := by rw [eN4]; exact hN2.kf
  have H : Ev none e 73 10 [some (.ref 137), some (.int av), some (.int ow)] [] N4 v M' 0 0 := by rw [eN4]; exact Ev.pfi rfl rfl rfl hN2.1 qa_137 qi_40_1 H
  have H : Ev none e 73 12 [some (.ref 137), some (.int av), some (.int ow)] [.int 0, .ref 137] N4 v M' 0 0 := Ev.back 2 (fun n => rfl) H
  obtain ⟨N6, eN6⟩ : ∃ N, N = (wF N4 137 2 0) := ⟨_, rfl⟩
  have hN6 : SQ N6 := by rw [eN6]; exact hN4.kf
  have H : Ev none e 73 15 [some (.ref 137), some (.int av), some (.int ow)] [] N6 v M' 0 0 := by rw [eN6]; exact Ev.pfi rfl rfl rfl hN4.1 qa_137 qi_40_2 H
  have H : Ev none e 73 17 [some (.ref 137), some (.int av), some (.int ow)] [.int (-1), .ref 137] N6 v M' 0 0 := Ev.back 2 (fun n => rfl) H
  obtain ⟨N8, eN8⟩ : ∃ N, N = (wF N6 137 3 (-1)) := ⟨_, rfl⟩
  have hN8 : SQ N8 := by rw [eN8]; exact hN6.kf
  have H : Ev none e 73 20 [some (.ref 137), some (.int av), some (.int ow)] [] N8 v M' 0 0 := by rw [eN8]; exact Ev.pfi rfl rfl rfl hN6.1 qa_137 qi_40_3 H
  have H : Ev none e 73 22 [some (.ref 137), some (.int av), some (.int ow)] [.int (-1), .ref 137] N8 v M' 0 0 := Ev.back 2 (fun n => rfl) H
  obtain ⟨N10, eN10⟩ : ∃ N, N = (wF N8 137 4 (-1)) := ⟨_, rfl⟩
  have hN10 : SQ N10 := by rw [eN10]; exact hN8.kf
  have H : Ev none e 73 25 [some (.ref 137), some (.int av), some (.int ow)] [] N10 v M' 0 0 := by rw [eN10]; exact Ev.pfi rfl rfl rfl hN8.1 qa_137 qi_40_4 H
  obtain ⟨p1, p2⟩ := Ev.retb (fun n => rfl) H
  subst eN2 eN4 eN6 eN8 eN10
  exact ⟨p1, p2⟩
theorem X_73s_sx {M : Mem} {av ow : Int32} (hS : SQ M) : SQ (X_73s M av ow) := by
  unfold X_73s
  exact ((((hS.kf).kf).kf).kf).kf
noncomputable def X_74s (M : Mem) (to : Int32) (bw : Int32) : Mem := (wF (wF (wF M 137 3 (zI M 137 0)) 137 0 to) 137 4 bw)
theorem g_74s {e : Nat} {M M' : Mem} {v : Option Value} {to bw : Int32} (hS : SQ M) (H : Ev none e 74 0 [some (.ref 137), some (.int to), some (.int bw)] [] M v M' 0 0) : v = none ∧ M' = X_74s M to bw := by
  unfold X_74s
  have H : Ev none e 74 2 [some (.ref 137), some (.int to), some (.int bw)] [.ref 137, .ref 137] M v M' 0 0 := Ev.back 2 (fun n => rfl) H
  have H : Ev none e 74 5 [some (.ref 137), some (.int to), some (.int bw)] [.int (zI M 137 0), .ref 137] M v M' 0 0 := Ev.back 1 (gs_3 rfl rfl (gf_i hS.1 qa_137 qi_40_0 rfl)) H
  obtain ⟨N2, eN2⟩ : ∃ N, N = (wF M 137 3 (zI M 137 0)) := ⟨_, rfl⟩
  have hN2 : SQ N2 := by rw [eN2]; exact hS.kf
  have H : Ev none e 74 8 [some (.ref 137), some (.int to), some (.int bw)] [] N2 v M' 0 0 := by rw [eN2]; exact Ev.pfi rfl rfl rfl hS.1 qa_137 qi_40_3 H
  have H : Ev none e 74 10 [some (.ref 137), some (.int to), some (.int bw)] [.int to, .ref 137] N2 v M' 0 0 := Ev.back 2 (fun n => rfl) H
  obtain ⟨N4, eN4⟩ : ∃ N, N = (wF N2 137 0 to) := ⟨_, rfl⟩
  have hN4 : SQ N4 := by rw [eN4]; exact hN2.kf
  have H : Ev none e 74 13 [some (.ref 137), some (.int to), some (.int bw)] [] N4 v M' 0 0 := by rw [eN4]; exact Ev.pfi rfl rfl rfl hN2.1 qa_137 qi_40_0 H
  have H : Ev none e 74 15 [some (.ref 137), some (.int to), some (.int bw)] [.int bw, .ref 137] N4 v M' 0 0 := Ev.back 2 (fun n => rfl) H
  obtain ⟨N6, eN6⟩ : ∃ N, N = (wF N4 137 4 bw) := ⟨_, rfl⟩
  have hN6 : SQ N6 := by rw [eN6]; exact hN4.kf
  have H : Ev none e 74 18 [some (.ref 137), some (.int to), some (.int bw)] [] N6 v M' 0 0 := by rw [eN6]; exact Ev.pfi rfl rfl rfl hN4.1 qa_137 qi_40_4 H
  obtain ⟨p1, p2⟩ := Ev.retb (fun n => rfl) H
  subst eN2 eN4 eN6
  exact ⟨p1, p2⟩
theorem X_74s_sx {M : Mem} {to bw : Int32} (hS : SQ M) : SQ (X_74s M to bw) := by
  unfold X_74s
  exact ((hS.kf).kf).kf
theorem arv_0 {e : Nat} {M M' : Mem} {v : Option Value} {fr to hb : Int32} {rw : Nat} (hS : SQ M) (a_rw : gNth sT rw = some 58) (hL7 : fR M 104 7 = 8) (H : Ev none e 65 0 [some (.ref 104), some (.int fr), some (.int to), some (.int hb), some (.ref rw), none, none, none] [] M v M' 0 0) : (0 ≤ to.toInt ∧ to.toInt < 9) ∧ (0 ≤ fr.toInt ∧ fr.toInt < 9) ∧ (0 ≤ (0 : Int32).toInt ∧ (0 : Int32).toInt < 201) ∧ Ev none e 65 52 [some (.ref 104), some (.int fr), some (.int to), some (.int hb), some (.ref rw), some (.int (rI M (8 + 9) to)), some (.int 0), none] [] (wI (X_73s (wF (wF M 104 8 1) 104 11 0) (rI M (8 + 9) fr) (-1)) rw ((0 : Int32).toNatClampNeg) (zI (X_73s (wF (wF M 104 8 1) 104 11 0) (rI M (8 + 9) fr) (-1)) 137 0)) v M' 0 0 := by
  have H : Ev none e 65 1 [some (.ref 104), some (.int fr), some (.int to), some (.int hb), some (.ref rw), none, none, none] [.ref 104] M v M' 0 0 := Ev.back 1 (fun n => rfl) H
  have H : Ev none e 65 4 [some (.ref 104), some (.int fr), some (.int to), some (.int hb), some (.ref rw), none, none, none] [.ref (fR M 104 7)] M v M' 0 0 := Ev.back 1 (gs_3 rfl rfl (gf_r hS.1 qa_104 qr_22_7 rfl)) H
  rw [hL7] at H
  have H : Ev none e 65 7 [some (.ref 104), some (.int fr), some (.int to), some (.int hb), some (.ref rw), none, none, none] [.ref (8 + 9)] M v M' 0 0 := Ev.back 1 (gs_3 rfl rfl (gf_x hS.1 qa_8 qo_8 (fx_l10 hS qa_8) rfl)) H
  have H : Ev none e 65 8 [some (.ref 104), some (.int fr), some (.int to), some (.int hb), some (.ref rw), none, none, none] [.int to, .ref (8 + 9)] M v M' 0 0 := Ev.back 1 (fun n => rfl) H
  obtain ⟨b1, H⟩ := Ev.ial rfl rfl hS.1 (fx_h10 qa_8) qw_17 H
  have H : Ev none e 65 9 [some (.ref 104), some (.int fr), some (.int to), some (.int hb), some (.ref rw), none, none, none] [.int (rI M (8 + 9) to)] M v M' 0 0 := H
  have H : Ev none e 65 13 [some (.ref 104), some (.int fr), some (.int to), some (.int hb), some (.ref rw), some (.int (rI M (8 + 9) to)), none, none] [.int 1, .ref 104] M v M' 0 0 := Ev.back 3 (fun n => rfl) H
  obtain ⟨N3, eN3⟩ : ∃ N, N = (wF M 104 8 1) := ⟨_, rfl⟩
  have hN3 : SQ N3 := by rw [eN3]; exact hS.kf
  have H : Ev none e 65 16 [some (.ref 104), some (.int fr), some (.int to), some (.int hb), some (.ref rw), some (.int (rI M (8 + 9) to)), none, none] [] N3 v M' 0 0 := by rw [eN3]; exact Ev.pfi rfl rfl rfl hS.1 qa_104 qi_22_8 H
  have H : Ev none e 65 18 [some (.ref 104), some (.int fr), some (.int to), some (.int hb), some (.ref rw), some (.int (rI M (8 + 9) to)), none, none] [.int 0, .ref 104] N3 v M' 0 0 := Ev.back 2 (fun n => rfl) H
  obtain ⟨N5, eN5⟩ : ∃ N, N = (wF N3 104 11 0) := ⟨_, rfl⟩
  have hN5 : SQ N5 := by rw [eN5]; exact hN3.kf
  have H : Ev none e 65 21 [some (.ref 104), some (.int fr), some (.int to), some (.int hb), some (.ref rw), some (.int (rI M (8 + 9) to)), none, none] [] N5 v M' 0 0 := by rw [eN5]; exact Ev.pfi rfl rfl rfl hN3.1 qa_104 qi_22_11 H
  have H : Ev none e 65 22 [some (.ref 104), some (.int fr), some (.int to), some (.int hb), some (.ref rw), some (.int (rI M (8 + 9) to)), none, none] [.ref 104] N5 v M' 0 0 := Ev.back 1 (fun n => rfl) H
  have H : Ev none e 65 25 [some (.ref 104), some (.int fr), some (.int to), some (.int hb), some (.ref rw), some (.int (rI M (8 + 9) to)), none, none] [.ref 137] N5 v M' 0 0 := Ev.back 1 (gs_3 rfl rfl (gf_u hN5.1 qa_104 qr_22_6 qu_40 rfl)) H
  have H : Ev none e 65 26 [some (.ref 104), some (.int fr), some (.int to), some (.int hb), some (.ref rw), some (.int (rI M (8 + 9) to)), none, none] [.ref 104, .ref 137] N5 v M' 0 0 := Ev.back 1 (fun n => rfl) H
  have H : Ev none e 65 29 [some (.ref 104), some (.int fr), some (.int to), some (.int hb), some (.ref rw), some (.int (rI M (8 + 9) to)), none, none] [.ref (fR N5 104 7), .ref 137] N5 v M' 0 0 := Ev.back 1 (gs_3 rfl rfl (gf_r hN5.1 qa_104 qr_22_7 rfl)) H
  rw [(show fR N5 104 7 = fR N3 104 7 from by rw [eN5]; exact fR_wF).trans (show fR N3 104 7 = fR M 104 7 from by rw [eN3]; exact fR_wF)] at H
  rw [hL7] at H
  have H : Ev none e 65 32 [some (.ref 104), some (.int fr), some (.int to), some (.int hb), some (.ref rw), some (.int (rI M (8 + 9) to)), none, none] [.ref (8 + 9), .ref 137] N5 v M' 0 0 := Ev.back 1 (gs_3 rfl rfl (gf_x hN5.1 qa_8 qo_8 (fx_l10 hN5 qa_8) rfl)) H
  have H : Ev none e 65 33 [some (.ref 104), some (.int fr), some (.int to), some (.int hb), some (.ref rw), some (.int (rI M (8 + 9) to)), none, none] [.int fr, .ref (8 + 9), .ref 137] N5 v M' 0 0 := Ev.back 1 (fun n => rfl) H
  obtain ⟨b6, H⟩ := Ev.ial rfl rfl hN5.1 (fx_h10 qa_8) qw_17 H
  have H : Ev none e 65 34 [some (.ref 104), some (.int fr), some (.int to), some (.int hb), some (.ref rw), some (.int (rI M (8 + 9) to)), none, none] [.int (rI N5 (8 + 9) fr), .ref 137] N5 v M' 0 0 := H
  rw [(show rI N5 (8 + 9) fr = rI N3 (8 + 9) fr from by rw [eN5]; exact rN_wF).trans (show rI N3 (8 + 9) fr = rI M (8 + 9) fr from by rw [eN3]; exact rN_wF)] at H
  have H : Ev none e 65 35 [some (.ref 104), some (.int fr), some (.int to), some (.int hb), some (.ref rw), some (.int (rI M (8 + 9) to)), none, none] [.int (-1), .int (rI M (8 + 9) fr), .ref 137] N5 v M' 0 0 := Ev.back 1 (fun n => rfl) H
  obtain ⟨e1, rfl⟩ := Ev.dpos rfl rfl H
  obtain ⟨vK7, MK7, K7, H⟩ := Ev.callb (fun n_ => gs_7 rfl rfl (show gCal (.invokevirtual 173) 7 (.int (-1) :: .int (rI M (8 + 9) fr) :: .ref 137 :: []) N5 = some (.inr (73, [some (.ref 137), some (.int (rI M (8 + 9) fr)), some (.int (-1))], [])) from by show @cond (Option ((List Value × Mem) ⊕ (Nat × Lo × List Value))) (true && gRecv N5 (.ref 137) 8 && gRoom [] && true) (some (.inr (73, [some (.ref 137), some (.int (rI M (8 + 9) fr)), some (.int (-1))], []))) none = _; rw [recv_s hN5.1 qa_137 qo_40]; rfl)) H
  obtain ⟨pK7, qK7⟩ := g_73s hN5 K7
  rw [pK7, qK7] at H
  obtain ⟨N8, eN8⟩ : ∃ N, N = (X_73s N5 (rI M (8 + 9) fr) (-1)) := ⟨_, rfl⟩
  have hN8 : SQ N8 := by rw [eN8]; exact X_73s_sx hN5
  rw [← eN8] at H
  have H : Ev none (e1 + 1) 65 38 [some (.ref 104), some (.int fr), some (.int to), some (.int hb), some (.ref rw), some (.int (rI M (8 + 9) to)), none, none] [] N8 v M' 0 0 := H
  have H : Ev none (e1 + 1) 65 42 [some (.ref 104), some (.int fr), some (.int to), some (.int hb), some (.ref rw), some (.int (rI M (8 + 9) to)), none, none] [.ref 104, .int 0, .ref rw] N8 v M' 0 0 := Ev.back 3 (fun n => rfl) H
  have H : Ev none (e1 + 1) 65 45 [some (.ref 104), some (.int fr), some (.int to), some (.int hb), some (.ref rw), some (.int (rI M (8 + 9) to)), none, none] [.ref 137, .int 0, .ref rw] N8 v M' 0 0 := Ev.back 1 (gs_3 rfl rfl (gf_u hN8.1 qa_104 qr_22_6 qu_40 rfl)) H
  have H : Ev none (e1 + 1) 65 48 [some (.ref 104), some (.int fr), some (.int to), some (.int hb), some (.ref rw), some (.int (rI M (8 + 9) to)), none, none] [.int (zI N8 137 0), .int 0, .ref rw] N8 v M' 0 0 := Ev.back 1 (gs_3 rfl rfl (gf_i hN8.1 qa_137 qi_40_0 rfl)) H
  obtain ⟨b9, H⟩ := Ev.ias rfl rfl hN8.1 a_rw qw_58 H
  obtain ⟨N10, eN10⟩ : ∃ N, N = (wI N8 rw ((0 : Int32).toNatClampNeg) (zI N8 137 0)) := ⟨_, rfl⟩
  have hN10 : SQ N10 := by rw [eN10]; exact hN8.ki
  have H : Ev none (e1 + 1) 65 49 [some (.ref 104), some (.int fr), some (.int to), some (.int hb), some (.ref rw), some (.int (rI M (8 + 9) to)), none, none] [] N10 v M' 0 0 := by rw [eN10]; exact H
  have H : Ev none (e1 + 1) 65 52 [some (.ref 104), some (.int fr), some (.int to), some (.int hb), some (.ref rw), some (.int (rI M (8 + 9) to)), some (.int 0), none] [] N10 v M' 0 0 := Ev.back 2 (fun n => rfl) H
  have HF := H
  subst eN3 eN5 eN8 eN10
  exact ⟨b1, b6, b9, HF⟩
theorem arv_52 {e : Nat} {M M' : Mem} {v : Option Value} {fr to hb go n : Int32} {rw : Nat} {c7 : Option Value} (hS : SQ M) (a_rw : gNth sT rw = some 58) (H : Ev none e 65 52 [some (.ref 104), some (.int fr), some (.int to), some (.int hb), some (.ref rw), some (.int go), some (.int n), c7] [] M v M' 0 0) : (200 ≤ n ∧ Ev none e 65 154 [some (.ref 104), some (.int fr), some (.int to), some (.int hb), some (.ref rw), some (.int go), some (.int n), c7] [] M v M' 0 0) ∨ (¬ (200 ≤ n) ∧ (zI M 137 0) = go ∧ Ev none e 65 154 [some (.ref 104), some (.int fr), some (.int to), some (.int hb), some (.ref rw), some (.int go), some (.int n), c7] [] M v M' 0 0) ∨ (¬ (200 ≤ n) ∧ ¬ ((zI M 137 0) = go) ∧ (∃ e1 v1 M1, e = e1 + 1 ∧ Ev none e1 66 0 [some (.ref 104), some (.ref 137), some (.int go), some (.int hb), none, none, none, none, none, none] [] M v1 M1 0 0 ∧ Ev none e 65 83 [some (.ref 104), some (.int fr), some (.int to), some (.int hb), some (.ref rw), some (.int go), some (.int n), c7] (v1.toList ++ []) M1 v M' 0 0)) := by
  have H : Ev none e 65 (if 200 ≤ n then 154 else 60) [some (.ref 104), some (.int fr), some (.int to), some (.int hb), some (.ref rw), some (.int go), some (.int n), c7] [] M v M' 0 0 := Ev.back 3 (fun n => rfl) H
  by_cases h1 : 200 ≤ n
  · rw [if_pos h1] at H
    have HF := H
    exact Or.inl ⟨h1, HF⟩
  · rw [if_neg h1] at H
    have H : Ev none e 65 61 [some (.ref 104), some (.int fr), some (.int to), some (.int hb), some (.ref rw), some (.int go), some (.int n), c7] [.ref 104] M v M' 0 0 := Ev.back 1 (fun n => rfl) H
    have H : Ev none e 65 64 [some (.ref 104), some (.int fr), some (.int to), some (.int hb), some (.ref rw), some (.int go), some (.int n), c7] [.ref 137] M v M' 0 0 := Ev.back 1 (gs_3 rfl rfl (gf_u hS.1 qa_104 qr_22_6 qu_40 rfl)) H
    have H : Ev none e 65 67 [some (.ref 104), some (.int fr), some (.int to), some (.int hb), some (.ref rw), some (.int go), some (.int n), c7] [.int (zI M 137 0)] M v M' 0 0 := Ev.back 1 (gs_3 rfl rfl (gf_i hS.1 qa_137 qi_40_0 rfl)) H
    have H : Ev none e 65 (if (zI M 137 0) = go then 154 else 72) [some (.ref 104), some (.int fr), some (.int to), some (.int hb), some (.ref rw), some (.int go), some (.int n), c7] [] M v M' 0 0 := Ev.back 2 (fun n => rfl) H
    by_cases h2 : (zI M 137 0) = go
    · rw [if_pos h2] at H
      have HF := H
      exact Or.inr (Or.inl ⟨h1, h2, HF⟩)
    · rw [if_neg h2] at H
      have H : Ev none e 65 74 [some (.ref 104), some (.int fr), some (.int to), some (.int hb), some (.ref rw), some (.int go), some (.int n), c7] [.ref 104, .ref 104] M v M' 0 0 := Ev.back 2 (fun n => rfl) H
      have H : Ev none e 65 77 [some (.ref 104), some (.int fr), some (.int to), some (.int hb), some (.ref rw), some (.int go), some (.int n), c7] [.ref 137, .ref 104] M v M' 0 0 := Ev.back 1 (gs_3 rfl rfl (gf_u hS.1 qa_104 qr_22_6 qu_40 rfl)) H
      have H : Ev none e 65 80 [some (.ref 104), some (.int fr), some (.int to), some (.int hb), some (.ref rw), some (.int go), some (.int n), c7] [.int hb, .int go, .ref 137, .ref 104] M v M' 0 0 := Ev.back 2 (fun n => rfl) H
      obtain ⟨e1, rfl⟩ := Ev.dpos rfl rfl H
      obtain ⟨vK3, MK3, K3, H⟩ := Ev.callb (fun n_ => gs_7 rfl rfl (show gCal (.invokevirtual 128) 7 (.int hb :: .int go :: .ref 137 :: .ref 104 :: []) M = some (.inr (66, [some (.ref 104), some (.ref 137), some (.int go), some (.int hb), none, none, none, none, none, none], [])) from by show @cond (Option ((List Value × Mem) ⊕ (Nat × Lo × List Value))) (true && gRecv M (.ref 104) 7 && gRoom [] && true) (some (.inr (66, [some (.ref 104), some (.ref 137), some (.int go), some (.int hb), none, none, none, none, none, none], []))) none = _; rw [recv_s hS.1 qa_104 qo_22]; rfl)) H
      have K3 : Ev none e1 66 0 [some (.ref 104), some (.ref 137), some (.int go), some (.int hb), none, none, none, none, none, none] [] M vK3 MK3 0 0 := K3
      have HF := H
      exact Or.inr (Or.inr (⟨h1, h2, ⟨e1, vK3, MK3, rfl, K3, HF⟩⟩))
theorem arv_83 {e : Nat} {M M' : Mem} {v : Option Value} {fr to hb go n y : Int32} {rw : Nat} {c7 : Option Value} (hS : SQ M) (a_rw : gNth sT rw = some 58) (H : Ev none e 65 83 [some (.ref 104), some (.int fr), some (.int to), some (.int hb), some (.ref rw), some (.int go), some (.int n), c7] [.int y] M v M' 0 0) : (y = (-1) ∧ Ev none e 65 154 [some (.ref 104), some (.int fr), some (.int to), some (.int hb), some (.ref rw), some (.int go), some (.int n), some (.int y)] [] M v M' 0 0) ∨ (¬ (y = (-1)) ∧ (0 ≤ ((8 * (zI M 137 0)) + y).toInt ∧ ((8 * (zI M 137 0)) + y).toInt < 2048) ∧ (0 ≤ ((zI (X_74s M (rI M 108 ((8 * (zI M 137 0)) + y)) y) 104 11) + 1).toInt ∧ ((zI (X_74s M (rI M 108 ((8 * (zI M 137 0)) + y)) y) 104 11) + 1).toInt < 201) ∧ Ev none e 65 52 [some (.ref 104), some (.int fr), some (.int to), some (.int hb), some (.ref rw), some (.int go), some (.int (n + 1)), some (.int y)] [] (wI (wF (X_74s M (rI M 108 ((8 * (zI M 137 0)) + y)) y) 104 11 ((zI (X_74s M (rI M 108 ((8 * (zI M 137 0)) + y)) y) 104 11) + 1)) rw (((zI (X_74s M (rI M 108 ((8 * (zI M 137 0)) + y)) y) 104 11) + 1).toNatClampNeg) (zI (X_74s M (rI M 108 ((8 * (zI M 137 0)) + y)) y) 137 0)) v M' 0 0) := by
  have H : Ev none e 65 (if y = (-1) then 91 else 94) [some (.ref 104), some (.int fr), some (.int to), some (.int hb), some (.ref rw), some (.int go), some (.int n), some (.int y)] [] M v M' 0 0 := Ev.back 4 (fun n => rfl) H
  by_cases h1 : y = (-1)
  · rw [if_pos h1] at H
    have H : Ev none e 65 154 [some (.ref 104), some (.int fr), some (.int to), some (.int hb), some (.ref rw), some (.int go), some (.int n), some (.int y)] [] M v M' 0 0 := Ev.back 1 (fun n => rfl) H
    have HF := H
    exact Or.inl ⟨h1, HF⟩
  · rw [if_neg h1] at H
    have H : Ev none e 65 95 [some (.ref 104), some (.int fr), some (.int to), some (.int hb), some (.ref rw), some (.int go), some (.int n), some (.int y)] [.ref 104] M v M' 0 0 := Ev.back 1 (fun n => rfl) H
    have H : Ev none e 65 98 [some (.ref 104), some (.int fr), some (.int to), some (.int hb), some (.ref rw), some (.int go), some (.int n), some (.int y)] [.ref 137] M v M' 0 0 := Ev.back 1 (gs_3 rfl rfl (gf_u hS.1 qa_104 qr_22_6 qu_40 rfl)) H
    have H : Ev none e 65 99 [some (.ref 104), some (.int fr), some (.int to), some (.int hb), some (.ref rw), some (.int go), some (.int n), some (.int y)] [.ref 104, .ref 137] M v M' 0 0 := Ev.back 1 (fun n => rfl) H
    have H : Ev none e 65 102 [some (.ref 104), some (.int fr), some (.int to), some (.int hb), some (.ref rw), some (.int go), some (.int n), some (.int y)] [.ref 105, .ref 137] M v M' 0 0 := Ev.back 1 (gs_3 rfl rfl (gf_u hS.1 qa_104 qr_22_0 qu_23 rfl)) H
    have H : Ev none e 65 105 [some (.ref 104), some (.int fr), some (.int to), some (.int hb), some (.ref rw), some (.int go), some (.int n), some (.int y)] [.ref 108, .ref 137] M v M' 0 0 := Ev.back 1 (gs_3 rfl rfl (gf_u hS.1 qa_105 qr_23_2 qu_26 rfl)) H
    have H : Ev none e 65 108 [some (.ref 104), some (.int fr), some (.int to), some (.int hb), some (.ref rw), some (.int go), some (.int n), some (.int y)] [.ref 104, .int 8, .ref 108, .ref 137] M v M' 0 0 := Ev.back 2 (fun n => rfl) H
    have H : Ev none e 65 111 [some (.ref 104), some (.int fr), some (.int to), some (.int hb), some (.ref rw), some (.int go), some (.int n), some (.int y)] [.ref 137, .int 8, .ref 108, .ref 137] M v M' 0 0 := Ev.back 1 (gs_3 rfl rfl (gf_u hS.1 qa_104 qr_22_6 qu_40 rfl)) H
    have H : Ev none e 65 114 [some (.ref 104), some (.int fr), some (.int to), some (.int hb), some (.ref rw), some (.int go), some (.int n), some (.int y)] [.int (zI M 137 0), .int 8, .ref 108, .ref 137] M v M' 0 0 := Ev.back 1 (gs_3 rfl rfl (gf_i hS.1 qa_137 qi_40_0 rfl)) H
    have H : Ev none e 65 118 [some (.ref 104), some (.int fr), some (.int to), some (.int hb), some (.ref rw), some (.int go), some (.int n), some (.int y)] [.int ((8 * (zI M 137 0)) + y), .ref 108, .ref 137] M v M' 0 0 := Ev.back 3 (fun n => rfl) H
    obtain ⟨b2, H⟩ := Ev.ial rfl rfl hS.1 qa_108 qw_26 H
    have H : Ev none e 65 119 [some (.ref 104), some (.int fr), some (.int to), some (.int hb), some (.ref rw), some (.int go), some (.int n), some (.int y)] [.int (rI M 108 ((8 * (zI M 137 0)) + y)), .ref 137] M v M' 0 0 := H
    have H : Ev none e 65 121 [some (.ref 104), some (.int fr), some (.int to), some (.int hb), some (.ref rw), some (.int go), some (.int n), some (.int y)] [.int y, .int (rI M 108 ((8 * (zI M 137 0)) + y)), .ref 137] M v M' 0 0 := Ev.back 1 (fun n => rfl) H
    obtain ⟨e1, rfl⟩ := Ev.dpos rfl rfl H
    obtain ⟨vK3, MK3, K3, H⟩ := Ev.callb (fun n_ => gs_7 rfl rfl (show gCal (.invokevirtual 141) 7 (.int y :: .int (rI M 108 ((8 * (zI M 137 0)) + y)) :: .ref 137 :: []) M = some (.inr (74, [some (.ref 137), some (.int (rI M 108 ((8 * (zI M 137 0)) + y))), some (.int y)], [])) from by show @cond (Option ((List Value × Mem) ⊕ (Nat × Lo × List Value))) (true && gRecv M (.ref 137) 8 && gRoom [] && true) (some (.inr (74, [some (.ref 137), some (.int (rI M 108 ((8 * (zI M 137 0)) + y))), some (.int y)], []))) none = _; rw [recv_s hS.1 qa_137 qo_40]; rfl)) H
    obtain ⟨pK3, qK3⟩ := g_74s hS K3
    rw [pK3, qK3] at H
    obtain ⟨N4, eN4⟩ : ∃ N, N = (X_74s M (rI M 108 ((8 * (zI M 137 0)) + y)) y) := ⟨_, rfl⟩
    have hN4 : SQ N4 := by rw [eN4]; exact X_74s_sx hS
    rw [← eN4] at H
    have H : Ev none (e1 + 1) 65 124 [some (.ref 104), some (.int fr), some (.int to), some (.int hb), some (.ref rw), some (.int go), some (.int n), some (.int y)] [] N4 v M' 0 0 := H
    have H : Ev none (e1 + 1) 65 126 [some (.ref 104), some (.int fr), some (.int to), some (.int hb), some (.ref rw), some (.int go), some (.int n), some (.int y)] [.ref 104, .ref 104] N4 v M' 0 0 := Ev.back 2 (fun n => rfl) H
    have H : Ev none (e1 + 1) 65 129 [some (.ref 104), some (.int fr), some (.int to), some (.int hb), some (.ref rw), some (.int go), some (.int n), some (.int y)] [.int (zI N4 104 11), .ref 104] N4 v M' 0 0 := Ev.back 1 (gs_3 rfl rfl (gf_i hN4.1 qa_104 qi_22_11 rfl)) H
    have H : Ev none (e1 + 1) 65 131 [some (.ref 104), some (.int fr), some (.int to), some (.int hb), some (.ref rw), some (.int go), some (.int n), some (.int y)] [.int ((zI N4 104 11) + 1), .ref 104] N4 v M' 0 0 := Ev.back 2 (fun n => rfl) H
    obtain ⟨N6, eN6⟩ : ∃ N, N = (wF N4 104 11 ((zI N4 104 11) + 1)) := ⟨_, rfl⟩
    have hN6 : SQ N6 := by rw [eN6]; exact hN4.kf
    have H : Ev none (e1 + 1) 65 134 [some (.ref 104), some (.int fr), some (.int to), some (.int hb), some (.ref rw), some (.int go), some (.int n), some (.int y)] [] N6 v M' 0 0 := by rw [eN6]; exact Ev.pfi rfl rfl rfl hN4.1 qa_104 qi_22_11 H
    have H : Ev none (e1 + 1) 65 137 [some (.ref 104), some (.int fr), some (.int to), some (.int hb), some (.ref rw), some (.int go), some (.int n), some (.int y)] [.ref 104, .ref rw] N6 v M' 0 0 := Ev.back 2 (fun n => rfl) H
    have H : Ev none (e1 + 1) 65 140 [some (.ref 104), some (.int fr), some (.int to), some (.int hb), some (.ref rw), some (.int go), some (.int n), some (.int y)] [.int (zI N6 104 11), .ref rw] N6 v M' 0 0 := Ev.back 1 (gs_3 rfl rfl (gf_i hN6.1 qa_104 qi_22_11 rfl)) H
    rw [show zI N6 104 11 = (zI N4 104 11) + 1 from by rw [eN6]; exact fI_wF_eq hN4.1 qa_104 qi_22_11] at H
    have H : Ev none (e1 + 1) 65 141 [some (.ref 104), some (.int fr), some (.int to), some (.int hb), some (.ref rw), some (.int go), some (.int n), some (.int y)] [.ref 104, .int ((zI N4 104 11) + 1), .ref rw] N6 v M' 0 0 := Ev.back 1 (fun n => rfl) H
    have H : Ev none (e1 + 1) 65 144 [some (.ref 104), some (.int fr), some (.int to), some (.int hb), some (.ref rw), some (.int go), some (.int n), some (.int y)] [.ref 137, .int ((zI N4 104 11) + 1), .ref rw] N6 v M' 0 0 := Ev.back 1 (gs_3 rfl rfl (gf_u hN6.1 qa_104 qr_22_6 qu_40 rfl)) H
    have H : Ev none (e1 + 1) 65 147 [some (.ref 104), some (.int fr), some (.int to), some (.int hb), some (.ref rw), some (.int go), some (.int n), some (.int y)] [.int (zI N6 137 0), .int ((zI N4 104 11) + 1), .ref rw] N6 v M' 0 0 := Ev.back 1 (gs_3 rfl rfl (gf_i hN6.1 qa_137 qi_40_0 rfl)) H
    rw [show zI N6 137 0 = zI N4 137 0 from by rw [eN6]; exact fI_wF_ne (fun q => absurd q.2 (by decide))] at H
    obtain ⟨b7, H⟩ := Ev.ias rfl rfl hN6.1 a_rw qw_58 H
    obtain ⟨N8, eN8⟩ : ∃ N, N = (wI N6 rw (((zI N4 104 11) + 1).toNatClampNeg) (zI N4 137 0)) := ⟨_, rfl⟩
    have hN8 : SQ N8 := by rw [eN8]; exact hN6.ki
    have H : Ev none (e1 + 1) 65 148 [some (.ref 104), some (.int fr), some (.int to), some (.int hb), some (.ref rw), some (.int go), some (.int n), some (.int y)] [] N8 v M' 0 0 := by rw [eN8]; exact H
    have H : Ev none (e1 + 1) 65 52 [some (.ref 104), some (.int fr), some (.int to), some (.int hb), some (.ref rw), some (.int go), some (.int (n + 1)), some (.int y)] [] N8 v M' 0 0 := Ev.back 2 (fun n => rfl) H
    have HF := H
    subst eN4 eN6 eN8
    exact Or.inr (⟨h1, b2, b7, HF⟩)
theorem arv_154 {e : Nat} {M M' : Mem} {v : Option Value} {fr to hb go n : Int32} {rw : Nat} {c7 : Option Value} (hS : SQ M) (a_rw : gNth sT rw = some 58) (H : Ev none e 65 154 [some (.ref 104), some (.int fr), some (.int to), some (.int hb), some (.ref rw), some (.int go), some (.int n), c7] [] M v M' 0 0) : ((zI M 137 0) = go ∧ v = some (.int 1) ∧ M' = (wF M 104 8 0)) ∨ (¬ ((zI M 137 0) = go) ∧ v = some (.int 0) ∧ M' = (wF M 104 8 0)) := by
  have H : Ev none e 65 156 [some (.ref 104), some (.int fr), some (.int to), some (.int hb), some (.ref rw), some (.int go), some (.int n), c7] [.int 0, .ref 104] M v M' 0 0 := Ev.back 2 (fun n => rfl) H
  obtain ⟨N2, eN2⟩ : ∃ N, N = (wF M 104 8 0) := ⟨_, rfl⟩
  have hN2 : SQ N2 := by rw [eN2]; exact hS.kf
  have H : Ev none e 65 159 [some (.ref 104), some (.int fr), some (.int to), some (.int hb), some (.ref rw), some (.int go), some (.int n), c7] [] N2 v M' 0 0 := by rw [eN2]; exact Ev.pfi rfl rfl rfl hS.1 qa_104 qi_22_8 H
  have H : Ev none e 65 160 [some (.ref 104), some (.int fr), some (.int to), some (.int hb), some (.ref rw), some (.int go), some (.int n), c7] [.ref 104] N2 v M' 0 0 := Ev.back 1 (fun n => rfl) H
  have H : Ev none e 65 163 [some (.ref 104), some (.int fr), some (.int to), some (.int hb), some (.ref rw), some (.int go), some (.int n), c7] [.ref 137] N2 v M' 0 0 := Ev.back 1 (gs_3 rfl rfl (gf_u hN2.1 qa_104 qr_22_6 qu_40 rfl)) H
  have H : Ev none e 65 166 [some (.ref 104), some (.int fr), some (.int to), some (.int hb), some (.ref rw), some (.int go), some (.int n), c7] [.int (zI N2 137 0)] N2 v M' 0 0 := Ev.back 1 (gs_3 rfl rfl (gf_i hN2.1 qa_137 qi_40_0 rfl)) H
  rw [show zI N2 137 0 = zI M 137 0 from by rw [eN2]; exact fI_wF_ne (fun q => absurd q.2 (by decide))] at H
  have H : Ev none e 65 (if (zI M 137 0) = go then 171 else 175) [some (.ref 104), some (.int fr), some (.int to), some (.int hb), some (.ref rw), some (.int go), some (.int n), c7] [] N2 v M' 0 0 := Ev.back 2 (fun n => rfl) H
  by_cases h3 : (zI M 137 0) = go
  · rw [if_pos h3] at H
    have H : Ev none e 65 176 [some (.ref 104), some (.int fr), some (.int to), some (.int hb), some (.ref rw), some (.int go), some (.int n), c7] [.int 1] N2 v M' 0 0 := Ev.back 2 (fun n => rfl) H
    obtain ⟨z1, z2⟩ := Ev.retz rfl rfl H
    subst eN2
    exact Or.inl ⟨h3, z1, z2⟩
  · rw [if_neg h3] at H
    have H : Ev none e 65 176 [some (.ref 104), some (.int fr), some (.int to), some (.int hb), some (.ref rw), some (.int go), some (.int n), c7] [.int 0] N2 v M' 0 0 := Ev.back 1 (fun n => rfl) H
    obtain ⟨z1, z2⟩ := Ev.retz rfl rfl H
    subst eN2
    exact Or.inr (⟨h3, z1, z2⟩)
/-! A WAY: the class's -/
/-- a WALKER alone: how its way goes on from a place, the CELLS so far; and where it ends -/
noncomputable def wlS (T : TS) (P : PK) (hb : Nat) (goal : Int32) : Nat → Int32 × Int32 × Int32 → List Int32 → List Int32 × Int32
  | 0, s, l => (l, s.1)
  | n + 1, s, l => if s.1 = goal then (l, s.1) else if choP (T 0) P (T hb) (s.1, goal, s.2.1, s.2.2, true) < 0 then (l, s.1) else wlS T P hb goal n (besP P s.1 (choP (T 0) P (T hb) (s.1, goal, s.2.1, s.2.2, true)), choP (T 0) P (T hb) (s.1, goal, s.2.1, s.2.2, true), s.1) (l ++ [besP P s.1 (choP (T 0) P (T hb) (s.1, goal, s.2.1, s.2.2, true))])
/-- the way from a DOOR to another one by a HABIT -/
noncomputable def wayL (T : TS) (P : PK) (a b h : Int32) : List Int32 × Int32 := wlS T P (h.toInt.toNat + 1) (P (3 + b.toInt.toNat)) 200 (P (3 + a.toInt.toNat), -1, -1) [P (3 + a.toInt.toNat)]
noncomputable def wayB (T : TS) (P : PK) (a b h : Int32) : Bool := decide ((wayL T P a b h).2 = P (3 + b.toInt.toNat))
def wyF (a k : Nat) : Prop := a = 137 ∨ (a = 104 ∧ (k = 8 ∨ k = 11))
def wyW (r a : Nat) : Prop := lkW a ∨ a = r
section CWAY
variable {e B L rw : Nat} {T T' : TS} {P P' P0 Q : PK} {PI : Nat → PK} {M M0 M1 M' : Mem} {v : Option Value} {c k d x a b h t y fr to hb go : Int32} {n i j hn : Nat} {l : List Int32} {F : Nat → Nat → Prop} {W O : Nat → Prop}
set_option maxRecDepth 200000 in
theorem rw_all : ((List.range 664).all (fun a => match gNth sT a with
  | some g => !(Nat.beq g 58) || (Nat.beq a 341 || Nat.beq a 342)
  | none => false)) = true := by decide +kernel
theorem rw_c (h : gNth sT rw = some 58) : rw = 341 ∨ rw = 342 := by
  have hl : rw < 664 := by
    have := gNth_lt _ _ _ h
    have e : sT.length = 664 := by decide +kernel
    omega
  have q := List.all_eq_true.mp rw_all rw (List.mem_range.mpr hl)
  rw [h] at q
  have q : (!(Nat.beq 58 58) || (Nat.beq rw 341 || Nat.beq rw 342)) = true := q
  have q : (Nat.beq rw 341 || Nat.beq rw 342) = true := q
  rw [Bool.or_eq_true] at q
  rcases q with q | q
  · exact Or.inl (Nat.eq_of_beq_eq_true q)
  · exact Or.inr (Nat.eq_of_beq_eq_true q)
theorem okF.wy (hr : gNth sT rw = some 58) : okF 8 wyF (wyW rw) noO := by
  have hc := rw_c hr
  refine ⟨⟨by unfold wyF; omega, by unfold wyF; omega⟩, fun t ht => ?_, ⟨fun q => q, fun q => q⟩, by unfold wyW lkW; omega, by unfold wyW lkW; omega, by unfold wyW lkW; omega⟩
  have := tx_cases ht
  refine ⟨fun k => by unfold wyF; omega, fun k k1 k8 q => ?_⟩
  rcases q with q | q
  · exact lk_tx ht k k1 k8 q
  · omega
/-- what stands while one goes alone -/
def AST (T : TS) (P : PK) (M : Mem) : Prop := CTX 8 T P M ∧ VC T P M ∧ zI M 104 8 = 1
theorem CTX.wy (h : CTX 8 T P M) (hr : gNth sT rw = some 58) (hS : SQ M') (hF : FZ wyF (wyW rw) noO M M') : CTX 8 T P M' := by
  have hc := rw_c hr
  refine h.mv hS hF (okF.wy hr) (fun k f hk hf => ?_) rfl rfl h.2.2.1 (fun c hc2 => ?_)
  · exact (hF.rn (by unfold wyW lkW; omega)).trans (h.1.2.2.2.2.2.2 k f hk hf)
  · have q : rI M' (8 + 8) c = rI M (8 + 8) c := hF.rn (by unfold wyW lkW; omega)
    exact q.trans (h.2.2.2.2.2.2.2 c hc2)
theorem CST.wy (h : CST T P PI M) (hr : gNth sT rw = some 58) (hS : SQ M') (hF : FZ wyF (wyW rw) noO M M') : CST T P PI M' := by
  have hc := rw_c hr
  refine h.scr hS hF ⟨by unfold wyF; omega, by unfold wyF; omega, by unfold wyF; omega⟩ (fun L hL _ => ⟨fun a k q1 q2 => ?_, fun a q1 q2 => ?_⟩) (fun t ht => ⟨fun k => ?_, fun k k1 k8 q => ?_⟩) ⟨fun q => q, fun q => q, fun q => q⟩ (fun _ _ _ q => q) (fun L hL => ⟨fun k hk => (hF.on (fun q => q)).trans ((h.2.2.2.2.2.1 L hL).1 k hk), (h.2.2.2.2.2.1 L hL).2.on (fun j => hF.on (fun q => q))⟩) (h.2.2.2.2.1.fz hF (by unfold wyF; omega) (by unfold wyF; omega) (fun a _ _ => by unfold wyW lkW; omega)) (by unfold wyW lkW; omega)
  · have := ld_cases hL
    unfold wyF
    omega
  · have := ld_cases hL
    unfold wyW lkW
    omega
  · have := tx_cases ht
    unfold wyF
    omega
  · have := tx_cases ht
    rcases q with q | q
    · exact lk_tx ht k k1 k8 q
    · omega
theorem arv_e (hr : gNth sT rw = some 58) {g0 : Bool} (hA : CTX 8 T P M) (hV : VC T P M) {c7 : Option Value} {here : Int32} (h0 : zI M 137 0 = here) (H : Ev none e 65 154 [some (.ref 104), some (.int fr), some (.int to), some (.int hb), some (.ref rw), some (.int go), some (.int t), c7] [] M v M' 0 0) : v = some (.int (bI (decide (here = go)))) ∧ M' = wF M 104 8 0 := by
  rcases arv_154 hA.1.1 hr H with ⟨a1, r1, r2⟩ | ⟨a1, r1, r2⟩
  · rw [h0] at a1
    rw [decide_eq_true a1]
    exact ⟨r1, r2⟩
  · rw [h0] at a1
    rw [decide_eq_false a1]
    exact ⟨r1, r2⟩
theorem arv_l (hr : gNth sT rw = some 58) (hh : hb.toInt = (hn : Int)) (h6 : hn < 6) (hgo : inC P go) : ∀ (r k : Nat) (nz : Int32) (here w cf : Int32) (l : List Int32) (c7 : Option Value) (M : Mem), CTX 8 T P M → VC T P M → zI M 104 8 = 1 → inC P here → -1 ≤ w.toInt → zI M 137 0 = here → zI M 137 4 = w → zI M 137 3 = cf → nz.toInt = (k : Int) → k + r = 200 → (zI M 104 11).toInt = (k : Int) → l.length = k + 1 → (∀ j y, l[j]? = some y → rN M rw j = y) → Ev none e 65 52 [some (.ref 104), some (.int fr), some (.int to), some (.int hb), some (.ref rw), some (.int go), some (.int nz), c7] [] M v M' 0 0 → v = some (.int (bI (decide ((wlS T P (hn + 1) go r (here, w, cf) l).2 = go)))) ∧ SQ M' ∧ FZ wyF (wyW rw) noO M M' ∧ CTX 8 T P M' ∧ VC T P M' ∧ zI M' 104 8 = 0 ∧ (zI M' 104 11).toInt + 1 = ((wlS T P (hn + 1) go r (here, w, cf) l).1.length : Int) ∧ (∀ j y, (wlS T P (hn + 1) go r (here, w, cf) l).1[j]? = some y → rN M' rw j = y) := by
  have hrc := rw_c hr
  have z200 : (200 : Int32).toInt = 200 := rfl
  have fin : ∀ (M : Mem) (here : Int32) (l : List Int32) (nz : Int32) (c7 : Option Value) (k : Nat), CTX 8 T P M → VC T P M → zI M 137 0 = here → (zI M 104 11).toInt = (k : Int) → l.length = k + 1 → (∀ j y, l[j]? = some y → rN M rw j = y) → Ev none e 65 154 [some (.ref 104), some (.int fr), some (.int to), some (.int hb), some (.ref rw), some (.int go), some (.int nz), c7] [] M v M' 0 0 → v = some (.int (bI (decide (here = go)))) ∧ SQ M' ∧ FZ wyF (wyW rw) noO M M' ∧ CTX 8 T P M' ∧ VC T P M' ∧ zI M' 104 8 = 0 ∧ (zI M' 104 11).toInt + 1 = (l.length : Int) ∧ (∀ j y, l[j]? = some y → rN M' rw j = y) := fun M here l nz c7 k hX hV h0 hs hl hrow H => by
    obtain ⟨r1, r2⟩ := arv_e (g0 := true) hr hX hV h0 H
    have hF : FZ wyF (wyW rw) noO M M' := by rw [r2]; exact FZ.wF (Or.inr ⟨rfl, Or.inl rfl⟩)
    have hS : SQ M' := by rw [r2]; exact hX.1.1.kf
    refine ⟨r1, hS, hF, hX.wy hr hS hF, ?_, by rw [r2]; exact fI_wF_eq hX.1.1.1 qa_104 qi_22_8, ?_, fun j y hj => ?_⟩
    · rw [r2]
      exact hV.mv rfl rfl (fun _ _ => rfl) (fun b j _ => rN_wF)
    · rw [r2, fI_wF_ne (by decide)]
      omega
    · rw [r2, rN_wF]
      exact hrow j y hj
  intro r
  induction r with
  | zero =>
    intro k nz here w cf l c7 M hX hV ha hin hw h0 h4 h3 hk hkr hs hl hrow H
    rcases arv_52 hX.1.1 hr H with ⟨_, H⟩ | ⟨a1, _⟩ | ⟨a1, _⟩
    · exact fin M here l nz c7 k hX hV h0 hs hl hrow H
    all_goals exact absurd (Int32.le_iff_toInt_le.mpr (by omega)) a1
  | succ r ih =>
    intro k nz here w cf l c7 M hX hV ha hin hw h0 h4 h3 hk hkr hs hl hrow H
    unfold wlS
    rcases arv_52 hX.1.1 hr H with ⟨a1, _⟩ | ⟨_, a1, H⟩ | ⟨_, a1, e1, v1, M1, _, H1, H⟩
    · have := Int32.le_iff_toInt_le.mp a1
      omega
    · rw [h0] at a1
      rw [if_pos a1]
      exact fin M here l nz c7 k hX hV h0 hs hl hrow H
    · rw [h0] at a1
      dsimp only
      rw [if_neg a1]
      obtain ⟨rv, S1, F1, V1⟩ := chos_ok (al := true) hX hV hh h6 hgo (by rw [h0]; exact hin) ha (by rw [h4]; exact hw) H1
      rw [h0, h4, h3] at rv
      obtain ⟨dd, edd⟩ : ∃ dd, dd = choP (T 0) P (T (hn + 1)) (here, go, w, cf, true) := ⟨_, rfl⟩
      rw [← edd] at rv ⊢
      rw [rv] at H
      have X1 : CTX 8 T P M1 := hX.lk S1 F1
      have lk : ∀ b, ¬ lkW b → ∀ j, rN M1 b j = rN M b j := fun b hb j => F1.rn hb
      have zs : ∀ a k, zI M1 a k = zI M a k := fun a k => F1.fi (fun q => q)
      have nrw : ¬ lkW rw := by unfold lkW; omega
      have tm : (-1 : Int32).toInt = -1 := rfl
      have z0 : (0 : Int32).toInt = 0 := rfl
      have hcr := cho_rng (g := T 0) (P := P) (q := T (hn + 1)) (w := (here, go, w, cf, true)) hgo.1
      rw [← edd] at hcr
      have F1w : FZ wyF (wyW rw) noO M M1 := F1.more (fun _ _ q => q.elim) (fun _ q => Or.inl q) (fun _ q => q)
      rcases arv_83 S1 hr H with ⟨b1, H⟩ | ⟨b1, _, _, H⟩
      · have hlt : dd < 0 := by rw [b1]; decide
        rw [if_pos hlt]
        obtain ⟨u1, u2, u3, u4, u5, u6, u7, u8⟩ := fin M1 here l nz _ k X1 V1 ((zs _ _).trans h0) (by rw [zs]; exact hs) hl (fun j y hj => (lk rw nrw j).trans (hrow j y hj)) H
        exact ⟨u1, u2, F1w.trans u3, u4, u5, u6, u7, u8⟩
      · have hd : 0 ≤ dd.toInt ∧ dd.toInt < 8 ∧ ¬ besP P here dd < 0 := hcr.resolve_left b1
        have hnl : ¬ dd < 0 := fun q => by
          have := Int32.lt_iff_toInt_lt.mp q
          omega
        rw [if_neg hnl]
        have hbe : inC P (besP P here dd) := (besP_in hX.2.1 hin).resolve_left (fun q => hd.2.2 (by rw [q]; decide))
        have er : rI M1 108 (8 * zI M1 137 0 + dd) = besP P here dd := by
          rw [zs, h0]
          exact (X1.2.2.2.2.1 here hin).2.2 dd hd.1 hd.2.1
        rw [er] at H
        obtain ⟨N, eN⟩ : ∃ N, N = X_74s M1 (besP P here dd) dd := ⟨_, rfl⟩
        rw [← eN] at H
        have SN : SQ N := by rw [eN]; exact X_74s_sx S1
        have q137 : gNth sT 137 = some 40 := qa_137
        have n0 : zI N 137 0 = besP P here dd := by
          rw [eN]
          unfold X_74s
          rw [fI_wF_ne (by decide)]
          exact fI_wF_eq S1.kf.1 q137 qi_40_0
        have n4 : zI N 137 4 = dd := by
          rw [eN]
          unfold X_74s
          exact fI_wF_eq S1.kf.kf.1 q137 qi_40_4
        have n3 : zI N 137 3 = here := by
          rw [eN]
          unfold X_74s
          rw [fI_wF_ne (by decide), fI_wF_ne (by decide), fI_wF_eq S1.1 q137 qi_40_3, zs, h0]
        have FN : FZ wyF (wyW rw) noO M1 N := by
          rw [eN]
          unfold X_74s
          exact ((FZ.wF (F := wyF) (Or.inl rfl)).trans (FZ.wF (Or.inl rfl))).trans (FZ.wF (Or.inl rfl))
        have n11 : zI N 104 11 = zI M 104 11 := by
          rw [eN]
          unfold X_74s
          rw [fI_wF_ne (by decide), fI_wF_ne (by decide), fI_wF_ne (by decide), zs]
        have n8 : zI N 104 8 = 1 := by
          rw [eN]
          unfold X_74s
          rw [fI_wF_ne (by decide), fI_wF_ne (by decide), fI_wF_ne (by decide), zs]
          exact ha
        rw [n0, n11] at H
        have k1 : (zI M 104 11 + 1).toInt = ((k + 1 : Nat) : Int) := by rw [i32_p1 (by omega)]; omega
        rw [cl_n k1] at H
        obtain ⟨N2, eN2⟩ : ∃ N2, N2 = wI (wF N 104 11 (zI M 104 11 + 1)) rw (k + 1) (besP P here dd) := ⟨_, rfl⟩
        rw [← eN2] at H
        have S2 : SQ N2 := by rw [eN2]; exact SN.kf.ki
        have F2 : FZ wyF (wyW rw) noO N N2 := by
          rw [eN2]
          exact (FZ.wF (F := wyF) (Or.inr ⟨rfl, Or.inr rfl⟩)).trans (FZ.wI (Or.inr rfl))
        have FF : FZ wyF (wyW rw) noO M N2 := (F1w.trans FN).trans F2
        have z2 : ∀ k, k ≠ 11 → zI N2 104 k = zI N 104 k := fun k hk => by rw [eN2, fI_wI, fI_wF_ne (fun q => hk q.2)]
        have z3 : ∀ k, zI N2 137 k = zI N 137 k := fun k => by rw [eN2, fI_wI, fI_wF_ne (fun q => absurd q.1 (by decide))]
        have rN2 : ∀ b j, ¬ (b = rw ∧ j = k + 1) → rN N2 b j = rN M1 b j := fun b j hb => by
          rw [eN2, rN_wI_ne hb, rN_wF, eN]
          unfold X_74s
          rw [rN_wF, rN_wF, rN_wF]
        have len : (zrw (wF N 104 11 (zI M 104 11 + 1)) rw).length = 201 := (SN.kf.1.row hr qw_58).2
        have V2 : VC T P N2 := V1.mv rfl rfl (fun _ _ => rfl) (fun b j hb => rN2 b j (fun q => nrw (q.1 ▸ hb)))
        obtain ⟨u1, u2, u3, u4, u5, u6, u7, u8⟩ := ih (k + 1) (nz + 1) (besP P here dd) dd here (l ++ [besP P here dd]) _ N2 (hX.wy hr S2 FF) V2 ((z2 8 (by decide)).trans n8) hbe (by omega) ((z3 0).trans n0) ((z3 4).trans n4) ((z3 3).trans n3) (by rw [i32_p1 (by omega)]; omega) (by omega) (by rw [eN2, fI_wI, fI_wF_eq SN.1 qa_104 qi_22_11]; exact k1) (by rw [List.length_append]; simp; omega) (fun j y hj => by
          rcases Nat.lt_or_ge j l.length with hlt | hge
          · rw [List.getElem?_append_left hlt] at hj
            rw [rN2 rw j (fun q => by omega), lk rw nrw]
            exact hrow j y hj
          · rw [List.getElem?_append_right hge] at hj
            have hj0 : j - l.length = 0 := by
              rcases Nat.eq_zero_or_pos (j - l.length) with q | q
              · exact q
              · rw [List.getElem?_eq_none (by simp; omega)] at hj
                cases hj
            have ejk : j = k + 1 := by omega
            rw [hj0] at hj
            cases hj
            rw [ejk, eN2]
            exact rN_wI_eq (by omega)) H
        exact ⟨u1, u2, FF.trans u3, u4, u5, u6, u7, u8⟩
/-- a way, from DOOR to DOOR -/
theorem arv_ok (hC : CST T P PI M) (hX : STA 8 T P M) (hr : gNth sT rw = some 58) (hh : inX hb 0 5) (ha : inD P fr) (hb2 : inD P to) (H : Ev none e 65 0 [some (.ref 104), some (.int fr), some (.int to), some (.int hb), some (.ref rw), none, none, none] [] M v M' 0 0) : v = some (.int (bI (wayB T P fr to hb))) ∧ CST T P PI M' ∧ STA 8 T P M' ∧ FZ wyF (wyW rw) noO M M' ∧ (zI M' 104 11).toInt + 1 = ((wayL T P fr to hb).1.length : Int) ∧ ∀ j y, (wayL T P fr to hb).1[j]? = some y → rN M' rw j = y := by
  have hrc := rw_c hr
  have hD := hC.ok.1
  have hA := hC.lan
  have f0 := ha.1
  have f1 := ha.2
  have t0 := hb2.1
  have t1 := hb2.2
  have hb0 : 0 ≤ hb.toInt := hh.1
  have hb5 : hb.toInt ≤ 5 := hh.2
  obtain ⟨_, _, _, H⟩ := arv_0 hX.sq hr hX.lw H
  have dr : ∀ z : Int32, inD P z → rI M (8 + 9) z = P (3 + z.toInt.toNat) ∧ inC P (P (3 + z.toInt.toNat)) := fun z hz => by
    have h1 := hz.1
    have h2 := hz.2
    exact ⟨(rI_n (p := z.toInt.toNat) (by omega)).trans (hA.1.2.2.1.2 z.toInt.toNat (by omega)), hD.2.1.2.2 z.toInt.toNat (by omega)⟩
  obtain ⟨er, ir⟩ := dr fr ha
  obtain ⟨et, it⟩ := dr to hb2
  rw [er, et] at H
  obtain ⟨N, eN⟩ : ∃ N, N = X_73s (wF (wF M 104 8 1) 104 11 0) (P (3 + fr.toInt.toNat)) (-1) := ⟨_, rfl⟩
  rw [← eN] at H
  have SN : SQ N := by rw [eN]; exact X_73s_sx hX.sq.kf.kf
  have S0 := hX.sq.kf (a := 104) (k := 8) (x := 1)
  have S1 := S0.kf (a := 104) (k := 11) (x := 0)
  have q137 : gNth sT 137 = some 40 := qa_137
  have n0 : zI N 137 0 = P (3 + fr.toInt.toNat) := by
    rw [eN]
    unfold X_73s
    rw [fI_wF_ne (by decide), fI_wF_ne (by decide), fI_wF_ne (by decide), fI_wF_ne (by decide)]
    exact fI_wF_eq S1.1 q137 qi_40_0
  have n3 : zI N 137 3 = -1 := by
    rw [eN]
    unfold X_73s
    rw [fI_wF_ne (by decide)]
    exact fI_wF_eq S1.kf.kf.kf.1 q137 qi_40_3
  have n4 : zI N 137 4 = -1 := by
    rw [eN]
    unfold X_73s
    exact fI_wF_eq S1.kf.kf.kf.kf.1 q137 qi_40_4
  have n11 : zI N 104 11 = 0 := by
    rw [eN]
    unfold X_73s
    rw [fI_wF_ne (by decide), fI_wF_ne (by decide), fI_wF_ne (by decide), fI_wF_ne (by decide), fI_wF_ne (by decide)]
    exact fI_wF_eq S0.1 qa_104 qi_22_11
  have n8 : zI N 104 8 = 1 := by
    rw [eN]
    unfold X_73s
    rw [fI_wF_ne (by decide), fI_wF_ne (by decide), fI_wF_ne (by decide), fI_wF_ne (by decide), fI_wF_ne (by decide), fI_wF_ne (by decide)]
    exact fI_wF_eq hX.sq.1 qa_104 qi_22_8
  have FN : FZ wyF (wyW rw) noO M N := by
    rw [eN]
    unfold X_73s
    exact ((((((FZ.wF (F := wyF) (Or.inr ⟨rfl, Or.inl rfl⟩)).trans (FZ.wF (Or.inr ⟨rfl, Or.inr rfl⟩))).trans (FZ.wF (Or.inl rfl))).trans (FZ.wF (Or.inl rfl))).trans (FZ.wF (Or.inl rfl))).trans (FZ.wF (Or.inl rfl))).trans (FZ.wF (Or.inl rfl))
  rw [n0] at H
  have i0 : (0 : Int32).toNatClampNeg = 0 := rfl
  rw [i0] at H
  obtain ⟨N2, eN2⟩ : ∃ N2, N2 = wI N rw 0 (P (3 + fr.toInt.toNat)) := ⟨_, rfl⟩
  rw [← eN2] at H
  have S2 : SQ N2 := by rw [eN2]; exact SN.ki
  have F2 : FZ wyF (wyW rw) noO N N2 := by rw [eN2]; exact FZ.wI (Or.inr rfl)
  have FF := FN.trans F2
  have z2 : ∀ a k, zI N2 a k = zI N a k := fun a k => by rw [eN2, fI_wI]
  have rN2 : ∀ b j, b ≠ rw → rN N2 b j = rN M b j := fun b j hb => by
    rw [eN2, rN_wI_ne (fun q => hb q.1), eN]
    unfold X_73s
    rw [rN_wF, rN_wF, rN_wF, rN_wF, rN_wF, rN_wF, rN_wF]
  have len : (zrw N rw).length = 201 := (SN.1.row hr qw_58).2
  have nrw : ¬ lkW rw := by unfold lkW; omega
  have X2 := hX.1.wy hr S2 FF
  have V2 : VC T P N2 := hX.2.1.mv rfl rfl (fun _ _ => rfl) (fun b j hb => rN2 b j (fun q => nrw (q ▸ hb)))
  obtain ⟨u1, u2, u3, u4, u5, u6, u7, u8⟩ := arv_l hr (hn := hb.toInt.toNat) (by omega) (by omega) it 200 0 0 (P (3 + fr.toInt.toNat)) (-1) (-1) [P (3 + fr.toInt.toNat)] none N2 X2 V2 ((z2 _ _).trans n8) ir (by decide) ((z2 _ _).trans n0) ((z2 _ _).trans n4) ((z2 _ _).trans n3) rfl rfl (by rw [z2, n11]; rfl) rfl (fun j y hj => by
    cases j with
    | zero =>
      cases hj
      rw [eN2]
      exact rN_wI_eq (by omega)
    | succ j => cases hj) H
  have F9 := FF.trans u3
  have hl := ld_cases hX.ld
  refine ⟨u1, hC.wy hr u2 F9, ⟨u4, u5, ?_, ?_, fun k hk => (F9.on (fun q => q)).trans (hX.2.2.2.2.1 k hk), hX.2.2.2.2.2.1.on (fun j => F9.on (fun q => q)), u6⟩, F9, u7, u8⟩
  · exact hX.2.2.1.mv F9 (by unfold wyF; omega) (by unfold wyF; omega) (by unfold wyF; omega) (by unfold wyF; omega) (fun k f _ => by unfold wyF; omega) (by unfold wyW lkW; omega) (fun _ _ => rfl) hD.2.1.2.1 hD.2.2.2.1
  · have q := hX.2.2.2.1
    exact ⟨(F9.fi (by unfold wyF; omega)).trans q.1, (F9.fi (by unfold wyF; omega)).trans q.2.1, (F9.fi (by unfold wyF; omega)).trans q.2.2.1, (F9.fi (by unfold wyF; omega)).trans q.2.2.2⟩
end CWAY
