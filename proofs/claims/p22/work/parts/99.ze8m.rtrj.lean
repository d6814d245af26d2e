/-! THE REFERENCE'S lasts, isTrod -/
section RTRJ
variable {e B : Nat} {T : TS} {P P' P0 Q : PK} {M M0 M1 M' : Mem} {v : Option Value} {c k d x a b t y : Int32} {w dd : Int32} {f0 : Bool} {n i j : Nat}
theorem g189_0 (h : RST T P M) (hD : okD P) : G_189 M k = 0 ↔ ¬ isW P k := by
  rw [← g189_ok h hD]
  unfold G_189
  split
  · exact ⟨fun _ q => absurd q (by decide), fun _ => rfl⟩
  · split
    · exact ⟨fun q => absurd q (by decide), fun q => absurd rfl q⟩
    · exact ⟨fun _ q => absurd q (by decide), fun _ => rfl⟩
theorem RTR.d0 {P0 : PK} (h : RTR T P P0 M) (hQ : okD Q) (hK : okK Q) (hR : RST T Q M') (hF : FZ noF (fun a => a = 635) noO M M') : RTR T Q P0 M' := ⟨hR, hQ, hK, by obtain ⟨b, hb⟩ := h.2.2.2.1; exact ⟨b, (hF.fi (fun q => q)).trans hb⟩, fun j hj => (hF.rn (by decide)).trans (h.2.2.2.2 j hj)⟩
theorem rls_l {P0 : PK} (hn : t.toInt = (n : Int)) (hc0 : inC P0 c) (k40 : y.toInt ≤ 40) : ∀ (r : Nat) (wz : Int32) (P : PK) (M : Mem), RTR T P P0 M → P 0 = P0 0 → P 1 = P0 1 → wrnB (T 0) P c = true → wz.toInt + (r : Int) = y.toInt + 1 → 1 ≤ wz.toInt → Ev none e 237 81 [some (.ref 633), some (.int k), some (.int c), some (.int y), some (.int t), some (.int (-1)), some (.int wz)] [] M v M' 0 0 → v = some (.int (lasL T n c r (wz - 1) P)) ∧ RST T P0 M' := by
  have uk := i32_any y
  have tm : (-1 : Int32).toInt = -1 := rfl
  have z0 : (0 : Int32).toInt = 0 := rfl
  intro r
  induction r with
  | zero =>
    intro wz P M h p0 p1 hwn hw h1 H
    rcases rls_81 h.1.1 H with ⟨_, e1, v1, M1, _, H1, H⟩ | ⟨a1, _⟩ | ⟨a1, _⟩
    · obtain ⟨rv, q1, _⟩ := h.bk H1
      rw [rv] at H
      obtain ⟨r1, r2⟩ := rls_120 q1.1 H
      unfold lasL
      rw [if_pos hwn]
      exact ⟨r1, r2 ▸ q1⟩
    all_goals exact absurd (Int32.lt_iff_toInt_lt.mpr (by omega)) a1
  | succ r ih =>
    intro wz P M h p0 p1 hwn hw h1 H
    rcases rls_81 h.1.1 H with ⟨a1, _⟩ | ⟨_, a1, _⟩ | ⟨_, _, e1, v1, M1, _, H1, H⟩
    · have := Int32.lt_iff_toInt_lt.mp a1
      omega
    · have := Int32.le_iff_toInt_le.mp a1
      omega
    · obtain ⟨rv2, s1, s2⟩ := rgo_ok h hn H1
      rw [rv2] at H
      have w0 := wks_0 (T := T) (t := n) h.2.1 h.2.2.1
      have q0 := (w0 0 (by decide)).trans p0
      have q1 := (w0 1 (by decide)).trans p1
      have hcP : inC (wksP T n P) c := (inC.eq q0 q1).mpr hc0
      have e1' : (wz + 1).toInt = wz.toInt + 1 := i32_p1 (by omega)
      have em : wz - 1 + 1 = wz := by grind
      have ep : wz + 1 - 1 = wz := by grind
      unfold lasL
      rw [if_pos hwn, em]
      rcases rls_98 s1.1.1 H with ⟨a1, H⟩ | ⟨a1, H⟩
      · rw [g150_ok s1.1 s1.2.1.1 hcP, bI_0] at a1
        have hl : lasL T n c r wz (wksP T n P) = wz := by
          cases r with
          | zero => unfold lasL; rw [if_neg (by rw [a1]; decide)]
          | succ r => unfold lasL; rw [if_neg (by rw [a1]; decide)]
        rw [hl]
        have hg : (∃ e1 v1 M2, e = e1 + 1 ∧ Ev none e1 154 0 [some (.ref 633), none] [] M1 v1 M2 0 0 ∧ Ev none e 237 120 [some (.ref 633), some (.int k), some (.int c), some (.int y), some (.int t), some (.int wz), some (.int (wz + 1))] (v1.toList ++ []) M2 v M' 0 0) → v = some (.int wz) ∧ RST T P0 M' := fun ⟨e4, v4, M4, _, H4, H⟩ => by
          obtain ⟨rv4, u1, _⟩ := s1.bk H4
          rw [rv4] at H
          obtain ⟨r1, r2⟩ := rls_120 u1.1 H
          exact ⟨r1, r2 ▸ u1⟩
        rcases rls_81 s1.1.1 H with ⟨_, H⟩ | ⟨_, _, H⟩ | ⟨_, a2, _⟩
        · exact hg H
        · exact hg H
        · exact absurd (Int32.le_iff_toInt_le.mpr (by omega)) a2
      · rw [g150_ok s1.1 s1.2.1.1 hcP, bI_0, Bool.not_eq_false] at a1
        have q := ih (wz + 1) _ M1 s1 q0 q1 a1 (by omega) (by omega) H
        rw [ep] at q
        exact q
def lasN (P : PK) (k c y t : Int32) : Prop := ¬ isW P k ∨ ¬ inC P c ∨ ¬ inX y 1 40 ∨ ¬ inX t 1 200
theorem drp_wrn {g : TQ} (hk : 0 ≤ k.toInt ∧ k.toInt < 24) : wrnB g (drpP P k) c = wrnB g P c := by
  unfold wrnB drpP
  rw [cE_lo (by omega)]
theorem rlasts_ok (hR : RST T P M) (hD : okD P) (hK : okK P) (hb : ∃ b, zI M 633 42 = bI b) (H : Ev none e 237 0 [some (.ref 633), some (.int k), some (.int c), some (.int y), some (.int t), none, none] [] M v M' 0 0) : (lasN P k c y t ∧ v = some (.int (-2)) ∧ RST T P M') ∨ (¬ lasN P k c y t ∧ v = some (.int (lasL T t.toInt.toNat c y.toInt.toNat 0 (drpP P k))) ∧ RST T P M') := by
  have h0 := hR.w0 0 (by decide) 0
  have hb0 : ∃ b, zI (wF M 633 0 0) 633 42 = bI b := by
    obtain ⟨b, hb⟩ := hb
    exact ⟨b, by rw [fI_wF_ne (by decide)]; exact hb⟩
  have b24 := hD.2.2.2.1
  unfold lasN
  rcases rls_0 hR.1 H with ⟨a1, r1, r2⟩ | ⟨_, a1, r1, r2⟩ | ⟨_, _, a1, r1, r2⟩ | ⟨_, _, _, a1, r1, r2⟩ | ⟨a1, a2, a3, a4, a5, r1, r2⟩ | ⟨a1, a2, a3, a4, a5, e1, v1, M1, _, H1, H⟩
  · rw [g189_0 h0 hD] at a1
    exact Or.inl ⟨Or.inl a1, r1, r2 ▸ h0⟩
  · rw [g145_ok h0 hD.1] at a1
    exact Or.inl ⟨Or.inr (Or.inl a1), r1, r2 ▸ h0⟩
  · rw [g140_R] at a1
    exact Or.inl ⟨Or.inr (Or.inr (Or.inl a1)), r1, r2 ▸ h0⟩
  · rw [g140_R] at a1
    exact Or.inl ⟨Or.inr (Or.inr (Or.inr a1)), r1, r2 ▸ h0⟩
  all_goals
    rw [g189_0 h0 hD, Classical.not_not] at a1
    rw [g145_ok h0 hD.1, Classical.not_not] at a2
    rw [g140_R, Classical.not_not] at a3 a4
    rw [g150_ok h0 hD.1 a2, bI_0] at a5
    have hk := a1.1
    have hk24 : 0 ≤ k.toInt ∧ k.toInt < 24 := ⟨hk.1, by omega⟩
    have nl : ¬ (¬ isW P k ∨ ¬ inC P c ∨ ¬ inX y 1 40 ∨ ¬ inX t 1 200) := fun q => by
      rcases q with q | q | q | q
      · exact q a1
      · exact q a2
      · exact q a3
      · exact q a4
    have y1 : 1 ≤ y.toInt := a3.1
    have y40 : y.toInt ≤ 40 := a3.2
    have t1 : 1 ≤ t.toInt := a4.1
  · refine Or.inr ⟨nl, ?_, r2 ▸ h0⟩
    rw [r1]
    have hy : y.toInt.toNat = (y.toInt.toNat - 1) + 1 := by omega
    rw [hy]
    unfold lasL
    rw [if_neg (by rw [drp_wrn hk24, a5]; decide)]
  · rw [Bool.not_eq_false] at a5
    obtain ⟨rv, q1, _⟩ := RTR.mk0 h0 hD hK hb0 H1
    rw [rv] at H
    obtain ⟨_, H⟩ := rls_60 q1.1.1 H
    have t6 : (6 : Int32).toInt = 6 := rfl
    have t13 : (13 : Int32).toInt = 13 := rfl
    have t5 : (5 : Int32).toInt = 5 := rfl
    have m6 : (6 * k).toInt = 6 * k.toInt := i32_mul (by rw [t6]; omega) (by rw [t6]; omega)
    have m13 : (13 + 6 * k).toInt = 13 + 6 * k.toInt := by rw [i32_add (by omega) (by omega), m6]; omega
    have ix : (13 + 6 * k + 5).toNatClampNeg = 13 + 6 * k.toInt.toNat + 5 := cl_n (by rw [i32_add (by omega) (by omega), m13]; omega)
    rw [ix] at H
    obtain ⟨dD, dO⟩ := hD.drp hk
    have q2 : RTR T (drpP P k) P (wI M1 635 (13 + 6 * k.toInt.toNat + 5) 0) := q1.d0 dD (hK.wis (dO 0 (by omega)) (dO 1 (by omega)) (by rw [dO 12 (by omega)]; exact Int.le_refl _) (fun j hj => dO j (by omega))) (q1.1.up (by omega)) (FZ.wI rfl)
    obtain ⟨r1, r2⟩ := rls_l (n := t.toInt.toNat) (y := y) (k := k) (by omega) a2 y40 y.toInt.toNat 1 (drpP P k) _ q2 (dO 0 (by omega)) (dO 1 (by omega)) (by rw [drp_wrn hk24]; exact a5) (by have o : (1 : Int32).toInt = 1 := rfl; omega) (by decide) H
    exact Or.inr ⟨nl, r1, r2⟩
/-! isTrod -/
def ritW (a : Nat) : Prop := a = 635 ∨ a = 637 ∨ a = 649
theorem lay6_lo {P : PK} : ∀ j, j < 522 → layP P c 6 j = P j := lay_hi
theorem fen1_lo {P : PK} : ∀ j, j < 522 → fen1 P a j = P j := fun j hj => by
  unfold fen1
  split
  · exact lay_hi j hj
  · rfl
theorem rit_l {P0 : PK} (hn : t.toInt = (n : Int)) : ∀ (r i : Nat) (iz : Int32) (P : PK) (ss : List Int32) (M : Mem), RST T P M → okD P → okK P → WFr w false ss M → ARn dd P M → (∀ j, j < 2314 → rN M 637 j = P0 j) → iz.toInt = (i : Int) → i + r = n → Ev none e 233 34 [some (.ref 633), some (.int a), some (.int b), some (.int t), some (.int iz)] [] M v M' 0 0 → v = some (.int (bI (decide (w ∈ (gofP T w r (P, ss)).2)))) ∧ RST T P0 M' ∧ zI M' 633 40 = w ∧ zI M' 633 42 = bI (decide (w ∈ (gofP T w r (P, ss)).2)) ∧ FZ rkF ritW noO M M' := by
  intro r
  induction r with
  | zero =>
    intro i iz P ss M hR hD hK hf ha h9 hi hin H
    have hf42 : zI M 633 42 = bI (decide (w ∈ ss)) := hf.2
    have hg : (∃ e1 v1 M1, e = e1 + 1 ∧ Ev none e1 154 0 [some (.ref 633), none] [] M v1 M1 0 0 ∧ Ev none e 233 61 [some (.ref 633), some (.int a), some (.int b), some (.int t), some (.int iz)] (v1.toList ++ []) M1 v M' 0 0) → v = some (.int (bI (decide (w ∈ ss)))) ∧ RST T P0 M' ∧ zI M' 633 40 = w ∧ zI M' 633 42 = bI (decide (w ∈ ss)) ∧ FZ rkF ritW noO M M' := fun ⟨e4, v4, M4, _, H4, H⟩ => by
      obtain ⟨rv4, u1, u2⟩ := lbk_ok hR h9 H4
      rw [rv4] at H
      obtain ⟨r1, r2⟩ := rit_61 u1.1 H
      have e42 : zI M4 633 42 = zI M 633 42 := u2.fi (fun q => q)
      rw [e42, hf42] at r1
      exact ⟨r1, r2 ▸ u1, by rw [r2]; exact (u2.fi (fun q => q)).trans hf.1, by rw [r2, e42, hf42], by rw [r2]; exact u2.more (fun _ _ q => q.elim) (fun a q => Or.inl q) (fun _ q => q)⟩
    rcases rit_34 hR.1 H with ⟨_, H⟩ | ⟨a1, _⟩ | ⟨a1, _⟩
    · exact hg H
    all_goals exact absurd (Int32.le_iff_toInt_le.mpr (by omega)) a1
  | succ r ih =>
    intro i iz P ss M hR hD hK hf ha h9 hi hin H
    have hf42 : zI M 633 42 = bI (decide (w ∈ ss)) := hf.2
    by_cases hw : w ∈ ss
    · have e : gofP T w (r + 1) (P, ss) = (P, ss) := if_pos hw
      rw [e]
      show v = some (.int (bI (decide (w ∈ ss)))) ∧ RST T P0 M' ∧ zI M' 633 40 = w ∧ zI M' 633 42 = bI (decide (w ∈ ss)) ∧ FZ rkF ritW noO M M'
      rcases rit_34 hR.1 H with ⟨a1, _⟩ | ⟨_, a1, _⟩ | ⟨_, _, e4, v4, M4, _, H4, H⟩
      · have := Int32.le_iff_toInt_le.mp a1
        omega
      · rw [hf42, decide_eq_true hw] at a1
        exact absurd a1 (by decide)
      · obtain ⟨rv4, u1, u2⟩ := lbk_ok hR h9 H4
        rw [rv4] at H
        obtain ⟨r1, r2⟩ := rit_61 u1.1 H
        have e42 : zI M4 633 42 = zI M 633 42 := u2.fi (fun q => q)
        rw [e42, hf42] at r1
        exact ⟨r1, r2 ▸ u1, by rw [r2]; exact (u2.fi (fun q => q)).trans hf.1, by rw [r2, e42, hf42], by rw [r2]; exact u2.more (fun _ _ q => q.elim) (fun a q => Or.inl q) (fun _ q => q)⟩
    · have e : gofP T w (r + 1) (P, ss) = gofP T w r (tckP T (P, ss)) := if_neg hw
      rw [e]
      rcases rit_34 hR.1 H with ⟨a1, _⟩ | ⟨_, _, e1, v1, M1, _, H1, H⟩ | ⟨_, a1, _⟩
      · have := Int32.le_iff_toInt_le.mp a1
        omega
      · obtain ⟨rv, q2, q3, q4, q5, q6, q7, q8⟩ := rtick_ok hR hD hK hf ha H1
        rw [rv] at H
        have H := rit_51 q2.1 H
        obtain ⟨w1, w2, w3, w4, w5⟩ := ih (i + 1) (iz + 1) (tckP T (P, ss)).1 (tckP T (P, ss)).2 M1 q2 q3 q4 q6 q7 (fun j hj => (q5.rn (by unfold rkW; decide)).trans (h9 j hj)) (by rw [i32_p1 (by have := i32_any t; omega)]; omega) (by omega) H
        exact ⟨w1, w2, w3, w4, (q5.more (fun _ _ q => q) (fun a q => by unfold rkW at q; unfold ritW; omega) (fun _ q => q)).trans w5⟩
      · rw [hf42, decide_eq_false hw] at a1
        exact absurd rfl a1
theorem put_ok (hR : RST T P M) (hw : wh4 P) (hc : inC P c) (H : Ev none e 213 0 [some (.ref 633), some (.int c), some (.int 6)] [] M v M' 0 0) : v = none ∧ RST T (layP P c 6) M' ∧ FZ noF (fun a => a = 635) noO M M' := by
  obtain ⟨rv, rm⟩ := g_213 hR.1 H
  refine ⟨rv, rm ▸ x213_ok hR hw hc, ?_⟩
  rw [rm]
  unfold X_213 X_147
  split
  · exact (FZ.wI (W := fun a => a = 635) rfl).trans (FZ.wI rfl)
  · exact FZ.wI rfl
/-- isTrod; the fences on CELLS where no DOOR and no WALKER is keep the PARK good: nothing below the CELLS changes -/
theorem ritro_ok (hR : RST T P M) (hD : okD P) (hK : okK P) (hb : ∃ b, zI M 633 42 = bI b) (ha : a = -1 ∨ inC P a) (hbb : b = -1 ∨ inC P b) (hn : t.toInt = (n : Int)) (H : Ev none e 233 0 [some (.ref 633), some (.int a), some (.int b), some (.int t), none] [] M v M' 0 0) : v = some (.int (bI (trodB T P (zI M 633 40) n a b))) ∧ RST T P M' ∧ zI M' 633 40 = zI M 633 40 ∧ (∃ b, zI M' 633 42 = bI b) ∧ FZ rkF ritW noO M M' := by
  obtain ⟨e1, v1, M1, _, H1, H⟩ := rit_0 hR.1 H
  obtain ⟨r1, r2, r3, r4⟩ := las_ok hR H1
  rw [r1] at H
  have neg : ∀ z : Int32, z = -1 → z < 0 := fun z hz => by rw [hz]; decide
  have nng : ∀ z : Int32, z < 0 ↔ ¬ (0 : Int32) ≤ z := fun z => by
    rw [Int32.lt_iff_toInt_lt, Int32.le_iff_toInt_le]
    omega
  have s1 : ∃ M2, RST T (fen1 P a) M2 ∧ FZ noF (fun a => a = 635) noO M1 M2 ∧ Ev none e 233 15 [some (.ref 633), some (.int a), some (.int b), some (.int t), none] [] M2 v M' 0 0 := by
    rcases rit_4 r2.1 H with ⟨a1, H⟩ | ⟨a1, e2, v2, M2, _, H2, H⟩
    · refine ⟨M1, ?_, FZ.refl _, H⟩
      unfold fen1
      rw [if_neg ((nng a).mp a1)]
      exact r2
    · have ic : inC P a := ha.resolve_left (fun q => a1 (neg a q))
      obtain ⟨u1, u2, u3⟩ := put_ok r2 hD.1 ic H2
      rw [u1] at H
      refine ⟨M2, ?_, u3, H⟩
      unfold fen1
      rw [if_pos (Classical.not_not.mp (fun q => a1 ((nng a).mpr q)))]
      exact u2
  obtain ⟨M2, s1, s2, H⟩ := s1
  have lo1 : hiS P (fen1 P a) := fen1_lo
  have hD1 := lo1.D hD
  have s3 : ∃ M3, RST T (fenP P a b) M3 ∧ FZ noF (fun a => a = 635) noO M2 M3 ∧ Ev none e 233 26 [some (.ref 633), some (.int a), some (.int b), some (.int t), none] [] M3 v M' 0 0 := by
    rcases rit_15 s1.1 H with ⟨a1, H⟩ | ⟨a1, e2, v2, M3, _, H2, H⟩
    · refine ⟨M2, ?_, FZ.refl _, H⟩
      unfold fenP
      rw [show fen1 (fen1 P a) b = fen1 P a from if_neg ((nng b).mp a1)]
      exact s1
    · have ic : inC P b := hbb.resolve_left (fun q => a1 (neg b q))
      obtain ⟨u1, u2, u3⟩ := put_ok s1 hD1.1 ((inC.hi lo1).mpr ic) H2
      rw [u1] at H
      refine ⟨M3, ?_, u3, H⟩
      unfold fenP
      rw [show fen1 (fen1 P a) b = layP (fen1 P a) b 6 from if_pos (Classical.not_not.mp (fun q => a1 ((nng b).mpr q)))]
      exact u2
  obtain ⟨M3, s3, s4, H⟩ := s3
  have lo2 : hiS P (fenP P a b) := fun j hj => (fen1_lo j hj).trans (fen1_lo j hj)
  have H := rit_26 s3.1 H
  have u0 : RST T (fenP P a b) (wF M3 633 42 0) := s3.w0 42 (by decide) 0
  have F4 : FZ (fun a k => a = 633 ∧ k = 42) noO noO M3 (wF M3 633 42 0) := FZ.wF (F := fun a k => a = 633 ∧ k = 42) ⟨rfl, rfl⟩
  have e40 : zI (wF M3 633 42 0) 633 40 = zI M 633 40 := (F4.fi (by decide)).trans ((s4.fi (fun q => q)).trans ((s2.fi (fun q => q)).trans (r4.fi (fun q => q))))
  have e42 : zI (wF M3 633 42 0) 633 42 = 0 := fI_wF_eq s3.1.1 qa_633 qi_61_42
  have hf : WFr (zI M 633 40) false [] (wF M3 633 42 0) := ⟨e40, by rw [e42, decide_eq_false (by simp)]; rfl⟩
  have ha2 : ARn (zI (wF M3 633 42 0) 633 41 - fenP P a b 519) (fenP P a b) (wF M3 633 42 0) := by unfold ARn; grind
  obtain ⟨v1, v2, v3, v4, v5⟩ := rit_l (w := zI M 633 40) hn n 0 0 (fenP P a b) [] _ u0 (lo2.D hD) (lo2.K hK) hf ha2 (fun j hj => (rN_wF).trans ((s4.rn (by decide)).trans ((s2.rn (by decide)).trans (r3 j hj)))) rfl (by omega) H
  have g1 : ∀ {A B : Mem}, FZ noF (fun a => a = 635) noO A B → FZ rkF ritW noO A B := fun h => h.more (fun _ _ q => q.elim) (fun a q => Or.inl q) (fun _ q => q)
  exact ⟨v1, v2, v3, ⟨_, v4⟩, ((((r4.more (fun _ _ q => q.elim) (fun a q => Or.inr (Or.inl q)) (fun _ q => q)).trans (g1 s2)).trans (g1 s4)).trans (F4.more (fun a k q => ⟨q.1, Or.inr (Or.inr q.2)⟩) (fun _ q => q.elim) (fun _ q => q))).trans v5⟩
end RTRJ
