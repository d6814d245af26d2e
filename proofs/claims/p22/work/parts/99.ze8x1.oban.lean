/-! WALKER and COUNT of both sides -/
noncomputable def walA (P : PK) (k w : Int32) : Int32 := if ((0 : Int32).toInt ≤ k.toInt ∧ k.toInt ≤ (P 157 - 1).toInt) ∧ ((0 : Int32).toInt ≤ w.toInt ∧ w.toInt ≤ (2 : Int32).toInt) then P (158 + 6 * k.toInt.toNat + w.toInt.toNat) else -1
noncomputable def isN (P : PK) : Nat → Nat → Int32 → Int32
  | 0, _, n => n
  | r + 1, i, n => isN P r (i + 1) (n + P (13 + 6 * i + 5))
noncomputable def couA (P : PK) (z k : Int32) : Int32 := if k = 0 then P 0 else if k = 1 then P 1 else if k = 2 then P 2 else if k = 3 then isN P (P 12).toInt.toNat 0 0 else if k = 4 then P 157 else if k = 5 then P 518 else if k = 6 then P 519 else if k = 7 then P 520 else if k = 8 then P 521 else if k = 9 then z else -1
section OBAN
variable {e n i j : Nat} {T : TS} {P : PK} {PI : Nat → PK} {M M1 M' : Mem} {v : Option Value} {k w x c nz iz : Int32}
theorem walk_ok (hC : CST T P PI M) (H : Ev none e 96 0 [some (.ref 0), some (.int k), some (.int w), none] [] M v M' 0 0) : v = some (.int (walA P k w)) ∧ CST T P PI M' := by
  have hA := hC.lan
  have e15 : zI M 8 15 = P 157 := hA.2.2.2.1.1
  have k60 := hC.ok.k60
  have k0 := hC.ok.2.1.1
  have m1 : (P 157 - 1).toInt = (P 157).toInt - 1 := i32_m1 (by omega)
  have t0 : (0 : Int32).toInt = 0 := rfl
  have wf : inX k 0 (P 157 - 1) → WFq (oI M (8 + 11) k) P k.toInt.toNat M := fun q => by
    have q0 := q.1
    have q1 := q.2
    have e : oI M (8 + 11) k = oN M (8 + 11) k.toInt.toNat := by
      unfold oI
      rw [cl_n (show k.toInt = ((k.toInt.toNat : Nat) : Int) by omega)]
    rw [e]
    exact hA.2.2.2.1.2 k.toInt.toNat (by omega)
  unfold walA
  rcases wkr_0 hC.sq hC.ld H with ⟨a1, r1, r2⟩ | ⟨a1, a2, _, r1, r2⟩ | ⟨a1, _, a2, _, r1, r2⟩ | ⟨a1, _, _, a2, _, r1, r2⟩ | ⟨a1, b0, b1, b2, _, r1, r2⟩
  · rw [g126_R, e15] at a1
    rw [r2]
    exact ⟨by rw [r1, if_neg (fun q => a1 q.1)], hC⟩
  · rw [g126_R, e15, Classical.not_not] at a1
    rw [r2]
    refine ⟨?_, hC⟩
    rw [r1, a2, if_pos ⟨a1, by decide⟩, (wf a1).1]
    rfl
  · rw [g126_R, e15, Classical.not_not] at a1
    rw [r2]
    refine ⟨?_, hC⟩
    rw [r1, a2, if_pos ⟨a1, by decide⟩, (wf a1).2.1]
    rfl
  · rw [g126_R, e15, Classical.not_not] at a1
    rw [r2]
    refine ⟨?_, hC⟩
    rw [r1, a2, if_pos ⟨a1, by decide⟩, (wf a1).2.2.1]
    rfl
  · rw [r2]
    refine ⟨?_, hC⟩
    rw [r1, if_neg (fun q => ?_)]
    have q0 : 0 ≤ w.toInt := q.2.1
    have q1 : w.toInt ≤ 2 := q.2.2
    have n0 : w.toInt ≠ 0 := fun h => b0 (Int32.toInt_inj.mp h)
    have n1 : w.toInt ≠ 1 := fun h => b1 (Int32.toInt_inj.mp h)
    have n2 : w.toInt ≠ 2 := fun h => b2 (Int32.toInt_inj.mp h)
    omega
theorem rwalk_ok (hR : RST T P M) (hK : okK P) (H : Ev none e 215 0 [some (.ref 633), some (.int k), some (.int w)] [] M v M' 0 0) : v = some (.int (walA P k w)) ∧ RST T P M' := by
  have h0 := hR.w0 0 (by decide) 0
  have k0 := hK.1
  have k60 := hK.2.1
  have m1 : (P 157 - 1).toInt = (P 157).toInt - 1 := i32_m1 (by omega)
  have e157 : rI M 635 157 = P 157 := (rI_n (p := 157) rfl).trans (hR.2.1 157 (by decide))
  have t0 : (0 : Int32).toInt = 0 := rfl
  unfold walA
  rcases rwr_0 hR.1 H with ⟨a1, _, r1, r2⟩ | ⟨_, a1, _, r1, r2⟩ | ⟨a1, a2, _, _, r1, r2⟩
  · rw [g140_R, e157] at a1
    rw [r2]
    exact ⟨by rw [r1, if_neg (fun q => a1 q.1)], h0⟩
  · rw [g140_R] at a1
    rw [r2]
    exact ⟨by rw [r1, if_neg (fun q => a1 q.2)], h0⟩
  · rw [g140_R, e157, Classical.not_not] at a1
    rw [g140_R, Classical.not_not] at a2
    rw [r2]
    refine ⟨?_, h0⟩
    have q0 : 0 ≤ k.toInt := a1.1
    have q1 := a1.2
    have w0 : 0 ≤ w.toInt := a2.1
    have w2 : w.toInt ≤ 2 := a2.2
    have t6 : (6 : Int32).toInt = 6 := rfl
    have t158 : (158 : Int32).toInt = 158 := rfl
    have m6 : (6 * k).toInt = 6 * k.toInt := i32_mul (by rw [t6]; omega) (by rw [t6]; omega)
    have s1 : (158 + 6 * k).toInt = 158 + 6 * k.toInt := by rw [i32_add (by omega) (by omega), m6]; omega
    have s2 : (158 + 6 * k + w).toInt = ((158 + 6 * k.toInt.toNat + w.toInt.toNat : Nat) : Int) := by rw [i32_add (by omega) (by omega), s1]; omega
    rw [r1, if_pos ⟨a1, a2⟩, rI_n s2, hR.2.1 _ (by omega)]
theorem wta_l (hC : CST T P PI M) : ∀ (r i : Nat) (iz nz : Int32), iz.toInt = (i : Int) → i + r = (P 12).toInt.toNat → Ev none e 11 4 [some (.ref 8), some (.int nz), some (.int iz)] [] M v M' 0 0 → M' = M ∧ v = some (.int (isN P r i nz)) := by
  have hA := hC.lan
  have e13 : zI M 8 13 = P 12 := hA.1.2.2.2.1
  have n24 := hC.ok.n24
  have n0 := hC.ok.1.2.2.1
  intro r
  induction r with
  | zero =>
    intro i iz nz hi hr H
    rcases wta_4 hC.sq H with ⟨_, r1, r2⟩ | ⟨a1, _⟩ | ⟨a1, _⟩
    · exact ⟨r2, r1⟩
    all_goals exact absurd (Int32.le_iff_toInt_le.mpr (by rw [e13]; omega)) a1
  | succ r ih =>
    intro i iz nz hi hr H
    have eo : oI M (8 + 10) iz = 8 + 12 + i := by
      unfold oI
      rw [cl_n hi]
      exact hC.wx i (by omega)
    have e5 : zI M (oI M (8 + 10) iz) 5 = P (13 + 6 * i + 5) := by
      rw [eo]
      exact hA.1.2.2.2.2 i (by omega) 5 (by decide)
    have hb := (hC.ok.1.2.2.2.2 i (by omega)).2.2.2.2
    have z1 : (iz + 1).toInt = ((i + 1 : Nat) : Int) := by rw [i32_p1 (by omega)]; omega
    unfold isN
    rcases wta_4 hC.sq H with ⟨a1, _⟩ | ⟨_, a1, _, H⟩ | ⟨_, a1, _, H⟩
    · have := Int32.le_iff_toInt_le.mp a1
      rw [e13] at this
      omega
    · rw [e5] at a1
      rw [a1]
      exact ih (i + 1) (iz + 1) _ z1 (by omega) H
    · rw [e5] at a1
      rw [hb.resolve_left a1]
      exact ih (i + 1) (iz + 1) _ z1 (by omega) H
theorem count_ok (hC : CST T P PI M) (H : Ev none e 125 0 [some (.ref 0), some (.int k)] [] M v M' 0 0) : v = some (.int (couA P (zI M 1 1) k)) ∧ CST T P PI M' := by
  have hA := hC.lan
  have n0 := hC.ok.1.2.2.1
  unfold couA
  rcases cnt_0 hC.sq hC.ld H with ⟨a0, r1, r2⟩ | ⟨a0, a1, r1, r2⟩ | ⟨a0, a1, a2, r1, r2⟩ | ⟨a0, a1, a2, a3, e1, v1, M1, _, H1, H⟩ | ⟨a0, a1, a2, a3, a4, r1, r2⟩ | ⟨a0, a1, a2, a3, a4, a5, r1, r2⟩ | ⟨a0, a1, a2, a3, a4, a5, a6, r1, r2⟩ | ⟨a0, a1, a2, a3, a4, a5, a6, a7, r1, r2⟩ | ⟨a0, a1, a2, a3, a4, a5, a6, a7, a8, r1, r2⟩ | ⟨a0, a1, a2, a3, a4, a5, a6, a7, a8, a9, r1, r2⟩ | ⟨a0, a1, a2, a3, a4, a5, a6, a7, a8, a9, r1, r2⟩
  · rw [r2, r1, if_pos a0, hA.1.1]
    exact ⟨rfl, hC⟩
  · rw [r2, r1, if_neg a0, if_pos a1, hA.1.2.1]
    exact ⟨rfl, hC⟩
  · rw [r2, r1, if_neg a0, if_neg a1, if_pos a2, hA.1.2.2.1.1]
    exact ⟨rfl, hC⟩
  · obtain ⟨rm, rv⟩ := wta_l hC (P 12).toInt.toNat 0 0 0 rfl (by omega) (wta_0 hC.sq H1)
    rw [rm, rv] at H
    obtain ⟨r1, r2⟩ := cnt_87 hC.sq H
    rw [r2, r1, if_neg a0, if_neg a1, if_neg a2, if_pos a3]
    exact ⟨rfl, hC⟩
  · rw [r2, r1, if_neg a0, if_neg a1, if_neg a2, if_neg a3, if_pos a4, hA.2.2.2.1.1]
    exact ⟨rfl, hC⟩
  · rw [r2, r1, if_neg a0, if_neg a1, if_neg a2, if_neg a3, if_neg a4, if_pos a5, hA.2.1.1]
    exact ⟨rfl, hC⟩
  · rw [r2, r1, if_neg a0, if_neg a1, if_neg a2, if_neg a3, if_neg a4, if_neg a5, if_pos a6, hA.2.1.2.1]
    exact ⟨rfl, hC⟩
  · rw [r2, r1, if_neg a0, if_neg a1, if_neg a2, if_neg a3, if_neg a4, if_neg a5, if_neg a6, if_pos a7, hA.2.1.2.2.1]
    exact ⟨rfl, hC⟩
  · rw [r2, r1, if_neg a0, if_neg a1, if_neg a2, if_neg a3, if_neg a4, if_neg a5, if_neg a6, if_neg a7, if_pos a8, hA.2.1.2.2.2]
    exact ⟨rfl, hC⟩
  · rw [r2, r1, if_neg a0, if_neg a1, if_neg a2, if_neg a3, if_neg a4, if_neg a5, if_neg a6, if_neg a7, if_neg a8, if_pos a9]
    exact ⟨rfl, hC⟩
  · rw [r2, r1, if_neg a0, if_neg a1, if_neg a2, if_neg a3, if_neg a4, if_neg a5, if_neg a6, if_neg a7, if_neg a8, if_neg a9]
    exact ⟨rfl, hC⟩
theorem rcn_l (hR : RST T P M) (hD : okD P) : ∀ (r i : Nat) (iz nz : Int32), iz.toInt = (i : Int) → i + r = (P 12).toInt.toNat → Ev none e 248 9 [some (.ref 633), some (.int k), some (.int nz), some (.int iz)] [] M v M' 0 0 → ∃ iz2, Ev none e 248 43 [some (.ref 633), some (.int k), some (.int (isN P r i nz)), some (.int iz2)] [] M v M' 0 0 := by
  have n0 := hD.2.2.1
  have n24 := hD.2.2.2.1
  have e12 : rI M 635 12 = P 12 := (rI_n (p := 12) rfl).trans (hR.2.1 12 (by decide))
  intro r
  induction r with
  | zero =>
    intro i iz nz hi hr H
    rcases rcn_9 hR.1 H with ⟨_, _, H⟩ | ⟨a1, _⟩
    · exact ⟨iz, H⟩
    · exact absurd (Int32.le_iff_toInt_le.mpr (by rw [e12]; omega)) a1
  | succ r ih =>
    intro i iz nz hi hr H
    have z1 : (iz + 1).toInt = ((i + 1 : Nat) : Int) := by rw [i32_p1 (by omega)]; omega
    have t6 : (6 : Int32).toInt = 6 := rfl
    have t13 : (13 : Int32).toInt = 13 := rfl
    have t5 : (5 : Int32).toInt = 5 := rfl
    have m6 : (6 * iz).toInt = 6 * iz.toInt := i32_mul (by rw [t6]; omega) (by rw [t6]; omega)
    have s1 : (13 + 6 * iz).toInt = 13 + 6 * iz.toInt := by rw [i32_add (by omega) (by omega), m6]; omega
    have s2 : (13 + 6 * iz + 5).toInt = ((13 + 6 * i + 5 : Nat) : Int) := by rw [i32_add (by omega) (by omega), s1]; omega
    unfold isN
    rcases rcn_9 hR.1 H with ⟨a1, _⟩ | ⟨_, _, _, H⟩
    · have := Int32.le_iff_toInt_le.mp a1
      rw [e12] at this
      omega
    · rw [rI_n s2, hR.2.1 _ (by omega)] at H
      exact ih (i + 1) (iz + 1) _ z1 (by omega) H
theorem rcount_ok (hR : RST T P M) (hD : okD P) (H : Ev none e 248 0 [some (.ref 633), some (.int k), none, none] [] M v M' 0 0) : v = some (.int (couA P (zI M 633 2) k)) ∧ RST T P M' := by
  have h0 := hR.w0 0 (by decide) 0
  have n0 := hD.2.2.1
  have g : ∀ (p : Nat) (q : Int32), q.toInt = (p : Int) → p < 2314 → rI (wF M 633 0 0) 635 q = P p := fun p q hq hp => (rI_n hq).trans (h0.2.1 p hp)
  have e2 : zI (wF M 633 0 0) 633 2 = zI M 633 2 := fI_wF_ne (by decide)
  unfold couA
  obtain ⟨iz2, H⟩ := rcn_l h0 hD (P 12).toInt.toNat 0 0 0 rfl (by omega) (rcn_0 hR.1 H)
  rcases rcn_43 h0.1 H with ⟨a0, _, r1, r2⟩ | ⟨a0, a1, _, r1, r2⟩ | ⟨a0, a1, a2, _, r1, r2⟩ | ⟨a0, a1, a2, a3, r1, r2⟩ | ⟨a0, a1, a2, a3, a4, _, r1, r2⟩ | ⟨a0, a1, a2, a3, a4, a5, _, r1, r2⟩ | ⟨a0, a1, a2, a3, a4, a5, a6, _, r1, r2⟩ | ⟨a0, a1, a2, a3, a4, a5, a6, a7, _, r1, r2⟩ | ⟨a0, a1, a2, a3, a4, a5, a6, a7, a8, _, r1, r2⟩ | ⟨a0, a1, a2, a3, a4, a5, a6, a7, a8, a9, r1, r2⟩ | ⟨a0, a1, a2, a3, a4, a5, a6, a7, a8, a9, r1, r2⟩
  · rw [r2, r1, if_pos a0, g 0 0 rfl (by decide)]
    exact ⟨rfl, h0⟩
  · rw [r2, r1, if_neg a0, if_pos a1, g 1 1 rfl (by decide)]
    exact ⟨rfl, h0⟩
  · rw [r2, r1, if_neg a0, if_neg a1, if_pos a2, g 2 2 rfl (by decide)]
    exact ⟨rfl, h0⟩
  · rw [r2, r1, if_neg a0, if_neg a1, if_neg a2, if_pos a3]
    exact ⟨rfl, h0⟩
  · rw [r2, r1, if_neg a0, if_neg a1, if_neg a2, if_neg a3, if_pos a4, g 157 157 rfl (by decide)]
    exact ⟨rfl, h0⟩
  · rw [r2, r1, if_neg a0, if_neg a1, if_neg a2, if_neg a3, if_neg a4, if_pos a5, g 518 518 rfl (by decide)]
    exact ⟨rfl, h0⟩
  · rw [r2, r1, if_neg a0, if_neg a1, if_neg a2, if_neg a3, if_neg a4, if_neg a5, if_pos a6, g 519 519 rfl (by decide)]
    exact ⟨rfl, h0⟩
  · rw [r2, r1, if_neg a0, if_neg a1, if_neg a2, if_neg a3, if_neg a4, if_neg a5, if_neg a6, if_pos a7, g 520 520 rfl (by decide)]
    exact ⟨rfl, h0⟩
  · rw [r2, r1, if_neg a0, if_neg a1, if_neg a2, if_neg a3, if_neg a4, if_neg a5, if_neg a6, if_neg a7, if_pos a8, g 521 521 rfl (by decide)]
    exact ⟨rfl, h0⟩
  · rw [r2, r1, if_neg a0, if_neg a1, if_neg a2, if_neg a3, if_neg a4, if_neg a5, if_neg a6, if_neg a7, if_neg a8, if_pos a9, e2]
    exact ⟨rfl, h0⟩
  · rw [r2, r1, if_neg a0, if_neg a1, if_neg a2, if_neg a3, if_neg a4, if_neg a5, if_neg a6, if_neg a7, if_neg a8, if_neg a9]
    exact ⟨rfl, h0⟩
end OBAN
