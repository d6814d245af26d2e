/-! THE REFERENCE'S tread, goes, leave -/
def rkF (a k : Nat) : Prop := a = 633 ∧ ((34 ≤ k ∧ k ≤ 39) ∨ k = 41 ∨ k = 42)
def rkW (a : Nat) : Prop := a = 635 ∨ a = 649
def WFr (w : Int32) (f0 : Bool) (ss : List Int32) (M : Mem) : Prop := zI M 633 40 = w ∧ zI M 633 42 = bI (f0 || decide (w ∈ ss))
/-- how many ARRIVED, beside how many in these calls -/
def ARn (d : Int32) (P : PK) (M : Mem) : Prop := zI M 633 41 = P 519 + d
section RTK
variable {e t : Nat} {T : TS} {P P' Q : PK} {M M1 M' : Mem} {v : Option Value} {c d : Int32} {w dd : Int32} {f0 : Bool} {ss : List Int32} {k B n : Nat}
theorem len635 (hS : SH M) : (zrw M 635).length = 2314 := (hS.row qa_635 qw_63).2
theorem RST.up (h : RST T P M) {i : Nat} (hi : i < 2314) {x : Int32} : RST T (uPk P i x) (wI M 635 i x) := by
  have hF : FZ noF (fun a => a = 635) noO M (wI M 635 i x) := FZ.wI (W := fun a => a = 635) rfl
  obtain ⟨h1, h2, ⟨h3, h4, h5⟩, h6⟩ := h
  refine ⟨h1.ki, fun j hj => ?_, ⟨by rw [fI_wI]; exact h3, by rw [fI_wI]; exact h4, by rw [fI_wI]; exact h5⟩, fun t ht => ?_⟩
  · by_cases hji : j = i
    · subst hji
      rw [rN_wI_eq (by rw [len635 h1.1]; exact hi)]
      exact up_eq.symm
    · rw [rN_wI_ne (fun q => hji q.2), up_ne hji]
      exact h2 j hj
  · obtain ⟨⟨q1, q2⟩, q3⟩ := h6 t ht
    exact ⟨⟨q1.fz hF (fun a _ _ q => by omega), q2⟩, q3⟩
theorem RST.fld (h : RST T P M) {k : Nat} {x : Int32} (hk : 31 ≤ k) : RST T P (wF M 633 k x) := by
  have hF : FZ (fun a j => a = 633 ∧ j = k) noO noO M (wF M 633 k x) := FZ.wF (F := fun a j => a = 633 ∧ j = k) ⟨rfl, rfl⟩
  exact h.fz h.1.kf hF (fun j h1 h2 q => by omega) (fun a _ q => q)
theorem RST.eq (h : RST T P M) (he : ∀ i, i < 2314 → Q i = P i) : RST T Q M := ⟨h.1, fun i hi => (h.2.1 i hi).trans (he i hi).symm, h.2.2.1, h.2.2.2⟩
theorem cX_lt (hw : wh4 P) (hc : inC P c) {f : Nat} (hf : f < 7) : cX f c < 2314 := by
  obtain ⟨_, c256, _⟩ := cls_int hw
  have := hc.2
  unfold cX
  omega
theorem x147_ok (h : RST T P M) (hw : wh4 P) (hc : inC P c) {f : Int32} {fn : Nat} (hf : f.toInt = (fn : Int)) (hf6 : fn < 7) {x : Int32} : X_147 M c f x = wI M 635 (cX fn c) x := by
  obtain ⟨c0, _, c2⟩ := hc.lt hw
  unfold X_147
  congr 1
  refine cl_n ?_
  rw [i32_cell (c := c) (k := f) c0 c2 (by omega) (by omega)]
  unfold cX
  have := Int.toNat_of_nonneg c0
  omega
theorem tu_rk (h : FZ noF tuW noO M M') : FZ rkF rkW noO M M' := h.more (fun _ _ q => q.elim) (fun a q => Or.inr q) (fun _ q => q)
theorem rk_wI {i : Nat} {x : Int32} : FZ rkF rkW noO M (wI M 635 i x) := FZ.wI (Or.inl rfl)
theorem rtrd_ok (hR : RST T P M) (hw : wh4 P) (hc : inC P c) (hf : WFr w f0 ss M) (H : Ev none e 203 0 [some (.ref 633), some (.int c), none] [] M v M' 0 0) : v = none ∧ RST T (trdP (T 0) P c) M' ∧ FZ rkF rkW noO M M' ∧ WFr w f0 (c :: ss) M' ∧ ∀ k, k ≠ 42 → zI M' 633 k = zI M 633 k := by
  have st : ∃ M1, RST T (weaP (T 0) P c) M1 ∧ FZ rkF rkW noO M M1 ∧ (∀ k, zI M1 633 k = zI M 633 k) ∧ ∃ c2, Ev none e 203 43 [some (.ref 633), some (.int c), c2] [] M1 v M' 0 0 := by
    rcases rtr_0 hR.1 H with ⟨a1, H⟩ | ⟨a1, e1, v1, M1, rfl, H1, H⟩
    · rw [g149_ok hR hw hc, bI_0] at a1
      refine ⟨M, ?_, FZ.refl _, fun _ => rfl, _, H⟩
      unfold weaP
      rw [if_neg (by rw [a1]; decide)]
      exact hR
    · rw [g149_ok hR hw hc, bI_0, Bool.not_eq_false] at a1
      rw [r_cell hR hw hc (fn := 3) rfl (by decide)] at H
      obtain ⟨rfl, q2, q3⟩ := rfst_ok hR hw hc H1
      have hR1 := hR.tu q2 q3
      have hP : weaP (T 0) P c = uPk P (cX 3 c) (if 999 < cE P 3 c + fstL (T 0) P 0 c 5 (T 0).2 then 999 else cE P 3 c + fstL (T 0) P 0 c 5 (T 0).2) := by
        unfold weaP
        rw [if_pos a1]
      rw [hP]
      rcases rtr_21 q2 H with ⟨b1, H⟩ | ⟨b1, H⟩
      · rw [x147_ok hR1 hw hc (fn := 3) rfl (by decide)] at H
        rw [if_neg (fun q => by rw [Int32.lt_iff_toInt_lt] at q; have := Int32.le_iff_toInt_le.mp b1; omega)]
        exact ⟨_, hR1.up (cX_lt hw hc (by decide)), (tu_rk q3).trans rk_wI, fun k => by rw [fI_wI]; exact q3.fi (fun q => q), _, H⟩
      · rw [x147_ok hR1 hw hc (fn := 3) rfl (by decide)] at H
        rw [if_pos (by rw [Int32.lt_iff_toInt_lt]; have : ¬ (cE P 3 c + fstL (T 0) P 0 c 5 (T 0).2).toInt ≤ (999 : Int32).toInt := fun q => b1 (Int32.le_iff_toInt_le.mpr q); omega)]
        exact ⟨_, hR1.up (cX_lt hw hc (by decide)), (tu_rk q3).trans rk_wI, fun k => by rw [fI_wI]; exact q3.fi (fun q => q), _, H⟩
  obtain ⟨M1, s1, s2, s3, c2, H⟩ := st
  have w0 : weaP (T 0) P c 0 = P 0 := by
    unfold weaP
    split
    · exact up_ne (by have := cX_ge (f := 3) (c := c); omega)
    · rfl
  have w1 : weaP (T 0) P c 1 = P 1 := by
    unfold weaP
    split
    · exact up_ne (by have := cX_ge (f := 3) (c := c); omega)
    · rfl
  have hwW : wh4 (weaP (T 0) P c) := hw.eq w0 w1
  have hcW : inC (weaP (T 0) P c) c := (inC.eq w0 w1).mpr hc
  have s5 := s1.up (cX_lt hwW hcW (f := 5) (by decide)) (x := cE (weaP (T 0) P c) 5 c + 1)
  have x0 : uPk (weaP (T 0) P c) (cX 5 c) (cE (weaP (T 0) P c) 5 c + 1) 0 = weaP (T 0) P c 0 := up_ne (by have := cX_ge (f := 5) (c := c); omega)
  have x1 : uPk (weaP (T 0) P c) (cX 5 c) (cE (weaP (T 0) P c) 5 c + 1) 1 = weaP (T 0) P c 1 := up_ne (by have := cX_ge (f := 5) (c := c); omega)
  have hw5 := hwW.eq x0 x1
  have hc5 := (inC.eq x0 x1).mpr hcW
  have s6 := s5.up (cX_lt hw5 hc5 (f := 6) (by decide)) (x := cE (uPk (weaP (T 0) P c) (cX 5 c) (cE (weaP (T 0) P c) 5 c + 1)) 6 c + 1)
  have e1 : X_147 M1 c 5 (G_146 M1 c 5 + 1) = wI M1 635 (cX 5 c) (cE (weaP (T 0) P c) 5 c + 1) := by
    rw [r_cell s1 hwW hcW (fn := 5) rfl (by decide), x147_ok s1 hwW hcW (fn := 5) rfl (by decide)]
  have e2 : X_147 (X_147 M1 c 5 (G_146 M1 c 5 + 1)) c 6 (G_146 (X_147 M1 c 5 (G_146 M1 c 5 + 1)) c 6 + 1) = wI (wI M1 635 (cX 5 c) (cE (weaP (T 0) P c) 5 c + 1)) 635 (cX 6 c) (cE (uPk (weaP (T 0) P c) (cX 5 c) (cE (weaP (T 0) P c) 5 c + 1)) 6 c + 1) := by
    rw [e1, r_cell s5 hw5 hc5 (fn := 6) rfl (by decide), x147_ok s5 hw5 hc5 (fn := 6) rfl (by decide)]
  obtain ⟨N, eN⟩ : ∃ N, N = wI (wI M1 635 (cX 5 c) (cE (weaP (T 0) P c) 5 c + 1)) 635 (cX 6 c) (cE (uPk (weaP (T 0) P c) (cX 5 c) (cE (weaP (T 0) P c) 5 c + 1)) 6 c + 1) := ⟨_, rfl⟩
  have hN : RST T (trdP (T 0) P c) N := by rw [eN]; exact s6
  have zN : ∀ k, zI N 633 k = zI M 633 k := fun k => by rw [eN, fI_wI, fI_wI]; exact s3 k
  have hFN : FZ rkF rkW noO M N := by rw [eN]; exact (s2.trans rk_wI).trans rk_wI
  have fin : ∀ b, v = none → M' = wF N 633 42 (bI b) → b = (f0 || decide (w ∈ c :: ss)) → v = none ∧ RST T (trdP (T 0) P c) M' ∧ FZ rkF rkW noO M M' ∧ WFr w f0 (c :: ss) M' ∧ ∀ k, k ≠ 42 → zI M' 633 k = zI M 633 k := fun b hv hM hb => by
    rw [hM]
    refine ⟨hv, hN.fld (by decide), hFN.trans (FZ.wF ⟨rfl, by omega⟩), ⟨?_, ?_⟩, fun k hk => ?_⟩
    · rw [fI_wF_ne (fun q => absurd q.2 (by decide)), zN]
      exact hf.1
    · rw [fI_wF_eq hN.1.1 qa_633 qi_61_42, hb]
    · rw [fI_wF_ne (fun q => hk q.2), zN]
  rcases rtr_43 s1.1 H with ⟨a1, a2, h1, h2⟩ | ⟨a1, a2, h1, h2⟩ | ⟨a1, h1, h2⟩
  · rw [e2, ← eN] at a1 a2 h2
    rw [zN, hf.1] at a2
    exact fin true h1 h2 (by rw [decide_eq_true (by rw [a2]; exact List.mem_cons_self), Bool.or_true])
  · rw [e2, ← eN] at a1 a2 h2
    rw [zN, hf.1] at a2
    rw [zN, hf.2, bI_0] at a1
    obtain ⟨b1, b2⟩ := Bool.or_eq_false_iff.mp a1
    refine fin false h1 h2 ?_
    rw [b1, Bool.false_or]
    refine (decide_eq_false (fun q => ?_)).symm
    rcases List.mem_cons.mp q with q | q
    · exact a2 q.symm
    · exact absurd q (of_decide_eq_false b2)
  · rw [e2, ← eN] at a1 h2
    rw [zN, hf.2, bI_0, Bool.not_eq_false] at a1
    refine fin true h1 h2 ?_
    rcases Bool.or_eq_true_iff.mp a1 with q | q
    · rw [q, Bool.true_or]
    · rw [decide_eq_true (List.mem_cons_of_mem _ (of_decide_eq_true q)), Bool.or_true]
/-- one goes for good -/
theorem rlea_2 (hB : (P' 157).toInt = (n : Int)) (hn : n ≤ 59) : ∀ (r i : Nat) (iz : Int32) (Q : PK) (M : Mem), RST T Q M → Q 157 = P' 157 → iz.toInt = (i : Int) → i + r = 158 + 6 * n + 6 → 158 + 6 * n ≤ i → Ev none e 205 77 [some (.ref 633), some (.int d), some (.int iz)] [] M v M' 0 0 → v = none ∧ (∃ Q2, RST T Q2 M' ∧ ∀ j, Q2 j = if i ≤ j ∧ j < 158 + 6 * n + 6 then 0 else Q j) ∧ FZ rkF rkW noO M M' ∧ ∀ k, zI M' 633 k = zI M 633 k := by
  intro r
  induction r with
  | zero =>
    intro i iz Q M hR hq hi hir hl H
    have h157 : rI M 635 157 = Q 157 := r_s hR (n := 157) rfl (by decide)
    have hlim : ((158 + (6 * (rI M 635 157))) + 6).toInt = 158 + 6 * (n : Int) + 6 := by
      rw [h157, hq]
      have := (i32_e (P' 157) (by omega) (by omega)).2
      omega
    rcases rle_77 hR.1 H with ⟨_, _, h1, h2⟩ | ⟨a1, _⟩
    · subst h2
      exact ⟨h1, ⟨Q, hR, fun j => by rw [if_neg (by omega)]⟩, FZ.refl _, fun _ => rfl⟩
    · exact absurd (Int32.le_iff_toInt_le.mpr (by omega)) a1
  | succ r ih =>
    intro i iz Q M hR hq hi hir hl H
    have h157 : rI M 635 157 = Q 157 := r_s hR (n := 157) rfl (by decide)
    have hlim : ((158 + (6 * (rI M 635 157))) + 6).toInt = 158 + 6 * (n : Int) + 6 := by
      rw [h157, hq]
      have := (i32_e (P' 157) (by omega) (by omega)).2
      omega
    rcases rle_77 hR.1 H with ⟨a1, _⟩ | ⟨_, _, _, H⟩
    · have := Int32.le_iff_toInt_le.mp a1
      omega
    · rw [cl_n hi] at H
      obtain ⟨r1, ⟨Q2, r2, r3⟩, r4, r5⟩ := ih (i + 1) (iz + 1) (uPk Q i 0) _ (hR.up (by omega)) ((up_ne (by omega)).trans hq) (by rw [i32_p1 (by omega)]; omega) (by omega) (by omega) H
      refine ⟨r1, ⟨Q2, r2, fun j => ?_⟩, rk_wI.trans r4, fun k => (r5 k).trans fI_wI⟩
      rw [r3 j]
      by_cases hj : j = i
      · rw [hj, if_neg (by omega), if_pos (by omega), up_eq]
      · rw [up_ne hj]
        by_cases hj2 : i + 1 ≤ j ∧ j < 158 + 6 * n + 6
        · rw [if_pos hj2, if_pos (by omega)]
        · rw [if_neg hj2, if_neg (by omega)]
theorem rlea_1 (hB : (P' 157).toInt = (n : Int)) (hn : n ≤ 59) (hk : k ≤ n) : ∀ (r i : Nat) (iz : Int32) (Q : PK) (M : Mem), RST T Q M → Q 157 = P' 157 → iz.toInt = (i : Int) → i + r = 158 + 6 * n → 158 + 6 * k ≤ i → Ev none e 205 21 [some (.ref 633), some (.int d), some (.int iz)] [] M v M' 0 0 → ∃ M1 Q1, RST T Q1 M1 ∧ (∀ j, Q1 j = if i ≤ j ∧ j < 158 + 6 * n then Q (j + 6) else Q j) ∧ FZ rkF rkW noO M M1 ∧ (∀ k, zI M1 633 k = zI M 633 k) ∧ ∃ jz, jz.toInt = ((158 + 6 * n : Nat) : Int) ∧ Ev none e 205 77 [some (.ref 633), some (.int d), some (.int jz)] [] M1 v M' 0 0 := by
  intro r
  induction r with
  | zero =>
    intro i iz Q M hR hq hi hir hl H
    have h157 : rI M 635 157 = Q 157 := r_s hR (n := 157) rfl (by decide)
    have hlim : (158 + (6 * (rI M 635 157))).toInt = 158 + 6 * (n : Int) := by
      rw [h157, hq]
      have := (i32_e (P' 157) (by omega) (by omega)).1
      omega
    rcases rle_21 hR.1 H with ⟨_, _, _, H⟩ | ⟨a1, _⟩
    · exact ⟨M, Q, hR, fun j => by rw [if_neg (by omega)], FZ.refl _, fun _ => rfl, _, by omega, H⟩
    · exact absurd (Int32.le_iff_toInt_le.mpr (by omega)) a1
  | succ r ih =>
    intro i iz Q M hR hq hi hir hl H
    have h157 : rI M 635 157 = Q 157 := r_s hR (n := 157) rfl (by decide)
    have hlim : (158 + (6 * (rI M 635 157))).toInt = 158 + 6 * (n : Int) := by
      rw [h157, hq]
      have := (i32_e (P' 157) (by omega) (by omega)).1
      omega
    rcases rle_21 hR.1 H with ⟨a1, _⟩ | ⟨_, _, _, _, H⟩
    · have := Int32.le_iff_toInt_le.mp a1
      omega
    · have h6 : (iz + 6).toInt = ((i + 6 : Nat) : Int) := by
        have e6 : (6 : Int32).toInt = 6 := rfl
        rw [i32_add (by omega) (by omega)]
        omega
      rw [cl_n hi, r_s hR h6 (by omega)] at H
      obtain ⟨M1, Q1, r1, r2, r3, r4, r5⟩ := ih (i + 1) (iz + 1) (uPk Q i (Q (i + 6))) _ (hR.up (by omega)) ((up_ne (by omega)).trans hq) (by rw [i32_p1 (by omega)]; omega) (by omega) (by omega) H
      refine ⟨M1, Q1, r1, fun j => ?_, rk_wI.trans r3, fun k => (r4 k).trans fI_wI, r5⟩
      rw [r2 j]
      by_cases hj : j = i
      · rw [hj, if_neg (by omega), if_pos (by omega), up_eq]
      · by_cases hj2 : i + 1 ≤ j ∧ j < 158 + 6 * n
        · rw [if_pos hj2, if_pos (by omega), up_ne (by omega)]
        · rw [if_neg hj2, if_neg (by omega), up_ne hj]
theorem rlea_ok (hR : RST T P M) (hK0 : 1 ≤ (P 157).toInt) (hK2 : (P 157).toInt ≤ 60) {kz : Int32} (hk : kz.toInt = (k : Int)) (hkn : (k : Int) < (P 157).toInt) (H : Ev none e 205 0 [some (.ref 633), some (.int kz), none] [] M v M' 0 0) : v = none ∧ RST T (leaP P k) M' ∧ FZ rkF rkW noO M M' ∧ ∀ k, zI M' 633 k = zI M 633 k := by
  have h157 : rI M 635 157 = P 157 := r_s hR (n := 157) rfl (by decide)
  obtain ⟨_, _, H⟩ := rle_0 hR.1 H
  have e157 : (157 : Int32).toNatClampNeg = 157 := rfl
  rw [h157, e157] at H
  have hR1 := hR.up (i := 157) (by decide) (x := P 157 - 1)
  obtain ⟨P1, eP1⟩ : ∃ P1, P1 = uPk P 157 (P 157 - 1) := ⟨_, rfl⟩
  rw [← eP1] at hR1
  have p157 : P1 157 = P 157 - 1 := by rw [eP1]; exact up_eq
  have m1 : (P 157 - 1).toInt = (P 157).toInt - 1 := i32_m1 (by omega)
  obtain ⟨n, hn⟩ : ∃ n, n = (P 157 - 1).toInt.toNat := ⟨_, rfl⟩
  have hB : (P1 157).toInt = (n : Int) := by rw [p157, m1]; omega
  have hpl : (158 + (6 * kz)).toInt = ((158 + 6 * k : Nat) : Int) := by
    have := (i32_e kz (by omega) (by omega)).1
    omega
  obtain ⟨M1, Q1, r1, r2, r3, r4, jz, r5, H⟩ := rlea_1 (k := k) hB (by omega) (by omega) (158 + 6 * n - (158 + 6 * k)) (158 + 6 * k) _ P1 _ hR1 rfl hpl (by omega) (Nat.le_refl _) H
  have q157 : Q1 157 = P1 157 := by rw [r2, if_neg (by omega)]
  obtain ⟨s1, ⟨Q2, s2, s3⟩, s4, s5⟩ := rlea_2 (P' := P1) hB (by omega) 6 (158 + 6 * n) jz Q1 M1 r1 q157 r5 rfl (Nat.le_refl _) H
  refine ⟨s1, s2.eq (fun j hj => ?_), (rk_wI.trans r3).trans s4, fun k => (s5 k).trans ((r4 k).trans fI_wI)⟩
  unfold leaP
  rw [s3 j, r2 j, ← hn]
  by_cases h0 : j = 157
  · rw [if_pos h0, if_neg (by omega), if_neg (by omega), h0, p157]
  · rw [if_neg h0]
    by_cases h1 : 158 + 6 * k ≤ j ∧ j < 158 + 6 * n
    · rw [if_pos h1, if_neg (by omega), if_pos h1, eP1, up_ne (by omega)]
    · rw [if_neg h1]
      by_cases h2 : 158 + 6 * n ≤ j ∧ j < 158 + 6 * n + 6
      · rw [if_pos h2, if_pos h2]
      · rw [if_neg h2, if_neg h2, if_neg h1, eP1, up_ne h0]
end RTK
