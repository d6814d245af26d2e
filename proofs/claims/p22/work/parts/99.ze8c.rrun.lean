/-! THE REFERENCE'S run, week -/
section RRUN
variable {e : Nat} {T : TS} {P P' Q : PK} {M M1 M' : Mem} {v : Option Value} {c d t : Int32} {w dd : Int32} {f0 : Bool} {n k B : Nat}
theorem lea_hi {R : PK} {k : Nat} (h0 : 0 ≤ (R 157).toInt) (h60 : (R 157).toInt ≤ 60) {j : Nat} (hj : j < 157 ∨ 518 ≤ j) : leaP R k j = R j := by
  have hm : (R 157 - 1).toInt = (R 157).toInt - 1 := i32_m1 (by omega)
  unfold leaP
  rw [if_neg (by omega), if_neg (by rw [hm]; omega), if_neg (by rw [hm]; omega)]
theorem wlk_518 : ∀ (r k : Nat) (P : PK) (ss : List Int32), okD P → okK P → (k : Int) + (r : Int) = (P 157).toInt → (wlkP T r k (P, ss)).1 518 = P 518 ∧ okK (wlkP T r k (P, ss)).1 ∧ ∀ j, j < 157 → (wlkP T r k (P, ss)).1 j = P j := by
  intro r
  induction r with
  | zero => intro k P ss _ hK _; exact ⟨rfl, hK, fun _ _ => rfl⟩
  | succ r ih =>
    intro k P ss hD hK hn
    have h60 := hK.2.1
    have hkn : k < (P 157).toInt.toNat := by omega
    obtain ⟨R, eR⟩ : ∃ R, R = goeP T (P, ss) k := ⟨_, rfl⟩
    have hlo : ∀ j, (j < 158 ∨ j = 518 ∨ j = 521) → R.1.1 j = P j := by rw [eR]; exact goe_lo hK hkn
    have hK2 : okK R.1.1 := by rw [eR]; exact goe_K hD hK hkn
    have hD2 : okD R.1.1 := hD.sb (fun j hj => hlo j (by omega))
    have h157' : R.1.1 157 = P 157 := hlo 157 (by omega)
    have hw : wlkP T (r + 1) k (P, ss) = (if R.2 = true then wlkP T r (k + 1) R.1 else wlkP T r k (leaP R.1.1 k, R.1.2)) := by rw [eR]; rfl
    rw [hw]
    by_cases hb : R.2 = true
    · rw [if_pos hb]
      obtain ⟨u1, u2, u3⟩ := ih (k + 1) R.1.1 R.1.2 hD2 hK2 (by rw [h157']; omega)
      exact ⟨u1.trans (hlo 518 (by omega)), u2, fun j hj => (u3 j hj).trans (hlo j (by omega))⟩
    · rw [if_neg hb]
      have q : ∀ j, (j < 157 ∨ 518 ≤ j) → leaP R.1.1 k j = R.1.1 j := fun j hj => lea_hi hK2.1 hK2.2.1 hj
      have hl157 : leaP R.1.1 k 157 = R.1.1 157 - 1 := by unfold leaP; rw [if_pos rfl]
      have hm : (R.1.1 157 - 1).toInt = (R.1.1 157).toInt - 1 := i32_m1 (by rw [h157']; omega)
      obtain ⟨u1, u2, u3⟩ := ih k (leaP R.1.1 k) R.1.2 (hD2.sb (fun j hj => q j (Or.inl hj))) (hK2.lea (by rw [h157']; exact hkn)) (by rw [hl157, hm, h157']; omega)
      exact ⟨u1.trans ((q 518 (by omega)).trans (hlo 518 (by omega))), u2, fun j hj => (u3 j hj).trans ((q j (Or.inl hj)).trans (hlo j (by omega)))⟩
theorem beg_K : ∀ (n k : Nat) (P : PK), okD P → okK P → (k : Int) + (n : Int) = (P 12).toInt → okK (begP n k P) := by
  intro n
  induction n with
  | zero => intro k P _ hK _; exact hK
  | succ n ih =>
    intro k P hD hK hn
    have hkn : k < (P 12).toInt.toNat := by omega
    unfold begP
    split
    · split
      · exact ih (k + 1) _ (hD.sb (fun j hj => up_ne (by omega))) (hK.far (fun j hj => up_ne (by omega))) (by rw [up_ne (by decide)]; omega)
      · rename_i hm
        have hK' := hK.new hD hkn hm
        have q : ∀ j, j < 157 → newP P k j = P j := fun j hj => by
          unfold newP
          rw [up_ne (by omega), up_ne (by omega), up_ne (by omega), up_ne (by omega), up_ne (by omega), up_ne (by omega)]
        exact ih (k + 1) _ (hD.sb q) hK' (by rw [q 12 (by decide)]; omega)
    · exact ih (k + 1) P hD hK (by omega)
theorem tck_518 {ss : List Int32} (hD : okD P) (hK : okK P) : (tckP T (P, ss)).1 518 = P 518 + 1 := by
  have h12 := hD.2.2.1
  have bk := beg_keep (P 12).toInt.toNat 0 P hK.1 hK.2.1
  have hK1 : okK (bg0P P) := beg_K (P 12).toInt.toNat 0 P hD hK (by omega)
  have hD1 : okD (bg0P P) := hD.sb (fun j hj => bk j (Or.inl hj))
  have q := (wlk_518 (T := T) (bg0P P 157).toInt.toNat 0 (bg0P P) ss hD1 hK1 (by have := hK1.1; omega)).1
  unfold tckP
  dsimp only
  rw [up_eq, q]
  exact congrArg (· + 1) (bk 518 (by omega))
theorem tck_keep {p : PS} (hD : okD p.1) (hK : okK p.1) : okD (tckP T p).1 ∧ okK (tckP T p).1 := by
  obtain ⟨P, ss⟩ := p
  have hD : okD P := hD
  have hK : okK P := hK
  have h12 := hD.2.2.1
  have bk := beg_keep (P 12).toInt.toNat 0 P hK.1 hK.2.1
  have hK1 : okK (bg0P P) := beg_K (P 12).toInt.toNat 0 P hD hK (by omega)
  have hD1 : okD (bg0P P) := hD.sb (fun j hj => bk j (Or.inl hj))
  obtain ⟨_, q2, q3⟩ := wlk_518 (T := T) (bg0P P 157).toInt.toNat 0 (bg0P P) ss hD1 hK1 (by have := hK1.1; omega)
  unfold tckP
  dsimp only
  exact ⟨(hD1.sb q3).sb (fun j hj => up_ne (by omega)), q2.far (fun j hj => up_ne (by omega))⟩
theorem rrun_l : ∀ (r k : Nat) (iz : Int32) (P : PK) (ss : List Int32) (M : Mem), RST T P M → okD P → okK P → WFr w f0 ss M → ARn dd P M → iz.toInt = (k : Int) → t.toInt = (k : Int) + (r : Int) → Ev none e 207 41 [some (.ref 633), some (.int t), some (.int iz)] [] M v M' 0 0 → v = some (.int ((tksP T r (P, ss)).1 519 + dd)) ∧ RST T (tksP T r (P, ss)).1 M' ∧ okD (tksP T r (P, ss)).1 ∧ okK (tksP T r (P, ss)).1 ∧ FZ rkF rkW noO M M' ∧ WFr w f0 (tksP T r (P, ss)).2 M' ∧ ∀ j, j < 157 → (tksP T r (P, ss)).1 j = P j := by
  intro r
  induction r with
  | zero =>
    intro k iz P ss M hR hD hK hf ha hk hn H
    rcases rrn_41 hR.1 H with ⟨_, r1, r2⟩ | ⟨a1, _⟩
    · rw [show zI M 633 41 = P 519 + dd from ha] at r1
      rw [r2]
      exact ⟨r1, hR, hD, hK, FZ.refl _, hf, fun _ _ => rfl⟩
    · exact absurd (Int32.le_iff_toInt_le.mpr (by omega)) a1
  | succ r ih =>
    intro k iz P ss M hR hD hK hf ha hk hn H
    have ub := i32_any t
    rcases rrn_41 hR.1 H with ⟨a1, _⟩ | ⟨_, e1, v1, M1, _, H1, H⟩
    · have := Int32.le_iff_toInt_le.mp a1
      omega
    · obtain ⟨rv, q2, q3, q4, q5, q6, q7, q8⟩ := rtick_ok hR hD hK hf ha H1
      rw [rv] at H
      have H := rrn_50 q2.1 H
      obtain ⟨s1, s2, s3, s4, s5, s6, s7⟩ := ih (k + 1) (iz + 1) (tckP T (P, ss)).1 (tckP T (P, ss)).2 M1 q2 q3 q4 q6 q7 (by rw [i32_p1 (by omega)]; omega) (by omega) H
      exact ⟨s1, s2, s3, s4, q5.trans s5, s6, fun j hj => (s7 j hj).trans (q8 j hj)⟩
theorem tks_518 : ∀ (r : Nat) (P : PK) (ss : List Int32), okD P → okK P → (∀ p : PS, okD p.1 → okK p.1 → okD (tckP T p).1 ∧ okK (tckP T p).1) → ((P 518).toInt + r ≤ 100000) → 0 ≤ (P 518).toInt → ((tksP T r (P, ss)).1 518).toInt = (P 518).toInt + r := by
  intro r
  induction r with
  | zero =>
    intro P ss _ _ _ _ _
    show (P 518).toInt = _
    omega
  | succ r ih =>
    intro P ss hD hK hc h1 h0
    obtain ⟨d1, k1⟩ := hc (P, ss) hD hK
    have q : ((tckP T (P, ss)).1 518).toInt = (P 518).toInt + 1 := by rw [tck_518 hD hK]; exact i32_p1 (by omega)
    have := ih (tckP T (P, ss)).1 (tckP T (P, ss)).2 d1 k1 hc (by omega) (by omega)
    show ((tksP T r (tckP T (P, ss))).1 518).toInt = _
    rw [this]
    omega
theorem rrun_ok (hR : RST T P M) (hD : okD P) (hK : okK P) (ht : 0 ≤ (P 518).toInt ∧ (P 518).toInt ≤ 60000) (h42 : ∃ b, zI M 633 42 = bI b) (H : Ev none e 207 0 [some (.ref 633), some (.int t), none] [] M v M' 0 0) : (runN P t ∧ v = some (.int (-1)) ∧ RST T P M') ∨ (¬ runN P t ∧ v = some (.int (runP T P t 519 - P 519)) ∧ RST T (runP T P t) M' ∧ okD (runP T P t) ∧ okK (runP T P t)) := by
  have h0 := hR.w0 0 (by decide) 0
  have e518 : rI M 635 518 = P 518 := r_s hR (n := 518) rfl (by decide)
  have t1 : (1 : Int32).toInt = 1 := rfl
  have t400 : (400 : Int32).toInt = 400 := rfl
  have tl : (60000 : Int32).toInt = 60000 := rfl
  unfold runN
  rcases rrn_0 hR.1 H with ⟨a1, r1, r2⟩ | ⟨a1, a2, _, H⟩ | ⟨a1, a2, _, r1, r2⟩
  · rw [g140_R] at a1
    exact Or.inl ⟨Or.inl a1, r1, r2 ▸ h0⟩
  · rw [g140_R, Classical.not_not] at a1
    unfold inX at a1
    rw [e518] at a2
    have hs : (P 518 + t).toInt = (P 518).toInt + t.toInt := i32_add (by omega) (by omega)
    have a2 := Int32.le_iff_toInt_le.mp a2
    obtain ⟨b, hb⟩ := h42
    have h1 := h0.w0 41 (by decide) 0
    have hf : WFr (zI M 633 40) b [] (wF (wF M 633 0 0) 633 41 0) := by
      refine ⟨?_, ?_⟩
      · rw [fI_wF_ne (by decide), fI_wF_ne (by decide)]
      · rw [fI_wF_ne (by decide), fI_wF_ne (by decide), hb, decide_eq_false (by simp), Bool.or_false]
    have ha : ARn (-(P 519)) P (wF (wF M 633 0 0) 633 41 0) := by
      unfold ARn
      rw [fI_wF_eq hR.1.kf.1 qa_633 qi_61_41]
      grind
    obtain ⟨s1, s2, s3, s4, _⟩ := rrun_l t.toInt.toNat 0 0 P [] _ h1 hD hK hf ha rfl (by omega) H
    refine Or.inr ⟨fun q => ?_, ?_, s2, s3, s4⟩
    · unfold inX at q
      omega
    · rw [s1]
      have : (tksP T t.toInt.toNat (P, [])).1 519 + -(P 519) = runP T P t 519 - P 519 := by unfold runP; grind
      rw [this]
  · rw [g140_R, Classical.not_not] at a1
    unfold inX at a1
    rw [e518] at a2
    have hs : (P 518 + t).toInt = (P 518).toInt + t.toInt := i32_add (by omega) (by omega)
    have a2 : ¬ (P 518).toInt + t.toInt ≤ 60000 := fun q => a2 (Int32.le_iff_toInt_le.mpr (by omega))
    exact Or.inl ⟨Or.inr (by omega), r1, r2 ▸ h0⟩
theorem wka_lo {g : TQ} : ∀ (n : Nat) (c : Int32) (P : PK) (j : Nat), j < 522 → wkaP g n c P j = P j := by
  intro n
  induction n with
  | zero => intro c P j _; rfl
  | succ n ih =>
    intro c P j hj
    unfold wkaP
    exact (ih (c + 1) _ j hj).trans (wk1_lo hj)
theorem wek_lo {g : TQ} (hw : wh4 P) : ∀ j, j < 522 → wekP g P j = P j := fun j hj => by
  obtain ⟨_, c256, _⟩ := cls_int hw
  have t0 : (0 : Int32).toInt = 0 := rfl
  exact ((zer_E (f := 5) (by decide) (clsP P) 0 (wkaP g (clsP P) 0 P) (by decide) (by omega)).2 j hj).trans (wka_lo _ _ _ j hj)
theorem rweek_ok (hR : RST T P M) (hD : okD P) (H : Ev none e 209 0 [some (.ref 633)] [] M v M' 0 0) : v = some (.int (nwP (T 0) (wekP (T 0) P))) ∧ RST T (wekP (T 0) P) M' := by
  obtain ⟨e1, v1, M1, _, H1, H⟩ := rwq_0 hR.1 H
  have h0 := hR.w0 0 (by decide) 0
  obtain ⟨rv, q2, _, _⟩ := rwek_ok h0 hD.1 H1
  rw [rv] at H
  obtain ⟨e2, v2, M2, _, H2, H⟩ := rwq_9 q2.1 H
  have lo : ∀ j, j < 522 → wekP (T 0) P j = P j := wek_lo hD.1
  have hw : wh4 (wekP (T 0) P) := hD.1.eq (lo 0 (by decide)) (lo 1 (by decide))
  obtain ⟨rm, rv2⟩ := rwmn_ok q2 hw H2
  rw [rv2, rm] at H
  obtain ⟨s1, s2⟩ := rwq_13 q2.1 H
  exact ⟨s1, s2 ▸ q2⟩
end RRUN
