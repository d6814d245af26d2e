/-! THE REFERENCE'S tick, endWeek, wornMany, go -/
section RTC
variable {e t : Nat} {T : TS} {g : TQ} {P P' Q : PK} {M M1 M' : Mem} {v : Option Value} {c d : Int32} {w dd : Int32} {f0 : Bool} {ss : List Int32} {k B n : Nat}
theorem rwlk_l : ∀ (r k : Nat) (kz : Int32) (P : PK) (ss : List Int32) (M : Mem) (c2 c3 : Option Value), RST T P M → okD P → okK P → WFr w f0 ss M → ARn dd P M → kz.toInt = (k : Int) → (k : Int) + (r : Int) = (P 157).toInt → Ev none e 204 202 [some (.ref 633), some (.int kz), c2, c3] [] M v M' 0 0 → ∃ (P6 : PK) (ss6 : List Int32), wlkP T r k (P, ss) = (P6, ss6) ∧ v = none ∧ RST T (uPk P6 518 (P6 518 + 1)) M' ∧ okD P6 ∧ okK P6 ∧ FZ rkF rkW noO M M' ∧ WFr w f0 ss6 M' ∧ ARn dd P6 M' ∧ (∀ j, j < 157 → P6 j = P j) := by
  intro r
  induction r with
  | zero =>
    intro k kz P ss M c2 c3 hR hD hK hf ha hk hn H
    have h157 : rI M 635 157 = P 157 := r_s hR (n := 157) rfl (by decide)
    have h518 : rI M 635 518 = P 518 := r_s hR (n := 518) rfl (by decide)
    have e518 : (518 : Int32).toNatClampNeg = 518 := rfl
    rcases rtk_202 hR.1 H with ⟨_, _, _, _, h1, h2⟩ | ⟨a1, _⟩
    · rw [h518, e518] at h2
      refine ⟨P, ss, rfl, h1, by rw [h2]; exact hR.up (by decide), hD, hK, by rw [h2]; exact rk_wI, ?_, ?_, fun _ _ => rfl⟩
      · rw [h2]
        exact ⟨by rw [fI_wI]; exact hf.1, by rw [fI_wI]; exact hf.2⟩
      · unfold ARn
        rw [h2, fI_wI]
        exact ha
    · exact absurd (Int32.le_iff_toInt_le.mpr (by rw [h157]; omega)) a1
  | succ r ih =>
    intro k kz P ss M c2 c3 hR hD hK hf ha hk hn H
    have h157 : rI M 635 157 = P 157 := r_s hR (n := 157) rfl (by decide)
    have h60 := hK.2.1
    have hkn : k < (P 157).toInt.toNat := by omega
    rcases rtk_202 hR.1 H with ⟨a1, _⟩ | ⟨_, _, e1, v1, M1, rfl, H1, H⟩
    · rw [h157] at a1
      have := Int32.le_iff_toInt_le.mp a1
      omega
    · have hpl : (158 + (6 * kz)).toInt = ((158 + 6 * k : Nat) : Int) := by
        have := (i32_e kz (by omega) (by omega)).1
        omega
      obtain ⟨rfl, q2, q3, q4, q5⟩ := rgoe_ok hR hD hK hkn hf ha hpl H1
      obtain ⟨R, eR⟩ : ∃ R, R = goeP T (P, ss) k := ⟨_, rfl⟩
      have hlo : ∀ j, (j < 158 ∨ j = 518 ∨ j = 521) → R.1.1 j = P j := by rw [eR]; exact goe_lo hK hkn
      have hK2 : okK R.1.1 := by rw [eR]; exact goe_K hD hK hkn
      rw [← eR] at q2 q4 q5 H
      have hD2 : okD R.1.1 := hD.sb (fun j hj => hlo j (by omega))
      have h157' : R.1.1 157 = P 157 := hlo 157 (by omega)
      have hw : wlkP T (r + 1) k (P, ss) = (if R.2 = true then wlkP T r (k + 1) R.1 else wlkP T r k (leaP R.1.1 k, R.1.2)) := by rw [eR]; rfl
      rw [hw]
      rcases rtk_226 q2.1 H with ⟨b1, e2, v2, M2, he, H2, H⟩ | ⟨b1, H⟩
      · rw [bI_0] at b1
        rw [if_neg (by rw [b1]; decide)]
        obtain ⟨rfl, p2, p3, p4⟩ := rlea_ok q2 (by rw [h157']; omega) (by rw [h157']; exact h60) hk (by rw [h157']; omega) H2
        have H := rtk_240 p2.1 H
        have hR3 := p2
        have hl157 : leaP R.1.1 k 157 = R.1.1 157 - 1 := by unfold leaP; rw [if_pos rfl]
        have hm : (R.1.1 157 - 1).toInt = (R.1.1 157).toInt - 1 := i32_m1 (by rw [h157']; omega)
        have hlolea : ∀ j, j < 157 → leaP R.1.1 k j = R.1.1 j := fun j hj => by
          unfold leaP
          rw [if_neg (by omega), if_neg (by omega), if_neg (by omega)]
        have h519 : leaP R.1.1 k 519 = R.1.1 519 := by
          unfold leaP
          rw [if_neg (by decide), if_neg (by rw [hm, h157']; omega), if_neg (by rw [hm, h157']; omega)]
        obtain ⟨P6, ss6, s1, s2, s3, s4, s5, s6, s7, s8, s9⟩ := ih k kz (leaP R.1.1 k) R.1.2 M2 _ _ hR3 (hD2.sb hlolea) (hK2.lea (by rw [h157']; exact hkn)) ⟨(p4 40).trans q4.1, (p4 42).trans q4.2⟩ (by unfold ARn; rw [p4, h519]; exact q5) hk (by rw [hl157, hm, h157']; omega) H
        exact ⟨P6, ss6, s1, s2, s3, s4, s5, (q3.trans p3).trans s6, s7, s8, fun j hj => (s9 j hj).trans ((hlolea j hj).trans (hlo j (by omega)))⟩
      · rw [bI_0, Bool.not_eq_false] at b1
        rw [if_pos b1]
        obtain ⟨P6, ss6, s1, s2, s3, s4, s5, s6, s7, s8, s9⟩ := ih (k + 1) (kz + 1) R.1.1 R.1.2 M1 _ _ q2 hD2 hK2 q4 q5 (by rw [i32_p1 (by omega)]; omega) (by rw [h157']; omega) H
        exact ⟨P6, ss6, s1, s2, s3, s4, s5, q3.trans s6, s7, s8, fun j hj => (s9 j hj).trans (hlo j (by omega))⟩
theorem okK.new (hD : okD P) (h : okK P) (hk : k < (P 12).toInt.toNat) (hm : ¬ P 157 = 60) : okK (newP P k) := by
  obtain ⟨k0, k60, kk⟩ := h
  have t60 : (60 : Int32).toInt = 60 := rfl
  have m59 : (P 157).toInt ≤ 59 := by
    have : (P 157).toInt ≠ 60 := fun q => hm (Int32.toInt_inj.mp (q.trans t60.symm))
    omega
  obtain ⟨m, em⟩ : ∃ m, m = (P 157).toInt.toNat := ⟨_, rfl⟩
  obtain ⟨hfr, _, _, _, _⟩ := hD.2.2.2.2 k hk
  have hto : inC P (P (3 + (P (13 + 6 * k)).toInt.toNat)) := hD.2.1.2.2 _ (by omega)
  obtain ⟨Q, eQ⟩ : ∃ Q, Q = newP P k := ⟨_, rfl⟩
  rw [← eQ]
  unfold newP at eQ
  rw [← em] at eQ
  have q157 : Q 157 = P 157 + 1 := by rw [eQ]; exact up_eq
  have q157i : (Q 157).toInt = (m : Int) + 1 := by
    rw [q157, i32_p1 (by omega)]
    omega
  have Qo : ∀ j, j ≠ 157 → (j < 158 + 6 * m ∨ 158 + 6 * m + 5 ≤ j) → Q j = P j := fun j j1 j2 => by
    rw [eQ, up_ne j1, up_ne (by omega), up_ne (by omega), up_ne (by omega), up_ne (by omega), up_ne (by omega)]
  have Q0 : Q (158 + 6 * m) = P (3 + (P (13 + 6 * k)).toInt.toNat) := by
    rw [eQ, up_ne (by omega), up_ne (by omega), up_ne (by omega), up_ne (by omega), up_ne (by omega), up_eq]
  have Q1 : Q (158 + 6 * m + 1) = nI k := by
    rw [eQ, up_ne (by omega), up_ne (by omega), up_ne (by omega), up_ne (by omega), up_eq]
  have Q3 : Q (158 + 6 * m + 3) = -1 := by
    rw [eQ, up_ne (by omega), up_ne (by omega), up_eq]
  have hkI : (nI k).toInt = (k : Int) := nI_toInt (by have := hD.2.2.2.1; omega)
  have e0 : Q 0 = P 0 := Qo 0 (by omega) (by omega)
  have e1 : Q 1 = P 1 := Qo 1 (by omega) (by omega)
  refine ⟨by omega, by omega, fun t ht => ?_⟩
  rw [inC.eq e0 e1]
  by_cases htm : t = m
  · subst htm
    rw [Q0, Q1, Q3, Qo 12 (by omega) (by omega), hkI]
    exact ⟨hto, by omega, by omega, by decide⟩
  · obtain ⟨c1, c2, c3, c4⟩ := kk t (by omega)
    rw [Qo _ (by omega) (by omega), Qo _ (by omega) (by omega), Qo 12 (by omega) (by omega), Qo _ (by omega) (by omega)]
    exact ⟨c1, c2, c3, c4⟩
theorem rbeg_l : ∀ (n k : Nat) (kz : Int32) (P : PK) (M : Mem) (c2 c3 : Option Value), RST T P M → okD P → okK P → kz.toInt = (k : Int) → (k : Int) + (n : Int) = (P 12).toInt → Ev none e 204 2 [some (.ref 633), some (.int kz), c2, c3] [] M v M' 0 0 → ∃ M1 d2 d3, RST T (begP n k P) M1 ∧ okK (begP n k P) ∧ FZ rkF rkW noO M M1 ∧ (∀ j, zI M1 633 j = zI M 633 j) ∧ Ev none e 204 202 [some (.ref 633), some (.int 0), d2, d3] [] M1 v M' 0 0 := by
  intro n
  induction n with
  | zero =>
    intro k kz P M c2 c3 hR hD hK hk hn H
    have h12 : rI M 635 12 = P 12 := r_s hR (n := 12) rfl (by decide)
    rcases rtk_2 hR.1 H with ⟨_, _, H⟩ | ⟨a1, _⟩ | ⟨a1, _⟩ | ⟨a1, _⟩ | ⟨a1, _⟩ | ⟨a1, _⟩
    · exact ⟨M, _, _, hR, hK, FZ.refl _, fun _ => rfl, H⟩
    all_goals exact absurd (Int32.le_iff_toInt_le.mpr (by rw [h12]; omega)) a1
  | succ n ih =>
    intro k kz P M c2 c3 hR hD hK hk hn H
    have h12 : rI M 635 12 = P 12 := r_s hR (n := 12) rfl (by decide)
    have h24 := hD.2.2.2.1
    have hkn : k < (P 12).toInt.toNat := by omega
    have t13 : (13 : Int32).toInt = 13 := rfl
    have t6 : (6 : Int32).toInt = 6 := rfl
    have z : ∀ (i : Int32) (n : Nat), i.toInt = (n : Int) → ∀ f : Int32, 0 ≤ f.toInt → f.toInt ≤ 6 → n < 1000 → (i + f).toInt = (n : Int) + f.toInt := fun i n hi f h0 h6 hn => by
      rw [i32_add (by omega) (by omega), hi]
    have x0 : (13 + (6 * kz)).toInt = ((13 + 6 * k : Nat) : Int) := by
      have e : (6 : Int32).toInt * kz.toInt = 6 * (k : Int) := by rw [t6, hk]
      have e2 : (6 * kz).toInt = 6 * (k : Int) := by rw [i32_mul (by omega) (by omega), e]
      rw [i32_add (by omega) (by omega), e2, t13]
      omega
    have x3 : ((13 + (6 * kz)) + 3).toInt = ((13 + 6 * k + 3 : Nat) : Int) := by rw [z _ _ x0 3 (by decide) (by decide) (by omega)]; rfl
    have x4 : ((13 + (6 * kz)) + 4).toInt = ((13 + 6 * k + 4 : Nat) : Int) := by rw [z _ _ x0 4 (by decide) (by decide) (by omega)]; rfl
    have x5 : ((13 + (6 * kz)) + 5).toInt = ((13 + 6 * k + 5 : Nat) : Int) := by rw [z _ _ x0 5 (by decide) (by decide) (by omega)]; rfl
    have s0 : rI M 635 (13 + (6 * kz)) = P (13 + 6 * k) := r_s hR x0 (by omega)
    have s3 : rI M 635 ((13 + (6 * kz)) + 3) = P (13 + 6 * k + 3) := r_s hR x3 (by omega)
    have s4 : rI M 635 ((13 + (6 * kz)) + 4) = P (13 + 6 * k + 4) := r_s hR x4 (by omega)
    have s5 : rI M 635 ((13 + (6 * kz)) + 5) = P (13 + 6 * k + 5) := r_s hR x5 (by omega)
    have s518 : rI M 635 518 = P 518 := r_s hR (n := 518) rfl (by decide)
    have s157 : rI M 635 157 = P 157 := r_s hR (n := 157) rfl (by decide)
    have s521 : rI M 635 521 = P 521 := r_s hR (n := 521) rfl (by decide)
    have hk1 : (kz + 1).toInt = ((k + 1 : Nat) : Int) := by
      rw [i32_p1 (by omega)]
      omega
    have hkI : kz = nI k := Int32.toInt_inj.mp (by rw [hk, nI_toInt (by omega)])
    have no : dueB P k = false → ∀ (c2 c3 : Option Value), Ev none e 204 2 [some (.ref 633), some (.int (kz + 1)), c2, c3] [] M v M' 0 0 → ∃ M1 d2 d3, RST T (begP (n + 1) k P) M1 ∧ okK (begP (n + 1) k P) ∧ FZ rkF rkW noO M M1 ∧ (∀ j, zI M1 633 j = zI M 633 j) ∧ Ev none e 204 202 [some (.ref 633), some (.int 0), d2, d3] [] M1 v M' 0 0 := fun hb c2 c3 H => by
      have hbe : begP (n + 1) k P = begP n (k + 1) P := by
        show (if dueB P k = true then _ else begP n (k + 1) P) = _
        rw [if_neg (by rw [hb]; decide)]
      rw [hbe]
      exact ih (k + 1) (kz + 1) P M c2 c3 hR hD hK hk1 (by omega) H
    have hrem : remI (P 518 - P (13 + 6 * k + 4)) (P (13 + 6 * k + 3)) = (P 518 - P (13 + 6 * k + 4)) - (P 518 - P (13 + 6 * k + 4)) / P (13 + 6 * k + 3) * P (13 + 6 * k + 3) := rfl
    rcases rtk_2 hR.1 H with ⟨a1, _⟩ | ⟨_, a2, _, _, H⟩ | ⟨_, a2, a3, _, _, _, _, H⟩ | ⟨_, a2, a3, a4, a5, _, _, _, _, _, _, _, _, _, _, _, H⟩ | ⟨_, a2, a3, a4, a5, _, _, _, _, _, _, _, _, _, _, _, _, _, _, _, _, _, _, _, H⟩ | ⟨_, a2, a3, a4, _, _, _, _, _, _, _, _, H⟩
    · rw [h12] at a1
      have := Int32.le_iff_toInt_le.mp a1
      omega
    · rw [s5] at a2
      exact no (by unfold dueB; rw [decide_eq_true a2]; rfl) _ _ H
    · rw [s5] at a2
      rw [s518, s4] at a3
      exact no (by unfold dueB; rw [decide_eq_false a2, decide_eq_true a3]; rfl) _ _ H
    · rw [s5] at a2
      rw [s518, s4] at a3 a4
      rw [s3, ← hrem] at a4
      rw [s157] at a5
      have e521 : (521 : Int32).toNatClampNeg = 521 := rfl
      rw [s521, e521] at H
      have hbe : begP (n + 1) k P = begP n (k + 1) (uPk P 521 (P 521 + 1)) := by
        have hb : dueB P k = true := by unfold dueB; rw [decide_eq_false a2, decide_eq_false a3, decide_eq_true a4]; rfl
        show (if dueB P k = true then (if P 157 = 60 then _ else _) else _) = _
        rw [if_pos hb, if_pos a5]
      rw [hbe]
      obtain ⟨M1, d2, d3, r1, r2, r3, r4, r5⟩ := ih (k + 1) (kz + 1) (uPk P 521 (P 521 + 1)) _ _ _ (hR.up (by decide)) (hD.sb (fun j hj => up_ne (by omega))) (hK.cur (k := 1000) (up_ne (by decide)) (up_ne (by decide)) (up_ne (by decide)) (up_ne (by decide)) (fun t ht _ => ⟨up_ne (by have := hK.2.1; omega), up_ne (by have := hK.2.1; omega), up_ne (by have := hK.2.1; omega)⟩) (fun h => absurd h (by have := hK.2.1; omega))) hk1 (by rw [show uPk P 521 (P 521 + 1) 12 = P 12 from up_ne (by decide)]; omega) H
      exact ⟨M1, d2, d3, r1, r2, rk_wI.trans r3, fun j => (r4 j).trans fI_wI, r5⟩
    · rw [s5] at a2
      rw [s518, s4] at a3 a4
      rw [s3, ← hrem] at a4
      rw [s157] at a5
      have hbe : begP (n + 1) k P = begP n (k + 1) (newP P k) := by
        have hb : dueB P k = true := by unfold dueB; rw [decide_eq_false a2, decide_eq_false a3, decide_eq_true a4]; rfl
        show (if dueB P k = true then (if P 157 = 60 then _ else _) else _) = _
        rw [if_pos hb, if_neg a5]
      rw [hbe]
      have hKn := okK.new hD hK hkn a5
      have hlt : (P 157).toInt ≤ 59 := by
        have t60 : (60 : Int32).toInt = 60 := rfl
        have : (P 157).toInt ≠ 60 := fun q => a5 (Int32.toInt_inj.mp (q.trans t60.symm))
        have := hK.2.1
        omega
      obtain ⟨m, em⟩ : ∃ m, m = (P 157).toInt.toNat := ⟨_, rfl⟩
      have emi : (P 157).toInt = (m : Int) := by have := hK.1; omega
      have y0 : (158 + (6 * P 157)).toInt = ((158 + 6 * m : Nat) : Int) := by
        have := (i32_e (P 157) (by omega) (by omega)).1
        omega
      have y1 : ((158 + (6 * P 157)) + 1).toInt = ((158 + 6 * m + 1 : Nat) : Int) := by rw [z _ _ y0 1 (by decide) (by decide) (by omega)]; rfl
      have y2 : ((158 + (6 * P 157)) + 2).toInt = ((158 + 6 * m + 2 : Nat) : Int) := by rw [z _ _ y0 2 (by decide) (by decide) (by omega)]; rfl
      have y3 : ((158 + (6 * P 157)) + 3).toInt = ((158 + 6 * m + 3 : Nat) : Int) := by rw [z _ _ y0 3 (by decide) (by decide) (by omega)]; rfl
      have y4 : ((158 + (6 * P 157)) + 4).toInt = ((158 + 6 * m + 4 : Nat) : Int) := by rw [z _ _ y0 4 (by decide) (by decide) (by omega)]; rfl
      have hfr := (hD.2.2.2.2 k hkn).1
      have h9 := hD.2.1.2.1
      have t3 : (3 : Int32).toInt = 3 := rfl
      have dx : (3 + P (13 + 6 * k)).toInt = ((3 + (P (13 + 6 * k)).toInt.toNat : Nat) : Int) := by
        rw [i32_add (by omega) (by omega), t3]
        omega
      have sdo : rI M 635 (3 + P (13 + 6 * k)) = P (3 + (P (13 + 6 * k)).toInt.toNat) := r_s hR dx (by omega)
      have e157 : (157 : Int32).toNatClampNeg = 157 := rfl
      rw [s157, s0, sdo, cl_n y0, cl_n y1, cl_n y2, cl_n y3, cl_n y4, e157, hkI] at H
      have g1 := ((((hR.up (i := 158 + 6 * m) (by omega) (x := P (3 + (P (13 + 6 * k)).toInt.toNat))).up (i := 158 + 6 * m + 1) (by omega) (x := nI k)).up (i := 158 + 6 * m + 2) (by omega) (x := 0)).up (i := 158 + 6 * m + 3) (by omega) (x := -1)).up (i := 158 + 6 * m + 4) (by omega) (x := -1)
      obtain ⟨N, eN⟩ : ∃ N, N = wI (wI (wI (wI (wI M 635 (158 + 6 * m) (P (3 + (P (13 + 6 * k)).toInt.toNat))) 635 (158 + 6 * m + 1) (nI k)) 635 (158 + 6 * m + 2) 0) 635 (158 + 6 * m + 3) (-1)) 635 (158 + 6 * m + 4) (-1) := ⟨_, rfl⟩
      rw [← eN] at g1 H
      have n157 : rI N 635 157 = P 157 := by
        rw [r_s g1 (n := 157) rfl (by decide), up_ne (by omega), up_ne (by omega), up_ne (by omega), up_ne (by omega), up_ne (by omega)]
      rw [n157] at H
      have g2 := g1.up (i := 157) (by decide) (x := P 157 + 1)
      have hnew : newP P k = uPk (uPk (uPk (uPk (uPk (uPk P (158 + 6 * m) (P (3 + (P (13 + 6 * k)).toInt.toNat))) (158 + 6 * m + 1) (nI k)) (158 + 6 * m + 2) 0) (158 + 6 * m + 3) (-1)) (158 + 6 * m + 4) (-1)) 157 (P 157 + 1) := by
        rw [em]
        rfl
      rw [← hnew] at g2
      have hsb : ∀ j, j < 157 → newP P k j = P j := new_sb (by omega) (by omega)
      have hFN : FZ rkF rkW noO M N := by
        rw [eN]
        exact (((rk_wI.trans rk_wI).trans rk_wI).trans rk_wI).trans rk_wI
      obtain ⟨M1, d2, d3, r1, r2, r3, r4, r5⟩ := ih (k + 1) (nI k + 1) (newP P k) _ _ _ g2 (hD.sb hsb) hKn (by rw [← hkI]; exact hk1) (by rw [hsb 12 (by decide)]; omega) H
      refine ⟨M1, d2, d3, r1, r2, (hFN.trans rk_wI).trans r3, fun j => (r4 j).trans (fI_wI.trans ?_), r5⟩
      rw [eN, fI_wI, fI_wI, fI_wI, fI_wI, fI_wI]
    · rw [s5] at a2
      rw [s518, s4] at a3 a4
      rw [s3, ← hrem] at a4
      exact no (by unfold dueB; rw [decide_eq_false a2, decide_eq_false a3, decide_eq_false a4]; rfl) _ _ H
theorem rtick_ok (hR : RST T P M) (hD : okD P) (hK : okK P) (hf : WFr w f0 ss M) (ha : ARn dd P M) (H : Ev none e 204 0 [some (.ref 633), none, none, none] [] M v M' 0 0) : v = none ∧ RST T (tckP T (P, ss)).1 M' ∧ okD (tckP T (P, ss)).1 ∧ okK (tckP T (P, ss)).1 ∧ FZ rkF rkW noO M M' ∧ WFr w f0 (tckP T (P, ss)).2 M' ∧ ARn dd (tckP T (P, ss)).1 M' ∧ (∀ j, j < 157 → (tckP T (P, ss)).1 j = P j) := by
  have h12 := hD.2.2.1
  obtain ⟨M1, d2, d3, r1, r2, r3, r4, H⟩ := rbeg_l (P 12).toInt.toNat 0 0 P M none none hR hD hK rfl (by omega) (rtk_0 hR.1 H)
  have bk := beg_keep (P 12).toInt.toNat 0 P hK.1 hK.2.1
  obtain ⟨P1, eP1⟩ : ∃ P1, P1 = bg0P P := ⟨_, rfl⟩
  have eb : begP (P 12).toInt.toNat 0 P = P1 := eP1.symm
  rw [eb] at r1 r2 bk
  have hD1 : okD P1 := hD.sb (fun j hj => bk j (Or.inl hj))
  have hK1 := r2.1
  obtain ⟨P6, ss6, s1, s2, s3, s4, s5, s6, s7, s8, s9⟩ := rwlk_l (P1 157).toInt.toNat 0 0 P1 ss M1 d2 d3 r1 hD1 r2 ⟨(r4 40).trans hf.1, (r4 42).trans hf.2⟩ (by unfold ARn; rw [r4, bk 519 (by omega)]; exact ha) rfl (by omega) H
  have ht1 : tckP T (P, ss) = (uPk P6 518 (P6 518 + 1), ss6) := by
    unfold tckP
    dsimp only
    rw [← eP1, s1]
  rw [ht1]
  have hlow : ∀ j, j < 157 → uPk P6 518 (P6 518 + 1) j = P j := fun j hj => (up_ne (by omega)).trans ((s9 j hj).trans (bk j (Or.inl hj)))
  have hK6 : okK (uPk P6 518 (P6 518 + 1)) := s5.far (fun j hj => up_ne (by omega))
  have h519 : uPk P6 518 (P6 518 + 1) 519 = P6 519 := up_ne (by decide)
  refine ⟨s2, s3, hD.sb hlow, hK6, r3.trans s6, s7, ?_, hlow⟩
  unfold ARn
  rw [s8]
  show P6 519 + dd = uPk P6 518 (P6 518 + 1) 519 + dd
  rw [h519]
theorem rwka_l (hw : wh4 P) : ∀ (n : Nat) (c : Int32) (Q : PK) (M : Mem) (c2 c3 : Option Value), RST T Q M → Q 0 = P 0 → Q 1 = P 1 → 0 ≤ c.toInt → c.toInt + (n : Int) = (clsP P : Int) → Ev none e 208 2 [some (.ref 633), some (.int c), c2, c3] [] M v M' 0 0 → ∃ M1 d2 d3, RST T (wkaP (T 0) n c Q) M1 ∧ FZ rkF rkW noO M M1 ∧ (∀ j, zI M1 633 j = zI M 633 j) ∧ (∀ j, j < 522 → wkaP (T 0) n c Q j = Q j) ∧ Ev none e 208 76 [some (.ref 633), some (.int 0), d2, d3] [] M1 v M' 0 0 := by
  obtain ⟨_, c256, _⟩ := cls_int hw
  intro n
  induction n with
  | zero =>
    intro c Q M c2 c3 hR h0 h1 hc hn H
    have hg := g144_ok hR (hw.eq h0 h1)
    rw [cls_eq h0 h1] at hg
    rcases rew_2 hR.1 H with ⟨_, H⟩ | ⟨a1, _⟩
    · exact ⟨M, _, _, hR, FZ.refl _, fun _ => rfl, fun _ _ => rfl, H⟩
    · exact absurd (Int32.le_iff_toInt_le.mpr (by omega)) a1
  | succ n ih =>
    intro c Q M c2 c3 hR h0 h1 hc hn H
    have hwQ := hw.eq h0 h1
    have hg := g144_ok hR hwQ
    rw [cls_eq h0 h1] at hg
    have hcin : inC Q c := (inC.eq h0 h1).mpr ⟨hc, by omega⟩
    rcases rew_2 hR.1 H with ⟨a1, _⟩ | ⟨_, e1, v1, M1, rfl, H1, H⟩
    · have := Int32.le_iff_toInt_le.mp a1
      omega
    · rw [r_cell hR hwQ hcin (fn := 3) rfl (by decide)] at H
      obtain ⟨rfl, q2, q3⟩ := rfst_ok hR hwQ hcin H1
      have hR1 := hR.tu q2 q3
      have l0 : ∀ (f : Nat) (x : Int32), uPk Q (cX f c) x 0 = Q 0 := fun f x => up_ne (by have := cX_ge (f := f) (c := c); omega)
      have l1 : ∀ (f : Nat) (x : Int32), uPk Q (cX f c) x 1 = Q 1 := fun f x => up_ne (by have := cX_ge (f := f) (c := c); omega)
      have hm0 : ∀ x : Int32, max0 x = if 0 ≤ x then x else 0 := fun x => by
        unfold max0
        by_cases h : x < 0
        · rw [if_pos h, if_neg (fun q => by rw [i32_z] at h; have := Int32.le_iff_toInt_le.mp q; have z : (0 : Int32).toInt = 0 := rfl; omega)]
        · rw [if_neg h, if_pos (Int32.le_iff_toInt_le.mpr (by rw [i32_z] at h; have z : (0 : Int32).toInt = 0 := rfl; omega))]
      have cont : ∀ (x y : Int32) (c2 c3 : Option Value), x = max0 (cE Q 3 c - fstL (T 0) Q 1 c 10 (T 0).2) → y = max0 (cE Q 4 c - dyQ (T 0)) → Ev none (e1 + 1) 208 2 [some (.ref 633), some (.int (c + 1)), c2, c3] [] (X_147 (X_147 M1 c 3 x) c 4 y) v M' 0 0 → ∃ M2 d2 d3, RST T (wkaP (T 0) (n + 1) c Q) M2 ∧ FZ rkF rkW noO M M2 ∧ (∀ j, zI M2 633 j = zI M 633 j) ∧ (∀ j, j < 522 → wkaP (T 0) (n + 1) c Q j = Q j) ∧ Ev none (e1 + 1) 208 76 [some (.ref 633), some (.int 0), d2, d3] [] M2 v M' 0 0 := fun x y c2 c3 hx hy H => by
        have g1 := hR1.up (cX_lt hwQ hcin (f := 3) (by decide)) (x := x)
        rw [x147_ok hR1 hwQ hcin (fn := 3) rfl (by decide), x147_ok g1 (hwQ.eq (l0 3 x) (l1 3 x)) ((inC.eq (l0 3 x) (l1 3 x)).mpr hcin) (fn := 4) rfl (by decide)] at H
        have g2 := g1.up (cX_lt hwQ hcin (f := 4) (by decide)) (x := y)
        have hwk : wk1P (T 0) Q c = uPk (uPk Q (cX 3 c) x) (cX 4 c) y := by rw [hx, hy]; rfl
        rw [← hwk] at g2
        obtain ⟨M2, d2, d3, r1, r2, r3, r4, r5⟩ := ih (c + 1) (wk1P (T 0) Q c) _ c2 c3 g2 ((wk1_lo (by decide)).trans h0) ((wk1_lo (by decide)).trans h1) (by rw [i32_p1 (by omega)]; omega) (by rw [i32_p1 (by omega)]; omega) H
        exact ⟨M2, d2, d3, r1, (((tu_rk q3).trans rk_wI).trans rk_wI).trans r2, fun j => (r3 j).trans (by rw [fI_wI, fI_wI]; exact q3.fi (fun q => q)), fun j hj => (r4 j hj).trans (wk1_lo hj), r5⟩
      have hy4 : G_146 M1 c 4 - zI M1 633 30 = cE Q 4 c - dyQ (T 0) := by rw [r_cell hR1 hwQ hcin (fn := 4) rfl (by decide), hR1.2.2.1.2.2]
      rcases rew_24 q2 H with ⟨a1, a2, H⟩ | ⟨a1, a2, H⟩ | ⟨a1, a2, H⟩ | ⟨a1, a2, H⟩
      · rw [hy4] at a2 H
        exact cont _ _ _ _ (by rw [hm0, if_pos a1]) (by rw [hm0, if_pos a2]) H
      · rw [hy4] at a2 H
        exact cont _ _ _ _ (by rw [hm0, if_pos a1]) (by rw [hm0, if_neg a2]) H
      · rw [hy4] at a2 H
        exact cont _ _ _ _ (by rw [hm0, if_neg a1]) (by rw [hm0, if_pos a2]) H
      · rw [hy4] at a2 H
        exact cont _ _ _ _ (by rw [hm0, if_neg a1]) (by rw [hm0, if_neg a2]) H
theorem rzer_l (hw : wh4 P) : ∀ (n : Nat) (c : Int32) (Q : PK) (M : Mem) (c2 c3 : Option Value), RST T Q M → Q 0 = P 0 → Q 1 = P 1 → 0 ≤ c.toInt → c.toInt + (n : Int) = (clsP P : Int) → Ev none e 208 76 [some (.ref 633), some (.int c), c2, c3] [] M v M' 0 0 → v = none ∧ RST T (zerP 5 n c Q) M' ∧ FZ rkF rkW noO M M' ∧ (∀ j, zI M' 633 j = zI M 633 j) := by
  obtain ⟨_, c256, _⟩ := cls_int hw
  intro n
  induction n with
  | zero =>
    intro c Q M c2 c3 hR h0 h1 hc hn H
    have hg := g144_ok hR (hw.eq h0 h1)
    rw [cls_eq h0 h1] at hg
    rcases rew_76 hR.1 H with ⟨_, r1, r2⟩ | ⟨a1, _⟩
    · subst r2
      exact ⟨r1, hR, FZ.refl _, fun _ => rfl⟩
    · exact absurd (Int32.le_iff_toInt_le.mpr (by omega)) a1
  | succ n ih =>
    intro c Q M c2 c3 hR h0 h1 hc hn H
    have hwQ := hw.eq h0 h1
    have hg := g144_ok hR hwQ
    rw [cls_eq h0 h1] at hg
    have hcin : inC Q c := (inC.eq h0 h1).mpr ⟨hc, by omega⟩
    rcases rew_76 hR.1 H with ⟨a1, _⟩ | ⟨_, H⟩
    · have := Int32.le_iff_toInt_le.mp a1
      omega
    · rw [x147_ok hR hwQ hcin (fn := 5) rfl (by decide)] at H
      have g1 := hR.up (cX_lt hwQ hcin (f := 5) (by decide)) (x := 0)
      have l0 : uPk Q (cX 5 c) 0 0 = Q 0 := up_ne (by have := cX_ge (f := 5) (c := c); omega)
      have l1 : uPk Q (cX 5 c) 0 1 = Q 1 := up_ne (by have := cX_ge (f := 5) (c := c); omega)
      obtain ⟨r1, r2, r3, r4⟩ := ih (c + 1) _ _ c2 c3 g1 (l0.trans h0) (l1.trans h1) (by rw [i32_p1 (by omega)]; omega) (by rw [i32_p1 (by omega)]; omega) H
      exact ⟨r1, r2, rk_wI.trans r3, fun j => (r4 j).trans fI_wI⟩
theorem rwek_ok (hR : RST T P M) (hw : wh4 P) (H : Ev none e 208 0 [some (.ref 633), none, none, none] [] M v M' 0 0) : v = none ∧ RST T (wekP (T 0) P) M' ∧ FZ rkF rkW noO M M' ∧ (∀ j, zI M' 633 j = zI M 633 j) := by
  have z0 : (0 : Int32).toInt = 0 := rfl
  obtain ⟨M1, d2, d3, r1, r2, r3, r4, H⟩ := rwka_l hw (clsP P) 0 P M none none hR rfl rfl (by decide) (by omega) (rew_0 hR.1 H)
  obtain ⟨q1, q2, q3, q4⟩ := rzer_l hw (clsP P) 0 _ M1 d2 d3 r1 (r4 0 (by decide)) (r4 1 (by decide)) (by decide) (by omega) H
  exact ⟨q1, q2, r2.trans q3, fun j => (q4 j).trans (r3 j)⟩
theorem rwmn_l (hR : RST T P M) (hw : wh4 P) : ∀ (n : Nat) (c m : Int32), 0 ≤ c.toInt → c.toInt + (n : Int) = (clsP P : Int) → Ev none e 216 4 [some (.ref 633), some (.int m), some (.int c)] [] M v M' 0 0 → M' = M ∧ v = some (.int (netP (T 0) P n c m)) := by
  have hg := g144_ok hR hw
  obtain ⟨_, c256, _⟩ := cls_int hw
  intro n
  induction n with
  | zero =>
    intro c m hc hn H
    rcases rwm_4 hR.1 H with ⟨_, r1, r2⟩ | ⟨a1, _⟩ | ⟨a1, _⟩
    · exact ⟨r2, r1⟩
    all_goals exact absurd (Int32.le_iff_toInt_le.mpr (by omega)) a1
  | succ n ih =>
    intro c m hc hn H
    have hcin : inC P c := ⟨hc, by omega⟩
    have e1 : (c + 1).toInt = c.toInt + 1 := i32_p1 (by omega)
    unfold netP
    rcases rwm_4 hR.1 H with ⟨a1, _⟩ | ⟨_, a2, H⟩ | ⟨_, a2, H⟩
    · have := Int32.le_iff_toInt_le.mp a1
      omega
    · rw [g150_ok hR hw hcin, bI_0] at a2
      rw [a2, if_neg (by decide)]
      exact ih _ _ (by omega) (by omega) H
    · rw [g150_ok hR hw hcin, bI_0, Bool.not_eq_false] at a2
      rw [a2, if_pos rfl]
      exact ih _ _ (by omega) (by omega) H
theorem rwmn_ok (hR : RST T P M) (hw : wh4 P) (H : Ev none e 216 0 [some (.ref 633), none, none] [] M v M' 0 0) : M' = M ∧ v = some (.int (nwP (T 0) P)) := rwmn_l hR hw (clsP P) 0 0 (by decide) (by have : (0 : Int32).toInt = 0 := rfl; omega) (rwm_0 hR.1 H)
end RTC
/-! THE REFERENCE'S calls on its park: pieces (made by gref4.py) -/
noncomputable def G_142 (M : Mem) (at0 : Int32) : Int32 := (rI M 634 at0) &&& 255
theorem g_142 {e : Nat} {M M' : Mem} {v : Option Value} {at0 : Int32} (hS : SQ M) (H : Ev none e 142 0 [some (.ref 633), some (.int at0)] [] M v M' 0 0) : v = some (.int (G_142 M at0)) ∧ M' = M := by
  unfold G_142
  have H : Ev none e 142 1 [some (.ref 633), some (.int at0)] [.ref 633] M v M' 0 0 := Ev.back 1 (fun n => rfl) H
  have H : Ev none e 142 4 [some (.ref 633), some (.int at0)] [.ref 634] M v M' 0 0 := Ev.back 1 (gs_3 rfl rfl (gf_u hS.1 qa_633 qr_61_1 qu_62 rfl)) H
  have H : Ev none e 142 5 [some (.ref 633), some (.int at0)] [.int at0, .ref 634] M v M' 0 0 := Ev.back 1 (fun n => rfl) H
  obtain ⟨b1, H⟩ := Ev.bal rfl rfl hS.1 qa_634 qw_62 (Or.inl rfl) H
  have H : Ev none e 142 6 [some (.ref 633), some (.int at0)] [.int (rI M 634 at0)] M v M' 0 0 := H
  have H : Ev none e 142 10 [some (.ref 633), some (.int at0)] [.int ((rI M 634 at0) &&& 255)] M v M' 0 0 := Ev.back 2 (fun n => rfl) H
  obtain ⟨p1, p2⟩ := Ev.retz rfl rfl H
  exact ⟨p1, p2⟩
noncomputable def G_145 (M : Mem) (c : Int32) : Int32 := G_140 M c 0 ((G_144 M) - 1)
theorem g_145 {e : Nat} {M M' : Mem} {v : Option Value} {c : Int32} (hS : SQ M) (H : Ev none e 145 0 [some (.ref 633), some (.int c)] [] M v M' 0 0) : v = some (.int (G_145 M c)) ∧ M' = M := by
  unfold G_145
  have H : Ev none e 145 3 [some (.ref 633), some (.int c)] [.ref 633, .int 0, .int c] M v M' 0 0 := Ev.back 3 (fun n => rfl) H
  obtain ⟨e1, rfl⟩ := Ev.dpos rfl rfl H
  obtain ⟨vK1, MK1, K1, H⟩ := Ev.callb (fun n_ => gs_7 rfl rfl (show gCal (.invokevirtual 128) 11 (.ref 633 :: [.int 0, .int c]) M = some (.inr (144, [some (.ref 633)], [.int 0, .int c])) from by show @cond (Option ((List Value × Mem) ⊕ (Nat × Lo × List Value))) (true && gRecv M (.ref 633) 11 && gRoom [.int 0, .int c] && true) (some (.inr (144, [some (.ref 633)], [.int 0, .int c]))) none = _; rw [recv_s hS.1 qa_633 qo_61]; rfl)) H
  obtain ⟨pK1, qK1⟩ := g_144 hS K1
  rw [pK1, qK1] at H
  have H : Ev none (e1 + 1) 145 6 [some (.ref 633), some (.int c)] [.int (G_144 M), .int 0, .int c] M v M' 0 0 := H
  have H : Ev none (e1 + 1) 145 8 [some (.ref 633), some (.int c)] [.int ((G_144 M) - 1), .int 0, .int c] M v M' 0 0 := Ev.back 2 (fun n => rfl) H
  obtain ⟨vK2, MK2, K2, H⟩ := Ev.callb (fun n => rfl) H
  obtain ⟨pK2, qK2⟩ := g_140 hS K2
  rw [pK2, qK2] at H
  have H : Ev none (e1 + 1) 145 11 [some (.ref 633), some (.int c)] [.int (G_140 M c 0 ((G_144 M) - 1))] M v M' 0 0 := H
  obtain ⟨p1, p2⟩ := Ev.retz rfl rfl H
  exact ⟨p1, p2⟩
noncomputable def G_152 (M : Mem) (d : Int32) : Int32 := G_140 M d 0 ((rI M 635 2) - 1)
theorem g_152 {e : Nat} {M M' : Mem} {v : Option Value} {d : Int32} (hS : SQ M) (H : Ev none e 152 0 [some (.ref 633), some (.int d)] [] M v M' 0 0) : v = some (.int (G_152 M d)) ∧ M' = M := by
  unfold G_152
  have H : Ev none e 152 3 [some (.ref 633), some (.int d)] [.ref 633, .int 0, .int d] M v M' 0 0 := Ev.back 3 (fun n => rfl) H
  have H : Ev none e 152 6 [some (.ref 633), some (.int d)] [.ref 635, .int 0, .int d] M v M' 0 0 := Ev.back 1 (gs_3 rfl rfl (gf_u hS.1 qa_633 qr_61_5 qu_63 rfl)) H
  have H : Ev none e 152 7 [some (.ref 633), some (.int d)] [.int 2, .ref 635, .int 0, .int d] M v M' 0 0 := Ev.back 1 (fun n => rfl) H
  obtain ⟨b1, H⟩ := Ev.ial rfl rfl hS.1 qa_635 qw_63 H
  have H : Ev none e 152 8 [some (.ref 633), some (.int d)] [.int (rI M 635 2), .int 0, .int d] M v M' 0 0 := H
  have H : Ev none e 152 10 [some (.ref 633), some (.int d)] [.int ((rI M 635 2) - 1), .int 0, .int d] M v M' 0 0 := Ev.back 2 (fun n => rfl) H
  obtain ⟨e1, rfl⟩ := Ev.dpos rfl rfl H
  obtain ⟨vK2, MK2, K2, H⟩ := Ev.callb (fun n => rfl) H
  obtain ⟨pK2, qK2⟩ := g_140 hS K2
  rw [pK2, qK2] at H
  have H : Ev none (e1 + 1) 152 13 [some (.ref 633), some (.int d)] [.int (G_140 M d 0 ((rI M 635 2) - 1))] M v M' 0 0 := H
  obtain ⟨p1, p2⟩ := Ev.retz rfl rfl H
  exact ⟨p1, p2⟩
theorem rda_0 {e : Nat} {M M' : Mem} {v : Option Value} {c : Int32} (hS : SQ M) (H : Ev none e 157 0 [some (.ref 633), some (.int c), none] [] M v M' 0 0) : Ev none e 157 2 [some (.ref 633), some (.int c), some (.int 0)] [] M v M' 0 0 := by
  have H : Ev none e 157 2 [some (.ref 633), some (.int c), some (.int 0)] [] M v M' 0 0 := Ev.back 2 (fun n => rfl) H
  have HF := H
  exact HF
theorem rda_2 {e : Nat} {M M' : Mem} {v : Option Value} {c k : Int32} (hS : SQ M) (H : Ev none e 157 2 [some (.ref 633), some (.int c), some (.int k)] [] M v M' 0 0) : ((rI M 635 2) ≤ k ∧ (0 ≤ (2 : Int32).toInt ∧ (2 : Int32).toInt < 2314) ∧ v = some (.int 0) ∧ M' = M) ∨ (¬ ((rI M 635 2) ≤ k) ∧ (rI M 635 (3 + k)) = c ∧ (0 ≤ (2 : Int32).toInt ∧ (2 : Int32).toInt < 2314) ∧ (0 ≤ (3 + k).toInt ∧ (3 + k).toInt < 2314) ∧ v = some (.int 1) ∧ M' = M) ∨ (¬ ((rI M 635 2) ≤ k) ∧ ¬ ((rI M 635 (3 + k)) = c) ∧ (0 ≤ (2 : Int32).toInt ∧ (2 : Int32).toInt < 2314) ∧ (0 ≤ (3 + k).toInt ∧ (3 + k).toInt < 2314) ∧ Ev none e 157 2 [some (.ref 633), some (.int c), some (.int (k + 1))] [] M v M' 0 0) := by
  have H : Ev none e 157 4 [some (.ref 633), some (.int c), some (.int k)] [.ref 633, .int k] M v M' 0 0 := Ev.back 2 (fun n => rfl) H
  have H : Ev none e 157 7 [some (.ref 633), some (.int c), some (.int k)] [.ref 635, .int k] M v M' 0 0 := Ev.back 1 (gs_3 rfl rfl (gf_u hS.1 qa_633 qr_61_5 qu_63 rfl)) H
  have H : Ev none e 157 8 [some (.ref 633), some (.int c), some (.int k)] [.int 2, .ref 635, .int k] M v M' 0 0 := Ev.back 1 (fun n => rfl) H
  obtain ⟨b1, H⟩ := Ev.ial rfl rfl hS.1 qa_635 qw_63 H
  have H : Ev none e 157 9 [some (.ref 633), some (.int c), some (.int k)] [.int (rI M 635 2), .int k] M v M' 0 0 := H
  have H : Ev none e 157 (if (rI M 635 2) ≤ k then 32 else 12) [some (.ref 633), some (.int c), some (.int k)] [] M v M' 0 0 := Ev.back 1 (fun n => rfl) H
  by_cases h2 : (rI M 635 2) ≤ k
  · rw [if_pos h2] at H
    have H : Ev none e 157 33 [some (.ref 633), some (.int c), some (.int k)] [.int 0] M v M' 0 0 := Ev.back 1 (fun n => rfl) H
    obtain ⟨z1, z2⟩ := Ev.retz rfl rfl H
    exact Or.inl ⟨h2, b1, z1, z2⟩
  · rw [if_neg h2] at H
    have H : Ev none e 157 13 [some (.ref 633), some (.int c), some (.int k)] [.ref 633] M v M' 0 0 := Ev.back 1 (fun n => rfl) H
    have H : Ev none e 157 16 [some (.ref 633), some (.int c), some (.int k)] [.ref 635] M v M' 0 0 := Ev.back 1 (gs_3 rfl rfl (gf_u hS.1 qa_633 qr_61_5 qu_63 rfl)) H
    have H : Ev none e 157 19 [some (.ref 633), some (.int c), some (.int k)] [.int (3 + k), .ref 635] M v M' 0 0 := Ev.back 3 (fun n => rfl) H
    obtain ⟨b3, H⟩ := Ev.ial rfl rfl hS.1 qa_635 qw_63 H
    have H : Ev none e 157 20 [some (.ref 633), some (.int c), some (.int k)] [.int (rI M 635 (3 + k))] M v M' 0 0 := H
    have H : Ev none e 157 (if (rI M 635 (3 + k)) = c then 24 else 26) [some (.ref 633), some (.int c), some (.int k)] [] M v M' 0 0 := Ev.back 2 (fun n => rfl) H
    by_cases h4 : (rI M 635 (3 + k)) = c
    · rw [if_pos h4] at H
      have H : Ev none e 157 25 [some (.ref 633), some (.int c), some (.int k)] [.int 1] M v M' 0 0 := Ev.back 1 (fun n => rfl) H
      obtain ⟨z1, z2⟩ := Ev.retz rfl rfl H
      exact Or.inr (Or.inl ⟨h2, h4, b1, b3, z1, z2⟩)
    · rw [if_neg h4] at H
      have H : Ev none e 157 2 [some (.ref 633), some (.int c), some (.int (k + 1))] [] M v M' 0 0 := Ev.back 2 (fun n => rfl) H
      have HF := H
      exact Or.inr (Or.inr (⟨h2, h4, b1, b3, HF⟩))
theorem rwa_0 {e : Nat} {M M' : Mem} {v : Option Value} {c : Int32} (hS : SQ M) (H : Ev none e 158 0 [some (.ref 633), some (.int c), none] [] M v M' 0 0) : Ev none e 158 2 [some (.ref 633), some (.int c), some (.int 0)] [] M v M' 0 0 := by
  have H : Ev none e 158 2 [some (.ref 633), some (.int c), some (.int 0)] [] M v M' 0 0 := Ev.back 2 (fun n => rfl) H
  have HF := H
  exact HF
theorem rwa_2 {e : Nat} {M M' : Mem} {v : Option Value} {c k : Int32} (hS : SQ M) (H : Ev none e 158 2 [some (.ref 633), some (.int c), some (.int k)] [] M v M' 0 0) : ((rI M 635 157) ≤ k ∧ (0 ≤ (157 : Int32).toInt ∧ (157 : Int32).toInt < 2314) ∧ v = some (.int 0) ∧ M' = M) ∨ (¬ ((rI M 635 157) ≤ k) ∧ (rI M 635 (158 + (6 * k))) = c ∧ (0 ≤ (157 : Int32).toInt ∧ (157 : Int32).toInt < 2314) ∧ (0 ≤ (158 + (6 * k)).toInt ∧ (158 + (6 * k)).toInt < 2314) ∧ v = some (.int 1) ∧ M' = M) ∨ (¬ ((rI M 635 157) ≤ k) ∧ ¬ ((rI M 635 (158 + (6 * k))) = c) ∧ (0 ≤ (157 : Int32).toInt ∧ (157 : Int32).toInt < 2314) ∧ (0 ≤ (158 + (6 * k)).toInt ∧ (158 + (6 * k)).toInt < 2314) ∧ Ev none e 158 2 [some (.ref 633), some (.int c), some (.int (k + 1))] [] M v M' 0 0) := by
  have H : Ev none e 158 4 [some (.ref 633), some (.int c), some (.int k)] [.ref 633, .int k] M v M' 0 0 := Ev.back 2 (fun n => rfl) H
  have H : Ev none e 158 7 [some (.ref 633), some (.int c), some (.int k)] [.ref 635, .int k] M v M' 0 0 := Ev.back 1 (gs_3 rfl rfl (gf_u hS.1 qa_633 qr_61_5 qu_63 rfl)) H
  have H : Ev none e 158 10 [some (.ref 633), some (.int c), some (.int k)] [.int 157, .ref 635, .int k] M v M' 0 0 := Ev.back 1 (fun n => rfl) H
  obtain ⟨b1, H⟩ := Ev.ial rfl rfl hS.1 qa_635 qw_63 H
  have H : Ev none e 158 11 [some (.ref 633), some (.int c), some (.int k)] [.int (rI M 635 157), .int k] M v M' 0 0 := H
  have H : Ev none e 158 (if (rI M 635 157) ≤ k then 39 else 14) [some (.ref 633), some (.int c), some (.int k)] [] M v M' 0 0 := Ev.back 1 (fun n => rfl) H
  by_cases h2 : (rI M 635 157) ≤ k
  · rw [if_pos h2] at H
    have H : Ev none e 158 40 [some (.ref 633), some (.int c), some (.int k)] [.int 0] M v M' 0 0 := Ev.back 1 (fun n => rfl) H
    obtain ⟨z1, z2⟩ := Ev.retz rfl rfl H
    exact Or.inl ⟨h2, b1, z1, z2⟩
  · rw [if_neg h2] at H
    have H : Ev none e 158 15 [some (.ref 633), some (.int c), some (.int k)] [.ref 633] M v M' 0 0 := Ev.back 1 (fun n => rfl) H
    have H : Ev none e 158 18 [some (.ref 633), some (.int c), some (.int k)] [.ref 635] M v M' 0 0 := Ev.back 1 (gs_3 rfl rfl (gf_u hS.1 qa_633 qr_61_5 qu_63 rfl)) H
    have H : Ev none e 158 26 [some (.ref 633), some (.int c), some (.int k)] [.int (158 + (6 * k)), .ref 635] M v M' 0 0 := Ev.back 5 (fun n => rfl) H
    obtain ⟨b3, H⟩ := Ev.ial rfl rfl hS.1 qa_635 qw_63 H
    have H : Ev none e 158 27 [some (.ref 633), some (.int c), some (.int k)] [.int (rI M 635 (158 + (6 * k)))] M v M' 0 0 := H
    have H : Ev none e 158 (if (rI M 635 (158 + (6 * k))) = c then 31 else 33) [some (.ref 633), some (.int c), some (.int k)] [] M v M' 0 0 := Ev.back 2 (fun n => rfl) H
    by_cases h4 : (rI M 635 (158 + (6 * k))) = c
    · rw [if_pos h4] at H
      have H : Ev none e 158 32 [some (.ref 633), some (.int c), some (.int k)] [.int 1] M v M' 0 0 := Ev.back 1 (fun n => rfl) H
      obtain ⟨z1, z2⟩ := Ev.retz rfl rfl H
      exact Or.inr (Or.inl ⟨h2, h4, b1, b3, z1, z2⟩)
    · rw [if_neg h4] at H
      have H : Ev none e 158 2 [some (.ref 633), some (.int c), some (.int (k + 1))] [] M v M' 0 0 := Ev.back 2 (fun n => rfl) H
      have HF := H
      exact Or.inr (Or.inr (⟨h2, h4, b1, b3, HF⟩))
noncomputable def G_189 (M : Mem) (k : Int32) : Int32 := if (G_140 M k 0 ((rI M 635 12) - 1)) = 0 then 0 else (if (rI M 635 ((13 + (6 * k)) + 5)) = 1 then 1 else 0)
theorem g_189 {e : Nat} {M M' : Mem} {v : Option Value} {k : Int32} (hS : SQ M) (H : Ev none e 189 0 [some (.ref 633), some (.int k)] [] M v M' 0 0) : v = some (.int (G_189 M k)) ∧ M' = M := by
  unfold G_189
  have H : Ev none e 189 3 [some (.ref 633), some (.int k)] [.ref 633, .int 0, .int k] M v M' 0 0 := Ev.back 3 (fun n => rfl) H
  have H : Ev none e 189 6 [some (.ref 633), some (.int k)] [.ref 635, .int 0, .int k] M v M' 0 0 := Ev.back 1 (gs_3 rfl rfl (gf_u hS.1 qa_633 qr_61_5 qu_63 rfl)) H
  have H : Ev none e 189 8 [some (.ref 633), some (.int k)] [.int 12, .ref 635, .int 0, .int k] M v M' 0 0 := Ev.back 1 (fun n => rfl) H
  obtain ⟨b1, H⟩ := Ev.ial rfl rfl hS.1 qa_635 qw_63 H
  have H : Ev none e 189 9 [some (.ref 633), some (.int k)] [.int (rI M 635 12), .int 0, .int k] M v M' 0 0 := H
  have H : Ev none e 189 11 [some (.ref 633), some (.int k)] [.int ((rI M 635 12) - 1), .int 0, .int k] M v M' 0 0 := Ev.back 2 (fun n => rfl) H
  obtain ⟨e1, rfl⟩ := Ev.dpos rfl rfl H
  obtain ⟨vK2, MK2, K2, H⟩ := Ev.callb (fun n => rfl) H
  obtain ⟨pK2, qK2⟩ := g_140 hS K2
  rw [pK2, qK2] at H
  have H : Ev none (e1 + 1) 189 14 [some (.ref 633), some (.int k)] [.int (G_140 M k 0 ((rI M 635 12) - 1))] M v M' 0 0 := H
  have H : Ev none (e1 + 1) 189 (if (G_140 M k 0 ((rI M 635 12) - 1)) = 0 then 39 else 17) [some (.ref 633), some (.int k)] [] M v M' 0 0 := Ev.back 1 (fun n => rfl) H
  by_cases h3 : (G_140 M k 0 ((rI M 635 12) - 1)) = 0
  · rw [if_pos h3] at H
    have H : Ev none (e1 + 1) 189 40 [some (.ref 633), some (.int k)] [.int 0] M v M' 0 0 := Ev.back 1 (fun n => rfl) H
    obtain ⟨p1, p2⟩ := Ev.retz rfl rfl H
    exact ⟨by rw [if_pos h3]; exact p1, p2⟩
  · rw [if_neg h3] at H
    have H : Ev none (e1 + 1) 189 18 [some (.ref 633), some (.int k)] [.ref 633] M v M' 0 0 := Ev.back 1 (fun n => rfl) H
    have H : Ev none (e1 + 1) 189 21 [some (.ref 633), some (.int k)] [.ref 635] M v M' 0 0 := Ev.back 1 (gs_3 rfl rfl (gf_u hS.1 qa_633 qr_61_5 qu_63 rfl)) H
    have H : Ev none (e1 + 1) 189 30 [some (.ref 633), some (.int k)] [.int ((13 + (6 * k)) + 5), .ref 635] M v M' 0 0 := Ev.back 7 (fun n => rfl) H
    obtain ⟨b4, H⟩ := Ev.ial rfl rfl hS.1 qa_635 qw_63 H
    have H : Ev none (e1 + 1) 189 31 [some (.ref 633), some (.int k)] [.int (rI M 635 ((13 + (6 * k)) + 5))] M v M' 0 0 := H
    have H : Ev none (e1 + 1) 189 (if (rI M 635 ((13 + (6 * k)) + 5)) = 1 then 35 else 39) [some (.ref 633), some (.int k)] [] M v M' 0 0 := Ev.back 2 (fun n => rfl) H
    by_cases h5 : (rI M 635 ((13 + (6 * k)) + 5)) = 1
    · rw [if_pos h5] at H
      have H : Ev none (e1 + 1) 189 40 [some (.ref 633), some (.int k)] [.int 1] M v M' 0 0 := Ev.back 2 (fun n => rfl) H
      obtain ⟨p1, p2⟩ := Ev.retz rfl rfl H
      exact ⟨by rw [if_neg h3, if_pos h5]; exact p1, p2⟩
    · rw [if_neg h5] at H
      have H : Ev none (e1 + 1) 189 40 [some (.ref 633), some (.int k)] [.int 0] M v M' 0 0 := Ev.back 1 (fun n => rfl) H
      obtain ⟨p1, p2⟩ := Ev.retz rfl rfl H
      exact ⟨by rw [if_neg h3, if_neg h5]; exact p1, p2⟩
theorem rdo_0 {e : Nat} {M M' : Mem} {v : Option Value} {c : Int32} (hS : SQ M) (H : Ev none e 156 0 [some (.ref 633), some (.int c)] [] M v M' 0 0) : ((rI M 635 2) = 9 ∧ (0 ≤ (2 : Int32).toInt ∧ (2 : Int32).toInt < 2314) ∧ v = some (.int (-1)) ∧ M' = (wF M 633 0 0)) ∨ (¬ ((rI M 635 2) = 9) ∧ (G_145 (wF M 633 0 0) c) = 0 ∧ (0 ≤ (2 : Int32).toInt ∧ (2 : Int32).toInt < 2314) ∧ v = some (.int (-1)) ∧ M' = (wF M 633 0 0)) ∨ (¬ ((rI M 635 2) = 9) ∧ ¬ ((G_145 (wF M 633 0 0) c) = 0) ∧ (G_148 (wF M 633 0 0) c) = 0 ∧ (0 ≤ (2 : Int32).toInt ∧ (2 : Int32).toInt < 2314) ∧ v = some (.int (-1)) ∧ M' = (wF M 633 0 0)) ∨ (¬ ((rI M 635 2) = 9) ∧ ¬ ((G_145 (wF M 633 0 0) c) = 0) ∧ ¬ ((G_148 (wF M 633 0 0) c) = 0) ∧ (0 ≤ (2 : Int32).toInt ∧ (2 : Int32).toInt < 2314) ∧ (∃ e1 v1 M1, e = e1 + 1 ∧ Ev none e1 157 0 [some (.ref 633), some (.int c), none] [] (wF M 633 0 0) v1 M1 0 0 ∧ Ev none e 156 37 [some (.ref 633), some (.int c)] (v1.toList ++ []) M1 v M' 0 0)) := by
  have H : Ev none e 156 2 [some (.ref 633), some (.int c)] [.int 0, .ref 633] M v M' 0 0 := Ev.back 2 (fun n => rfl) H
  obtain ⟨N2, eN2⟩ : ∃ N, N = (wF M 633 0 0) := ⟨_, rfl⟩
  have hN2 : SQ N2 := by rw [eN2]; exact hS.kf
  have H : Ev none e 156 5 [some (.ref 633), some (.int c)] [] N2 v M' 0 0 := by rw [eN2]; exact Ev.pfi rfl rfl rfl hS.1 qa_633 qi_61_0 H
  have H : Ev none e 156 6 [some (.ref 633), some (.int c)] [.ref 633] N2 v M' 0 0 := Ev.back 1 (fun n => rfl) H
  have H : Ev none e 156 9 [some (.ref 633), some (.int c)] [.ref 635] N2 v M' 0 0 := Ev.back 1 (gs_3 rfl rfl (gf_u hN2.1 qa_633 qr_61_5 qu_63 rfl)) H
  have H : Ev none e 156 10 [some (.ref 633), some (.int c)] [.int 2, .ref 635] N2 v M' 0 0 := Ev.back 1 (fun n => rfl) H
  obtain ⟨b3, H⟩ := Ev.ial rfl rfl hN2.1 qa_635 qw_63 H
  have H : Ev none e 156 11 [some (.ref 633), some (.int c)] [.int (rI N2 635 2)] N2 v M' 0 0 := H
  rw [show rI N2 635 2 = rI M 635 2 from by rw [eN2]; exact rN_wF] at H
  have H : Ev none e 156 (if (rI M 635 2) = 9 then 40 else 16) [some (.ref 633), some (.int c)] [] N2 v M' 0 0 := Ev.back 2 (fun n => rfl) H
  by_cases h4 : (rI M 635 2) = 9
  · rw [if_pos h4] at H
    have H : Ev none e 156 41 [some (.ref 633), some (.int c)] [.int (-1)] N2 v M' 0 0 := Ev.back 1 (fun n => rfl) H
    obtain ⟨z1, z2⟩ := Ev.retz rfl rfl H
    subst eN2
    exact Or.inl ⟨h4, b3, z1, z2⟩
  · rw [if_neg h4] at H
    have H : Ev none e 156 18 [some (.ref 633), some (.int c)] [.int c, .ref 633] N2 v M' 0 0 := Ev.back 2 (fun n => rfl) H
    obtain ⟨e1, rfl⟩ := Ev.dpos rfl rfl H
    obtain ⟨vK5, MK5, K5, H⟩ := Ev.callb (fun n_ => gs_7 rfl rfl (show gCal (.invokevirtual 155) 11 (.int c :: .ref 633 :: []) N2 = some (.inr (145, [some (.ref 633), some (.int c)], [])) from by show @cond (Option ((List Value × Mem) ⊕ (Nat × Lo × List Value))) (true && gRecv N2 (.ref 633) 11 && gRoom [] && true) (some (.inr (145, [some (.ref 633), some (.int c)], []))) none = _; rw [recv_s hN2.1 qa_633 qo_61]; rfl)) H
    obtain ⟨pK5, qK5⟩ := g_145 hN2 K5
    rw [pK5, qK5] at H
    have H : Ev none (e1 + 1) 156 21 [some (.ref 633), some (.int c)] [.int (G_145 N2 c)] N2 v M' 0 0 := H
    have H : Ev none (e1 + 1) 156 (if (G_145 N2 c) = 0 then 40 else 24) [some (.ref 633), some (.int c)] [] N2 v M' 0 0 := Ev.back 1 (fun n => rfl) H
    by_cases h6 : (G_145 N2 c) = 0
    · rw [if_pos h6] at H
      have H : Ev none (e1 + 1) 156 41 [some (.ref 633), some (.int c)] [.int (-1)] N2 v M' 0 0 := Ev.back 1 (fun n => rfl) H
      obtain ⟨z1, z2⟩ := Ev.retz rfl rfl H
      subst eN2
      exact Or.inr (Or.inl ⟨h4, h6, b3, z1, z2⟩)
    · rw [if_neg h6] at H
      have H : Ev none (e1 + 1) 156 26 [some (.ref 633), some (.int c)] [.int c, .ref 633] N2 v M' 0 0 := Ev.back 2 (fun n => rfl) H
      obtain ⟨vK7, MK7, K7, H⟩ := Ev.callb (fun n_ => gs_7 rfl rfl (show gCal (.invokevirtual 158) 11 (.int c :: .ref 633 :: []) N2 = some (.inr (148, [some (.ref 633), some (.int c)], [])) from by show @cond (Option ((List Value × Mem) ⊕ (Nat × Lo × List Value))) (true && gRecv N2 (.ref 633) 11 && gRoom [] && true) (some (.inr (148, [some (.ref 633), some (.int c)], []))) none = _; rw [recv_s hN2.1 qa_633 qo_61]; rfl)) H
      obtain ⟨pK7, qK7⟩ := g_148 hN2 K7
      rw [pK7, qK7] at H
      have H : Ev none (e1 + 1) 156 29 [some (.ref 633), some (.int c)] [.int (G_148 N2 c)] N2 v M' 0 0 := H
      have H : Ev none (e1 + 1) 156 (if (G_148 N2 c) = 0 then 40 else 32) [some (.ref 633), some (.int c)] [] N2 v M' 0 0 := Ev.back 1 (fun n => rfl) H
      by_cases h8 : (G_148 N2 c) = 0
      · rw [if_pos h8] at H
        have H : Ev none (e1 + 1) 156 41 [some (.ref 633), some (.int c)] [.int (-1)] N2 v M' 0 0 := Ev.back 1 (fun n => rfl) H
        obtain ⟨z1, z2⟩ := Ev.retz rfl rfl H
        subst eN2
        exact Or.inr (Or.inr (Or.inl ⟨h4, h6, h8, b3, z1, z2⟩))
      · rw [if_neg h8] at H
        have H : Ev none (e1 + 1) 156 34 [some (.ref 633), some (.int c)] [.int c, .ref 633] N2 v M' 0 0 := Ev.back 2 (fun n => rfl) H
        obtain ⟨vK9, MK9, K9, H⟩ := Ev.callb (fun n_ => gs_7 rfl rfl (show gCal (.invokevirtual 161) 11 (.int c :: .ref 633 :: []) N2 = some (.inr (157, [some (.ref 633), some (.int c), none], [])) from by show @cond (Option ((List Value × Mem) ⊕ (Nat × Lo × List Value))) (true && gRecv N2 (.ref 633) 11 && gRoom [] && true) (some (.inr (157, [some (.ref 633), some (.int c), none], []))) none = _; rw [recv_s hN2.1 qa_633 qo_61]; rfl)) H
        have K9 : Ev none e1 157 0 [some (.ref 633), some (.int c), none] [] N2 vK9 MK9 0 0 := K9
        have HF := H
        subst eN2
        exact Or.inr (Or.inr (Or.inr (⟨h4, h6, h8, b3, ⟨e1, vK9, MK9, rfl, K9, HF⟩⟩)))
theorem rdo_37 {e : Nat} {M M' : Mem} {v : Option Value} {c r : Int32} (hS : SQ M) (H : Ev none e 156 37 [some (.ref 633), some (.int c)] [.int r] M v M' 0 0) : (r = 0 ∧ (0 ≤ (2 : Int32).toInt ∧ (2 : Int32).toInt < 2314) ∧ (0 ≤ (3 + (rI M 635 2)).toInt ∧ (3 + (rI M 635 2)).toInt < 2314) ∧ (0 ≤ (2 : Int32).toInt ∧ (2 : Int32).toInt < 2314) ∧ (0 ≤ (2 : Int32).toInt ∧ (2 : Int32).toInt < 2314) ∧ (0 ≤ (2 : Int32).toInt ∧ (2 : Int32).toInt < 2314) ∧ v = some (.int ((rI (wI (wI M 635 ((3 + (rI M 635 2)).toNatClampNeg) c) 635 ((2 : Int32).toNatClampNeg) ((rI (wI M 635 ((3 + (rI M 635 2)).toNatClampNeg) c) 635 2) + 1)) 635 2) - 1)) ∧ M' = (wI (wI M 635 ((3 + (rI M 635 2)).toNatClampNeg) c) 635 ((2 : Int32).toNatClampNeg) ((rI (wI M 635 ((3 + (rI M 635 2)).toNatClampNeg) c) 635 2) + 1))) ∨ (¬ (r = 0) ∧ v = some (.int (-1)) ∧ M' = M) := by
  have H : Ev none e 156 (if r = 0 then 42 else 40) [some (.ref 633), some (.int c)] [] M v M' 0 0 := Ev.back 1 (fun n => rfl) H
  by_cases h1 : r = 0
  · rw [if_pos h1] at H
    have H : Ev none e 156 43 [some (.ref 633), some (.int c)] [.ref 633] M v M' 0 0 := Ev.back 1 (fun n => rfl) H
    have H : Ev none e 156 46 [some (.ref 633), some (.int c)] [.ref 635] M v M' 0 0 := Ev.back 1 (gs_3 rfl rfl (gf_u hS.1 qa_633 qr_61_5 qu_63 rfl)) H
    have H : Ev none e 156 48 [some (.ref 633), some (.int c)] [.ref 633, .int 3, .ref 635] M v M' 0 0 := Ev.back 2 (fun n => rfl) H
    have H : Ev none e 156 51 [some (.ref 633), some (.int c)] [.ref 635, .int 3, .ref 635] M v M' 0 0 := Ev.back 1 (gs_3 rfl rfl (gf_u hS.1 qa_633 qr_61_5 qu_63 rfl)) H
    have H : Ev none e 156 52 [some (.ref 633), some (.int c)] [.int 2, .ref 635, .int 3, .ref 635] M v M' 0 0 := Ev.back 1 (fun n => rfl) H
    obtain ⟨b2, H⟩ := Ev.ial rfl rfl hS.1 qa_635 qw_63 H
    have H : Ev none e 156 53 [some (.ref 633), some (.int c)] [.int (rI M 635 2), .int 3, .ref 635] M v M' 0 0 := H
    have H : Ev none e 156 55 [some (.ref 633), some (.int c)] [.int c, .int (3 + (rI M 635 2)), .ref 635] M v M' 0 0 := Ev.back 2 (fun n => rfl) H
    obtain ⟨b3, H⟩ := Ev.ias rfl rfl hS.1 qa_635 qw_63 H
    obtain ⟨N4, eN4⟩ : ∃ N, N = (wI M 635 ((3 + (rI M 635 2)).toNatClampNeg) c) := ⟨_, rfl⟩
    have hN4 : SQ N4 := by rw [eN4]; exact hS.ki
    have H : Ev none e 156 56 [some (.ref 633), some (.int c)] [] N4 v M' 0 0 := by rw [eN4]; exact H
    have H : Ev none e 156 57 [some (.ref 633), some (.int c)] [.ref 633] N4 v M' 0 0 := Ev.back 1 (fun n => rfl) H
    have H : Ev none e 156 60 [some (.ref 633), some (.int c)] [.ref 635] N4 v M' 0 0 := Ev.back 1 (gs_3 rfl rfl (gf_u hN4.1 qa_633 qr_61_5 qu_63 rfl)) H
    have H : Ev none e 156 62 [some (.ref 633), some (.int c)] [.int 2, .ref 635, .int 2, .ref 635] N4 v M' 0 0 := Ev.back 2 (fun n => rfl) H
    obtain ⟨b5, H⟩ := Ev.ial rfl rfl hN4.1 qa_635 qw_63 H
    have H : Ev none e 156 63 [some (.ref 633), some (.int c)] [.int (rI N4 635 2), .int 2, .ref 635] N4 v M' 0 0 := H
    have H : Ev none e 156 65 [some (.ref 633), some (.int c)] [.int ((rI N4 635 2) + 1), .int 2, .ref 635] N4 v M' 0 0 := Ev.back 2 (fun n => rfl) H
    obtain ⟨b6, H⟩ := Ev.ias rfl rfl hN4.1 qa_635 qw_63 H
    obtain ⟨N7, eN7⟩ : ∃ N, N = (wI N4 635 ((2 : Int32).toNatClampNeg) ((rI N4 635 2) + 1)) := ⟨_, rfl⟩
    have hN7 : SQ N7 := by rw [eN7]; exact hN4.ki
    have H : Ev none e 156 66 [some (.ref 633), some (.int c)] [] N7 v M' 0 0 := by rw [eN7]; exact H
    have H : Ev none e 156 67 [some (.ref 633), some (.int c)] [.ref 633] N7 v M' 0 0 := Ev.back 1 (fun n => rfl) H
    have H : Ev none e 156 70 [some (.ref 633), some (.int c)] [.ref 635] N7 v M' 0 0 := Ev.back 1 (gs_3 rfl rfl (gf_u hN7.1 qa_633 qr_61_5 qu_63 rfl)) H
    have H : Ev none e 156 71 [some (.ref 633), some (.int c)] [.int 2, .ref 635] N7 v M' 0 0 := Ev.back 1 (fun n => rfl) H
    obtain ⟨b8, H⟩ := Ev.ial rfl rfl hN7.1 qa_635 qw_63 H
    have H : Ev none e 156 72 [some (.ref 633), some (.int c)] [.int (rI N7 635 2)] N7 v M' 0 0 := H
    have H : Ev none e 156 74 [some (.ref 633), some (.int c)] [.int ((rI N7 635 2) - 1)] N7 v M' 0 0 := Ev.back 2 (fun n => rfl) H
    obtain ⟨z1, z2⟩ := Ev.retz rfl rfl H
    subst eN4 eN7
    exact Or.inl ⟨h1, b2, b3, b5, b6, b8, z1, z2⟩
  · rw [if_neg h1] at H
    have H : Ev none e 156 41 [some (.ref 633), some (.int c)] [.int (-1)] M v M' 0 0 := Ev.back 1 (fun n => rfl) H
    obtain ⟨z1, z2⟩ := Ev.retz rfl rfl H
    exact Or.inr (⟨h1, z1, z2⟩)
theorem rwi_0 {e : Nat} {M M' : Mem} {v : Option Value} {a b h ev fi : Int32} (hS : SQ M) (H : Ev none e 190 0 [some (.ref 633), some (.int a), some (.int b), some (.int h), some (.int ev), some (.int fi), none] [] M v M' 0 0) : ((rI M 635 12) = 24 ∧ (0 ≤ (12 : Int32).toInt ∧ (12 : Int32).toInt < 2314) ∧ v = some (.int (-1)) ∧ M' = (wF M 633 0 0)) ∨ (¬ ((rI M 635 12) = 24) ∧ (G_152 (wF M 633 0 0) a) = 0 ∧ (0 ≤ (12 : Int32).toInt ∧ (12 : Int32).toInt < 2314) ∧ v = some (.int (-1)) ∧ M' = (wF M 633 0 0)) ∨ (¬ ((rI M 635 12) = 24) ∧ ¬ ((G_152 (wF M 633 0 0) a) = 0) ∧ (G_152 (wF M 633 0 0) b) = 0 ∧ (0 ≤ (12 : Int32).toInt ∧ (12 : Int32).toInt < 2314) ∧ v = some (.int (-1)) ∧ M' = (wF M 633 0 0)) ∨ (¬ ((rI M 635 12) = 24) ∧ ¬ ((G_152 (wF M 633 0 0) a) = 0) ∧ ¬ ((G_152 (wF M 633 0 0) b) = 0) ∧ a = b ∧ (0 ≤ (12 : Int32).toInt ∧ (12 : Int32).toInt < 2314) ∧ v = some (.int (-1)) ∧ M' = (wF M 633 0 0)) ∨ (¬ ((rI M 635 12) = 24) ∧ ¬ ((G_152 (wF M 633 0 0) a) = 0) ∧ ¬ ((G_152 (wF M 633 0 0) b) = 0) ∧ ¬ (a = b) ∧ (G_140 (wF M 633 0 0) h 0 5) = 0 ∧ (0 ≤ (12 : Int32).toInt ∧ (12 : Int32).toInt < 2314) ∧ v = some (.int (-1)) ∧ M' = (wF M 633 0 0)) ∨ (¬ ((rI M 635 12) = 24) ∧ ¬ ((G_152 (wF M 633 0 0) a) = 0) ∧ ¬ ((G_152 (wF M 633 0 0) b) = 0) ∧ ¬ (a = b) ∧ ¬ ((G_140 (wF M 633 0 0) h 0 5) = 0) ∧ (G_140 (wF M 633 0 0) ev 1 200) = 0 ∧ (0 ≤ (12 : Int32).toInt ∧ (12 : Int32).toInt < 2314) ∧ v = some (.int (-1)) ∧ M' = (wF M 633 0 0)) ∨ (¬ ((rI M 635 12) = 24) ∧ ¬ ((G_152 (wF M 633 0 0) a) = 0) ∧ ¬ ((G_152 (wF M 633 0 0) b) = 0) ∧ ¬ (a = b) ∧ ¬ ((G_140 (wF M 633 0 0) h 0 5) = 0) ∧ ¬ ((G_140 (wF M 633 0 0) ev 1 200) = 0) ∧ (G_140 (wF M 633 0 0) fi 0 60000) = 0 ∧ (0 ≤ (12 : Int32).toInt ∧ (12 : Int32).toInt < 2314) ∧ v = some (.int (-1)) ∧ M' = (wF M 633 0 0)) ∨ (¬ ((rI M 635 12) = 24) ∧ ¬ ((G_152 (wF M 633 0 0) a) = 0) ∧ ¬ ((G_152 (wF M 633 0 0) b) = 0) ∧ ¬ (a = b) ∧ ¬ ((G_140 (wF M 633 0 0) h 0 5) = 0) ∧ ¬ ((G_140 (wF M 633 0 0) ev 1 200) = 0) ∧ ¬ ((G_140 (wF M 633 0 0) fi 0 60000) = 0) ∧ (0 ≤ (12 : Int32).toInt ∧ (12 : Int32).toInt < 2314) ∧ (0 ≤ (12 : Int32).toInt ∧ (12 : Int32).toInt < 2314) ∧ Ev none e 190 88 [some (.ref 633), some (.int a), some (.int b), some (.int h), some (.int ev), some (.int fi), some (.int (13 + (6 * (rI M 635 12))))] [] (wF M 633 0 0) v M' 0 0) := by
  have H : Ev none e 190 2 [some (.ref 633), some (.int a), some (.int b), some (.int h), some (.int ev), some (.int fi), none] [.int 0, .ref 633] M v M' 0 0 := Ev.back 2 (fun n => rfl) H
  obtain ⟨N2, eN2⟩ : ∃ N, N = (wF M 633 0 0) := ⟨_, rfl⟩
  have hN2 : SQ N2 := by rw [eN2]; exact hS.kf
  have H : Ev none e 190 5 [some (.ref 633), some (.int a), some (.int b), some (.int h), some (.int ev), some (.int fi), none] [] N2 v M' 0 0 := by rw [eN2]; exact Ev.pfi rfl rfl rfl hS.1 qa_633 qi_61_0 H
  have H : Ev none e 190 6 [some (.ref 633), some (.int a), some (.int b), some (.int h), some (.int ev), some (.int fi), none] [.ref 633] N2 v M' 0 0 := Ev.back 1 (fun n => rfl) H
  have H : Ev none e 190 9 [some (.ref 633), some (.int a), some (.int b), some (.int h), some (.int ev), some (.int fi), none] [.ref 635] N2 v M' 0 0 := Ev.back 1 (gs_3 rfl rfl (gf_u hN2.1 qa_633 qr_61_5 qu_63 rfl)) H
  have H : Ev none e 190 11 [some (.ref 633), some (.int a), some (.int b), some (.int h), some (.int ev), some (.int fi), none] [.int 12, .ref 635] N2 v M' 0 0 := Ev.back 1 (fun n => rfl) H
  obtain ⟨b3, H⟩ := Ev.ial rfl rfl hN2.1 qa_635 qw_63 H
  have H : Ev none e 190 12 [some (.ref 633), some (.int a), some (.int b), some (.int h), some (.int ev), some (.int fi), none] [.int (rI N2 635 12)] N2 v M' 0 0 := H
  rw [show rI N2 635 12 = rI M 635 12 from by rw [eN2]; exact rN_wF] at H
  have H : Ev none e 190 (if (rI M 635 12) = 24 then 71 else 17) [some (.ref 633), some (.int a), some (.int b), some (.int h), some (.int ev), some (.int fi), none] [] N2 v M' 0 0 := Ev.back 2 (fun n => rfl) H
  by_cases h4 : (rI M 635 12) = 24
  · rw [if_pos h4] at H
    have H : Ev none e 190 72 [some (.ref 633), some (.int a), some (.int b), some (.int h), some (.int ev), some (.int fi), none] [.int (-1)] N2 v M' 0 0 := Ev.back 1 (fun n => rfl) H
    obtain ⟨z1, z2⟩ := Ev.retz rfl rfl H
    subst eN2
    exact Or.inl ⟨h4, b3, z1, z2⟩
  · rw [if_neg h4] at H
    have H : Ev none e 190 19 [some (.ref 633), some (.int a), some (.int b), some (.int h), some (.int ev), some (.int fi), none] [.int a, .ref 633] N2 v M' 0 0 := Ev.back 2 (fun n => rfl) H
    obtain ⟨e1, rfl⟩ := Ev.dpos rfl rfl H
    obtain ⟨vK5, MK5, K5, H⟩ := Ev.callb (fun n_ => gs_7 rfl rfl (show gCal (.invokevirtual 340) 11 (.int a :: .ref 633 :: []) N2 = some (.inr (152, [some (.ref 633), some (.int a)], [])) from by show @cond (Option ((List Value × Mem) ⊕ (Nat × Lo × List Value))) (true && gRecv N2 (.ref 633) 11 && gRoom [] && true) (some (.inr (152, [some (.ref 633), some (.int a)], []))) none = _; rw [recv_s hN2.1 qa_633 qo_61]; rfl)) H
    obtain ⟨pK5, qK5⟩ := g_152 hN2 K5
    rw [pK5, qK5] at H
    have H : Ev none (e1 + 1) 190 22 [some (.ref 633), some (.int a), some (.int b), some (.int h), some (.int ev), some (.int fi), none] [.int (G_152 N2 a)] N2 v M' 0 0 := H
    have H : Ev none (e1 + 1) 190 (if (G_152 N2 a) = 0 then 71 else 25) [some (.ref 633), some (.int a), some (.int b), some (.int h), some (.int ev), some (.int fi), none] [] N2 v M' 0 0 := Ev.back 1 (fun n => rfl) H
    by_cases h6 : (G_152 N2 a) = 0
    · rw [if_pos h6] at H
      have H : Ev none (e1 + 1) 190 72 [some (.ref 633), some (.int a), some (.int b), some (.int h), some (.int ev), some (.int fi), none] [.int (-1)] N2 v M' 0 0 := Ev.back 1 (fun n => rfl) H
      obtain ⟨z1, z2⟩ := Ev.retz rfl rfl H
      subst eN2
      exact Or.inr (Or.inl ⟨h4, h6, b3, z1, z2⟩)
    · rw [if_neg h6] at H
      have H : Ev none (e1 + 1) 190 27 [some (.ref 633), some (.int a), some (.int b), some (.int h), some (.int ev), some (.int fi), none] [.int b, .ref 633] N2 v M' 0 0 := Ev.back 2 (fun n => rfl) H
      obtain ⟨vK7, MK7, K7, H⟩ := Ev.callb (fun n_ => gs_7 rfl rfl (show gCal (.invokevirtual 340) 11 (.int b :: .ref 633 :: []) N2 = some (.inr (152, [some (.ref 633), some (.int b)], [])) from by show @cond (Option ((List Value × Mem) ⊕ (Nat × Lo × List Value))) (true && gRecv N2 (.ref 633) 11 && gRoom [] && true) (some (.inr (152, [some (.ref 633), some (.int b)], []))) none = _; rw [recv_s hN2.1 qa_633 qo_61]; rfl)) H
      obtain ⟨pK7, qK7⟩ := g_152 hN2 K7
      rw [pK7, qK7] at H
      have H : Ev none (e1 + 1) 190 30 [some (.ref 633), some (.int a), some (.int b), some (.int h), some (.int ev), some (.int fi), none] [.int (G_152 N2 b)] N2 v M' 0 0 := H
      have H : Ev none (e1 + 1) 190 (if (G_152 N2 b) = 0 then 71 else 33) [some (.ref 633), some (.int a), some (.int b), some (.int h), some (.int ev), some (.int fi), none] [] N2 v M' 0 0 := Ev.back 1 (fun n => rfl) H
      by_cases h8 : (G_152 N2 b) = 0
      · rw [if_pos h8] at H
        have H : Ev none (e1 + 1) 190 72 [some (.ref 633), some (.int a), some (.int b), some (.int h), some (.int ev), some (.int fi), none] [.int (-1)] N2 v M' 0 0 := Ev.back 1 (fun n => rfl) H
        obtain ⟨z1, z2⟩ := Ev.retz rfl rfl H
        subst eN2
        exact Or.inr (Or.inr (Or.inl ⟨h4, h6, h8, b3, z1, z2⟩))
      · rw [if_neg h8] at H
        have H : Ev none (e1 + 1) 190 (if a = b then 71 else 38) [some (.ref 633), some (.int a), some (.int b), some (.int h), some (.int ev), some (.int fi), none] [] N2 v M' 0 0 := Ev.back 3 (fun n => rfl) H
        by_cases h9 : a = b
        · rw [if_pos h9] at H
          have H : Ev none (e1 + 1) 190 72 [some (.ref 633), some (.int a), some (.int b), some (.int h), some (.int ev), some (.int fi), none] [.int (-1)] N2 v M' 0 0 := Ev.back 1 (fun n => rfl) H
          obtain ⟨z1, z2⟩ := Ev.retz rfl rfl H
          subst eN2
          exact Or.inr (Or.inr (Or.inr (Or.inl ⟨h4, h6, h8, h9, b3, z1, z2⟩)))
        · rw [if_neg h9] at H
          have H : Ev none (e1 + 1) 190 41 [some (.ref 633), some (.int a), some (.int b), some (.int h), some (.int ev), some (.int fi), none] [.int 5, .int 0, .int h] N2 v M' 0 0 := Ev.back 3 (fun n => rfl) H
          obtain ⟨vK10, MK10, K10, H⟩ := Ev.callb (fun n => rfl) H
          obtain ⟨pK10, qK10⟩ := g_140 hN2 K10
          rw [pK10, qK10] at H
          have H : Ev none (e1 + 1) 190 44 [some (.ref 633), some (.int a), some (.int b), some (.int h), some (.int ev), some (.int fi), none] [.int (G_140 N2 h 0 5)] N2 v M' 0 0 := H
          have H : Ev none (e1 + 1) 190 (if (G_140 N2 h 0 5) = 0 then 71 else 47) [some (.ref 633), some (.int a), some (.int b), some (.int h), some (.int ev), some (.int fi), none] [] N2 v M' 0 0 := Ev.back 1 (fun n => rfl) H
          by_cases h11 : (G_140 N2 h 0 5) = 0
          · rw [if_pos h11] at H
            have H : Ev none (e1 + 1) 190 72 [some (.ref 633), some (.int a), some (.int b), some (.int h), some (.int ev), some (.int fi), none] [.int (-1)] N2 v M' 0 0 := Ev.back 1 (fun n => rfl) H
            obtain ⟨z1, z2⟩ := Ev.retz rfl rfl H
            subst eN2
            exact Or.inr (Or.inr (Or.inr (Or.inr (Or.inl ⟨h4, h6, h8, h9, h11, b3, z1, z2⟩))))
          · rw [if_neg h11] at H
            have H : Ev none (e1 + 1) 190 53 [some (.ref 633), some (.int a), some (.int b), some (.int h), some (.int ev), some (.int fi), none] [.int 200, .int 1, .int ev] N2 v M' 0 0 := Ev.back 3 (fun n => rfl) H
            obtain ⟨vK12, MK12, K12, H⟩ := Ev.callb (fun n => rfl) H
            obtain ⟨pK12, qK12⟩ := g_140 hN2 K12
            rw [pK12, qK12] at H
            have H : Ev none (e1 + 1) 190 56 [some (.ref 633), some (.int a), some (.int b), some (.int h), some (.int ev), some (.int fi), none] [.int (G_140 N2 ev 1 200)] N2 v M' 0 0 := H
            have H : Ev none (e1 + 1) 190 (if (G_140 N2 ev 1 200) = 0 then 71 else 59) [some (.ref 633), some (.int a), some (.int b), some (.int h), some (.int ev), some (.int fi), none] [] N2 v M' 0 0 := Ev.back 1 (fun n => rfl) H
            by_cases h13 : (G_140 N2 ev 1 200) = 0
            · rw [if_pos h13] at H
              have H : Ev none (e1 + 1) 190 72 [some (.ref 633), some (.int a), some (.int b), some (.int h), some (.int ev), some (.int fi), none] [.int (-1)] N2 v M' 0 0 := Ev.back 1 (fun n => rfl) H
              obtain ⟨z1, z2⟩ := Ev.retz rfl rfl H
              subst eN2
              exact Or.inr (Or.inr (Or.inr (Or.inr (Or.inr (Or.inl ⟨h4, h6, h8, h9, h11, h13, b3, z1, z2⟩)))))
            · rw [if_neg h13] at H
              have H : Ev none (e1 + 1) 190 65 [some (.ref 633), some (.int a), some (.int b), some (.int h), some (.int ev), some (.int fi), none] [.int 60000, .int 0, .int fi] N2 v M' 0 0 := Ev.back 3 (fun n => rfl) H
              obtain ⟨vK14, MK14, K14, H⟩ := Ev.callb (fun n => rfl) H
              obtain ⟨pK14, qK14⟩ := g_140 hN2 K14
              rw [pK14, qK14] at H
              have H : Ev none (e1 + 1) 190 68 [some (.ref 633), some (.int a), some (.int b), some (.int h), some (.int ev), some (.int fi), none] [.int (G_140 N2 fi 0 60000)] N2 v M' 0 0 := H
              have H : Ev none (e1 + 1) 190 (if (G_140 N2 fi 0 60000) = 0 then 71 else 73) [some (.ref 633), some (.int a), some (.int b), some (.int h), some (.int ev), some (.int fi), none] [] N2 v M' 0 0 := Ev.back 1 (fun n => rfl) H
              by_cases h15 : (G_140 N2 fi 0 60000) = 0
              · rw [if_pos h15] at H
                have H : Ev none (e1 + 1) 190 72 [some (.ref 633), some (.int a), some (.int b), some (.int h), some (.int ev), some (.int fi), none] [.int (-1)] N2 v M' 0 0 := Ev.back 1 (fun n => rfl) H
                obtain ⟨z1, z2⟩ := Ev.retz rfl rfl H
                subst eN2
                exact Or.inr (Or.inr (Or.inr (Or.inr (Or.inr (Or.inr (Or.inl ⟨h4, h6, h8, h9, h11, h13, h15, b3, z1, z2⟩))))))
              · rw [if_neg h15] at H
                have H : Ev none (e1 + 1) 190 78 [some (.ref 633), some (.int a), some (.int b), some (.int h), some (.int ev), some (.int fi), none] [.ref 633, .int 6, .int 13] N2 v M' 0 0 := Ev.back 3 (fun n => rfl) H
                have H : Ev none (e1 + 1) 190 81 [some (.ref 633), some (.int a), some (.int b), some (.int h), some (.int ev), some (.int fi), none] [.ref 635, .int 6, .int 13] N2 v M' 0 0 := Ev.back 1 (gs_3 rfl rfl (gf_u hN2.1 qa_633 qr_61_5 qu_63 rfl)) H
                have H : Ev none (e1 + 1) 190 83 [some (.ref 633), some (.int a), some (.int b), some (.int h), some (.int ev), some (.int fi), none] [.int 12, .ref 635, .int 6, .int 13] N2 v M' 0 0 := Ev.back 1 (fun n => rfl) H
                obtain ⟨b16, H⟩ := Ev.ial rfl rfl hN2.1 qa_635 qw_63 H
                have H : Ev none (e1 + 1) 190 84 [some (.ref 633), some (.int a), some (.int b), some (.int h), some (.int ev), some (.int fi), none] [.int (rI N2 635 12), .int 6, .int 13] N2 v M' 0 0 := H
                rw [show rI N2 635 12 = rI M 635 12 from by rw [eN2]; exact rN_wF] at H
                have H : Ev none (e1 + 1) 190 88 [some (.ref 633), some (.int a), some (.int b), some (.int h), some (.int ev), some (.int fi), some (.int (13 + (6 * (rI M 635 12))))] [] N2 v M' 0 0 := Ev.back 3 (fun n => rfl) H
                have HF := H
                subst eN2
                exact Or.inr (Or.inr (Or.inr (Or.inr (Or.inr (Or.inr (Or.inr (⟨h4, h6, h8, h9, h11, h13, h15, b3, b16, HF⟩)))))))
theorem rwi_88 {e : Nat} {M M' : Mem} {v : Option Value} {a b h ev fi kx : Int32} (hS : SQ M) (H : Ev none e 190 88 [some (.ref 633), some (.int a), some (.int b), some (.int h), some (.int ev), some (.int fi), some (.int kx)] [] M v M' 0 0) : (0 ≤ kx.toInt ∧ kx.toInt < 2314) ∧ Ev none e 190 96 [some (.ref 633), some (.int a), some (.int b), some (.int h), some (.int ev), some (.int fi), some (.int kx)] [] (wI M 635 kx.toNatClampNeg a) v M' 0 0 := by
  have H : Ev none e 190 89 [some (.ref 633), some (.int a), some (.int b), some (.int h), some (.int ev), some (.int fi), some (.int kx)] [.ref 633] M v M' 0 0 := Ev.back 1 (fun n => rfl) H
  have H : Ev none e 190 92 [some (.ref 633), some (.int a), some (.int b), some (.int h), some (.int ev), some (.int fi), some (.int kx)] [.ref 635] M v M' 0 0 := Ev.back 1 (gs_3 rfl rfl (gf_u hS.1 qa_633 qr_61_5 qu_63 rfl)) H
  have H : Ev none e 190 95 [some (.ref 633), some (.int a), some (.int b), some (.int h), some (.int ev), some (.int fi), some (.int kx)] [.int a, .int kx, .ref 635] M v M' 0 0 := Ev.back 2 (fun n => rfl) H
  obtain ⟨b1, H⟩ := Ev.ias rfl rfl hS.1 qa_635 qw_63 H
  obtain ⟨N2, eN2⟩ : ∃ N, N = (wI M 635 kx.toNatClampNeg a) := ⟨_, rfl⟩
  have hN2 : SQ N2 := by rw [eN2]; exact hS.ki
  have H : Ev none e 190 96 [some (.ref 633), some (.int a), some (.int b), some (.int h), some (.int ev), some (.int fi), some (.int kx)] [] N2 v M' 0 0 := by rw [eN2]; exact H
  have HF := H
  subst eN2
  exact ⟨b1, HF⟩
theorem rwi_96 {e : Nat} {M M' : Mem} {v : Option Value} {a b h ev fi kx : Int32} (hS : SQ M) (H : Ev none e 190 96 [some (.ref 633), some (.int a), some (.int b), some (.int h), some (.int ev), some (.int fi), some (.int kx)] [] M v M' 0 0) : (0 ≤ (kx + 1).toInt ∧ (kx + 1).toInt < 2314) ∧ Ev none e 190 106 [some (.ref 633), some (.int a), some (.int b), some (.int h), some (.int ev), some (.int fi), some (.int kx)] [] (wI M 635 ((kx + 1).toNatClampNeg) b) v M' 0 0 := by
  have H : Ev none e 190 97 [some (.ref 633), some (.int a), some (.int b), some (.int h), some (.int ev), some (.int fi), some (.int kx)] [.ref 633] M v M' 0 0 := Ev.back 1 (fun n => rfl) H
  have H : Ev none e 190 100 [some (.ref 633), some (.int a), some (.int b), some (.int h), some (.int ev), some (.int fi), some (.int kx)] [.ref 635] M v M' 0 0 := Ev.back 1 (gs_3 rfl rfl (gf_u hS.1 qa_633 qr_61_5 qu_63 rfl)) H
  have H : Ev none e 190 105 [some (.ref 633), some (.int a), some (.int b), some (.int h), some (.int ev), some (.int fi), some (.int kx)] [.int b, .int (kx + 1), .ref 635] M v M' 0 0 := Ev.back 4 (fun n => rfl) H
  obtain ⟨b1, H⟩ := Ev.ias rfl rfl hS.1 qa_635 qw_63 H
  obtain ⟨N2, eN2⟩ : ∃ N, N = (wI M 635 ((kx + 1).toNatClampNeg) b) := ⟨_, rfl⟩
  have hN2 : SQ N2 := by rw [eN2]; exact hS.ki
  have H : Ev none e 190 106 [some (.ref 633), some (.int a), some (.int b), some (.int h), some (.int ev), some (.int fi), some (.int kx)] [] N2 v M' 0 0 := by rw [eN2]; exact H
  have HF := H
  subst eN2
  exact ⟨b1, HF⟩
theorem rwi_106 {e : Nat} {M M' : Mem} {v : Option Value} {a b h ev fi kx : Int32} (hS : SQ M) (H : Ev none e 190 106 [some (.ref 633), some (.int a), some (.int b), some (.int h), some (.int ev), some (.int fi), some (.int kx)] [] M v M' 0 0) : (0 ≤ (kx + 2).toInt ∧ (kx + 2).toInt < 2314) ∧ Ev none e 190 116 [some (.ref 633), some (.int a), some (.int b), some (.int h), some (.int ev), some (.int fi), some (.int kx)] [] (wI M 635 ((kx + 2).toNatClampNeg) h) v M' 0 0 := by
  have H : Ev none e 190 107 [some (.ref 633), some (.int a), some (.int b), some (.int h), some (.int ev), some (.int fi), some (.int kx)] [.ref 633] M v M' 0 0 := Ev.back 1 (fun n => rfl) H
  have H : Ev none e 190 110 [some (.ref 633), some (.int a), some (.int b), some (.int h), some (.int ev), some (.int fi), some (.int kx)] [.ref 635] M v M' 0 0 := Ev.back 1 (gs_3 rfl rfl (gf_u hS.1 qa_633 qr_61_5 qu_63 rfl)) H
  have H : Ev none e 190 115 [some (.ref 633), some (.int a), some (.int b), some (.int h), some (.int ev), some (.int fi), some (.int kx)] [.int h, .int (kx + 2), .ref 635] M v M' 0 0 := Ev.back 4 (fun n => rfl) H
  obtain ⟨b1, H⟩ := Ev.ias rfl rfl hS.1 qa_635 qw_63 H
  obtain ⟨N2, eN2⟩ : ∃ N, N = (wI M 635 ((kx + 2).toNatClampNeg) h) := ⟨_, rfl⟩
  have hN2 : SQ N2 := by rw [eN2]; exact hS.ki
  have H : Ev none e 190 116 [some (.ref 633), some (.int a), some (.int b), some (.int h), some (.int ev), some (.int fi), some (.int kx)] [] N2 v M' 0 0 := by rw [eN2]; exact H
  have HF := H
  subst eN2
  exact ⟨b1, HF⟩
theorem rwi_116 {e : Nat} {M M' : Mem} {v : Option Value} {a b h ev fi kx : Int32} (hS : SQ M) (H : Ev none e 190 116 [some (.ref 633), some (.int a), some (.int b), some (.int h), some (.int ev), some (.int fi), some (.int kx)] [] M v M' 0 0) : (0 ≤ (kx + 3).toInt ∧ (kx + 3).toInt < 2314) ∧ Ev none e 190 127 [some (.ref 633), some (.int a), some (.int b), some (.int h), some (.int ev), some (.int fi), some (.int kx)] [] (wI M 635 ((kx + 3).toNatClampNeg) ev) v M' 0 0 := by
  have H : Ev none e 190 117 [some (.ref 633), some (.int a), some (.int b), some (.int h), some (.int ev), some (.int fi), some (.int kx)] [.ref 633] M v M' 0 0 := Ev.back 1 (fun n => rfl) H
  have H : Ev none e 190 120 [some (.ref 633), some (.int a), some (.int b), some (.int h), some (.int ev), some (.int fi), some (.int kx)] [.ref 635] M v M' 0 0 := Ev.back 1 (gs_3 rfl rfl (gf_u hS.1 qa_633 qr_61_5 qu_63 rfl)) H
  have H : Ev none e 190 126 [some (.ref 633), some (.int a), some (.int b), some (.int h), some (.int ev), some (.int fi), some (.int kx)] [.int ev, .int (kx + 3), .ref 635] M v M' 0 0 := Ev.back 4 (fun n => rfl) H
  obtain ⟨b1, H⟩ := Ev.ias rfl rfl hS.1 qa_635 qw_63 H
  obtain ⟨N2, eN2⟩ : ∃ N, N = (wI M 635 ((kx + 3).toNatClampNeg) ev) := ⟨_, rfl⟩
  have hN2 : SQ N2 := by rw [eN2]; exact hS.ki
  have H : Ev none e 190 127 [some (.ref 633), some (.int a), some (.int b), some (.int h), some (.int ev), some (.int fi), some (.int kx)] [] N2 v M' 0 0 := by rw [eN2]; exact H
  have HF := H
  subst eN2
  exact ⟨b1, HF⟩
theorem rwi_127 {e : Nat} {M M' : Mem} {v : Option Value} {a b h ev fi kx : Int32} (hS : SQ M) (H : Ev none e 190 127 [some (.ref 633), some (.int a), some (.int b), some (.int h), some (.int ev), some (.int fi), some (.int kx)] [] M v M' 0 0) : (0 ≤ (kx + 4).toInt ∧ (kx + 4).toInt < 2314) ∧ Ev none e 190 138 [some (.ref 633), some (.int a), some (.int b), some (.int h), some (.int ev), some (.int fi), some (.int kx)] [] (wI M 635 ((kx + 4).toNatClampNeg) fi) v M' 0 0 := by
  have H : Ev none e 190 128 [some (.ref 633), some (.int a), some (.int b), some (.int h), some (.int ev), some (.int fi), some (.int kx)] [.ref 633] M v M' 0 0 := Ev.back 1 (fun n => rfl) H
  have H : Ev none e 190 131 [some (.ref 633), some (.int a), some (.int b), some (.int h), some (.int ev), some (.int fi), some (.int kx)] [.ref 635] M v M' 0 0 := Ev.back 1 (gs_3 rfl rfl (gf_u hS.1 qa_633 qr_61_5 qu_63 rfl)) H
  have H : Ev none e 190 137 [some (.ref 633), some (.int a), some (.int b), some (.int h), some (.int ev), some (.int fi), some (.int kx)] [.int fi, .int (kx + 4), .ref 635] M v M' 0 0 := Ev.back 4 (fun n => rfl) H
  obtain ⟨b1, H⟩ := Ev.ias rfl rfl hS.1 qa_635 qw_63 H
  obtain ⟨N2, eN2⟩ : ∃ N, N = (wI M 635 ((kx + 4).toNatClampNeg) fi) := ⟨_, rfl⟩
  have hN2 : SQ N2 := by rw [eN2]; exact hS.ki
  have H : Ev none e 190 138 [some (.ref 633), some (.int a), some (.int b), some (.int h), some (.int ev), some (.int fi), some (.int kx)] [] N2 v M' 0 0 := by rw [eN2]; exact H
  have HF := H
  subst eN2
  exact ⟨b1, HF⟩
theorem rwi_138 {e : Nat} {M M' : Mem} {v : Option Value} {a b h ev fi kx : Int32} (hS : SQ M) (H : Ev none e 190 138 [some (.ref 633), some (.int a), some (.int b), some (.int h), some (.int ev), some (.int fi), some (.int kx)] [] M v M' 0 0) : (0 ≤ (kx + 5).toInt ∧ (kx + 5).toInt < 2314) ∧ Ev none e 190 148 [some (.ref 633), some (.int a), some (.int b), some (.int h), some (.int ev), some (.int fi), some (.int kx)] [] (wI M 635 ((kx + 5).toNatClampNeg) 1) v M' 0 0 := by
  have H : Ev none e 190 139 [some (.ref 633), some (.int a), some (.int b), some (.int h), some (.int ev), some (.int fi), some (.int kx)] [.ref 633] M v M' 0 0 := Ev.back 1 (fun n => rfl) H
  have H : Ev none e 190 142 [some (.ref 633), some (.int a), some (.int b), some (.int h), some (.int ev), some (.int fi), some (.int kx)] [.ref 635] M v M' 0 0 := Ev.back 1 (gs_3 rfl rfl (gf_u hS.1 qa_633 qr_61_5 qu_63 rfl)) H
  have H : Ev none e 190 147 [some (.ref 633), some (.int a), some (.int b), some (.int h), some (.int ev), some (.int fi), some (.int kx)] [.int 1, .int (kx + 5), .ref 635] M v M' 0 0 := Ev.back 4 (fun n => rfl) H
  obtain ⟨b1, H⟩ := Ev.ias rfl rfl hS.1 qa_635 qw_63 H
  obtain ⟨N2, eN2⟩ : ∃ N, N = (wI M 635 ((kx + 5).toNatClampNeg) 1) := ⟨_, rfl⟩
  have hN2 : SQ N2 := by rw [eN2]; exact hS.ki
  have H : Ev none e 190 148 [some (.ref 633), some (.int a), some (.int b), some (.int h), some (.int ev), some (.int fi), some (.int kx)] [] N2 v M' 0 0 := by rw [eN2]; exact H
  have HF := H
  subst eN2
  exact ⟨b1, HF⟩
theorem rwi_148 {e : Nat} {M M' : Mem} {v : Option Value} {a b h ev fi kx : Int32} (hS : SQ M) (H : Ev none e 190 148 [some (.ref 633), some (.int a), some (.int b), some (.int h), some (.int ev), some (.int fi), some (.int kx)] [] M v M' 0 0) : (0 ≤ (12 : Int32).toInt ∧ (12 : Int32).toInt < 2314) ∧ (0 ≤ (12 : Int32).toInt ∧ (12 : Int32).toInt < 2314) ∧ Ev none e 190 159 [some (.ref 633), some (.int a), some (.int b), some (.int h), some (.int ev), some (.int fi), some (.int kx)] [] (wI M 635 ((12 : Int32).toNatClampNeg) ((rI M 635 12) + 1)) v M' 0 0 := by
  have H : Ev none e 190 149 [some (.ref 633), some (.int a), some (.int b), some (.int h), some (.int ev), some (.int fi), some (.int kx)] [.ref 633] M v M' 0 0 := Ev.back 1 (fun n => rfl) H
  have H : Ev none e 190 152 [some (.ref 633), some (.int a), some (.int b), some (.int h), some (.int ev), some (.int fi), some (.int kx)] [.ref 635] M v M' 0 0 := Ev.back 1 (gs_3 rfl rfl (gf_u hS.1 qa_633 qr_61_5 qu_63 rfl)) H
  have H : Ev none e 190 155 [some (.ref 633), some (.int a), some (.int b), some (.int h), some (.int ev), some (.int fi), some (.int kx)] [.int 12, .ref 635, .int 12, .ref 635] M v M' 0 0 := Ev.back 2 (fun n => rfl) H
  obtain ⟨b1, H⟩ := Ev.ial rfl rfl hS.1 qa_635 qw_63 H
  have H : Ev none e 190 156 [some (.ref 633), some (.int a), some (.int b), some (.int h), some (.int ev), some (.int fi), some (.int kx)] [.int (rI M 635 12), .int 12, .ref 635] M v M' 0 0 := H
  have H : Ev none e 190 158 [some (.ref 633), some (.int a), some (.int b), some (.int h), some (.int ev), some (.int fi), some (.int kx)] [.int ((rI M 635 12) + 1), .int 12, .ref 635] M v M' 0 0 := Ev.back 2 (fun n => rfl) H
  obtain ⟨b2, H⟩ := Ev.ias rfl rfl hS.1 qa_635 qw_63 H
  obtain ⟨N3, eN3⟩ : ∃ N, N = (wI M 635 ((12 : Int32).toNatClampNeg) ((rI M 635 12) + 1)) := ⟨_, rfl⟩
  have hN3 : SQ N3 := by rw [eN3]; exact hS.ki
  have H : Ev none e 190 159 [some (.ref 633), some (.int a), some (.int b), some (.int h), some (.int ev), some (.int fi), some (.int kx)] [] N3 v M' 0 0 := by rw [eN3]; exact H
  have HF := H
  subst eN3
  exact ⟨b1, b2, HF⟩
theorem rwi_159 {e : Nat} {M M' : Mem} {v : Option Value} {a b h ev fi kx : Int32} (hS : SQ M) (H : Ev none e 190 159 [some (.ref 633), some (.int a), some (.int b), some (.int h), some (.int ev), some (.int fi), some (.int kx)] [] M v M' 0 0) : (0 ≤ (12 : Int32).toInt ∧ (12 : Int32).toInt < 2314) ∧ v = some (.int ((rI M 635 12) - 1)) ∧ M' = M := by
  have H : Ev none e 190 160 [some (.ref 633), some (.int a), some (.int b), some (.int h), some (.int ev), some (.int fi), some (.int kx)] [.ref 633] M v M' 0 0 := Ev.back 1 (fun n => rfl) H
  have H : Ev none e 190 163 [some (.ref 633), some (.int a), some (.int b), some (.int h), some (.int ev), some (.int fi), some (.int kx)] [.ref 635] M v M' 0 0 := Ev.back 1 (gs_3 rfl rfl (gf_u hS.1 qa_633 qr_61_5 qu_63 rfl)) H
  have H : Ev none e 190 165 [some (.ref 633), some (.int a), some (.int b), some (.int h), some (.int ev), some (.int fi), some (.int kx)] [.int 12, .ref 635] M v M' 0 0 := Ev.back 1 (fun n => rfl) H
  obtain ⟨b1, H⟩ := Ev.ial rfl rfl hS.1 qa_635 qw_63 H
  have H : Ev none e 190 166 [some (.ref 633), some (.int a), some (.int b), some (.int h), some (.int ev), some (.int fi), some (.int kx)] [.int (rI M 635 12)] M v M' 0 0 := H
  have H : Ev none e 190 168 [some (.ref 633), some (.int a), some (.int b), some (.int h), some (.int ev), some (.int fi), some (.int kx)] [.int ((rI M 635 12) - 1)] M v M' 0 0 := Ev.back 2 (fun n => rfl) H
  obtain ⟨z1, z2⟩ := Ev.retz rfl rfl H
  exact ⟨b1, z1, z2⟩
theorem rdr_0 {e : Nat} {M M' : Mem} {v : Option Value} {k : Int32} (hS : SQ M) (H : Ev none e 191 0 [some (.ref 633), some (.int k)] [] M v M' 0 0) : ((G_189 (wF M 633 0 0) k) = 0 ∧ v = some (.int 0) ∧ M' = (wF M 633 0 0)) ∨ (¬ ((G_189 (wF M 633 0 0) k) = 0) ∧ (0 ≤ ((13 + (6 * k)) + 5).toInt ∧ ((13 + (6 * k)) + 5).toInt < 2314) ∧ v = some (.int 1) ∧ M' = (wI (wF M 633 0 0) 635 (((13 + (6 * k)) + 5).toNatClampNeg) 0)) := by
  have H : Ev none e 191 2 [some (.ref 633), some (.int k)] [.int 0, .ref 633] M v M' 0 0 := Ev.back 2 (fun n => rfl) H
  obtain ⟨N2, eN2⟩ : ∃ N, N = (wF M 633 0 0) := ⟨_, rfl⟩
  have hN2 : SQ N2 := by rw [eN2]; exact hS.kf
  have H : Ev none e 191 5 [some (.ref 633), some (.int k)] [] N2 v M' 0 0 := by rw [eN2]; exact Ev.pfi rfl rfl rfl hS.1 qa_633 qi_61_0 H
  have H : Ev none e 191 7 [some (.ref 633), some (.int k)] [.int k, .ref 633] N2 v M' 0 0 := Ev.back 2 (fun n => rfl) H
  obtain ⟨e1, rfl⟩ := Ev.dpos rfl rfl H
  obtain ⟨vK3, MK3, K3, H⟩ := Ev.callb (fun n_ => gs_7 rfl rfl (show gCal (.invokevirtual 344) 11 (.int k :: .ref 633 :: []) N2 = some (.inr (189, [some (.ref 633), some (.int k)], [])) from by show @cond (Option ((List Value × Mem) ⊕ (Nat × Lo × List Value))) (true && gRecv N2 (.ref 633) 11 && gRoom [] && true) (some (.inr (189, [some (.ref 633), some (.int k)], []))) none = _; rw [recv_s hN2.1 qa_633 qo_61]; rfl)) H
  obtain ⟨pK3, qK3⟩ := g_189 hN2 K3
  rw [pK3, qK3] at H
  have H : Ev none (e1 + 1) 191 10 [some (.ref 633), some (.int k)] [.int (G_189 N2 k)] N2 v M' 0 0 := H
  have H : Ev none (e1 + 1) 191 (if (G_189 N2 k) = 0 then 13 else 15) [some (.ref 633), some (.int k)] [] N2 v M' 0 0 := Ev.back 1 (fun n => rfl) H
  by_cases h4 : (G_189 N2 k) = 0
  · rw [if_pos h4] at H
    have H : Ev none (e1 + 1) 191 14 [some (.ref 633), some (.int k)] [.int 0] N2 v M' 0 0 := Ev.back 1 (fun n => rfl) H
    obtain ⟨z1, z2⟩ := Ev.retz rfl rfl H
    subst eN2
    exact Or.inl ⟨h4, z1, z2⟩
  · rw [if_neg h4] at H
    have H : Ev none (e1 + 1) 191 16 [some (.ref 633), some (.int k)] [.ref 633] N2 v M' 0 0 := Ev.back 1 (fun n => rfl) H
    have H : Ev none (e1 + 1) 191 19 [some (.ref 633), some (.int k)] [.ref 635] N2 v M' 0 0 := Ev.back 1 (gs_3 rfl rfl (gf_u hN2.1 qa_633 qr_61_5 qu_63 rfl)) H
    have H : Ev none (e1 + 1) 191 29 [some (.ref 633), some (.int k)] [.int 0, .int ((13 + (6 * k)) + 5), .ref 635] N2 v M' 0 0 := Ev.back 8 (fun n => rfl) H
    obtain ⟨b5, H⟩ := Ev.ias rfl rfl hN2.1 qa_635 qw_63 H
    obtain ⟨N6, eN6⟩ : ∃ N, N = (wI N2 635 (((13 + (6 * k)) + 5).toNatClampNeg) 0) := ⟨_, rfl⟩
    have hN6 : SQ N6 := by rw [eN6]; exact hN2.ki
    have H : Ev none (e1 + 1) 191 30 [some (.ref 633), some (.int k)] [] N6 v M' 0 0 := by rw [eN6]; exact H
    have H : Ev none (e1 + 1) 191 31 [some (.ref 633), some (.int k)] [.int 1] N6 v M' 0 0 := Ev.back 1 (fun n => rfl) H
    obtain ⟨z1, z2⟩ := Ev.retz rfl rfl H
    subst eN2 eN6
    exact Or.inr (⟨h4, b5, z1, z2⟩)
theorem rrn_0 {e : Nat} {M M' : Mem} {v : Option Value} {t : Int32} (hS : SQ M) (H : Ev none e 207 0 [some (.ref 633), some (.int t), none] [] M v M' 0 0) : ((G_140 (wF M 633 0 0) t 1 400) = 0 ∧ v = some (.int (-1)) ∧ M' = (wF M 633 0 0)) ∨ (¬ ((G_140 (wF M 633 0 0) t 1 400) = 0) ∧ ((rI M 635 518) + t) ≤ 60000 ∧ (0 ≤ (518 : Int32).toInt ∧ (518 : Int32).toInt < 2314) ∧ Ev none e 207 41 [some (.ref 633), some (.int t), some (.int 0)] [] (wF (wF M 633 0 0) 633 41 0) v M' 0 0) ∨ (¬ ((G_140 (wF M 633 0 0) t 1 400) = 0) ∧ ¬ (((rI M 635 518) + t) ≤ 60000) ∧ (0 ≤ (518 : Int32).toInt ∧ (518 : Int32).toInt < 2314) ∧ v = some (.int (-1)) ∧ M' = (wF M 633 0 0)) := by
  have H : Ev none e 207 2 [some (.ref 633), some (.int t), none] [.int 0, .ref 633] M v M' 0 0 := Ev.back 2 (fun n => rfl) H
  obtain ⟨N2, eN2⟩ : ∃ N, N = (wF M 633 0 0) := ⟨_, rfl⟩
  have hN2 : SQ N2 := by rw [eN2]; exact hS.kf
  have H : Ev none e 207 5 [some (.ref 633), some (.int t), none] [] N2 v M' 0 0 := by rw [eN2]; exact Ev.pfi rfl rfl rfl hS.1 qa_633 qi_61_0 H
  have H : Ev none e 207 10 [some (.ref 633), some (.int t), none] [.int 400, .int 1, .int t] N2 v M' 0 0 := Ev.back 3 (fun n => rfl) H
  obtain ⟨e1, rfl⟩ := Ev.dpos rfl rfl H
  obtain ⟨vK3, MK3, K3, H⟩ := Ev.callb (fun n => rfl) H
  obtain ⟨pK3, qK3⟩ := g_140 hN2 K3
  rw [pK3, qK3] at H
  have H : Ev none (e1 + 1) 207 13 [some (.ref 633), some (.int t), none] [.int (G_140 N2 t 1 400)] N2 v M' 0 0 := H
  have H : Ev none (e1 + 1) 207 (if (G_140 N2 t 1 400) = 0 then 32 else 16) [some (.ref 633), some (.int t), none] [] N2 v M' 0 0 := Ev.back 1 (fun n => rfl) H
  by_cases h4 : (G_140 N2 t 1 400) = 0
  · rw [if_pos h4] at H
    have H : Ev none (e1 + 1) 207 33 [some (.ref 633), some (.int t), none] [.int (-1)] N2 v M' 0 0 := Ev.back 1 (fun n => rfl) H
    obtain ⟨z1, z2⟩ := Ev.retz rfl rfl H
    subst eN2
    exact Or.inl ⟨h4, z1, z2⟩
  · rw [if_neg h4] at H
    have H : Ev none (e1 + 1) 207 17 [some (.ref 633), some (.int t), none] [.ref 633] N2 v M' 0 0 := Ev.back 1 (fun n => rfl) H
    have H : Ev none (e1 + 1) 207 20 [some (.ref 633), some (.int t), none] [.ref 635] N2 v M' 0 0 := Ev.back 1 (gs_3 rfl rfl (gf_u hN2.1 qa_633 qr_61_5 qu_63 rfl)) H
    have H : Ev none (e1 + 1) 207 23 [some (.ref 633), some (.int t), none] [.int 518, .ref 635] N2 v M' 0 0 := Ev.back 1 (fun n => rfl) H
    obtain ⟨b5, H⟩ := Ev.ial rfl rfl hN2.1 qa_635 qw_63 H
    have H : Ev none (e1 + 1) 207 24 [some (.ref 633), some (.int t), none] [.int (rI N2 635 518)] N2 v M' 0 0 := H
    rw [show rI N2 635 518 = rI M 635 518 from by rw [eN2]; exact rN_wF] at H
    have H : Ev none (e1 + 1) 207 (if ((rI M 635 518) + t) ≤ 60000 then 34 else 32) [some (.ref 633), some (.int t), none] [] N2 v M' 0 0 := Ev.back 4 (fun n => rfl) H
    by_cases h6 : ((rI M 635 518) + t) ≤ 60000
    · rw [if_pos h6] at H
      have H : Ev none (e1 + 1) 207 36 [some (.ref 633), some (.int t), none] [.int 0, .ref 633] N2 v M' 0 0 := Ev.back 2 (fun n => rfl) H
      obtain ⟨N8, eN8⟩ : ∃ N, N = (wF N2 633 41 0) := ⟨_, rfl⟩
      have hN8 : SQ N8 := by rw [eN8]; exact hN2.kf
      have H : Ev none (e1 + 1) 207 39 [some (.ref 633), some (.int t), none] [] N8 v M' 0 0 := by rw [eN8]; exact Ev.pfi rfl rfl rfl hN2.1 qa_633 qi_61_41 H
      have H : Ev none (e1 + 1) 207 41 [some (.ref 633), some (.int t), some (.int 0)] [] N8 v M' 0 0 := Ev.back 2 (fun n => rfl) H
      have HF := H
      subst eN2 eN8
      exact Or.inr (Or.inl ⟨h4, h6, b5, HF⟩)
    · rw [if_neg h6] at H
      have H : Ev none (e1 + 1) 207 33 [some (.ref 633), some (.int t), none] [.int (-1)] N2 v M' 0 0 := Ev.back 1 (fun n => rfl) H
      obtain ⟨z1, z2⟩ := Ev.retz rfl rfl H
      subst eN2
      exact Or.inr (Or.inr (⟨h4, h6, b5, z1, z2⟩))
theorem rrn_41 {e : Nat} {M M' : Mem} {v : Option Value} {t i : Int32} (hS : SQ M) (H : Ev none e 207 41 [some (.ref 633), some (.int t), some (.int i)] [] M v M' 0 0) : (t ≤ i ∧ v = some (.int (zI M 633 41)) ∧ M' = M) ∨ (¬ (t ≤ i) ∧ (∃ e1 v1 M1, e = e1 + 1 ∧ Ev none e1 204 0 [some (.ref 633), none, none, none] [] M v1 M1 0 0 ∧ Ev none e 207 50 [some (.ref 633), some (.int t), some (.int i)] (v1.toList ++ []) M1 v M' 0 0)) := by
  have H : Ev none e 207 (if t ≤ i then 56 else 46) [some (.ref 633), some (.int t), some (.int i)] [] M v M' 0 0 := Ev.back 3 (fun n => rfl) H
  by_cases h1 : t ≤ i
  · rw [if_pos h1] at H
    have H : Ev none e 207 57 [some (.ref 633), some (.int t), some (.int i)] [.ref 633] M v M' 0 0 := Ev.back 1 (fun n => rfl) H
    have H : Ev none e 207 60 [some (.ref 633), some (.int t), some (.int i)] [.int (zI M 633 41)] M v M' 0 0 := Ev.back 1 (gs_3 rfl rfl (gf_i hS.1 qa_633 qi_61_41 rfl)) H
    obtain ⟨z1, z2⟩ := Ev.retz rfl rfl H
    exact Or.inl ⟨h1, z1, z2⟩
  · rw [if_neg h1] at H
    have H : Ev none e 207 47 [some (.ref 633), some (.int t), some (.int i)] [.ref 633] M v M' 0 0 := Ev.back 1 (fun n => rfl) H
    obtain ⟨e1, rfl⟩ := Ev.dpos rfl rfl H
    obtain ⟨vK2, MK2, K2, H⟩ := Ev.callb (fun n_ => gs_7 rfl rfl (show gCal (.invokevirtual 423) 11 (.ref 633 :: []) M = some (.inr (204, [some (.ref 633), none, none, none], [])) from by show @cond (Option ((List Value × Mem) ⊕ (Nat × Lo × List Value))) (true && gRecv M (.ref 633) 11 && gRoom [] && true) (some (.inr (204, [some (.ref 633), none, none, none], []))) none = _; rw [recv_s hS.1 qa_633 qo_61]; rfl)) H
    have K2 : Ev none e1 204 0 [some (.ref 633), none, none, none] [] M vK2 MK2 0 0 := K2
    have HF := H
    exact Or.inr (⟨h1, ⟨e1, vK2, MK2, rfl, K2, HF⟩⟩)
theorem rrn_50 {e : Nat} {M M' : Mem} {v : Option Value} {t i : Int32} (hS : SQ M) (H : Ev none e 207 50 [some (.ref 633), some (.int t), some (.int i)] [] M v M' 0 0) : Ev none e 207 41 [some (.ref 633), some (.int t), some (.int (i + 1))] [] M v M' 0 0 := by
  have H : Ev none e 207 41 [some (.ref 633), some (.int t), some (.int (i + 1))] [] M v M' 0 0 := Ev.back 2 (fun n => rfl) H
  have HF := H
  exact HF
theorem rwq_0 {e : Nat} {M M' : Mem} {v : Option Value} (hS : SQ M) (H : Ev none e 209 0 [some (.ref 633)] [] M v M' 0 0) : (∃ e1 v1 M1, e = e1 + 1 ∧ Ev none e1 208 0 [some (.ref 633), none, none, none] [] (wF M 633 0 0) v1 M1 0 0 ∧ Ev none e 209 9 [some (.ref 633)] (v1.toList ++ []) M1 v M' 0 0) := by
  have H : Ev none e 209 2 [some (.ref 633)] [.int 0, .ref 633] M v M' 0 0 := Ev.back 2 (fun n => rfl) H
  obtain ⟨N2, eN2⟩ : ∃ N, N = (wF M 633 0 0) := ⟨_, rfl⟩
  have hN2 : SQ N2 := by rw [eN2]; exact hS.kf
  have H : Ev none e 209 5 [some (.ref 633)] [] N2 v M' 0 0 := by rw [eN2]; exact Ev.pfi rfl rfl rfl hS.1 qa_633 qi_61_0 H
  have H : Ev none e 209 6 [some (.ref 633)] [.ref 633] N2 v M' 0 0 := Ev.back 1 (fun n => rfl) H
  obtain ⟨e1, rfl⟩ := Ev.dpos rfl rfl H
  obtain ⟨vK3, MK3, K3, H⟩ := Ev.callb (fun n_ => gs_7 rfl rfl (show gCal (.invokevirtual 426) 11 (.ref 633 :: []) N2 = some (.inr (208, [some (.ref 633), none, none, none], [])) from by show @cond (Option ((List Value × Mem) ⊕ (Nat × Lo × List Value))) (true && gRecv N2 (.ref 633) 11 && gRoom [] && true) (some (.inr (208, [some (.ref 633), none, none, none], []))) none = _; rw [recv_s hN2.1 qa_633 qo_61]; rfl)) H
  have K3 : Ev none e1 208 0 [some (.ref 633), none, none, none] [] N2 vK3 MK3 0 0 := K3
  have HF := H
  subst eN2
  exact ⟨e1, vK3, MK3, rfl, K3, HF⟩
theorem rwq_9 {e : Nat} {M M' : Mem} {v : Option Value} (hS : SQ M) (H : Ev none e 209 9 [some (.ref 633)] [] M v M' 0 0) : (∃ e1 v1 M1, e = e1 + 1 ∧ Ev none e1 216 0 [some (.ref 633), none, none] [] M v1 M1 0 0 ∧ Ev none e 209 13 [some (.ref 633)] (v1.toList ++ []) M1 v M' 0 0) := by
  have H : Ev none e 209 10 [some (.ref 633)] [.ref 633] M v M' 0 0 := Ev.back 1 (fun n => rfl) H
  obtain ⟨e1, rfl⟩ := Ev.dpos rfl rfl H
  obtain ⟨vK1, MK1, K1, H⟩ := Ev.callb (fun n_ => gs_7 rfl rfl (show gCal (.invokevirtual 429) 11 (.ref 633 :: []) M = some (.inr (216, [some (.ref 633), none, none], [])) from by show @cond (Option ((List Value × Mem) ⊕ (Nat × Lo × List Value))) (true && gRecv M (.ref 633) 11 && gRoom [] && true) (some (.inr (216, [some (.ref 633), none, none], []))) none = _; rw [recv_s hS.1 qa_633 qo_61]; rfl)) H
  have K1 : Ev none e1 216 0 [some (.ref 633), none, none] [] M vK1 MK1 0 0 := K1
  have HF := H
  exact ⟨e1, vK1, MK1, rfl, K1, HF⟩
theorem rwq_13 {e : Nat} {M M' : Mem} {v : Option Value} {r : Int32} (hS : SQ M) (H : Ev none e 209 13 [some (.ref 633)] [.int r] M v M' 0 0) : v = some (.int r) ∧ M' = M := by
  obtain ⟨z1, z2⟩ := Ev.retz rfl rfl H
  exact ⟨z1, z2⟩
theorem rra_0 {e : Nat} {M M' : Mem} {v : Option Value} {n : Int32} (hS : SQ M) (H : Ev none e 210 0 [some (.ref 633), some (.int n), none] [] M v M' 0 0) : ((G_140 (wF M 633 0 0) n 1 200) = 0 ∧ v = some (.int 0) ∧ M' = (wF M 633 0 0)) ∨ (¬ ((G_140 (wF M 633 0 0) n 1 200) = 0) ∧ Ev none e 210 20 [some (.ref 633), some (.int n), some (.int 0)] [] (wF M 633 0 0) v M' 0 0) := by
  have H : Ev none e 210 2 [some (.ref 633), some (.int n), none] [.int 0, .ref 633] M v M' 0 0 := Ev.back 2 (fun n => rfl) H
  obtain ⟨N2, eN2⟩ : ∃ N, N = (wF M 633 0 0) := ⟨_, rfl⟩
  have hN2 : SQ N2 := by rw [eN2]; exact hS.kf
  have H : Ev none e 210 5 [some (.ref 633), some (.int n), none] [] N2 v M' 0 0 := by rw [eN2]; exact Ev.pfi rfl rfl rfl hS.1 qa_633 qi_61_0 H
  have H : Ev none e 210 10 [some (.ref 633), some (.int n), none] [.int 200, .int 1, .int n] N2 v M' 0 0 := Ev.back 3 (fun n => rfl) H
  obtain ⟨e1, rfl⟩ := Ev.dpos rfl rfl H
  obtain ⟨vK3, MK3, K3, H⟩ := Ev.callb (fun n => rfl) H
  obtain ⟨pK3, qK3⟩ := g_140 hN2 K3
  rw [pK3, qK3] at H
  have H : Ev none (e1 + 1) 210 13 [some (.ref 633), some (.int n), none] [.int (G_140 N2 n 1 200)] N2 v M' 0 0 := H
  have H : Ev none (e1 + 1) 210 (if (G_140 N2 n 1 200) = 0 then 16 else 18) [some (.ref 633), some (.int n), none] [] N2 v M' 0 0 := Ev.back 1 (fun n => rfl) H
  by_cases h4 : (G_140 N2 n 1 200) = 0
  · rw [if_pos h4] at H
    have H : Ev none (e1 + 1) 210 17 [some (.ref 633), some (.int n), none] [.int 0] N2 v M' 0 0 := Ev.back 1 (fun n => rfl) H
    obtain ⟨z1, z2⟩ := Ev.retz rfl rfl H
    subst eN2
    exact Or.inl ⟨h4, z1, z2⟩
  · rw [if_neg h4] at H
    have H : Ev none (e1 + 1) 210 20 [some (.ref 633), some (.int n), some (.int 0)] [] N2 v M' 0 0 := Ev.back 2 (fun n => rfl) H
    have HF := H
    subst eN2
    exact Or.inr (⟨h4, HF⟩)
theorem rra_20 {e : Nat} {M M' : Mem} {v : Option Value} {n c : Int32} (hS : SQ M) (H : Ev none e 210 20 [some (.ref 633), some (.int n), some (.int c)] [] M v M' 0 0) : ((G_144 M) ≤ c ∧ v = some (.int 1) ∧ M' = M) ∨ (¬ ((G_144 M) ≤ c) ∧ 3 ≤ (G_146 M c 0) ∧ Ev none e 210 20 [some (.ref 633), some (.int n), some (.int (c + 1))] [] M v M' 0 0) ∨ (¬ ((G_144 M) ≤ c) ∧ ¬ (3 ≤ (G_146 M c 0)) ∧ ((G_146 M c 4) + n) ≤ 200 ∧ Ev none e 210 20 [some (.ref 633), some (.int n), some (.int (c + 1))] [] (X_147 M c 4 ((G_146 M c 4) + n)) v M' 0 0) ∨ (¬ ((G_144 M) ≤ c) ∧ ¬ (3 ≤ (G_146 M c 0)) ∧ ¬ (((G_146 M c 4) + n) ≤ 200) ∧ Ev none e 210 20 [some (.ref 633), some (.int n), some (.int (c + 1))] [] (X_147 M c 4 200) v M' 0 0) := by
  have H : Ev none e 210 22 [some (.ref 633), some (.int n), some (.int c)] [.ref 633, .int c] M v M' 0 0 := Ev.back 2 (fun n => rfl) H
  obtain ⟨e1, rfl⟩ := Ev.dpos rfl rfl H
  obtain ⟨vK1, MK1, K1, H⟩ := Ev.callb (fun n_ => gs_7 rfl rfl (show gCal (.invokevirtual 128) 11 (.ref 633 :: [.int c]) M = some (.inr (144, [some (.ref 633)], [.int c])) from by show @cond (Option ((List Value × Mem) ⊕ (Nat × Lo × List Value))) (true && gRecv M (.ref 633) 11 && gRoom [.int c] && true) (some (.inr (144, [some (.ref 633)], [.int c]))) none = _; rw [recv_s hS.1 qa_633 qo_61]; rfl)) H
  obtain ⟨pK1, qK1⟩ := g_144 hS K1
  rw [pK1, qK1] at H
  have H : Ev none (e1 + 1) 210 25 [some (.ref 633), some (.int n), some (.int c)] [.int (G_144 M), .int c] M v M' 0 0 := H
  have H : Ev none (e1 + 1) 210 (if (G_144 M) ≤ c then 78 else 28) [some (.ref 633), some (.int n), some (.int c)] [] M v M' 0 0 := Ev.back 1 (fun n => rfl) H
  by_cases h2 : (G_144 M) ≤ c
  · rw [if_pos h2] at H
    have H : Ev none (e1 + 1) 210 79 [some (.ref 633), some (.int n), some (.int c)] [.int 1] M v M' 0 0 := Ev.back 1 (fun n => rfl) H
    obtain ⟨z1, z2⟩ := Ev.retz rfl rfl H
    exact Or.inl ⟨h2, z1, z2⟩
  · rw [if_neg h2] at H
    have H : Ev none (e1 + 1) 210 31 [some (.ref 633), some (.int n), some (.int c)] [.int 0, .int c, .ref 633] M v M' 0 0 := Ev.back 3 (fun n => rfl) H
    obtain ⟨vK3, MK3, K3, H⟩ := Ev.callb (fun n_ => gs_7 rfl rfl (show gCal (.invokevirtual 136) 11 (.int 0 :: .int c :: .ref 633 :: []) M = some (.inr (146, [some (.ref 633), some (.int c), some (.int 0)], [])) from by show @cond (Option ((List Value × Mem) ⊕ (Nat × Lo × List Value))) (true && gRecv M (.ref 633) 11 && gRoom [] && true) (some (.inr (146, [some (.ref 633), some (.int c), some (.int 0)], []))) none = _; rw [recv_s hS.1 qa_633 qo_61]; rfl)) H
    obtain ⟨pK3, qK3⟩ := g_146 hS K3
    rw [pK3, qK3] at H
    have H : Ev none (e1 + 1) 210 34 [some (.ref 633), some (.int n), some (.int c)] [.int (G_146 M c 0)] M v M' 0 0 := H
    have H : Ev none (e1 + 1) 210 (if 3 ≤ (G_146 M c 0) then 72 else 38) [some (.ref 633), some (.int n), some (.int c)] [] M v M' 0 0 := Ev.back 2 (fun n => rfl) H
    by_cases h4 : 3 ≤ (G_146 M c 0)
    · rw [if_pos h4] at H
      have H : Ev none (e1 + 1) 210 20 [some (.ref 633), some (.int n), some (.int (c + 1))] [] M v M' 0 0 := Ev.back 2 (fun n => rfl) H
      have HF := H
      exact Or.inr (Or.inl ⟨h2, h4, HF⟩)
    · rw [if_neg h4] at H
      have H : Ev none (e1 + 1) 210 44 [some (.ref 633), some (.int n), some (.int c)] [.int 4, .int c, .ref 633, .int 4, .int c, .ref 633] M v M' 0 0 := Ev.back 6 (fun n => rfl) H
      obtain ⟨vK5, MK5, K5, H⟩ := Ev.callb (fun n_ => gs_7 rfl rfl (show gCal (.invokevirtual 136) 11 (.int 4 :: .int c :: .ref 633 :: [.int 4, .int c, .ref 633]) M = some (.inr (146, [some (.ref 633), some (.int c), some (.int 4)], [.int 4, .int c, .ref 633])) from by show @cond (Option ((List Value × Mem) ⊕ (Nat × Lo × List Value))) (true && gRecv M (.ref 633) 11 && gRoom [.int 4, .int c, .ref 633] && true) (some (.inr (146, [some (.ref 633), some (.int c), some (.int 4)], [.int 4, .int c, .ref 633]))) none = _; rw [recv_s hS.1 qa_633 qo_61]; rfl)) H
      obtain ⟨pK5, qK5⟩ := g_146 hS K5
      rw [pK5, qK5] at H
      have H : Ev none (e1 + 1) 210 47 [some (.ref 633), some (.int n), some (.int c)] [.int (G_146 M c 4), .int 4, .int c, .ref 633] M v M' 0 0 := H
      have H : Ev none (e1 + 1) 210 (if ((G_146 M c 4) + n) ≤ 200 then 61 else 55) [some (.ref 633), some (.int n), some (.int c)] [.int 4, .int c, .ref 633] M v M' 0 0 := Ev.back 4 (fun n => rfl) H
      by_cases h6 : ((G_146 M c 4) + n) ≤ 200
      · rw [if_pos h6] at H
        have H : Ev none (e1 + 1) 210 64 [some (.ref 633), some (.int n), some (.int c)] [.int 4, .int c, .ref 633, .int 4, .int c, .ref 633] M v M' 0 0 := Ev.back 3 (fun n => rfl) H
        obtain ⟨vK7, MK7, K7, H⟩ := Ev.callb (fun n_ => gs_7 rfl rfl (show gCal (.invokevirtual 136) 11 (.int 4 :: .int c :: .ref 633 :: [.int 4, .int c, .ref 633]) M = some (.inr (146, [some (.ref 633), some (.int c), some (.int 4)], [.int 4, .int c, .ref 633])) from by show @cond (Option ((List Value × Mem) ⊕ (Nat × Lo × List Value))) (true && gRecv M (.ref 633) 11 && gRoom [.int 4, .int c, .ref 633] && true) (some (.inr (146, [some (.ref 633), some (.int c), some (.int 4)], [.int 4, .int c, .ref 633]))) none = _; rw [recv_s hS.1 qa_633 qo_61]; rfl)) H
        obtain ⟨pK7, qK7⟩ := g_146 hS K7
        rw [pK7, qK7] at H
        have H : Ev none (e1 + 1) 210 67 [some (.ref 633), some (.int n), some (.int c)] [.int (G_146 M c 4), .int 4, .int c, .ref 633] M v M' 0 0 := H
        have H : Ev none (e1 + 1) 210 69 [some (.ref 633), some (.int n), some (.int c)] [.int ((G_146 M c 4) + n), .int 4, .int c, .ref 633] M v M' 0 0 := Ev.back 2 (fun n => rfl) H
        obtain ⟨vK8, MK8, K8, H⟩ := Ev.callb (fun n_ => gs_7 rfl rfl (show gCal (.invokevirtual 151) 11 (.int ((G_146 M c 4) + n) :: .int 4 :: .int c :: .ref 633 :: []) M = some (.inr (147, [some (.ref 633), some (.int c), some (.int 4), some (.int ((G_146 M c 4) + n))], [])) from by show @cond (Option ((List Value × Mem) ⊕ (Nat × Lo × List Value))) (true && gRecv M (.ref 633) 11 && gRoom [] && true) (some (.inr (147, [some (.ref 633), some (.int c), some (.int 4), some (.int ((G_146 M c 4) + n))], []))) none = _; rw [recv_s hS.1 qa_633 qo_61]; rfl)) H
        obtain ⟨pK8, qK8⟩ := g_147 hS K8
        rw [pK8, qK8] at H
        obtain ⟨N9, eN9⟩ : ∃ N, N = (X_147 M c 4 ((G_146 M c 4) + n)) := ⟨_, rfl⟩
        have hN9 : SQ N9 := by rw [eN9]; exact X_147_sx hS
        rw [← eN9] at H
        have H : Ev none (e1 + 1) 210 72 [some (.ref 633), some (.int n), some (.int c)] [] N9 v M' 0 0 := H
        have H : Ev none (e1 + 1) 210 20 [some (.ref 633), some (.int n), some (.int (c + 1))] [] N9 v M' 0 0 := Ev.back 2 (fun n => rfl) H
        have HF := H
        subst eN9
        exact Or.inr (Or.inr (Or.inl ⟨h2, h4, h6, HF⟩))
      · rw [if_neg h6] at H
        have H : Ev none (e1 + 1) 210 69 [some (.ref 633), some (.int n), some (.int c)] [.int 200, .int 4, .int c, .ref 633] M v M' 0 0 := Ev.back 2 (fun n => rfl) H
        obtain ⟨vK10, MK10, K10, H⟩ := Ev.callb (fun n_ => gs_7 rfl rfl (show gCal (.invokevirtual 151) 11 (.int 200 :: .int 4 :: .int c :: .ref 633 :: []) M = some (.inr (147, [some (.ref 633), some (.int c), some (.int 4), some (.int 200)], [])) from by show @cond (Option ((List Value × Mem) ⊕ (Nat × Lo × List Value))) (true && gRecv M (.ref 633) 11 && gRoom [] && true) (some (.inr (147, [some (.ref 633), some (.int c), some (.int 4), some (.int 200)], []))) none = _; rw [recv_s hS.1 qa_633 qo_61]; rfl)) H
        obtain ⟨pK10, qK10⟩ := g_147 hS K10
        rw [pK10, qK10] at H
        obtain ⟨N11, eN11⟩ : ∃ N, N = (X_147 M c 4 200) := ⟨_, rfl⟩
        have hN11 : SQ N11 := by rw [eN11]; exact X_147_sx hS
        rw [← eN11] at H
        have H : Ev none (e1 + 1) 210 72 [some (.ref 633), some (.int n), some (.int c)] [] N11 v M' 0 0 := H
        have H : Ev none (e1 + 1) 210 20 [some (.ref 633), some (.int n), some (.int (c + 1))] [] N11 v M' 0 0 := Ev.back 2 (fun n => rfl) H
        have HF := H
        subst eN11
        exact Or.inr (Or.inr (Or.inr (⟨h2, h4, h6, HF⟩)))
theorem rsn_0 {e : Nat} {M M' : Mem} {v : Option Value} (hS : SQ M) (H : Ev none e 211 0 [some (.ref 633), none] [] M v M' 0 0) : Ev none e 211 7 [some (.ref 633), some (.int 0)] [] (wF M 633 0 0) v M' 0 0 := by
  have H : Ev none e 211 2 [some (.ref 633), none] [.int 0, .ref 633] M v M' 0 0 := Ev.back 2 (fun n => rfl) H
  obtain ⟨N2, eN2⟩ : ∃ N, N = (wF M 633 0 0) := ⟨_, rfl⟩
  have hN2 : SQ N2 := by rw [eN2]; exact hS.kf
  have H : Ev none e 211 5 [some (.ref 633), none] [] N2 v M' 0 0 := by rw [eN2]; exact Ev.pfi rfl rfl rfl hS.1 qa_633 qi_61_0 H
  have H : Ev none e 211 7 [some (.ref 633), some (.int 0)] [] N2 v M' 0 0 := Ev.back 2 (fun n => rfl) H
  have HF := H
  subst eN2
  exact HF
theorem rsn_7 {e : Nat} {M M' : Mem} {v : Option Value} {c : Int32} (hS : SQ M) (H : Ev none e 211 7 [some (.ref 633), some (.int c)] [] M v M' 0 0) : ((G_144 M) ≤ c ∧ v = none ∧ M' = M) ∨ (¬ ((G_144 M) ≤ c) ∧ Ev none e 211 7 [some (.ref 633), some (.int (c + 1))] [] (X_147 M c 6 0) v M' 0 0) := by
  have H : Ev none e 211 9 [some (.ref 633), some (.int c)] [.ref 633, .int c] M v M' 0 0 := Ev.back 2 (fun n => rfl) H
  obtain ⟨e1, rfl⟩ := Ev.dpos rfl rfl H
  obtain ⟨vK1, MK1, K1, H⟩ := Ev.callb (fun n_ => gs_7 rfl rfl (show gCal (.invokevirtual 128) 11 (.ref 633 :: [.int c]) M = some (.inr (144, [some (.ref 633)], [.int c])) from by show @cond (Option ((List Value × Mem) ⊕ (Nat × Lo × List Value))) (true && gRecv M (.ref 633) 11 && gRoom [.int c] && true) (some (.inr (144, [some (.ref 633)], [.int c]))) none = _; rw [recv_s hS.1 qa_633 qo_61]; rfl)) H
  obtain ⟨pK1, qK1⟩ := g_144 hS K1
  rw [pK1, qK1] at H
  have H : Ev none (e1 + 1) 211 12 [some (.ref 633), some (.int c)] [.int (G_144 M), .int c] M v M' 0 0 := H
  have H : Ev none (e1 + 1) 211 (if (G_144 M) ≤ c then 29 else 15) [some (.ref 633), some (.int c)] [] M v M' 0 0 := Ev.back 1 (fun n => rfl) H
  by_cases h2 : (G_144 M) ≤ c
  · rw [if_pos h2] at H
    obtain ⟨z1, z2⟩ := Ev.retb (fun n => rfl) H
    exact Or.inl ⟨h2, z1, z2⟩
  · rw [if_neg h2] at H
    have H : Ev none (e1 + 1) 211 20 [some (.ref 633), some (.int c)] [.int 0, .int 6, .int c, .ref 633] M v M' 0 0 := Ev.back 4 (fun n => rfl) H
    obtain ⟨vK3, MK3, K3, H⟩ := Ev.callb (fun n_ => gs_7 rfl rfl (show gCal (.invokevirtual 151) 11 (.int 0 :: .int 6 :: .int c :: .ref 633 :: []) M = some (.inr (147, [some (.ref 633), some (.int c), some (.int 6), some (.int 0)], [])) from by show @cond (Option ((List Value × Mem) ⊕ (Nat × Lo × List Value))) (true && gRecv M (.ref 633) 11 && gRoom [] && true) (some (.inr (147, [some (.ref 633), some (.int c), some (.int 6), some (.int 0)], []))) none = _; rw [recv_s hS.1 qa_633 qo_61]; rfl)) H
    obtain ⟨pK3, qK3⟩ := g_147 hS K3
    rw [pK3, qK3] at H
    obtain ⟨N4, eN4⟩ : ∃ N, N = (X_147 M c 6 0) := ⟨_, rfl⟩
    have hN4 : SQ N4 := by rw [eN4]; exact X_147_sx hS
    rw [← eN4] at H
    have H : Ev none (e1 + 1) 211 23 [some (.ref 633), some (.int c)] [] N4 v M' 0 0 := H
    have H : Ev none (e1 + 1) 211 7 [some (.ref 633), some (.int (c + 1))] [] N4 v M' 0 0 := Ev.back 2 (fun n => rfl) H
    have HF := H
    subst eN4
    exact Or.inr (⟨h2, HF⟩)
noncomputable def X_213 (M : Mem) (c : Int32) (k : Int32) : Mem := if (G_149 (X_147 M c 0 k) c) = 0 then (X_147 (X_147 M c 0 k) c 3 0) else (X_147 M c 0 k)
theorem g_213 {e : Nat} {M M' : Mem} {v : Option Value} {c k : Int32} (hS : SQ M) (H : Ev none e 213 0 [some (.ref 633), some (.int c), some (.int k)] [] M v M' 0 0) : v = none ∧ M' = X_213 M c k := by
  unfold X_213
  have H : Ev none e 213 4 [some (.ref 633), some (.int c), some (.int k)] [.int k, .int 0, .int c, .ref 633] M v M' 0 0 := Ev.back 4 (fun n => rfl) H
  obtain ⟨e1, rfl⟩ := Ev.dpos rfl rfl H
  obtain ⟨vK1, MK1, K1, H⟩ := Ev.callb (fun n_ => gs_7 rfl rfl (show gCal (.invokevirtual 151) 11 (.int k :: .int 0 :: .int c :: .ref 633 :: []) M = some (.inr (147, [some (.ref 633), some (.int c), some (.int 0), some (.int k)], [])) from by show @cond (Option ((List Value × Mem) ⊕ (Nat × Lo × List Value))) (true && gRecv M (.ref 633) 11 && gRoom [] && true) (some (.inr (147, [some (.ref 633), some (.int c), some (.int 0), some (.int k)], []))) none = _; rw [recv_s hS.1 qa_633 qo_61]; rfl)) H
  obtain ⟨pK1, qK1⟩ := g_147 hS K1
  rw [pK1, qK1] at H
  obtain ⟨N2, eN2⟩ : ∃ N, N = (X_147 M c 0 k) := ⟨_, rfl⟩
  have hN2 : SQ N2 := by rw [eN2]; exact X_147_sx hS
  rw [← eN2] at H
  have H : Ev none (e1 + 1) 213 7 [some (.ref 633), some (.int c), some (.int k)] [] N2 v M' 0 0 := H
  have H : Ev none (e1 + 1) 213 9 [some (.ref 633), some (.int c), some (.int k)] [.int c, .ref 633] N2 v M' 0 0 := Ev.back 2 (fun n => rfl) H
  obtain ⟨vK3, MK3, K3, H⟩ := Ev.callb (fun n_ => gs_7 rfl rfl (show gCal (.invokevirtual 356) 11 (.int c :: .ref 633 :: []) N2 = some (.inr (149, [some (.ref 633), some (.int c)], [])) from by show @cond (Option ((List Value × Mem) ⊕ (Nat × Lo × List Value))) (true && gRecv N2 (.ref 633) 11 && gRoom [] && true) (some (.inr (149, [some (.ref 633), some (.int c)], []))) none = _; rw [recv_s hN2.1 qa_633 qo_61]; rfl)) H
  obtain ⟨pK3, qK3⟩ := g_149 hN2 K3
  rw [pK3, qK3] at H
  have H : Ev none (e1 + 1) 213 12 [some (.ref 633), some (.int c), some (.int k)] [.int (G_149 N2 c)] N2 v M' 0 0 := H
  have H : Ev none (e1 + 1) 213 (if (G_149 N2 c) = 0 then 15 else 22) [some (.ref 633), some (.int c), some (.int k)] [] N2 v M' 0 0 := Ev.back 1 (fun n => rfl) H
  by_cases h4 : (G_149 N2 c) = 0
  · rw [if_pos h4] at H
    have H : Ev none (e1 + 1) 213 19 [some (.ref 633), some (.int c), some (.int k)] [.int 0, .int 3, .int c, .ref 633] N2 v M' 0 0 := Ev.back 4 (fun n => rfl) H
    obtain ⟨vK5, MK5, K5, H⟩ := Ev.callb (fun n_ => gs_7 rfl rfl (show gCal (.invokevirtual 151) 11 (.int 0 :: .int 3 :: .int c :: .ref 633 :: []) N2 = some (.inr (147, [some (.ref 633), some (.int c), some (.int 3), some (.int 0)], [])) from by show @cond (Option ((List Value × Mem) ⊕ (Nat × Lo × List Value))) (true && gRecv N2 (.ref 633) 11 && gRoom [] && true) (some (.inr (147, [some (.ref 633), some (.int c), some (.int 3), some (.int 0)], []))) none = _; rw [recv_s hN2.1 qa_633 qo_61]; rfl)) H
    obtain ⟨pK5, qK5⟩ := g_147 hN2 K5
    rw [pK5, qK5] at H
    obtain ⟨N6, eN6⟩ : ∃ N, N = (X_147 N2 c 3 0) := ⟨_, rfl⟩
    have hN6 : SQ N6 := by rw [eN6]; exact X_147_sx hN2
    rw [← eN6] at H
    have H : Ev none (e1 + 1) 213 22 [some (.ref 633), some (.int c), some (.int k)] [] N6 v M' 0 0 := H
    obtain ⟨p1, p2⟩ := Ev.retb (fun n => rfl) H
    subst eN2 eN6
    exact ⟨p1, by rw [if_pos h4]; exact p2⟩
  · rw [if_neg h4] at H
    obtain ⟨p1, p2⟩ := Ev.retb (fun n => rfl) H
    subst eN2
    exact ⟨p1, by rw [if_neg h4]; exact p2⟩
theorem X_213_sx {M : Mem} {c k : Int32} (hS : SQ M) : SQ (X_213 M c k) := by
  unfold X_213
  split
  · exact X_147_sx (X_147_sx hS)
  · exact X_147_sx hS
theorem rla_0 {e : Nat} {M M' : Mem} {v : Option Value} {c k : Int32} (hS : SQ M) (H : Ev none e 212 0 [some (.ref 633), some (.int c), some (.int k)] [] M v M' 0 0) : ((G_145 (wF M 633 0 0) c) = 0 ∧ v = some (.int 0) ∧ M' = (wF M 633 0 0)) ∨ (¬ ((G_145 (wF M 633 0 0) c) = 0) ∧ (G_140 (wF M 633 0 0) k 0 6) = 0 ∧ v = some (.int 0) ∧ M' = (wF M 633 0 0)) ∨ (¬ ((G_145 (wF M 633 0 0) c) = 0) ∧ ¬ ((G_140 (wF M 633 0 0) k 0 6) = 0) ∧ k = 3 ∧ (∃ e1 v1 M1, e = e1 + 1 ∧ Ev none e1 157 0 [some (.ref 633), some (.int c), none] [] (wF M 633 0 0) v1 M1 0 0 ∧ Ev none e 212 39 [some (.ref 633), some (.int c), some (.int k)] (v1.toList ++ []) M1 v M' 0 0)) ∨ (¬ ((G_145 (wF M 633 0 0) c) = 0) ∧ ¬ ((G_140 (wF M 633 0 0) k 0 6) = 0) ∧ ¬ (k = 3) ∧ k = 6 ∧ (∃ e1 v1 M1, e = e1 + 1 ∧ Ev none e1 157 0 [some (.ref 633), some (.int c), none] [] (wF M 633 0 0) v1 M1 0 0 ∧ Ev none e 212 39 [some (.ref 633), some (.int c), some (.int k)] (v1.toList ++ []) M1 v M' 0 0)) ∨ (¬ ((G_145 (wF M 633 0 0) c) = 0) ∧ ¬ ((G_140 (wF M 633 0 0) k 0 6) = 0) ∧ ¬ (k = 3) ∧ ¬ (k = 6) ∧ (∃ e1 v1 M1, e = e1 + 1 ∧ Ev none e1 213 0 [some (.ref 633), some (.int c), some (.int k)] [] (wF M 633 0 0) v1 M1 0 0 ∧ Ev none e 212 58 [some (.ref 633), some (.int c), some (.int k)] (v1.toList ++ []) M1 v M' 0 0)) := by
  have H : Ev none e 212 2 [some (.ref 633), some (.int c), some (.int k)] [.int 0, .ref 633] M v M' 0 0 := Ev.back 2 (fun n => rfl) H
  obtain ⟨N2, eN2⟩ : ∃ N, N = (wF M 633 0 0) := ⟨_, rfl⟩
  have hN2 : SQ N2 := by rw [eN2]; exact hS.kf
  have H : Ev none e 212 5 [some (.ref 633), some (.int c), some (.int k)] [] N2 v M' 0 0 := by rw [eN2]; exact Ev.pfi rfl rfl rfl hS.1 qa_633 qi_61_0 H
  have H : Ev none e 212 7 [some (.ref 633), some (.int c), some (.int k)] [.int c, .ref 633] N2 v M' 0 0 := Ev.back 2 (fun n => rfl) H
  obtain ⟨e1, rfl⟩ := Ev.dpos rfl rfl H
  obtain ⟨vK3, MK3, K3, H⟩ := Ev.callb (fun n_ => gs_7 rfl rfl (show gCal (.invokevirtual 155) 11 (.int c :: .ref 633 :: []) N2 = some (.inr (145, [some (.ref 633), some (.int c)], [])) from by show @cond (Option ((List Value × Mem) ⊕ (Nat × Lo × List Value))) (true && gRecv N2 (.ref 633) 11 && gRoom [] && true) (some (.inr (145, [some (.ref 633), some (.int c)], []))) none = _; rw [recv_s hN2.1 qa_633 qo_61]; rfl)) H
  obtain ⟨pK3, qK3⟩ := g_145 hN2 K3
  rw [pK3, qK3] at H
  have H : Ev none (e1 + 1) 212 10 [some (.ref 633), some (.int c), some (.int k)] [.int (G_145 N2 c)] N2 v M' 0 0 := H
  have H : Ev none (e1 + 1) 212 (if (G_145 N2 c) = 0 then 50 else 13) [some (.ref 633), some (.int c), some (.int k)] [] N2 v M' 0 0 := Ev.back 1 (fun n => rfl) H
  by_cases h4 : (G_145 N2 c) = 0
  · rw [if_pos h4] at H
    have H : Ev none (e1 + 1) 212 51 [some (.ref 633), some (.int c), some (.int k)] [.int 0] N2 v M' 0 0 := Ev.back 1 (fun n => rfl) H
    obtain ⟨z1, z2⟩ := Ev.retz rfl rfl H
    subst eN2
    exact Or.inl ⟨h4, z1, z2⟩
  · rw [if_neg h4] at H
    have H : Ev none (e1 + 1) 212 17 [some (.ref 633), some (.int c), some (.int k)] [.int 6, .int 0, .int k] N2 v M' 0 0 := Ev.back 3 (fun n => rfl) H
    obtain ⟨vK5, MK5, K5, H⟩ := Ev.callb (fun n => rfl) H
    obtain ⟨pK5, qK5⟩ := g_140 hN2 K5
    rw [pK5, qK5] at H
    have H : Ev none (e1 + 1) 212 20 [some (.ref 633), some (.int c), some (.int k)] [.int (G_140 N2 k 0 6)] N2 v M' 0 0 := H
    have H : Ev none (e1 + 1) 212 (if (G_140 N2 k 0 6) = 0 then 50 else 23) [some (.ref 633), some (.int c), some (.int k)] [] N2 v M' 0 0 := Ev.back 1 (fun n => rfl) H
    by_cases h6 : (G_140 N2 k 0 6) = 0
    · rw [if_pos h6] at H
      have H : Ev none (e1 + 1) 212 51 [some (.ref 633), some (.int c), some (.int k)] [.int 0] N2 v M' 0 0 := Ev.back 1 (fun n => rfl) H
      obtain ⟨z1, z2⟩ := Ev.retz rfl rfl H
      subst eN2
      exact Or.inr (Or.inl ⟨h4, h6, z1, z2⟩)
    · rw [if_neg h6] at H
      have H : Ev none (e1 + 1) 212 (if k = 3 then 34 else 28) [some (.ref 633), some (.int c), some (.int k)] [] N2 v M' 0 0 := Ev.back 3 (fun n => rfl) H
      by_cases h7 : k = 3
      · rw [if_pos h7] at H
        have H : Ev none (e1 + 1) 212 36 [some (.ref 633), some (.int c), some (.int k)] [.int c, .ref 633] N2 v M' 0 0 := Ev.back 2 (fun n => rfl) H
        obtain ⟨vK8, MK8, K8, H⟩ := Ev.callb (fun n_ => gs_7 rfl rfl (show gCal (.invokevirtual 161) 11 (.int c :: .ref 633 :: []) N2 = some (.inr (157, [some (.ref 633), some (.int c), none], [])) from by show @cond (Option ((List Value × Mem) ⊕ (Nat × Lo × List Value))) (true && gRecv N2 (.ref 633) 11 && gRoom [] && true) (some (.inr (157, [some (.ref 633), some (.int c), none], []))) none = _; rw [recv_s hN2.1 qa_633 qo_61]; rfl)) H
        have K8 : Ev none e1 157 0 [some (.ref 633), some (.int c), none] [] N2 vK8 MK8 0 0 := K8
        have HF := H
        subst eN2
        exact Or.inr (Or.inr (Or.inl ⟨h4, h6, h7, ⟨e1, vK8, MK8, rfl, K8, HF⟩⟩))
      · rw [if_neg h7] at H
        have H : Ev none (e1 + 1) 212 (if k = 6 then 34 else 52) [some (.ref 633), some (.int c), some (.int k)] [] N2 v M' 0 0 := Ev.back 3 (fun n => rfl) H
        by_cases h9 : k = 6
        · rw [if_pos h9] at H
          have H : Ev none (e1 + 1) 212 36 [some (.ref 633), some (.int c), some (.int k)] [.int c, .ref 633] N2 v M' 0 0 := Ev.back 2 (fun n => rfl) H
          obtain ⟨vK10, MK10, K10, H⟩ := Ev.callb (fun n_ => gs_7 rfl rfl (show gCal (.invokevirtual 161) 11 (.int c :: .ref 633 :: []) N2 = some (.inr (157, [some (.ref 633), some (.int c), none], [])) from by show @cond (Option ((List Value × Mem) ⊕ (Nat × Lo × List Value))) (true && gRecv N2 (.ref 633) 11 && gRoom [] && true) (some (.inr (157, [some (.ref 633), some (.int c), none], []))) none = _; rw [recv_s hN2.1 qa_633 qo_61]; rfl)) H
          have K10 : Ev none e1 157 0 [some (.ref 633), some (.int c), none] [] N2 vK10 MK10 0 0 := K10
          have HF := H
          subst eN2
          exact Or.inr (Or.inr (Or.inr (Or.inl ⟨h4, h6, h7, h9, ⟨e1, vK10, MK10, rfl, K10, HF⟩⟩)))
        · rw [if_neg h9] at H
          have H : Ev none (e1 + 1) 212 55 [some (.ref 633), some (.int c), some (.int k)] [.int k, .int c, .ref 633] N2 v M' 0 0 := Ev.back 3 (fun n => rfl) H
          obtain ⟨vK11, MK11, K11, H⟩ := Ev.callb (fun n_ => gs_7 rfl rfl (show gCal (.invokevirtual 435) 11 (.int k :: .int c :: .ref 633 :: []) N2 = some (.inr (213, [some (.ref 633), some (.int c), some (.int k)], [])) from by show @cond (Option ((List Value × Mem) ⊕ (Nat × Lo × List Value))) (true && gRecv N2 (.ref 633) 11 && gRoom [] && true) (some (.inr (213, [some (.ref 633), some (.int c), some (.int k)], []))) none = _; rw [recv_s hN2.1 qa_633 qo_61]; rfl)) H
          have K11 : Ev none e1 213 0 [some (.ref 633), some (.int c), some (.int k)] [] N2 vK11 MK11 0 0 := K11
          have HF := H
          subst eN2
          exact Or.inr (Or.inr (Or.inr (Or.inr (⟨h4, h6, h7, h9, ⟨e1, vK11, MK11, rfl, K11, HF⟩⟩))))
theorem rla_39 {e : Nat} {M M' : Mem} {v : Option Value} {c k r : Int32} (hS : SQ M) (H : Ev none e 212 39 [some (.ref 633), some (.int c), some (.int k)] [.int r] M v M' 0 0) : (r = 0 ∧ (∃ e1 v1 M1, e = e1 + 1 ∧ Ev none e1 158 0 [some (.ref 633), some (.int c), none] [] M v1 M1 0 0 ∧ Ev none e 212 47 [some (.ref 633), some (.int c), some (.int k)] (v1.toList ++ []) M1 v M' 0 0)) ∨ (¬ (r = 0) ∧ v = some (.int 0) ∧ M' = M) := by
  have H : Ev none e 212 (if r = 0 then 42 else 50) [some (.ref 633), some (.int c), some (.int k)] [] M v M' 0 0 := Ev.back 1 (fun n => rfl) H
  by_cases h1 : r = 0
  · rw [if_pos h1] at H
    have H : Ev none e 212 44 [some (.ref 633), some (.int c), some (.int k)] [.int c, .ref 633] M v M' 0 0 := Ev.back 2 (fun n => rfl) H
    obtain ⟨e1, rfl⟩ := Ev.dpos rfl rfl H
    obtain ⟨vK2, MK2, K2, H⟩ := Ev.callb (fun n_ => gs_7 rfl rfl (show gCal (.invokevirtual 432) 11 (.int c :: .ref 633 :: []) M = some (.inr (158, [some (.ref 633), some (.int c), none], [])) from by show @cond (Option ((List Value × Mem) ⊕ (Nat × Lo × List Value))) (true && gRecv M (.ref 633) 11 && gRoom [] && true) (some (.inr (158, [some (.ref 633), some (.int c), none], []))) none = _; rw [recv_s hS.1 qa_633 qo_61]; rfl)) H
    have K2 : Ev none e1 158 0 [some (.ref 633), some (.int c), none] [] M vK2 MK2 0 0 := K2
    have HF := H
    exact Or.inl ⟨h1, ⟨e1, vK2, MK2, rfl, K2, HF⟩⟩
  · rw [if_neg h1] at H
    have H : Ev none e 212 51 [some (.ref 633), some (.int c), some (.int k)] [.int 0] M v M' 0 0 := Ev.back 1 (fun n => rfl) H
    obtain ⟨z1, z2⟩ := Ev.retz rfl rfl H
    exact Or.inr (⟨h1, z1, z2⟩)
theorem rla_47 {e : Nat} {M M' : Mem} {v : Option Value} {c k r : Int32} (hS : SQ M) (H : Ev none e 212 47 [some (.ref 633), some (.int c), some (.int k)] [.int r] M v M' 0 0) : (r = 0 ∧ (∃ e1 v1 M1, e = e1 + 1 ∧ Ev none e1 213 0 [some (.ref 633), some (.int c), some (.int k)] [] M v1 M1 0 0 ∧ Ev none e 212 58 [some (.ref 633), some (.int c), some (.int k)] (v1.toList ++ []) M1 v M' 0 0)) ∨ (¬ (r = 0) ∧ v = some (.int 0) ∧ M' = M) := by
  have H : Ev none e 212 (if r = 0 then 52 else 50) [some (.ref 633), some (.int c), some (.int k)] [] M v M' 0 0 := Ev.back 1 (fun n => rfl) H
  by_cases h1 : r = 0
  · rw [if_pos h1] at H
    have H : Ev none e 212 55 [some (.ref 633), some (.int c), some (.int k)] [.int k, .int c, .ref 633] M v M' 0 0 := Ev.back 3 (fun n => rfl) H
    obtain ⟨e1, rfl⟩ := Ev.dpos rfl rfl H
    obtain ⟨vK2, MK2, K2, H⟩ := Ev.callb (fun n_ => gs_7 rfl rfl (show gCal (.invokevirtual 435) 11 (.int k :: .int c :: .ref 633 :: []) M = some (.inr (213, [some (.ref 633), some (.int c), some (.int k)], [])) from by show @cond (Option ((List Value × Mem) ⊕ (Nat × Lo × List Value))) (true && gRecv M (.ref 633) 11 && gRoom [] && true) (some (.inr (213, [some (.ref 633), some (.int c), some (.int k)], []))) none = _; rw [recv_s hS.1 qa_633 qo_61]; rfl)) H
    have K2 : Ev none e1 213 0 [some (.ref 633), some (.int c), some (.int k)] [] M vK2 MK2 0 0 := K2
    have HF := H
    exact Or.inl ⟨h1, ⟨e1, vK2, MK2, rfl, K2, HF⟩⟩
  · rw [if_neg h1] at H
    have H : Ev none e 212 51 [some (.ref 633), some (.int c), some (.int k)] [.int 0] M v M' 0 0 := Ev.back 1 (fun n => rfl) H
    obtain ⟨z1, z2⟩ := Ev.retz rfl rfl H
    exact Or.inr (⟨h1, z1, z2⟩)
theorem rla_58 {e : Nat} {M M' : Mem} {v : Option Value} {c k : Int32} (hS : SQ M) (H : Ev none e 212 58 [some (.ref 633), some (.int c), some (.int k)] [] M v M' 0 0) : v = some (.int 1) ∧ M' = M := by
  have H : Ev none e 212 59 [some (.ref 633), some (.int c), some (.int k)] [.int 1] M v M' 0 0 := Ev.back 1 (fun n => rfl) H
  obtain ⟨z1, z2⟩ := Ev.retz rfl rfl H
  exact ⟨z1, z2⟩
theorem rpk_0 {e : Nat} {M M' : Mem} {v : Option Value} {a b : Int32} (hS : SQ M) (H : Ev none e 155 0 [some (.ref 633), some (.int a), some (.int b), none] [] M v M' 0 0) : ((G_140 (X_139 (wF M 633 0 0)) a 4 16) = 0 ∧ v = some (.int 0) ∧ M' = (X_139 (wF M 633 0 0))) ∨ (¬ ((G_140 (X_139 (wF M 633 0 0)) a 4 16) = 0) ∧ (G_140 (X_139 (wF M 633 0 0)) b 4 16) = 0 ∧ v = some (.int 0) ∧ M' = (X_139 (wF M 633 0 0))) ∨ (¬ ((G_140 (X_139 (wF M 633 0 0)) a 4 16) = 0) ∧ ¬ ((G_140 (X_139 (wF M 633 0 0)) b 4 16) = 0) ∧ (zI (X_139 (wF M 633 0 0)) 633 3) = (a * b) ∧ Ev none e 155 43 [some (.ref 633), some (.int a), some (.int b), some (.int 0)] [] (X_139 (wF M 633 0 0)) v M' 0 0) ∨ (¬ ((G_140 (X_139 (wF M 633 0 0)) a 4 16) = 0) ∧ ¬ ((G_140 (X_139 (wF M 633 0 0)) b 4 16) = 0) ∧ ¬ ((zI (X_139 (wF M 633 0 0)) 633 3) = (a * b)) ∧ v = some (.int 0) ∧ M' = (X_139 (wF M 633 0 0))) := by
  have H : Ev none e 155 2 [some (.ref 633), some (.int a), some (.int b), none] [.int 0, .ref 633] M v M' 0 0 := Ev.back 2 (fun n => rfl) H
  obtain ⟨N2, eN2⟩ : ∃ N, N = (wF M 633 0 0) := ⟨_, rfl⟩
  have hN2 : SQ N2 := by rw [eN2]; exact hS.kf
  have H : Ev none e 155 5 [some (.ref 633), some (.int a), some (.int b), none] [] N2 v M' 0 0 := by rw [eN2]; exact Ev.pfi rfl rfl rfl hS.1 qa_633 qi_61_0 H
  have H : Ev none e 155 6 [some (.ref 633), some (.int a), some (.int b), none] [.ref 633] N2 v M' 0 0 := Ev.back 1 (fun n => rfl) H
  obtain ⟨e1, rfl⟩ := Ev.dpos rfl rfl H
  obtain ⟨vK3, MK3, K3, H⟩ := Ev.callb (fun n_ => gs_7 rfl rfl (show gCal (.invokevirtual 144) 11 (.ref 633 :: []) N2 = some (.inr (139, [some (.ref 633)], [])) from by show @cond (Option ((List Value × Mem) ⊕ (Nat × Lo × List Value))) (true && gRecv N2 (.ref 633) 11 && gRoom [] && true) (some (.inr (139, [some (.ref 633)], []))) none = _; rw [recv_s hN2.1 qa_633 qo_61]; rfl)) H
  obtain ⟨pK3, qK3⟩ := g_139 hN2 K3
  rw [pK3, qK3] at H
  obtain ⟨N4, eN4⟩ : ∃ N, N = (X_139 N2) := ⟨_, rfl⟩
  have hN4 : SQ N4 := by rw [eN4]; exact X_139_sx hN2
  rw [← eN4] at H
  have H : Ev none (e1 + 1) 155 9 [some (.ref 633), some (.int a), some (.int b), none] [] N4 v M' 0 0 := H
  have H : Ev none (e1 + 1) 155 13 [some (.ref 633), some (.int a), some (.int b), none] [.int 16, .int 4, .int a] N4 v M' 0 0 := Ev.back 3 (fun n => rfl) H
  obtain ⟨vK5, MK5, K5, H⟩ := Ev.callb (fun n => rfl) H
  obtain ⟨pK5, qK5⟩ := g_140 hN4 K5
  rw [pK5, qK5] at H
  have H : Ev none (e1 + 1) 155 16 [some (.ref 633), some (.int a), some (.int b), none] [.int (G_140 N4 a 4 16)] N4 v M' 0 0 := H
  have H : Ev none (e1 + 1) 155 (if (G_140 N4 a 4 16) = 0 then 39 else 19) [some (.ref 633), some (.int a), some (.int b), none] [] N4 v M' 0 0 := Ev.back 1 (fun n => rfl) H
  by_cases h6 : (G_140 N4 a 4 16) = 0
  · rw [if_pos h6] at H
    have H : Ev none (e1 + 1) 155 40 [some (.ref 633), some (.int a), some (.int b), none] [.int 0] N4 v M' 0 0 := Ev.back 1 (fun n => rfl) H
    obtain ⟨z1, z2⟩ := Ev.retz rfl rfl H
    subst eN2 eN4
    exact Or.inl ⟨h6, z1, z2⟩
  · rw [if_neg h6] at H
    have H : Ev none (e1 + 1) 155 23 [some (.ref 633), some (.int a), some (.int b), none] [.int 16, .int 4, .int b] N4 v M' 0 0 := Ev.back 3 (fun n => rfl) H
    obtain ⟨vK7, MK7, K7, H⟩ := Ev.callb (fun n => rfl) H
    obtain ⟨pK7, qK7⟩ := g_140 hN4 K7
    rw [pK7, qK7] at H
    have H : Ev none (e1 + 1) 155 26 [some (.ref 633), some (.int a), some (.int b), none] [.int (G_140 N4 b 4 16)] N4 v M' 0 0 := H
    have H : Ev none (e1 + 1) 155 (if (G_140 N4 b 4 16) = 0 then 39 else 29) [some (.ref 633), some (.int a), some (.int b), none] [] N4 v M' 0 0 := Ev.back 1 (fun n => rfl) H
    by_cases h8 : (G_140 N4 b 4 16) = 0
    · rw [if_pos h8] at H
      have H : Ev none (e1 + 1) 155 40 [some (.ref 633), some (.int a), some (.int b), none] [.int 0] N4 v M' 0 0 := Ev.back 1 (fun n => rfl) H
      obtain ⟨z1, z2⟩ := Ev.retz rfl rfl H
      subst eN2 eN4
      exact Or.inr (Or.inl ⟨h6, h8, z1, z2⟩)
    · rw [if_neg h8] at H
      have H : Ev none (e1 + 1) 155 30 [some (.ref 633), some (.int a), some (.int b), none] [.ref 633] N4 v M' 0 0 := Ev.back 1 (fun n => rfl) H
      have H : Ev none (e1 + 1) 155 33 [some (.ref 633), some (.int a), some (.int b), none] [.int (zI N4 633 3)] N4 v M' 0 0 := Ev.back 1 (gs_3 rfl rfl (gf_i hN4.1 qa_633 qi_61_3 rfl)) H
      have H : Ev none (e1 + 1) 155 (if (zI N4 633 3) = (a * b) then 41 else 39) [some (.ref 633), some (.int a), some (.int b), none] [] N4 v M' 0 0 := Ev.back 4 (fun n => rfl) H
      by_cases h9 : (zI N4 633 3) = (a * b)
      · rw [if_pos h9] at H
        have H : Ev none (e1 + 1) 155 43 [some (.ref 633), some (.int a), some (.int b), some (.int 0)] [] N4 v M' 0 0 := Ev.back 2 (fun n => rfl) H
        have HF := H
        subst eN2 eN4
        exact Or.inr (Or.inr (Or.inl ⟨h6, h8, h9, HF⟩))
      · rw [if_neg h9] at H
        have H : Ev none (e1 + 1) 155 40 [some (.ref 633), some (.int a), some (.int b), none] [.int 0] N4 v M' 0 0 := Ev.back 1 (fun n => rfl) H
        obtain ⟨z1, z2⟩ := Ev.retz rfl rfl H
        subst eN2 eN4
        exact Or.inr (Or.inr (Or.inr (⟨h6, h8, h9, z1, z2⟩)))
theorem rpk_43 {e : Nat} {M M' : Mem} {v : Option Value} {a b i : Int32} (hS : SQ M) (H : Ev none e 155 43 [some (.ref 633), some (.int a), some (.int b), some (.int i)] [] M v M' 0 0) : ((zI M 633 3) ≤ i ∧ Ev none e 155 74 [some (.ref 633), some (.int a), some (.int b), some (.int 0)] [] M v M' 0 0) ∨ (¬ ((zI M 633 3) ≤ i) ∧ ((G_142 M i) - (G_142 M i) / 8 * 8) = 7 ∧ v = some (.int 0) ∧ M' = M) ∨ (¬ ((zI M 633 3) ≤ i) ∧ ¬ (((G_142 M i) - (G_142 M i) / 8 * 8) = 7) ∧ Ev none e 155 43 [some (.ref 633), some (.int a), some (.int b), some (.int (i + 1))] [] M v M' 0 0) := by
  have H : Ev none e 155 45 [some (.ref 633), some (.int a), some (.int b), some (.int i)] [.ref 633, .int i] M v M' 0 0 := Ev.back 2 (fun n => rfl) H
  have H : Ev none e 155 48 [some (.ref 633), some (.int a), some (.int b), some (.int i)] [.int (zI M 633 3), .int i] M v M' 0 0 := Ev.back 1 (gs_3 rfl rfl (gf_i hS.1 qa_633 qi_61_3 rfl)) H
  have H : Ev none e 155 (if (zI M 633 3) ≤ i then 72 else 51) [some (.ref 633), some (.int a), some (.int b), some (.int i)] [] M v M' 0 0 := Ev.back 1 (fun n => rfl) H
  by_cases h1 : (zI M 633 3) ≤ i
  · rw [if_pos h1] at H
    have H : Ev none e 155 74 [some (.ref 633), some (.int a), some (.int b), some (.int 0)] [] M v M' 0 0 := Ev.back 2 (fun n => rfl) H
    have HF := H
    exact Or.inl ⟨h1, HF⟩
  · rw [if_neg h1] at H
    have H : Ev none e 155 53 [some (.ref 633), some (.int a), some (.int b), some (.int i)] [.int i, .ref 633] M v M' 0 0 := Ev.back 2 (fun n => rfl) H
    obtain ⟨e1, rfl⟩ := Ev.dpos rfl rfl H
    obtain ⟨vK2, MK2, K2, H⟩ := Ev.callb (fun n_ => gs_7 rfl rfl (show gCal (.invokevirtual 147) 11 (.int i :: .ref 633 :: []) M = some (.inr (142, [some (.ref 633), some (.int i)], [])) from by show @cond (Option ((List Value × Mem) ⊕ (Nat × Lo × List Value))) (true && gRecv M (.ref 633) 11 && gRoom [] && true) (some (.inr (142, [some (.ref 633), some (.int i)], []))) none = _; rw [recv_s hS.1 qa_633 qo_61]; rfl)) H
    obtain ⟨pK2, qK2⟩ := g_142 hS K2
    rw [pK2, qK2] at H
    have H : Ev none (e1 + 1) 155 56 [some (.ref 633), some (.int a), some (.int b), some (.int i)] [.int (G_142 M i)] M v M' 0 0 := H
    have H : Ev none (e1 + 1) 155 (if ((G_142 M i) - (G_142 M i) / 8 * 8) = 7 then 64 else 66) [some (.ref 633), some (.int a), some (.int b), some (.int i)] [] M v M' 0 0 := Ev.back 4 (fun n => rfl) H
    by_cases h3 : ((G_142 M i) - (G_142 M i) / 8 * 8) = 7
    · rw [if_pos h3] at H
      have H : Ev none (e1 + 1) 155 65 [some (.ref 633), some (.int a), some (.int b), some (.int i)] [.int 0] M v M' 0 0 := Ev.back 1 (fun n => rfl) H
      obtain ⟨z1, z2⟩ := Ev.retz rfl rfl H
      exact Or.inr (Or.inl ⟨h1, h3, z1, z2⟩)
    · rw [if_neg h3] at H
      have H : Ev none (e1 + 1) 155 43 [some (.ref 633), some (.int a), some (.int b), some (.int (i + 1))] [] M v M' 0 0 := Ev.back 2 (fun n => rfl) H
      have HF := H
      exact Or.inr (Or.inr (⟨h1, h3, HF⟩))
theorem rpk_74 {e : Nat} {M M' : Mem} {v : Option Value} {a b i : Int32} (hS : SQ M) (H : Ev none e 155 74 [some (.ref 633), some (.int a), some (.int b), some (.int i)] [] M v M' 0 0) : (2314 ≤ i ∧ Ev none e 155 94 [some (.ref 633), some (.int a), some (.int b), some (.int i)] [] M v M' 0 0) ∨ (¬ (2314 ≤ i) ∧ (0 ≤ i.toInt ∧ i.toInt < 2314) ∧ Ev none e 155 74 [some (.ref 633), some (.int a), some (.int b), some (.int (i + 1))] [] (wI M 635 i.toNatClampNeg 0) v M' 0 0) := by
  have H : Ev none e 155 (if 2314 ≤ i then 94 else 81) [some (.ref 633), some (.int a), some (.int b), some (.int i)] [] M v M' 0 0 := Ev.back 3 (fun n => rfl) H
  by_cases h1 : 2314 ≤ i
  · rw [if_pos h1] at H
    have HF := H
    exact Or.inl ⟨h1, HF⟩
  · rw [if_neg h1] at H
    have H : Ev none e 155 82 [some (.ref 633), some (.int a), some (.int b), some (.int i)] [.ref 633] M v M' 0 0 := Ev.back 1 (fun n => rfl) H
    have H : Ev none e 155 85 [some (.ref 633), some (.int a), some (.int b), some (.int i)] [.ref 635] M v M' 0 0 := Ev.back 1 (gs_3 rfl rfl (gf_u hS.1 qa_633 qr_61_5 qu_63 rfl)) H
    have H : Ev none e 155 87 [some (.ref 633), some (.int a), some (.int b), some (.int i)] [.int 0, .int i, .ref 635] M v M' 0 0 := Ev.back 2 (fun n => rfl) H
    obtain ⟨b2, H⟩ := Ev.ias rfl rfl hS.1 qa_635 qw_63 H
    obtain ⟨N3, eN3⟩ : ∃ N, N = (wI M 635 i.toNatClampNeg 0) := ⟨_, rfl⟩
    have hN3 : SQ N3 := by rw [eN3]; exact hS.ki
    have H : Ev none e 155 88 [some (.ref 633), some (.int a), some (.int b), some (.int i)] [] N3 v M' 0 0 := by rw [eN3]; exact H
    have H : Ev none e 155 74 [some (.ref 633), some (.int a), some (.int b), some (.int (i + 1))] [] N3 v M' 0 0 := Ev.back 2 (fun n => rfl) H
    have HF := H
    subst eN3
    exact Or.inr (⟨h1, b2, HF⟩)
theorem rpk_94 {e : Nat} {M M' : Mem} {v : Option Value} {a b i : Int32} (hS : SQ M) (H : Ev none e 155 94 [some (.ref 633), some (.int a), some (.int b), some (.int i)] [] M v M' 0 0) : (0 ≤ (0 : Int32).toInt ∧ (0 : Int32).toInt < 2314) ∧ (0 ≤ (1 : Int32).toInt ∧ (1 : Int32).toInt < 2314) ∧ Ev none e 155 110 [some (.ref 633), some (.int a), some (.int b), some (.int 0)] [] (wI (wI M 635 ((0 : Int32).toNatClampNeg) a) 635 ((1 : Int32).toNatClampNeg) b) v M' 0 0 := by
  have H : Ev none e 155 95 [some (.ref 633), some (.int a), some (.int b), some (.int i)] [.ref 633] M v M' 0 0 := Ev.back 1 (fun n => rfl) H
  have H : Ev none e 155 98 [some (.ref 633), some (.int a), some (.int b), some (.int i)] [.ref 635] M v M' 0 0 := Ev.back 1 (gs_3 rfl rfl (gf_u hS.1 qa_633 qr_61_5 qu_63 rfl)) H
  have H : Ev none e 155 100 [some (.ref 633), some (.int a), some (.int b), some (.int i)] [.int a, .int 0, .ref 635] M v M' 0 0 := Ev.back 2 (fun n => rfl) H
  obtain ⟨b1, H⟩ := Ev.ias rfl rfl hS.1 qa_635 qw_63 H
  obtain ⟨N2, eN2⟩ : ∃ N, N = (wI M 635 ((0 : Int32).toNatClampNeg) a) := ⟨_, rfl⟩
  have hN2 : SQ N2 := by rw [eN2]; exact hS.ki
  have H : Ev none e 155 101 [some (.ref 633), some (.int a), some (.int b), some (.int i)] [] N2 v M' 0 0 := by rw [eN2]; exact H
  have H : Ev none e 155 102 [some (.ref 633), some (.int a), some (.int b), some (.int i)] [.ref 633] N2 v M' 0 0 := Ev.back 1 (fun n => rfl) H
  have H : Ev none e 155 105 [some (.ref 633), some (.int a), some (.int b), some (.int i)] [.ref 635] N2 v M' 0 0 := Ev.back 1 (gs_3 rfl rfl (gf_u hN2.1 qa_633 qr_61_5 qu_63 rfl)) H
  have H : Ev none e 155 107 [some (.ref 633), some (.int a), some (.int b), some (.int i)] [.int b, .int 1, .ref 635] N2 v M' 0 0 := Ev.back 2 (fun n => rfl) H
  obtain ⟨b3, H⟩ := Ev.ias rfl rfl hN2.1 qa_635 qw_63 H
  obtain ⟨N4, eN4⟩ : ∃ N, N = (wI N2 635 ((1 : Int32).toNatClampNeg) b) := ⟨_, rfl⟩
  have hN4 : SQ N4 := by rw [eN4]; exact hN2.ki
  have H : Ev none e 155 108 [some (.ref 633), some (.int a), some (.int b), some (.int i)] [] N4 v M' 0 0 := by rw [eN4]; exact H
  have H : Ev none e 155 110 [some (.ref 633), some (.int a), some (.int b), some (.int 0)] [] N4 v M' 0 0 := Ev.back 2 (fun n => rfl) H
  have HF := H
  subst eN2 eN4
  exact ⟨b1, b3, HF⟩
theorem rpk_110 {e : Nat} {M M' : Mem} {v : Option Value} {a b i : Int32} (hS : SQ M) (H : Ev none e 155 110 [some (.ref 633), some (.int a), some (.int b), some (.int i)] [] M v M' 0 0) : ((zI M 633 3) ≤ i ∧ v = some (.int 1) ∧ M' = M) ∨ (¬ ((zI M 633 3) ≤ i) ∧ Ev none e 155 110 [some (.ref 633), some (.int a), some (.int b), some (.int (i + 1))] [] (X_147 (X_147 (X_147 M i 0 ((G_142 M i) - (G_142 M i) / 8 * 8)) i 1 (((G_142 (X_147 M i 0 ((G_142 M i) - (G_142 M i) / 8 * 8)) i) / 8) - ((G_142 (X_147 M i 0 ((G_142 M i) - (G_142 M i) / 8 * 8)) i) / 8) / 2 * 2)) i 2 ((G_142 (X_147 (X_147 M i 0 ((G_142 M i) - (G_142 M i) / 8 * 8)) i 1 (((G_142 (X_147 M i 0 ((G_142 M i) - (G_142 M i) / 8 * 8)) i) / 8) - ((G_142 (X_147 M i 0 ((G_142 M i) - (G_142 M i) / 8 * 8)) i) / 8) / 2 * 2)) i) / 16)) v M' 0 0) := by
  have H : Ev none e 155 112 [some (.ref 633), some (.int a), some (.int b), some (.int i)] [.ref 633, .int i] M v M' 0 0 := Ev.back 2 (fun n => rfl) H
  have H : Ev none e 155 115 [some (.ref 633), some (.int a), some (.int b), some (.int i)] [.int (zI M 633 3), .int i] M v M' 0 0 := Ev.back 1 (gs_3 rfl rfl (gf_i hS.1 qa_633 qi_61_3 rfl)) H
  have H : Ev none e 155 (if (zI M 633 3) ≤ i then 168 else 118) [some (.ref 633), some (.int a), some (.int b), some (.int i)] [] M v M' 0 0 := Ev.back 1 (fun n => rfl) H
  by_cases h1 : (zI M 633 3) ≤ i
  · rw [if_pos h1] at H
    have H : Ev none e 155 169 [some (.ref 633), some (.int a), some (.int b), some (.int i)] [.int 1] M v M' 0 0 := Ev.back 1 (fun n => rfl) H
    obtain ⟨z1, z2⟩ := Ev.retz rfl rfl H
    exact Or.inl ⟨h1, z1, z2⟩
  · rw [if_neg h1] at H
    have H : Ev none e 155 123 [some (.ref 633), some (.int a), some (.int b), some (.int i)] [.int i, .ref 633, .int 0, .int i, .ref 633] M v M' 0 0 := Ev.back 5 (fun n => rfl) H
    obtain ⟨e1, rfl⟩ := Ev.dpos rfl rfl H
    obtain ⟨vK2, MK2, K2, H⟩ := Ev.callb (fun n_ => gs_7 rfl rfl (show gCal (.invokevirtual 147) 11 (.int i :: .ref 633 :: [.int 0, .int i, .ref 633]) M = some (.inr (142, [some (.ref 633), some (.int i)], [.int 0, .int i, .ref 633])) from by show @cond (Option ((List Value × Mem) ⊕ (Nat × Lo × List Value))) (true && gRecv M (.ref 633) 11 && gRoom [.int 0, .int i, .ref 633] && true) (some (.inr (142, [some (.ref 633), some (.int i)], [.int 0, .int i, .ref 633]))) none = _; rw [recv_s hS.1 qa_633 qo_61]; rfl)) H
    obtain ⟨pK2, qK2⟩ := g_142 hS K2
    rw [pK2, qK2] at H
    have H : Ev none (e1 + 1) 155 126 [some (.ref 633), some (.int a), some (.int b), some (.int i)] [.int (G_142 M i), .int 0, .int i, .ref 633] M v M' 0 0 := H
    have H : Ev none (e1 + 1) 155 129 [some (.ref 633), some (.int a), some (.int b), some (.int i)] [.int ((G_142 M i) - (G_142 M i) / 8 * 8), .int 0, .int i, .ref 633] M v M' 0 0 := Ev.back 2 (fun n => rfl) H
    obtain ⟨vK3, MK3, K3, H⟩ := Ev.callb (fun n_ => gs_7 rfl rfl (show gCal (.invokevirtual 151) 11 (.int ((G_142 M i) - (G_142 M i) / 8 * 8) :: .int 0 :: .int i :: .ref 633 :: []) M = some (.inr (147, [some (.ref 633), some (.int i), some (.int 0), some (.int ((G_142 M i) - (G_142 M i) / 8 * 8))], [])) from by show @cond (Option ((List Value × Mem) ⊕ (Nat × Lo × List Value))) (true && gRecv M (.ref 633) 11 && gRoom [] && true) (some (.inr (147, [some (.ref 633), some (.int i), some (.int 0), some (.int ((G_142 M i) - (G_142 M i) / 8 * 8))], []))) none = _; rw [recv_s hS.1 qa_633 qo_61]; rfl)) H
    obtain ⟨pK3, qK3⟩ := g_147 hS K3
    rw [pK3, qK3] at H
    obtain ⟨N4, eN4⟩ : ∃ N, N = (X_147 M i 0 ((G_142 M i) - (G_142 M i) / 8 * 8)) := ⟨_, rfl⟩
    have hN4 : SQ N4 := by rw [eN4]; exact X_147_sx hS
    rw [← eN4] at H
    have H : Ev none (e1 + 1) 155 132 [some (.ref 633), some (.int a), some (.int b), some (.int i)] [] N4 v M' 0 0 := H
    have H : Ev none (e1 + 1) 155 137 [some (.ref 633), some (.int a), some (.int b), some (.int i)] [.int i, .ref 633, .int 1, .int i, .ref 633] N4 v M' 0 0 := Ev.back 5 (fun n => rfl) H
    obtain ⟨vK5, MK5, K5, H⟩ := Ev.callb (fun n_ => gs_7 rfl rfl (show gCal (.invokevirtual 147) 11 (.int i :: .ref 633 :: [.int 1, .int i, .ref 633]) N4 = some (.inr (142, [some (.ref 633), some (.int i)], [.int 1, .int i, .ref 633])) from by show @cond (Option ((List Value × Mem) ⊕ (Nat × Lo × List Value))) (true && gRecv N4 (.ref 633) 11 && gRoom [.int 1, .int i, .ref 633] && true) (some (.inr (142, [some (.ref 633), some (.int i)], [.int 1, .int i, .ref 633]))) none = _; rw [recv_s hN4.1 qa_633 qo_61]; rfl)) H
    obtain ⟨pK5, qK5⟩ := g_142 hN4 K5
    rw [pK5, qK5] at H
    have H : Ev none (e1 + 1) 155 140 [some (.ref 633), some (.int a), some (.int b), some (.int i)] [.int (G_142 N4 i), .int 1, .int i, .ref 633] N4 v M' 0 0 := H
    have H : Ev none (e1 + 1) 155 145 [some (.ref 633), some (.int a), some (.int b), some (.int i)] [.int (((G_142 N4 i) / 8) - ((G_142 N4 i) / 8) / 2 * 2), .int 1, .int i, .ref 633] N4 v M' 0 0 := Ev.back 4 (fun n => rfl) H
    obtain ⟨vK6, MK6, K6, H⟩ := Ev.callb (fun n_ => gs_7 rfl rfl (show gCal (.invokevirtual 151) 11 (.int (((G_142 N4 i) / 8) - ((G_142 N4 i) / 8) / 2 * 2) :: .int 1 :: .int i :: .ref 633 :: []) N4 = some (.inr (147, [some (.ref 633), some (.int i), some (.int 1), some (.int (((G_142 N4 i) / 8) - ((G_142 N4 i) / 8) / 2 * 2))], [])) from by show @cond (Option ((List Value × Mem) ⊕ (Nat × Lo × List Value))) (true && gRecv N4 (.ref 633) 11 && gRoom [] && true) (some (.inr (147, [some (.ref 633), some (.int i), some (.int 1), some (.int (((G_142 N4 i) / 8) - ((G_142 N4 i) / 8) / 2 * 2))], []))) none = _; rw [recv_s hN4.1 qa_633 qo_61]; rfl)) H
    obtain ⟨pK6, qK6⟩ := g_147 hN4 K6
    rw [pK6, qK6] at H
    obtain ⟨N7, eN7⟩ : ∃ N, N = (X_147 N4 i 1 (((G_142 N4 i) / 8) - ((G_142 N4 i) / 8) / 2 * 2)) := ⟨_, rfl⟩
    have hN7 : SQ N7 := by rw [eN7]; exact X_147_sx hN4
    rw [← eN7] at H
    have H : Ev none (e1 + 1) 155 148 [some (.ref 633), some (.int a), some (.int b), some (.int i)] [] N7 v M' 0 0 := H
    have H : Ev none (e1 + 1) 155 153 [some (.ref 633), some (.int a), some (.int b), some (.int i)] [.int i, .ref 633, .int 2, .int i, .ref 633] N7 v M' 0 0 := Ev.back 5 (fun n => rfl) H
    obtain ⟨vK8, MK8, K8, H⟩ := Ev.callb (fun n_ => gs_7 rfl rfl (show gCal (.invokevirtual 147) 11 (.int i :: .ref 633 :: [.int 2, .int i, .ref 633]) N7 = some (.inr (142, [some (.ref 633), some (.int i)], [.int 2, .int i, .ref 633])) from by show @cond (Option ((List Value × Mem) ⊕ (Nat × Lo × List Value))) (true && gRecv N7 (.ref 633) 11 && gRoom [.int 2, .int i, .ref 633] && true) (some (.inr (142, [some (.ref 633), some (.int i)], [.int 2, .int i, .ref 633]))) none = _; rw [recv_s hN7.1 qa_633 qo_61]; rfl)) H
    obtain ⟨pK8, qK8⟩ := g_142 hN7 K8
    rw [pK8, qK8] at H
    have H : Ev none (e1 + 1) 155 156 [some (.ref 633), some (.int a), some (.int b), some (.int i)] [.int (G_142 N7 i), .int 2, .int i, .ref 633] N7 v M' 0 0 := H
    have H : Ev none (e1 + 1) 155 159 [some (.ref 633), some (.int a), some (.int b), some (.int i)] [.int ((G_142 N7 i) / 16), .int 2, .int i, .ref 633] N7 v M' 0 0 := Ev.back 2 (fun n => rfl) H
    obtain ⟨vK9, MK9, K9, H⟩ := Ev.callb (fun n_ => gs_7 rfl rfl (show gCal (.invokevirtual 151) 11 (.int ((G_142 N7 i) / 16) :: .int 2 :: .int i :: .ref 633 :: []) N7 = some (.inr (147, [some (.ref 633), some (.int i), some (.int 2), some (.int ((G_142 N7 i) / 16))], [])) from by show @cond (Option ((List Value × Mem) ⊕ (Nat × Lo × List Value))) (true && gRecv N7 (.ref 633) 11 && gRoom [] && true) (some (.inr (147, [some (.ref 633), some (.int i), some (.int 2), some (.int ((G_142 N7 i) / 16))], []))) none = _; rw [recv_s hN7.1 qa_633 qo_61]; rfl)) H
    obtain ⟨pK9, qK9⟩ := g_147 hN7 K9
    rw [pK9, qK9] at H
    obtain ⟨N10, eN10⟩ : ∃ N, N = (X_147 N7 i 2 ((G_142 N7 i) / 16)) := ⟨_, rfl⟩
    have hN10 : SQ N10 := by rw [eN10]; exact X_147_sx hN7
    rw [← eN10] at H
    have H : Ev none (e1 + 1) 155 162 [some (.ref 633), some (.int a), some (.int b), some (.int i)] [] N10 v M' 0 0 := H
    have H : Ev none (e1 + 1) 155 110 [some (.ref 633), some (.int a), some (.int b), some (.int (i + 1))] [] N10 v M' 0 0 := Ev.back 2 (fun n => rfl) H
    have HF := H
    subst eN4 eN7 eN10
    exact Or.inr (⟨h1, HF⟩)
theorem rim_0 {e : Nat} {M M' : Mem} {v : Option Value} {k : Int32} (hS : SQ M) (H : Ev none e 246 0 [some (.ref 633), some (.int k), none] [] M v M' 0 0) : ((G_140 (wF M 633 0 0) k 0 2) = 0 ∧ v = some (.int 0) ∧ M' = (wF M 633 0 0)) ∨ (¬ ((G_140 (wF M 633 0 0) k 0 2) = 0) ∧ Ev none e 246 18 [some (.ref 633), some (.int k), some (.int 0)] [] (wF M 633 0 0) v M' 0 0) := by
  have H : Ev none e 246 2 [some (.ref 633), some (.int k), none] [.int 0, .ref 633] M v M' 0 0 := Ev.back 2 (fun n => rfl) H
  obtain ⟨N2, eN2⟩ : ∃ N, N = (wF M 633 0 0) := ⟨_, rfl⟩
  have hN2 : SQ N2 := by rw [eN2]; exact hS.kf
  have H : Ev none e 246 5 [some (.ref 633), some (.int k), none] [] N2 v M' 0 0 := by rw [eN2]; exact Ev.pfi rfl rfl rfl hS.1 qa_633 qi_61_0 H
  have H : Ev none e 246 8 [some (.ref 633), some (.int k), none] [.int 2, .int 0, .int k] N2 v M' 0 0 := Ev.back 3 (fun n => rfl) H
  obtain ⟨e1, rfl⟩ := Ev.dpos rfl rfl H
  obtain ⟨vK3, MK3, K3, H⟩ := Ev.callb (fun n => rfl) H
  obtain ⟨pK3, qK3⟩ := g_140 hN2 K3
  rw [pK3, qK3] at H
  have H : Ev none (e1 + 1) 246 11 [some (.ref 633), some (.int k), none] [.int (G_140 N2 k 0 2)] N2 v M' 0 0 := H
  have H : Ev none (e1 + 1) 246 (if (G_140 N2 k 0 2) = 0 then 14 else 16) [some (.ref 633), some (.int k), none] [] N2 v M' 0 0 := Ev.back 1 (fun n => rfl) H
  by_cases h4 : (G_140 N2 k 0 2) = 0
  · rw [if_pos h4] at H
    have H : Ev none (e1 + 1) 246 15 [some (.ref 633), some (.int k), none] [.int 0] N2 v M' 0 0 := Ev.back 1 (fun n => rfl) H
    obtain ⟨z1, z2⟩ := Ev.retz rfl rfl H
    subst eN2
    exact Or.inl ⟨h4, z1, z2⟩
  · rw [if_neg h4] at H
    have H : Ev none (e1 + 1) 246 18 [some (.ref 633), some (.int k), some (.int 0)] [] N2 v M' 0 0 := Ev.back 2 (fun n => rfl) H
    have HF := H
    subst eN2
    exact Or.inr (⟨h4, HF⟩)
theorem rim_18 {e : Nat} {M M' : Mem} {v : Option Value} {k i : Int32} (hS : SQ M) (H : Ev none e 246 18 [some (.ref 633), some (.int k), some (.int i)] [] M v M' 0 0) : (2314 ≤ i ∧ (0 ≤ k.toInt ∧ k.toInt < 3) ∧ v = some (.int 1) ∧ M' = (wI M 638 k.toNatClampNeg (vp_nar .boolean 1))) ∨ (¬ (2314 ≤ i) ∧ (0 ≤ i.toInt ∧ i.toInt < 2314) ∧ (0 ≤ ((2314 * k) + i).toInt ∧ ((2314 * k) + i).toInt < 6942) ∧ Ev none e 246 18 [some (.ref 633), some (.int k), some (.int (i + 1))] [] (wI M 636 (((2314 * k) + i).toNatClampNeg) (rI M 635 i)) v M' 0 0) := by
  have H : Ev none e 246 (if 2314 ≤ i then 49 else 25) [some (.ref 633), some (.int k), some (.int i)] [] M v M' 0 0 := Ev.back 3 (fun n => rfl) H
  by_cases h1 : 2314 ≤ i
  · rw [if_pos h1] at H
    have H : Ev none e 246 50 [some (.ref 633), some (.int k), some (.int i)] [.ref 633] M v M' 0 0 := Ev.back 1 (fun n => rfl) H
    have H : Ev none e 246 53 [some (.ref 633), some (.int k), some (.int i)] [.ref 638] M v M' 0 0 := Ev.back 1 (gs_3 rfl rfl (gf_u hS.1 qa_633 qr_61_8 qu_66 rfl)) H
    have H : Ev none e 246 55 [some (.ref 633), some (.int k), some (.int i)] [.int 1, .int k, .ref 638] M v M' 0 0 := Ev.back 2 (fun n => rfl) H
    obtain ⟨b2, H⟩ := Ev.bas3 rfl rfl hS.1 qa_638 qw_66 H
    obtain ⟨N3, eN3⟩ : ∃ N, N = (wI M 638 k.toNatClampNeg (vp_nar .boolean 1)) := ⟨_, rfl⟩
    have hN3 : SQ N3 := by rw [eN3]; exact hS.ki
    have H : Ev none e 246 56 [some (.ref 633), some (.int k), some (.int i)] [] N3 v M' 0 0 := by rw [eN3]; exact H
    have H : Ev none e 246 57 [some (.ref 633), some (.int k), some (.int i)] [.int 1] N3 v M' 0 0 := Ev.back 1 (fun n => rfl) H
    obtain ⟨z1, z2⟩ := Ev.retz rfl rfl H
    subst eN3
    exact Or.inl ⟨h1, b2, z1, z2⟩
  · rw [if_neg h1] at H
    have H : Ev none e 246 26 [some (.ref 633), some (.int k), some (.int i)] [.ref 633] M v M' 0 0 := Ev.back 1 (fun n => rfl) H
    have H : Ev none e 246 29 [some (.ref 633), some (.int k), some (.int i)] [.ref 636] M v M' 0 0 := Ev.back 1 (gs_3 rfl rfl (gf_u hS.1 qa_633 qr_61_6 qu_64 rfl)) H
    have H : Ev none e 246 37 [some (.ref 633), some (.int k), some (.int i)] [.ref 633, .int ((2314 * k) + i), .ref 636] M v M' 0 0 := Ev.back 6 (fun n => rfl) H
    have H : Ev none e 246 40 [some (.ref 633), some (.int k), some (.int i)] [.ref 635, .int ((2314 * k) + i), .ref 636] M v M' 0 0 := Ev.back 1 (gs_3 rfl rfl (gf_u hS.1 qa_633 qr_61_5 qu_63 rfl)) H
    have H : Ev none e 246 41 [some (.ref 633), some (.int k), some (.int i)] [.int i, .ref 635, .int ((2314 * k) + i), .ref 636] M v M' 0 0 := Ev.back 1 (fun n => rfl) H
    obtain ⟨b4, H⟩ := Ev.ial rfl rfl hS.1 qa_635 qw_63 H
    have H : Ev none e 246 42 [some (.ref 633), some (.int k), some (.int i)] [.int (rI M 635 i), .int ((2314 * k) + i), .ref 636] M v M' 0 0 := H
    obtain ⟨b5, H⟩ := Ev.ias rfl rfl hS.1 qa_636 qw_64 H
    obtain ⟨N6, eN6⟩ : ∃ N, N = (wI M 636 (((2314 * k) + i).toNatClampNeg) (rI M 635 i)) := ⟨_, rfl⟩
    have hN6 : SQ N6 := by rw [eN6]; exact hS.ki
    have H : Ev none e 246 43 [some (.ref 633), some (.int k), some (.int i)] [] N6 v M' 0 0 := by rw [eN6]; exact H
    have H : Ev none e 246 18 [some (.ref 633), some (.int k), some (.int (i + 1))] [] N6 v M' 0 0 := Ev.back 2 (fun n => rfl) H
    have HF := H
    subst eN6
    exact Or.inr (⟨h1, b4, b5, HF⟩)
theorem rre_0 {e : Nat} {M M' : Mem} {v : Option Value} {k : Int32} (hS : SQ M) (H : Ev none e 247 0 [some (.ref 633), some (.int k), none] [] M v M' 0 0) : ((G_140 (wF M 633 0 0) k 0 2) = 0 ∧ v = some (.int 0) ∧ M' = (wF M 633 0 0)) ∨ (¬ ((G_140 (wF M 633 0 0) k 0 2) = 0) ∧ (rI M 638 k) = 0 ∧ (0 ≤ k.toInt ∧ k.toInt < 3) ∧ v = some (.int 0) ∧ M' = (wF M 633 0 0)) ∨ (¬ ((G_140 (wF M 633 0 0) k 0 2) = 0) ∧ ¬ ((rI M 638 k) = 0) ∧ (0 ≤ k.toInt ∧ k.toInt < 3) ∧ Ev none e 247 27 [some (.ref 633), some (.int k), some (.int 0)] [] (wF M 633 0 0) v M' 0 0) := by
  have H : Ev none e 247 2 [some (.ref 633), some (.int k), none] [.int 0, .ref 633] M v M' 0 0 := Ev.back 2 (fun n => rfl) H
  obtain ⟨N2, eN2⟩ : ∃ N, N = (wF M 633 0 0) := ⟨_, rfl⟩
  have hN2 : SQ N2 := by rw [eN2]; exact hS.kf
  have H : Ev none e 247 5 [some (.ref 633), some (.int k), none] [] N2 v M' 0 0 := by rw [eN2]; exact Ev.pfi rfl rfl rfl hS.1 qa_633 qi_61_0 H
  have H : Ev none e 247 8 [some (.ref 633), some (.int k), none] [.int 2, .int 0, .int k] N2 v M' 0 0 := Ev.back 3 (fun n => rfl) H
  obtain ⟨e1, rfl⟩ := Ev.dpos rfl rfl H
  obtain ⟨vK3, MK3, K3, H⟩ := Ev.callb (fun n => rfl) H
  obtain ⟨pK3, qK3⟩ := g_140 hN2 K3
  rw [pK3, qK3] at H
  have H : Ev none (e1 + 1) 247 11 [some (.ref 633), some (.int k), none] [.int (G_140 N2 k 0 2)] N2 v M' 0 0 := H
  have H : Ev none (e1 + 1) 247 (if (G_140 N2 k 0 2) = 0 then 23 else 14) [some (.ref 633), some (.int k), none] [] N2 v M' 0 0 := Ev.back 1 (fun n => rfl) H
  by_cases h4 : (G_140 N2 k 0 2) = 0
  · rw [if_pos h4] at H
    have H : Ev none (e1 + 1) 247 24 [some (.ref 633), some (.int k), none] [.int 0] N2 v M' 0 0 := Ev.back 1 (fun n => rfl) H
    obtain ⟨z1, z2⟩ := Ev.retz rfl rfl H
    subst eN2
    exact Or.inl ⟨h4, z1, z2⟩
  · rw [if_neg h4] at H
    have H : Ev none (e1 + 1) 247 15 [some (.ref 633), some (.int k), none] [.ref 633] N2 v M' 0 0 := Ev.back 1 (fun n => rfl) H
    have H : Ev none (e1 + 1) 247 18 [some (.ref 633), some (.int k), none] [.ref 638] N2 v M' 0 0 := Ev.back 1 (gs_3 rfl rfl (gf_u hN2.1 qa_633 qr_61_8 qu_66 rfl)) H
    have H : Ev none (e1 + 1) 247 19 [some (.ref 633), some (.int k), none] [.int k, .ref 638] N2 v M' 0 0 := Ev.back 1 (fun n => rfl) H
    obtain ⟨b5, H⟩ := Ev.bal rfl rfl hN2.1 qa_638 qw_66 (Or.inr rfl) H
    have H : Ev none (e1 + 1) 247 20 [some (.ref 633), some (.int k), none] [.int (rI N2 638 k)] N2 v M' 0 0 := H
    rw [show rI N2 638 k = rI M 638 k from by rw [eN2]; exact rN_wF] at H
    have H : Ev none (e1 + 1) 247 (if (rI M 638 k) = 0 then 23 else 25) [some (.ref 633), some (.int k), none] [] N2 v M' 0 0 := Ev.back 1 (fun n => rfl) H
    by_cases h6 : (rI M 638 k) = 0
    · rw [if_pos h6] at H
      have H : Ev none (e1 + 1) 247 24 [some (.ref 633), some (.int k), none] [.int 0] N2 v M' 0 0 := Ev.back 1 (fun n => rfl) H
      obtain ⟨z1, z2⟩ := Ev.retz rfl rfl H
      subst eN2
      exact Or.inr (Or.inl ⟨h4, h6, b5, z1, z2⟩)
    · rw [if_neg h6] at H
      have H : Ev none (e1 + 1) 247 27 [some (.ref 633), some (.int k), some (.int 0)] [] N2 v M' 0 0 := Ev.back 2 (fun n => rfl) H
      have HF := H
      subst eN2
      exact Or.inr (Or.inr (⟨h4, h6, b5, HF⟩))
theorem rre_27 {e : Nat} {M M' : Mem} {v : Option Value} {k i : Int32} (hS : SQ M) (H : Ev none e 247 27 [some (.ref 633), some (.int k), some (.int i)] [] M v M' 0 0) : (2314 ≤ i ∧ v = some (.int 1) ∧ M' = M) ∨ (¬ (2314 ≤ i) ∧ (0 ≤ ((2314 * k) + i).toInt ∧ ((2314 * k) + i).toInt < 6942) ∧ (0 ≤ i.toInt ∧ i.toInt < 2314) ∧ Ev none e 247 27 [some (.ref 633), some (.int k), some (.int (i + 1))] [] (wI M 635 i.toNatClampNeg (rI M 636 ((2314 * k) + i))) v M' 0 0) := by
  have H : Ev none e 247 (if 2314 ≤ i then 58 else 34) [some (.ref 633), some (.int k), some (.int i)] [] M v M' 0 0 := Ev.back 3 (fun n => rfl) H
  by_cases h1 : 2314 ≤ i
  · rw [if_pos h1] at H
    have H : Ev none e 247 59 [some (.ref 633), some (.int k), some (.int i)] [.int 1] M v M' 0 0 := Ev.back 1 (fun n => rfl) H
    obtain ⟨z1, z2⟩ := Ev.retz rfl rfl H
    exact Or.inl ⟨h1, z1, z2⟩
  · rw [if_neg h1] at H
    have H : Ev none e 247 35 [some (.ref 633), some (.int k), some (.int i)] [.ref 633] M v M' 0 0 := Ev.back 1 (fun n => rfl) H
    have H : Ev none e 247 38 [some (.ref 633), some (.int k), some (.int i)] [.ref 635] M v M' 0 0 := Ev.back 1 (gs_3 rfl rfl (gf_u hS.1 qa_633 qr_61_5 qu_63 rfl)) H
    have H : Ev none e 247 40 [some (.ref 633), some (.int k), some (.int i)] [.ref 633, .int i, .ref 635] M v M' 0 0 := Ev.back 2 (fun n => rfl) H
    have H : Ev none e 247 43 [some (.ref 633), some (.int k), some (.int i)] [.ref 636, .int i, .ref 635] M v M' 0 0 := Ev.back 1 (gs_3 rfl rfl (gf_u hS.1 qa_633 qr_61_6 qu_64 rfl)) H
    have H : Ev none e 247 50 [some (.ref 633), some (.int k), some (.int i)] [.int ((2314 * k) + i), .ref 636, .int i, .ref 635] M v M' 0 0 := Ev.back 5 (fun n => rfl) H
    obtain ⟨b2, H⟩ := Ev.ial rfl rfl hS.1 qa_636 qw_64 H
    have H : Ev none e 247 51 [some (.ref 633), some (.int k), some (.int i)] [.int (rI M 636 ((2314 * k) + i)), .int i, .ref 635] M v M' 0 0 := H
    obtain ⟨b3, H⟩ := Ev.ias rfl rfl hS.1 qa_635 qw_63 H
    obtain ⟨N4, eN4⟩ : ∃ N, N = (wI M 635 i.toNatClampNeg (rI M 636 ((2314 * k) + i))) := ⟨_, rfl⟩
    have hN4 : SQ N4 := by rw [eN4]; exact hS.ki
    have H : Ev none e 247 52 [some (.ref 633), some (.int k), some (.int i)] [] N4 v M' 0 0 := by rw [eN4]; exact H
    have H : Ev none e 247 27 [some (.ref 633), some (.int k), some (.int (i + 1))] [] N4 v M' 0 0 := Ev.back 2 (fun n => rfl) H
    have HF := H
    subst eN4
    exact Or.inr (⟨h1, b2, b3, HF⟩)
theorem las_0 {e : Nat} {M M' : Mem} {v : Option Value} (hS : SQ M) (H : Ev none e 153 0 [some (.ref 633), none] [] M v M' 0 0) : Ev none e 153 2 [some (.ref 633), some (.int 0)] [] M v M' 0 0 := by
  have H : Ev none e 153 2 [some (.ref 633), some (.int 0)] [] M v M' 0 0 := Ev.back 2 (fun n => rfl) H
  have HF := H
  exact HF
theorem las_2 {e : Nat} {M M' : Mem} {v : Option Value} {i : Int32} (hS : SQ M) (H : Ev none e 153 2 [some (.ref 633), some (.int i)] [] M v M' 0 0) : (2314 ≤ i ∧ v = none ∧ M' = M) ∨ (¬ (2314 ≤ i) ∧ (0 ≤ i.toInt ∧ i.toInt < 2314) ∧ (0 ≤ i.toInt ∧ i.toInt < 2314) ∧ Ev none e 153 2 [some (.ref 633), some (.int (i + 1))] [] (wI M 637 i.toNatClampNeg (rI M 635 i)) v M' 0 0) := by
  have H : Ev none e 153 (if 2314 ≤ i then 27 else 9) [some (.ref 633), some (.int i)] [] M v M' 0 0 := Ev.back 3 (fun n => rfl) H
  by_cases h1 : 2314 ≤ i
  · rw [if_pos h1] at H
    obtain ⟨z1, z2⟩ := Ev.retb (fun n => rfl) H
    exact Or.inl ⟨h1, z1, z2⟩
  · rw [if_neg h1] at H
    have H : Ev none e 153 10 [some (.ref 633), some (.int i)] [.ref 633] M v M' 0 0 := Ev.back 1 (fun n => rfl) H
    have H : Ev none e 153 13 [some (.ref 633), some (.int i)] [.ref 637] M v M' 0 0 := Ev.back 1 (gs_3 rfl rfl (gf_u hS.1 qa_633 qr_61_7 qu_65 rfl)) H
    have H : Ev none e 153 15 [some (.ref 633), some (.int i)] [.ref 633, .int i, .ref 637] M v M' 0 0 := Ev.back 2 (fun n => rfl) H
    have H : Ev none e 153 18 [some (.ref 633), some (.int i)] [.ref 635, .int i, .ref 637] M v M' 0 0 := Ev.back 1 (gs_3 rfl rfl (gf_u hS.1 qa_633 qr_61_5 qu_63 rfl)) H
    have H : Ev none e 153 19 [some (.ref 633), some (.int i)] [.int i, .ref 635, .int i, .ref 637] M v M' 0 0 := Ev.back 1 (fun n => rfl) H
    obtain ⟨b2, H⟩ := Ev.ial rfl rfl hS.1 qa_635 qw_63 H
    have H : Ev none e 153 20 [some (.ref 633), some (.int i)] [.int (rI M 635 i), .int i, .ref 637] M v M' 0 0 := H
    obtain ⟨b3, H⟩ := Ev.ias rfl rfl hS.1 qa_637 qw_65 H
    obtain ⟨N4, eN4⟩ : ∃ N, N = (wI M 637 i.toNatClampNeg (rI M 635 i)) := ⟨_, rfl⟩
    have hN4 : SQ N4 := by rw [eN4]; exact hS.ki
    have H : Ev none e 153 21 [some (.ref 633), some (.int i)] [] N4 v M' 0 0 := by rw [eN4]; exact H
    have H : Ev none e 153 2 [some (.ref 633), some (.int (i + 1))] [] N4 v M' 0 0 := Ev.back 2 (fun n => rfl) H
    have HF := H
    subst eN4
    exact Or.inr (⟨h1, b2, b3, HF⟩)
theorem lbk_0 {e : Nat} {M M' : Mem} {v : Option Value} (hS : SQ M) (H : Ev none e 154 0 [some (.ref 633), none] [] M v M' 0 0) : Ev none e 154 2 [some (.ref 633), some (.int 0)] [] M v M' 0 0 := by
  have H : Ev none e 154 2 [some (.ref 633), some (.int 0)] [] M v M' 0 0 := Ev.back 2 (fun n => rfl) H
  have HF := H
  exact HF
theorem lbk_2 {e : Nat} {M M' : Mem} {v : Option Value} {i : Int32} (hS : SQ M) (H : Ev none e 154 2 [some (.ref 633), some (.int i)] [] M v M' 0 0) : (2314 ≤ i ∧ v = none ∧ M' = M) ∨ (¬ (2314 ≤ i) ∧ (0 ≤ i.toInt ∧ i.toInt < 2314) ∧ (0 ≤ i.toInt ∧ i.toInt < 2314) ∧ Ev none e 154 2 [some (.ref 633), some (.int (i + 1))] [] (wI M 635 i.toNatClampNeg (rI M 637 i)) v M' 0 0) := by
  have H : Ev none e 154 (if 2314 ≤ i then 27 else 9) [some (.ref 633), some (.int i)] [] M v M' 0 0 := Ev.back 3 (fun n => rfl) H
  by_cases h1 : 2314 ≤ i
  · rw [if_pos h1] at H
    obtain ⟨z1, z2⟩ := Ev.retb (fun n => rfl) H
    exact Or.inl ⟨h1, z1, z2⟩
  · rw [if_neg h1] at H
    have H : Ev none e 154 10 [some (.ref 633), some (.int i)] [.ref 633] M v M' 0 0 := Ev.back 1 (fun n => rfl) H
    have H : Ev none e 154 13 [some (.ref 633), some (.int i)] [.ref 635] M v M' 0 0 := Ev.back 1 (gs_3 rfl rfl (gf_u hS.1 qa_633 qr_61_5 qu_63 rfl)) H
    have H : Ev none e 154 15 [some (.ref 633), some (.int i)] [.ref 633, .int i, .ref 635] M v M' 0 0 := Ev.back 2 (fun n => rfl) H
    have H : Ev none e 154 18 [some (.ref 633), some (.int i)] [.ref 637, .int i, .ref 635] M v M' 0 0 := Ev.back 1 (gs_3 rfl rfl (gf_u hS.1 qa_633 qr_61_7 qu_65 rfl)) H
    have H : Ev none e 154 19 [some (.ref 633), some (.int i)] [.int i, .ref 637, .int i, .ref 635] M v M' 0 0 := Ev.back 1 (fun n => rfl) H
    obtain ⟨b2, H⟩ := Ev.ial rfl rfl hS.1 qa_637 qw_65 H
    have H : Ev none e 154 20 [some (.ref 633), some (.int i)] [.int (rI M 637 i), .int i, .ref 635] M v M' 0 0 := H
    obtain ⟨b3, H⟩ := Ev.ias rfl rfl hS.1 qa_635 qw_63 H
    obtain ⟨N4, eN4⟩ : ∃ N, N = (wI M 635 i.toNatClampNeg (rI M 637 i)) := ⟨_, rfl⟩
    have hN4 : SQ N4 := by rw [eN4]; exact hS.ki
    have H : Ev none e 154 21 [some (.ref 633), some (.int i)] [] N4 v M' 0 0 := by rw [eN4]; exact H
    have H : Ev none e 154 2 [some (.ref 633), some (.int (i + 1))] [] N4 v M' 0 0 := Ev.back 2 (fun n => rfl) H
    have HF := H
    subst eN4
    exact Or.inr (⟨h1, b2, b3, HF⟩)
/-! THE REFERENCE'S calls on its park -/
section RCAL
variable {e B : Nat} {T : TS} {P Q : PK} {M M1 M' : Mem} {v : Option Value} {c k d x a b h ev fi t : Int32} {n i j : Nat} {ss : List Int32} {w dd : Int32} {f0 : Bool}
theorem RST.w0 (h : RST T P M) (j : Nat) (hj : j < 28 ∨ 31 ≤ j) (y : Int32) : RST T P (wF M 633 j y) := h.fz h.1.kf (FZ.wF (F := fun a k => a = 633 ∧ k = j) (W := noO) (O := noO) ⟨rfl, rfl⟩) (fun k k1 k2 q => by have := q.2; omega) (fun _ _ q => q)
theorem rda_l (h : RST T P M) (n9 : (P 2).toInt ≤ 9) : ∀ (n k : Nat) (kz : Int32), kz.toInt = (k : Int) → (k : Int) + (n : Int) = (P 2).toInt → Ev none e 157 2 [some (.ref 633), some (.int c), some (.int kz)] [] M v M' 0 0 → M' = M ∧ v = some (.int (bI (hdP P c n k))) := by
  have e2 : rI M 635 2 = P 2 := r_s h (n := 2) rfl (by decide)
  have t3 : (3 : Int32).toInt = 3 := rfl
  intro n
  induction n with
  | zero =>
    intro k kz hk hn H
    rcases rda_2 h.1 H with ⟨_, _, r1, r2⟩ | ⟨a1, _⟩ | ⟨a1, _⟩
    · exact ⟨r2, r1⟩
    all_goals exact absurd (Int32.le_iff_toInt_le.mpr (by rw [e2]; omega)) a1
  | succ n ih =>
    intro k kz hk hn H
    have e3 : (3 + kz).toInt = ((3 + k : Nat) : Int) := by rw [i32_add (by omega) (by omega)]; omega
    have er : rI M 635 (3 + kz) = P (3 + k) := r_s h e3 (by omega)
    unfold hdP
    rcases rda_2 h.1 H with ⟨a1, _⟩ | ⟨_, a2, _, _, r1, r2⟩ | ⟨_, a2, _, _, H⟩
    · have := Int32.le_iff_toInt_le.mp a1
      rw [e2] at this
      omega
    · rw [er] at a2
      rw [if_pos a2]
      exact ⟨r2, r1⟩
    · rw [er] at a2
      rw [if_neg a2]
      exact ih (k + 1) (kz + 1) (by rw [i32_p1 (by omega)]; omega) (by omega) H
theorem rda_ok (h : RST T P M) (hD : okD P) (H : Ev none e 157 0 [some (.ref 633), some (.int c), none] [] M v M' 0 0) : M' = M ∧ v = some (.int (bI (hasP P c))) := rda_l h hD.2.1.2.1 (P 2).toInt.toNat 0 0 rfl (by have := hD.2.1.1; omega) (rda_0 h.1 H)
theorem rwa_l (h : RST T P M) (n60 : (P 157).toInt ≤ 60) : ∀ (n k : Nat) (kz : Int32), kz.toInt = (k : Int) → (k : Int) + (n : Int) = (P 157).toInt → Ev none e 158 2 [some (.ref 633), some (.int c), some (.int kz)] [] M v M' 0 0 → M' = M ∧ v = some (.int (bI (wkrP P c n k))) := by
  have e2 : rI M 635 157 = P 157 := r_s h (n := 157) rfl (by decide)
  have t6 : (6 : Int32).toInt = 6 := rfl
  have t158 : (158 : Int32).toInt = 158 := rfl
  intro n
  induction n with
  | zero =>
    intro k kz hk hn H
    rcases rwa_2 h.1 H with ⟨_, _, r1, r2⟩ | ⟨a1, _⟩ | ⟨a1, _⟩
    · exact ⟨r2, r1⟩
    all_goals exact absurd (Int32.le_iff_toInt_le.mpr (by rw [e2]; omega)) a1
  | succ n ih =>
    intro k kz hk hn H
    have m6 : (6 * kz).toInt = 6 * kz.toInt := i32_mul (by rw [t6]; omega) (by rw [t6]; omega)
    have e3 : (158 + 6 * kz).toInt = ((158 + 6 * k : Nat) : Int) := by rw [i32_add (by omega) (by omega), m6]; omega
    have er : rI M 635 (158 + 6 * kz) = P (158 + 6 * k) := r_s h e3 (by omega)
    unfold wkrP
    rcases rwa_2 h.1 H with ⟨a1, _⟩ | ⟨_, a2, _, _, r1, r2⟩ | ⟨_, a2, _, _, H⟩
    · have := Int32.le_iff_toInt_le.mp a1
      rw [e2] at this
      omega
    · rw [er] at a2
      rw [if_pos a2]
      exact ⟨r2, r1⟩
    · rw [er] at a2
      rw [if_neg a2]
      exact ih (k + 1) (kz + 1) (by rw [i32_p1 (by omega)]; omega) (by omega) H
theorem rwa_ok (h : RST T P M) (hK : okK P) (H : Ev none e 158 0 [some (.ref 633), some (.int c), none] [] M v M' 0 0) : M' = M ∧ v = some (.int (bI (wthP P c))) := rwa_l h hK.2.1 (P 157).toInt.toNat 0 0 rfl (by have := hK.1; omega) (rwa_0 h.1 H)
theorem g140_R {lo hi : Int32} : G_140 M x lo hi = 0 ↔ ¬ inX x lo hi := g126_R (M := M)
theorem g145_ok (h : RST T P M) (hw : wh4 P) : G_145 M c = 0 ↔ ¬ inC P c := by
  obtain ⟨_, c256, c16⟩ := cls_int hw
  have hg := g144_ok h hw
  have e1 : (G_144 M - 1).toInt = (clsP P : Int) - 1 := by rw [i32_m1 (by omega)]; omega
  unfold G_145
  rw [g140_R]
  unfold inX inC
  have t0 : (0 : Int32).toInt = 0 := rfl
  rw [e1, t0]
  constructor
  · exact fun q r => q ⟨r.1, by omega⟩
  · exact fun q r => q ⟨r.1, by omega⟩
theorem g152_ok (h : RST T P M) (hD : okD P) : G_152 M d = 0 ↔ ¬ inD P d := by
  have e2 : rI M 635 2 = P 2 := r_s h (n := 2) rfl (by decide)
  have h0 := hD.2.1.1
  have e1 : (rI M 635 2 - 1).toInt = (P 2).toInt - 1 := by rw [e2, i32_m1 (by omega)]
  unfold G_152
  rw [g140_R]
  unfold inX inD
  have t0 : (0 : Int32).toInt = 0 := rfl
  rw [e1, t0]
  constructor
  · exact fun q r => q ⟨r.1, by omega⟩
  · exact fun q r => q ⟨r.1, by omega⟩
theorem g189_ok (h : RST T P M) (hD : okD P) : G_189 M k = 1 ↔ isW P k := by
  have e2 : rI M 635 12 = P 12 := r_s h (n := 12) rfl (by decide)
  have h0 := hD.2.2.1
  have h24 := hD.2.2.2.1
  have e1 : (rI M 635 12 - 1).toInt = (P 12).toInt - 1 := by rw [e2, i32_m1 (by omega)]
  have t0 : (0 : Int32).toInt = 0 := rfl
  have o : ¬ ((0 : Int32) = 1) := by decide
  unfold G_189 isW
  by_cases hin : G_140 M k 0 (rI M 635 12 - 1) = 0
  · rw [if_pos hin]
    rw [g140_R] at hin
    unfold inX at hin
    rw [e1, t0] at hin
    exact ⟨fun q => absurd q o, fun q => absurd ⟨q.1.1, by omega⟩ hin⟩
  · rw [if_neg hin]
    rw [g140_R, Classical.not_not] at hin
    unfold inX at hin
    rw [e1, t0] at hin
    have t6 : (6 : Int32).toInt = 6 := rfl
    have t13 : (13 : Int32).toInt = 13 := rfl
    have t5 : (5 : Int32).toInt = 5 := rfl
    have m6 : (6 * k).toInt = 6 * k.toInt := i32_mul (by rw [t6]; omega) (by rw [t6]; omega)
    have m13 : (13 + 6 * k).toInt = 13 + 6 * k.toInt := by rw [i32_add (by omega) (by omega), m6]; omega
    have e3 : (13 + 6 * k + 5).toInt = ((13 + 6 * k.toInt.toNat + 5 : Nat) : Int) := by rw [i32_add (by omega) (by omega), m13]; omega
    rw [r_s h e3 (by omega)]
    by_cases h5 : P (13 + 6 * k.toInt.toNat + 5) = 1
    · rw [if_pos h5]
      exact ⟨fun _ => ⟨⟨hin.1, by omega⟩, h5⟩, fun _ => rfl⟩
    · rw [if_neg h5]
      exact ⟨fun q => absurd q o, fun q => absurd q.2 h5⟩
theorem rdoor_ok (h : RST T P M) (hD : okD P) (H : Ev none e 156 0 [some (.ref 633), some (.int c)] [] M v M' 0 0) : (dorN P c ∧ v = some (.int (-1)) ∧ RST T P M') ∨ (¬ dorN P c ∧ v = some (.int (P 2)) ∧ RST T (dorP P c) M') := by
  have hw := hD.1
  have e2 : rI M 635 2 = P 2 := r_s h (n := 2) rfl (by decide)
  have h0 := h.w0 0 (by decide) 0
  unfold dorN
  rcases rdo_0 h.1 H with ⟨a1, _, r1, r2⟩ | ⟨_, a1, _, r1, r2⟩ | ⟨_, a0, a1, _, r1, r2⟩ | ⟨a1, a2, a3, _, e1, v1, M1, rfl, H1, H⟩
  · rw [e2] at a1
    exact Or.inl ⟨Or.inl a1, r1, r2 ▸ h0⟩
  · rw [g145_ok h0 hw] at a1
    exact Or.inl ⟨Or.inr (Or.inl a1), r1, r2 ▸ h0⟩
  · rw [g145_ok h0 hw, Classical.not_not] at a0
    rw [g148_ok h0 hw a0, bI_0] at a1
    exact Or.inl ⟨Or.inr (Or.inr (Or.inl a1)), r1, r2 ▸ h0⟩
  · rw [e2] at a1
    rw [g145_ok h0 hw, Classical.not_not] at a2
    rw [g148_ok h0 hw a2, bI_0] at a3
    obtain ⟨rfl, rfl⟩ := rda_ok h0 hD H1
    have e2' : rI (wF M 633 0 0) 635 2 = P 2 := r_s h0 (n := 2) rfl (by decide)
    have b0 := hD.2.1.1
    have b9 := hD.2.1.2.1
    have t9 : (9 : Int32).toInt = 9 := rfl
    have n9 : (P 2).toInt ≠ 9 := fun q => a1 (Int32.toInt_inj.mp (q.trans t9.symm))
    rcases rdo_37 h0.1 H with ⟨a4, _, _, _, _, _, r1, r2⟩ | ⟨a4, r1, r2⟩
    · rw [bI_0] at a4
      have t3 : (3 : Int32).toInt = 3 := rfl
      have ix : (3 + rI (wF M 633 0 0) 635 2).toNatClampNeg = 3 + (P 2).toInt.toNat := cl_n (by rw [e2', i32_add (by omega) (by omega)]; omega)
      have i2 : (2 : Int32).toNatClampNeg = 2 := rfl
      rw [ix, i2] at r1 r2
      have u1 := h0.up (i := 3 + (P 2).toInt.toNat) (by omega) (x := c)
      have e2u : rI (wI (wF M 633 0 0) 635 (3 + (P 2).toInt.toNat) c) 635 2 = P 2 := (r_s u1 (n := 2) rfl (by decide)).trans (up_ne (by omega))
      rw [e2u] at r1 r2
      have u2 := u1.up (i := 2) (by decide) (x := P 2 + 1)
      have e2v : rI (wI (wI (wF M 633 0 0) 635 (3 + (P 2).toInt.toNat) c) 635 2 (P 2 + 1)) 635 2 = P 2 + 1 := (r_s u2 (n := 2) rfl (by decide)).trans up_eq
      rw [e2v] at r1
      refine Or.inr ⟨fun q => ?_, ?_, r2 ▸ u2⟩
      · rcases q with q | q | q | q
        · exact a1 q
        · exact q a2
        · exact a3 q
        · rw [a4] at q; cases q
      · rw [r1]
        have : P 2 + 1 - 1 = P 2 := by grind
        rw [this]
    · rw [bI_0, Bool.not_eq_false] at a4
      exact Or.inl ⟨Or.inr (Or.inr (Or.inr a4)), r1, r2 ▸ h0⟩
theorem rdrop_ok (h : RST T P M) (hD : okD P) (H : Ev none e 191 0 [some (.ref 633), some (.int k)] [] M v M' 0 0) : (¬ isW P k ∧ v = some (.int 0) ∧ RST T P M') ∨ (isW P k ∧ v = some (.int 1) ∧ RST T (drpP P k) M') := by
  have h0 := h.w0 0 (by decide) 0
  have o : ¬ ((0 : Int32) = 1) := by decide
  have b24 := hD.2.2.2.1
  rcases rdr_0 h.1 H with ⟨a1, r1, r2⟩ | ⟨a1, _, r1, r2⟩
  · exact Or.inl ⟨fun q => by rw [← g189_ok h0 hD, a1] at q; exact o q, r1, r2 ▸ h0⟩
  · have hW : isW P k := by
      rw [← g189_ok h0 hD]
      unfold G_189 at a1 ⊢
      split at a1
      · exact absurd rfl a1
      · rename_i q
        rw [if_neg q]
        split at a1
        · rename_i q2
          rw [if_pos q2]
        · exact absurd rfl a1
    have hW0 := hW
    obtain ⟨⟨k0, k1⟩, _⟩ := hW0
    have t6 : (6 : Int32).toInt = 6 := rfl
    have t13 : (13 : Int32).toInt = 13 := rfl
    have t5 : (5 : Int32).toInt = 5 := rfl
    have m6 : (6 * k).toInt = 6 * k.toInt := i32_mul (by rw [t6]; omega) (by rw [t6]; omega)
    have m13 : (13 + 6 * k).toInt = 13 + 6 * k.toInt := by rw [i32_add (by omega) (by omega), m6]; omega
    have ix : (13 + 6 * k + 5).toNatClampNeg = 13 + 6 * k.toInt.toNat + 5 := cl_n (by rw [i32_add (by omega) (by omega), m13]; omega)
    rw [ix] at r2
    exact Or.inr ⟨hW, r1, r2 ▸ h0.up (by omega)⟩
end RCAL
/-! THE REFERENCE'S run, week -/
section RRUN
variable {e : Nat} {T : TS} {P P' Q : PK} {M M1 M' : Mem} {v : Option Value} {c d t : Int32} {w dd : Int32} {f0 : Bool} {n k B : Nat}
theorem lea_hi {R : PK} {k : Nat} (h0 : 0 ≤ (R 157).toInt) (h60 : (R 157).toInt ≤ 60) {j : Nat} (hj : j < 157 ∨ 518 ≤ j) : leaP R k j = R j := by
  have hm : (R 157 - 1).toInt = (R 157).toInt - 1 := i32_m1 (by omega)
  unfold leaP
  rw [if_neg (by omega), if_neg (by rw [hm]; omega), if_neg (by rw [hm]; omega)]
theorem wlk_518 : ∀ (r k : Nat) (P : PK) (ss : List Int32), okD P → okK P → (k : Int) + (r : Int) = (P 157).toInt → (wlkP T r k (P, ss)).1 518 = P 518 ∧ okK (wlkP T r k (P, ss)).1 ∧ ∀ j, j < 157 → (wlkP T r k (P, ss)).1 j = P j := by
  intro r
  induction r with
  | zero => intro k P ss _ hK _; exact ⟨rfl, hK, fun _ _ => rfl⟩
  | succ r ih =>
    intro k P ss hD hK hn
    have h60 := hK.2.1
    have hkn : k < (P 157).toInt.toNat := by omega
    obtain ⟨R, eR⟩ : ∃ R, R = goeP T (P, ss) k := ⟨_, rfl⟩
    have hlo : ∀ j, (j < 158 ∨ j = 518 ∨ j = 521) → R.1.1 j = P j := by rw [eR]; exact goe_lo hK hkn
    have hK2 : okK R.1.1 := by rw [eR]; exact goe_K hD hK hkn
    have hD2 : okD R.1.1 := hD.sb (fun j hj => hlo j (by omega))
    have h157' : R.1.1 157 = P 157 := hlo 157 (by omega)
    have hw : wlkP T (r + 1) k (P, ss) = (if R.2 = true then wlkP T r (k + 1) R.1 else wlkP T r k (leaP R.1.1 k, R.1.2)) := by rw [eR]; rfl
    rw [hw]
    by_cases hb : R.2 = true
    · rw [if_pos hb]
      obtain ⟨u1, u2, u3⟩ := ih (k + 1) R.1.1 R.1.2 hD2 hK2 (by rw [h157']; omega)
      exact ⟨u1.trans (hlo 518 (by omega)), u2, fun j hj => (u3 j hj).trans (hlo j (by omega))⟩
    · rw [if_neg hb]
      have q : ∀ j, (j < 157 ∨ 518 ≤ j) → leaP R.1.1 k j = R.1.1 j := fun j hj => lea_hi hK2.1 hK2.2.1 hj
      have hl157 : leaP R.1.1 k 157 = R.1.1 157 - 1 := by unfold leaP; rw [if_pos rfl]
      have hm : (R.1.1 157 - 1).toInt = (R.1.1 157).toInt - 1 := i32_m1 (by rw [h157']; omega)
      obtain ⟨u1, u2, u3⟩ := ih k (leaP R.1.1 k) R.1.2 (hD2.sb (fun j hj => q j (Or.inl hj))) (hK2.lea (by rw [h157']; exact hkn)) (by rw [hl157, hm, h157']; omega)
      exact ⟨u1.trans ((q 518 (by omega)).trans (hlo 518 (by omega))), u2, fun j hj => (u3 j hj).trans ((q j (Or.inl hj)).trans (hlo j (by omega)))⟩
theorem beg_K : ∀ (n k : Nat) (P : PK), okD P → okK P → (k : Int) + (n : Int) = (P 12).toInt → okK (begP n k P) := by
  intro n
  induction n with
  | zero => intro k P _ hK _; exact hK
  | succ n ih =>
    intro k P hD hK hn
    have hkn : k < (P 12).toInt.toNat := by omega
    unfold begP
    split
    · split
      · exact ih (k + 1) _ (hD.sb (fun j hj => up_ne (by omega))) (hK.far (fun j hj => up_ne (by omega))) (by rw [up_ne (by decide)]; omega)
      · rename_i hm
        have hK' := hK.new hD hkn hm
        have q : ∀ j, j < 157 → newP P k j = P j := fun j hj => by
          unfold newP
          rw [up_ne (by omega), up_ne (by omega), up_ne (by omega), up_ne (by omega), up_ne (by omega), up_ne (by omega)]
        exact ih (k + 1) _ (hD.sb q) hK' (by rw [q 12 (by decide)]; omega)
    · exact ih (k + 1) P hD hK (by omega)
theorem tck_518 {ss : List Int32} (hD : okD P) (hK : okK P) : (tckP T (P, ss)).1 518 = P 518 + 1 := by
  have h12 := hD.2.2.1
  have bk := beg_keep (P 12).toInt.toNat 0 P hK.1 hK.2.1
  have hK1 : okK (bg0P P) := beg_K (P 12).toInt.toNat 0 P hD hK (by omega)
  have hD1 : okD (bg0P P) := hD.sb (fun j hj => bk j (Or.inl hj))
  have q := (wlk_518 (T := T) (bg0P P 157).toInt.toNat 0 (bg0P P) ss hD1 hK1 (by have := hK1.1; omega)).1
  unfold tckP
  dsimp only
  rw [up_eq, q]
  exact congrArg (· + 1) (bk 518 (by omega))
theorem tck_keep {p : PS} (hD : okD p.1) (hK : okK p.1) : okD (tckP T p).1 ∧ okK (tckP T p).1 := by
  obtain ⟨P, ss⟩ := p
  have hD : okD P := hD
  have hK : okK P := hK
  have h12 := hD.2.2.1
  have bk := beg_keep (P 12).toInt.toNat 0 P hK.1 hK.2.1
  have hK1 : okK (bg0P P) := beg_K (P 12).toInt.toNat 0 P hD hK (by omega)
  have hD1 : okD (bg0P P) := hD.sb (fun j hj => bk j (Or.inl hj))
  obtain ⟨_, q2, q3⟩ := wlk_518 (T := T) (bg0P P 157).toInt.toNat 0 (bg0P P) ss hD1 hK1 (by have := hK1.1; omega)
  unfold tckP
  dsimp only
  exact ⟨(hD1.sb q3).sb (fun j hj => up_ne (by omega)), q2.far (fun j hj => up_ne (by omega))⟩
theorem rrun_l : ∀ (r k : Nat) (iz : Int32) (P : PK) (ss : List Int32) (M : Mem), RST T P M → okD P → okK P → WFr w f0 ss M → ARn dd P M → iz.toInt = (k : Int) → t.toInt = (k : Int) + (r : Int) → Ev none e 207 41 [some (.ref 633), some (.int t), some (.int iz)] [] M v M' 0 0 → v = some (.int ((tksP T r (P, ss)).1 519 + dd)) ∧ RST T (tksP T r (P, ss)).1 M' ∧ okD (tksP T r (P, ss)).1 ∧ okK (tksP T r (P, ss)).1 ∧ FZ rkF rkW noO M M' ∧ WFr w f0 (tksP T r (P, ss)).2 M' ∧ ∀ j, j < 157 → (tksP T r (P, ss)).1 j = P j := by
  intro r
  induction r with
  | zero =>
    intro k iz P ss M hR hD hK hf ha hk hn H
    rcases rrn_41 hR.1 H with ⟨_, r1, r2⟩ | ⟨a1, _⟩
    · rw [show zI M 633 41 = P 519 + dd from ha] at r1
      rw [r2]
      exact ⟨r1, hR, hD, hK, FZ.refl _, hf, fun _ _ => rfl⟩
    · exact absurd (Int32.le_iff_toInt_le.mpr (by omega)) a1
  | succ r ih =>
    intro k iz P ss M hR hD hK hf ha hk hn H
    have ub := i32_any t
    rcases rrn_41 hR.1 H with ⟨a1, _⟩ | ⟨_, e1, v1, M1, _, H1, H⟩
    · have := Int32.le_iff_toInt_le.mp a1
      omega
    · obtain ⟨rv, q2, q3, q4, q5, q6, q7, q8⟩ := rtick_ok hR hD hK hf ha H1
      rw [rv] at H
      have H := rrn_50 q2.1 H
      obtain ⟨s1, s2, s3, s4, s5, s6, s7⟩ := ih (k + 1) (iz + 1) (tckP T (P, ss)).1 (tckP T (P, ss)).2 M1 q2 q3 q4 q6 q7 (by rw [i32_p1 (by omega)]; omega) (by omega) H
      exact ⟨s1, s2, s3, s4, q5.trans s5, s6, fun j hj => (s7 j hj).trans (q8 j hj)⟩
theorem tks_518 : ∀ (r : Nat) (P : PK) (ss : List Int32), okD P → okK P → (∀ p : PS, okD p.1 → okK p.1 → okD (tckP T p).1 ∧ okK (tckP T p).1) → ((P 518).toInt + r ≤ 100000) → 0 ≤ (P 518).toInt → ((tksP T r (P, ss)).1 518).toInt = (P 518).toInt + r := by
  intro r
  induction r with
  | zero =>
    intro P ss _ _ _ _ _
    show (P 518).toInt = _
    omega
  | succ r ih =>
    intro P ss hD hK hc h1 h0
    obtain ⟨d1, k1⟩ := hc (P, ss) hD hK
    have q : ((tckP T (P, ss)).1 518).toInt = (P 518).toInt + 1 := by rw [tck_518 hD hK]; exact i32_p1 (by omega)
    have := ih (tckP T (P, ss)).1 (tckP T (P, ss)).2 d1 k1 hc (by omega) (by omega)
    show ((tksP T r (tckP T (P, ss))).1 518).toInt = _
    rw [this]
    omega
theorem rrun_ok (hR : RST T P M) (hD : okD P) (hK : okK P) (ht : 0 ≤ (P 518).toInt ∧ (P 518).toInt ≤ 60000) (h42 : ∃ b, zI M 633 42 = bI b) (H : Ev none e 207 0 [some (.ref 633), some (.int t), none] [] M v M' 0 0) : (runN P t ∧ v = some (.int (-1)) ∧ RST T P M') ∨ (¬ runN P t ∧ v = some (.int (runP T P t 519 - P 519)) ∧ RST T (runP T P t) M' ∧ okD (runP T P t) ∧ okK (runP T P t)) := by
  have h0 := hR.w0 0 (by decide) 0
  have e518 : rI M 635 518 = P 518 := r_s hR (n := 518) rfl (by decide)
  have t1 : (1 : Int32).toInt = 1 := rfl
  have t400 : (400 : Int32).toInt = 400 := rfl
  have tl : (60000 : Int32).toInt = 60000 := rfl
  unfold runN
  rcases rrn_0 hR.1 H with ⟨a1, r1, r2⟩ | ⟨a1, a2, _, H⟩ | ⟨a1, a2, _, r1, r2⟩
  · rw [g140_R] at a1
    exact Or.inl ⟨Or.inl a1, r1, r2 ▸ h0⟩
  · rw [g140_R, Classical.not_not] at a1
    unfold inX at a1
    rw [e518] at a2
    have hs : (P 518 + t).toInt = (P 518).toInt + t.toInt := i32_add (by omega) (by omega)
    have a2 := Int32.le_iff_toInt_le.mp a2
    obtain ⟨b, hb⟩ := h42
    have h1 := h0.w0 41 (by decide) 0
    have hf : WFr (zI M 633 40) b [] (wF (wF M 633 0 0) 633 41 0) := by
      refine ⟨?_, ?_⟩
      · rw [fI_wF_ne (by decide), fI_wF_ne (by decide)]
      · rw [fI_wF_ne (by decide), fI_wF_ne (by decide), hb, decide_eq_false (by simp), Bool.or_false]
    have ha : ARn (-(P 519)) P (wF (wF M 633 0 0) 633 41 0) := by
      unfold ARn
      rw [fI_wF_eq hR.1.kf.1 qa_633 qi_61_41]
      grind
    obtain ⟨s1, s2, s3, s4, _⟩ := rrun_l t.toInt.toNat 0 0 P [] _ h1 hD hK hf ha rfl (by omega) H
    refine Or.inr ⟨fun q => ?_, ?_, s2, s3, s4⟩
    · unfold inX at q
      omega
    · rw [s1]
      have : (tksP T t.toInt.toNat (P, [])).1 519 + -(P 519) = runP T P t 519 - P 519 := by unfold runP; grind
      rw [this]
  · rw [g140_R, Classical.not_not] at a1
    unfold inX at a1
    rw [e518] at a2
    have hs : (P 518 + t).toInt = (P 518).toInt + t.toInt := i32_add (by omega) (by omega)
    have a2 : ¬ (P 518).toInt + t.toInt ≤ 60000 := fun q => a2 (Int32.le_iff_toInt_le.mpr (by omega))
    exact Or.inl ⟨Or.inr (by omega), r1, r2 ▸ h0⟩
theorem wka_lo {g : TQ} : ∀ (n : Nat) (c : Int32) (P : PK) (j : Nat), j < 522 → wkaP g n c P j = P j := by
  intro n
  induction n with
  | zero => intro c P j _; rfl
  | succ n ih =>
    intro c P j hj
    unfold wkaP
    exact (ih (c + 1) _ j hj).trans (wk1_lo hj)
theorem wek_lo {g : TQ} (hw : wh4 P) : ∀ j, j < 522 → wekP g P j = P j := fun j hj => by
  obtain ⟨_, c256, _⟩ := cls_int hw
  have t0 : (0 : Int32).toInt = 0 := rfl
  exact ((zer_E (f := 5) (by decide) (clsP P) 0 (wkaP g (clsP P) 0 P) (by decide) (by omega)).2 j hj).trans (wka_lo _ _ _ j hj)
theorem rweek_ok (hR : RST T P M) (hD : okD P) (H : Ev none e 209 0 [some (.ref 633)] [] M v M' 0 0) : v = some (.int (nwP (T 0) (wekP (T 0) P))) ∧ RST T (wekP (T 0) P) M' := by
  obtain ⟨e1, v1, M1, _, H1, H⟩ := rwq_0 hR.1 H
  have h0 := hR.w0 0 (by decide) 0
  obtain ⟨rv, q2, _, _⟩ := rwek_ok h0 hD.1 H1
  rw [rv] at H
  obtain ⟨e2, v2, M2, _, H2, H⟩ := rwq_9 q2.1 H
  have lo : ∀ j, j < 522 → wekP (T 0) P j = P j := wek_lo hD.1
  have hw : wh4 (wekP (T 0) P) := hD.1.eq (lo 0 (by decide)) (lo 1 (by decide))
  obtain ⟨rm, rv2⟩ := rwmn_ok q2 hw H2
  rw [rv2, rm] at H
  obtain ⟨s1, s2⟩ := rwq_13 q2.1 H
  exact ⟨s1, s2 ▸ q2⟩
end RRUN
/-! THE CLASS'S run, week -/
section CRUN
variable {e B L : Nat} {T : TS} {P P' Q : PK} {PI : Nat → PK} {M M1 M' : Mem} {v : Option Value} {c k d x t : Int32} {n i j : Nat} {F : Nat → Nat → Prop} {W O : Nat → Prop}
/-- walking on the live land -/
theorem CST.wlk (h : CST T P PI M) (hF : FZ F W O M M') (fF : ∀ a k, F a k → (8 ≤ a ∧ a < 104) ∨ (a = 104 ∧ 7 ≤ k) ∨ a = 105) (fW : ∀ a, W a → (9 ≤ a ∧ a ≤ 17) ∨ (106 ≤ a ∧ a ≤ 108) ∨ a = 128 ∨ (130 ≤ a ∧ a ≤ 136)) (fO : ∀ a, O a → a = 19) (hG : GRI M') (hX : STA 8 T Q M') (hl : LST 8 Q M') (ok : okA Q) : CST T Q PI M' := by
  obtain ⟨a1, ⟨a2, a3, a4⟩, a5, a6, a7, a8, ⟨a9, a10⟩, a11⟩ := h
  have nf : ∀ a k, 137 ≤ a → ¬ F a k := fun a k ha q => by have := fF a k q; omega
  have nw : ∀ a, 137 ≤ a → ¬ W a := fun a ha q => by have := fW a q; omega
  have no : ∀ a, a ≠ 19 → ¬ O a := fun a ha q => ha (fO a q)
  refine ⟨hX.sq, ⟨(hF.fr (fun q => by have := fF _ _ q; omega)).trans a2, (hF.fr (fun q => by have := fF _ _ q; omega)).trans a3, fun k hk => (hF.on (no _ (by decide))).trans (a4 k hk)⟩, ⟨hX.1.2.2.2.2.2.1, hX.1.2.2.2.2.2.2.1⟩, hX.1.2.2.2.1, hG, fun L hL => ?_, ⟨ok, hX.lan hl⟩, fun k hk hr => ?_⟩
  · by_cases hL8 : L = 8
    · subst hL8
      exact ⟨hX.2.2.2.2.1, hX.2.2.2.2.2.1⟩
    · have hc := ld_cases hL
      exact ⟨fun k hk => (hF.on (no _ (by omega))).trans ((a8 L hL).1 k hk), (a8 L hL).2.on (fun j => hF.on (no _ (by omega)))⟩
  · have er : rN M' 340 k = rN M 340 k := hF.rn (nw _ (by decide))
    rw [er] at hr
    obtain ⟨b1, b2⟩ := a11 k hk hr
    have hi := lnd_im k hk
    exact ⟨b1, b2.fz hF (fun a k q1 q2 => nf _ _ (by unfold imgA at q1; omega)) (fun a q1 q2 => nw _ (by unfold imgA at q1; omega)) (no _ (by unfold imgA; omega)) (a8 _ hi).2 b1.n24 b1.k60⟩
theorem centr_ok (h : CST T P PI M) (H : Ev none e 54 0 [some (.ref 104), some (.ref 8)] [] M v M' 0 0) : v = none ∧ STA 8 T P M' ∧ LST 8 P M' ∧ FZ enF enW noO M M' ∧ GRI M' ∧ WFl (-1) [] M' := by
  have hD := h.ok.1
  obtain ⟨r1, r2, r3, r4, r5, _, _, r6⟩ := enter_ok h.sq lnd_8 hD.1 h.ok.2.2.2.nn h.2.2.2.2.1 h.2.2.2.1 h.2.2.1 h.lan h.wx h.wk h.ok.n24 h.ok.k60 H
  exact ⟨r1, r2, r3, r4, r5, r6⟩
theorem gof_tks {w : Int32} : ∀ (r : Nat) (p : PS), ¬ w ∈ (gofP T w r p).2 → gofP T w r p = tksP T r p := by
  intro r
  induction r with
  | zero => intro p _; rfl
  | succ r ih =>
    intro p h
    by_cases hw : w ∈ p.2
    · have e : gofP T w (r + 1) p = p := if_pos hw
      rw [e] at h
      exact absurd hw h
    · have e : gofP T w (r + 1) p = gofP T w r (tckP T p) := if_neg hw
      rw [e] at h ⊢
      exact ih _ h
theorem run_ok (h : CST T P PI M) (H : Ev none e 91 0 [some (.ref 0), some (.int t)] [] M v M' 0 0) : (runN P t ∧ v = some (.int (-1)) ∧ M' = M) ∨ (¬ runN P t ∧ v = some (.int (runP T P t 519 - P 519)) ∧ CST T (runP T P t) PI M') := by
  have hS := h.sq
  have hA := h.lan
  obtain ⟨hD, hK, ⟨q0, q6⟩, hE⟩ := h.ok
  have z16 : zI M 8 16 = P 518 := hA.2.1.1
  have t1 : (1 : Int32).toInt = 1 := rfl
  have t400 : (400 : Int32).toInt = 400 := rfl
  have tl : (60000 : Int32).toInt = 60000 := rfl
  unfold runN
  rcases rnn_0 hS h.ld H with ⟨a1, r1, r2⟩ | ⟨a1, a2, e1, v1, M1, _, H1, H⟩ | ⟨a1, a2, r1, r2⟩
  · rw [g126_R] at a1
    exact Or.inl ⟨Or.inl a1, r1, r2⟩
  · rw [g126_R, Classical.not_not] at a1
    unfold inX at a1
    rw [z16] at a2
    have hs : (P 518 + t).toInt = (P 518).toInt + t.toInt := i32_add (by omega) (by omega)
    have a2 := Int32.le_iff_toInt_le.mp a2
    obtain ⟨rv1, b2, b3, b4, b5, b6⟩ := centr_ok h H1
    rw [rv1] at H
    obtain ⟨e2, v2, M2, _, H2, H⟩ := rnn_38 b2.sq H
    obtain ⟨P6, ss6, g1, rv2, s1, s2, s3, s4, s5, s6, s7, s8, s9⟩ := gow_ok b2 hD hK hE (r := t.toInt.toNat) (by omega) b3 b6 (by omega) H2
    rw [rv2] at H
    obtain ⟨u1, u2⟩ := rnn_46 s1.sq H
    have hn : ¬ (-1 : Int32) ∈ (gofP T (-1) t.toInt.toNat (P, [])).2 := by
      rw [g1]
      intro q
      rcases s9 _ q with q | q
      · cases q
      · exact absurd q.1 (by decide)
    have hr : runP T P t = P6 := by
      unfold runP
      rw [← gof_tks _ _ hn, g1]
    have h518 : (P6 518).toInt = (P 518).toInt + t.toInt := by
      rw [← hr]
      unfold runP
      rw [tks_518 t.toInt.toNat P [] hD hK (fun p d1 k1 => tck_keep d1 k1) (by omega) q0]
      omega
    have ok : okA P6 := ⟨s2, s3, ⟨by omega, by omega⟩, s4.more (by omega)⟩
    rw [hr]
    refine Or.inr ⟨fun q => ?_, u1, ?_⟩
    · unfold inX at q
      omega
    · rw [u2]
      refine h.wlk ((b4.more (G := fun a k => enF a k ∨ gwF 8 a k) (V := fun a => enW a ∨ gwW 8 a) (U := gwO 8) (fun _ _ q => Or.inl q) (fun _ q => Or.inl q) (fun _ q => q.elim)).trans (s7.more (fun _ _ q => Or.inr q) (fun _ q => Or.inr q) (fun _ q => q))) ?_ ?_ ?_ (b5.fz s7 ?_ ?_ ?_) s1 s5 ok
      · intro a k q
        unfold enF shgF gwF at q
        omega
      · intro a q
        unfold enW shgW gwW lkW at q
        omega
      · intro a q
        unfold gwO at q
        omega
      · unfold gwF; omega
      · unfold gwF; omega
      · intro a h1 h2
        unfold gwW lkW
        omega
  · rw [g126_R, Classical.not_not] at a1
    unfold inX at a1
    rw [z16] at a2
    have hs : (P 518 + t).toInt = (P 518).toInt + t.toInt := i32_add (by omega) (by omega)
    have a2 : ¬ (P 518).toInt + t.toInt ≤ 60000 := fun q => a2 (Int32.le_iff_toInt_le.mpr (by omega))
    exact Or.inl ⟨Or.inr (by omega), r1, r2⟩
theorem week_ok (h : CST T P PI M) (H : Ev none e 92 0 [some (.ref 0)] [] M v M' 0 0) : v = some (.int (nwP (T 0) (wekP (T 0) P))) ∧ CST T (wekP (T 0) P) PI M' := by
  have hS := h.sq
  have hA := h.lan
  obtain ⟨hD, hK, ⟨q0, q6⟩, hE⟩ := h.ok
  obtain ⟨e1, v1, M1, _, H1, H⟩ := wkk_0 hS h.ld H
  obtain ⟨rv1, b2, b3, b4, b5, b6⟩ := centr_ok h H1
  rw [rv1] at H
  obtain ⟨e2, v2, M2, _, H2, H⟩ := wkk_11 b2.sq H
  obtain ⟨rv2, s1, s2, s3, s4, s5, s6, s7, s8⟩ := ewk_ok b2 hD hK hE b3 H2
  rw [rv2] at H
  obtain ⟨e3, v3, M3, _, H3, H⟩ := wkk_18 s1.sq H
  obtain ⟨rm, rv3⟩ := wcl_ok s1.1 s1.2.2.1.1 s1.2.2.1.2.1 H3
  rw [rv3, rm] at H
  obtain ⟨u1, u2⟩ := wkk_25 s1.sq H
  have e518 := s8 518 (by decide)
  have ok : okA (wekP (T 0) P) := ⟨s2, s3, by rw [e518]; exact ⟨q0, q6⟩, by rw [e518]; exact s4⟩
  refine ⟨u1, ?_⟩
  rw [u2]
  refine h.wlk ((b4.more (G := fun a k => enF a k ∨ gwF 8 a k) (V := fun a => enW a ∨ gwW 8 a) (U := gwO 8) (fun _ _ q => Or.inl q) (fun _ q => Or.inl q) (fun _ q => q.elim)).trans (s6.more (fun _ _ q => Or.inr q) (fun _ q => Or.inr q) (fun _ q => q))) ?_ ?_ ?_ (b5.fz s6 ?_ ?_ ?_) s1 s5 ok
  · intro a k q
    unfold enF shgF gwF at q
    omega
  · intro a q
    unfold enW shgW gwW lkW at q
    omega
  · intro a q
    unfold gwO at q
    omega
  · unfold gwF; omega
  · unfold gwF; omega
  · intro a h1 h2
    unfold gwW lkW
    omega
end CRUN
/-! THE REFERENCE'S wish, rain, snow, lay, image, restore, layAside, layBack -/
section RWIS
variable {e B : Nat} {T : TS} {P P' Q : PK} {PI : Nat → PK} {M M0 M1 M' : Mem} {v : Option Value} {c k d x a b h ev fi t : Int32} {n i j : Nat}
theorem i32_f (i : Int32) (n : Nat) (hi : i.toInt = (n : Int)) (f : Int32) (g : Nat) (hf : f.toInt = (g : Int)) (hn : n + g < 100000) : (i + f).toInt = ((n + g : Nat) : Int) := by
  rw [i32_add (by omega) (by omega), hi, hf]
  omega
theorem rwish_ok (hR : RST T P M) (hD : okD P) (H : Ev none e 190 0 [some (.ref 633), some (.int a), some (.int b), some (.int h), some (.int ev), some (.int fi), none] [] M v M' 0 0) : (wisN P a b h ev fi ∧ v = some (.int (-1)) ∧ RST T P M') ∨ (¬ wisN P a b h ev fi ∧ v = some (.int (P 12)) ∧ RST T (wisP P a b h ev fi) M') := by
  have e12 : rI M 635 12 = P 12 := r_s hR (n := 12) rfl (by decide)
  have h0 := hR.w0 0 (by decide) 0
  have b0 := hD.2.2.1
  have b24 := hD.2.2.2.1
  unfold wisN
  rcases rwi_0 hR.1 H with ⟨a1, _, r1, r2⟩ | ⟨_, a1, _, r1, r2⟩ | ⟨_, _, a1, _, r1, r2⟩ | ⟨_, _, _, a1, _, r1, r2⟩ | ⟨_, _, _, _, a1, _, r1, r2⟩ | ⟨_, _, _, _, _, a1, _, r1, r2⟩ | ⟨_, _, _, _, _, _, a1, _, r1, r2⟩ | ⟨a1, a2, a3, a4, a5, a6, a7, _, _, H⟩
  · rw [e12] at a1
    exact Or.inl ⟨Or.inl a1, r1, r2 ▸ h0⟩
  · rw [g152_ok h0 hD] at a1
    exact Or.inl ⟨Or.inr (Or.inl a1), r1, r2 ▸ h0⟩
  · rw [g152_ok h0 hD] at a1
    exact Or.inl ⟨Or.inr (Or.inr (Or.inl a1)), r1, r2 ▸ h0⟩
  · exact Or.inl ⟨Or.inr (Or.inr (Or.inr (Or.inl a1))), r1, r2 ▸ h0⟩
  · rw [g140_R] at a1
    exact Or.inl ⟨Or.inr (Or.inr (Or.inr (Or.inr (Or.inl a1)))), r1, r2 ▸ h0⟩
  · rw [g140_R] at a1
    exact Or.inl ⟨Or.inr (Or.inr (Or.inr (Or.inr (Or.inr (Or.inl a1))))), r1, r2 ▸ h0⟩
  · rw [g140_R] at a1
    exact Or.inl ⟨Or.inr (Or.inr (Or.inr (Or.inr (Or.inr (Or.inr a1))))), r1, r2 ▸ h0⟩
  · rw [e12] at a1 H
    rw [g152_ok h0 hD, Classical.not_not] at a2 a3
    rw [g140_R, Classical.not_not] at a5 a6 a7
    have t24 : (24 : Int32).toInt = 24 := rfl
    have n24 : (P 12).toInt ≠ 24 := fun q => a1 (Int32.toInt_inj.mp (q.trans t24.symm))
    obtain ⟨m, em⟩ : ∃ m, m = (P 12).toInt.toNat := ⟨_, rfl⟩
    have t6 : (6 : Int32).toInt = 6 := rfl
    have t13 : (13 : Int32).toInt = 13 := rfl
    have m6 : (6 * P 12).toInt = 6 * (P 12).toInt := i32_mul (by rw [t6]; omega) (by rw [t6]; omega)
    have x0 : (13 + 6 * P 12).toInt = ((13 + 6 * m : Nat) : Int) := by rw [i32_add (by omega) (by omega), m6]; omega
    obtain ⟨kx, ekx⟩ : ∃ kx, kx = 13 + 6 * P 12 := ⟨_, rfl⟩
    rw [← ekx] at x0 H
    have x1 := i32_f kx _ x0 1 1 rfl (by omega)
    have x2 := i32_f kx _ x0 2 2 rfl (by omega)
    have x3 := i32_f kx _ x0 3 3 rfl (by omega)
    have x4 := i32_f kx _ x0 4 4 rfl (by omega)
    have x5 := i32_f kx _ x0 5 5 rfl (by omega)
    obtain ⟨_, H⟩ := rwi_88 h0.1 H
    rw [cl_n x0] at H
    have u1 := h0.up (i := 13 + 6 * m) (by omega) (x := a)
    obtain ⟨_, H⟩ := rwi_96 u1.1 H
    rw [cl_n x1] at H
    have u2 := u1.up (i := 13 + 6 * m + 1) (by omega) (x := b)
    obtain ⟨_, H⟩ := rwi_106 u2.1 H
    rw [cl_n x2] at H
    have u3 := u2.up (i := 13 + 6 * m + 2) (by omega) (x := h)
    obtain ⟨_, H⟩ := rwi_116 u3.1 H
    rw [cl_n x3] at H
    have u4 := u3.up (i := 13 + 6 * m + 3) (by omega) (x := ev)
    obtain ⟨_, H⟩ := rwi_127 u4.1 H
    rw [cl_n x4] at H
    have u5 := u4.up (i := 13 + 6 * m + 4) (by omega) (x := fi)
    obtain ⟨_, H⟩ := rwi_138 u5.1 H
    rw [cl_n x5] at H
    have u6 := u5.up (i := 13 + 6 * m + 5) (by omega) (x := 1)
    have hw6 : wiQ P m a b h ev fi = uPk (uPk (uPk (uPk (uPk (uPk P (13 + 6 * m) a) (13 + 6 * m + 1) b) (13 + 6 * m + 2) h) (13 + 6 * m + 3) ev) (13 + 6 * m + 4) fi) (13 + 6 * m + 5) 1 := rfl
    rw [← hw6] at u6
    obtain ⟨N, eN⟩ : ∃ N, N = wI (wI (wI (wI (wI (wI (wF M 633 0 0) 635 (13 + 6 * m) a) 635 (13 + 6 * m + 1) b) 635 (13 + 6 * m + 2) h) 635 (13 + 6 * m + 3) ev) 635 (13 + 6 * m + 4) fi) 635 (13 + 6 * m + 5) 1 := ⟨_, rfl⟩
    rw [← eN] at u6 H
    obtain ⟨_, _, H⟩ := rwi_148 u6.1 H
    have i12 : (12 : Int32).toNatClampNeg = 12 := rfl
    have e12u : rI N 635 12 = P 12 := (r_s u6 (n := 12) rfl (by decide)).trans (wiQ_o (by omega))
    rw [e12u, i12] at H
    have u7 := u6.up (i := 12) (by decide) (x := P 12 + 1)
    obtain ⟨_, r1, r2⟩ := rwi_159 u7.1 H
    have e12v : rI (wI N 635 12 (P 12 + 1)) 635 12 = P 12 + 1 := (r_s u7 (n := 12) rfl (by decide)).trans up_eq
    rw [e12v] at r1
    have hw : wisP P a b h ev fi = uPk (wiQ P m a b h ev fi) 12 (P 12 + 1) := by rw [em]; rfl
    refine Or.inr ⟨fun q => ?_, ?_, ?_⟩
    · rcases q with q | q | q | q | q | q | q
      · exact a1 q
      · exact q a2
      · exact q a3
      · exact a4 q
      · exact q a5
      · exact q a6
      · exact q a7
    · rw [r1]
      have : P 12 + 1 - 1 = P 12 := by grind
      rw [this]
    · rw [hw, r2]
      exact u7
theorem rrai_l (hw : wh4 P) : ∀ (n : Nat) (c : Int32) (Q : PK) (M : Mem), RST T Q M → hiS P Q → 0 ≤ c.toInt → c.toInt + (n : Int) = (clsP P : Int) → Ev none e 210 20 [some (.ref 633), some (.int x), some (.int c)] [] M v M' 0 0 → v = some (.int 1) ∧ RST T (raiP x n c Q) M' := by
  obtain ⟨_, c256, _⟩ := cls_int hw
  intro n
  induction n with
  | zero =>
    intro c Q M hR hs hc hn H
    have hg := g144_ok hR (hw.eq (hs 0 (by decide)) (hs 1 (by decide)))
    rw [cls_eq (hs 0 (by decide)) (hs 1 (by decide))] at hg
    rcases rra_20 hR.1 H with ⟨_, r1, r2⟩ | ⟨a1, _⟩ | ⟨a1, _⟩ | ⟨a1, _⟩
    · exact ⟨r1, r2 ▸ hR⟩
    all_goals exact absurd (Int32.le_iff_toInt_le.mpr (by omega)) a1
  | succ n ih =>
    intro c Q M hR hs hc hn H
    have hwQ := hw.eq (hs 0 (by decide)) (hs 1 (by decide))
    have hg := g144_ok hR hwQ
    rw [cls_eq (hs 0 (by decide)) (hs 1 (by decide))] at hg
    have hcP : inC P c := ⟨hc, by omega⟩
    have hcQ : inC Q c := (inC.hi hs).mpr hcP
    have e1 : (c + 1).toInt = c.toInt + 1 := i32_p1 (by omega)
    have k0 : G_146 M c 0 = cE Q 0 c := r_cell hR hwQ hcQ (fn := 0) rfl (by decide)
    have k4 : G_146 M c 4 = cE Q 4 c := r_cell hR hwQ hcQ (fn := 4) rfl (by decide)
    have t3 : (3 : Int32).toInt = 3 := rfl
    have t200 : (200 : Int32).toInt = 200 := rfl
    rcases rra_20 hR.1 H with ⟨a1, _⟩ | ⟨_, a2, H⟩ | ⟨_, a2, a3, H⟩ | ⟨_, a2, a3, H⟩
    · have := Int32.le_iff_toInt_le.mp a1
      omega
    · rw [k0] at a2
      have n3 : ¬ cE Q 0 c < 3 := fun q => by
        have q := Int32.lt_iff_toInt_lt.mp q
        have r := Int32.le_iff_toInt_le.mp a2
        omega
      have hr : ra1P Q x c = Q := by unfold ra1P; rw [if_neg n3]
      have hun : raiP x (n + 1) c Q = raiP x n (c + 1) Q := by
        show raiP x n (c + 1) (ra1P Q x c) = _
        rw [hr]
      rw [hun]
      exact ih (c + 1) Q M hR hs (by omega) (by omega) H
    · rw [k0] at a2
      rw [k4] at a3 H
      have n3 : ¬ (3 : Int32).toInt ≤ (cE Q 0 c).toInt := fun q => a2 (Int32.le_iff_toInt_le.mpr q)
      have h3 : cE Q 0 c < 3 := Int32.lt_iff_toInt_lt.mpr (by omega)
      have a3 := Int32.le_iff_toInt_le.mp a3
      rw [x147_ok hR hwQ hcQ (fn := 4) rfl (by decide)] at H
      have hr : ra1P Q x c = uPk Q (cX 4 c) (cE Q 4 c + x) := by
        unfold ra1P
        rw [if_pos h3]
        by_cases h2 : cE Q 4 c + x < 200
        · rw [if_pos h2]
        · have n2 : ¬ (cE Q 4 c + x).toInt < (200 : Int32).toInt := fun q => h2 (Int32.lt_iff_toInt_lt.mpr q)
          have : cE Q 4 c + x = 200 := Int32.toInt_inj.mp (by omega)
          rw [if_neg h2, this]
      have u := hR.up (cX_lt hwQ hcQ (f := 4) (by decide)) (x := cE Q 4 c + x)
      rw [← hr] at u
      exact ih (c + 1) (ra1P Q x c) _ u (fun j hj => (ra1_hi j hj).trans (hs j hj)) (by omega) (by omega) H
    · rw [k0] at a2
      rw [k4] at a3
      have n3 : ¬ (3 : Int32).toInt ≤ (cE Q 0 c).toInt := fun q => a2 (Int32.le_iff_toInt_le.mpr q)
      have h3 : cE Q 0 c < 3 := Int32.lt_iff_toInt_lt.mpr (by omega)
      have n2 : ¬ cE Q 4 c + x < 200 := fun q => a3 (Int32.le_iff_toInt_le.mpr (by have := Int32.lt_iff_toInt_lt.mp q; omega))
      rw [x147_ok hR hwQ hcQ (fn := 4) rfl (by decide)] at H
      have hr : ra1P Q x c = uPk Q (cX 4 c) 200 := by
        unfold ra1P
        rw [if_pos h3, if_neg n2]
      have u := hR.up (cX_lt hwQ hcQ (f := 4) (by decide)) (x := 200)
      rw [← hr] at u
      exact ih (c + 1) (ra1P Q x c) _ u (fun j hj => (ra1_hi j hj).trans (hs j hj)) (by omega) (by omega) H
theorem rrain_ok (hR : RST T P M) (hD : okD P) (H : Ev none e 210 0 [some (.ref 633), some (.int x), none] [] M v M' 0 0) : (¬ inX x 1 200 ∧ v = some (.int 0) ∧ RST T P M') ∨ (inX x 1 200 ∧ v = some (.int 1) ∧ RST T (raiP x (clsP P) 0 P) M') := by
  have h0 := hR.w0 0 (by decide) 0
  have z0 : (0 : Int32).toInt = 0 := rfl
  rcases rra_0 hR.1 H with ⟨a1, r1, r2⟩ | ⟨a1, H⟩
  · rw [g140_R] at a1
    exact Or.inl ⟨a1, r1, r2 ▸ h0⟩
  · rw [g140_R, Classical.not_not] at a1
    obtain ⟨r1, r2⟩ := rrai_l hD.1 (clsP P) 0 P _ h0 (fun _ _ => rfl) (by decide) (by omega) H
    exact Or.inr ⟨a1, r1, r2⟩
theorem rsno_l (hw : wh4 P) : ∀ (n : Nat) (c : Int32) (Q : PK) (M : Mem), RST T Q M → hiS P Q → 0 ≤ c.toInt → c.toInt + (n : Int) = (clsP P : Int) → Ev none e 211 7 [some (.ref 633), some (.int c)] [] M v M' 0 0 → v = none ∧ RST T (zerP 6 n c Q) M' := by
  obtain ⟨_, c256, _⟩ := cls_int hw
  intro n
  induction n with
  | zero =>
    intro c Q M hR hs hc hn H
    have hg := g144_ok hR (hw.eq (hs 0 (by decide)) (hs 1 (by decide)))
    rw [cls_eq (hs 0 (by decide)) (hs 1 (by decide))] at hg
    rcases rsn_7 hR.1 H with ⟨_, r1, r2⟩ | ⟨a1, _⟩
    · exact ⟨r1, r2 ▸ hR⟩
    · exact absurd (Int32.le_iff_toInt_le.mpr (by omega)) a1
  | succ n ih =>
    intro c Q M hR hs hc hn H
    have hwQ := hw.eq (hs 0 (by decide)) (hs 1 (by decide))
    have hg := g144_ok hR hwQ
    rw [cls_eq (hs 0 (by decide)) (hs 1 (by decide))] at hg
    have hcQ : inC Q c := (inC.hi hs).mpr ⟨hc, by omega⟩
    have e1 : (c + 1).toInt = c.toInt + 1 := i32_p1 (by omega)
    rcases rsn_7 hR.1 H with ⟨a1, _⟩ | ⟨_, H⟩
    · have := Int32.le_iff_toInt_le.mp a1
      omega
    · rw [x147_ok hR hwQ hcQ (fn := 6) rfl (by decide)] at H
      have u := hR.up (cX_lt hwQ hcQ (f := 6) (by decide)) (x := 0)
      exact ih (c + 1) _ _ u (fun j hj => (up_ne (by have := cX_ge (f := 6) (c := c); omega)).trans (hs j hj)) (by omega) (by omega) H
theorem rsnow_ok (hR : RST T P M) (hD : okD P) (H : Ev none e 211 0 [some (.ref 633), none] [] M v M' 0 0) : v = none ∧ RST T (zerP 6 (clsP P) 0 P) M' := by
  have h0 := hR.w0 0 (by decide) 0
  have z0 : (0 : Int32).toInt = 0 := rfl
  exact rsno_l hD.1 (clsP P) 0 P _ h0 (fun _ _ => rfl) (by decide) (by omega) (rsn_0 hR.1 H)
theorem x213_ok (hR : RST T P M) (hw : wh4 P) (hc : inC P c) : RST T (layP P c k) (X_213 M c k) := by
  have u1 := hR.up (cX_lt hw hc (f := 0) (by decide)) (x := k)
  have e1 : X_147 M c 0 k = wI M 635 (cX 0 c) k := x147_ok hR hw hc (fn := 0) rfl (by decide)
  have hs : hiS P (uPk P (cX 0 c) k) := fun j hj => up_ne (by have := cX_ge (f := 0) (c := c); omega)
  have hc1 : inC (uPk P (cX 0 c) k) c := (inC.hi hs).mpr hc
  have hw1 : wh4 (uPk P (cX 0 c) k) := hw.eq (hs 0 (by decide)) (hs 1 (by decide))
  have e0 : cE (uPk P (cX 0 c) k) 0 c = k := up_eq
  unfold X_213 layP
  rw [e1, g149_ok u1 hw1 hc1]
  unfold grnB
  rw [e0]
  by_cases hk : k = 0 ∨ k = 2
  · rw [if_pos hk, if_neg (fun q => by rw [bI_0] at q; rcases hk with r | r <;> simp [r] at q)]
    exact u1
  · have n0 : ¬ k = 0 := fun q => hk (Or.inl q)
    have n2 : ¬ k = 2 := fun q => hk (Or.inr q)
    rw [if_neg hk, decide_eq_false n0, decide_eq_false n2, if_pos (show bI (false || false) = 0 from rfl), x147_ok u1 hw1 hc1 (fn := 3) rfl (by decide)]
    exact u1.up (cX_lt hw1 hc1 (f := 3) (by decide))
theorem rlay_ok (hR : RST T P M) (hD : okD P) (hK : okK P) (H : Ev none e 212 0 [some (.ref 633), some (.int c), some (.int k)] [] M v M' 0 0) : (layN P c k ∧ v = some (.int 0) ∧ RST T P M') ∨ (¬ layN P c k ∧ v = some (.int 1) ∧ RST T (layP P c k) M') := by
  have hw := hD.1
  have h0 := hR.w0 0 (by decide) 0
  have hS0 := hR.1
  obtain ⟨N, eN⟩ : ∃ N, N = wF M 633 0 0 := ⟨_, rfl⟩
  rw [← eN] at h0
  have fin : ∀ M1 v1 e1, inC P c → ¬ layN P c k → Ev none e1 213 0 [some (.ref 633), some (.int c), some (.int k)] [] N v1 M1 0 0 → Ev none e 212 58 [some (.ref 633), some (.int c), some (.int k)] (v1.toList ++ []) M1 v M' 0 0 → (layN P c k ∧ v = some (.int 0) ∧ RST T P M') ∨ (¬ layN P c k ∧ v = some (.int 1) ∧ RST T (layP P c k) M') := fun M1 v1 e1 ic nl H1 H => by
    obtain ⟨rv, rm⟩ := g_213 h0.1 H1
    rw [rv, rm] at H
    have x := x213_ok (k := k) h0 hw ic
    obtain ⟨r1, r2⟩ := rla_58 x.1 H
    exact Or.inr ⟨nl, r1, r2 ▸ x⟩
  have dr : ∀ M1 v1 e1, (k = 3 ∨ k = 6) → inC P c → inX k 0 6 → Ev none e1 157 0 [some (.ref 633), some (.int c), none] [] N v1 M1 0 0 → Ev none e 212 39 [some (.ref 633), some (.int c), some (.int k)] (v1.toList ++ []) M1 v M' 0 0 → (layN P c k ∧ v = some (.int 0) ∧ RST T P M') ∨ (¬ layN P c k ∧ v = some (.int 1) ∧ RST T (layP P c k) M') := fun M1 v1 e1 hk ic ik H1 H => by
    obtain ⟨rm, rv⟩ := rda_ok h0 hD H1
    rw [rv, rm] at H
    rcases rla_39 h0.1 H with ⟨a1, e2, v2, M2, _, H2, H⟩ | ⟨a1, r1, r2⟩
    · rw [bI_0] at a1
      obtain ⟨rm2, rv2⟩ := rwa_ok h0 hK H2
      rw [rv2, rm2] at H
      rcases rla_47 h0.1 H with ⟨a2, e3, v3, M3, _, H3, H⟩ | ⟨a2, r1, r2⟩
      · rw [bI_0] at a2
        refine fin _ _ _ ic (fun q => ?_) H3 H
        rcases q with q | q | ⟨_, q | q⟩
        · exact q ic
        · exact q ik
        · rw [a1] at q; cases q
        · rw [a2] at q; cases q
      · rw [bI_0, Bool.not_eq_false] at a2
        exact Or.inl ⟨Or.inr (Or.inr ⟨hk, Or.inr a2⟩), r1, r2 ▸ h0⟩
    · rw [bI_0, Bool.not_eq_false] at a1
      exact Or.inl ⟨Or.inr (Or.inr ⟨hk, Or.inl a1⟩), r1, r2 ▸ h0⟩
  have H9 := rla_0 hS0 H
  rw [← eN] at H9
  rcases H9 with ⟨a1, r1, r2⟩ | ⟨_, a1, r1, r2⟩ | ⟨a1, a2, a3, e1, v1, M1, _, H1, H⟩ | ⟨a1, a2, _, a3, e1, v1, M1, _, H1, H⟩ | ⟨a1, a2, a3, a4, e1, v1, M1, _, H1, H⟩
  · rw [g145_ok h0 hw] at a1
    exact Or.inl ⟨Or.inl a1, r1, r2 ▸ h0⟩
  · rw [g140_R] at a1
    exact Or.inl ⟨Or.inr (Or.inl a1), r1, r2 ▸ h0⟩
  · rw [g145_ok h0 hw, Classical.not_not] at a1
    rw [g140_R, Classical.not_not] at a2
    exact dr _ _ _ (Or.inl a3) a1 a2 H1 H
  · rw [g145_ok h0 hw, Classical.not_not] at a1
    rw [g140_R, Classical.not_not] at a2
    exact dr _ _ _ (Or.inr a3) a1 a2 H1 H
  · rw [g145_ok h0 hw, Classical.not_not] at a1
    rw [g140_R, Classical.not_not] at a2
    refine fin _ _ _ a1 (fun q => ?_) H1 H
    rcases q with q | q | ⟨q | q, _⟩
    · exact q a1
    · exact q a2
    · exact a3 q
    · exact a4 q
/-- what is kept -/
def RIM (PI : Nat → PK) (M : Mem) : Prop := ∀ k, k < 3 → ¬ rN M 638 k = 0 → ∀ i, i < 2314 → rN M 636 (2314 * k + i) = PI k i
theorem rim_l {m : Nat} (m3 : m < 3) (hk : k.toInt = (m : Int)) (M0 : Mem) : ∀ (r i : Nat) (iz : Int32) (M : Mem), RST T P M → iz.toInt = (i : Int) → i + r = 2314 → (∀ j, j < i → rN M 636 (2314 * m + j) = P j) → (∀ j, ¬ (2314 * m ≤ j ∧ j < 2314 * m + 2314) → rN M 636 j = rN M0 636 j) → (∀ j, rN M 638 j = rN M0 638 j) → Ev none e 246 18 [some (.ref 633), some (.int k), some (.int iz)] [] M v M' 0 0 → v = some (.int 1) ∧ RST T P M' ∧ (∀ j, j < 2314 → rN M' 636 (2314 * m + j) = P j) ∧ (∀ j, ¬ (2314 * m ≤ j ∧ j < 2314 * m + 2314) → rN M' 636 j = rN M0 636 j) ∧ ∀ j, j ≠ m → rN M' 638 j = rN M0 638 j := by
  have t2314 : (2314 : Int32).toInt = 2314 := rfl
  intro r
  induction r with
  | zero =>
    intro i iz M hR hi hn h1 h2 h3 H
    rcases rim_18 hR.1 H with ⟨_, _, r1, r2⟩ | ⟨a1, _⟩
    · rw [cl_n hk] at r2
      have hF : FZ noF (fun a => a = 638) noO M M' := by rw [r2]; exact FZ.wI (W := fun a => a = 638) rfl
      have hS' : SQ M' := by rw [r2]; exact hR.1.ki
      have g : ∀ j, rN M' 636 j = rN M 636 j := fun j => hF.rn (by omega)
      refine ⟨r1, hR.fz hS' hF (fun _ _ _ q => q) (fun a ha q => by omega), fun j hj => (g _).trans (h1 j (by omega)), fun j hj => (g _).trans (h2 j hj), fun j hj => ?_⟩
      rw [r2, rN_wI_ne (fun q => hj q.2)]
      exact h3 j
    · exact absurd (Int32.le_iff_toInt_le.mpr (by omega)) a1
  | succ r ih =>
    intro i iz M hR hi hn h1 h2 h3 H
    rcases rim_18 hR.1 H with ⟨a1, _⟩ | ⟨_, _, _, H⟩
    · have := Int32.le_iff_toInt_le.mp a1
      omega
    · have ix := i32_kept hk hi (by omega) (by omega)
      rw [cl_n ix, r_s hR hi (by omega)] at H
      have hF : FZ noF (fun a => a = 636) noO M (wI M 636 (2314 * m + i) (P i)) := FZ.wI (W := fun a => a = 636) rfl
      have len : (zrw M 636).length = 6942 := (hR.1.1.row qa_636 qw_64).2
      refine ih (i + 1) (iz + 1) _ (hR.fz hR.1.ki hF (fun _ _ _ q => q) (fun a ha q => by omega)) (by rw [i32_p1 (by omega)]; omega) (by omega) (fun j hj => ?_) (fun j hj => ?_) (fun j => ?_) H
      · by_cases hji : j = i
        · subst hji
          exact rN_wI_eq (by omega)
        · rw [rN_wI_ne (by omega)]
          exact h1 j (by omega)
      · rw [rN_wI_ne (by omega)]
        exact h2 j hj
      · rw [rN_wI_ne (by omega)]
        exact h3 j
theorem rimage_ok (hR : RST T P M) (hI : RIM PI M) (H : Ev none e 246 0 [some (.ref 633), some (.int k), none] [] M v M' 0 0) : (¬ inX k 0 2 ∧ v = some (.int 0) ∧ RST T P M' ∧ RIM PI M') ∨ (inX k 0 2 ∧ v = some (.int 1) ∧ RST T P M' ∧ RIM (upI PI k.toInt.toNat P) M') := by
  have h0 := hR.w0 0 (by decide) 0
  rcases rim_0 hR.1 H with ⟨a1, r1, r2⟩ | ⟨a1, H⟩
  · rw [g140_R] at a1
    refine Or.inl ⟨a1, r1, r2 ▸ h0, ?_⟩
    rw [r2]
    intro k hk
    rw [rN_wF]
    intro hr i hi
    rw [rN_wF]
    exact hI k hk hr i hi
  · rw [g140_R, Classical.not_not] at a1
    obtain ⟨m, m3, hk⟩ := img_rng a1
    have em : k.toInt.toNat = m := by omega
    obtain ⟨r1, r2, r3, r4, r5⟩ := rim_l m3 hk M 2314 0 0 _ h0 rfl rfl (fun j hj => absurd hj (Nat.not_lt_zero _)) (fun j _ => rN_wF) (fun j => rN_wF) H
    refine Or.inr ⟨a1, r1, r2, fun j hj hr i hi => ?_⟩
    rw [em]
    unfold upI
    by_cases hjm : j = m
    · rw [if_pos hjm, hjm]
      exact r3 i hi
    · rw [if_neg hjm]
      rw [r5 j hjm] at hr
      rw [r4 _ (by omega)]
      exact hI j hj hr i hi
theorem rre_l {m : Nat} (m3 : m < 3) (hk : k.toInt = (m : Int)) : ∀ (r i : Nat) (iz : Int32) (P : PK) (M : Mem), RST T P M → (∀ j, j < 2314 → rN M 636 (2314 * m + j) = Q j) → iz.toInt = (i : Int) → i + r = 2314 → (∀ j, j < i → P j = Q j) → Ev none e 247 27 [some (.ref 633), some (.int k), some (.int iz)] [] M v M' 0 0 → v = some (.int 1) ∧ RST T Q M' := by
  have t2314 : (2314 : Int32).toInt = 2314 := rfl
  intro r
  induction r with
  | zero =>
    intro i iz P M hR h1 hi hn h2 H
    rcases rre_27 hR.1 H with ⟨_, r1, r2⟩ | ⟨a1, _⟩
    · exact ⟨r1, r2 ▸ hR.eq (fun j hj => (h2 j (by omega)).symm)⟩
    · exact absurd (Int32.le_iff_toInt_le.mpr (by omega)) a1
  | succ r ih =>
    intro i iz P M hR h1 hi hn h2 H
    rcases rre_27 hR.1 H with ⟨a1, _⟩ | ⟨_, _, _, H⟩
    · have := Int32.le_iff_toInt_le.mp a1
      omega
    · have ix := i32_kept hk hi (by omega) (by omega)
      rw [cl_n hi, rI_n ix, h1 i (by omega)] at H
      refine ih (i + 1) (iz + 1) _ _ (hR.up (i := i) (by omega) (x := Q i)) (fun j hj => ?_) (by rw [i32_p1 (by omega)]; omega) (by omega) (fun j hj => ?_) H
      · rw [rN_wI_ne (by omega)]
        exact h1 j hj
      · by_cases hji : j = i
        · rw [hji]; exact up_eq
        · rw [up_ne hji]; exact h2 j (by omega)
theorem rrest_ok (hR : RST T P M) (hI : RIM PI M) (H : Ev none e 247 0 [some (.ref 633), some (.int k), none] [] M v M' 0 0) : ((¬ inX k 0 2 ∨ rN M 638 k.toInt.toNat = 0) ∧ v = some (.int 0) ∧ RST T P M') ∨ (inX k 0 2 ∧ ¬ rN M 638 k.toInt.toNat = 0 ∧ v = some (.int 1) ∧ RST T (PI k.toInt.toNat) M') := by
  have h0 := hR.w0 0 (by decide) 0
  rcases rre_0 hR.1 H with ⟨a1, r1, r2⟩ | ⟨a1, a2, _, r1, r2⟩ | ⟨a1, a2, _, H⟩
  · rw [g140_R] at a1
    exact Or.inl ⟨Or.inl a1, r1, r2 ▸ h0⟩
  · rw [g140_R, Classical.not_not] at a1
    obtain ⟨m, m3, hk⟩ := img_rng a1
    have em : k.toInt.toNat = m := by omega
    rw [rI_n hk] at a2
    rw [em]
    exact Or.inl ⟨Or.inr a2, r1, r2 ▸ h0⟩
  · rw [g140_R, Classical.not_not] at a1
    obtain ⟨m, m3, hk⟩ := img_rng a1
    have em : k.toInt.toNat = m := by omega
    rw [rI_n hk] at a2
    rw [em]
    obtain ⟨r1, r2⟩ := rre_l (Q := PI m) m3 hk 2314 0 0 P _ h0 (fun j hj => by rw [rN_wF]; exact hI m m3 a2 j hj) rfl rfl (fun j hj => absurd hj (Nat.not_lt_zero _)) H
    exact Or.inr ⟨a1, a2, r1, r2⟩
theorem las_l : ∀ (r i : Nat) (iz : Int32) (M : Mem), RST T P M → iz.toInt = (i : Int) → i + r = 2314 → (∀ j, j < i → rN M 637 j = P j) → Ev none e 153 2 [some (.ref 633), some (.int iz)] [] M v M' 0 0 → v = none ∧ RST T P M' ∧ (∀ j, j < 2314 → rN M' 637 j = P j) ∧ FZ noF (fun a => a = 637) noO M M' := by
  have t2314 : (2314 : Int32).toInt = 2314 := rfl
  intro r
  induction r with
  | zero =>
    intro i iz M hR hi hn h1 H
    rcases las_2 hR.1 H with ⟨_, r1, r2⟩ | ⟨a1, _⟩
    · subst r2
      exact ⟨r1, hR, fun j hj => h1 j (by omega), FZ.refl _⟩
    · exact absurd (Int32.le_iff_toInt_le.mpr (by omega)) a1
  | succ r ih =>
    intro i iz M hR hi hn h1 H
    rcases las_2 hR.1 H with ⟨a1, _⟩ | ⟨_, _, _, H⟩
    · have := Int32.le_iff_toInt_le.mp a1
      omega
    · rw [cl_n hi, r_s hR hi (by omega)] at H
      have hF : FZ noF (fun a => a = 637) noO M (wI M 637 i (P i)) := FZ.wI (W := fun a => a = 637) rfl
      have len : (zrw M 637).length = 2314 := (hR.1.1.row qa_637 qw_65).2
      obtain ⟨r1, r2, r3, r4⟩ := ih (i + 1) (iz + 1) _ (hR.fz hR.1.ki hF (fun _ _ _ q => q) (fun a ha q => by omega)) (by rw [i32_p1 (by omega)]; omega) (by omega) (fun j hj => by
        by_cases hji : j = i
        · subst hji
          exact rN_wI_eq (by omega)
        · rw [rN_wI_ne (by omega)]
          exact h1 j (by omega)) H
      exact ⟨r1, r2, r3, hF.trans r4⟩
theorem las_ok (hR : RST T P M) (H : Ev none e 153 0 [some (.ref 633), none] [] M v M' 0 0) : v = none ∧ RST T P M' ∧ (∀ j, j < 2314 → rN M' 637 j = P j) ∧ FZ noF (fun a => a = 637) noO M M' := las_l 2314 0 0 M hR rfl rfl (fun j hj => absurd hj (Nat.not_lt_zero _)) (las_0 hR.1 H)
theorem lbk_l : ∀ (r i : Nat) (iz : Int32) (P : PK) (M : Mem), RST T P M → (∀ j, j < 2314 → rN M 637 j = Q j) → iz.toInt = (i : Int) → i + r = 2314 → (∀ j, j < i → P j = Q j) → Ev none e 154 2 [some (.ref 633), some (.int iz)] [] M v M' 0 0 → v = none ∧ RST T Q M' ∧ FZ noF (fun a => a = 635) noO M M' := by
  have t2314 : (2314 : Int32).toInt = 2314 := rfl
  intro r
  induction r with
  | zero =>
    intro i iz P M hR h1 hi hn h2 H
    rcases lbk_2 hR.1 H with ⟨_, r1, r2⟩ | ⟨a1, _⟩
    · subst r2
      exact ⟨r1, hR.eq (fun j hj => (h2 j (by omega)).symm), FZ.refl _⟩
    · exact absurd (Int32.le_iff_toInt_le.mpr (by omega)) a1
  | succ r ih =>
    intro i iz P M hR h1 hi hn h2 H
    rcases lbk_2 hR.1 H with ⟨a1, _⟩ | ⟨_, _, _, H⟩
    · have := Int32.le_iff_toInt_le.mp a1
      omega
    · rw [cl_n hi, rI_n hi, h1 i (by omega)] at H
      obtain ⟨r1, r2, r3⟩ := ih (i + 1) (iz + 1) _ _ (hR.up (i := i) (by omega) (x := Q i)) (fun j hj => by
        rw [rN_wI_ne (by omega)]
        exact h1 j hj) (by rw [i32_p1 (by omega)]; omega) (by omega) (fun j hj => by
        by_cases hji : j = i
        · rw [hji]; exact up_eq
        · rw [up_ne hji]; exact h2 j (by omega)) H
      exact ⟨r1, r2, (FZ.wI (W := fun a => a = 635) rfl).trans r3⟩
theorem lbk_ok (hR : RST T P M) (hQ : ∀ j, j < 2314 → rN M 637 j = Q j) (H : Ev none e 154 0 [some (.ref 633), none] [] M v M' 0 0) : v = none ∧ RST T Q M' ∧ FZ noF (fun a => a = 635) noO M M' := lbk_l 2314 0 0 P M hR hQ rfl rfl (fun j hj => absurd hj (Nat.not_lt_zero _)) (lbk_0 hR.1 H)
end RWIS
/-! THE REFERENCE'S park -/
/-- the first n CELLS of a new PARK are told -/
noncomputable def pkS (a b : Int32) (o : Nat → Int32) (n : Nat) : PK := fun j => if j = 0 then a else if j = 1 then b else if 522 ≤ j ∧ (j - 522) / 7 < n then byI (o ((j - 522) / 7)) ((j - 522) % 7) else 0
section RPAR
variable {e B : Nat} {T : TS} {P P' Q : PK} {PI : Nat → PK} {M M0 M1 M' : Mem} {v : Option Value} {c k d x a b y : Int32} {n i j : Nat} {o : Nat → Int32}
theorem pkS_s {c : Int32} (hc : c.toInt = (n : Int)) (j : Nat) : uPk (uPk (uPk (pkS a b o n) (cX 0 c) (byI (o n) 0)) (cX 1 c) (byI (o n) 1)) (cX 2 c) (byI (o n) 2) j = pkS a b o (n + 1) j := by
  have e : ∀ f, cX f c = 522 + 7 * n + f := fun f => by unfold cX; omega
  rw [e, e, e]
  by_cases h2 : j = 522 + 7 * n + 2
  · rw [h2, up_eq]
    unfold pkS
    rw [if_neg (by omega), if_neg (by omega), if_pos (by omega), show (522 + 7 * n + 2 - 522) / 7 = n by omega, show (522 + 7 * n + 2 - 522) % 7 = 2 by omega]
  · rw [up_ne h2]
    by_cases h1 : j = 522 + 7 * n + 1
    · rw [h1, up_eq]
      unfold pkS
      rw [if_neg (by omega), if_neg (by omega), if_pos (by omega), show (522 + 7 * n + 1 - 522) / 7 = n by omega, show (522 + 7 * n + 1 - 522) % 7 = 1 by omega]
    · rw [up_ne h1]
      by_cases h0 : j = 522 + 7 * n + 0
      · rw [h0, up_eq]
        unfold pkS
        rw [if_neg (by omega), if_neg (by omega), if_pos (by omega), show (522 + 7 * n + 0 - 522) / 7 = n by omega, show (522 + 7 * n + 0 - 522) % 7 = 0 by omega]
      · rw [up_ne h0]
        unfold pkS
        by_cases j0 : j = 0
        · rw [if_pos j0, if_pos j0]
        · rw [if_neg j0, if_neg j0]
          by_cases j1 : j = 1
          · rw [if_pos j1, if_pos j1]
          · rw [if_neg j1, if_neg j1]
            by_cases hq : 522 ≤ j ∧ (j - 522) / 7 < n
            · rw [if_pos hq, if_pos (by omega)]
            · rw [if_neg hq]
              by_cases hr : 522 ≤ j ∧ (j - 522) / 7 < n + 1
              · rw [if_pos hr]
                unfold byI
                rw [if_neg (by omega), if_neg (by omega), if_neg (by omega)]
              · rw [if_neg hr]
theorem rpk_c (hS : SQ M) (hz : (zI M 633 3).toInt = (n : Int)) (ho : ∀ k, k < n → rN M 634 k &&& 255 = o k) : ∀ (r k : Nat) (kz : Int32), kz.toInt = (k : Int) → k + r = n → (∀ i, i < k → ¬ byI (o i) 0 = 7) → Ev none e 155 43 [some (.ref 633), some (.int a), some (.int b), some (.int kz)] [] M v M' 0 0 → (v = some (.int 0) ∧ M' = M ∧ ∃ i, i < n ∧ byI (o i) 0 = 7) ∨ ((∀ i, i < n → ¬ byI (o i) 0 = 7) ∧ Ev none e 155 74 [some (.ref 633), some (.int a), some (.int b), some (.int 0)] [] M v M' 0 0) := by
  intro r
  induction r with
  | zero =>
    intro k kz hk hn hg H
    rcases rpk_43 hS H with ⟨_, H⟩ | ⟨a1, _⟩ | ⟨a1, _⟩
    · exact Or.inr ⟨fun i hi => hg i (by omega), H⟩
    all_goals exact absurd (Int32.le_iff_toInt_le.mpr (by omega)) a1
  | succ r ih =>
    intro k kz hk hn hg H
    have hb := (i32_any (zI M 633 3)).2
    have er : G_142 M kz = o k := by
      unfold G_142
      rw [rI_n hk]
      exact ho k (by omega)
    rcases rpk_43 hS H with ⟨a1, _⟩ | ⟨_, a2, r1, r2⟩ | ⟨_, a2, H⟩
    · have := Int32.le_iff_toInt_le.mp a1
      omega
    · rw [er] at a2
      exact Or.inl ⟨r1, r2, k, by omega, a2⟩
    · rw [er] at a2
      refine ih (k + 1) (kz + 1) (by rw [i32_p1 (by omega)]; omega) (by omega) (fun i hi => ?_) H
      by_cases hik : i = k
      · rw [hik]
        exact a2
      · exact hg i (by omega)
theorem rpk_z : ∀ (r i : Nat) (iz : Int32) (P : PK) (M : Mem), RST T P M → iz.toInt = (i : Int) → i + r = 2314 → (∀ j, j < i → P j = 0) → Ev none e 155 74 [some (.ref 633), some (.int a), some (.int b), some (.int iz)] [] M v M' 0 0 → ∃ M1 kz, RST T (fun _ => 0) M1 ∧ FZ noF (fun a => a = 635) noO M M1 ∧ Ev none e 155 94 [some (.ref 633), some (.int a), some (.int b), some (.int kz)] [] M1 v M' 0 0 := by
  have t2314 : (2314 : Int32).toInt = 2314 := rfl
  intro r
  induction r with
  | zero =>
    intro i iz P M hR hi hn h1 H
    rcases rpk_74 hR.1 H with ⟨_, H⟩ | ⟨a1, _⟩
    · exact ⟨M, _, hR.eq (fun j hj => (h1 j (by omega)).symm), FZ.refl _, H⟩
    · exact absurd (Int32.le_iff_toInt_le.mpr (by omega)) a1
  | succ r ih =>
    intro i iz P M hR hi hn h1 H
    rcases rpk_74 hR.1 H with ⟨a1, _⟩ | ⟨_, _, H⟩
    · have := Int32.le_iff_toInt_le.mp a1
      omega
    · rw [cl_n hi] at H
      obtain ⟨M1, kz, r1, r2, r3⟩ := ih (i + 1) (iz + 1) _ _ (hR.up (i := i) (by omega) (x := 0)) (by rw [i32_p1 (by omega)]; omega) (by omega) (fun j hj => by
        by_cases hji : j = i
        · rw [hji]; exact up_eq
        · rw [up_ne hji]; exact h1 j (by omega)) H
      exact ⟨M1, kz, r1, (FZ.wI (W := fun a => a = 635) rfl).trans r2, r3⟩
theorem rpk_s (wa : 4 ≤ a.toInt ∧ a.toInt ≤ 16) (wb : 4 ≤ b.toInt ∧ b.toInt ≤ 16) (hn : n = a.toInt.toNat * b.toInt.toNat) : ∀ (r k : Nat) (kz : Int32) (M : Mem), RST T (pkS a b o k) M → (zI M 633 3).toInt = (n : Int) → (∀ k, k < n → rN M 634 k &&& 255 = o k) → kz.toInt = (k : Int) → k + r = n → Ev none e 155 110 [some (.ref 633), some (.int a), some (.int b), some (.int kz)] [] M v M' 0 0 → v = some (.int 1) ∧ RST T (pkS a b o n) M' := by
  have n256 : n ≤ 256 := by
    have h1 : a.toInt.toNat ≤ 16 := by omega
    have h2 : b.toInt.toNat ≤ 16 := by omega
    rw [hn]
    exact Nat.mul_le_mul h1 h2
  intro r
  induction r with
  | zero =>
    intro k kz M hR hz ho hk hkn H
    rcases rpk_110 hR.1 H with ⟨_, r1, r2⟩ | ⟨a1, _⟩
    · have e : k = n := by omega
      rw [r2, ← e]
      exact ⟨r1, hR⟩
    · exact absurd (Int32.le_iff_toInt_le.mpr (by omega)) a1
  | succ r ih =>
    intro k kz M hR hz ho hk hkn H
    rcases rpk_110 hR.1 H with ⟨a1, _⟩ | ⟨_, H⟩
    · have := Int32.le_iff_toInt_le.mp a1
      omega
    · have hw : wh4 (pkS a b o k) := ⟨wa.1, wa.2, wb.1, wb.2⟩
      have hc : inC (pkS a b o k) kz := ⟨by omega, by
        show kz.toInt.toNat < a.toInt.toNat * b.toInt.toNat
        omega⟩
      have hs : ∀ (f : Nat) (Q : PK) (y : Int32), (∀ j, j < 522 → Q j = pkS a b o k j) → ∀ j, j < 522 → uPk Q (cX f kz) y j = pkS a b o k j := fun f Q y h j hj => (up_ne (by have := cX_ge (f := f) (c := kz); omega)).trans (h j hj)
      have h0 : ∀ j, j < 522 → pkS a b o k j = pkS a b o k j := fun _ _ => rfl
      have er : ∀ N, (∀ j, rN N 634 j = rN M 634 j) → G_142 N kz = o k := fun N hN => by
        unfold G_142
        rw [rI_n hk, hN]
        exact ho k (by omega)
      have w5 : ∀ (N : Mem) (j : Nat) (y : Int32), (∀ i, rN N 634 i = rN M 634 i) → ∀ i, rN (wI N 635 j y) 634 i = rN M 634 i := fun N j y h i => (rN_wI_ne (by omega)).trans (h i)
      have g0 : ∀ i, rN M 634 i = rN M 634 i := fun _ => rfl
      rw [x147_ok hR hw hc (fn := 0) rfl (by decide), er M g0] at H
      have u1 := hR.up (cX_lt hw hc (f := 0) (by decide)) (x := o k - o k / 8 * 8)
      have s1 := hs 0 (pkS a b o k) (o k - o k / 8 * 8) h0
      have hw1 := hw.eq (s1 0 (by decide)) (s1 1 (by decide))
      have hc1 := (inC.eq (c := kz) (s1 0 (by decide)) (s1 1 (by decide))).mpr hc
      rw [x147_ok u1 hw1 hc1 (fn := 1) rfl (by decide), er _ (w5 M _ _ g0)] at H
      have u2 := u1.up (cX_lt hw1 hc1 (f := 1) (by decide)) (x := o k / 8 - o k / 8 / 2 * 2)
      have s2 := hs 1 _ (o k / 8 - o k / 8 / 2 * 2) s1
      have hw2 := hw.eq (s2 0 (by decide)) (s2 1 (by decide))
      have hc2 := (inC.eq (c := kz) (s2 0 (by decide)) (s2 1 (by decide))).mpr hc
      rw [x147_ok u2 hw2 hc2 (fn := 2) rfl (by decide), er _ (w5 _ _ _ (w5 M _ _ g0))] at H
      have u3 := u2.up (cX_lt hw2 hc2 (f := 2) (by decide)) (x := o k / 16)
      exact ih (k + 1) (kz + 1) _ (u3.eq (fun j _ => (pkS_s (o := o) (a := a) (b := b) hk j).symm)) (by rw [fI_wI, fI_wI, fI_wI]; exact hz) (fun i hi => by rw [w5 _ _ _ (w5 _ _ _ (w5 M _ _ g0))]; exact ho i hi) (by rw [i32_p1 (by omega)]; omega) (by omega) H
theorem rpark_ok (hR : RST T P M) (hz : (zI M 633 2).toInt = (n : Int)) (ho : ∀ k, k < n → rN M 634 k &&& 255 = o k) (H : Ev none e 155 0 [some (.ref 633), some (.int a), some (.int b), none] [] M v M' 0 0) : (¬ parT a b (zI M 633 2) o ∧ v = some (.int 0) ∧ RST T P M') ∨ (parT a b (zI M 633 2) o ∧ v = some (.int 1) ∧ RST T (parP a b o) M') := by
  have t4 : (4 : Int32).toInt = 4 := rfl
  have t16 : (16 : Int32).toInt = 16 := rfl
  have h0 : RST T P (X_139 (wF M 633 0 0)) := by
    unfold X_139
    exact (((hR.w0 0 (by decide) 0).w0 3 (by decide) _).w0 2 (by decide) 0).w0 4 (by decide) 0
  have z3 : zI (X_139 (wF M 633 0 0)) 633 3 = zI M 633 2 := by
    unfold X_139
    rw [fI_wF_ne (by decide), fI_wF_ne (by decide), fI_wF_eq hR.1.kf.1 qa_633 qi_61_3, fI_wF_ne (by decide)]
  have r634 : ∀ j, rN (X_139 (wF M 633 0 0)) 634 j = rN M 634 j := fun j => by
    unfold X_139
    rw [rN_wF, rN_wF, rN_wF, rN_wF]
  obtain ⟨N, eN⟩ : ∃ N, N = X_139 (wF M 633 0 0) := ⟨_, rfl⟩
  have H9 := rpk_0 hR.1 H
  rw [← eN] at h0 z3 r634 H9
  unfold parT
  rcases H9 with ⟨a1, r1, r2⟩ | ⟨_, a1, r1, r2⟩ | ⟨a1, a2, a3, H⟩ | ⟨a1, a2, a3, r1, r2⟩
  · rw [g140_R] at a1
    exact Or.inl ⟨fun q => a1 q.1, r1, r2 ▸ h0⟩
  · rw [g140_R] at a1
    exact Or.inl ⟨fun q => a1 q.2.1, r1, r2 ▸ h0⟩
  · rw [g140_R, Classical.not_not] at a1 a2
    rw [z3] at a3
    have w1 : 4 ≤ a.toInt ∧ a.toInt ≤ 16 := by unfold inX at a1; omega
    have w2 : 4 ≤ b.toInt ∧ b.toInt ≤ 16 := by unfold inX at a2; omega
    obtain ⟨c1, c2, _⟩ := cls_int (parP_wh (o := o) w1 w2)
    have cw : clsP (parP a b o) = a.toInt.toNat * b.toInt.toNat := rfl
    rw [cw] at c1 c2
    rw [parP_0, parP_1] at c1
    have hn : n = a.toInt.toNat * b.toInt.toNat := by
      have q : (zI M 633 2).toInt = a.toInt * b.toInt := by rw [a3, i32_mul (by omega) (by omega)]
      omega
    have z3i : (zI N 633 3).toInt = (n : Int) := by rw [z3]; exact hz
    rcases rpk_c (o := o) h0.1 z3i (fun k hk => by rw [r634]; exact ho k hk) n 0 0 rfl (by omega) (fun i hi => absurd hi (Nat.not_lt_zero _)) H with ⟨r1, r2, i, i1, i2⟩ | ⟨g, H⟩
    · exact Or.inl ⟨fun q => q.2.2.2 i (by omega) i2, r1, r2 ▸ h0⟩
    · obtain ⟨M1, kz, s1, s2, H⟩ := rpk_z 2314 0 0 P N h0 rfl rfl (fun j hj => absurd hj (Nat.not_lt_zero _)) H
      obtain ⟨_, _, H⟩ := rpk_94 s1.1 H
      have i0 : (0 : Int32).toNatClampNeg = 0 := rfl
      have i1 : (1 : Int32).toNatClampNeg = 1 := rfl
      rw [i0, i1] at H
      have u2 := (s1.up (i := 0) (by decide) (x := a)).up (i := 1) (by decide) (x := b)
      have u3 : RST T (pkS a b o 0) (wI (wI M1 635 0 a) 635 1 b) := u2.eq (fun j _ => by
        unfold pkS uPk
        by_cases j0 : j = 0
        · rw [if_pos j0, if_neg (by omega), if_pos j0]
        · rw [if_neg j0]
          by_cases j1 : j = 1
          · rw [if_pos j1, if_pos j1]
          · rw [if_neg j1, if_neg j1, if_neg j0, if_neg (by omega)])
      have z3m : zI M1 633 3 = zI N 633 3 := s2.fi (fun q => q)
      have r4m : ∀ j, rN M1 634 j = rN N 634 j := fun j => s2.rn (by decide)
      obtain ⟨v1, v2⟩ := rpk_s w1 w2 hn n 0 0 _ u3 (by rw [fI_wI, fI_wI, z3m]; exact z3i) (fun k hk => by rw [rN_wI_ne (by omega), rN_wI_ne (by omega), r4m, r634]; exact ho k hk) rfl (by omega) H
      refine Or.inr ⟨⟨a1, a2, a3, fun k hk => g k (by omega)⟩, v1, ?_⟩
      have : parP a b o = pkS a b o n := by rw [hn]; rfl
      rw [this]
      exact v2
  · rw [z3] at a3
    exact Or.inl ⟨fun q => a3 q.2.2.1, r1, r2 ▸ h0⟩
end RPAR
