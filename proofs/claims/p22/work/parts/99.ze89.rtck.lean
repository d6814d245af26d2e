/-! THE REFERENCE'S tick, endWeek, wornMany, go -/
section RTC
variable {e t : Nat} {T : TS} {g : TQ} {P P' Q : PK} {M M1 M' : Mem} {v : Option Value} {c d : Int32} {w dd : Int32} {f0 : Bool} {ss : List Int32} {k B n : Nat}
theorem rwlk_l : ∀ (r k : Nat) (kz : Int32) (P : PK) (ss : List Int32) (M : Mem) (c2 c3 : Option Value), RST T P M → okD P → okK P → WFr w f0 ss M → ARn dd P M → kz.toInt = (k : Int) → (k : Int) + (r : Int) = (P 157).toInt → Ev none e 204 202 [some (.ref 633), some (.int kz), c2, c3] [] M v M' 0 0 → ∃ (P6 : PK) (ss6 : List Int32), wlkP T r k (P, ss) = (P6, ss6) ∧ v = none ∧ RST T (uPk P6 518 (P6 518 + 1)) M' ∧ okD P6 ∧ okK P6 ∧ FZ rkF rkW noO M M' ∧ WFr w f0 ss6 M' ∧ ARn dd P6 M' ∧ (∀ j, j < 157 → P6 j = P j) := by
  intro r
  induction r with
  | zero =>
    intro k kz P ss M c2 c3 hR hD hK hf ha hk hn H
    have h157 : rI M 635 157 = P 157 := r_s hR (n := 157) rfl (by decide)
    have h518 : rI M 635 518 = P 518 := r_s hR (n := 518) rfl (by decide)
    have e518 : (518 : Int32).toNatClampNeg = 518 := rfl
    rcases rtk_202 hR.1 H with ⟨_, _, _, _, h1, h2⟩ | ⟨a1, _⟩
    · rw [h518, e518] at h2
      refine ⟨P, ss, rfl, h1, by rw [h2]; exact hR.up (by decide), hD, hK, by rw [h2]; exact rk_wI, ?_, ?_, fun _ _ => rfl⟩
      · rw [h2]
        exact ⟨by rw [fI_wI]; exact hf.1, by rw [fI_wI]; exact hf.2⟩
      · unfold ARn
        rw [h2, fI_wI]
        exact ha
    · exact absurd (Int32.le_iff_toInt_le.mpr (by rw [h157]; omega)) a1
  | succ r ih =>
    intro k kz P ss M c2 c3 hR hD hK hf ha hk hn H
    have h157 : rI M 635 157 = P 157 := r_s hR (n := 157) rfl (by decide)
    have h60 := hK.2.1
    have hkn : k < (P 157).toInt.toNat := by omega
    rcases rtk_202 hR.1 H with ⟨a1, _⟩ | ⟨_, _, e1, v1, M1, rfl, H1, H⟩
    · rw [h157] at a1
      have := Int32.le_iff_toInt_le.mp a1
      omega
    · have hpl : (158 + (6 * kz)).toInt = ((158 + 6 * k : Nat) : Int) := by
        have := (i32_e kz (by omega) (by omega)).1
        omega
      obtain ⟨rfl, q2, q3, q4, q5⟩ := rgoe_ok hR hD hK hkn hf ha hpl H1
      obtain ⟨R, eR⟩ : ∃ R, R = goeP T (P, ss) k := ⟨_, rfl⟩
      have hlo : ∀ j, (j < 158 ∨ j = 518 ∨ j = 521) → R.1.1 j = P j := by rw [eR]; exact goe_lo hK hkn
      have hK2 : okK R.1.1 := by rw [eR]; exact goe_K hD hK hkn
      rw [← eR] at q2 q4 q5 H
      have hD2 : okD R.1.1 := hD.sb (fun j hj => hlo j (by omega))
      have h157' : R.1.1 157 = P 157 := hlo 157 (by omega)
      have hw : wlkP T (r + 1) k (P, ss) = (if R.2 = true then wlkP T r (k + 1) R.1 else wlkP T r k (leaP R.1.1 k, R.1.2)) := by rw [eR]; rfl
      rw [hw]
      rcases rtk_226 q2.1 H with ⟨b1, e2, v2, M2, he, H2, H⟩ | ⟨b1, H⟩
      · rw [bI_0] at b1
        rw [if_neg (by rw [b1]; decide)]
        obtain ⟨rfl, p2, p3, p4⟩ := rlea_ok q2 (by rw [h157']; omega) (by rw [h157']; exact h60) hk (by rw [h157']; omega) H2
        have H := rtk_240 p2.1 H
        have hR3 := p2
        have hl157 : leaP R.1.1 k 157 = R.1.1 157 - 1 := by unfold leaP; rw [if_pos rfl]
        have hm : (R.1.1 157 - 1).toInt = (R.1.1 157).toInt - 1 := i32_m1 (by rw [h157']; omega)
        have hlolea : ∀ j, j < 157 → leaP R.1.1 k j = R.1.1 j := fun j hj => by
          unfold leaP
          rw [if_neg (by omega), if_neg (by omega), if_neg (by omega)]
        have h519 : leaP R.1.1 k 519 = R.1.1 519 := by
          unfold leaP
          rw [if_neg (by decide), if_neg (by rw [hm, h157']; omega), if_neg (by rw [hm, h157']; omega)]
        obtain ⟨P6, ss6, s1, s2, s3, s4, s5, s6, s7, s8, s9⟩ := ih k kz (leaP R.1.1 k) R.1.2 M2 _ _ hR3 (hD2.sb hlolea) (hK2.lea (by rw [h157']; exact hkn)) ⟨(p4 40).trans q4.1, (p4 42).trans q4.2⟩ (by unfold ARn; rw [p4, h519]; exact q5) hk (by rw [hl157, hm, h157']; omega) H
        exact ⟨P6, ss6, s1, s2, s3, s4, s5, (q3.trans p3).trans s6, s7, s8, fun j hj => (s9 j hj).trans ((hlolea j hj).trans (hlo j (by omega)))⟩
      · rw [bI_0, Bool.not_eq_false] at b1
        rw [if_pos b1]
        obtain ⟨P6, ss6, s1, s2, s3, s4, s5, s6, s7, s8, s9⟩ := ih (k + 1) (kz + 1) R.1.1 R.1.2 M1 _ _ q2 hD2 hK2 q4 q5 (by rw [i32_p1 (by omega)]; omega) (by rw [h157']; omega) H
        exact ⟨P6, ss6, s1, s2, s3, s4, s5, q3.trans s6, s7, s8, fun j hj => (s9 j hj).trans (hlo j (by omega))⟩
theorem okK.new (hD : okD P) (h : okK P) (hk : k < (P 12).toInt.toNat) (hm : ¬ P 157 = 60) : okK (newP P k) := by
  obtain ⟨k0, k60, kk⟩ := h
  have t60 : (60 : Int32).toInt = 60 := rfl
  have m59 : (P 157).toInt ≤ 59 := by
    have : (P 157).toInt ≠ 60 := fun q => hm (Int32.toInt_inj.mp (q.trans t60.symm))
    omega
  obtain ⟨m, em⟩ : ∃ m, m = (P 157).toInt.toNat := ⟨_, rfl⟩
  obtain ⟨hfr, _, _, _, _⟩ := hD.2.2.2.2 k hk
  have hto : inC P (P (3 + (P (13 + 6 * k)).toInt.toNat)) := hD.2.1.2.2 _ (by omega)
  obtain ⟨Q, eQ⟩ : ∃ Q, Q = newP P k := ⟨_, rfl⟩
  rw [← eQ]
  unfold newP at eQ
  rw [← em] at eQ
  have q157 : Q 157 = P 157 + 1 := by rw [eQ]; exact up_eq
  have q157i : (Q 157).toInt = (m : Int) + 1 := by
    rw [q157, i32_p1 (by omega)]
    omega
  have Qo : ∀ j, j ≠ 157 → (j < 158 + 6 * m ∨ 158 + 6 * m + 5 ≤ j) → Q j = P j := fun j j1 j2 => by
    rw [eQ, up_ne j1, up_ne (by omega), up_ne (by omega), up_ne (by omega), up_ne (by omega), up_ne (by omega)]
  have Q0 : Q (158 + 6 * m) = P (3 + (P (13 + 6 * k)).toInt.toNat) := by
    rw [eQ, up_ne (by omega), up_ne (by omega), up_ne (by omega), up_ne (by omega), up_ne (by omega), up_eq]
  have Q1 : Q (158 + 6 * m + 1) = nI k := by
    rw [eQ, up_ne (by omega), up_ne (by omega), up_ne (by omega), up_ne (by omega), up_eq]
  have Q3 : Q (158 + 6 * m + 3) = -1 := by
    rw [eQ, up_ne (by omega), up_ne (by omega), up_eq]
  have hkI : (nI k).toInt = (k : Int) := nI_toInt (by have := hD.2.2.2.1; omega)
  have e0 : Q 0 = P 0 := Qo 0 (by omega) (by omega)
  have e1 : Q 1 = P 1 := Qo 1 (by omega) (by omega)
  refine ⟨by omega, by omega, fun t ht => ?_⟩
  rw [inC.eq e0 e1]
  by_cases htm : t = m
  · subst htm
    rw [Q0, Q1, Q3, Qo 12 (by omega) (by omega), hkI]
    exact ⟨hto, by omega, by omega, by decide⟩
  · obtain ⟨c1, c2, c3, c4⟩ := kk t (by omega)
    rw [Qo _ (by omega) (by omega), Qo _ (by omega) (by omega), Qo 12 (by omega) (by omega), Qo _ (by omega) (by omega)]
    exact ⟨c1, c2, c3, c4⟩
theorem rbeg_l : ∀ (n k : Nat) (kz : Int32) (P : PK) (M : Mem) (c2 c3 : Option Value), RST T P M → okD P → okK P → kz.toInt = (k : Int) → (k : Int) + (n : Int) = (P 12).toInt → Ev none e 204 2 [some (.ref 633), some (.int kz), c2, c3] [] M v M' 0 0 → ∃ M1 d2 d3, RST T (begP n k P) M1 ∧ okK (begP n k P) ∧ FZ rkF rkW noO M M1 ∧ (∀ j, zI M1 633 j = zI M 633 j) ∧ Ev none e 204 202 [some (.ref 633), some (.int 0), d2, d3] [] M1 v M' 0 0 := by
  intro n
  induction n with
  | zero =>
    intro k kz P M c2 c3 hR hD hK hk hn H
    have h12 : rI M 635 12 = P 12 := r_s hR (n := 12) rfl (by decide)
    rcases rtk_2 hR.1 H with ⟨_, _, H⟩ | ⟨a1, _⟩ | ⟨a1, _⟩ | ⟨a1, _⟩ | ⟨a1, _⟩ | ⟨a1, _⟩
    · exact ⟨M, _, _, hR, hK, FZ.refl _, fun _ => rfl, H⟩
    all_goals exact absurd (Int32.le_iff_toInt_le.mpr (by rw [h12]; omega)) a1
  | succ n ih =>
    intro k kz P M c2 c3 hR hD hK hk hn H
    have h12 : rI M 635 12 = P 12 := r_s hR (n := 12) rfl (by decide)
    have h24 := hD.2.2.2.1
    have hkn : k < (P 12).toInt.toNat := by omega
    have t13 : (13 : Int32).toInt = 13 := rfl
    have t6 : (6 : Int32).toInt = 6 := rfl
    have z : ∀ (i : Int32) (n : Nat), i.toInt = (n : Int) → ∀ f : Int32, 0 ≤ f.toInt → f.toInt ≤ 6 → n < 1000 → (i + f).toInt = (n : Int) + f.toInt := fun i n hi f h0 h6 hn => by
      rw [i32_add (by omega) (by omega), hi]
    have x0 : (13 + (6 * kz)).toInt = ((13 + 6 * k : Nat) : Int) := by
      have e : (6 : Int32).toInt * kz.toInt = 6 * (k : Int) := by rw [t6, hk]
      have e2 : (6 * kz).toInt = 6 * (k : Int) := by rw [i32_mul (by omega) (by omega), e]
      rw [i32_add (by omega) (by omega), e2, t13]
      omega
    have x3 : ((13 + (6 * kz)) + 3).toInt = ((13 + 6 * k + 3 : Nat) : Int) := by rw [z _ _ x0 3 (by decide) (by decide) (by omega)]; rfl
    have x4 : ((13 + (6 * kz)) + 4).toInt = ((13 + 6 * k + 4 : Nat) : Int) := by rw [z _ _ x0 4 (by decide) (by decide) (by omega)]; rfl
    have x5 : ((13 + (6 * kz)) + 5).toInt = ((13 + 6 * k + 5 : Nat) : Int) := by rw [z _ _ x0 5 (by decide) (by decide) (by omega)]; rfl
    have s0 : rI M 635 (13 + (6 * kz)) = P (13 + 6 * k) := r_s hR x0 (by omega)
    have s3 : rI M 635 ((13 + (6 * kz)) + 3) = P (13 + 6 * k + 3) := r_s hR x3 (by omega)
    have s4 : rI M 635 ((13 + (6 * kz)) + 4) = P (13 + 6 * k + 4) := r_s hR x4 (by omega)
    have s5 : rI M 635 ((13 + (6 * kz)) + 5) = P (13 + 6 * k + 5) := r_s hR x5 (by omega)
    have s518 : rI M 635 518 = P 518 := r_s hR (n := 518) rfl (by decide)
    have s157 : rI M 635 157 = P 157 := r_s hR (n := 157) rfl (by decide)
    have s521 : rI M 635 521 = P 521 := r_s hR (n := 521) rfl (by decide)
    have hk1 : (kz + 1).toInt = ((k + 1 : Nat) : Int) := by
      rw [i32_p1 (by omega)]
      omega
    have hkI : kz = nI k := Int32.toInt_inj.mp (by rw [hk, nI_toInt (by omega)])
    have no : dueB P k = false → ∀ (c2 c3 : Option Value), Ev none e 204 2 [some (.ref 633), some (.int (kz + 1)), c2, c3] [] M v M' 0 0 → ∃ M1 d2 d3, RST T (begP (n + 1) k P) M1 ∧ okK (begP (n + 1) k P) ∧ FZ rkF rkW noO M M1 ∧ (∀ j, zI M1 633 j = zI M 633 j) ∧ Ev none e 204 202 [some (.ref 633), some (.int 0), d2, d3] [] M1 v M' 0 0 := fun hb c2 c3 H => by
      have hbe : begP (n + 1) k P = begP n (k + 1) P := by
        show (if dueB P k = true then _ else begP n (k + 1) P) = _
        rw [if_neg (by rw [hb]; decide)]
      rw [hbe]
      exact ih (k + 1) (kz + 1) P M c2 c3 hR hD hK hk1 (by omega) H
    have hrem : remI (P 518 - P (13 + 6 * k + 4)) (P (13 + 6 * k + 3)) = (P 518 - P (13 + 6 * k + 4)) - (P 518 - P (13 + 6 * k + 4)) / P (13 + 6 * k + 3) * P (13 + 6 * k + 3) := rfl
    rcases rtk_2 hR.1 H with ⟨a1, _⟩ | ⟨_, a2, _, _, H⟩ | ⟨_, a2, a3, _, _, _, _, H⟩ | ⟨_, a2, a3, a4, a5, _, _, _, _, _, _, _, _, _, _, _, H⟩ | ⟨_, a2, a3, a4, a5, _, _, _, _, _, _, _, _, _, _, _, _, _, _, _, _, _, _, _, H⟩ | ⟨_, a2, a3, a4, _, _, _, _, _, _, _, _, H⟩
    · rw [h12] at a1
      have := Int32.le_iff_toInt_le.mp a1
      omega
    · rw [s5] at a2
      exact no (by unfold dueB; rw [decide_eq_true a2]; rfl) _ _ H
    · rw [s5] at a2
      rw [s518, s4] at a3
      exact no (by unfold dueB; rw [decide_eq_false a2, decide_eq_true a3]; rfl) _ _ H
    · rw [s5] at a2
      rw [s518, s4] at a3 a4
      rw [s3, ← hrem] at a4
      rw [s157] at a5
      have e521 : (521 : Int32).toNatClampNeg = 521 := rfl
      rw [s521, e521] at H
      have hbe : begP (n + 1) k P = begP n (k + 1) (uPk P 521 (P 521 + 1)) := by
        have hb : dueB P k = true := by unfold dueB; rw [decide_eq_false a2, decide_eq_false a3, decide_eq_true a4]; rfl
        show (if dueB P k = true then (if P 157 = 60 then _ else _) else _) = _
        rw [if_pos hb, if_pos a5]
      rw [hbe]
      obtain ⟨M1, d2, d3, r1, r2, r3, r4, r5⟩ := ih (k + 1) (kz + 1) (uPk P 521 (P 521 + 1)) _ _ _ (hR.up (by decide)) (hD.sb (fun j hj => up_ne (by omega))) (hK.cur (k := 1000) (up_ne (by decide)) (up_ne (by decide)) (up_ne (by decide)) (up_ne (by decide)) (fun t ht _ => ⟨up_ne (by have := hK.2.1; omega), up_ne (by have := hK.2.1; omega), up_ne (by have := hK.2.1; omega)⟩) (fun h => absurd h (by have := hK.2.1; omega))) hk1 (by rw [show uPk P 521 (P 521 + 1) 12 = P 12 from up_ne (by decide)]; omega) H
      exact ⟨M1, d2, d3, r1, r2, rk_wI.trans r3, fun j => (r4 j).trans fI_wI, r5⟩
    · rw [s5] at a2
      rw [s518, s4] at a3 a4
      rw [s3, ← hrem] at a4
      rw [s157] at a5
      have hbe : begP (n + 1) k P = begP n (k + 1) (newP P k) := by
        have hb : dueB P k = true := by unfold dueB; rw [decide_eq_false a2, decide_eq_false a3, decide_eq_true a4]; rfl
        show (if dueB P k = true then (if P 157 = 60 then _ else _) else _) = _
        rw [if_pos hb, if_neg a5]
      rw [hbe]
      have hKn := okK.new hD hK hkn a5
      have hlt : (P 157).toInt ≤ 59 := by
        have t60 : (60 : Int32).toInt = 60 := rfl
        have : (P 157).toInt ≠ 60 := fun q => a5 (Int32.toInt_inj.mp (q.trans t60.symm))
        have := hK.2.1
        omega
      obtain ⟨m, em⟩ : ∃ m, m = (P 157).toInt.toNat := ⟨_, rfl⟩
      have emi : (P 157).toInt = (m : Int) := by have := hK.1; omega
      have y0 : (158 + (6 * P 157)).toInt = ((158 + 6 * m : Nat) : Int) := by
        have := (i32_e (P 157) (by omega) (by omega)).1
        omega
      have y1 : ((158 + (6 * P 157)) + 1).toInt = ((158 + 6 * m + 1 : Nat) : Int) := by rw [z _ _ y0 1 (by decide) (by decide) (by omega)]; rfl
      have y2 : ((158 + (6 * P 157)) + 2).toInt = ((158 + 6 * m + 2 : Nat) : Int) := by rw [z _ _ y0 2 (by decide) (by decide) (by omega)]; rfl
      have y3 : ((158 + (6 * P 157)) + 3).toInt = ((158 + 6 * m + 3 : Nat) : Int) := by rw [z _ _ y0 3 (by decide) (by decide) (by omega)]; rfl
      have y4 : ((158 + (6 * P 157)) + 4).toInt = ((158 + 6 * m + 4 : Nat) : Int) := by rw [z _ _ y0 4 (by decide) (by decide) (by omega)]; rfl
      have hfr := (hD.2.2.2.2 k hkn).1
      have h9 := hD.2.1.2.1
      have t3 : (3 : Int32).toInt = 3 := rfl
      have dx : (3 + P (13 + 6 * k)).toInt = ((3 + (P (13 + 6 * k)).toInt.toNat : Nat) : Int) := by
        rw [i32_add (by omega) (by omega), t3]
        omega
      have sdo : rI M 635 (3 + P (13 + 6 * k)) = P (3 + (P (13 + 6 * k)).toInt.toNat) := r_s hR dx (by omega)
      have e157 : (157 : Int32).toNatClampNeg = 157 := rfl
      rw [s157, s0, sdo, cl_n y0, cl_n y1, cl_n y2, cl_n y3, cl_n y4, e157, hkI] at H
      have g1 := ((((hR.up (i := 158 + 6 * m) (by omega) (x := P (3 + (P (13 + 6 * k)).toInt.toNat))).up (i := 158 + 6 * m + 1) (by omega) (x := nI k)).up (i := 158 + 6 * m + 2) (by omega) (x := 0)).up (i := 158 + 6 * m + 3) (by omega) (x := -1)).up (i := 158 + 6 * m + 4) (by omega) (x := -1)
      obtain ⟨N, eN⟩ : ∃ N, N = wI (wI (wI (wI (wI M 635 (158 + 6 * m) (P (3 + (P (13 + 6 * k)).toInt.toNat))) 635 (158 + 6 * m + 1) (nI k)) 635 (158 + 6 * m + 2) 0) 635 (158 + 6 * m + 3) (-1)) 635 (158 + 6 * m + 4) (-1) := ⟨_, rfl⟩
      rw [← eN] at g1 H
      have n157 : rI N 635 157 = P 157 := by
        rw [r_s g1 (n := 157) rfl (by decide), up_ne (by omega), up_ne (by omega), up_ne (by omega), up_ne (by omega), up_ne (by omega)]
      rw [n157] at H
      have g2 := g1.up (i := 157) (by decide) (x := P 157 + 1)
      have hnew : newP P k = uPk (uPk (uPk (uPk (uPk (uPk P (158 + 6 * m) (P (3 + (P (13 + 6 * k)).toInt.toNat))) (158 + 6 * m + 1) (nI k)) (158 + 6 * m + 2) 0) (158 + 6 * m + 3) (-1)) (158 + 6 * m + 4) (-1)) 157 (P 157 + 1) := by
        rw [em]
        rfl
      rw [← hnew] at g2
      have hsb : ∀ j, j < 157 → newP P k j = P j := new_sb (by omega) (by omega)
      have hFN : FZ rkF rkW noO M N := by
        rw [eN]
        exact (((rk_wI.trans rk_wI).trans rk_wI).trans rk_wI).trans rk_wI
      obtain ⟨M1, d2, d3, r1, r2, r3, r4, r5⟩ := ih (k + 1) (nI k + 1) (newP P k) _ _ _ g2 (hD.sb hsb) hKn (by rw [← hkI]; exact hk1) (by rw [hsb 12 (by decide)]; omega) H
      refine ⟨M1, d2, d3, r1, r2, (hFN.trans rk_wI).trans r3, fun j => (r4 j).trans (fI_wI.trans ?_), r5⟩
      rw [eN, fI_wI, fI_wI, fI_wI, fI_wI, fI_wI]
    · rw [s5] at a2
      rw [s518, s4] at a3 a4
      rw [s3, ← hrem] at a4
      exact no (by unfold dueB; rw [decide_eq_false a2, decide_eq_false a3, decide_eq_false a4]; rfl) _ _ H
theorem rtick_ok (hR : RST T P M) (hD : okD P) (hK : okK P) (hf : WFr w f0 ss M) (ha : ARn dd P M) (H : Ev none e 204 0 [some (.ref 633), none, none, none] [] M v M' 0 0) : v = none ∧ RST T (tckP T (P, ss)).1 M' ∧ okD (tckP T (P, ss)).1 ∧ okK (tckP T (P, ss)).1 ∧ FZ rkF rkW noO M M' ∧ WFr w f0 (tckP T (P, ss)).2 M' ∧ ARn dd (tckP T (P, ss)).1 M' ∧ (∀ j, j < 157 → (tckP T (P, ss)).1 j = P j) := by
  have h12 := hD.2.2.1
  obtain ⟨M1, d2, d3, r1, r2, r3, r4, H⟩ := rbeg_l (P 12).toInt.toNat 0 0 P M none none hR hD hK rfl (by omega) (rtk_0 hR.1 H)
  have bk := beg_keep (P 12).toInt.toNat 0 P hK.1 hK.2.1
  obtain ⟨P1, eP1⟩ : ∃ P1, P1 = bg0P P := ⟨_, rfl⟩
  have eb : begP (P 12).toInt.toNat 0 P = P1 := eP1.symm
  rw [eb] at r1 r2 bk
  have hD1 : okD P1 := hD.sb (fun j hj => bk j (Or.inl hj))
  have hK1 := r2.1
  obtain ⟨P6, ss6, s1, s2, s3, s4, s5, s6, s7, s8, s9⟩ := rwlk_l (P1 157).toInt.toNat 0 0 P1 ss M1 d2 d3 r1 hD1 r2 ⟨(r4 40).trans hf.1, (r4 42).trans hf.2⟩ (by unfold ARn; rw [r4, bk 519 (by omega)]; exact ha) rfl (by omega) H
  have ht1 : tckP T (P, ss) = (uPk P6 518 (P6 518 + 1), ss6) := by
    unfold tckP
    dsimp only
    rw [← eP1, s1]
  rw [ht1]
  have hlow : ∀ j, j < 157 → uPk P6 518 (P6 518 + 1) j = P j := fun j hj => (up_ne (by omega)).trans ((s9 j hj).trans (bk j (Or.inl hj)))
  have hK6 : okK (uPk P6 518 (P6 518 + 1)) := s5.far (fun j hj => up_ne (by omega))
  have h519 : uPk P6 518 (P6 518 + 1) 519 = P6 519 := up_ne (by decide)
  refine ⟨s2, s3, hD.sb hlow, hK6, r3.trans s6, s7, ?_, hlow⟩
  unfold ARn
  rw [s8]
  show P6 519 + dd = uPk P6 518 (P6 518 + 1) 519 + dd
  rw [h519]
theorem rwka_l (hw : wh4 P) : ∀ (n : Nat) (c : Int32) (Q : PK) (M : Mem) (c2 c3 : Option Value), RST T Q M → Q 0 = P 0 → Q 1 = P 1 → 0 ≤ c.toInt → c.toInt + (n : Int) = (clsP P : Int) → Ev none e 208 2 [some (.ref 633), some (.int c), c2, c3] [] M v M' 0 0 → ∃ M1 d2 d3, RST T (wkaP (T 0) n c Q) M1 ∧ FZ rkF rkW noO M M1 ∧ (∀ j, zI M1 633 j = zI M 633 j) ∧ (∀ j, j < 522 → wkaP (T 0) n c Q j = Q j) ∧ Ev none e 208 76 [some (.ref 633), some (.int 0), d2, d3] [] M1 v M' 0 0 := by
  obtain ⟨_, c256, _⟩ := cls_int hw
  intro n
  induction n with
  | zero =>
    intro c Q M c2 c3 hR h0 h1 hc hn H
    have hg := g144_ok hR (hw.eq h0 h1)
    rw [cls_eq h0 h1] at hg
    rcases rew_2 hR.1 H with ⟨_, H⟩ | ⟨a1, _⟩
    · exact ⟨M, _, _, hR, FZ.refl _, fun _ => rfl, fun _ _ => rfl, H⟩
    · exact absurd (Int32.le_iff_toInt_le.mpr (by omega)) a1
  | succ n ih =>
    intro c Q M c2 c3 hR h0 h1 hc hn H
    have hwQ := hw.eq h0 h1
    have hg := g144_ok hR hwQ
    rw [cls_eq h0 h1] at hg
    have hcin : inC Q c := (inC.eq h0 h1).mpr ⟨hc, by omega⟩
    rcases rew_2 hR.1 H with ⟨a1, _⟩ | ⟨_, e1, v1, M1, rfl, H1, H⟩
    · have := Int32.le_iff_toInt_le.mp a1
      omega
    · rw [r_cell hR hwQ hcin (fn := 3) rfl (by decide)] at H
      obtain ⟨rfl, q2, q3⟩ := rfst_ok hR hwQ hcin H1
      have hR1 := hR.tu q2 q3
      have l0 : ∀ (f : Nat) (x : Int32), uPk Q (cX f c) x 0 = Q 0 := fun f x => up_ne (by have := cX_ge (f := f) (c := c); omega)
      have l1 : ∀ (f : Nat) (x : Int32), uPk Q (cX f c) x 1 = Q 1 := fun f x => up_ne (by have := cX_ge (f := f) (c := c); omega)
      have hm0 : ∀ x : Int32, max0 x = if 0 ≤ x then x else 0 := fun x => by
        unfold max0
        by_cases h : x < 0
        · rw [if_pos h, if_neg (fun q => by rw [i32_z] at h; have := Int32.le_iff_toInt_le.mp q; have z : (0 : Int32).toInt = 0 := rfl; omega)]
        · rw [if_neg h, if_pos (Int32.le_iff_toInt_le.mpr (by rw [i32_z] at h; have z : (0 : Int32).toInt = 0 := rfl; omega))]
      have cont : ∀ (x y : Int32) (c2 c3 : Option Value), x = max0 (cE Q 3 c - fstL (T 0) Q 1 c 10 (T 0).2) → y = max0 (cE Q 4 c - dyQ (T 0)) → Ev none (e1 + 1) 208 2 [some (.ref 633), some (.int (c + 1)), c2, c3] [] (X_147 (X_147 M1 c 3 x) c 4 y) v M' 0 0 → ∃ M2 d2 d3, RST T (wkaP (T 0) (n + 1) c Q) M2 ∧ FZ rkF rkW noO M M2 ∧ (∀ j, zI M2 633 j = zI M 633 j) ∧ (∀ j, j < 522 → wkaP (T 0) (n + 1) c Q j = Q j) ∧ Ev none (e1 + 1) 208 76 [some (.ref 633), some (.int 0), d2, d3] [] M2 v M' 0 0 := fun x y c2 c3 hx hy H => by
        have g1 := hR1.up (cX_lt hwQ hcin (f := 3) (by decide)) (x := x)
        rw [x147_ok hR1 hwQ hcin (fn := 3) rfl (by decide), x147_ok g1 (hwQ.eq (l0 3 x) (l1 3 x)) ((inC.eq (l0 3 x) (l1 3 x)).mpr hcin) (fn := 4) rfl (by decide)] at H
        have g2 := g1.up (cX_lt hwQ hcin (f := 4) (by decide)) (x := y)
        have hwk : wk1P (T 0) Q c = uPk (uPk Q (cX 3 c) x) (cX 4 c) y := by rw [hx, hy]; rfl
        rw [← hwk] at g2
        obtain ⟨M2, d2, d3, r1, r2, r3, r4, r5⟩ := ih (c + 1) (wk1P (T 0) Q c) _ c2 c3 g2 ((wk1_lo (by decide)).trans h0) ((wk1_lo (by decide)).trans h1) (by rw [i32_p1 (by omega)]; omega) (by rw [i32_p1 (by omega)]; omega) H
        exact ⟨M2, d2, d3, r1, (((tu_rk q3).trans rk_wI).trans rk_wI).trans r2, fun j => (r3 j).trans (by rw [fI_wI, fI_wI]; exact q3.fi (fun q => q)), fun j hj => (r4 j hj).trans (wk1_lo hj), r5⟩
      have hy4 : G_146 M1 c 4 - zI M1 633 30 = cE Q 4 c - dyQ (T 0) := by rw [r_cell hR1 hwQ hcin (fn := 4) rfl (by decide), hR1.2.2.1.2.2]
      rcases rew_24 q2 H with ⟨a1, a2, H⟩ | ⟨a1, a2, H⟩ | ⟨a1, a2, H⟩ | ⟨a1, a2, H⟩
      · rw [hy4] at a2 H
        exact cont _ _ _ _ (by rw [hm0, if_pos a1]) (by rw [hm0, if_pos a2]) H
      · rw [hy4] at a2 H
        exact cont _ _ _ _ (by rw [hm0, if_pos a1]) (by rw [hm0, if_neg a2]) H
      · rw [hy4] at a2 H
        exact cont _ _ _ _ (by rw [hm0, if_neg a1]) (by rw [hm0, if_pos a2]) H
      · rw [hy4] at a2 H
        exact cont _ _ _ _ (by rw [hm0, if_neg a1]) (by rw [hm0, if_neg a2]) H
theorem rzer_l (hw : wh4 P) : ∀ (n : Nat) (c : Int32) (Q : PK) (M : Mem) (c2 c3 : Option Value), RST T Q M → Q 0 = P 0 → Q 1 = P 1 → 0 ≤ c.toInt → c.toInt + (n : Int) = (clsP P : Int) → Ev none e 208 76 [some (.ref 633), some (.int c), c2, c3] [] M v M' 0 0 → v = none ∧ RST T (zerP 5 n c Q) M' ∧ FZ rkF rkW noO M M' ∧ (∀ j, zI M' 633 j = zI M 633 j) := by
  obtain ⟨_, c256, _⟩ := cls_int hw
  intro n
  induction n with
  | zero =>
    intro c Q M c2 c3 hR h0 h1 hc hn H
    have hg := g144_ok hR (hw.eq h0 h1)
    rw [cls_eq h0 h1] at hg
    rcases rew_76 hR.1 H with ⟨_, r1, r2⟩ | ⟨a1, _⟩
    · subst r2
      exact ⟨r1, hR, FZ.refl _, fun _ => rfl⟩
    · exact absurd (Int32.le_iff_toInt_le.mpr (by omega)) a1
  | succ n ih =>
    intro c Q M c2 c3 hR h0 h1 hc hn H
    have hwQ := hw.eq h0 h1
    have hg := g144_ok hR hwQ
    rw [cls_eq h0 h1] at hg
    have hcin : inC Q c := (inC.eq h0 h1).mpr ⟨hc, by omega⟩
    rcases rew_76 hR.1 H with ⟨a1, _⟩ | ⟨_, H⟩
    · have := Int32.le_iff_toInt_le.mp a1
      omega
    · rw [x147_ok hR hwQ hcin (fn := 5) rfl (by decide)] at H
      have g1 := hR.up (cX_lt hwQ hcin (f := 5) (by decide)) (x := 0)
      have l0 : uPk Q (cX 5 c) 0 0 = Q 0 := up_ne (by have := cX_ge (f := 5) (c := c); omega)
      have l1 : uPk Q (cX 5 c) 0 1 = Q 1 := up_ne (by have := cX_ge (f := 5) (c := c); omega)
      obtain ⟨r1, r2, r3, r4⟩ := ih (c + 1) _ _ c2 c3 g1 (l0.trans h0) (l1.trans h1) (by rw [i32_p1 (by omega)]; omega) (by rw [i32_p1 (by omega)]; omega) H
      exact ⟨r1, r2, rk_wI.trans r3, fun j => (r4 j).trans fI_wI⟩
theorem rwek_ok (hR : RST T P M) (hw : wh4 P) (H : Ev none e 208 0 [some (.ref 633), none, none, none] [] M v M' 0 0) : v = none ∧ RST T (wekP (T 0) P) M' ∧ FZ rkF rkW noO M M' ∧ (∀ j, zI M' 633 j = zI M 633 j) := by
  have z0 : (0 : Int32).toInt = 0 := rfl
  obtain ⟨M1, d2, d3, r1, r2, r3, r4, H⟩ := rwka_l hw (clsP P) 0 P M none none hR rfl rfl (by decide) (by omega) (rew_0 hR.1 H)
  obtain ⟨q1, q2, q3, q4⟩ := rzer_l hw (clsP P) 0 _ M1 d2 d3 r1 (r4 0 (by decide)) (r4 1 (by decide)) (by decide) (by omega) H
  exact ⟨q1, q2, r2.trans q3, fun j => (q4 j).trans (r3 j)⟩
theorem rwmn_l (hR : RST T P M) (hw : wh4 P) : ∀ (n : Nat) (c m : Int32), 0 ≤ c.toInt → c.toInt + (n : Int) = (clsP P : Int) → Ev none e 216 4 [some (.ref 633), some (.int m), some (.int c)] [] M v M' 0 0 → M' = M ∧ v = some (.int (netP (T 0) P n c m)) := by
  have hg := g144_ok hR hw
  obtain ⟨_, c256, _⟩ := cls_int hw
  intro n
  induction n with
  | zero =>
    intro c m hc hn H
    rcases rwm_4 hR.1 H with ⟨_, r1, r2⟩ | ⟨a1, _⟩ | ⟨a1, _⟩
    · exact ⟨r2, r1⟩
    all_goals exact absurd (Int32.le_iff_toInt_le.mpr (by omega)) a1
  | succ n ih =>
    intro c m hc hn H
    have hcin : inC P c := ⟨hc, by omega⟩
    have e1 : (c + 1).toInt = c.toInt + 1 := i32_p1 (by omega)
    unfold netP
    rcases rwm_4 hR.1 H with ⟨a1, _⟩ | ⟨_, a2, H⟩ | ⟨_, a2, H⟩
    · have := Int32.le_iff_toInt_le.mp a1
      omega
    · rw [g150_ok hR hw hcin, bI_0] at a2
      rw [a2, if_neg (by decide)]
      exact ih _ _ (by omega) (by omega) H
    · rw [g150_ok hR hw hcin, bI_0, Bool.not_eq_false] at a2
      rw [a2, if_pos rfl]
      exact ih _ _ (by omega) (by omega) H
theorem rwmn_ok (hR : RST T P M) (hw : wh4 P) (H : Ev none e 216 0 [some (.ref 633), none, none] [] M v M' 0 0) : M' = M ∧ v = some (.int (nwP (T 0) P)) := rwmn_l hR hw (clsP P) 0 0 (by decide) (by have : (0 : Int32).toInt = 0 := rfl; omega) (rwm_0 hR.1 H)
end RTC
