/-! THE REFERENCE'S goes, tick, endWeek -/
section RGO
variable {e t : Nat} {T : TS} {g : TQ} {P P' Q : PK} {M M1 M' : Mem} {v : Option Value} {c d : Int32} {w dd : Int32} {f0 : Bool} {ss : List Int32} {k B n : Nat}
theorem okK.cur (h : okK P) (h0 : P' 0 = P 0) (h1 : P' 1 = P 1) (h12 : P' 12 = P 12) (h157 : P' 157 = P 157) (ho : ∀ t, t < (P 157).toInt.toNat → t ≠ k → P' (158 + 6 * t) = P (158 + 6 * t) ∧ P' (158 + 6 * t + 1) = P (158 + 6 * t + 1) ∧ P' (158 + 6 * t + 3) = P (158 + 6 * t + 3)) (hk : k < (P 157).toInt.toNat → inC P (P' (158 + 6 * k)) ∧ P' (158 + 6 * k + 1) = P (158 + 6 * k + 1) ∧ -1 ≤ (P' (158 + 6 * k + 3)).toInt) : okK P' := by
  refine ⟨by rw [h157]; exact h.1, by rw [h157]; exact h.2.1, fun t ht => ?_⟩
  rw [h157] at ht
  obtain ⟨b1, b2, b3, b4⟩ := h.2.2 t ht
  rw [inC.eq h0 h1, h12]
  by_cases htk : t = k
  · subst htk
    obtain ⟨q1, q2, q3⟩ := hk ht
    rw [q2]
    exact ⟨q1, b2, b3, q3⟩
  · obtain ⟨q1, q2, q3⟩ := ho t ht htk
    rw [q1, q2, q3]
    exact ⟨b1, b2, b3, b4⟩
theorem okK.far (h : okK P) (hs : ∀ j, j < 518 → P' j = P j) : okK P' := by
  have h60 := h.2.1
  refine ⟨by rw [hs 157 (by decide)]; exact h.1, by rw [hs 157 (by decide)]; exact h.2.1, fun t ht => ?_⟩
  rw [hs 157 (by decide)] at ht
  obtain ⟨b1, b2, b3, b4⟩ := h.2.2 t ht
  rw [inC.eq (hs 0 (by decide)) (hs 1 (by decide)), hs _ (by omega), hs _ (by omega), hs 12 (by decide), hs _ (by omega)]
  exact ⟨b1, b2, b3, b4⟩
theorem okK.age (h : okK P) : okK (ageP P k) := by
  have ne : ∀ j, j ≠ 158 + 6 * k + 2 → ageP P k j = P j := fun j hj => up_ne hj
  refine h.cur (k := k) (ne _ (by omega)) (ne _ (by omega)) (ne _ (by omega)) (ne _ (by omega)) (fun t ht htk => ⟨ne _ (by omega), ne _ (by omega), ne _ (by omega)⟩) (fun hk => ?_)
  rw [ne _ (by omega), ne _ (by omega), ne _ (by omega)]
  obtain ⟨b1, b2, b3, b4⟩ := h.2.2 k hk
  exact ⟨b1, rfl, b4⟩
theorem mov_o : ∀ j, j ≠ 158 + 6 * k → j ≠ 158 + 6 * k + 3 → j ≠ 158 + 6 * k + 4 → movP P k d j = P j := fun j j0 j3 j4 => by
  unfold movP
  rw [up_ne j0, up_ne j4, up_ne j3]
theorem okK.mov (h : okK P) (hd : -1 ≤ d.toInt) (hto : inC P (besP P (P (158 + 6 * k)) d)) : okK (movP P k d) := by
  refine h.cur (k := k) (mov_o _ (by omega) (by omega) (by omega)) (mov_o _ (by omega) (by omega) (by omega)) (mov_o _ (by omega) (by omega) (by omega)) (mov_o _ (by omega) (by omega) (by omega)) (fun t ht htk => ⟨mov_o _ (by omega) (by omega) (by omega), mov_o _ (by omega) (by omega) (by omega), mov_o _ (by omega) (by omega) (by omega)⟩) (fun hk => ⟨?_, mov_o _ (by omega) (by omega) (by omega), ?_⟩)
  · have : movP P k d (158 + 6 * k) = besP P (P (158 + 6 * k)) d := by unfold movP; exact up_eq
    rw [this]
    exact hto
  · have : movP P k d (158 + 6 * k + 3) = d := by
      unfold movP
      rw [up_ne (by omega), up_ne (by omega), up_eq]
    rw [this]
    exact hd
theorem okK.lea (h : okK P) (hk : k < (P 157).toInt.toNat) : okK (leaP P k) := by
  have h60 := h.2.1
  have h0 := h.1
  have m1 : (P 157 - 1).toInt = (P 157).toInt - 1 := i32_m1 (by omega)
  have l157 : leaP P k 157 = P 157 - 1 := by unfold leaP; rw [if_pos rfl]
  have lo : ∀ j, j < 157 → leaP P k j = P j := fun j hj => by
    unfold leaP
    rw [if_neg (by omega), if_neg (by omega), if_neg (by omega)]
  have lw : ∀ t f, t < k → f < 6 → leaP P k (158 + 6 * t + f) = P (158 + 6 * t + f) := fun t f ht hf => by
    unfold leaP
    rw [if_neg (by omega), if_neg (by omega), if_neg (by omega)]
  have hw2 : ∀ t f, k ≤ t → t < (P 157 - 1).toInt.toNat → f < 6 → leaP P k (158 + 6 * t + f) = P (158 + 6 * (t + 1) + f) := fun t f ht h2 hf => by
    unfold leaP
    rw [if_neg (by omega), if_pos ⟨by omega, by omega⟩]
    congr 1
    omega
  refine ⟨by rw [l157, m1]; omega, by rw [l157, m1]; omega, fun t ht => ?_⟩
  rw [l157] at ht
  rw [inC.eq (lo 0 (by decide)) (lo 1 (by decide)), lo 12 (by decide)]
  by_cases hts : t < k
  · have f0 := lw t 0 hts (by decide)
    have f1 := lw t 1 hts (by decide)
    have f3 := lw t 3 hts (by decide)
    rw [Nat.add_zero] at f0
    rw [f0, f1, f3]
    exact h.2.2 t (by omega)
  · have f0 := hw2 t 0 (by omega) ht (by decide)
    have f1 := hw2 t 1 (by omega) ht (by decide)
    have f3 := hw2 t 3 (by omega) ht (by decide)
    rw [Nat.add_zero, Nat.add_zero] at f0
    rw [f0, f1, f3]
    exact h.2.2 (t + 1) (by omega)
/-- what stays of P in a walker's step -/
theorem stp_lo (hK : okK P) (hk : k < (P 157).toInt.toNat) : ∀ j, (j < 158 ∨ (518 ≤ j ∧ j < 522)) → (stpP T (P, ss) k).1 j = P j := fun j hj => by
  have h60 := hK.2.1
  unfold stpP
  split
  · exact up_ne (by omega)
  · show trdP (T 0) (movP (ageP P k) k (dirP T P k)) _ j = _
    rw [trd_lo (by omega), mov_o _ (by omega) (by omega) (by omega)]
    exact up_ne (by omega)
theorem stp_K (hD : okD P) (hK : okK P) (hk : k < (P 157).toInt.toNat) : okK (stpP T (P, ss) k).1 := by
  unfold stpP
  rcases dir_rng (T := T) hD hK hk with hd | ⟨d0, d1, dto⟩
  · rw [if_pos (by show dirP T P k < 0; rw [hd]; decide)]
    exact hK.age
  · rw [if_neg (show ¬ dirP T P k < 0 from fun q => by rw [i32_z] at q; omega)]
    have e0 : ageP P k (158 + 6 * k) = P (158 + 6 * k) := up_ne (by omega)
    have eb : besP (ageP P k) (P (158 + 6 * k)) (dirP T P k) = besP P (P (158 + 6 * k)) (dirP T P k) := bes_eq (up_ne (by omega)) (up_ne (by omega))
    have hm : okK (movP (ageP P k) k (dirP T P k)) := hK.age.mov (by omega) (by rw [e0, eb]; exact (inC.eq (up_ne (by omega)) (up_ne (by omega))).mpr dto)
    exact hm.far (fun j hj => trd_lo (by omega))
theorem goe_lo (hK : okK P) (hk : k < (P 157).toInt.toNat) : ∀ j, (j < 158 ∨ j = 518 ∨ j = 521) → (goeP T (P, ss) k).1.1 j = P j := fun j hj => by
  have h1 := stp_lo (T := T) (ss := ss) hK hk j (by omega)
  unfold goeP
  split
  · exact (up_ne (by omega)).trans h1
  · split
    · exact h1
    · exact (up_ne (by omega)).trans h1
theorem goe_K (hD : okD P) (hK : okK P) (hk : k < (P 157).toInt.toNat) : okK (goeP T (P, ss) k).1.1 := by
  have h1 := stp_K (T := T) (ss := ss) hD hK hk
  unfold goeP
  split
  · exact h1.far (fun j hj => up_ne (by omega))
  · split
    · exact h1
    · exact h1.far (fun j hj => up_ne (by omega))
theorem rgoe_ok (hR : RST T P M) (hD : okD P) (hK : okK P) (hk : k < (P 157).toInt.toNat) (hf : WFr w f0 ss M) (ha : ARn dd P M) {ww : Int32} (hww : ww.toInt = ((158 + 6 * k : Nat) : Int)) (H : Ev none e 206 0 [some (.ref 633), some (.int ww), none, none] [] M v M' 0 0) : v = some (.int (bI (goeP T (P, ss) k).2)) ∧ RST T (goeP T (P, ss) k).1.1 M' ∧ FZ rkF rkW noO M M' ∧ WFr w f0 (goeP T (P, ss) k).1.2 M' ∧ ARn dd (goeP T (P, ss) k).1.1 M' := by
  have hw := hD.1
  have h60 := hK.2.1
  obtain ⟨w1, w2, w3, w4, w5, w6⟩ := wis_ok hD hK hk
  have hkk := hK.2.2 k hk
  have h24 := hD.2.2.2.1
  have h9 := hD.2.1.2.1
  have z : ∀ (i : Int32) (n : Nat), i.toInt = (n : Int) → ∀ f : Int32, 0 ≤ f.toInt → f.toInt ≤ 6 → n < 1000 → (i + f).toInt = (n : Int) + f.toInt := fun i n hi f h0 h6 hn => by
    rw [i32_add (by omega) (by omega), hi]
  have t1 : (1 : Int32).toInt = 1 := rfl
  have t2 : (2 : Int32).toInt = 2 := rfl
  have t3 : (3 : Int32).toInt = 3 := rfl
  have t4 : (4 : Int32).toInt = 4 := rfl
  have t6 : (6 : Int32).toInt = 6 := rfl
  have t13 : (13 : Int32).toInt = 13 := rfl
  have i1 : (ww + 1).toInt = ((158 + 6 * k + 1 : Nat) : Int) := by rw [z ww _ hww 1 (by decide) (by decide) (by omega)]; omega
  have i2 : (ww + 2).toInt = ((158 + 6 * k + 2 : Nat) : Int) := by rw [z ww _ hww 2 (by decide) (by decide) (by omega)]; omega
  have i3 : (ww + 3).toInt = ((158 + 6 * k + 3 : Nat) : Int) := by rw [z ww _ hww 3 (by decide) (by decide) (by omega)]; omega
  have i4 : (ww + 4).toInt = ((158 + 6 * k + 4 : Nat) : Int) := by rw [z ww _ hww 4 (by decide) (by decide) (by omega)]; omega
  have s0 : rI M 635 ww = P (158 + 6 * k) := r_s hR hww (by omega)
  have s1 : rI M 635 (ww + 1) = P (158 + 6 * k + 1) := r_s hR i1 (by omega)
  have s3 : rI M 635 (ww + 3) = P (158 + 6 * k + 3) := r_s hR i3 (by omega)
  have s4 : rI M 635 (ww + 4) = P (158 + 6 * k + 4) := r_s hR i4 (by omega)
  have ewx : wxP P k = 13 + 6 * (P (158 + 6 * k + 1)).toInt.toNat := rfl
  have hwz := hkk.2.1
  have x0 : (13 + (6 * P (158 + 6 * k + 1))).toInt = ((wxP P k : Nat) : Int) := by
    have e : (6 : Int32).toInt * (P (158 + 6 * k + 1)).toInt = 6 * (P (158 + 6 * k + 1)).toInt := by rw [t6]
    have e2 : (6 * P (158 + 6 * k + 1)).toInt = 6 * (P (158 + 6 * k + 1)).toInt := by rw [i32_mul (by omega) (by omega), e]
    rw [i32_add (by omega) (by omega), e2, t13]
    omega
  have x1 : ((13 + (6 * P (158 + 6 * k + 1))) + 1).toInt = ((wxP P k + 1 : Nat) : Int) := by rw [z _ _ x0 1 (by decide) (by decide) (by omega)]; omega
  have x2 : ((13 + (6 * P (158 + 6 * k + 1))) + 2).toInt = ((wxP P k + 2 : Nat) : Int) := by rw [z _ _ x0 2 (by decide) (by decide) (by omega)]; omega
  have sx1 : rI M 635 ((13 + (6 * P (158 + 6 * k + 1))) + 1) = P (wxP P k + 1) := r_s hR x1 (by omega)
  have sx2 : rI M 635 ((13 + (6 * P (158 + 6 * k + 1))) + 2) = P (wxP P k + 2) := r_s hR x2 (by omega)
  have dx : (3 + P (wxP P k + 1)).toInt = ((3 + (P (wxP P k + 1)).toInt.toNat : Nat) : Int) := by
    rw [i32_add (by omega) (by omega), t3]
    omega
  have sg : rI M 635 (3 + P (wxP P k + 1)) = golP P k := r_s hR dx (by omega)
  have hx36 : (1 + P (wxP P k + 2)).toInt = ((hbP P k : Nat) : Int) := by
    unfold hbP
    rw [i32_add (by omega) (by omega), t1]
    omega
  obtain ⟨_, _, _, _, _, _, _, e1, v1, M1, rfl, H1, H⟩ := rgo_0 hR.1 H
  rw [s0, s1, s3, s4, sx1, sx2, sg] at H1
  rw [s1] at H
  obtain ⟨N, eN⟩ : ∃ N, N = (wF (wF (wF (wF (wF (wF M 633 34 (P (158 + 6 * k))) 633 35 (golP P k)) 633 36 (1 + P (wxP P k + 2))) 633 37 (P (158 + 6 * k + 3))) 633 38 (P (158 + 6 * k + 4))) 633 39 0) := ⟨_, rfl⟩
  rw [← eN] at H1
  have hRN : RST T P N := by rw [eN]; exact (((((hR.fld (by decide)).fld (by decide)).fld (by decide)).fld (by decide)).fld (by decide)).fld (by decide)
  have zN : ∀ j, j < 34 ∨ 39 < j → zI N 633 j = zI M 633 j := fun j hj => by
    rw [eN, fI_wF_ne (by omega), fI_wF_ne (by omega), fI_wF_ne (by omega), fI_wF_ne (by omega), fI_wF_ne (by omega), fI_wF_ne (by omega)]
  have hFN : FZ rkF rkW noO M N := by
    rw [eN]
    exact (((((FZ.wF (F := rkF) (W := rkW) (O := noO) ⟨rfl, by omega⟩).trans (FZ.wF ⟨rfl, by omega⟩)).trans (FZ.wF ⟨rfl, by omega⟩)).trans (FZ.wF ⟨rfl, by omega⟩)).trans (FZ.wF ⟨rfl, by omega⟩)).trans (FZ.wF ⟨rfl, by omega⟩)
  have hS := hR.1
  have hWC : RWC (wcP P k) (hbP P k) N := by
    rw [eN]
    refine ⟨?_, ?_, ?_, ?_, ?_, ?_⟩
    · rw [fI_wF_ne (by omega), fI_wF_ne (by omega), fI_wF_ne (by omega), fI_wF_ne (by omega), fI_wF_ne (by omega), fI_wF_eq hS.1 qa_633 qi_61_34]; rfl
    · rw [fI_wF_ne (by omega), fI_wF_ne (by omega), fI_wF_ne (by omega), fI_wF_ne (by omega), fI_wF_eq hS.kf.1 qa_633 qi_61_35]; rfl
    · rw [fI_wF_ne (by omega), fI_wF_ne (by omega), fI_wF_ne (by omega), fI_wF_eq hS.kf.kf.1 qa_633 qi_61_36]; exact hx36
    · rw [fI_wF_ne (by omega), fI_wF_ne (by omega), fI_wF_eq hS.kf.kf.kf.1 qa_633 qi_61_37]; rfl
    · rw [fI_wF_ne (by omega), fI_wF_eq hS.kf.kf.kf.kf.1 qa_633 qi_61_38]; rfl
    · rw [fI_wF_eq hS.kf.kf.kf.kf.kf.1 qa_633 qi_61_39]; rfl
  have hb7 : hbP P k < 7 := by unfold hbP; omega
  obtain ⟨rfl, q2, q3⟩ := rcho_ok hRN hw hK hb7 hWC hkk.1 w2.1 H1
  have hR1 := hRN.tu q2 q3
  have hW1 := hWC.tu q3
  have z1 : ∀ j, j < 34 ∨ 39 < j → zI M1 633 j = zI M 633 j := fun j hj => (q3.fi (fun q => q)).trans (zN j hj)
  have hF1 : FZ rkF rkW noO M M1 := hFN.trans (tu_rk q3)
  have hf1 : WFr w f0 ss M1 := ⟨(z1 40 (by omega)).trans hf.1, (z1 42 (by omega)).trans hf.2⟩
  have ha1 : zI M1 633 41 = P 519 + dd := (z1 41 (by omega)).trans ha
  have hdir : choP (T 0) P (T (hbP P k)) (wcP P k) = dirP T P k := rfl
  rw [hdir] at H
  have tail : ∀ (M2 : Mem), RST T (stpP T (P, ss) k).1 M2 → FZ rkF rkW noO M M2 → WFr w f0 (stpP T (P, ss) k).2 M2 → zI M2 633 35 = golP P k → zI M2 633 41 = P 519 + dd → Ev none (e1 + 1) 206 154 [some (.ref 633), some (.int ww), some (.int (13 + (6 * P (158 + 6 * k + 1)))), some (.int (dirP T P k))] [] M2 v M' 0 0 → v = some (.int (bI (goeP T (P, ss) k).2)) ∧ RST T (goeP T (P, ss) k).1.1 M' ∧ FZ rkF rkW noO M M' ∧ WFr w f0 (goeP T (P, ss) k).1.2 M' ∧ ARn dd (goeP T (P, ss) k).1.1 M' := by
    intro M2 hR2 hF2 hf2 h35 h41 H
    have p519 : (stpP T (P, ss) k).1 519 = P 519 := stp_lo hK hk 519 (by omega)
    obtain ⟨R, eR⟩ : ∃ R, R = stpP T (P, ss) k := ⟨_, rfl⟩
    have hgoe : goeP T (P, ss) k = (if R.1 (158 + 6 * k) = golP P k then ((uPk R.1 519 (R.1 519 + 1), R.2), false) else if R.1 (158 + 6 * k + 2) < 200 then (R, true) else ((uPk R.1 520 (R.1 520 + 1), R.2), false)) := by
      rw [eR]
      rfl
    rw [← eR] at hR2 hf2 p519
    have r0' : rI M2 635 ww = R.1 (158 + 6 * k) := r_s hR2 hww (by omega)
    have r2' : rI M2 635 (ww + 2) = R.1 (158 + 6 * k + 2) := r_s hR2 i2 (by omega)
    have r519 : rI M2 635 519 = R.1 519 := r_s hR2 (n := 519) rfl (by decide)
    have r520 : rI M2 635 520 = R.1 520 := r_s hR2 (n := 520) rfl (by decide)
    have e519 : (519 : Int32).toNatClampNeg = 519 := rfl
    have e520 : (520 : Int32).toNatClampNeg = 520 := rfl
    rw [hgoe]
    rcases rgo_154 hR2.1 H with ⟨a1, _, _, _, h1, h2⟩ | ⟨a1, a2, _, _, _, _, h1, h2⟩ | ⟨a1, a2, _, _, h1, h2⟩
    · rw [r0', h35] at a1
      rw [r519, e519, h41] at h2
      rw [if_pos a1]
      refine ⟨h1, ?_, ?_, ?_, ?_⟩
      · rw [h2]; exact (hR2.up (by decide)).fld (by decide)
      · rw [h2]; exact (hF2.trans rk_wI).trans (FZ.wF ⟨rfl, by omega⟩)
      · rw [h2]
        exact ⟨by rw [fI_wF_ne (by omega), fI_wI]; exact hf2.1, by rw [fI_wF_ne (by omega), fI_wI]; exact hf2.2⟩
      · unfold ARn
        rw [h2, fI_wF_eq hR2.1.ki.1 qa_633 qi_61_41]
        show _ = uPk R.1 519 (R.1 519 + 1) 519 + dd
        rw [up_eq, p519]
        grind
    · rw [r0', h35] at a1
      rw [r2'] at a2
      rw [r520, e520] at h2
      rw [if_neg a1, if_neg (fun q => by rw [Int32.lt_iff_toInt_lt] at q; have := Int32.le_iff_toInt_le.mp a2; omega)]
      refine ⟨h1, ?_, ?_, ?_, ?_⟩
      · rw [h2]; exact hR2.up (by decide)
      · rw [h2]; exact hF2.trans rk_wI
      · rw [h2]
        exact ⟨by rw [fI_wI]; exact hf2.1, by rw [fI_wI]; exact hf2.2⟩
      · unfold ARn
        rw [h2, fI_wI, h41]
        show _ = uPk R.1 520 (R.1 520 + 1) 519 + dd
        rw [up_ne (by decide), p519]
    · rw [r0', h35] at a1
      rw [r2'] at a2
      have h200 : R.1 (158 + 6 * k + 2) < 200 := by
        rw [Int32.lt_iff_toInt_lt]
        have : ¬ (200 : Int32).toInt ≤ (R.1 (158 + 6 * k + 2)).toInt := fun q => a2 (Int32.le_iff_toInt_le.mpr q)
        omega
      subst h2
      rw [if_neg a1, if_pos h200]
      exact ⟨h1, hR2, hF2, hf2, by unfold ARn; rw [h41, p519]⟩
  have c2 : (ww + 2).toNatClampNeg = 158 + 6 * k + 2 := cl_n i2
  have c3 : (ww + 3).toNatClampNeg = 158 + 6 * k + 3 := cl_n i3
  have c4 : (ww + 4).toNatClampNeg = 158 + 6 * k + 4 := cl_n i4
  have c0 : ww.toNatClampNeg = 158 + 6 * k := cl_n hww
  have s2 : rI M1 635 (ww + 2) = P (158 + 6 * k + 2) := r_s hR1 i2 (by omega)
  have hRa : RST T (ageP P k) (wI M1 635 (158 + 6 * k + 2) (P (158 + 6 * k + 2) + 1)) := hR1.up (by omega)
  rcases rgo_91 q2 H with ⟨a1, _, _, H⟩ | ⟨a1, _, _, _, _, _, _, e2, v2, M2, he, H2, H⟩
  · rw [s2, c2] at H
    have hst : stpP T (P, ss) k = (ageP P k, ss) := by
      unfold stpP
      rw [if_pos a1]
    refine tail _ ?_ (hF1.trans rk_wI) ?_ ?_ ?_ H
    · rw [hst]; exact hRa
    · rw [hst]
      exact ⟨by rw [fI_wI]; exact hf1.1, by rw [fI_wI]; exact hf1.2⟩
    · rw [fI_wI]; exact hW1.2.1
    · rw [fI_wI]; exact ha1
  · rcases dir_rng (T := T) hD hK hk with hd | ⟨d0, d1, dto⟩
    · rw [hd] at a1
      exact absurd (by decide) a1
    · rw [s2, c0, c2, c3, c4, hW1.1] at H2
      have hw1 : (wcP P k).1 = P (158 + 6 * k) := rfl
      rw [hw1] at H2
      have ea0 : ageP P k (158 + 6 * k) = P (158 + 6 * k) := up_ne (by omega)
      have hRb := (hRa.up (i := 158 + 6 * k + 3) (by omega) (x := dirP T P k)).up (i := 158 + 6 * k + 4) (by omega) (x := ageP P k (158 + 6 * k))
      obtain ⟨Pb, ePb⟩ : ∃ Pb, Pb = uPk (uPk (ageP P k) (158 + 6 * k + 3) (dirP T P k)) (158 + 6 * k + 4) (ageP P k (158 + 6 * k)) := ⟨_, rfl⟩
      rw [← ePb, ea0] at hRb
      have hg : G_194 (wI (wI (wI M1 635 (158 + 6 * k + 2) (P (158 + 6 * k + 2) + 1)) 635 (158 + 6 * k + 3) (dirP T P k)) 635 (158 + 6 * k + 4) (P (158 + 6 * k))) (P (158 + 6 * k)) (dirP T P k) = besP (ageP P k) (ageP P k (158 + 6 * k)) (dirP T P k) := by
        rw [g194_ok hRb, ea0]
        exact bes_eq (by rw [ePb, up_ne (by omega), up_ne (by omega)]) (by rw [ePb, up_ne (by omega), up_ne (by omega)])
      rw [hg] at H2
      have hRc := hRb.up (i := 158 + 6 * k) (by omega) (x := besP (ageP P k) (ageP P k (158 + 6 * k)) (dirP T P k))
      have hmov : uPk Pb (158 + 6 * k) (besP (ageP P k) (ageP P k (158 + 6 * k)) (dirP T P k)) = movP (ageP P k) k (dirP T P k) := by rw [ePb]; rfl
      rw [hmov] at hRc
      obtain ⟨M3, eM3⟩ : ∃ M3, M3 = wI (wI (wI (wI M1 635 (158 + 6 * k + 2) (P (158 + 6 * k + 2) + 1)) 635 (158 + 6 * k + 3) (dirP T P k)) 635 (158 + 6 * k + 4) (P (158 + 6 * k))) 635 (158 + 6 * k) (besP (ageP P k) (ageP P k (158 + 6 * k)) (dirP T P k)) := ⟨_, rfl⟩
      rw [← eM3] at H2 hRc
      have eb : besP (ageP P k) (ageP P k (158 + 6 * k)) (dirP T P k) = besP P (P (158 + 6 * k)) (dirP T P k) := by
        rw [ea0]
        exact bes_eq (up_ne (by omega)) (up_ne (by omega))
      have hmc : movP (ageP P k) k (dirP T P k) (158 + 6 * k) = besP P (P (158 + 6 * k)) (dirP T P k) := by
        unfold movP
        rw [up_eq, eb]
      have hval : rI M3 635 ww = besP P (P (158 + 6 * k)) (dirP T P k) := (r_s hRc hww (by omega)).trans hmc
      rw [hval] at H2
      have z3 : ∀ j, zI M3 633 j = zI M1 633 j := fun j => by rw [eM3, fI_wI, fI_wI, fI_wI, fI_wI]
      have hFm : FZ rkF rkW noO M M3 := by
        rw [eM3]
        exact (((hF1.trans rk_wI).trans rk_wI).trans rk_wI).trans rk_wI
      have m0 : movP (ageP P k) k (dirP T P k) 0 = P 0 := by
        rw [mov_o _ (by omega) (by omega) (by omega)]
        exact up_ne (by omega)
      have m1 : movP (ageP P k) k (dirP T P k) 1 = P 1 := by
        rw [mov_o _ (by omega) (by omega) (by omega)]
        exact up_ne (by omega)
      have hfm : WFr w f0 ss M3 := ⟨(z3 40).trans hf1.1, (z3 42).trans hf1.2⟩
      obtain ⟨rfl, y1, y2, y3, y4⟩ := rtrd_ok hRc (hw.eq m0 m1) ((inC.eq m0 m1).mpr dto) hfm H2
      have hst : stpP T (P, ss) k = (trdP (T 0) (movP (ageP P k) k (dirP T P k)) (besP P (P (158 + 6 * k)) (dirP T P k)), besP P (P (158 + 6 * k)) (dirP T P k) :: ss) := by
        unfold stpP
        rw [if_neg a1]
      refine tail M2 ?_ (hFm.trans y2) ?_ ?_ ?_ H
      · rw [hst]; exact y1
      · rw [hst]; exact y3
      · rw [y4 35 (by decide), z3]; exact hW1.2.1
      · rw [y4 41 (by decide), z3]; exact ha1
end RGO
