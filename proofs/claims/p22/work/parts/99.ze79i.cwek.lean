/-! THE CLASS'S endWeek, wornCells, enter -/
section WEK
variable {e L : Nat} {T : TS} {g : TQ} {P P' Q : PK} {M M1 M' : Mem} {v : Option Value} {c c' : Int32} {n i k B f : Nat} {ss : List Int32}
theorem dy_rng {q : TQ} (hw : LW q) : 0 ≤ (dyQ q).toInt ∧ (dyQ q).toInt ≤ 999 := by
  unfold dyQ
  rcases tv_rng (fun l hl => (hw l hl).1) 4 10 with e | ⟨l, hl, e1, e2⟩
  · rw [e]; decide
  · rw [e2]
    have h := (hw l hl).1
    exact ⟨h.1, h.2.1⟩
theorem max0_rng {x y : Int32} (hx : 0 ≤ x.toInt) (hy : 0 ≤ y.toInt) : 0 ≤ (max0 (x - y)).toInt ∧ (max0 (x - y)).toInt ≤ x.toInt := by
  have h1 := (i32_lt x).2
  have h2 := (i32_lt y).2
  have e : (x - y).toInt = x.toInt - y.toInt := i32_sub (by omega) (by omega)
  unfold max0
  by_cases h : x - y < 0
  · rw [if_pos h]
    exact ⟨by decide, by show (0 : Int32).toInt ≤ _; exact hx⟩
  · rw [if_neg h, e]
    rw [i32_z, e] at h
    omega
theorem wk1_E (hc : 0 ≤ c.toInt) (hc' : 0 ≤ c'.toInt) (hf : f < 7) : cE (wk1P g P c) f c' = if f = 4 ∧ c' = c then max0 (cE P 4 c - dyQ g) else if f = 3 ∧ c' = c then max0 (cE P 3 c - fstL g P 1 c 10 g.2) else cE P f c' := by
  unfold wk1P
  rw [cE_up (by decide) hf hc hc', cE_up (by decide) hf hc hc']
theorem wk1_lo {j : Nat} (h : j < 522) : wk1P g P c j = P j := by
  have h1 : ∀ f, j ≠ cX f c := fun f => by have := cX_ge (f := f) (c := c); omega
  unfold wk1P
  rw [up_ne (h1 4), up_ne (h1 3)]
theorem okE.wk1 (hw : LW g) (h : okE B P) (hc : inC P c) : okE B (wk1P g P c) := fun c' hc' => by
  have hc2 : inC P c' := (inC.eq (wk1_lo (by decide)) (wk1_lo (by decide))).mp hc'
  obtain ⟨a1, a2, a3, a4, a5, a6⟩ := h c' hc2
  obtain ⟨_, _, b3, b4, _, _⟩ := h c hc
  have fr := fst_rng (g := g) (P := P) (k := 1) (c := c) (d := 10) (by decide) g.2 (fun l hl => (hw l hl).1)
  have m3 := max0_rng b3.1 fr.1
  have m4 := max0_rng b4.1 (dy_rng hw).1
  unfold okC1
  have ee : ∀ f, f < 7 → f ≠ 3 → f ≠ 4 → cE (wk1P g P c) f c' = cE P f c' := fun f hf h3 h4 => by
    rw [wk1_E hc.1 hc2.1 hf, if_neg (fun q => h4 q.1), if_neg (fun q => h3 q.1)]
  rw [ee 0 (by decide) (by decide) (by decide), ee 2 (by decide) (by decide) (by decide), ee 5 (by decide) (by decide) (by decide), ee 6 (by decide) (by decide) (by decide)]
  refine ⟨a1, a2, ?_, ?_, a5, a6⟩
  · rw [wk1_E hc.1 hc2.1 (by decide), if_neg (fun q => absurd q.1 (by decide))]
    split
    · omega
    · exact a3
  · rw [wk1_E hc.1 hc2.1 (by decide), if_neg (show ¬ (4 = 3 ∧ c' = c) from fun q => absurd q.1 (by decide))]
    split
    · omega
    · exact a4
theorem mx_0 (x : Int32) : (if 0 < x then x else 0) = max0 x := by
  unfold max0
  by_cases h : 0 < x
  · rw [if_pos h, if_neg (fun q => by rw [Int32.lt_iff_toInt_lt] at h q; omega)]
  · rw [if_neg h]
    by_cases h2 : x < 0
    · rw [if_pos h2]
    · rw [if_neg h2]
      exact Int32.toInt_inj.mp (by rw [Int32.lt_iff_toInt_lt] at h h2; have e : (0 : Int32).toInt = 0 := rfl; omega)
theorem g6_ok (hw : wh4 P) (h0 : zI M L 0 = P 0) (h1 : zI M L 1 = P 1) : (G_6 M L).toInt = (clsP P : Int) := by
  obtain ⟨e1, e2, _⟩ := cls_int hw
  unfold G_6
  rw [h0, h1, i32_mul (by omega) (by omega), e1]
def ewW (L a : Nat) : Prop := a = L + 4 ∨ a = L + 5
theorem ewk_l (M0 : Mem) : ∀ (n : Nat) (P : PK) (M : Mem) (c : Int32) (c2 : Option Value), CTX L T P M → okE B P → (P 157).toInt ≤ 60 → zI M L 0 = P 0 → zI M L 1 = P 1 → FZ noF (ewW L) noO M0 M → 0 ≤ c.toInt → c.toInt + (n : Int) = (clsP P : Int) → Ev none e 63 2 [some (.ref 104), some (.int c), c2] [] M v M' 0 0 → ∃ M1, CTX L T (wkaP (T 0) n c P) M1 ∧ okE B (wkaP (T 0) n c P) ∧ FZ noF (ewW L) noO M0 M1 ∧ (∀ j, j < 522 → wkaP (T 0) n c P j = P j) ∧ v = none ∧ M' = X_55 (wA M1 (L + 6) 0) := by
  intro n
  induction n with
  | zero =>
    intro P M c c2 hX hE hk60 h0 h1 hF hc hn H
    have hg := g6_ok (M := M) hX.2.1 h0 h1
    rcases ewk_2 hX.1.1 H with ⟨_, r1, r2⟩ | ⟨a1, _⟩
    · rw [hX.1.2.1] at r2
      exact ⟨M, hX, hE, hF, fun _ _ => rfl, r1, r2⟩
    · exact absurd (Int32.le_iff_toInt_le.mpr (by rw [hX.1.2.1]; omega)) a1
  | succ n ih =>
    intro P M c c2 hX hE hk60 h0 h1 hF hc hn H
    have hS := hX.1.1
    have hL := hX.1.2.1
    have hT := hX.1.2.2.1
    have hld := ld_cases hT
    have hw := hX.2.1
    have hg := g6_ok (M := M) hw h0 h1
    obtain ⟨_, c256, _⟩ := cls_int hw
    have hcin : inC P c := ⟨hc, by omega⟩
    rcases ewk_2 hS H with ⟨a1, _⟩ | ⟨_, e1, v1, M1, rfl, H1, H⟩
    · rw [hL] at a1
      have := Int32.le_iff_toInt_le.mp a1
      omega
    · obtain ⟨rfl, rfl⟩ := fnb_ok hX hcin H1
      obtain ⟨_, _, _, _, H⟩ := ewk_21 hS H
      have r3 : rI M1 (L + 4) c = cE P 3 c := hX.1.2.2.2.2.2.2.at hcin (f := 3) (by decide)
      have r4 : rI M1 (L + 5) c = cE P 4 c := hX.1.2.2.2.2.2.2.at hcin (f := 4) (by decide)
      rw [hL, r3, r4, hX.1.2.2.2.2.2.1, mx_0, mx_0] at H
      have l3 := LCel.up (x := max0 (cE P 3 c - fstL (T 0) P 1 c 10 (T 0).2)) hS hT hX.1.2.2.2.2.2.2 hw hcin (f := 3) (by decide)
      have x0 : uPk P (cX 3 c) (max0 (cE P 3 c - fstL (T 0) P 1 c 10 (T 0).2)) 0 = P 0 := up_ne (by have := cX_ge (f := 3) (c := c); omega)
      have x1 : uPk P (cX 3 c) (max0 (cE P 3 c - fstL (T 0) P 1 c 10 (T 0).2)) 1 = P 1 := up_ne (by have := cX_ge (f := 3) (c := c); omega)
      have l4 := LCel.up (x := max0 (cE P 4 c - dyQ (T 0))) hS.ki hT l3 (hw.eq x0 x1) ((inC.eq x0 x1).mpr hcin) (f := 4) (by decide)
      have hE1 : okE B (wk1P (T 0) P c) := hE.wk1 hX.2.2.2.2.2.1.2 hcin
      have lo : ∀ j, j < 522 → wk1P (T 0) P c j = P j := fun j hj => wk1_lo hj
      have hF1 : FZ noF (ewW L) noO M1 (wI (wI M1 (L + 4) c.toNatClampNeg (max0 (cE P 3 c - fstL (T 0) P 1 c 10 (T 0).2))) (L + 5) c.toNatClampNeg (max0 (cE P 4 c - dyQ (T 0)))) := (FZ.wI (F := noF) (W := ewW L) (O := noO) (Or.inl rfl)).trans (FZ.wI (Or.inr rfl))
      have hX1 : CTX L T (wk1P (T 0) P c) (wI (wI M1 (L + 4) c.toNatClampNeg (max0 (cE P 3 c - fstL (T 0) P 1 c 10 (T 0).2))) (L + 5) c.toNatClampNeg (max0 (cE P 4 c - dyQ (T 0)))) := by
        refine hX.mv hS.ki.ki (hF1.more (G := gwF L) (V := gwW L) (U := gwO L) (fun _ _ q => q.elim) (fun a q => Or.inl (by rcases q with q | q <;> omega)) (fun _ q => q.elim)) (okF.go hT) l4 (lo 0 (by decide)) (lo 1 (by decide)) hE1.nn (fun c' hc' => ?_)
        have hc2 := (inC.eq (lo 0 (by decide)) (lo 1 (by decide))).mp hc'
        have hr : ∀ x y : Int32, rI (wI (wI M1 (L + 4) c.toNatClampNeg x) (L + 5) c.toNatClampNeg y) (L + 8) c' = rI M1 (L + 8) c' := fun x y => by
          unfold rI
          rw [rN_wI_ne (by omega), rN_wI_ne (by omega)]
        rw [hr, lo 157 (by decide), hX.2.2.2.2.2.2.2 c' hc2]
        exact (crd_congr _ (fun t ht => lo _ (by omega))).symm
      obtain ⟨M2, q1, q2, q3, q4, q5, q6⟩ := ih (wk1P (T 0) P c) _ (c + 1) _ hX1 hE1 (by rw [lo 157 (by decide)]; exact hk60) (by rw [fI_wI, fI_wI, lo 0 (by decide)]; exact h0) (by rw [fI_wI, fI_wI, lo 1 (by decide)]; exact h1) (hF.trans hF1) (by rw [i32_p1 (by omega)]; omega) (by rw [i32_p1 (by omega), cls_eq (lo 0 (by decide)) (lo 1 (by decide))]; omega) H
      exact ⟨M2, q1, q2, q3, fun j hj => (q4 j hj).trans (lo j hj), q5, q6⟩
theorem zer_E (hf : f < 7) : ∀ (n : Nat) (c : Int32) (P : PK), 0 ≤ c.toInt → c.toInt + (n : Int) ≤ 256 → (∀ f' c', f' < 7 → 0 ≤ c'.toInt → cE (zerP f n c P) f' c' = if f' = f ∧ c.toInt ≤ c'.toInt ∧ c'.toInt < c.toInt + (n : Int) then 0 else cE P f' c') ∧ ∀ j, j < 522 → zerP f n c P j = P j := by
  intro n
  induction n with
  | zero =>
    intro c P h0 h1
    refine ⟨fun f' c' hf' hc' => ?_, fun j _ => rfl⟩
    rw [if_neg (by omega)]
    rfl
  | succ n ih =>
    intro c P h0 h1
    have e1 : (c + 1).toInt = c.toInt + 1 := i32_p1 (by omega)
    obtain ⟨q1, q2⟩ := ih (c + 1) (uPk P (cX f c) 0) (by omega) (by omega)
    refine ⟨fun f' c' hf' hc' => ?_, fun j hj => (q2 j hj).trans (up_ne (by have := cX_ge (f := f) (c := c); omega))⟩
    show cE (zerP f n (c + 1) (uPk P (cX f c) 0)) f' c' = _
    rw [q1 f' c' hf' hc', cE_up hf hf' h0 hc', e1]
    by_cases h2 : f' = f ∧ c' = c
    · obtain ⟨rfl, rfl⟩ := h2
      rw [if_neg (by omega), if_pos ⟨rfl, rfl⟩, if_pos ⟨rfl, by omega, by omega⟩]
    · rw [if_neg h2]
      by_cases h3 : f' = f ∧ c.toInt + 1 ≤ c'.toInt ∧ c'.toInt < c.toInt + 1 + (n : Int)
      · rw [if_pos h3, if_pos ⟨h3.1, by omega, by omega⟩]
      · rw [if_neg h3, if_neg (fun q => h3 ⟨q.1, by
          have : c'.toInt ≠ c.toInt := fun r => h2 ⟨q.1, Int32.toInt_inj.mp r⟩
          omega, by omega⟩)]
theorem cE_nat (hw : wh4 P) {k : Nat} (hk : k < clsP P) (Q : PK) (f : Nat) : Q (522 + 7 * k + f) = cE Q f (nI k) := by
  obtain ⟨h1, h2⟩ := inC.nat hw hk
  unfold cE cX
  rw [h2]
theorem vc_new (hr : ∀ j, j < 1536 → rN M 128 j = -1) (hw : wh4 P) : VC T P M := fun h c hh hc => Or.inl (hr _ (by
  obtain ⟨_, c256, _⟩ := cls_int hw
  have := hc.2
  unfold ixA
  omega))
theorem ewk_ok (h : STA L T P M) (hD : okD P) (hK : okK P) (hE : okE B P) (hl : LST L P M) (H : Ev none e 63 0 [some (.ref 104), none, none] [] M v M' 0 0) : v = none ∧ STA L T (wekP (T 0) P) M' ∧ okD (wekP (T 0) P) ∧ okK (wekP (T 0) P) ∧ okE B (wekP (T 0) P) ∧ LST L (wekP (T 0) P) M' ∧ FZ (gwF L) (gwW L) (gwO L) M M' ∧ (∀ k, zI M' 104 k = zI M 104 k) ∧ ∀ j, j < 522 → wekP (T 0) P j = P j := by
  have hL := h.ld
  have hld := ld_cases hL
  have hw := h.wh
  obtain ⟨_, c256, _⟩ := cls_int hw
  have z0 : (0 : Int32).toInt = 0 := rfl
  obtain ⟨M1, q1, q2, q3, q4, q5, q6⟩ := ewk_l M (clsP P) P M 0 none h.1 hE hK.2.1 h.2.2.1.1 h.2.2.1.2.1 (FZ.refl _) (by decide) (by omega) (ewk_0 h.sq H)
  obtain ⟨P1, eP1⟩ : ∃ P1, P1 = wkaP (T 0) (clsP P) 0 P := ⟨_, rfl⟩
  rw [← eP1] at q1 q2 q4
  obtain ⟨zE, zL⟩ := zer_E (f := 5) (by decide) (clsP P) 0 P1 (by decide) (by omega)
  obtain ⟨P2, eP2⟩ : ∃ P2, P2 = wekP (T 0) P := ⟨_, rfl⟩
  have eP2' : zerP 5 (clsP P) 0 P1 = P2 := by rw [eP2, eP1]; rfl
  rw [eP2'] at zE zL
  rw [← eP2]
  have lo : ∀ j, j < 522 → P2 j = P j := fun j hj => (zL j hj).trans (q4 j hj)
  have hcl : clsP P1 = clsP P := cls_eq (q4 0 (by decide)) (q4 1 (by decide))
  have hcl2 : clsP P2 = clsP P := cls_eq (lo 0 (by decide)) (lo 1 (by decide))
  have hM' : M' = wA (wA M1 (L + 6) 0) 128 (-1) := q6
  have hS1 := q1.1.1
  have hF2 : FZ noF (fun a => ewW L a ∨ a = L + 6 ∨ a = 128) noO M M' := by
    rw [hM']
    exact ((q3.more (V := fun a => ewW L a ∨ a = L + 6 ∨ a = 128) (fun _ _ q => q) (fun _ q => Or.inl q) (fun _ q => q)).trans (FZ.wA (Or.inr (Or.inl rfl)))).trans (FZ.wA (Or.inr (Or.inr rfl)))
  have hgo : FZ (gwF L) (gwW L) (gwO L) M M' := hF2.more (fun _ _ q => q.elim) (fun a q => by
    rcases q with (q | q) | q | q
    · exact Or.inl (by omega)
    · exact Or.inl (by omega)
    · exact Or.inl (by omega)
    · exact Or.inr (Or.inl q)) (fun _ q => q.elim)
  have hS' : SQ M' := by rw [hM']; exact hS1.ka.ka
  have r128 : ∀ j, j < 1536 → rN M' 128 j = -1 := fun j hj => by
    rw [hM']
    exact rN_wA_eq hS1.ka.1 qa_128 qw_37 hj
  have rL : ∀ f k, f < 7 → f ≠ 5 → rN M' (L + 1 + f) k = rN M1 (L + 1 + f) k := fun f k hf h5 => by
    rw [hM', rN_wA_ne (by omega), rN_wA_ne (by omega)]
  have r6 : ∀ k, k < 256 → rN M' (L + 6) k = 0 := fun k hk => by
    rw [hM', rN_wA_ne (by omega)]
    exact rN_wA_eq hS1.1 (fx_h7 hL) qw_14 hk
  have hcel : LCel L P2 M' := by
    intro k f hk hf
    rw [hcl2] at hk
    have hin := (inC.nat hw hk).1
    rw [cE_nat hw hk P2 f, zE f (nI k) hf hin.1]
    have hk2 : (nI k).toInt = (k : Int) := nI_toInt (by omega)
    by_cases h5 : f = 5
    · subst h5
      rw [if_pos ⟨rfl, by omega, by omega⟩]
      exact r6 k (by omega)
    · rw [if_neg (fun q => h5 q.1), rL f k hf h5, ← cE_nat hw hk P1 f]
      exact q1.1.2.2.2.2.2.2 k f (by rw [hcl]; exact hk) hf
  have hE2 : okE B P2 := fun c hc => by
    have hc2 : inC P1 c := (inC.eq ((lo 0 (by decide)).trans (q4 0 (by decide)).symm) ((lo 1 (by decide)).trans (q4 1 (by decide)).symm)).mp hc
    obtain ⟨b1, b2, b3, b4, b5, b6⟩ := q2 c hc2
    have ee : ∀ f, f < 7 → f ≠ 5 → cE P2 f c = cE P1 f c := fun f hf h5 => by rw [zE f c hf hc.1, if_neg (fun q => h5 q.1)]
    unfold okC1
    rw [ee 0 (by decide) (by decide), ee 2 (by decide) (by decide), ee 3 (by decide) (by decide), ee 4 (by decide) (by decide), ee 6 (by decide) (by decide)]
    refine ⟨b1, b2, b3, b4, ?_, b6⟩
    rw [zE 5 c (by decide) hc.1]
    split
    · exact ⟨by decide, by show (0 : Int32).toInt ≤ _; omega⟩
    · exact b5
  have hk60 := hK.2.1
  obtain ⟨t1, t2, t3, t4⟩ := h.2.2.2.1
  have fz : ∀ a k, zI M' a k = zI M a k := fun a k => hF2.fi (fun q => q)
  refine ⟨q5, h.mv hD hS' hgo hcel (fun j hj => lo j (by omega)) hE2.nn (fun c hc => ?_) (vc_new r128 (hw.eq (lo 0 (by decide)) (lo 1 (by decide)))) ⟨?_, ?_, ?_, ?_⟩ (h.2.2.2.2.2.1.fz hF2 (fun q => q)), hD.sb (fun j hj => lo j (by omega)), ⟨by rw [lo 157 (by decide)]; exact hK.1, by rw [lo 157 (by decide)]; exact hK.2.1, fun t ht => ?_⟩, hE2, ⟨?_, fun t ht => ?_⟩, hgo, fun k => fz _ _, lo⟩
  · have hc2 := (inC.eq (lo 0 (by decide)) (lo 1 (by decide))).mp hc
    have : rI M' (L + 8) c = rI M (L + 8) c := hF2.rn (fun q => by
      rcases q with (q | q) | q | q <;> omega)
    rw [this, lo 157 (by decide), h.crd c hc2]
    exact (crd_congr _ (fun t ht => lo _ (by omega))).symm
  · rw [fz, t1, lo 518 (by decide)]
  · rw [fz, t2, lo 519 (by decide)]
  · rw [fz, t3, lo 520 (by decide)]
  · rw [fz, t4, lo 521 (by decide)]
  · rw [lo 157 (by decide)] at ht
    obtain ⟨b1, b2, b3, b4⟩ := hK.2.2 t ht
    rw [inC.eq (lo 0 (by decide)) (lo 1 (by decide)), lo _ (by omega), lo _ (by omega), lo 12 (by decide), lo _ (by omega)]
    exact ⟨b1, b2, b3, b4⟩
  · rw [fz, lo 157 (by decide)]; exact hl.1
  · rw [lo 157 (by decide)] at ht
    rw [hF2.on (fun q => q)]
    exact (hl.2 t ht).eq (fun f _ => fz _ f) (fun j hj => lo _ (by omega))
theorem wcl_l (hX : CTX L T P M) (h0 : zI M L 0 = P 0) (h1 : zI M L 1 = P 1) : ∀ (n : Nat) (c m : Int32), 0 ≤ c.toInt → c.toInt + (n : Int) = (clsP P : Int) → Ev none e 57 4 [some (.ref 104), some (.int m), some (.int c)] [] M v M' 0 0 → M' = M ∧ v = some (.int (netP (T 0) P n c m)) := by
  have hS := hX.1.1
  have hL := hX.1.2.1
  have hg := g6_ok (M := M) hX.2.1 h0 h1
  obtain ⟨_, c256, _⟩ := cls_int hX.2.1
  intro n
  induction n with
  | zero =>
    intro c m hc hn H
    rcases wcl_4 hS H with ⟨_, r1, r2⟩ | ⟨a1, _⟩ | ⟨a1, _⟩
    · exact ⟨r2, r1⟩
    all_goals exact absurd (Int32.le_iff_toInt_le.mpr (by rw [hL]; omega)) a1
  | succ n ih =>
    intro c m hc hn H
    have hcin : inC P c := ⟨hc, by omega⟩
    have e1 : (c + 1).toInt = c.toInt + 1 := i32_p1 (by omega)
    unfold netP
    rcases wcl_4 hS H with ⟨a1, _⟩ | ⟨_, a2, H⟩ | ⟨_, a2, H⟩
    · rw [hL] at a1
      have := Int32.le_iff_toInt_le.mp a1
      omega
    · rw [g56_ok hX.1 hcin, bI_0] at a2
      rw [a2, if_neg (by decide)]
      exact ih _ _ (by omega) (by omega) H
    · rw [g56_ok hX.1 hcin, bI_0, Bool.not_eq_false] at a2
      rw [a2, if_pos rfl]
      exact ih _ _ (by omega) (by omega) H
theorem wcl_ok (hX : CTX L T P M) (h0 : zI M L 0 = P 0) (h1 : zI M L 1 = P 1) (H : Ev none e 57 0 [some (.ref 104), none, none] [] M v M' 0 0) : M' = M ∧ v = some (.int (nwP (T 0) P)) := wcl_l hX h0 h1 (clsP P) 0 0 (by decide) (by have : (0 : Int32).toInt = 0 := rfl; omega) (wcl_0 hX.1.1 H)
end WEK
