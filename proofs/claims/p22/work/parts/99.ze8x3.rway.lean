/-! THE REFERENCE'S ways -/
def rwF (a k : Nat) : Prop := a = 633 ∧ ((34 ≤ k ∧ k ≤ 39) ∨ k = 60)
def rwW (a : Nat) : Prop := a = 649 ∨ a = 657
/-- DOORS are unlike -/
def unD (P : PK) : Prop := ∀ i j : Nat, (i : Int) < (P 2).toInt → (j : Int) < (P 2).toInt → P (3 + i) = P (3 + j) → i = j
section RWAY
variable {e i j n tn : Nat} {T : TS} {P : PK} {M M1 M' : Mem} {v : Option Value} {x y k d h a b t w goal : Int32} {l : List Int32}
theorem wlS_g {hb : Nat} {cf : Int32} : ∀ r, wlS T P hb goal r (goal, w, cf) l = (l, goal) := by
  intro r
  cases r with
  | zero => rfl
  | succ r =>
    unfold wlS
    dsimp only
    rw [if_pos rfl]
theorem rwk_l (hD : okD P) (hK : okK P) (ht : tn < 7) (hgo : inC P goal) : ∀ (r n : Nat) (nz here w cf : Int32) (l : List Int32) (c5 : Option Value) (M : Mem), RST T P M → inC P here → ¬ here = goal → RWC (here, goal, w, cf, true) tn M → nz.toInt = (n : Int) → n + r = 200 → (zI M 633 60).toInt = ((n + 1 : Nat) : Int) → l.length = n + 1 → (∀ j y, l[j]? = some y → rN M 657 j = y) → Ev none e 238 64 [some (.ref 633), some (.int a), some (.int b), some (.int h), some (.int nz), c5] [] M v M' 0 0 → (((wlS T P tn goal r (here, w, cf) l).2 = goal ∧ ∃ y : Int32, v = some (.int y) ∧ y.toInt + 1 = ((wlS T P tn goal r (here, w, cf) l).1.length : Int)) ∨ (¬ (wlS T P tn goal r (here, w, cf) l).2 = goal ∧ v = some (.int (-1)))) ∧ RST T P M' ∧ FZ rwF rwW noO M M' ∧ (zI M' 633 60).toInt = ((wlS T P tn goal r (here, w, cf) l).1.length : Int) ∧ ∀ j y, (wlS T P tn goal r (here, w, cf) l).1[j]? = some y → rN M' 657 j = y := by
  have z200 : (200 : Int32).toInt = 200 := rfl
  intro r
  induction r with
  | zero =>
    intro n nz here w cf l c5 M hR hin hne hW hn hr h60 hl hrow H
    rcases rwk_64 hR.1 H with ⟨_, r1, r2⟩ | ⟨a1, _⟩
    · rw [r2]
      exact ⟨Or.inr ⟨hne, r1⟩, hR, FZ.refl _, by show _ = ((l.length : Nat) : Int); rw [hl]; exact h60, hrow⟩
    · exact absurd (Int32.le_iff_toInt_le.mpr (by omega)) a1
  | succ r ih =>
    intro n nz here w cf l c5 M hR hin hne hW hn hr h60 hl hrow H
    unfold wlS
    dsimp only
    rw [if_neg hne]
    rcases rwk_64 hR.1 H with ⟨a1, _⟩ | ⟨_, e1, v1, M1, _, H1, H⟩
    · have := Int32.le_iff_toInt_le.mp a1
      omega
    · obtain ⟨rv, S1, F1⟩ := rcho_ok (w := (here, goal, w, cf, true)) hR hD.1 hK ht hW hin hgo.1 H1
      have hcr := cho_rng (g := T 0) (P := P) (q := T tn) (w := (here, goal, w, cf, true)) hgo.1
      obtain ⟨dd, edd⟩ : ∃ dd, dd = choP (T 0) P (T tn) (here, goal, w, cf, true) := ⟨_, rfl⟩
      rw [← edd] at rv hcr ⊢
      rw [rv] at H
      have R1 : RST T P M1 := hR.tu S1 F1
      have W1 : RWC (here, goal, w, cf, true) tn M1 := hW.tu F1
      obtain ⟨w1, w2, w3, w4, w5, w6⟩ := W1
      have w1 : zI M1 633 34 = here := w1
      have w2 : zI M1 633 35 = goal := w2
      have f60 : zI M1 633 60 = zI M 633 60 := F1.fi (fun q => q)
      have FF : FZ rwF rwW noO M M1 := F1.more (fun _ _ q => q.elim) (fun a q => Or.inl q) (fun _ q => q)
      have tm : (-1 : Int32).toInt = -1 := rfl
      have z0 : (0 : Int32).toInt = 0 := rfl
      rcases rwk_76 S1 H with ⟨b1, e2, v2, M2, _, H2, H⟩ | ⟨b1, r1, r2⟩
      · have hd := hcr.resolve_left (fun q => by
          rw [q] at b1
          exact absurd b1 (by decide))
        have hnl : ¬ dd < 0 := fun q => by
          have := Int32.lt_iff_toInt_lt.mp q
          omega
        rw [if_neg hnl]
        have hbe : inC P (besP P here dd) := (besP_in hD.1 hin).resolve_left (fun q => hd.2.2 (by rw [q]; decide))
        rw [w1] at H2
        obtain ⟨N, eN⟩ : ∃ N, N = wF (wF M1 633 37 dd) 633 38 here := ⟨_, rfl⟩
        rw [← eN] at H2
        have RN : RST T P N := by rw [eN]; exact (R1.w0 37 (by decide) dd).w0 38 (by decide) here
        obtain ⟨rv2, rm2⟩ := g_194 RN.1 H2
        rw [g194_ok RN] at rv2
        rw [rv2, rm2] at H
        obtain ⟨y, ey⟩ : ∃ y, y = besP P here dd := ⟨_, rfl⟩
        rw [← ey] at H hbe ⊢
        have n35 : zI N 633 35 = goal := by rw [eN, fI_wF_ne (by decide), fI_wF_ne (by decide)]; exact w2
        have n60 : zI N 633 60 = zI M 633 60 := by rw [eN, fI_wF_ne (by decide), fI_wF_ne (by decide)]; exact f60
        have n36 : zI N 633 36 = zI M1 633 36 := by rw [eN, fI_wF_ne (by decide), fI_wF_ne (by decide)]
        have n39 : zI N 633 39 = zI M1 633 39 := by rw [eN, fI_wF_ne (by decide), fI_wF_ne (by decide)]
        have n37 : zI N 633 37 = dd := by rw [eN, fI_wF_ne (by decide)]; exact fI_wF_eq S1.1 qa_633 qi_61_37
        have n38 : zI N 633 38 = here := by rw [eN]; exact fI_wF_eq S1.kf.1 qa_633 qi_61_38
        have FN : FZ rwF rwW noO M1 N := by
          rw [eN]
          exact (FZ.wF (F := rwF) ⟨rfl, Or.inl (by decide)⟩).trans (FZ.wF ⟨rfl, Or.inl (by decide)⟩)
        have rN0 : ∀ j, rN N 657 j = rN M 657 j := fun j => by
          rw [eN, rN_wF, rN_wF]
          exact F1.rn (by unfold tuW; decide)
        have H := rwk_110 RN.1 H
        rw [n35, n60, cl_n h60] at H
        obtain ⟨N3, eN3⟩ : ∃ N3, N3 = wF (wI (wF N 633 34 y) 657 (n + 1) y) 633 60 (zI M 633 60 + 1) := ⟨_, rfl⟩
        rw [← eN3] at H
        have S3 : SQ N3 := by rw [eN3]; exact RN.1.kf.ki.kf
        have F3 : FZ rwF rwW noO N N3 := by
          rw [eN3]
          exact ((FZ.wF (F := rwF) ⟨rfl, Or.inl (by decide)⟩).trans (FZ.wI (Or.inr rfl))).trans (FZ.wF ⟨rfl, Or.inr rfl⟩)
        have F9 := (FF.trans FN).trans F3
        have R3 : RST T P N3 := hR.fz S3 F9 (fun k k1 k2 q => by unfold rwF at q; omega) (fun a ha q => by unfold rwW at q; omega)
        have p1 : (zI M 633 60 + 1).toInt = ((n + 1 + 1 : Nat) : Int) := by rw [i32_p1 (by omega)]; omega
        have z60 : zI N3 633 60 = zI M 633 60 + 1 := by rw [eN3]; exact fI_wF_eq RN.1.kf.ki.1 qa_633 qi_61_60
        have zo : ∀ k, k ≠ 34 → k ≠ 60 → zI N3 633 k = zI N 633 k := fun k k1 k2 => by rw [eN3, fI_wF_ne (by omega), fI_wI, fI_wF_ne (by omega)]
        have z34 : zI N3 633 34 = y := by rw [eN3, fI_wF_ne (by decide), fI_wI]; exact fI_wF_eq RN.1.1 qa_633 qi_61_34
        have len : (zrw (wF N 633 34 y) 657).length = 201 := (RN.1.kf.1.row qa_657 qw_85).2
        have lrow : ∀ j z, (l ++ [y])[j]? = some z → rN N3 657 j = z := fun j z hj => by
          rcases Nat.lt_or_ge j l.length with hlt | hge
          · rw [List.getElem?_append_left hlt] at hj
            rw [eN3, rN_wF, rN_wI_ne (fun q => by omega), rN_wF, rN0]
            exact hrow j z hj
          · rw [List.getElem?_append_right hge] at hj
            have hj0 : j - l.length = 0 := by
              rcases Nat.eq_zero_or_pos (j - l.length) with q | q
              · exact q
              · rw [List.getElem?_eq_none (by simp; omega)] at hj
                cases hj
            have ejk : j = n + 1 := by omega
            rw [hj0] at hj
            cases hj
            rw [ejk, eN3, rN_wF]
            exact rN_wI_eq (by omega)
        have ll : (l ++ [y]).length = n + 1 + 1 := by rw [List.length_append]; simp; omega
        rcases H with ⟨c1, _, r1, r2⟩ | ⟨c1, _, H⟩
        · have wg : wlS T P tn goal r (y, dd, here) (l ++ [y]) = (l ++ [y], goal) := by
            rw [c1]
            exact wlS_g r
          rw [wg]
          dsimp only
          rw [r2]
          refine ⟨Or.inl ⟨rfl, _, r1, ?_⟩, R3, F9, ?_, lrow⟩
          · rw [ll]
            have : (zI M 633 60 + 1 - 1).toInt = (zI M 633 60 + 1).toInt - 1 := i32_m1 (by omega)
            omega
          · rw [z60, ll]
            exact p1
        · have W3 : RWC (y, goal, dd, here, true) tn N3 := ⟨z34, (zo 35 (by decide) (by decide)).trans n35, by rw [zo 36 (by decide) (by decide), n36]; exact w3, (zo 37 (by decide) (by decide)).trans n37, (zo 38 (by decide) (by decide)).trans n38, by rw [zo 39 (by decide) (by decide), n39]; exact w6⟩
          obtain ⟨u1, u2, u3, u4, u5⟩ := ih (n + 1) (nz + 1) y dd here (l ++ [y]) _ N3 R3 hbe c1 W3 (by rw [i32_p1 (by omega)]; omega) (by omega) (by rw [z60]; exact p1) ll lrow H
          exact ⟨u1, u2, F9.trans u3, u4, u5⟩
      · have hlt : dd < 0 := by
          rcases hcr with q | q
          · rw [q]; decide
          · exact absurd (Int32.le_iff_toInt_le.mpr (by omega)) b1
        rw [if_pos hlt]
        rw [r2]
        exact ⟨Or.inr ⟨hne, r1⟩, R1, FF, by show _ = ((l.length : Nat) : Int); rw [f60, hl]; exact h60, fun j z hj => (F1.rn (by unfold tuW; decide)).trans (hrow j z hj)⟩
theorem g239_ok (hR : RST T P M) (hD : okD P) : G_239 M a b h = 0 ↔ wayN P a b h := by
  unfold G_239 wayN
  by_cases h1 : G_152 M a = 0
  · rw [if_pos h1]
    rw [g152_ok hR hD] at h1
    exact ⟨fun _ => Or.inl h1, fun _ => rfl⟩
  · rw [if_neg h1]
    rw [g152_ok hR hD, Classical.not_not] at h1
    by_cases h2 : G_152 M b = 0
    · rw [if_pos h2]
      rw [g152_ok hR hD] at h2
      exact ⟨fun _ => Or.inr (Or.inl h2), fun _ => rfl⟩
    · rw [if_neg h2]
      rw [g152_ok hR hD, Classical.not_not] at h2
      by_cases h3 : a = b
      · rw [if_pos h3]
        exact ⟨fun _ => Or.inr (Or.inr (Or.inl h3)), fun _ => rfl⟩
      · rw [if_neg h3]
        by_cases h4 : G_140 M h 0 5 = 0
        · rw [if_pos h4]
          rw [g140_R] at h4
          exact ⟨fun _ => Or.inr (Or.inr (Or.inr h4)), fun _ => rfl⟩
        · rw [if_neg h4]
          rw [g140_R, Classical.not_not] at h4
          refine ⟨fun q => absurd q (by decide), fun q => ?_⟩
          rcases q with q | q | q | q
          · exact absurd h1 q
          · exact absurd h2 q
          · exact absurd q h3
          · exact absurd h4 q
/-- from DOOR to DOOR, one alone -/
theorem rwk_ok (hR : RST T P M) (hD : okD P) (hK : okK P) (hu : unD P) (ia : inD P a) (ib : inD P b) (hab : ¬ a = b) (ih : inX h 0 5) (H : Ev none e 238 0 [some (.ref 633), some (.int a), some (.int b), some (.int h), none, none] [] M v M' 0 0) : ((wayB T P a b h = true ∧ ∃ y : Int32, v = some (.int y) ∧ y.toInt + 1 = ((wayL T P a b h).1.length : Int)) ∨ (wayB T P a b h = false ∧ v = some (.int (-1)))) ∧ RST T P M' ∧ FZ rwF rwW noO M M' ∧ (zI M' 633 60).toInt = ((wayL T P a b h).1.length : Int) ∧ ∀ j y, (wayL T P a b h).1[j]? = some y → rN M' 657 j = y := by
  have a0 := ia.1
  have a1 := ia.2
  have b0 := ib.1
  have b1 := ib.2
  have n9 := hD.2.1.2.1
  have t3 : (3 : Int32).toInt = 3 := rfl
  have t1 : (1 : Int32).toInt = 1 := rfl
  have h0 : 0 ≤ h.toInt := ih.1
  have h5 : h.toInt ≤ 5 := ih.2
  have ea : (3 + a).toInt = ((3 + a.toInt.toNat : Nat) : Int) := by rw [i32_add (by omega) (by omega)]; omega
  have eb : (3 + b).toInt = ((3 + b.toInt.toNat : Nat) : Int) := by rw [i32_add (by omega) (by omega)]; omega
  have eh : (1 + h).toInt = ((h.toInt.toNat + 1 : Nat) : Int) := by rw [i32_add (by omega) (by omega)]; omega
  obtain ⟨_, _, _, H⟩ := rwk_0 hR.1 H
  have ra : rI M 635 (3 + a) = P (3 + a.toInt.toNat) := (rI_n ea).trans (hR.2.1 _ (by omega))
  have rb : rI M 635 (3 + b) = P (3 + b.toInt.toNat) := (rI_n eb).trans (hR.2.1 _ (by omega))
  have i0 : (0 : Int32).toNatClampNeg = 0 := rfl
  rw [ra, rb, i0] at H
  obtain ⟨A, eA⟩ : ∃ A, A = P (3 + a.toInt.toNat) := ⟨_, rfl⟩
  obtain ⟨G, eG⟩ : ∃ G, G = P (3 + b.toInt.toNat) := ⟨_, rfl⟩
  have iA : inC P A := by rw [eA]; exact hD.2.1.2.2 _ (by omega)
  have iG : inC P G := by rw [eG]; exact hD.2.1.2.2 _ (by omega)
  have hne : ¬ A = G := fun q => by
    rw [eA, eG] at q
    have := hu a.toInt.toNat b.toInt.toNat (by omega) (by omega) q
    exact hab (Int32.toInt_inj.mp (by omega))
  rw [← eA, ← eG] at H
  obtain ⟨N, eN⟩ : ∃ N, N = wI (wF (wF (wF (wF (wF (wF (wF M 633 34 A) 633 35 G) 633 36 (1 + h)) 633 37 (-1)) 633 38 (-1)) 633 39 1) 633 60 1) 657 0 A := ⟨_, rfl⟩
  rw [← eN] at H
  have S := hR.1
  have FN : FZ rwF rwW noO M N := by
    rw [eN]
    exact (((((((FZ.wF (F := rwF) ⟨rfl, Or.inl (by decide)⟩).trans (FZ.wF ⟨rfl, Or.inl (by decide)⟩)).trans (FZ.wF ⟨rfl, Or.inl (by decide)⟩)).trans (FZ.wF ⟨rfl, Or.inl (by decide)⟩)).trans (FZ.wF ⟨rfl, Or.inl (by decide)⟩)).trans (FZ.wF ⟨rfl, Or.inl (by decide)⟩)).trans (FZ.wF ⟨rfl, Or.inr rfl⟩)).trans (FZ.wI (Or.inr rfl))
  have SN : SQ N := by rw [eN]; exact S.kf.kf.kf.kf.kf.kf.kf.ki
  have RN : RST T P N := hR.fz SN FN (fun k k1 k2 q => by unfold rwF at q; omega) (fun a ha q => by unfold rwW at q; omega)
  have WN : RWC (A, G, -1, -1, true) (h.toInt.toNat + 1) N := by
    rw [eN]
    refine ⟨?_, ?_, ?_, ?_, ?_, ?_⟩
    · rw [fI_wI, fI_wF_ne (by decide), fI_wF_ne (by decide), fI_wF_ne (by decide), fI_wF_ne (by decide), fI_wF_ne (by decide), fI_wF_ne (by decide)]
      exact fI_wF_eq S.1 qa_633 qi_61_34
    · rw [fI_wI, fI_wF_ne (by decide), fI_wF_ne (by decide), fI_wF_ne (by decide), fI_wF_ne (by decide), fI_wF_ne (by decide)]
      exact fI_wF_eq S.kf.1 qa_633 qi_61_35
    · rw [fI_wI, fI_wF_ne (by decide), fI_wF_ne (by decide), fI_wF_ne (by decide), fI_wF_ne (by decide), fI_wF_eq S.kf.kf.1 qa_633 qi_61_36]
      exact eh
    · rw [fI_wI, fI_wF_ne (by decide), fI_wF_ne (by decide), fI_wF_ne (by decide)]
      exact fI_wF_eq S.kf.kf.kf.1 qa_633 qi_61_37
    · rw [fI_wI, fI_wF_ne (by decide), fI_wF_ne (by decide)]
      exact fI_wF_eq S.kf.kf.kf.kf.1 qa_633 qi_61_38
    · rw [fI_wI, fI_wF_ne (by decide)]
      exact fI_wF_eq S.kf.kf.kf.kf.kf.1 qa_633 qi_61_39
  have z60 : zI N 633 60 = 1 := by rw [eN, fI_wI]; exact fI_wF_eq S.kf.kf.kf.kf.kf.kf.1 qa_633 qi_61_60
  have len : (zrw (wF (wF (wF (wF (wF (wF (wF M 633 34 A) 633 35 G) 633 36 (1 + h)) 633 37 (-1)) 633 38 (-1)) 633 39 1) 633 60 1) 657).length = 201 := (S.kf.kf.kf.kf.kf.kf.kf.1.row qa_657 qw_85).2
  have q := rwk_l (T := T) (tn := h.toInt.toNat + 1) hD hK (by omega) iG 200 0 0 A (-1) (-1) [A] none N RN iA hne WN rfl rfl (by rw [z60]; rfl) rfl (fun j y hj => by
    cases j with
    | zero =>
      cases hj
      rw [eN]
      exact rN_wI_eq (by omega)
    | succ j => cases hj) H
  unfold wayB wayL
  rw [← eA, ← eG]
  obtain ⟨u1, u2, u3, u4, u5⟩ := q
  refine ⟨?_, u2, FN.trans u3, u4, u5⟩
  rcases u1 with ⟨c1, c2⟩ | ⟨c1, c2⟩
  · exact Or.inl ⟨decide_eq_true c1, c2⟩
  · exact Or.inr ⟨decide_eq_false c1, c2⟩
theorem rwy_l {r : Int32} (hn : n ≤ 201) : ∀ (s i : Nat) (iz : Int32) (M : Mem), RST T P M → iz.toInt = (i : Int) → i + s = n → (zI M 633 60).toInt = (n : Int) → (∀ j, j < i → rN M 658 j = rN M 657 j) → Ev none e 240 38 [some (.ref 633), some (.int a), some (.int b), some (.int h), some (.int r), some (.int iz)] [] M v M' 0 0 → v = some (.int r) ∧ RST T P M' ∧ FZ noF (fun a => a = 658) noO M M' ∧ ∀ j, j < n → rN M' 658 j = rN M' 657 j := by
  intro s
  induction s with
  | zero =>
    intro i iz M hR hi hs h60 hrow H
    rcases rwy_38 hR.1 H with ⟨_, r1, r2⟩ | ⟨a1, _⟩
    · rw [r2]
      exact ⟨r1, hR, FZ.refl _, fun j hj => hrow j (by omega)⟩
    · exact absurd (Int32.le_iff_toInt_le.mpr (by omega)) a1
  | succ s ih =>
    intro i iz M hR hi hs h60 hrow H
    rcases rwy_38 hR.1 H with ⟨a1, _⟩ | ⟨_, _, _, H⟩
    · have := Int32.le_iff_toInt_le.mp a1
      omega
    · rw [cl_n hi, rI_n hi] at H
      have F1 : FZ noF (fun a => a = 658) noO M (wI M 658 i (rN M 657 i)) := FZ.wI rfl
      have len : (zrw M 658).length = 201 := (hR.1.1.row qa_658 qw_86).2
      obtain ⟨u1, u2, u3, u4⟩ := ih (i + 1) (iz + 1) _ (hR.fz hR.1.ki F1 (fun _ _ _ q => q) (fun a ha q => by omega)) (by rw [i32_p1 (by omega)]; omega) (by omega) (by rw [fI_wI]; exact h60) (fun j hj => by
        rw [rN_wI_ne (a := 658) (b := 657) (by omega)]
        by_cases q : j = i
        · rw [q]
          exact rN_wI_eq (by omega)
        · rw [rN_wI_ne (by omega)]
          exact hrow j (by omega)) H
      exact ⟨u1, u2, F1.trans u3, u4⟩
theorem rway_ok (hR : RST T P M) (hD : okD P) (hK : okK P) (hu : unD P) (hl : (wayL T P a b h).1.length ≤ 201) (H : Ev none e 240 0 [some (.ref 633), some (.int a), some (.int b), some (.int h), none, none] [] M v M' 0 0) : RST T P M' ∧ ((wayN P a b h ∧ v = some (.int (-2)) ∧ zI M' 633 61 = zI M 633 61 ∧ ∀ j, rN M' 658 j = rN M 658 j) ∨ (¬ wayN P a b h ∧ (zI M' 633 61).toInt = ((wayL T P a b h).1.length : Int) ∧ (∀ j y, (wayL T P a b h).1[j]? = some y → rN M' 658 j = y) ∧ ((wayB T P a b h = true ∧ ∃ y : Int32, v = some (.int y) ∧ y.toInt + 1 = ((wayL T P a b h).1.length : Int)) ∨ (wayB T P a b h = false ∧ v = some (.int (-1)))))) := by
  have h0 := hR.w0 0 (by decide) 0
  rcases rwy_0 hR.1 H with ⟨a1, r1, r2⟩ | ⟨a1, e1, v1, M1, _, H1, H⟩
  · rw [g239_ok h0 hD] at a1
    rw [r2]
    exact ⟨h0, Or.inl ⟨a1, r1, fI_wF_ne (by decide), fun j => rN_wF⟩⟩
  · rw [g239_ok h0 hD] at a1
    have ia : inD P a := Classical.not_not.mp (fun q => a1 (Or.inl q))
    have ib : inD P b := Classical.not_not.mp (fun q => a1 (Or.inr (Or.inl q)))
    have nab : ¬ a = b := fun q => a1 (Or.inr (Or.inr (Or.inl q)))
    have ix : inX h 0 5 := Classical.not_not.mp (fun q => a1 (Or.inr (Or.inr (Or.inr q))))
    obtain ⟨u1, u2, u3, u4, u5⟩ := rwk_ok h0 hD hK hu ia ib nab ix H1
    have fin : ∀ r, Ev none e 240 25 [some (.ref 633), some (.int a), some (.int b), some (.int h), none, none] [.int r] M1 v M' 0 0 → v = some (.int r) ∧ RST T P M' ∧ (zI M' 633 61).toInt = ((wayL T P a b h).1.length : Int) ∧ ∀ j y, (wayL T P a b h).1[j]? = some y → rN M' 658 j = y := fun r H => by
      have H := rwy_25 u2.1 H
      have R2 := u2.w0 61 (by decide) (zI M1 633 60)
      obtain ⟨s1, s2, s3, s4⟩ := rwy_l (n := (wayL T P a b h).1.length) hl (wayL T P a b h).1.length 0 0 _ R2 rfl (by omega) (by rw [fI_wF_ne (by decide)]; exact u4) (fun j hj => absurd hj (Nat.not_lt_zero j)) H
      refine ⟨s1, s2, by rw [s3.fi (fun q => q), fI_wF_eq u2.1.1 qa_633 qi_61_61]; exact u4, fun j y hj => ?_⟩
      rw [s4 j (List.getElem?_eq_some_iff.mp hj).1, s3.rn (by decide), rN_wF]
      exact u5 j y hj
    rcases u1 with ⟨c1, y, c2, c3⟩ | ⟨c1, c2⟩
    · rw [c2] at H
      obtain ⟨s1, s2, s3, s4⟩ := fin y H
      exact ⟨s2, Or.inr ⟨a1, s3, s4, Or.inl ⟨c1, y, s1, c3⟩⟩⟩
    · rw [c2] at H
      obtain ⟨s1, s2, s3, s4⟩ := fin (-1) H
      exact ⟨s2, Or.inr ⟨a1, s3, s4, Or.inr ⟨c1, s1⟩⟩⟩
end RWAY
