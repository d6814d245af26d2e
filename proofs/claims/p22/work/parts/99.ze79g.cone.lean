/-! THE CLASS'S go: one walker, all walkers, one TICK -/
def WFl (w : Int32) (ss : List Int32) (M : Mem) : Prop := zI M 104 9 = w ∧ zI M 104 10 = bI (decide (w ∈ ss))
section ONE
variable {e L : Nat} {T : TS} {P P' Q : PK} {M M1 M' : Mem} {v : Option Value} {w ti bf nz : Int32} {n i B : Nat} {s : List Nat} {ss : List Int32}
theorem WFl.same (h : WFl w ss M) (hz : ∀ k, zI M' 104 k = zI M 104 k) : WFl w ss M' := ⟨(hz 9).trans h.1, (hz 10).trans h.2⟩
theorem WFl.cons {c : Int32} (h : WFl w ss M) (h9 : zI M' 104 9 = zI M 104 9) (h10 : zI M' 104 10 = if c = zI M 104 9 then 1 else zI M 104 10) : WFl w (c :: ss) M' := by
  refine ⟨h9.trans h.1, ?_⟩
  rw [h10, h.1, h.2]
  by_cases hc : c = w
  · rw [if_pos hc, decide_eq_true (by rw [hc]; exact List.mem_cons_self)]
    rfl
  · rw [if_neg hc]
    congr 1
    refine decide_eq_decide.mpr ?_
    rw [List.mem_cons]
    exact ⟨fun q => Or.inr q, fun q => q.elim (fun q => absurd q.symm hc) id⟩
theorem MDW.now (h : MDW L P M n i s) (hin : i < n) : WFq (oN M (L + 11) i) P s.length M := by
  have := h.2.2.2.2.2.1 i (Nat.le_refl _) hin
  rw [Nat.sub_self] at this
  exact this
/-- the numbers of a walker's WISH -/
theorem wis_ok (hD : okD P) (hK : okK P) {k : Nat} (hk : k < (P 157).toInt.toNat) : (P (158 + 6 * k + 1)).toInt.toNat < (P 12).toInt.toNat ∧ inC P (golP P k) ∧ 0 ≤ (P (wxP P k + 2)).toInt ∧ (P (wxP P k + 2)).toInt ≤ 5 ∧ (P (wxP P k + 1)).toInt.toNat < (P 2).toInt.toNat ∧ 0 ≤ (P (wxP P k + 1)).toInt := by
  obtain ⟨_, h2, h3, _⟩ := hK.2.2 k hk
  have hw : (P (158 + 6 * k + 1)).toInt.toNat < (P 12).toInt.toNat := by omega
  obtain ⟨_, a2, a3, _⟩ := hD.2.2.2.2 _ hw
  have e : wxP P k = 13 + 6 * (P (158 + 6 * k + 1)).toInt.toNat := rfl
  rw [← e] at a2 a3
  have h9 : (P (wxP P k + 1)).toInt.toNat < (P 2).toInt.toNat := by omega
  exact ⟨hw, hD.2.1.2.2 _ h9, a3.1, a3.2, h9, a2.1⟩
theorem dir_rng (hD : okD P) (hK : okK P) {k : Nat} (hk : k < (P 157).toInt.toNat) : dirP T P k = -1 ∨ (0 ≤ (dirP T P k).toInt ∧ (dirP T P k).toInt < 8 ∧ inC P (besP P (P (158 + 6 * k)) (dirP T P k))) := by
  have hg := (wis_ok hD hK hk).2.1
  have hh := (hK.2.2 k hk).1
  rcases cho_rng (g := T 0) (P := P) (q := T (hbP P k)) (w := wcP P k) hg.1 with h | ⟨h1, h2, h3⟩
  · exact Or.inl h
  · refine Or.inr ⟨h1, h2, ?_⟩
    rcases besP_in (d := dirP T P k) hD.1 hh with q | q
    · exact absurd (show besP P (wcP P k).1 (choP (T 0) P (T (hbP P k)) (wcP P k)) < 0 by
        have q : besP P (wcP P k).1 (choP (T 0) P (T (hbP P k)) (wcP P k)) = -1 := q
        rw [q]
        decide) h3
    · exact q
theorem onw_ok (hX : STA L T P M) (hD : okD P) (hK : okK P) (hE : okE B P) (hB : B ≤ 100000000) (hm : MDW L P M n i s) (hin : i < n) (hf : WFl w ss M) {iz : Int32} (hi : iz.toInt = (i : Int)) {c5 c6 c7 c8 : Option Value} (H : Ev none e 58 29 [some (.ref 104), some (.int ti), some (.int bf), some (.int nz), some (.int iz), c5, c6, c7, c8] [] M v M' 0 0) : ∃ (P6 : PK) (ss6 : List Int32) (s6 : List Nat) (M6 : Mem) (d5 d6 d7 d8 : Option Value), STA L T P6 M6 ∧ okD P6 ∧ okK P6 ∧ okE (B + 1) P6 ∧ MDW L P6 M6 n (i + 1) s6 ∧ WFl w ss6 M6 ∧ FZ (gwF L) (gwW L) (gwO L) M M6 ∧ (∀ r, wlkP T (r + 1) s.length (P, ss) = wlkP T r s6.length (P6, ss6)) ∧ (∀ j, j < 157 → P6 j = P j) ∧ P6 518 = P 518 ∧ (∀ c, c ∈ ss6 → c ∈ ss ∨ inC P c) ∧ Ev none e 58 29 [some (.ref 104), some (.int ti), some (.int bf), some (.int nz), some (.int (iz + 1)), d5, d6, d7, d8] [] M6 v M' 0 0 := by
  have hS := hX.sq
  have hL := hX.ld
  have hld := ld_cases hL
  have hWK := hX.2.2.2.2.2.1
  have hWX := hX.2.2.2.2.1
  have hPs := hX.2.2.1
  obtain ⟨a1, a2, a3, a4, a5, a6, a7, a8⟩ := id hm
  have hsl := sort_len a8 (fun t j ht => (a5 t j ht).1)
  obtain ⟨k, ek⟩ : ∃ k, k = s.length := ⟨_, rfl⟩
  have hks : k < (P 157).toInt.toNat := by omega
  have hk60 := hK.2.1
  have hcur := hm.now hin
  rw [← ek] at hcur
  have hnI : (nI n).toInt = (n : Int) := nI_toInt (by omega)
  obtain ⟨w1, w2, w3, w4, w5, w6⟩ := wis_ok hD hK hks
  have hbt := wk_t hS.1 hL (j := i) (by omega)
  have hb := hWK.2 i (by omega)
  have hob : oI M (L + 11) iz = oN M (L + 11) i := by
    unfold oI
    rw [cl_n hi]
  have hi1 : (iz + 1).toInt = ((i + 1 : Nat) : Int) := by
    rw [i32_p1 (by omega)]
    omega
  rcases goo_29 hS H with ⟨q1, _⟩ | ⟨_, _, _, _, e1, v1, M1, rfl, H1, H⟩
  · rw [hX.lw, a1] at q1
    have := Int32.le_iff_toInt_le.mp q1
    omega
  · obtain ⟨b, eb⟩ : ∃ b, b = oN M (L + 11) i := ⟨_, rfl⟩
    have hwo : oI M (L + 10) (P (158 + 6 * k + 1)) = L + 12 + (P (158 + 6 * k + 1)).toInt.toNat := hWX (P (158 + 6 * k + 1)).toInt.toNat (by have := hD.2.2.2.1; omega)
    have hx1 : zI M (L + 12 + (P (158 + 6 * k + 1)).toInt.toNat) 1 = P (wxP P k + 1) := hPs.2.2.2.2 _ w1 1 (by decide)
    have hx2 : zI M (L + 12 + (P (158 + 6 * k + 1)).toInt.toNat) 2 = P (wxP P k + 2) := hPs.2.2.2.2 _ w1 2 (by decide)
    have hgo : rI M (L + 9) (P (wxP P k + 1)) = golP P k := hPs.2.2.1.2 (P (wxP P k + 1)).toInt.toNat w5
    have hxt : gNth sT (L + 12 + (P (158 + 6 * k + 1)).toInt.toNat) = some 20 := wi_t hS.1 hL hWX (by have := hD.2.2.2.1; omega)
    rw [hX.lw, hob, ← eb] at H1 H
    rw [← eb] at hcur hbt hb
    rw [hcur.2.1, hwo, hx1, hgo] at H1 H
    rw [hx2] at H1
    have h157 := (hK.2.2 k hks)
    have hh5 : (P (wxP P k + 2)).toInt = ((P (wxP P k + 2)).toInt.toNat : Int) := by omega
    obtain ⟨r1, r2, r3, r4⟩ := chow_ok hbt hX.1 hX.2.1 hh5 (by omega) w2 (by rw [hcur.1]; exact h157.1) (al := false) (by rw [hX.2.2.2.2.2.2]; rfl) (by rw [hcur.2.2.2.2]; exact h157.2.2.2) H1
    have hdir : v1 = some (.int (dirP T P k)) := by
      rw [r1, hcur.1, hcur.2.2.2.2, hcur.2.2.2.1]
      unfold dirP wcP hbP
      rw [Nat.add_comm 1]
    rw [hdir] at H
    have hX1 := hX.lk hD r2 r3 r4
    have hm1 := hm.lk hWK r3
    have hf1 : WFl w ss M1 := hf.same (fun k => r3.fi (fun q => q))
    have oo1 : oN M1 (L + 11) i = b := (r3.on (fun q => q)).trans eb.symm
    have hF1 := lk_go (L := L) r3
    have tail : ∀ (P2 : PK) (ss2 : List Int32) (M2 : Mem) (c8 : Option Value), stpP T (P, ss) k = (ageP P2 k, ss2) → STA L T P2 M2 → okD P2 → okK P2 → okE (B + 1) P2 → MDW L P2 M2 n i s → WFl w ss2 M2 → FZ (gwF L) (gwW L) (gwO L) M M2 → (∀ j, j < 157 → P2 j = P j) → P2 518 = P 518 → (∀ c, c ∈ ss2 → c ∈ ss ∨ inC P c) → oN M2 (L + 11) i = b → Ev none (e1 + 1) 58 173 [some (.ref 104), some (.int ti), some (.int bf), some (.int nz), some (.int iz), some (.ref b), some (.ref (L + 12 + (P (158 + 6 * k + 1)).toInt.toNat)), some (.int (golP P k)), c8] [] M2 v M' 0 0 → ∃ (P6 : PK) (ss6 : List Int32) (s6 : List Nat) (M6 : Mem) (d5 d6 d7 d8 : Option Value), STA L T P6 M6 ∧ okD P6 ∧ okK P6 ∧ okE (B + 1) P6 ∧ MDW L P6 M6 n (i + 1) s6 ∧ WFl w ss6 M6 ∧ FZ (gwF L) (gwW L) (gwO L) M M6 ∧ (∀ r, wlkP T (r + 1) s.length (P, ss) = wlkP T r s6.length (P6, ss6)) ∧ (∀ j, j < 157 → P6 j = P j) ∧ P6 518 = P 518 ∧ (∀ c, c ∈ ss6 → c ∈ ss ∨ inC P c) ∧ Ev none (e1 + 1) 58 29 [some (.ref 104), some (.int ti), some (.int bf), some (.int nz), some (.int (iz + 1)), d5, d6, d7, d8] [] M6 v M' 0 0 := by
      intro P2 ss2 M2 c8 hst hX2 hD2 hK2 hE2 hm2 hf2 hF2 hsb h518 hin2 oo2 H
      obtain ⟨e2, v2, M3, he, H2, H⟩ := goo_173 hX2.sq hbt hxt H
      have hM3' : STA L T (ageP P2 k) (wF M2 b 2 (zI M2 b 2 + 1)) ∧ MDW L (ageP P2 k) (wF M2 b 2 (zI M2 b 2 + 1)) n i s ∧ okK (ageP P2 k) ∧ FZ (gwF L) (gwW L) (gwO L) M2 (wF M2 b 2 (zI M2 b 2 + 1)) ∧ (∀ k, zI (wF M2 b 2 (zI M2 b 2 + 1)) 104 k = zI M2 104 k) ∧ ∀ j, oN (wF M2 b 2 (zI M2 b 2 + 1)) (L + 11) j = oN M2 (L + 11) j := by
        rw [ek]
        exact age_ok hX2 hD2 hK2 hm2 hin (by rw [oo2])
      obtain ⟨g1, g2, g3, g4, g5, g6⟩ := hM3'
      obtain ⟨P3, eP3⟩ : ∃ P3, P3 = ageP P2 k := ⟨_, rfl⟩
      obtain ⟨M4, eM4⟩ : ∃ M4, M4 = wF M2 b 2 (zI M2 b 2 + 1) := ⟨_, rfl⟩
      rw [← eP3] at g1 g2 g3 hst
      rw [← eM4] at g1 g2 g4 g5 g6 H2
      have lo3 : ∀ j, j < 157 → P3 j = P2 j := fun j hj => by rw [eP3]; exact up_ne (by omega)
      have hi3 : ∀ j, 518 ≤ j → P3 j = P2 j := fun j hj => by rw [eP3]; exact up_ne (by omega)
      have hD3 : okD P3 := hD2.sb lo3
      have hE3 : okE (B + 1) P3 := hE2.sb (lo3 0 (by decide)) (lo3 1 (by decide)) (fun j hj => hi3 j (by omega))
      have hf3 : WFl w ss2 M4 := hf2.same g5
      have oo4 : oN M4 (L + 11) i = b := (g6 i).trans oo2
      have hn4 := g2.now hin
      rw [oo4, ← ek] at hn4
      obtain ⟨t1, t2, t3, t4⟩ := g1.2.2.2.1
      have hgoe : goeP T (P, ss) k = (if P3 (158 + 6 * k) = golP P k then ((uPk P3 519 (P3 519 + 1), ss2), false) else if P3 (158 + 6 * k + 2) < 200 then ((P3, ss2), true) else ((uPk P3 520 (P3 520 + 1), ss2), false)) := by
        unfold goeP
        rw [hst]
      have k3 : k < (P3 157).toInt.toNat := by
        have := g2.2.2.2.1
        omega
      have hcell := (g3.2.2 k k3).1
      have hcr := g1.crd _ hcell
      have hlt60 := g3.2.1
      have gone : ∀ (Q : PK) (x17 x18 : Int32), (goeP T (P, ss) k) = ((Q, ss2), false) → (∀ j, j ≠ 519 → j ≠ 520 → Q j = P3 j) → Q 519 = x17 → Q 520 = x18 → v2 = none → M3 = wF (wI (wF (wF M4 L 17 x17) L 18 x18) (L + 8) (P3 (158 + 6 * k)).toNatClampNeg (rI M4 (L + 8) (P3 (158 + 6 * k)) - 1)) b 0 (-1) → ∃ (P6 : PK) (ss6 : List Int32) (s6 : List Nat) (M6 : Mem) (d5 d6 d7 d8 : Option Value), STA L T P6 M6 ∧ okD P6 ∧ okK P6 ∧ okE (B + 1) P6 ∧ MDW L P6 M6 n (i + 1) s6 ∧ WFl w ss6 M6 ∧ FZ (gwF L) (gwW L) (gwO L) M M6 ∧ (∀ r, wlkP T (r + 1) s.length (P, ss) = wlkP T r s6.length (P6, ss6)) ∧ (∀ j, j < 157 → P6 j = P j) ∧ P6 518 = P 518 ∧ (∀ c, c ∈ ss6 → c ∈ ss ∨ inC P c) ∧ Ev none (e1 + 1) 58 29 [some (.ref 104), some (.int ti), some (.int bf), some (.int nz), some (.int (iz + 1)), d5, d6, d7, d8] [] M6 v M' 0 0 := by
        intro Q x17 x18 hg hQ q17 q18 hv hM3
        rw [hcr] at hM3
        rw [ek] at hM3
        have hz := gon_ok (M' := M3) g1 hD3 g3 g2 hin hQ q17 q18 (by rw [oo4]; exact hM3)
        rw [← ek] at hz
        obtain ⟨z1, z2, z3, z4, z5, z6⟩ := hz
        have hQlo : ∀ j, j < 157 → leaP Q k j = P3 j := fun j hj => by
          unfold leaP
          rw [if_neg (by omega), if_neg (by omega), if_neg (by omega)]
          exact hQ j (by omega) (by omega)
        have q157 : Q 157 = P3 157 := hQ 157 (by decide) (by decide)
        have m1 : (P3 157 - 1).toInt = (P3 157).toInt - 1 := i32_m1 (by omega)
        have hQ518 : leaP Q k 518 = P3 518 := by
          unfold leaP
          rw [if_neg (by decide), if_neg (by rw [q157]; omega), if_neg (by rw [q157]; omega)]
          exact hQ 518 (by decide) (by decide)
        rw [hv] at H
        have H := goo_192 z1.sq hbt hxt H
        refine ⟨leaP Q k, ss2, s, M3, _, _, _, _, z1, hD3.sb hQlo, z3, (hE3.sb (P' := Q) (hQ 0 (by decide) (by decide)) (hQ 1 (by decide) (by decide)) (fun j hj => hQ j (by omega) (by omega))).lea (by rw [q157]; exact g3.1) (by rw [q157]; exact hlt60) (by omega), z2, hf3.same z5, (hF2.trans g4).trans z4, fun r => ?_, fun j hj => (hQlo j hj).trans ((lo3 j hj).trans (hsb j hj)), hQ518.trans ((hi3 518 (by decide)).trans h518), hin2, H⟩
        rw [← ek]
        show (if (goeP T (P, ss) k).2 = true then _ else wlkP T r k (leaP (goeP T (P, ss) k).1.1 k, (goeP T (P, ss) k).1.2)) = _
        rw [hg, if_neg (fun q => absurd (show false = true from q) (by decide))]
      rcases lvd_0 g1.sq hbt H2 with ⟨b1, _, _, b2, b3⟩ | ⟨b1, b2, _, _, b3, b4⟩ | ⟨b1, b2, b3, b4⟩
      · rw [g1.lw, hn4.1, t2, t3] at b3
        rw [hn4.1] at b1
        refine gone (uPk P3 519 (P3 519 + 1)) _ _ (by rw [hgoe, if_pos b1]) (fun j h1 h2 => up_ne h1) up_eq ?_ b2 b3
        rw [up_ne (by decide)]
        grind
      · rw [g1.lw, hn4.1, t2, t3] at b4
        rw [hn4.1] at b1
        rw [hn4.2.2.1] at b2
        refine gone (uPk P3 520 (P3 520 + 1)) _ _ (by rw [hgoe, if_neg b1, if_neg (fun q => by rw [Int32.lt_iff_toInt_lt] at q; have := Int32.le_iff_toInt_le.mp b2; omega)]) (fun j h1 h2 => up_ne h2) ?_ up_eq b3 b4
        rw [up_ne (by decide)]
        grind
      · rw [hn4.1] at b1
        rw [hn4.2.2.1] at b2
        subst b4
        have h200 : P3 (158 + 6 * k + 2) < 200 := by
          rw [Int32.lt_iff_toInt_lt]
          have : ¬ (200 : Int32).toInt ≤ (P3 (158 + 6 * k + 2)).toInt := fun q => b2 (Int32.le_iff_toInt_le.mpr q)
          omega
        have hg3 : goeP T (P, ss) k = ((P3, ss2), true) := by
          rw [hgoe, if_neg b1, if_pos h200]
        rw [b3] at H
        have H := goo_192 g1.sq hbt hxt H
        refine ⟨P3, ss2, s ++ [i], M3, _, _, _, _, g1, hD3, g3, hE3, g2.stay hin, hf3, hF2.trans g4, fun r => ?_, fun j hj => (lo3 j hj).trans (hsb j hj), (hi3 518 (by decide)).trans h518, hin2, H⟩
        have hlen : (s ++ [i]).length = k + 1 := by rw [List.length_append, ek]; rfl
        rw [← ek, hlen]
        show (if (goeP T (P, ss) k).2 = true then wlkP T r (k + 1) (goeP T (P, ss) k).1 else _) = _
        rw [hg3, if_pos rfl]
    rcases dir_rng (T := T) hD hK hks with hd | ⟨d0, d1, dto⟩
    · have hneg : dirP T P k < 0 := by rw [hd]; decide
      rcases goo_96 r2 hbt hxt H with ⟨_, H⟩ | ⟨q1, _⟩
      · refine tail P ss M1 _ ?_ hX1 hD hK (hE.more (by omega)) hm1 hf1 hF1 (fun _ _ => rfl) rfl (fun c hc => Or.inl hc) oo1 H
        unfold stpP
        rw [if_pos hneg]
      · exact absurd hd q1
    · have hnn : ¬ dirP T P k < 0 := fun q => by rw [i32_z] at q; omega
      rcases goo_96 r2 hbt hxt H with ⟨q1, _⟩ | ⟨_, _, _, _, e2, v2, M2, he, H2, H⟩
      · rw [q1] at d0
        exact absurd d0 (by decide)
      · have hh := (hK.2.2 k hks).1
        have hn1 := hm1.now hin
        rw [oo1, ← ek] at hn1
        rw [hX1.lw, hn1.1] at H2
        have hbs : rI (wI M1 (L + 8) (P (158 + 6 * k)).toNatClampNeg (rI M1 (L + 8) (P (158 + 6 * k)) - 1)) 108 (8 * P (158 + 6 * k) + dirP T P k) = besP P (P (158 + 6 * k)) (dirP T P k) := by
          have h1 := (hX1.1.2.2.2.2.1 _ hh).2.2 (dirP T P k) d0 d1
          rw [← h1]
          unfold rI
          exact rN_wI_ne (by omega)
        rw [hbs, hX1.crd _ hh] at H2
        rw [ek] at H2 dto d0 d1
        rw [← oo1] at H2
        obtain ⟨rfl, z1, z2, z3, z4⟩ := mov_ok hX1 hD hK hm1 hin d0 d1 dto H2
        rw [← ek] at z2 z4 dto d0 d1
        rw [oo1] at z2
        obtain ⟨_, _, e3, v3, M4, he3, H3, H⟩ := goo_147 z1 hbt hxt H
        obtain ⟨M3, eM3⟩ : ∃ M3, M3 = wI M2 (L + 8) (besP P (P (158 + 6 * k)) (dirP T P k)).toNatClampNeg (rI M2 (L + 8) (besP P (P (158 + 6 * k)) (dirP T P k)) + 1) := ⟨_, rfl⟩
        rw [z3, z2, ← eM3] at H3
        obtain ⟨y1, y2, y3, y4, y5, y6⟩ := z4 M3 eM3
        have mo : ∀ j, (j < 157 ∨ 518 ≤ j) → movP P k (dirP T P k) j = P j := fun j hj => by
          unfold movP
          rw [up_ne (by omega), up_ne (by omega), up_ne (by omega)]
        have hDm : okD (movP P k (dirP T P k)) := hD.sb (fun j hj => mo j (Or.inl hj))
        have hEm : okE B (movP P k (dirP T P k)) := hE.sb (mo 0 (by omega)) (mo 1 (by omega)) (fun j hj => mo j (by omega))
        have hcm : inC (movP P k (dirP T P k)) (besP P (P (158 + 6 * k)) (dirP T P k)) := (inC.eq (mo 0 (by omega)) (mo 1 (by omega))).mpr dto
        obtain ⟨rfl, x1, x2, x3, x4, x5, x6, x7, x8⟩ := trw_ok y1 hDm y3 hEm hB y2 hcm H3
        have hf3 : WFl w ss M3 := hf1.same y5
        refine tail (trdP (T 0) (movP P k (dirP T P k)) (besP P (P (158 + 6 * k)) (dirP T P k))) (besP P (P (158 + 6 * k)) (dirP T P k) :: ss) M4 _ (stp_alt (p := (P, ss)) (by omega) hnn) x1 (hDm.sb trd_sb) x3 x4 x2 (hf3.cons x7 x6) ((hF1.trans y4).trans x5) (fun j hj => (trd_sb j hj).trans (mo j (Or.inl hj))) ((trd_lo (by decide)).trans (mo 518 (by omega))) (fun c hc => ?_) ((x8 i).trans ((y6 i).trans oo1)) H
        rcases List.mem_cons.mp hc with q | q
        · exact Or.inr (by rw [q]; exact dto)
        · exact Or.inl q
theorem wlk_l : ∀ (r i : Nat) (iz : Int32) (B : Nat) (P : PK) (ss : List Int32) (s : List Nat) (M : Mem) (c5 c6 c7 c8 : Option Value), STA L T P M → okD P → okK P → okE B P → B + r ≤ 100000000 → MDW L P M n i s → i + r = n → WFl w ss M → iz.toInt = (i : Int) → Ev none e 58 29 [some (.ref 104), some (.int ti), some (.int bf), some (.int nz), some (.int iz), c5, c6, c7, c8] [] M v M' 0 0 → ∃ (P6 : PK) (ss6 : List Int32) (M6 : Mem) (d4 d5 d6 d7 d8 : Option Value), wlkP T r s.length (P, ss) = (P6, ss6) ∧ STA L T P6 M6 ∧ okD P6 ∧ okK P6 ∧ okE (B + r) P6 ∧ LST L P6 M6 ∧ WFl w ss6 M6 ∧ FZ (gwF L) (gwW L) (gwO L) M M6 ∧ (∀ j, j < 157 → P6 j = P j) ∧ P6 518 = P 518 ∧ (∀ c, c ∈ ss6 → c ∈ ss ∨ inC P c) ∧ Ev none e 58 202 [some (.ref 104), some (.int ti), some (.int bf), some (.int nz), d4, d5, d6, d7, d8] [] M6 v M' 0 0 := by
  intro r
  induction r with
  | zero =>
    intro i iz B P ss s M c5 c6 c7 c8 hX hD hK hE hB hm hir hf hi H
    have hnI : (nI n).toInt = (n : Int) := nI_toInt (by have := hm.2.1; omega)
    rcases goo_29 hX.sq H with ⟨_, e1, v1, M1, rfl, H1, H⟩ | ⟨a1, _⟩
    · have hin : i = n := by omega
      rw [hin] at hm
      obtain ⟨rfl, s2, s3, s4, s5⟩ := swp_ok hX hD hK hm H1
      exact ⟨P, ss, M1, _, _, _, _, _, rfl, s2, hD, hK, hE, s3, hf.same s5, s4, fun _ _ => rfl, rfl, fun c hc => Or.inl hc, H⟩
    · exact absurd (Int32.le_iff_toInt_le.mpr (by rw [hX.lw, hm.1]; omega)) a1
  | succ r ih =>
    intro i iz B P ss s M c5 c6 c7 c8 hX hD hK hE hB hm hir hf hi H
    obtain ⟨P6, ss6, s6, M6, d5, d6, d7, d8, o1, o2, o3, o4, o5, o6, o7, o8, o9, o10, o11, H⟩ := onw_ok hX hD hK hE (by omega) hm (by omega) hf hi H
    obtain ⟨P7, ss7, M7, e4, e5, e6, e7, e8, p1, p2, p3, p4, p5, p6, p7, p8, p9, p10, p11, H⟩ := ih (i + 1) (iz + 1) (B + 1) P6 ss6 s6 M6 d5 d6 d7 d8 o1 o2 o3 o4 (by omega) o5 (by omega) o6 (by rw [i32_p1 (by have := hm.2.1; omega)]; omega) H
    refine ⟨P7, ss7, M7, e4, e5, e6, e7, e8, (o8 r).trans p1, p2, p3, p4, by rw [show B + (r + 1) = B + 1 + r from by omega]; exact p5, p6, p7, o7.trans p8, fun j hj => (p9 j hj).trans (o9 j hj), p10.trans o10, fun c hc => ?_, H⟩
    rcases p11 c hc with q | q
    · exact o11 c q
    · exact Or.inr ((inC.eq (o9 0 (by decide)) (o9 1 (by decide))).mp q)
end ONE
