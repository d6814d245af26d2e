/-! THE CLASS'S shape, enter -/
def gdC (wi de : Int32) (M : Mem) (i : Nat) : Prop := rN M 106 i = nI i - nI i / wi * wi ∧ rN M 107 i = nI i / wi ∧ ∀ j, j < 8 → rN M 108 (8 * i + j) = besI wi de (nI i) (nI j)
/-- the rows of the grid are those of its size -/
def GRI (M : Mem) : Prop := ∀ i, i < (zI M 105 3).toInt.toNat * (zI M 105 4).toInt.toNat → gdC (zI M 105 3) (zI M 105 4) M i
def shgW (a : Nat) : Prop := 106 ≤ a ∧ a ≤ 108
def shgF (a k : Nat) : Prop := a = 105 ∧ 3 ≤ k
theorem sI_all : (List.range 8).all (fun n => decide (sI 1 (nI n) = eastI (nI n) ∧ sI 2 (nI n) = southI (nI n))) = true := by decide +kernel
theorem sI_es {d : Int32} {k : Nat} (hd : d.toInt = (k : Int)) (hk : k < 8) : d = nI k ∧ sI 1 d = eastI d ∧ sI 2 d = southI d := by
  have e : d = nI k := Int32.toInt_inj.mp (by rw [nI_toInt (by omega)]; exact hd)
  have q := of_decide_eq_true (List.all_eq_true.mp sI_all k (List.mem_range.mpr hk))
  rw [e]
  exact ⟨rfl, q⟩
section SHPE
variable {e L : Nat} {T : TS} {P : PK} {M M1 M' N : Mem} {v : Option Value} {n i k b B : Nat} {wi de c d : Int32}
theorem g2_bes (h6 : rI M 106 c = c - c / zI M 105 3 * zI M 105 3) (h7 : rI M 107 c = c / zI M 105 3) (h1 : sI 1 d = eastI d) (h2 : sI 2 d = southI d) : G_2 M (rI M 106 c + sI 1 d) (rI M 107 c + sI 2 d) = besI (zI M 105 3) (zI M 105 4) c d := by
  have o : ¬ ((1 : Int32) = 0) := by decide
  unfold G_2 G_126 besI
  rw [h6, h7, h1, h2]
  by_cases a1 : c - c / zI M 105 3 * zI M 105 3 + eastI d < 0
  · rw [if_pos a1, if_pos a1, if_pos rfl]
  · rw [if_neg a1, if_neg a1]
    by_cases a2 : zI M 105 3 - 1 < c - c / zI M 105 3 * zI M 105 3 + eastI d
    · rw [if_pos a2, if_pos a2, if_pos rfl]
    · rw [if_neg a2, if_neg a2, if_neg o]
      by_cases a3 : c / zI M 105 3 + southI d < 0
      · rw [if_pos a3, if_pos a3, if_pos rfl]
      · rw [if_neg a3, if_neg a3]
        by_cases a4 : zI M 105 4 - 1 < c / zI M 105 3 + southI d
        · rw [if_pos a4, if_pos a4, if_pos rfl]
        · rw [if_neg a4, if_neg a4, if_neg o]
theorem gdC.fz {F : Nat → Nat → Prop} {W O : Nat → Prop} (h : gdC wi de M i) (hF : FZ F W O M M') (hw : ∀ a, 106 ≤ a → a ≤ 108 → ¬ W a) : gdC wi de M' i := ⟨(hF.rn (hw _ (by decide) (by decide))).trans h.1, (hF.rn (hw _ (by decide) (by decide))).trans h.2.1, fun j hj => (hF.rn (hw _ (by decide) (by decide))).trans (h.2.2 j hj)⟩
theorem GRI.fz {F : Nat → Nat → Prop} {W O : Nat → Prop} (h : GRI M) (hF : FZ F W O M M') (h3 : ¬ F 105 3) (h4 : ¬ F 105 4) (hw : ∀ a, 106 ≤ a → a ≤ 108 → ¬ W a) : GRI M' := by
  have e3 : zI M' 105 3 = zI M 105 3 := hF.fi h3
  have e4 : zI M' 105 4 = zI M 105 4 := hF.fi h4
  unfold GRI
  rw [e3, e4]
  exact fun i hi => (h i hi).fz hF hw
theorem shp_in {i : Nat} (hi : i < 256) {cz : Int32} (hc : cz.toInt = (i : Int)) {w h : Int32} : ∀ (r k : Nat) (dz : Int32) (N : Mem), SQ N → zI N 105 3 = w → zI N 105 4 = h → rI N 106 cz = cz - cz / w * w → rI N 107 cz = cz / w → dz.toInt = (k : Int) → k + r = 8 → Ev none e 1 76 [some (.ref 105), some (.int wi), some (.int de), some (.int cz), some (.int dz)] [] N v M' 0 0 → ∃ N1 d1, SQ N1 ∧ FZ noF (fun a => a = 108) noO N N1 ∧ (∀ j, k ≤ j → j < 8 → rN N1 108 (8 * i + j) = besI w h cz (nI j)) ∧ (∀ j, ¬ (8 * i + k ≤ j ∧ j < 8 * i + 8) → rN N1 108 j = rN N 108 j) ∧ Ev none e 1 29 [some (.ref 105), some (.int wi), some (.int de), some (.int (cz + 1)), some (.int d1)] [] N1 v M' 0 0 := by
  have t8 : (8 : Int32).toInt = 8 := rfl
  intro r
  induction r with
  | zero =>
    intro k dz N hS e3 e4 h6 h7 hk hkr H
    rcases shp_76 hS H with ⟨_, H⟩ | ⟨a1, _⟩
    · exact ⟨N, _, hS, FZ.refl _, fun j h3 h4 => by omega, fun _ _ => rfl, H⟩
    · exact absurd (Int32.le_iff_toInt_le.mpr (by omega)) a1
  | succ r ih =>
    intro k dz N hS e3 e4 h6 h7 hk hkr H
    rcases shp_76 hS H with ⟨a1, _⟩ | ⟨_, _, _, _, H⟩
    · have := Int32.le_iff_toInt_le.mp a1
      omega
    · obtain ⟨ed, s1, s2⟩ := sI_es hk (by omega)
      have h6' : rI N 106 cz = cz - cz / zI N 105 3 * zI N 105 3 := by rw [e3]; exact h6
      have h7' : rI N 107 cz = cz / zI N 105 3 := by rw [e3]; exact h7
      rw [g2_bes h6' h7' s1 s2, e3, e4] at H
      have m8 : (8 * cz).toInt = 8 * cz.toInt := i32_mul (by rw [t8]; omega) (by rw [t8]; omega)
      have ix : (8 * cz + dz).toNatClampNeg = 8 * i + k := cl_n (by rw [i32_add (by omega) (by omega), m8]; omega)
      rw [ix] at H
      obtain ⟨N1, eN⟩ : ∃ N1, N1 = wI N 108 (8 * i + k) (besI w h cz dz) := ⟨_, rfl⟩
      rw [← eN] at H
      have hS1 : SQ N1 := by rw [eN]; exact hS.ki
      have hF : FZ noF (fun a => a = 108) noO N N1 := by rw [eN]; exact FZ.wI (W := fun a => a = 108) rfl
      have y : rN N1 108 (8 * i + k) = besI w h cz (nI k) := by
        rw [eN, ← ed]
        exact rN_wI_eq (by rw [(hS.1.row qa_108 qw_26).2]; omega)
      have yo : ∀ j, j ≠ 8 * i + k → rN N1 108 j = rN N 108 j := fun j hj => by rw [eN, rN_wI_ne (fun q => hj q.2)]
      have g6 : rI N1 106 cz = rI N 106 cz := hF.rn (by omega)
      have g7 : rI N1 107 cz = rI N 107 cz := hF.rn (by omega)
      obtain ⟨N2, d1, r1, r2, r3, r4, r5⟩ := ih (k + 1) (dz + 1) N1 hS1 ((hF.fi (fun q => q)).trans e3) ((hF.fi (fun q => q)).trans e4) (g6.trans h6) (g7.trans h7) (by rw [i32_p1 (by omega)]; omega) (by omega) H
      refine ⟨N2, d1, r1, hF.trans r2, fun j h3 h4 => ?_, fun j h3 => ?_, r5⟩
      · by_cases hjk : j = k
        · subst hjk
          rw [r4 _ (by omega)]
          exact y
        · exact r3 j (by omega) h4
      · rw [r4 j (by omega)]
        exact yo j (by omega)
theorem shp_out {w h : Int32} (hw : 4 ≤ w.toInt ∧ w.toInt ≤ 16) (hn : n ≤ 256) : ∀ (r k : Nat) (cz : Int32) (c4 : Option Value) (N : Mem), SQ N → zI N 105 3 = w → zI N 105 4 = h → (zI N 105 3 * zI N 105 4).toInt = (n : Int) → cz.toInt = (k : Int) → k + r = n → (∀ i, i < k → gdC w h N i) → Ev none e 1 29 [some (.ref 105), some (.int wi), some (.int de), some (.int cz), c4] [] N v M' 0 0 → v = none ∧ SQ M' ∧ FZ noF shgW noO N M' ∧ ∀ i, i < n → gdC w h M' i := by
  intro r
  induction r with
  | zero =>
    intro k cz c4 N hS e3 e4 hm hk hkr hg H
    have hkn : k = n := by omega
    rcases shp_29 hS H with ⟨_, hv, rfl⟩ | ⟨a1, _⟩ | ⟨a1, _⟩
    · exact ⟨hv, hS, FZ.refl _, fun i hi => hg i (by omega)⟩
    · exact absurd (Int32.le_iff_toInt_le.mpr (by omega)) a1
    · exact absurd (Int32.le_iff_toInt_le.mpr (by omega)) a1
  | succ r ih =>
    intro k cz c4 N hS e3 e4 hm hk hkr hg H
    have t256 : (256 : Int32).toInt = 256 := rfl
    rcases shp_29 hS H with ⟨a1, _⟩ | ⟨_, a1, _⟩ | ⟨_, _, _, _, _, _, H⟩
    · have := Int32.le_iff_toInt_le.mp a1
      omega
    · have := Int32.le_iff_toInt_le.mp a1
      omega
    · rw [cl_n hk, e3] at H
      have ec : cz = nI k := Int32.toInt_inj.mp (by rw [nI_toInt (by omega)]; exact hk)
      obtain ⟨N1, eN⟩ : ∃ N1, N1 = wI (wI N 106 k (cz - cz / w * w)) 107 k (cz / w) := ⟨_, rfl⟩
      rw [← eN] at H
      have hS1 : SQ N1 := by rw [eN]; exact hS.ki.ki
      have hF : FZ noF (fun a => a = 106 ∨ a = 107) noO N N1 := by
        rw [eN]
        exact (FZ.wI (W := fun a => a = 106 ∨ a = 107) (Or.inl rfl)).trans (FZ.wI (Or.inr rfl))
      have y6 : rN N1 106 k = cz - cz / w * w := by
        rw [eN, rN_wI_ne (by omega)]
        exact rN_wI_eq (by rw [(hS.1.row qa_106 qw_24).2]; omega)
      have y7 : rN N1 107 k = cz / w := by
        rw [eN]
        exact rN_wI_eq (by rw [(hS.ki.1.row qa_107 qw_25).2]; omega)
      have yo : ∀ j, j ≠ k → rN N1 106 j = rN N 106 j ∧ rN N1 107 j = rN N 107 j := fun j hj => by
        rw [eN, rN_wI_ne (by omega), rN_wI_ne (by omega), rN_wI_ne (by omega), rN_wI_ne (by omega)]
        exact ⟨rfl, rfl⟩
      have x3 : zI N1 105 3 = w := (hF.fi (fun q => q)).trans e3
      have x4 : zI N1 105 4 = h := (hF.fi (fun q => q)).trans e4
      obtain ⟨N2, d1, r1, r2, r3, r4, H⟩ := shp_in (by omega) hk 8 0 0 N1 hS1 x3 x4 ((rI_n hk).trans y6) ((rI_n hk).trans y7) rfl rfl H
      have z3 : zI N2 105 3 = w := (r2.fi (fun q => q)).trans x3
      have z4 : zI N2 105 4 = h := (r2.fi (fun q => q)).trans x4
      have hg2 : ∀ i, i < k + 1 → gdC w h N2 i := fun i hi => by
        have p6 : rN N2 106 i = rN N1 106 i := r2.rn (by omega)
        have p7 : rN N2 107 i = rN N1 107 i := r2.rn (by omega)
        by_cases hik : i = k
        · subst hik
          refine ⟨?_, ?_, fun j hj => ?_⟩
          · rw [p6, y6, ec]
          · rw [p7, y7, ec]
          · rw [r3 j (Nat.zero_le _) hj, ec]
        · obtain ⟨g1, g2, g3⟩ := hg i (by omega)
          obtain ⟨o6, o7⟩ := yo i hik
          refine ⟨p6.trans (o6.trans g1), p7.trans (o7.trans g2), fun j hj => ?_⟩
          rw [r4 _ (by omega)]
          have : rN N1 108 (8 * i + j) = rN N 108 (8 * i + j) := hF.rn (by omega)
          exact this.trans (g3 j hj)
      obtain ⟨u1, u2, u3, u4⟩ := ih (k + 1) (cz + 1) _ N2 r1 z3 z4 (by rw [z3, z4, ← e3, ← e4]; exact hm) (by rw [i32_p1 (by omega)]; omega) (by omega) hg2 H
      exact ⟨u1, u2, (hF.more (fun _ _ q => q) (fun a q => by unfold shgW; omega) (fun _ q => q)).trans ((r2.more (fun _ _ q => q) (fun a q => by unfold shgW; omega) (fun _ q => q)).trans u3), u4⟩
theorem shape_ok (hS : SQ M) (hw : 4 ≤ wi.toInt ∧ wi.toInt ≤ 16) (hd : 4 ≤ de.toInt ∧ de.toInt ≤ 16) (hG : GRI M) (H : Ev none e 1 0 [some (.ref 105), some (.int wi), some (.int de), none, none] [] M v M' 0 0) : v = none ∧ SQ M' ∧ FZ shgF shgW noO M M' ∧ GRI M' ∧ zI M' 105 3 = wi ∧ zI M' 105 4 = de := by
  have go : ∀ c4, Ev none e 1 29 [some (.ref 105), some (.int wi), some (.int de), some (.int 0), c4] [] (wF (wF M 105 3 wi) 105 4 de) v M' 0 0 → v = none ∧ SQ M' ∧ FZ shgF shgW noO M M' ∧ GRI M' ∧ zI M' 105 3 = wi ∧ zI M' 105 4 = de := fun c4 H => by
    obtain ⟨N, eN⟩ : ∃ N, N = wF (wF M 105 3 wi) 105 4 de := ⟨_, rfl⟩
    rw [← eN] at H
    have hS1 : SQ N := by rw [eN]; exact hS.kf.kf
    have hF : FZ shgF noO noO M N := by
      rw [eN]
      exact (FZ.wF (F := shgF) ⟨rfl, by decide⟩).trans (FZ.wF ⟨rfl, by decide⟩)
    have e3 : zI N 105 3 = wi := by rw [eN, fI_wF_ne (by omega)]; exact fI_wF_eq hS.1 qa_105 qi_23_3
    have e4 : zI N 105 4 = de := by rw [eN]; exact fI_wF_eq hS.kf.1 qa_105 qi_23_4
    obtain ⟨c1, c2, _⟩ := cls_int (parP_wh (o := rN M 2) hw hd)
    have cw : clsP (parP wi de (rN M 2)) = wi.toInt.toNat * de.toInt.toNat := rfl
    rw [cw] at c1 c2
    rw [parP_0, parP_1] at c1
    obtain ⟨u1, u2, u3, u4⟩ := shp_out hw (n := wi.toInt.toNat * de.toInt.toNat) (by omega) (wi.toInt.toNat * de.toInt.toNat) 0 0 c4 N hS1 e3 e4 (by rw [e3, e4, i32_mul (by omega) (by omega)]; exact c1.symm) rfl (by omega) (fun i hi => absurd hi (Nat.not_lt_zero _)) H
    have x3 : zI M' 105 3 = wi := (u3.fi (fun q => q)).trans e3
    have x4 : zI M' 105 4 = de := (u3.fi (fun q => q)).trans e4
    refine ⟨u1, u2, (hF.more (fun _ _ q => q) (fun _ q => q.elim) (fun _ q => q)).trans (u3.more (fun _ _ q => q.elim) (fun _ q => q) (fun _ q => q)), ?_, x3, x4⟩
    unfold GRI
    rw [x3, x4]
    exact u4
  rcases shp_0 hS H with ⟨h3, h4, hv, rfl⟩ | ⟨_, _, H⟩ | ⟨_, H⟩
  · exact ⟨hv, hS, FZ.refl _, hG, h3.symm, h4.symm⟩
  · exact go _ H
  · exact go _ H
theorem GRI.grd (hG : GRI M) (hw : wh4 P) (h3 : zI M 105 3 = P 0) (h4 : zI M 105 4 = P 1) : GRD P M := by
  intro c hc
  obtain ⟨i, ei⟩ : ∃ i, i = c.toInt.toNat := ⟨_, rfl⟩
  have h0 := hc.1
  have h1 := hc.2
  obtain ⟨_, c256, _⟩ := cls_int hw
  have ci : c.toInt = (i : Int) := by omega
  have ec : c = nI i := Int32.toInt_inj.mp (by rw [nI_toInt (by omega)]; exact ci)
  unfold GRI at hG
  rw [h3, h4] at hG
  obtain ⟨g1, g2, g3⟩ := hG i (by rw [ei]; exact h1)
  refine ⟨(rI_n ci).trans (by rw [ec]; exact g1), (rI_n ci).trans (by rw [ec]; exact g2), fun d d0 d1 => ?_⟩
  obtain ⟨k, ek⟩ : ∃ k, k = d.toInt.toNat := ⟨_, rfl⟩
  have dk : d.toInt = (k : Int) := by omega
  have ed : d = nI k := Int32.toInt_inj.mp (by rw [nI_toInt (by omega)]; exact dk)
  have t8 : (8 : Int32).toInt = 8 := rfl
  have m8 : (8 * c).toInt = 8 * c.toInt := i32_mul (by rw [t8]; omega) (by rw [t8]; omega)
  have ix : (8 * c + d).toInt = ((8 * i + k : Nat) : Int) := by rw [i32_add (by omega) (by omega), m8]; omega
  rw [rI_n ix, g3 k (by omega)]
  unfold besP
  rw [← ec, ← ed]
/-- what enter asks of the texts -/
def TXc (T : TS) (M : Mem) : Prop := (TXT M (fR M 104 2) (T 0) ∧ LW (T 0)) ∧ ∀ h, h < 6 → TXT M (oN M 109 h) (T (h + 1)) ∧ LW (T (h + 1))
def enF (a k : Nat) : Prop := shgF a k ∨ (a = 104 ∧ 7 ≤ k)
def enW (a : Nat) : Prop := shgW a ∨ a = 128
theorem enter_ok (hS : SQ M) (hL : gNth sT L = some 8) (hw : wh4 P) (hn : ∀ c, inC P c → nnC P c) (hG : GRI M) (hX : SXc M) (hT : TXc T M) (hA : LAN L P M) (hx : WXr L M) (hk : WKs L M) (n24 : (P 12).toInt ≤ 24) (k60 : (P 157).toInt ≤ 60) (H : Ev none e 54 0 [some (.ref 104), some (.ref L)] [] M v M' 0 0) : v = none ∧ STA L T P M' ∧ LST L P M' ∧ FZ enF enW noO M M' ∧ GRI M' ∧ zI M' 105 3 = P 0 ∧ zI M' 105 4 = P 1 ∧ WFl (-1) [] M' := by
  have hl := ld_cases hL
  obtain ⟨e1, v1, M1, rfl, H1, H⟩ := ent_0 hS hL H
  have S0 : SQ (wR M 104 7 L) := hS.kr_22_7 hL
  obtain ⟨N0, eN0⟩ : ∃ N0, N0 = wR M 104 7 L := ⟨_, rfl⟩
  rw [← eN0] at S0 H1
  have F0 : FZ (fun a k => a = 104 ∧ k = 7) noO noO M N0 := by rw [eN0]; exact FZ.wR ⟨rfl, rfl⟩
  have r0 : fR N0 104 7 = L := by rw [eN0]; exact fR_wR_eq hS.1 qa_104 qk_22_7
  rw [hA.1.1, hA.1.2.1] at H1
  obtain ⟨hv1, S1, F1, G1, z3, z4⟩ := shape_ok S0 ⟨hw.1, hw.2.1⟩ ⟨hw.2.2.1, hw.2.2.2⟩ (hG.fz F0 (by omega) (by omega) (fun _ _ _ q => q)) H1
  rw [hv1] at H
  obtain ⟨hv, eM⟩ := ent_26 S1 hL H
  obtain ⟨X, eX⟩ : ∃ X, X = wF (wF (wF M1 104 8 0) 104 9 (-1)) 104 10 0 := ⟨_, rfl⟩
  rw [← eX] at eM
  have SX : SQ X := by rw [eX]; exact S1.kf.kf.kf
  have FX : FZ (fun a k => a = 104 ∧ 8 ≤ k) noO noO M1 X := by
    rw [eX]
    exact ((FZ.wF (F := fun a k => a = 104 ∧ 8 ≤ k) ⟨rfl, by decide⟩).trans (FZ.wF ⟨rfl, by decide⟩)).trans (FZ.wF ⟨rfl, by decide⟩)
  have x8 : zI X 104 8 = 0 := by rw [eX, fI_wF_ne (by omega), fI_wF_ne (by omega)]; exact fI_wF_eq S1.1 qa_104 qi_22_8
  have x9 : zI X 104 9 = -1 := by rw [eX, fI_wF_ne (by omega)]; exact fI_wF_eq S1.kf.1 qa_104 qi_22_9
  have x10 : zI X 104 10 = 0 := by rw [eX]; exact fI_wF_eq S1.kf.kf.1 qa_104 qi_22_10
  have eM2 : M' = wA X 128 (-1) := eM
  have SM : SQ M' := by rw [eM2]; exact SX.ka
  have FM : FZ noF (fun a => a = 128) noO X M' := by rw [eM2]; exact FZ.wA (W := fun a => a = 128) rfl
  have y128 : ∀ j, j < 1536 → rN M' 128 j = -1 := fun j hj => by rw [eM2]; exact rN_wA_eq SX.1 qa_128 qw_37 hj
  have FA : FZ enF enW noO M M' := (F0.more (fun a k q => Or.inr ⟨q.1, by omega⟩) (fun _ q => q.elim) (fun _ q => q)).trans ((F1.more (fun a k q => Or.inl q) (fun a q => Or.inl q) (fun _ q => q)).trans ((FX.more (fun a k q => Or.inr ⟨q.1, by omega⟩) (fun _ q => q.elim) (fun _ q => q)).trans (FM.more (fun _ _ q => q.elim) (fun a q => Or.inr q) (fun _ q => q))))
  have r7 : fR M' 104 7 = L := (FM.fr (fun q => q)).trans ((FX.fr (by omega)).trans ((F1.fr (by unfold shgF; omega)).trans r0))
  have r2 : fR M' 104 2 = fR M 104 2 := FA.fr (by unfold enF shgF; omega)
  have lan : LAN L P M' := hA.fz FA (fun a k a1 a2 => by unfold enF shgF; omega) (fun a a1 a2 => by unfold enW shgW; omega) (fun q => q) hk n24 k60
  obtain ⟨⟨t1, t2⟩, t3⟩ := hT
  have ht : gNth sT (fR M 104 2) = some 28 := law_t hS.1
  have tf : ∀ t, gNth sT t = some 28 → (∀ k, ¬ enF t k) ∧ ∀ k, 1 ≤ k → k ≤ 8 → ¬ enW (t + k) := fun t ht => by
    have := tx_cases ht
    exact ⟨fun k => by unfold enF shgF; omega, fun k k1 k8 => by unfold enW shgW; omega⟩
  have T0 : TXT M' (fR M' 104 2) (T 0) := by rw [r2]; exact t1.fz FA (tf _ ht).1 (tf _ ht).2
  have TH : ∀ h, h < 6 → TXT M' (oN M' 109 h) (T (h + 1)) ∧ LW (T (h + 1)) := fun h hh => by
    rw [FA.on (fun q => q)]
    have q := tf _ (hab_t hS.1 hh)
    exact ⟨(t3 h hh).1.fz FA q.1 q.2, (t3 h hh).2⟩
  have q34 : zI M' 105 3 = P 0 ∧ zI M' 105 4 = P 1 := ⟨(FM.fi (fun q => q)).trans ((FX.fi (by omega)).trans z3), (FM.fi (fun q => q)).trans ((FX.fi (by omega)).trans z4)⟩
  have GM : GRI M' := (G1.fz FX (by omega) (by omega) (fun _ _ _ q => q)).fz FM (fun q => q) (fun q => q) (fun a _ _ => by omega)
  refine ⟨hv, ⟨⟨⟨SM, r7, hL, ?_, ?_, ?_, lan.2.2.1⟩, hw, hn, fun m hm => (FA.on (fun q => q)).trans (hX m hm), GM.grd hw q34.1 q34.2, ⟨T0, t2⟩, TH, lan.2.2.2.2⟩, vc_new y128 hw, lan.1, lan.2.1, fun k hk => (FA.on (fun q => q)).trans (hx k hk), hk.on (fun j => FA.on (fun q => q)), (FM.fi (fun q => q)).trans x8⟩, lan.2.2.2.1, FA, GM, q34.1, q34.2, ?_⟩
  · exact T0.2.2.1
  · exact T0.2.2.2.1
  · exact T0.2.2.2.2.1
  · refine ⟨(FM.fi (fun q => q)).trans x9, (FM.fi (fun q => q)).trans (x10.trans ?_)⟩
    rw [decide_eq_false (by simp)]
    rfl
end SHPE
