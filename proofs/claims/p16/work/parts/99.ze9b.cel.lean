/-! THE CELLS told: the class (made by gcv.py out of 99.ze.cel and by sx.py) -/
theorem iwn_0 {e : Nat} {M M' : Mem} {v : Option Value} {c : Int32} (hS : SQ M) (hLd : fR M 0 2 = 8) (H : Ev none e 131 0 [some (.ref 0), some (.int c)] [] M v M' 0 0) : ((rI M (8 + 4) c) < (zI M (fR M 104 2) 10) ∧ v = some (.int 0) ∧ M' = M) ∨ (¬ ((rI M (8 + 4) c) < (zI M (fR M 104 2) 10)) ∧ v = some (.int 1) ∧ M' = M) := by
  have H : Ev none e 131 1 [some (.ref 0), some (.int c)] [.ref 0] M v M' 0 0 := Ev.back 1 (fun n => rfl) H
  have H : Ev none e 131 4 [some (.ref 0), some (.int c)] [.ref (fR M 0 2)] M v M' 0 0 := Ev.back 1 (gs_3 rfl rfl (gf_r hS.1 qa_0 qr_0_2 rfl)) H
  rw [hLd] at H
  have H : Ev none e 131 7 [some (.ref 0), some (.int c)] [.ref (8 + 4)] M v M' 0 0 := Ev.back 1 (gs_3 rfl rfl (gf_x hS.1 qa_8 qo_8 (fx_l5 hS qa_8) rfl)) H
  have H : Ev none e 131 8 [some (.ref 0), some (.int c)] [.int c, .ref (8 + 4)] M v M' 0 0 := Ev.back 1 (fun n => rfl) H
  obtain ⟨b1, H⟩ := Ev.ial rfl rfl hS.1 (fx_h5 qa_8) qw_12 H
  have H : Ev none e 131 9 [some (.ref 0), some (.int c)] [.int (rI M (8 + 4) c)] M v M' 0 0 := H
  have H : Ev none e 131 10 [some (.ref 0), some (.int c)] [.ref 0, .int (rI M (8 + 4) c)] M v M' 0 0 := Ev.back 1 (fun n => rfl) H
  have H : Ev none e 131 13 [some (.ref 0), some (.int c)] [.ref 104, .int (rI M (8 + 4) c)] M v M' 0 0 := Ev.back 1 (gs_3 rfl rfl (gf_u hS.1 qa_0 qr_0_3 qu_22 rfl)) H
  have H : Ev none e 131 16 [some (.ref 0), some (.int c)] [.ref (fR M 104 2), .int (rI M (8 + 4) c)] M v M' 0 0 := Ev.back 1 (gs_3 rfl rfl (gf_r hS.1 qa_104 qr_22_2 rfl)) H
  have H : Ev none e 131 19 [some (.ref 0), some (.int c)] [.int (zI M (fR M 104 2) 10), .int (rI M (8 + 4) c)] M v M' 0 0 := Ev.back 1 (gs_3 rfl rfl (gf_i hS.1 (hS.1.fr qa_104 qr_22_2).2 qi_28_10 rfl)) H
  have H : Ev none e 131 (if (rI M (8 + 4) c) < (zI M (fR M 104 2) 10) then 26 else 22) [some (.ref 0), some (.int c)] [] M v M' 0 0 := Ev.back 1 (fun n => rfl) H
  by_cases h2 : (rI M (8 + 4) c) < (zI M (fR M 104 2) 10)
  · rw [if_pos h2] at H
    have H : Ev none e 131 27 [some (.ref 0), some (.int c)] [.int 0] M v M' 0 0 := Ev.back 1 (fun n => rfl) H
    obtain ⟨z1, z2⟩ := Ev.retz rfl rfl H
    exact Or.inl ⟨h2, z1, z2⟩
  · rw [if_neg h2] at H
    have H : Ev none e 131 27 [some (.ref 0), some (.int c)] [.int 1] M v M' 0 0 := Ev.back 2 (fun n => rfl) H
    obtain ⟨z1, z2⟩ := Ev.retz rfl rfl H
    exact Or.inr (⟨h2, z1, z2⟩)
noncomputable def celP (g : TQ) (P : PK) (c k : Int32) : Int32 := if k.toInt < 7 then cE P k.toInt.toNat c else if k = 7 then bI (wrnB g P c) else bI (decide (bdQ g ≤ cE P 3 c ∧ mdQ g ≤ cE P 4 c))
def CVal (SA : Sta) (M : Mem) (x1 : Int32) (k : Nat) (v : Int32) : Prop := ∃ (n j pc' : Nat), gMany SA n 998 10 1 mTc j 28 [some (.ref 0), some (.int x1), some (.int (nI k))] [] M = some (pc', [some (.ref 0), some (.int x1), some (.int (nI k))], [.int v], M, 0, 0) ∧ decode cX10_cell pc' = .ok (.ireturn, 1)
section CELV
variable {e : Nat} {T : TS} {P : PK} {PI : Nat → PK} {M M1 M' : Mem} {v : Option Value} {c k x1 y : Int32} {SA : Sta} {vs vl vz : List Value} {b r a kd f bw bl : Nat} {l : List Int32} {z : Int32}
theorem rI_at {j : Int32} (d1 : gNth M a = some (.inl (kd, .inl l))) (y1 : gAt l j = some y) : rI M a j = y := by
  obtain ⟨q1, q2, q3⟩ := gat_in y1
  unfold rI rN
  have e : zrw M a = l := by unfold zrw; rw [d1]
  rw [e, q3]
  rfl
theorem fR_at {ci i : Nat} (a1 : gNth M a = some (.inr (ci, vs))) (a2 : gNth vs i = some (.ref b)) : fR M a i = b := by
  unfold fR fV
  rw [a1]
  dsimp only
  rw [a2]
theorem zI_at {ci i : Nat} (a1 : gNth M a = some (.inr (ci, vs))) (a2 : gNth vs i = some (.int z)) : zI M a i = z := by
  unfold zI fV
  rw [a1]
  dsimp only
  rw [a2]
theorem cv_row (hC : CST T P PI M) (hc : inC P x1) (hf : f < 7) (a1 : gNth M 0 = some (.inr (10, vs))) (a2 : gNth vs 2 = some (.ref b)) (b1 : gNth M b = some (.inr (1, vl))) (b2 : gNth vl (2 + f) = some (.ref r)) (d1 : gNth M r = some (.inl (1, .inl l))) (y1 : gAt l x1 = some y) : cE P f x1 = y := by
  have eb : b = 8 := (fR_at a1 a2).symm.trans hC.ld
  subst eb
  have h : fV M 8 (2 + f) = some (.ref (8 + 1 + f)) := (hC.1.2.2 8 List.mem_cons_self).1 f (by omega)
  have h2 : fR M 8 (2 + f) = 8 + 1 + f := by
    unfold fR
    rw [h]
  have er : r = 8 + 1 + f := (fR_at b1 b2).symm.trans h2
  subst er
  exact (hC.lan.2.2.1.at hc hf).symm.trans (rI_at d1 y1)
theorem inc_255 (hC : CST T P PI M) (hc : inC P x1) : 0 ≤ x1.toInt ∧ x1.toInt ≤ 255 := by
  obtain ⟨_, c256, _⟩ := cls_int hC.ok.1.1
  have h0 := hc.1
  have h1 := hc.2
  omega
theorem iwn_ok (hC : CST T P PI M) (hc : inC P c) (H : Ev none e 131 0 [some (.ref 0), some (.int c)] [] M v M' 0 0) : v = some (.int (bI (wrnB (T 0) P c))) := by
  have e3 : rI M 12 c = cE P 3 c := hC.lan.2.2.1.at hc (f := 3) (by decide)
  have e10 : zI M (fR M 104 2) 10 = bdQ (T 0) := hC.2.2.1.1.1.2.2.1
  unfold wrnB
  rcases iwn_0 hC.sq hC.ld H with ⟨a1, r1, r2⟩ | ⟨a1, r1, r2⟩
  · rw [e3, e10, Int32.lt_iff_toInt_lt] at a1
    rw [r1, decide_eq_false (fun q => by have := Int32.le_iff_toInt_le.mp q; omega)]
    rfl
  · rw [e3, e10, Int32.lt_iff_toInt_lt] at a1
    rw [r1, decide_eq_true (Int32.le_iff_toInt_le.mpr (by omega))]
    rfl
theorem celP_lo {g : TQ} {k : Nat} (hk : k < 7) : celP g P c (nI k) = cE P k c := by
  have e : (nI k).toInt = (k : Int) := nI_toInt (by omega)
  unfold celP
  rw [if_pos (by omega), e]
  rfl
theorem celP_7 {g : TQ} : celP g P c (nI 7) = bI (wrnB g P c) := by
  have e : (nI 7).toInt = ((7 : Nat) : Int) := nI_toInt (by omega)
  unfold celP
  rw [if_neg (by omega), if_pos (by decide)]
theorem celP_8 {g : TQ} : celP g P c (nI 8) = bI (decide (bdQ g ≤ cE P 3 c ∧ mdQ g ≤ cE P 4 c)) := by
  have e : (nI 8).toInt = ((8 : Nat) : Int) := nI_toInt (by omega)
  unfold celP
  rw [if_neg (by omega), if_neg (by decide)]
set_option maxRecDepth 200000 in
theorem cv_0 (hC : CST T P PI M) (hI : INV M) (hc : inC P x1) : CVal SA M x1 0 (celP (T 0) P x1 (nI 0)) := by
  obtain ⟨c0, c1⟩ := inc_255 hC hc
  obtain ⟨vs, b, a1, a2, a3⟩ := hI.1.fref sT_00 cl_land
  obtain ⟨vl, r, b1, b2, b3⟩ := hI.1.fref a3 ly_r0.1
  obtain ⟨l, d1, d2, _⟩ := hI.1.irow b3 ly_r0.2
  obtain ⟨nn, hnn⟩ : ∃ nn : Nat, x1.toInt = (nn : Int) := ⟨x1.toInt.toNat, by omega⟩
  obtain ⟨y, y1, _⟩ := at_c (l := l) hnn (by omega)
  rw [celP_lo (by decide), cv_row hC hc (f := 0) (by decide) a1 a2 b1 b2 d1 y1]
  refine ⟨0, 7, 85, ?_, by decide +kernel⟩
  refine mn_s (pc1 := 29) (ls1 := [some (.ref 0), some (.int x1), some (.int (nI 0))]) (st1 := [.int (nI 0)]) (M1 := M) rfl ?_
  refine mn_s (pc1 := 76) (ls1 := [some (.ref 0), some (.int x1), some (.int (nI 0))]) (st1 := []) (M1 := M) rfl ?_
  refine mn_s (pc1 := 77) (ls1 := [some (.ref 0), some (.int x1), some (.int (nI 0))]) (st1 := [.ref 0]) (M1 := M) rfl ?_
  refine mn_s (one_g (i := .getfield 28) rfl (Or.inl rfl) (gf_c (ini := false) rfl a1 a2)) ?_
  refine mn_s (one_g (i := .getfield 214) rfl (Or.inl rfl) (gf_c (ini := false) rfl b1 b2)) ?_
  refine mn_s (pc1 := 84) (ls1 := [some (.ref 0), some (.int x1), some (.int (nI 0))]) (st1 := [.int x1, .ref r]) (M1 := M) rfl ?_
  exact mn_s (k := 0) (one_g (i := .iaload) rfl (Or.inl rfl) (ia_c (o := 10) (ini := false) d1 y1)) rfl
set_option maxRecDepth 200000 in
theorem cv_1 (hC : CST T P PI M) (hI : INV M) (hc : inC P x1) : CVal SA M x1 1 (celP (T 0) P x1 (nI 1)) := by
  obtain ⟨c0, c1⟩ := inc_255 hC hc
  obtain ⟨vs, b, a1, a2, a3⟩ := hI.1.fref sT_00 cl_land
  obtain ⟨vl, r, b1, b2, b3⟩ := hI.1.fref a3 ly_r1.1
  obtain ⟨l, d1, d2, _⟩ := hI.1.irow b3 ly_r1.2
  obtain ⟨nn, hnn⟩ : ∃ nn : Nat, x1.toInt = (nn : Int) := ⟨x1.toInt.toNat, by omega⟩
  obtain ⟨y, y1, _⟩ := at_c (l := l) hnn (by omega)
  rw [celP_lo (by decide), cv_row hC hc (f := 1) (by decide) a1 a2 b1 b2 d1 y1]
  refine ⟨0, 7, 95, ?_, by decide +kernel⟩
  refine mn_s (pc1 := 29) (ls1 := [some (.ref 0), some (.int x1), some (.int (nI 1))]) (st1 := [.int (nI 1)]) (M1 := M) rfl ?_
  refine mn_s (pc1 := 86) (ls1 := [some (.ref 0), some (.int x1), some (.int (nI 1))]) (st1 := []) (M1 := M) rfl ?_
  refine mn_s (pc1 := 87) (ls1 := [some (.ref 0), some (.int x1), some (.int (nI 1))]) (st1 := [.ref 0]) (M1 := M) rfl ?_
  refine mn_s (one_g (i := .getfield 28) rfl (Or.inl rfl) (gf_c (ini := false) rfl a1 a2)) ?_
  refine mn_s (one_g (i := .getfield 249) rfl (Or.inl rfl) (gf_c (ini := false) rfl b1 b2)) ?_
  refine mn_s (pc1 := 94) (ls1 := [some (.ref 0), some (.int x1), some (.int (nI 1))]) (st1 := [.int x1, .ref r]) (M1 := M) rfl ?_
  exact mn_s (k := 0) (one_g (i := .iaload) rfl (Or.inl rfl) (ia_c (o := 10) (ini := false) d1 y1)) rfl
set_option maxRecDepth 200000 in
theorem cv_2 (hC : CST T P PI M) (hI : INV M) (hc : inC P x1) : CVal SA M x1 2 (celP (T 0) P x1 (nI 2)) := by
  obtain ⟨c0, c1⟩ := inc_255 hC hc
  obtain ⟨vs, b, a1, a2, a3⟩ := hI.1.fref sT_00 cl_land
  obtain ⟨vl, r, b1, b2, b3⟩ := hI.1.fref a3 ly_r2.1
  obtain ⟨l, d1, d2, _⟩ := hI.1.irow b3 ly_r2.2
  obtain ⟨nn, hnn⟩ : ∃ nn : Nat, x1.toInt = (nn : Int) := ⟨x1.toInt.toNat, by omega⟩
  obtain ⟨y, y1, _⟩ := at_c (l := l) hnn (by omega)
  rw [celP_lo (by decide), cv_row hC hc (f := 2) (by decide) a1 a2 b1 b2 d1 y1]
  refine ⟨0, 7, 105, ?_, by decide +kernel⟩
  refine mn_s (pc1 := 29) (ls1 := [some (.ref 0), some (.int x1), some (.int (nI 2))]) (st1 := [.int (nI 2)]) (M1 := M) rfl ?_
  refine mn_s (pc1 := 96) (ls1 := [some (.ref 0), some (.int x1), some (.int (nI 2))]) (st1 := []) (M1 := M) rfl ?_
  refine mn_s (pc1 := 97) (ls1 := [some (.ref 0), some (.int x1), some (.int (nI 2))]) (st1 := [.ref 0]) (M1 := M) rfl ?_
  refine mn_s (one_g (i := .getfield 28) rfl (Or.inl rfl) (gf_c (ini := false) rfl a1 a2)) ?_
  refine mn_s (one_g (i := .getfield 252) rfl (Or.inl rfl) (gf_c (ini := false) rfl b1 b2)) ?_
  refine mn_s (pc1 := 104) (ls1 := [some (.ref 0), some (.int x1), some (.int (nI 2))]) (st1 := [.int x1, .ref r]) (M1 := M) rfl ?_
  exact mn_s (k := 0) (one_g (i := .iaload) rfl (Or.inl rfl) (ia_c (o := 10) (ini := false) d1 y1)) rfl
set_option maxRecDepth 200000 in
theorem cv_3 (hC : CST T P PI M) (hI : INV M) (hc : inC P x1) : CVal SA M x1 3 (celP (T 0) P x1 (nI 3)) := by
  obtain ⟨c0, c1⟩ := inc_255 hC hc
  obtain ⟨vs, b, a1, a2, a3⟩ := hI.1.fref sT_00 cl_land
  obtain ⟨vl, r, b1, b2, b3⟩ := hI.1.fref a3 ly_r3.1
  obtain ⟨l, d1, d2, _⟩ := hI.1.irow b3 ly_r3.2
  obtain ⟨nn, hnn⟩ : ∃ nn : Nat, x1.toInt = (nn : Int) := ⟨x1.toInt.toNat, by omega⟩
  obtain ⟨y, y1, _⟩ := at_c (l := l) hnn (by omega)
  rw [celP_lo (by decide), cv_row hC hc (f := 3) (by decide) a1 a2 b1 b2 d1 y1]
  refine ⟨0, 7, 115, ?_, by decide +kernel⟩
  refine mn_s (pc1 := 29) (ls1 := [some (.ref 0), some (.int x1), some (.int (nI 3))]) (st1 := [.int (nI 3)]) (M1 := M) rfl ?_
  refine mn_s (pc1 := 106) (ls1 := [some (.ref 0), some (.int x1), some (.int (nI 3))]) (st1 := []) (M1 := M) rfl ?_
  refine mn_s (pc1 := 107) (ls1 := [some (.ref 0), some (.int x1), some (.int (nI 3))]) (st1 := [.ref 0]) (M1 := M) rfl ?_
  refine mn_s (one_g (i := .getfield 28) rfl (Or.inl rfl) (gf_c (ini := false) rfl a1 a2)) ?_
  refine mn_s (one_g (i := .getfield 255) rfl (Or.inl rfl) (gf_c (ini := false) rfl b1 b2)) ?_
  refine mn_s (pc1 := 114) (ls1 := [some (.ref 0), some (.int x1), some (.int (nI 3))]) (st1 := [.int x1, .ref r]) (M1 := M) rfl ?_
  exact mn_s (k := 0) (one_g (i := .iaload) rfl (Or.inl rfl) (ia_c (o := 10) (ini := false) d1 y1)) rfl
set_option maxRecDepth 200000 in
theorem cv_4 (hC : CST T P PI M) (hI : INV M) (hc : inC P x1) : CVal SA M x1 4 (celP (T 0) P x1 (nI 4)) := by
  obtain ⟨c0, c1⟩ := inc_255 hC hc
  obtain ⟨vs, b, a1, a2, a3⟩ := hI.1.fref sT_00 cl_land
  obtain ⟨vl, r, b1, b2, b3⟩ := hI.1.fref a3 ly_r4.1
  obtain ⟨l, d1, d2, _⟩ := hI.1.irow b3 ly_r4.2
  obtain ⟨nn, hnn⟩ : ∃ nn : Nat, x1.toInt = (nn : Int) := ⟨x1.toInt.toNat, by omega⟩
  obtain ⟨y, y1, _⟩ := at_c (l := l) hnn (by omega)
  rw [celP_lo (by decide), cv_row hC hc (f := 4) (by decide) a1 a2 b1 b2 d1 y1]
  refine ⟨0, 7, 125, ?_, by decide +kernel⟩
  refine mn_s (pc1 := 29) (ls1 := [some (.ref 0), some (.int x1), some (.int (nI 4))]) (st1 := [.int (nI 4)]) (M1 := M) rfl ?_
  refine mn_s (pc1 := 116) (ls1 := [some (.ref 0), some (.int x1), some (.int (nI 4))]) (st1 := []) (M1 := M) rfl ?_
  refine mn_s (pc1 := 117) (ls1 := [some (.ref 0), some (.int x1), some (.int (nI 4))]) (st1 := [.ref 0]) (M1 := M) rfl ?_
  refine mn_s (one_g (i := .getfield 28) rfl (Or.inl rfl) (gf_c (ini := false) rfl a1 a2)) ?_
  refine mn_s (one_g (i := .getfield 217) rfl (Or.inl rfl) (gf_c (ini := false) rfl b1 b2)) ?_
  refine mn_s (pc1 := 124) (ls1 := [some (.ref 0), some (.int x1), some (.int (nI 4))]) (st1 := [.int x1, .ref r]) (M1 := M) rfl ?_
  exact mn_s (k := 0) (one_g (i := .iaload) rfl (Or.inl rfl) (ia_c (o := 10) (ini := false) d1 y1)) rfl
set_option maxRecDepth 200000 in
theorem cv_5 (hC : CST T P PI M) (hI : INV M) (hc : inC P x1) : CVal SA M x1 5 (celP (T 0) P x1 (nI 5)) := by
  obtain ⟨c0, c1⟩ := inc_255 hC hc
  obtain ⟨vs, b, a1, a2, a3⟩ := hI.1.fref sT_00 cl_land
  obtain ⟨vl, r, b1, b2, b3⟩ := hI.1.fref a3 ly_r5.1
  obtain ⟨l, d1, d2, _⟩ := hI.1.irow b3 ly_r5.2
  obtain ⟨nn, hnn⟩ : ∃ nn : Nat, x1.toInt = (nn : Int) := ⟨x1.toInt.toNat, by omega⟩
  obtain ⟨y, y1, _⟩ := at_c (l := l) hnn (by omega)
  rw [celP_lo (by decide), cv_row hC hc (f := 5) (by decide) a1 a2 b1 b2 d1 y1]
  refine ⟨0, 7, 135, ?_, by decide +kernel⟩
  refine mn_s (pc1 := 29) (ls1 := [some (.ref 0), some (.int x1), some (.int (nI 5))]) (st1 := [.int (nI 5)]) (M1 := M) rfl ?_
  refine mn_s (pc1 := 126) (ls1 := [some (.ref 0), some (.int x1), some (.int (nI 5))]) (st1 := []) (M1 := M) rfl ?_
  refine mn_s (pc1 := 127) (ls1 := [some (.ref 0), some (.int x1), some (.int (nI 5))]) (st1 := [.ref 0]) (M1 := M) rfl ?_
  refine mn_s (one_g (i := .getfield 28) rfl (Or.inl rfl) (gf_c (ini := false) rfl a1 a2)) ?_
  refine mn_s (one_g (i := .getfield 258) rfl (Or.inl rfl) (gf_c (ini := false) rfl b1 b2)) ?_
  refine mn_s (pc1 := 134) (ls1 := [some (.ref 0), some (.int x1), some (.int (nI 5))]) (st1 := [.int x1, .ref r]) (M1 := M) rfl ?_
  exact mn_s (k := 0) (one_g (i := .iaload) rfl (Or.inl rfl) (ia_c (o := 10) (ini := false) d1 y1)) rfl
set_option maxRecDepth 200000 in
theorem cv_6 (hC : CST T P PI M) (hI : INV M) (hc : inC P x1) : CVal SA M x1 6 (celP (T 0) P x1 (nI 6)) := by
  obtain ⟨c0, c1⟩ := inc_255 hC hc
  obtain ⟨vs, b, a1, a2, a3⟩ := hI.1.fref sT_00 cl_land
  obtain ⟨vl, r, b1, b2, b3⟩ := hI.1.fref a3 ly_r6.1
  obtain ⟨l, d1, d2, _⟩ := hI.1.irow b3 ly_r6.2
  obtain ⟨nn, hnn⟩ : ∃ nn : Nat, x1.toInt = (nn : Int) := ⟨x1.toInt.toNat, by omega⟩
  obtain ⟨y, y1, _⟩ := at_c (l := l) hnn (by omega)
  rw [celP_lo (by decide), cv_row hC hc (f := 6) (by decide) a1 a2 b1 b2 d1 y1]
  refine ⟨0, 7, 145, ?_, by decide +kernel⟩
  refine mn_s (pc1 := 29) (ls1 := [some (.ref 0), some (.int x1), some (.int (nI 6))]) (st1 := [.int (nI 6)]) (M1 := M) rfl ?_
  refine mn_s (pc1 := 136) (ls1 := [some (.ref 0), some (.int x1), some (.int (nI 6))]) (st1 := []) (M1 := M) rfl ?_
  refine mn_s (pc1 := 137) (ls1 := [some (.ref 0), some (.int x1), some (.int (nI 6))]) (st1 := [.ref 0]) (M1 := M) rfl ?_
  refine mn_s (one_g (i := .getfield 28) rfl (Or.inl rfl) (gf_c (ini := false) rfl a1 a2)) ?_
  refine mn_s (one_g (i := .getfield 226) rfl (Or.inl rfl) (gf_c (ini := false) rfl b1 b2)) ?_
  refine mn_s (pc1 := 144) (ls1 := [some (.ref 0), some (.int x1), some (.int (nI 6))]) (st1 := [.int x1, .ref r]) (M1 := M) rfl ?_
  exact mn_s (k := 0) (one_g (i := .iaload) rfl (Or.inl rfl) (ia_c (o := 10) (ini := false) d1 y1)) rfl
set_option maxRecDepth 200000 in
theorem cv_7 (hC : CST T P PI M) (hI : INV M) (hc : inC P x1) : CVal SA M x1 7 (celP (T 0) P x1 (nI 7)) := by
  obtain ⟨c0, c1⟩ := inc_255 hC hc
  obtain ⟨w, hw, hw1⟩ := isw_g hI.1 c0 c1
  rw [celP_7, show bI (wrnB (T 0) P x1) = w from by have q := iwn_ok hC hc hw; cases q; rfl]
  obtain ⟨n, hw⟩ := hw.any SA
  rcases hw1 with rfl | rfl
  · refine ⟨n, 7, 159, ?_, by decide +kernel⟩
    refine mn_s (pc1 := 29) (ls1 := [some (.ref 0), some (.int x1), some (.int (nI 7))]) (st1 := [.int (nI 7)]) (M1 := M) rfl ?_
    refine mn_s (pc1 := 146) (ls1 := [some (.ref 0), some (.int x1), some (.int (nI 7))]) (st1 := []) (M1 := M) rfl ?_
    refine mn_s (pc1 := 147) (ls1 := [some (.ref 0), some (.int x1), some (.int (nI 7))]) (st1 := [.ref 0]) (M1 := M) rfl ?_
    refine mn_s (pc1 := 148) (ls1 := [some (.ref 0), some (.int x1), some (.int (nI 7))]) (st1 := [.int x1, .ref 0]) (M1 := M) rfl ?_
    refine mn_s (one_call (i := .invokevirtual 261) rfl (cal_9w hI.r0) hw) ?_
    refine mn_s (pc1 := 158) (ls1 := [some (.ref 0), some (.int x1), some (.int (nI 7))]) (st1 := []) (M1 := M) rfl ?_
    exact mn_s (k := 0) (pc1 := 159) (ls1 := [some (.ref 0), some (.int x1), some (.int (nI 7))]) (st1 := [.int 0]) (M1 := M) rfl rfl
  · refine ⟨n, 8, 159, ?_, by decide +kernel⟩
    refine mn_s (pc1 := 29) (ls1 := [some (.ref 0), some (.int x1), some (.int (nI 7))]) (st1 := [.int (nI 7)]) (M1 := M) rfl ?_
    refine mn_s (pc1 := 146) (ls1 := [some (.ref 0), some (.int x1), some (.int (nI 7))]) (st1 := []) (M1 := M) rfl ?_
    refine mn_s (pc1 := 147) (ls1 := [some (.ref 0), some (.int x1), some (.int (nI 7))]) (st1 := [.ref 0]) (M1 := M) rfl ?_
    refine mn_s (pc1 := 148) (ls1 := [some (.ref 0), some (.int x1), some (.int (nI 7))]) (st1 := [.int x1, .ref 0]) (M1 := M) rfl ?_
    refine mn_s (one_call (i := .invokevirtual 261) rfl (cal_9w hI.r0) hw) ?_
    refine mn_s (pc1 := 154) (ls1 := [some (.ref 0), some (.int x1), some (.int (nI 7))]) (st1 := []) (M1 := M) rfl ?_
    refine mn_s (pc1 := 155) (ls1 := [some (.ref 0), some (.int x1), some (.int (nI 7))]) (st1 := [.int 1]) (M1 := M) rfl ?_
    exact mn_s (k := 0) (pc1 := 159) (ls1 := [some (.ref 0), some (.int x1), some (.int (nI 7))]) (st1 := [.int 1]) (M1 := M) rfl rfl
set_option maxRecDepth 200000 in
theorem cv_8 (hC : CST T P PI M) (hI : INV M) (hc : inC P x1) : CVal SA M x1 8 (celP (T 0) P x1 (nI 8)) := by
  obtain ⟨c0, c1⟩ := inc_255 hC hc
  obtain ⟨w, hw, hw1⟩ := isw_g hI.1 c0 c1
  have ew : bI (wrnB (T 0) P x1) = w := by have q := iwn_ok hC hc hw; cases q; rfl
  obtain ⟨n, hw⟩ := hw.any SA
  obtain ⟨vs, b, a1, a2, a3⟩ := hI.1.fref sT_00 cl_land
  obtain ⟨vl, r, b1, b2, b3⟩ := hI.1.fref a3 ly_r4.1
  obtain ⟨l, d1, d2, _⟩ := hI.1.irow b3 ly_r4.2
  obtain ⟨nn, hnn⟩ : ∃ nn : Nat, x1.toInt = (nn : Int) := ⟨x1.toInt.toNat, by omega⟩
  obtain ⟨y, y1, _⟩ := at_c (l := l) hnn (by omega)
  obtain ⟨vs2, bw, e1, e2, e3⟩ := hI.1.fref sT_00 cl_walk
  obtain ⟨vw, bl, f1, f2, f3⟩ := hI.1.fref e3 ly_c3.1
  obtain ⟨vz, z, g1, g2, _⟩ := hI.1.fnum f3 ly_c3.2
  have e4 : cE P 4 x1 = y := cv_row hC hc (f := 4) (by decide) a1 a2 b1 b2 d1 y1
  have eb : bw = 104 := sU_ok _ 22 104 e3 qu_22
  subst eb
  have ez : mdQ (T 0) = z := by
    have h1 : fR M 104 2 = bl := fR_at f1 f2
    have h2 : zI M (fR M 104 2) 11 = mdQ (T 0) := hC.2.2.1.1.1.2.2.2.1
    rw [h1] at h2
    exact h2.symm.trans (zI_at g1 g2)
  have ev : celP (T 0) P x1 (nI 8) = if w = 0 then 0 else if y < z then 0 else 1 := by
    rw [celP_8, e4, ez, ← ew]
    unfold wrnB
    by_cases q1 : bdQ (T 0) ≤ cE P 3 x1
    · rw [decide_eq_true q1, if_neg (by decide)]
      by_cases q2 : y < z
      · rw [if_pos q2, decide_eq_false (fun q => by have q3 := Int32.le_iff_toInt_le.mp q.2; have q4 := Int32.lt_iff_toInt_lt.mp q2; omega)]
        rfl
      · rw [if_neg q2, decide_eq_true ⟨q1, Int32.le_iff_toInt_le.mpr (by have q4 : ¬ y.toInt < z.toInt := fun q => q2 (Int32.lt_iff_toInt_lt.mpr q); omega)⟩]
        rfl
    · rw [decide_eq_false q1, if_pos (by decide), decide_eq_false (fun q => q1 q.1)]
      rfl
  rw [ev]
  rcases hw1 with rfl | rfl
  · rw [if_pos rfl]
    refine ⟨n, 7, 195, ?_, by decide +kernel⟩
    refine mn_s (pc1 := 29) (ls1 := [some (.ref 0), some (.int x1), some (.int (nI 8))]) (st1 := [.int (nI 8)]) (M1 := M) rfl ?_
    refine mn_s (pc1 := 160) (ls1 := [some (.ref 0), some (.int x1), some (.int (nI 8))]) (st1 := []) (M1 := M) rfl ?_
    refine mn_s (pc1 := 161) (ls1 := [some (.ref 0), some (.int x1), some (.int (nI 8))]) (st1 := [.ref 0]) (M1 := M) rfl ?_
    refine mn_s (pc1 := 162) (ls1 := [some (.ref 0), some (.int x1), some (.int (nI 8))]) (st1 := [.int x1, .ref 0]) (M1 := M) rfl ?_
    refine mn_s (one_call (i := .invokevirtual 261) rfl (cal_9w hI.r0) hw) ?_
    refine mn_s (pc1 := 194) (ls1 := [some (.ref 0), some (.int x1), some (.int (nI 8))]) (st1 := []) (M1 := M) rfl ?_
    exact mn_s (k := 0) (pc1 := 195) (ls1 := [some (.ref 0), some (.int x1), some (.int (nI 8))]) (st1 := [.int 0]) (M1 := M) rfl rfl
  · rw [if_neg (by decide)]
    by_cases h : y < z
    · rw [if_pos h]
      refine ⟨n, 17, 195, ?_, by decide +kernel⟩
      refine mn_s (pc1 := 29) (ls1 := [some (.ref 0), some (.int x1), some (.int (nI 8))]) (st1 := [.int (nI 8)]) (M1 := M) rfl ?_
      refine mn_s (pc1 := 160) (ls1 := [some (.ref 0), some (.int x1), some (.int (nI 8))]) (st1 := []) (M1 := M) rfl ?_
      refine mn_s (pc1 := 161) (ls1 := [some (.ref 0), some (.int x1), some (.int (nI 8))]) (st1 := [.ref 0]) (M1 := M) rfl ?_
      refine mn_s (pc1 := 162) (ls1 := [some (.ref 0), some (.int x1), some (.int (nI 8))]) (st1 := [.int x1, .ref 0]) (M1 := M) rfl ?_
      refine mn_s (one_call (i := .invokevirtual 261) rfl (cal_9w hI.r0) hw) ?_
      refine mn_s (pc1 := 168) (ls1 := [some (.ref 0), some (.int x1), some (.int (nI 8))]) (st1 := []) (M1 := M) rfl ?_
      refine mn_s (pc1 := 169) (ls1 := [some (.ref 0), some (.int x1), some (.int (nI 8))]) (st1 := [.ref 0]) (M1 := M) rfl ?_
      refine mn_s (one_g (i := .getfield 28) rfl (Or.inl rfl) (gf_c (ini := false) rfl a1 a2)) ?_
      refine mn_s (one_g (i := .getfield 217) rfl (Or.inl rfl) (gf_c (ini := false) rfl b1 b2)) ?_
      refine mn_s (pc1 := 176) (ls1 := [some (.ref 0), some (.int x1), some (.int (nI 8))]) (st1 := [.int x1, .ref r]) (M1 := M) rfl ?_
      refine mn_s (one_g (i := .iaload) rfl (Or.inl rfl) (ia_c (o := 10) (ini := false) d1 y1)) ?_
      refine mn_s (pc1 := 178) (ls1 := [some (.ref 0), some (.int x1), some (.int (nI 8))]) (st1 := [.ref 0, .int y]) (M1 := M) rfl ?_
      refine mn_s (one_g (i := .getfield 37) rfl (Or.inl rfl) (gf_c (ini := false) rfl e1 e2)) ?_
      refine mn_s (one_g (i := .getfield 134) rfl (Or.inl rfl) (gf_c (ini := false) rfl f1 f2)) ?_
      refine mn_s (one_g (i := .getfield 264) rfl (Or.inl rfl) (gf_c (ini := false) rfl g1 g2)) ?_
      refine mn_s (pc1 := if y < z then 194 else 190) (ls1 := [some (.ref 0), some (.int x1), some (.int (nI 8))]) (st1 := []) (M1 := M) rfl ?_
      rw [if_pos h]
      exact mn_s (k := 0) (pc1 := 195) (ls1 := [some (.ref 0), some (.int x1), some (.int (nI 8))]) (st1 := [.int 0]) (M1 := M) rfl rfl
    · rw [if_neg h]
      refine ⟨n, 18, 195, ?_, by decide +kernel⟩
      refine mn_s (pc1 := 29) (ls1 := [some (.ref 0), some (.int x1), some (.int (nI 8))]) (st1 := [.int (nI 8)]) (M1 := M) rfl ?_
      refine mn_s (pc1 := 160) (ls1 := [some (.ref 0), some (.int x1), some (.int (nI 8))]) (st1 := []) (M1 := M) rfl ?_
      refine mn_s (pc1 := 161) (ls1 := [some (.ref 0), some (.int x1), some (.int (nI 8))]) (st1 := [.ref 0]) (M1 := M) rfl ?_
      refine mn_s (pc1 := 162) (ls1 := [some (.ref 0), some (.int x1), some (.int (nI 8))]) (st1 := [.int x1, .ref 0]) (M1 := M) rfl ?_
      refine mn_s (one_call (i := .invokevirtual 261) rfl (cal_9w hI.r0) hw) ?_
      refine mn_s (pc1 := 168) (ls1 := [some (.ref 0), some (.int x1), some (.int (nI 8))]) (st1 := []) (M1 := M) rfl ?_
      refine mn_s (pc1 := 169) (ls1 := [some (.ref 0), some (.int x1), some (.int (nI 8))]) (st1 := [.ref 0]) (M1 := M) rfl ?_
      refine mn_s (one_g (i := .getfield 28) rfl (Or.inl rfl) (gf_c (ini := false) rfl a1 a2)) ?_
      refine mn_s (one_g (i := .getfield 217) rfl (Or.inl rfl) (gf_c (ini := false) rfl b1 b2)) ?_
      refine mn_s (pc1 := 176) (ls1 := [some (.ref 0), some (.int x1), some (.int (nI 8))]) (st1 := [.int x1, .ref r]) (M1 := M) rfl ?_
      refine mn_s (one_g (i := .iaload) rfl (Or.inl rfl) (ia_c (o := 10) (ini := false) d1 y1)) ?_
      refine mn_s (pc1 := 178) (ls1 := [some (.ref 0), some (.int x1), some (.int (nI 8))]) (st1 := [.ref 0, .int y]) (M1 := M) rfl ?_
      refine mn_s (one_g (i := .getfield 37) rfl (Or.inl rfl) (gf_c (ini := false) rfl e1 e2)) ?_
      refine mn_s (one_g (i := .getfield 134) rfl (Or.inl rfl) (gf_c (ini := false) rfl f1 f2)) ?_
      refine mn_s (one_g (i := .getfield 264) rfl (Or.inl rfl) (gf_c (ini := false) rfl g1 g2)) ?_
      refine mn_s (pc1 := if y < z then 194 else 190) (ls1 := [some (.ref 0), some (.int x1), some (.int (nI 8))]) (st1 := []) (M1 := M) rfl ?_
      rw [if_neg h]
      refine mn_s (pc1 := 191) (ls1 := [some (.ref 0), some (.int x1), some (.int (nI 8))]) (st1 := [.int 1]) (M1 := M) rfl ?_
      exact mn_s (k := 0) (pc1 := 195) (ls1 := [some (.ref 0), some (.int x1), some (.int (nI 8))]) (st1 := [.int 1]) (M1 := M) rfl rfl
theorem cv_all (hC : CST T P PI M) (hI : INV M) (hc : inC P x1) {k : Nat} (hk : k < 9) : CVal SA M x1 k (celP (T 0) P x1 (nI k)) := by
  match k, hk with
  | 0, _ => exact cv_0 hC hI hc
  | 1, _ => exact cv_1 hC hI hc
  | 2, _ => exact cv_2 hC hI hc
  | 3, _ => exact cv_3 hC hI hc
  | 4, _ => exact cv_4 hC hI hc
  | 5, _ => exact cv_5 hC hI hc
  | 6, _ => exact cv_6 hC hI hc
  | 7, _ => exact cv_7 hC hI hc
  | 8, _ => exact cv_8 hC hI hc
  | n + 9, hk => exact absurd hk (by omega)
end CELV
