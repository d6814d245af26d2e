/-! BOTH SIDES BESIDE EACH OTHER: the whole state (made by gprs.py) -/
theorem rne_0 {e : Nat} {M M' : Mem} {v : Option Value} (hS : SQ M) (H : Ev none e 217 0 [some (.ref 633)] [] M v M' 0 0) : (∃ e1 v1 M1, e = e1 + 1 ∧ Ev none e1 216 0 [some (.ref 633), none, none] [] (wF M 633 0 0) v1 M1 0 0 ∧ Ev none e 217 9 [some (.ref 633)] (v1.toList ++ []) M1 v M' 0 0) := by
  have H : Ev none e 217 2 [some (.ref 633)] [.int 0, .ref 633] M v M' 0 0 := Ev.back 2 (fun n => rfl) H
  obtain ⟨N2, eN2⟩ : ∃ N, N = (wF M 633 0 0) := ⟨_, rfl⟩
  have hN2 : SQ N2 := by rw [eN2]; exact hS.kf
  have H : Ev none e 217 5 [some (.ref 633)] [] N2 v M' 0 0 := by rw [eN2]; exact Ev.pfi rfl rfl rfl hS.1 qa_633 qi_61_0 H
  have H : Ev none e 217 6 [some (.ref 633)] [.ref 633] N2 v M' 0 0 := Ev.back 1 (fun n => rfl) H
  obtain ⟨e1, rfl⟩ := Ev.dpos rfl rfl H
  obtain ⟨vK3, MK3, K3, H⟩ := Ev.callb (fun n_ => gs_7 rfl rfl (show gCal (.invokevirtual 429) 11 (.ref 633 :: []) N2 = some (.inr (216, [some (.ref 633), none, none], [])) from by show @cond (Option ((List Value × Mem) ⊕ (Nat × Lo × List Value))) (true && gRecv N2 (.ref 633) 11 && gRoom [] && true) (some (.inr (216, [some (.ref 633), none, none], []))) none = _; rw [recv_s hN2.1 qa_633 qo_61]; rfl)) H
  have K3 : Ev none e1 216 0 [some (.ref 633), none, none] [] N2 vK3 MK3 0 0 := K3
  have HF := H
  subst eN2
  exact ⟨e1, vK3, MK3, rfl, K3, HF⟩
theorem rne_9 {e : Nat} {M M' : Mem} {v : Option Value} {r : Int32} (hS : SQ M) (H : Ev none e 217 9 [some (.ref 633)] [.int r] M v M' 0 0) : v = some (.int r) ∧ M' = M := by
  obtain ⟨z1, z2⟩ := Ev.retz rfl rfl H
  exact ⟨z1, z2⟩
def S7 (T : TS) (P : PK) (PI : Nat → PK) (M : Mem) : Prop := CST T P PI M ∧ TXd M ∧ RST T P M ∧ RIM PI M
def B6 (z w y q : Int32) (l lb lt : List Int32) (M : Mem) : Prop := INV M ∧ FX M ∧ LC z M ∧ LR w M ∧ KC l M ∧ KR l M ∧ BC lb M ∧ BR lt M ∧ FCq y M ∧ FRq q M
def SV7 (M : Mem) : Prop := ∃ z y l lb lt T P PI, B6 z z y y l lb lt M ∧ BBp z.toInt.toNat lb lt ∧ S7 T P PI M
noncomputable def txdB (md : Md) : Bool := (!mdIn md 7 2) && ((!mdIn md 7 3) && mdC md [1027])
noncomputable def c7B (zz ff : Bool) (cn : CN) : Bool := ((invC cn && relC zz cn) && byB cn) && ((ff || !mdIn cn.2.2.2.2.2.1 10 15) && (!mdIn cn.2.2.2.2.2.1 11 26 && (fxM cn.2.2.2.2.2.1 && (rstB cn.2.2.2.2.2.1 && rimB cn.2.2.2.2.2.1))))
noncomputable def r7B (zz ff : Bool) (cn : CN) : Bool := ((invC cn && relR zz cn) && byB cn) && ((ff || !mdIn cn.2.2.2.2.2.1 11 26) && (!mdIn cn.2.2.2.2.2.1 10 15 && (fxM cn.2.2.2.2.2.1 && (cstB cn.2.2.2.2.2.1 && txdB cn.2.2.2.2.2.1))))
set_option maxRecDepth 200000 in
theorem f42_ok : fiB 61 11 42 0 1 = true := by decide +kernel
section REL7
variable {z w y q a b : Int32} {l lb lt : List Int32} {T T' : TS} {P Q : PK} {PI : Nat → PK} {M M1 M2 M' : Mem} {cn : CN} {k e : Nat} {ws : List Value} {v v1 v2 : Option Value} {A A' : Prop} {C R : PK → Prop}
theorem SV7.six (h : SV7 M) : SV6 M := by
  obtain ⟨z, y, l, lb, lt, T, P, PI, ⟨a1, a2, a3, a4, a5, a6, a7, a8, a9, a10⟩, hN, _⟩ := h
  exact ⟨a1, a2, z, y, l, lb, lt, a3, a4, a5, a6, a7, a8, hN, a9, a10⟩
theorem b42 (hV : INV M) : ∃ b, zI M 633 42 = bI b := by
  obtain ⟨h0, h1⟩ := hV.1.zIn qa_633 f42_ok
  rcases (show (zI M 633 42).toInt = 0 ∨ (zI M 633 42).toInt = 1 by omega) with h | h
  · exact ⟨false, Int32.toInt_inj.mp h⟩
  · exact ⟨true, Int32.toInt_inj.mp h⟩
set_option maxRecDepth 200000 in
theorem tl_f : fiB 1 5 1 0 440 = true ∧ fiB 61 11 2 0 440 = true := by constructor <;> decide +kernel
theorem tpn (hV : INV M) : (zI M 1 1).toInt = ((zI M 1 1).toInt.toNat : Int) := by
  have := (hV.1.zIn qa_1 tl_f.1).1
  omega
theorem tpm (hV : INV M) : (zI M 633 2).toInt = ((zI M 633 2).toInt.toNat : Int) := by
  have := (hV.1.zIn qa_633 tl_f.2).1
  omega
theorem rel_c7 (zz ff : Bool) (hok : cnOK sT sG FL0 cn) (hB : c7B zz ff cn = true) (hm : (gNth mRs cn.1).map (fun q => q.2.2.2.1) = some k) (hd : cn.2.1 ≤ 999) (ha : Two (taOK sT) cn.2.2.1 ws) (h : B6 z w y q l lb lt M) (hR7 : RST T P M) (hI7 : RIM PI M) : ∃ v M' y', Ev none 999 cn.1 0 (gPad k (gArgs ws)) [] M v M' 0 0 ∧ (∃ s ∈ cn.2.2.2.2.2.2, csOK sT FL0 ws v M' s) ∧ Frm sT cn.2.2.2.2.2.1 M M' ∧ B6 (bif zz then 0 else z) w y' q l lb lt M' ∧ (ff = false → y' = y) ∧ RST T P M' ∧ RIM PI M' := by
  obtain ⟨hV, hX, hC, hR, hK, hL, hP, hQ, hF, hG⟩ := h
  obtain ⟨hB, hf⟩ := and_t hB
  obtain ⟨f1, hf⟩ := and_t hf
  obtain ⟨f2, hf⟩ := and_t hf
  obtain ⟨f3, hf⟩ := and_t hf
  obtain ⟨f4, f5⟩ := and_t hf
  obtain ⟨hB, hb⟩ := and_t hB
  obtain ⟨hB, hr⟩ := and_t hB
  obtain ⟨r1, r2⟩ := and_t hr
  obtain ⟨r2, r3⟩ := and_t r2
  obtain ⟨r3, r4⟩ := and_t r3
  obtain ⟨b1, b2⟩ := and_t hb
  obtain ⟨v, M', h1, h2, h3, h4⟩ := inv_f hok hB hm hd ha hV
  have hX' := hX.frm hV.1.sh h3 f3
  refine ⟨v, M', zI M' 0 15, h1, h4, h3, ⟨h2, hX', ?_, hR.frm h3 (md_no r2), hK.frm h3 (md_no r3), hL.frm h3 (md_no r4), hP.frm h3 (md_no b1), hQ.frm h3 (md_no b2), FCq.of h2.1.sh rfl, hG.frm h3 (md_no f2)⟩, fun e => ?_, hR7.frm ⟨h2.1.sh, hX'⟩ h3 f4, hI7.frm hV.1.sh h3 f5⟩
  · cases zz with
    | true => exact zeB_V r1 h4
    | false => exact hC.frm h3 (md_no r1)
  · subst e
    exact (hF.frm h3 (md_no f1)).zi
theorem rel_r7 (zz ff : Bool) (hok : cnOK sT sG FL0 cn) (hB : r7B zz ff cn = true) (hm : (gNth mRs cn.1).map (fun q => q.2.2.2.1) = some k) (hd : cn.2.1 ≤ 999) (ha : Two (taOK sT) cn.2.2.1 ws) (h : B6 z w y q l lb lt M) : ∃ v M' q', Ev none 999 cn.1 0 (gPad k (gArgs ws)) [] M v M' 0 0 ∧ (∃ s ∈ cn.2.2.2.2.2.2, csOK sT FL0 ws v M' s) ∧ Frm sT cn.2.2.2.2.2.1 M M' ∧ B6 z (bif zz then 0 else w) y q' l lb lt M' ∧ (ff = false → q' = q) ∧ (∀ {T : TS} {P : PK} {PI : Nat → PK}, CST T P PI M → CST T P PI M') ∧ (TXd M → TXd M') := by
  obtain ⟨hV, hX, hC, hR, hK, hL, hP, hQ, hF, hG⟩ := h
  obtain ⟨hB, hf⟩ := and_t hB
  obtain ⟨f1, hf⟩ := and_t hf
  obtain ⟨f2, hf⟩ := and_t hf
  obtain ⟨f3, hf⟩ := and_t hf
  obtain ⟨f4, f5⟩ := and_t hf
  obtain ⟨hB, hb⟩ := and_t hB
  obtain ⟨hB, hr⟩ := and_t hB
  obtain ⟨r1, r2⟩ := and_t hr
  obtain ⟨r2, r3⟩ := and_t r2
  obtain ⟨r3, r4⟩ := and_t r3
  obtain ⟨b1, b2⟩ := and_t hb
  obtain ⟨v, M', h1, h2, h3, h4⟩ := inv_f hok hB hm hd ha hV
  have hX' := hX.frm hV.1.sh h3 f3
  refine ⟨v, M', zI M' 633 26, h1, h4, h3, ⟨h2, hX', hC.frm h3 (md_no r2), ?_, hK.frm h3 (md_no r3), hL.frm h3 (md_no r4), hP.frm h3 (md_no b1), hQ.frm h3 (md_no b2), hF.frm h3 (md_no f2), FRq.of h2.1.sh rfl⟩, fun e => ?_, fun hc => hc.frm ⟨h2.1.sh, hX'⟩ h3 f4, fun hd => hd.frm hV.1.sh h3 f5⟩
  · cases zz with
    | true => exact zeB_V r1 h4
    | false => exact hR.frm h3 (md_no r1)
  · subst e
    exact (hG.frm h3 (md_no f1)).zi
theorem al2 (hx : A → A' → False) (h1 : (A ∧ v1 = some (.int a) ∧ C P) ∨ (A' ∧ v1 = some (.int b) ∧ C Q)) (h2 : (A ∧ v2 = some (.int a) ∧ R P) ∨ (A' ∧ v2 = some (.int b) ∧ R Q)) : ∃ r X, v1 = some (.int r) ∧ v2 = some (.int r) ∧ C X ∧ R X := by
  rcases h1 with ⟨c1, e1, k1⟩ | ⟨c1, e1, k1⟩ <;> rcases h2 with ⟨c2, e2, k2⟩ | ⟨c2, e2, k2⟩
  · exact ⟨a, P, e1, e2, k1, k2⟩
  · exact absurd (hx c1 c2) id
  · exact absurd (hx c2 c1) id
  · exact ⟨b, Q, e1, e2, k1, k2⟩
theorem mM (h : (A ∧ v = some (.int a) ∧ M' = M) ∨ (A' ∧ v = some (.int b) ∧ CST T Q PI M')) (hC : CST T P PI M) : (A ∧ v = some (.int a) ∧ CST T P PI M') ∨ (A' ∧ v = some (.int b) ∧ CST T Q PI M') := by
  rcases h with ⟨h1, h2, h3⟩ | h
  · rw [h3]
    exact Or.inl ⟨h1, h2, hC⟩
  · exact Or.inr h
theorem mR {B : Prop} (h : (A ∧ v = some (.int a) ∧ RST T P M) ∨ (A' ∧ v = some (.int b) ∧ RST T Q M ∧ B)) : (A ∧ v = some (.int a) ∧ RST T P M) ∨ (A' ∧ v = some (.int b) ∧ RST T Q M) := by
  rcases h with h | ⟨h1, h2, h3, _⟩
  · exact Or.inl h
  · exact Or.inr ⟨h1, h2, h3⟩
theorem mTt {B : Prop} (h : CST T P PI M ∧ B ∧ ((A ∧ v = some (.int a)) ∨ (A' ∧ v = some (.int b)))) : (A ∧ v = some (.int a) ∧ CST T P PI M) ∨ (A' ∧ v = some (.int b) ∧ CST T P PI M) := by
  obtain ⟨h1, _, h2⟩ := h
  rcases h2 with ⟨h2, h3⟩ | ⟨h2, h3⟩
  · exact Or.inl ⟨h2, h3, h1⟩
  · exact Or.inr ⟨h2, h3, h1⟩
theorem mC (h : CST T P PI M ∧ ((A ∧ v = some (.int a)) ∨ (A' ∧ v = some (.int b)))) : (A ∧ v = some (.int a) ∧ CST T P PI M) ∨ (A' ∧ v = some (.int b) ∧ CST T P PI M) := by
  obtain ⟨h1, h2⟩ := h
  rcases h2 with ⟨h2, h3⟩ | ⟨h2, h3⟩
  · exact Or.inl ⟨h2, h3, h1⟩
  · exact Or.inr ⟨h2, h3, h1⟩
theorem mTr (h : RST T P M ∧ ((A ∧ v = some (.int a)) ∨ (A' ∧ v = some (.int b)))) : (A ∧ v = some (.int a) ∧ RST T P M) ∨ (A' ∧ v = some (.int b) ∧ RST T P M) := by
  obtain ⟨h1, h2⟩ := h
  rcases h2 with ⟨h2, h3⟩ | ⟨h2, h3⟩
  · exact Or.inl ⟨h2, h3, h1⟩
  · exact Or.inr ⟨h2, h3, h1⟩
theorem rnet_ok (hR : RST T P M) (hD : okD P) (H : Ev none e 217 0 [some (.ref 633)] [] M v M' 0 0) : v = some (.int (nwP (T 0) P)) ∧ RST T P M' := by
  obtain ⟨e1, v1, M1, _, H1, H⟩ := rne_0 hR.1 H
  have h0 := hR.w0 0 (by decide) 0
  obtain ⟨rm, rv⟩ := rwmn_ok h0 hD.1 H1
  rw [rm, rv] at H
  obtain ⟨r1, r2⟩ := rne_9 h0.1 H
  rw [r2]
  exact ⟨r1, h0⟩
set_option maxRecDepth 200000 in
theorem pj_3 {x1 : Int32} (hS : SV7 M) : ∃ r M1 M2, Ev none 999 84 0 [some (.ref 0), some (.int x1)] [] M (some (.int r)) M1 0 0 ∧ Ev none 999 156 0 [some (.ref 633), some (.int x1)] [] M1 (some (.int r)) M2 0 0 ∧ INV M1 ∧ SV7 M2 := by
  obtain ⟨z, y, l, lb, lt, T, P, PI, hB, hN, hC, hD, hR, hI⟩ := hS
  obtain ⟨v1, M1, y1, E1, s1, F1, B1, f1, R1, I1⟩ := rel_c7 (cn := kX10_door) (k := 2) (ws := [.ref 0, .int x1]) false false kX10_door_ok (by decide +kernel) (by decide +kernel) (by decide) (Two.mk rfl (Two.mk ⟨x1, rfl, i32_any x1⟩ trivial)) hB hR hI
  cases f1 rfl
  have D1 : TXd M1 := hD.frm hB.1.1.sh F1 (by decide +kernel)
  have S1 : SQ M1 := ⟨B1.1.1.sh, B1.2.1⟩
  obtain ⟨v2, M2, y2, E2, s2, F2, B2, f2, K2, D2⟩ := rel_r7 (cn := kX11_door) (k := 2) (ws := [.ref 633, .int x1]) false false kX11_door_ok (by decide +kernel) (by decide +kernel) (by decide) (Two.mk rfl (Two.mk ⟨x1, rfl, i32_any x1⟩ trivial)) B1
  cases f2 rfl
  have S2 : SQ M2 := ⟨B2.1.1.sh, B2.2.1⟩
  have I2 : RIM PI M2 := I1.frm B1.1.1.sh F2 (by decide +kernel)
  obtain ⟨r, X, rfl, rfl, C1, R2⟩ := al2 (C := fun X => CST T X PI M1) (R := fun X => RST T X M2) (fun a b => b a) (mM (door_ok hC E1) hC) (rdoor_ok R1 hC.ok.1 E2)
  exact ⟨r, M1, M2, E1, E2, B1.1, ⟨z, y, l, lb, lt, T, X, PI, B2, hN, K2 C1, D2 D1, R2, I2⟩⟩
set_option maxRecDepth 200000 in
theorem pj_6 (hS : SV7 M) : ∃ r M1 M2, Ev none 999 88 0 [some (.ref 0)] [] M (some (.int r)) M1 0 0 ∧ Ev none 999 185 0 [some (.ref 633)] [] M1 (some (.int r)) M2 0 0 ∧ INV M1 ∧ SV7 M2 := by
  obtain ⟨z, y, l, lb, lt, T, P, PI, hB, hN, hC, hD, hR, hI⟩ := hS
  obtain ⟨v1, M1, y1, E1, s1, F1, B1, f1, R1, I1⟩ := rel_c7 (cn := kX10_fault) (k := 1) (ws := [.ref 0]) false false kX10_fault_ok (by decide +kernel) (by decide +kernel) (by decide) (Two.mk rfl trivial) hB hR hI
  cases f1 rfl
  have D1 : TXd M1 := hD.frm hB.1.1.sh F1 (by decide +kernel)
  have S1 : SQ M1 := ⟨B1.1.1.sh, B1.2.1⟩
  obtain ⟨v2, M2, y2, E2, s2, F2, B2, f2, K2, D2⟩ := rel_r7 (cn := kX11_fault) (k := 1) (ws := [.ref 633]) false false kX11_fault_ok (by decide +kernel) (by decide +kernel) (by decide) (Two.mk rfl trivial) B1
  cases f2 rfl
  have S2 : SQ M2 := ⟨B2.1.1.sh, B2.2.1⟩
  have I2 : RIM PI M2 := I1.frm B1.1.1.sh F2 (by decide +kernel)
  obtain ⟨rfl, C1⟩ := (show v1 = some (.int y) ∧ CST T P PI M1 from ⟨flt6C hB.1 hB.2.1 hB.2.2.2.2.2.2.2.2.1 E1, hC.frm S1 F1 (by decide +kernel)⟩)
  obtain ⟨rfl, R2⟩ := (show v2 = some (.int y) ∧ RST T P M2 from ⟨flt6R B1.1 B1.2.1 B1.2.2.2.2.2.2.2.2.2 E2, R1.frm S2 F2 (by decide +kernel)⟩)
  exact ⟨_, M1, M2, E1, E2, B1.1, ⟨z, y, l, lb, lt, T, _, PI, B2, hN, K2 C1, D2 D1, R2, I2⟩⟩
set_option maxRecDepth 200000 in
theorem pj_7 {x1 x2 x3 x4 x5 : Int32} (hS : SV7 M) : ∃ r M1 M2, Ev none 999 89 0 [some (.ref 0), some (.int x1), some (.int x2), some (.int x3), some (.int x4), some (.int x5), none] [] M (some (.int r)) M1 0 0 ∧ Ev none 999 190 0 [some (.ref 633), some (.int x1), some (.int x2), some (.int x3), some (.int x4), some (.int x5), none] [] M1 (some (.int r)) M2 0 0 ∧ INV M1 ∧ SV7 M2 := by
  obtain ⟨z, y, l, lb, lt, T, P, PI, hB, hN, hC, hD, hR, hI⟩ := hS
  obtain ⟨v1, M1, y1, E1, s1, F1, B1, f1, R1, I1⟩ := rel_c7 (cn := kX10_wish) (k := 7) (ws := [.ref 0, .int x1, .int x2, .int x3, .int x4, .int x5]) false false kX10_wish_ok (by decide +kernel) (by decide +kernel) (by decide) (Two.mk rfl (Two.mk ⟨x1, rfl, i32_any x1⟩ (Two.mk ⟨x2, rfl, i32_any x2⟩ (Two.mk ⟨x3, rfl, i32_any x3⟩ (Two.mk ⟨x4, rfl, i32_any x4⟩ (Two.mk ⟨x5, rfl, i32_any x5⟩ trivial)))))) hB hR hI
  cases f1 rfl
  have D1 : TXd M1 := hD.frm hB.1.1.sh F1 (by decide +kernel)
  have S1 : SQ M1 := ⟨B1.1.1.sh, B1.2.1⟩
  obtain ⟨v2, M2, y2, E2, s2, F2, B2, f2, K2, D2⟩ := rel_r7 (cn := kX11_wish) (k := 7) (ws := [.ref 633, .int x1, .int x2, .int x3, .int x4, .int x5]) false false kX11_wish_ok (by decide +kernel) (by decide +kernel) (by decide) (Two.mk rfl (Two.mk ⟨x1, rfl, i32_any x1⟩ (Two.mk ⟨x2, rfl, i32_any x2⟩ (Two.mk ⟨x3, rfl, i32_any x3⟩ (Two.mk ⟨x4, rfl, i32_any x4⟩ (Two.mk ⟨x5, rfl, i32_any x5⟩ trivial)))))) B1
  cases f2 rfl
  have S2 : SQ M2 := ⟨B2.1.1.sh, B2.2.1⟩
  have I2 : RIM PI M2 := I1.frm B1.1.1.sh F2 (by decide +kernel)
  obtain ⟨r, X, rfl, rfl, C1, R2⟩ := al2 (C := fun X => CST T X PI M1) (R := fun X => RST T X M2) (fun a b => b a) (mM (wish_ok hC E1) hC) (rwish_ok R1 hC.ok.1 E2)
  exact ⟨r, M1, M2, E1, E2, B1.1, ⟨z, y, l, lb, lt, T, X, PI, B2, hN, K2 C1, D2 D1, R2, I2⟩⟩
set_option maxRecDepth 200000 in
theorem pj_8 {x1 : Int32} (hS : SV7 M) : ∃ r M1 M2, Ev none 999 90 0 [some (.ref 0), some (.int x1)] [] M (some (.int r)) M1 0 0 ∧ Ev none 999 191 0 [some (.ref 633), some (.int x1)] [] M1 (some (.int r)) M2 0 0 ∧ INV M1 ∧ SV7 M2 := by
  obtain ⟨z, y, l, lb, lt, T, P, PI, hB, hN, hC, hD, hR, hI⟩ := hS
  obtain ⟨v1, M1, y1, E1, s1, F1, B1, f1, R1, I1⟩ := rel_c7 (cn := kX10_drop) (k := 2) (ws := [.ref 0, .int x1]) false false kX10_drop_ok (by decide +kernel) (by decide +kernel) (by decide) (Two.mk rfl (Two.mk ⟨x1, rfl, i32_any x1⟩ trivial)) hB hR hI
  cases f1 rfl
  have D1 : TXd M1 := hD.frm hB.1.1.sh F1 (by decide +kernel)
  have S1 : SQ M1 := ⟨B1.1.1.sh, B1.2.1⟩
  obtain ⟨v2, M2, y2, E2, s2, F2, B2, f2, K2, D2⟩ := rel_r7 (cn := kX11_drop) (k := 2) (ws := [.ref 633, .int x1]) false false kX11_drop_ok (by decide +kernel) (by decide +kernel) (by decide) (Two.mk rfl (Two.mk ⟨x1, rfl, i32_any x1⟩ trivial)) B1
  cases f2 rfl
  have S2 : SQ M2 := ⟨B2.1.1.sh, B2.2.1⟩
  have I2 : RIM PI M2 := I1.frm B1.1.1.sh F2 (by decide +kernel)
  obtain ⟨r, X, rfl, rfl, C1, R2⟩ := al2 (C := fun X => CST T X PI M1) (R := fun X => RST T X M2) (fun a b => a b) (mM (drop_ok hC E1) hC) (rdrop_ok R1 hC.ok.1 E2)
  exact ⟨r, M1, M2, E1, E2, B1.1, ⟨z, y, l, lb, lt, T, X, PI, B2, hN, K2 C1, D2 D1, R2, I2⟩⟩
set_option maxRecDepth 200000 in
theorem pj_9 {x1 : Int32} (hS : SV7 M) : ∃ r M1 M2, Ev none 999 91 0 [some (.ref 0), some (.int x1)] [] M (some (.int r)) M1 0 0 ∧ Ev none 999 207 0 [some (.ref 633), some (.int x1), none] [] M1 (some (.int r)) M2 0 0 ∧ INV M1 ∧ SV7 M2 := by
  obtain ⟨z, y, l, lb, lt, T, P, PI, hB, hN, hC, hD, hR, hI⟩ := hS
  obtain ⟨v1, M1, y1, E1, s1, F1, B1, f1, R1, I1⟩ := rel_c7 (cn := kX10_run) (k := 2) (ws := [.ref 0, .int x1]) false false kX10_run_ok (by decide +kernel) (by decide +kernel) (by decide) (Two.mk rfl (Two.mk ⟨x1, rfl, i32_any x1⟩ trivial)) hB hR hI
  cases f1 rfl
  have D1 : TXd M1 := hD.frm hB.1.1.sh F1 (by decide +kernel)
  have S1 : SQ M1 := ⟨B1.1.1.sh, B1.2.1⟩
  obtain ⟨v2, M2, y2, E2, s2, F2, B2, f2, K2, D2⟩ := rel_r7 (cn := kX11_run) (k := 3) (ws := [.ref 633, .int x1]) false false kX11_run_ok (by decide +kernel) (by decide +kernel) (by decide) (Two.mk rfl (Two.mk ⟨x1, rfl, i32_any x1⟩ trivial)) B1
  cases f2 rfl
  have S2 : SQ M2 := ⟨B2.1.1.sh, B2.2.1⟩
  have I2 : RIM PI M2 := I1.frm B1.1.1.sh F2 (by decide +kernel)
  obtain ⟨r, X, rfl, rfl, C1, R2⟩ := al2 (C := fun X => CST T X PI M1) (R := fun X => RST T X M2) (fun a b => b a) (mM (run_ok hC E1) hC) (mR (rrun_ok R1 hC.ok.1 hC.ok.2.1 hC.ok.2.2.1 (b42 B1.1) E2))
  exact ⟨r, M1, M2, E1, E2, B1.1, ⟨z, y, l, lb, lt, T, X, PI, B2, hN, K2 C1, D2 D1, R2, I2⟩⟩
set_option maxRecDepth 200000 in
theorem pj_10 (hS : SV7 M) : ∃ r M1 M2, Ev none 999 92 0 [some (.ref 0)] [] M (some (.int r)) M1 0 0 ∧ Ev none 999 209 0 [some (.ref 633)] [] M1 (some (.int r)) M2 0 0 ∧ INV M1 ∧ SV7 M2 := by
  obtain ⟨z, y, l, lb, lt, T, P, PI, hB, hN, hC, hD, hR, hI⟩ := hS
  obtain ⟨v1, M1, y1, E1, s1, F1, B1, f1, R1, I1⟩ := rel_c7 (cn := kX10_week) (k := 1) (ws := [.ref 0]) false false kX10_week_ok (by decide +kernel) (by decide +kernel) (by decide) (Two.mk rfl trivial) hB hR hI
  cases f1 rfl
  have D1 : TXd M1 := hD.frm hB.1.1.sh F1 (by decide +kernel)
  have S1 : SQ M1 := ⟨B1.1.1.sh, B1.2.1⟩
  obtain ⟨v2, M2, y2, E2, s2, F2, B2, f2, K2, D2⟩ := rel_r7 (cn := kX11_week) (k := 1) (ws := [.ref 633]) false false kX11_week_ok (by decide +kernel) (by decide +kernel) (by decide) (Two.mk rfl trivial) B1
  cases f2 rfl
  have S2 : SQ M2 := ⟨B2.1.1.sh, B2.2.1⟩
  have I2 : RIM PI M2 := I1.frm B1.1.1.sh F2 (by decide +kernel)
  obtain ⟨rfl, C1⟩ := week_ok hC E1
  obtain ⟨rfl, R2⟩ := rweek_ok R1 hC.ok.1 E2
  exact ⟨_, M1, M2, E1, E2, B1.1, ⟨z, y, l, lb, lt, T, _, PI, B2, hN, K2 C1, D2 D1, R2, I2⟩⟩
set_option maxRecDepth 200000 in
theorem pj_11 {x1 : Int32} (hS : SV7 M) : ∃ r M1 M2, Ev none 999 93 0 [some (.ref 0), some (.int x1), none, none] [] M (some (.int r)) M1 0 0 ∧ Ev none 999 210 0 [some (.ref 633), some (.int x1), none] [] M1 (some (.int r)) M2 0 0 ∧ INV M1 ∧ SV7 M2 := by
  obtain ⟨z, y, l, lb, lt, T, P, PI, hB, hN, hC, hD, hR, hI⟩ := hS
  obtain ⟨v1, M1, y1, E1, s1, F1, B1, f1, R1, I1⟩ := rel_c7 (cn := kX10_rain) (k := 4) (ws := [.ref 0, .int x1]) false false kX10_rain_ok (by decide +kernel) (by decide +kernel) (by decide) (Two.mk rfl (Two.mk ⟨x1, rfl, i32_any x1⟩ trivial)) hB hR hI
  cases f1 rfl
  have D1 : TXd M1 := hD.frm hB.1.1.sh F1 (by decide +kernel)
  have S1 : SQ M1 := ⟨B1.1.1.sh, B1.2.1⟩
  obtain ⟨v2, M2, y2, E2, s2, F2, B2, f2, K2, D2⟩ := rel_r7 (cn := kX11_rain) (k := 3) (ws := [.ref 633, .int x1]) false false kX11_rain_ok (by decide +kernel) (by decide +kernel) (by decide) (Two.mk rfl (Two.mk ⟨x1, rfl, i32_any x1⟩ trivial)) B1
  cases f2 rfl
  have S2 : SQ M2 := ⟨B2.1.1.sh, B2.2.1⟩
  have I2 : RIM PI M2 := I1.frm B1.1.1.sh F2 (by decide +kernel)
  obtain ⟨r, X, rfl, rfl, C1, R2⟩ := al2 (C := fun X => CST T X PI M1) (R := fun X => RST T X M2) (fun a b => a b) (mM (rain_ok hC E1) hC) (rrain_ok R1 hC.ok.1 E2)
  exact ⟨r, M1, M2, E1, E2, B1.1, ⟨z, y, l, lb, lt, T, X, PI, B2, hN, K2 C1, D2 D1, R2, I2⟩⟩
set_option maxRecDepth 200000 in
theorem pj_12 (hS : SV7 M) : ∃ M1 M2, Ev none 999 94 0 [some (.ref 0)] [] M none M1 0 0 ∧ Ev none 999 211 0 [some (.ref 633), none] [] M1 none M2 0 0 ∧ INV M1 ∧ SV7 M2 := by
  obtain ⟨z, y, l, lb, lt, T, P, PI, hB, hN, hC, hD, hR, hI⟩ := hS
  obtain ⟨v1, M1, y1, E1, s1, F1, B1, f1, R1, I1⟩ := rel_c7 (cn := kX10_snow) (k := 1) (ws := [.ref 0]) false false kX10_snow_ok (by decide +kernel) (by decide +kernel) (by decide) (Two.mk rfl trivial) hB hR hI
  cases f1 rfl
  have D1 : TXd M1 := hD.frm hB.1.1.sh F1 (by decide +kernel)
  have S1 : SQ M1 := ⟨B1.1.1.sh, B1.2.1⟩
  obtain ⟨v2, M2, y2, E2, s2, F2, B2, f2, K2, D2⟩ := rel_r7 (cn := kX11_snow) (k := 2) (ws := [.ref 633]) false false kX11_snow_ok (by decide +kernel) (by decide +kernel) (by decide) (Two.mk rfl trivial) B1
  cases f2 rfl
  have S2 : SQ M2 := ⟨B2.1.1.sh, B2.2.1⟩
  have I2 : RIM PI M2 := I1.frm B1.1.1.sh F2 (by decide +kernel)
  obtain ⟨rfl, C1⟩ := snow_ok hC E1
  obtain ⟨rfl, R2⟩ := rsnow_ok R1 hC.ok.1 E2
  exact ⟨M1, M2, E1, E2, B1.1, ⟨z, y, l, lb, lt, T, _, PI, B2, hN, K2 C1, D2 D1, R2, I2⟩⟩
set_option maxRecDepth 200000 in
theorem pj_13 {x1 x2 : Int32} (hS : SV7 M) : ∃ r M1 M2, Ev none 999 95 0 [some (.ref 0), some (.int x1), some (.int x2)] [] M (some (.int r)) M1 0 0 ∧ Ev none 999 212 0 [some (.ref 633), some (.int x1), some (.int x2)] [] M1 (some (.int r)) M2 0 0 ∧ INV M1 ∧ SV7 M2 := by
  obtain ⟨z, y, l, lb, lt, T, P, PI, hB, hN, hC, hD, hR, hI⟩ := hS
  obtain ⟨v1, M1, y1, E1, s1, F1, B1, f1, R1, I1⟩ := rel_c7 (cn := kX10_lay) (k := 3) (ws := [.ref 0, .int x1, .int x2]) false false kX10_lay_ok (by decide +kernel) (by decide +kernel) (by decide) (Two.mk rfl (Two.mk ⟨x1, rfl, i32_any x1⟩ (Two.mk ⟨x2, rfl, i32_any x2⟩ trivial))) hB hR hI
  cases f1 rfl
  have D1 : TXd M1 := hD.frm hB.1.1.sh F1 (by decide +kernel)
  have S1 : SQ M1 := ⟨B1.1.1.sh, B1.2.1⟩
  obtain ⟨v2, M2, y2, E2, s2, F2, B2, f2, K2, D2⟩ := rel_r7 (cn := kX11_lay) (k := 3) (ws := [.ref 633, .int x1, .int x2]) false false kX11_lay_ok (by decide +kernel) (by decide +kernel) (by decide) (Two.mk rfl (Two.mk ⟨x1, rfl, i32_any x1⟩ (Two.mk ⟨x2, rfl, i32_any x2⟩ trivial))) B1
  cases f2 rfl
  have S2 : SQ M2 := ⟨B2.1.1.sh, B2.2.1⟩
  have I2 : RIM PI M2 := I1.frm B1.1.1.sh F2 (by decide +kernel)
  obtain ⟨r, X, rfl, rfl, C1, R2⟩ := al2 (C := fun X => CST T X PI M1) (R := fun X => RST T X M2) (fun a b => b a) (mM (lay_ok hC E1) hC) (rlay_ok R1 hC.ok.1 hC.ok.2.1 E2)
  exact ⟨r, M1, M2, E1, E2, B1.1, ⟨z, y, l, lb, lt, T, X, PI, B2, hN, K2 C1, D2 D1, R2, I2⟩⟩
set_option maxRecDepth 200000 in
theorem pj_15 {x1 x2 : Int32} (hS : SV7 M) : ∃ r M1 M2, Ev none 999 96 0 [some (.ref 0), some (.int x1), some (.int x2), none] [] M (some (.int r)) M1 0 0 ∧ Ev none 999 215 0 [some (.ref 633), some (.int x1), some (.int x2)] [] M1 (some (.int r)) M2 0 0 ∧ INV M1 ∧ SV7 M2 := by
  obtain ⟨z, y, l, lb, lt, T, P, PI, hB, hN, hC, hD, hR, hI⟩ := hS
  obtain ⟨v1, M1, y1, E1, s1, F1, B1, f1, R1, I1⟩ := rel_c7 (cn := kX10_walker) (k := 4) (ws := [.ref 0, .int x1, .int x2]) false false kX10_walker_ok (by decide +kernel) (by decide +kernel) (by decide) (Two.mk rfl (Two.mk ⟨x1, rfl, i32_any x1⟩ (Two.mk ⟨x2, rfl, i32_any x2⟩ trivial))) hB hR hI
  cases f1 rfl
  have D1 : TXd M1 := hD.frm hB.1.1.sh F1 (by decide +kernel)
  have S1 : SQ M1 := ⟨B1.1.1.sh, B1.2.1⟩
  obtain ⟨v2, M2, y2, E2, s2, F2, B2, f2, K2, D2⟩ := rel_r7 (cn := kX11_walker) (k := 3) (ws := [.ref 633, .int x1, .int x2]) false false kX11_walker_ok (by decide +kernel) (by decide +kernel) (by decide) (Two.mk rfl (Two.mk ⟨x1, rfl, i32_any x1⟩ (Two.mk ⟨x2, rfl, i32_any x2⟩ trivial))) B1
  cases f2 rfl
  have S2 : SQ M2 := ⟨B2.1.1.sh, B2.2.1⟩
  have I2 : RIM PI M2 := I1.frm B1.1.1.sh F2 (by decide +kernel)
  obtain ⟨rfl, C1⟩ := walk_ok hC E1
  obtain ⟨rfl, R2⟩ := rwalk_ok R1 hC.ok.2.1 E2
  exact ⟨_, M1, M2, E1, E2, B1.1, ⟨z, y, l, lb, lt, T, _, PI, B2, hN, K2 C1, D2 D1, R2, I2⟩⟩
set_option maxRecDepth 200000 in
theorem pj_16 (hS : SV7 M) : ∃ r M1 M2, Ev none 999 97 0 [some (.ref 0)] [] M (some (.int r)) M1 0 0 ∧ Ev none 999 217 0 [some (.ref 633)] [] M1 (some (.int r)) M2 0 0 ∧ INV M1 ∧ SV7 M2 := by
  obtain ⟨z, y, l, lb, lt, T, P, PI, hB, hN, hC, hD, hR, hI⟩ := hS
  obtain ⟨v1, M1, y1, E1, s1, F1, B1, f1, R1, I1⟩ := rel_c7 (cn := kX10_net) (k := 1) (ws := [.ref 0]) false false kX10_net_ok (by decide +kernel) (by decide +kernel) (by decide) (Two.mk rfl trivial) hB hR hI
  cases f1 rfl
  have D1 : TXd M1 := hD.frm hB.1.1.sh F1 (by decide +kernel)
  have S1 : SQ M1 := ⟨B1.1.1.sh, B1.2.1⟩
  obtain ⟨v2, M2, y2, E2, s2, F2, B2, f2, K2, D2⟩ := rel_r7 (cn := kX11_net) (k := 1) (ws := [.ref 633]) false false kX11_net_ok (by decide +kernel) (by decide +kernel) (by decide) (Two.mk rfl trivial) B1
  cases f2 rfl
  have S2 : SQ M2 := ⟨B2.1.1.sh, B2.2.1⟩
  have I2 : RIM PI M2 := I1.frm B1.1.1.sh F2 (by decide +kernel)
  obtain ⟨rfl, C1⟩ := cnet_ok hC E1
  obtain ⟨rfl, R2⟩ := rnet_ok R1 hC.ok.1 E2
  exact ⟨_, M1, M2, E1, E2, B1.1, ⟨z, y, l, lb, lt, T, _, PI, B2, hN, K2 C1, D2 D1, R2, I2⟩⟩
set_option maxRecDepth 200000 in
theorem pj_17 (hS : SV7 M) : ∃ r1 r2 M1 M2, Ev none 999 98 0 [some (.ref 0)] [] M (some (.int r1)) M1 0 0 ∧ Ev none 999 218 0 [some (.ref 633), none, none] [] M1 (some (.int r2)) M2 0 0 ∧ INV M1 ∧ SV7 M2 := by
  obtain ⟨z, y, l, lb, lt, T, P, PI, hB, hN, hC, hD, hR, hI⟩ := hS
  obtain ⟨v1, M1, y1, E1, s1, F1, B1, f1, R1, I1⟩ := rel_c7 (cn := kX10_pieces) (k := 1) (ws := [.ref 0]) false false kX10_pieces_ok (by decide +kernel) (by decide +kernel) (by decide) (Two.mk rfl trivial) hB hR hI
  cases f1 rfl
  have D1 : TXd M1 := hD.frm hB.1.1.sh F1 (by decide +kernel)
  have S1 : SQ M1 := ⟨B1.1.1.sh, B1.2.1⟩
  obtain ⟨v2, M2, y2, E2, s2, F2, B2, f2, K2, D2⟩ := rel_r7 (cn := kX11_pieces) (k := 3) (ws := [.ref 633]) false false kX11_pieces_ok (by decide +kernel) (by decide +kernel) (by decide) (Two.mk rfl trivial) B1
  cases f2 rfl
  have S2 : SQ M2 := ⟨B2.1.1.sh, B2.2.1⟩
  have I2 : RIM PI M2 := I1.frm B1.1.1.sh F2 (by decide +kernel)
  have C1 : CST T P PI M1 := piecesS_ok hC hB.1 (by decide) E1
  have R2 : RST T P M2 := R1.frm S2 F2 (by decide +kernel)
  obtain ⟨r1, rfl⟩ := ret_i (by decide) s1
  obtain ⟨r2, rfl⟩ := ret_i (by decide) s2
  exact ⟨r1, r2, M1, M2, E1, E2, B1.1, ⟨z, y, l, lb, lt, T, P, PI, B2, hN, K2 C1, D2 D1, R2, I2⟩⟩
set_option maxRecDepth 200000 in
theorem pj_18 {x1 x2 : Int32} (hS : SV7 M) : ∃ r M1 M2, Ev none 999 99 0 [some (.ref 0), some (.int x1), some (.int x2), none] [] M (some (.int r)) M1 0 0 ∧ Ev none 999 223 0 [some (.ref 633), some (.int x1), some (.int x2), none, none] [] M1 (some (.int r)) M2 0 0 ∧ INV M1 ∧ SV7 M2 := by
  obtain ⟨z, y, l, lb, lt, T, P, PI, hB, hN, hC, hD, hR, hI⟩ := hS
  obtain ⟨v1, M1, y1, E1, s1, F1, B1, f1, R1, I1⟩ := rel_c7 (cn := kX10_rests) (k := 4) (ws := [.ref 0, .int x1, .int x2]) false false kX10_rests_ok (by decide +kernel) (by decide +kernel) (by decide) (Two.mk rfl (Two.mk ⟨x1, rfl, i32_any x1⟩ (Two.mk ⟨x2, rfl, i32_any x2⟩ trivial))) hB hR hI
  cases f1 rfl
  have D1 : TXd M1 := hD.frm hB.1.1.sh F1 (by decide +kernel)
  have S1 : SQ M1 := ⟨B1.1.1.sh, B1.2.1⟩
  obtain ⟨v2, M2, y2, E2, s2, F2, B2, f2, K2, D2⟩ := rel_r7 (cn := kX11_rests) (k := 5) (ws := [.ref 633, .int x1, .int x2]) false false kX11_rests_ok (by decide +kernel) (by decide +kernel) (by decide) (Two.mk rfl (Two.mk ⟨x1, rfl, i32_any x1⟩ (Two.mk ⟨x2, rfl, i32_any x2⟩ trivial))) B1
  cases f2 rfl
  have S2 : SQ M2 := ⟨B2.1.1.sh, B2.2.1⟩
  have I2 : RIM PI M2 := I1.frm B1.1.1.sh F2 (by decide +kernel)
  obtain ⟨r, X, rfl, rfl, C1, R2⟩ := al2 (C := fun X => CST T X PI M1) (R := fun X => RST T X M2) (fun a b => b a) (rests_ok hC hB.1 (by decide) E1) (rrests_ok R1 hC.ok.1 hC.ok.2.1 (b42 B1.1) E2)
  exact ⟨r, M1, M2, E1, E2, B1.1, ⟨z, y, l, lb, lt, T, X, PI, B2, hN, K2 C1, D2 D1, R2, I2⟩⟩
set_option maxRecDepth 200000 in
theorem pj_19 (hS : SV7 M) : ∃ r1 r2 M1 M2, Ev none 999 100 0 [some (.ref 0), none] [] M (some (.int r1)) M1 0 0 ∧ Ev none 999 225 0 [some (.ref 633), none, none, none, none, none, none, none] [] M1 (some (.int r2)) M2 0 0 ∧ INV M1 ∧ SV7 M2 := by
  obtain ⟨z, y, l, lb, lt, T, P, PI, hB, hN, hC, hD, hR, hI⟩ := hS
  obtain ⟨v1, M1, y1, E1, s1, F1, B1, f1, R1, I1⟩ := rel_c7 (cn := kX10_least) (k := 2) (ws := [.ref 0]) true false kX10_least_ok (by decide +kernel) (by decide +kernel) (by decide) (Two.mk rfl trivial) hB hR hI
  cases f1 rfl
  have D1 : TXd M1 := hD.frm hB.1.1.sh F1 (by decide +kernel)
  have S1 : SQ M1 := ⟨B1.1.1.sh, B1.2.1⟩
  obtain ⟨v2, M2, y2, E2, s2, F2, B2, f2, K2, D2⟩ := rel_r7 (cn := kX11_least) (k := 8) (ws := [.ref 633]) true false kX11_least_ok (by decide +kernel) (by decide +kernel) (by decide) (Two.mk rfl trivial) B1
  cases f2 rfl
  have S2 : SQ M2 := ⟨B2.1.1.sh, B2.2.1⟩
  have I2 : RIM PI M2 := I1.frm B1.1.1.sh F2 (by decide +kernel)
  have C1 : CST T P PI M1 := leastS_ok hC hB.1 (by decide) E1
  have R2 : RST T P M2 := R1.frm S2 F2 (by decide +kernel)
  obtain ⟨r1, rfl⟩ := ret_i (by decide) s1
  obtain ⟨r2, rfl⟩ := ret_i (by decide) s2
  exact ⟨r1, r2, M1, M2, E1, E2, B1.1, ⟨0, y, l, lb, lt, T, P, PI, B2, fun k hk => absurd hk (Nat.not_lt_zero k), K2 C1, D2 D1, R2, I2⟩⟩
set_option maxRecDepth 200000 in
theorem pj_20 {x1 x2 : Int32} (hS : SV7 M) : ∃ r1 r2 M1 M2, Ev none 999 102 0 [some (.ref 0), some (.int x1), some (.int x2)] [] M (some (.int r1)) M1 0 0 ∧ Ev none 999 228 0 [some (.ref 633), some (.int x1), some (.int x2), none, none] [] M1 (some (.int r2)) M2 0 0 ∧ INV M1 ∧ SV7 M2 := by
  obtain ⟨z, y, l, lb, lt, T, P, PI, hB, hN, hC, hD, hR, hI⟩ := hS
  obtain ⟨v1, M1, y1, E1, s1, F1, B1, f1, R1, I1⟩ := rel_c7 (cn := kX10_longer) (k := 3) (ws := [.ref 0, .int x1, .int x2]) false false kX10_longer_ok (by decide +kernel) (by decide +kernel) (by decide) (Two.mk rfl (Two.mk ⟨x1, rfl, i32_any x1⟩ (Two.mk ⟨x2, rfl, i32_any x2⟩ trivial))) hB hR hI
  cases f1 rfl
  have D1 : TXd M1 := hD.frm hB.1.1.sh F1 (by decide +kernel)
  have S1 : SQ M1 := ⟨B1.1.1.sh, B1.2.1⟩
  obtain ⟨v2, M2, y2, E2, s2, F2, B2, f2, K2, D2⟩ := rel_r7 (cn := kX11_longer) (k := 5) (ws := [.ref 633, .int x1, .int x2]) false false kX11_longer_ok (by decide +kernel) (by decide +kernel) (by decide) (Two.mk rfl (Two.mk ⟨x1, rfl, i32_any x1⟩ (Two.mk ⟨x2, rfl, i32_any x2⟩ trivial))) B1
  cases f2 rfl
  have S2 : SQ M2 := ⟨B2.1.1.sh, B2.2.1⟩
  have I2 : RIM PI M2 := I1.frm B1.1.1.sh F2 (by decide +kernel)
  have C1 : CST T P PI M1 := longerS_ok hC hB.1 (by decide) E1
  have R2 : RST T P M2 := R1.frm S2 F2 (by decide +kernel)
  obtain ⟨r1, rfl⟩ := ret_i (by decide) s1
  obtain ⟨r2, rfl⟩ := ret_i (by decide) s2
  exact ⟨r1, r2, M1, M2, E1, E2, B1.1, ⟨z, y, l, lb, lt, T, P, PI, B2, hN, K2 C1, D2 D1, R2, I2⟩⟩
set_option maxRecDepth 200000 in
theorem pj_21 {x1 x2 x3 x4 : Int32} (hS : SV7 M) : ∃ r M1 M2, Ev none 999 103 0 [some (.ref 0), some (.int x1), some (.int x2), some (.int x3), some (.int x4), none, none, none, none, none, none] [] M (some (.int r)) M1 0 0 ∧ Ev none 999 229 0 [some (.ref 633), some (.int x1), some (.int x2), some (.int x3), some (.int x4), none, none, none, none, none] [] M1 (some (.int r)) M2 0 0 ∧ INV M1 ∧ SV7 M2 := by
  obtain ⟨z, y, l, lb, lt, T, P, PI, hB, hN, hC, hD, hR, hI⟩ := hS
  obtain ⟨v1, M1, y1, E1, s1, F1, B1, f1, R1, I1⟩ := rel_c7 (cn := kX10_turns) (k := 11) (ws := [.ref 0, .int x1, .int x2, .int x3, .int x4]) false false kX10_turns_ok (by decide +kernel) (by decide +kernel) (by decide) (Two.mk rfl (Two.mk ⟨x1, rfl, i32_any x1⟩ (Two.mk ⟨x2, rfl, i32_any x2⟩ (Two.mk ⟨x3, rfl, i32_any x3⟩ (Two.mk ⟨x4, rfl, i32_any x4⟩ trivial))))) hB hR hI
  cases f1 rfl
  have D1 : TXd M1 := (turns_ok hC hD E1).2.1
  have S1 : SQ M1 := ⟨B1.1.1.sh, B1.2.1⟩
  obtain ⟨v2, M2, y2, E2, s2, F2, B2, f2, K2, D2⟩ := rel_r7 (cn := kX11_turns) (k := 10) (ws := [.ref 633, .int x1, .int x2, .int x3, .int x4]) false false kX11_turns_ok (by decide +kernel) (by decide +kernel) (by decide) (Two.mk rfl (Two.mk ⟨x1, rfl, i32_any x1⟩ (Two.mk ⟨x2, rfl, i32_any x2⟩ (Two.mk ⟨x3, rfl, i32_any x3⟩ (Two.mk ⟨x4, rfl, i32_any x4⟩ trivial))))) B1
  cases f2 rfl
  have S2 : SQ M2 := ⟨B2.1.1.sh, B2.2.1⟩
  have I2 : RIM PI M2 := I1.frm B1.1.1.sh F2 (by decide +kernel)
  obtain ⟨r, X, rfl, rfl, C1, R2⟩ := al2 (C := fun X => CST T X PI M1) (R := fun X => RST T X M2) (fun a b => b a) (mTt (turns_ok hC hD E1)) (mTr (rturns_ok R1 hC.ok.1 hC.ok.2.1 (b42 B1.1) E2))
  exact ⟨r, M1, M2, E1, E2, B1.1, ⟨z, y, l, lb, lt, T, X, PI, B2, hN, K2 C1, D2 D1, R2, I2⟩⟩
set_option maxRecDepth 200000 in
theorem pj_22 {x1 x2 x3 x4 : Int32} (hS : SV7 M) : ∃ r M1 M2, Ev none 999 104 0 [some (.ref 0), some (.int x1), some (.int x2), some (.int x3), some (.int x4)] [] M (some (.int r)) M1 0 0 ∧ Ev none 999 231 0 [some (.ref 633), some (.int x1), some (.int x2), some (.int x3), some (.int x4)] [] M1 (some (.int r)) M2 0 0 ∧ INV M1 ∧ SV7 M2 := by
  obtain ⟨z, y, l, lb, lt, T, P, PI, hB, hN, hC, hD, hR, hI⟩ := hS
  obtain ⟨v1, M1, y1, E1, s1, F1, B1, f1, R1, I1⟩ := rel_c7 (cn := kX10_paved) (k := 5) (ws := [.ref 0, .int x1, .int x2, .int x3, .int x4]) false false kX10_paved_ok (by decide +kernel) (by decide +kernel) (by decide) (Two.mk rfl (Two.mk ⟨x1, rfl, i32_any x1⟩ (Two.mk ⟨x2, rfl, i32_any x2⟩ (Two.mk ⟨x3, rfl, i32_any x3⟩ (Two.mk ⟨x4, rfl, i32_any x4⟩ trivial))))) hB hR hI
  cases f1 rfl
  have D1 : TXd M1 := hD.frm hB.1.1.sh F1 (by decide +kernel)
  have S1 : SQ M1 := ⟨B1.1.1.sh, B1.2.1⟩
  obtain ⟨v2, M2, y2, E2, s2, F2, B2, f2, K2, D2⟩ := rel_r7 (cn := kX11_paved) (k := 5) (ws := [.ref 633, .int x1, .int x2, .int x3, .int x4]) false false kX11_paved_ok (by decide +kernel) (by decide +kernel) (by decide) (Two.mk rfl (Two.mk ⟨x1, rfl, i32_any x1⟩ (Two.mk ⟨x2, rfl, i32_any x2⟩ (Two.mk ⟨x3, rfl, i32_any x3⟩ (Two.mk ⟨x4, rfl, i32_any x4⟩ trivial))))) B1
  cases f2 rfl
  have S2 : SQ M2 := ⟨B2.1.1.sh, B2.2.1⟩
  have I2 : RIM PI M2 := I1.frm B1.1.1.sh F2 (by decide +kernel)
  obtain ⟨r, X, rfl, rfl, C1, R2⟩ := al2 (C := fun X => CST T X PI M1) (R := fun X => RST T X M2) (fun a b => b a) (mC (paved_ok hC hB.1 (by decide) E1)) (mTr (rpaved_ok R1 hC.ok.1 hC.ok.2.1 (b42 B1.1) E2))
  exact ⟨r, M1, M2, E1, E2, B1.1, ⟨z, y, l, lb, lt, T, X, PI, B2, hN, K2 C1, D2 D1, R2, I2⟩⟩
set_option maxRecDepth 200000 in
theorem pj_23 {x1 x2 : Int32} (hS : SV7 M) : ∃ r M1 M2, Ev none 999 105 0 [some (.ref 0), some (.int x1), some (.int x2), none, none, none, none] [] M (some (.int r)) M1 0 0 ∧ Ev none 999 232 0 [some (.ref 633), some (.int x1), some (.int x2), none, none, none, none] [] M1 (some (.int r)) M2 0 0 ∧ INV M1 ∧ SV7 M2 := by
  obtain ⟨z, y, l, lb, lt, T, P, PI, hB, hN, hC, hD, hR, hI⟩ := hS
  obtain ⟨v1, M1, y1, E1, s1, F1, B1, f1, R1, I1⟩ := rel_c7 (cn := kX10_wait) (k := 7) (ws := [.ref 0, .int x1, .int x2]) false false kX10_wait_ok (by decide +kernel) (by decide +kernel) (by decide) (Two.mk rfl (Two.mk ⟨x1, rfl, i32_any x1⟩ (Two.mk ⟨x2, rfl, i32_any x2⟩ trivial))) hB hR hI
  cases f1 rfl
  have D1 : TXd M1 := hD.frm hB.1.1.sh F1 (by decide +kernel)
  have S1 : SQ M1 := ⟨B1.1.1.sh, B1.2.1⟩
  obtain ⟨v2, M2, y2, E2, s2, F2, B2, f2, K2, D2⟩ := rel_r7 (cn := kX11_wait) (k := 7) (ws := [.ref 633, .int x1, .int x2]) false false kX11_wait_ok (by decide +kernel) (by decide +kernel) (by decide) (Two.mk rfl (Two.mk ⟨x1, rfl, i32_any x1⟩ (Two.mk ⟨x2, rfl, i32_any x2⟩ trivial))) B1
  cases f2 rfl
  have S2 : SQ M2 := ⟨B2.1.1.sh, B2.2.1⟩
  have I2 : RIM PI M2 := I1.frm B1.1.1.sh F2 (by decide +kernel)
  obtain ⟨r, X, rfl, rfl, C1, R2⟩ := al2 (C := fun X => CST T X PI M1) (R := fun X => RST T X M2) (fun a b => b a) (mC (wait_ok hC hB.1 (by decide) E1)) (mTr (rwait_ok R1 hC.ok.1 hC.ok.2.1 (b42 B1.1) E2))
  exact ⟨r, M1, M2, E1, E2, B1.1, ⟨z, y, l, lb, lt, T, X, PI, B2, hN, K2 C1, D2 D1, R2, I2⟩⟩
set_option maxRecDepth 200000 in
theorem pj_25 {x1 : Int32} (hS : SV7 M) : ∃ r1 r2 M1 M2, Ev none 999 113 0 [some (.ref 0), some (.int x1)] [] M (some (.int r1)) M1 0 0 ∧ Ev none 999 236 0 [some (.ref 633), some (.int x1)] [] M1 (some (.int r2)) M2 0 0 ∧ INV M1 ∧ SV7 M2 := by
  obtain ⟨z, y, l, lb, lt, T, P, PI, hB, hN, hC, hD, hR, hI⟩ := hS
  obtain ⟨v1, M1, y1, E1, s1, F1, B1, f1, R1, I1⟩ := rel_c7 (cn := kX10_fenceAt) (k := 2) (ws := [.ref 0, .int x1]) false false kX10_fenceAt_ok (by decide +kernel) (by decide +kernel) (by decide) (Two.mk rfl (Two.mk ⟨x1, rfl, i32_any x1⟩ trivial)) hB hR hI
  cases f1 rfl
  have D1 : TXd M1 := hD.frm hB.1.1.sh F1 (by decide +kernel)
  have S1 : SQ M1 := ⟨B1.1.1.sh, B1.2.1⟩
  obtain ⟨v2, M2, y2, E2, s2, F2, B2, f2, K2, D2⟩ := rel_r7 (cn := kX11_fenceAt) (k := 2) (ws := [.ref 633, .int x1]) false false kX11_fenceAt_ok (by decide +kernel) (by decide +kernel) (by decide) (Two.mk rfl (Two.mk ⟨x1, rfl, i32_any x1⟩ trivial)) B1
  cases f2 rfl
  have S2 : SQ M2 := ⟨B2.1.1.sh, B2.2.1⟩
  have I2 : RIM PI M2 := I1.frm B1.1.1.sh F2 (by decide +kernel)
  have C1 : CST T P PI M1 := hC.frm S1 F1 (by decide +kernel)
  have R2 : RST T P M2 := R1.frm S2 F2 (by decide +kernel)
  obtain ⟨r1, rfl⟩ := ret_i (by decide) s1
  obtain ⟨r2, rfl⟩ := ret_i (by decide) s2
  exact ⟨r1, r2, M1, M2, E1, E2, B1.1, ⟨z, y, l, lb, lt, T, P, PI, B2, hN, K2 C1, D2 D1, R2, I2⟩⟩
set_option maxRecDepth 200000 in
theorem pj_26 {x1 x2 x3 x4 : Int32} (hS : SV7 M) : ∃ r M1 M2, Ev none 999 114 0 [some (.ref 0), some (.int x1), some (.int x2), some (.int x3), some (.int x4), none] [] M (some (.int r)) M1 0 0 ∧ Ev none 999 237 0 [some (.ref 633), some (.int x1), some (.int x2), some (.int x3), some (.int x4), none, none] [] M1 (some (.int r)) M2 0 0 ∧ INV M1 ∧ SV7 M2 := by
  obtain ⟨z, y, l, lb, lt, T, P, PI, hB, hN, hC, hD, hR, hI⟩ := hS
  obtain ⟨v1, M1, y1, E1, s1, F1, B1, f1, R1, I1⟩ := rel_c7 (cn := kX10_lasts) (k := 6) (ws := [.ref 0, .int x1, .int x2, .int x3, .int x4]) false false kX10_lasts_ok (by decide +kernel) (by decide +kernel) (by decide) (Two.mk rfl (Two.mk ⟨x1, rfl, i32_any x1⟩ (Two.mk ⟨x2, rfl, i32_any x2⟩ (Two.mk ⟨x3, rfl, i32_any x3⟩ (Two.mk ⟨x4, rfl, i32_any x4⟩ trivial))))) hB hR hI
  cases f1 rfl
  have D1 : TXd M1 := hD.frm hB.1.1.sh F1 (by decide +kernel)
  have S1 : SQ M1 := ⟨B1.1.1.sh, B1.2.1⟩
  obtain ⟨v2, M2, y2, E2, s2, F2, B2, f2, K2, D2⟩ := rel_r7 (cn := kX11_lasts) (k := 7) (ws := [.ref 633, .int x1, .int x2, .int x3, .int x4]) false false kX11_lasts_ok (by decide +kernel) (by decide +kernel) (by decide) (Two.mk rfl (Two.mk ⟨x1, rfl, i32_any x1⟩ (Two.mk ⟨x2, rfl, i32_any x2⟩ (Two.mk ⟨x3, rfl, i32_any x3⟩ (Two.mk ⟨x4, rfl, i32_any x4⟩ trivial))))) B1
  cases f2 rfl
  have S2 : SQ M2 := ⟨B2.1.1.sh, B2.2.1⟩
  have I2 : RIM PI M2 := I1.frm B1.1.1.sh F2 (by decide +kernel)
  obtain ⟨r, X, rfl, rfl, C1, R2⟩ := al2 (C := fun X => CST T X PI M1) (R := fun X => RST T X M2) (fun a b => b a) (lasts_ok hC E1) (rlasts_ok R1 hC.ok.1 hC.ok.2.1 (b42 B1.1) E2)
  exact ⟨r, M1, M2, E1, E2, B1.1, ⟨z, y, l, lb, lt, T, X, PI, B2, hN, K2 C1, D2 D1, R2, I2⟩⟩
set_option maxRecDepth 200000 in
theorem pj_28 {x1 : Int32} (hS : SV7 M) : ∃ r1 r2 M1 M2, Ev none 999 116 0 [some (.ref 0), some (.int x1)] [] M (some (.int r1)) M1 0 0 ∧ Ev none 999 241 0 [some (.ref 633), some (.int x1)] [] M1 (some (.int r2)) M2 0 0 ∧ INV M1 ∧ SV7 M2 := by
  obtain ⟨z, y, l, lb, lt, T, P, PI, hB, hN, hC, hD, hR, hI⟩ := hS
  obtain ⟨v1, M1, y1, E1, s1, F1, B1, f1, R1, I1⟩ := rel_c7 (cn := kX10_wayAt) (k := 2) (ws := [.ref 0, .int x1]) false false kX10_wayAt_ok (by decide +kernel) (by decide +kernel) (by decide) (Two.mk rfl (Two.mk ⟨x1, rfl, i32_any x1⟩ trivial)) hB hR hI
  cases f1 rfl
  have D1 : TXd M1 := hD.frm hB.1.1.sh F1 (by decide +kernel)
  have S1 : SQ M1 := ⟨B1.1.1.sh, B1.2.1⟩
  obtain ⟨v2, M2, y2, E2, s2, F2, B2, f2, K2, D2⟩ := rel_r7 (cn := kX11_wayAt) (k := 2) (ws := [.ref 633, .int x1]) false false kX11_wayAt_ok (by decide +kernel) (by decide +kernel) (by decide) (Two.mk rfl (Two.mk ⟨x1, rfl, i32_any x1⟩ trivial)) B1
  cases f2 rfl
  have S2 : SQ M2 := ⟨B2.1.1.sh, B2.2.1⟩
  have I2 : RIM PI M2 := I1.frm B1.1.1.sh F2 (by decide +kernel)
  have C1 : CST T P PI M1 := hC.frm S1 F1 (by decide +kernel)
  have R2 : RST T P M2 := R1.frm S2 F2 (by decide +kernel)
  obtain ⟨r1, rfl⟩ := ret_i (by decide) s1
  obtain ⟨r2, rfl⟩ := ret_i (by decide) s2
  exact ⟨r1, r2, M1, M2, E1, E2, B1.1, ⟨z, y, l, lb, lt, T, P, PI, B2, hN, K2 C1, D2 D1, R2, I2⟩⟩
set_option maxRecDepth 200000 in
theorem pj_29 (hS : SV7 M) : ∃ r1 r2 M1 M2, Ev none 999 117 0 [some (.ref 0), none] [] M (some (.int r1)) M1 0 0 ∧ Ev none 999 242 0 [some (.ref 633), none, none, none, none, none, none] [] M1 (some (.int r2)) M2 0 0 ∧ INV M1 ∧ SV7 M2 := by
  obtain ⟨z, y, l, lb, lt, T, P, PI, hB, hN, hC, hD, hR, hI⟩ := hS
  obtain ⟨v1, M1, y1, E1, s1, F1, B1, f1, R1, I1⟩ := rel_c7 (cn := kX10_read) (k := 2) (ws := [.ref 0]) true false kX10_read_ok (by decide +kernel) (by decide +kernel) (by decide) (Two.mk rfl trivial) hB hR hI
  cases f1 rfl
  have D1 : TXd M1 := hD.frm hB.1.1.sh F1 (by decide +kernel)
  have S1 : SQ M1 := ⟨B1.1.1.sh, B1.2.1⟩
  obtain ⟨v2, M2, y2, E2, s2, F2, B2, f2, K2, D2⟩ := rel_r7 (cn := kX11_read_) (k := 7) (ws := [.ref 633]) true false kX11_read__ok (by decide +kernel) (by decide +kernel) (by decide) (Two.mk rfl trivial) B1
  cases f2 rfl
  have S2 : SQ M2 := ⟨B2.1.1.sh, B2.2.1⟩
  have I2 : RIM PI M2 := I1.frm B1.1.1.sh F2 (by decide +kernel)
  have C1 : CST T P PI M1 := (readS_ok hC hB.1 (by decide) E1).1
  have R2 : RST T P M2 := R1.frm S2 F2 (by decide +kernel)
  obtain ⟨r1, rfl⟩ := ret_i (by decide) s1
  obtain ⟨r2, rfl⟩ := ret_i (by decide) s2
  exact ⟨r1, r2, M1, M2, E1, E2, B1.1, ⟨0, y, l, lb, lt, T, P, PI, B2, fun k hk => absurd hk (Nat.not_lt_zero k), K2 C1, D2 D1, R2, I2⟩⟩
set_option maxRecDepth 200000 in
theorem pj_30 {x1 x2 : Int32} (hS : SV7 M) : ∃ r1 r2 M1 M2, Ev none 999 119 0 [some (.ref 0), some (.int x1), some (.int x2)] [] M (some (.int r1)) M1 0 0 ∧ Ev none 999 244 0 [some (.ref 633), some (.int x1), some (.int x2)] [] M1 (some (.int r2)) M2 0 0 ∧ INV M1 ∧ SV7 M2 := by
  obtain ⟨z, y, l, lb, lt, T, P, PI, hB, hN, hC, hD, hR, hI⟩ := hS
  obtain ⟨v1, M1, y1, E1, s1, F1, B1, f1, R1, I1⟩ := rel_c7 (cn := kX10_reads) (k := 3) (ws := [.ref 0, .int x1, .int x2]) false false kX10_reads_ok (by decide +kernel) (by decide +kernel) (by decide) (Two.mk rfl (Two.mk ⟨x1, rfl, i32_any x1⟩ (Two.mk ⟨x2, rfl, i32_any x2⟩ trivial))) hB hR hI
  cases f1 rfl
  have D1 : TXd M1 := hD.frm hB.1.1.sh F1 (by decide +kernel)
  have S1 : SQ M1 := ⟨B1.1.1.sh, B1.2.1⟩
  obtain ⟨v2, M2, y2, E2, s2, F2, B2, f2, K2, D2⟩ := rel_r7 (cn := kX11_reads) (k := 3) (ws := [.ref 633, .int x1, .int x2]) false false kX11_reads_ok (by decide +kernel) (by decide +kernel) (by decide) (Two.mk rfl (Two.mk ⟨x1, rfl, i32_any x1⟩ (Two.mk ⟨x2, rfl, i32_any x2⟩ trivial))) B1
  cases f2 rfl
  have S2 : SQ M2 := ⟨B2.1.1.sh, B2.2.1⟩
  have I2 : RIM PI M2 := I1.frm B1.1.1.sh F2 (by decide +kernel)
  have C1 : CST T P PI M1 := hC.frm S1 F1 (by decide +kernel)
  have R2 : RST T P M2 := R1.frm S2 F2 (by decide +kernel)
  obtain ⟨r1, rfl⟩ := ret_i (by decide) s1
  obtain ⟨r2, rfl⟩ := ret_i (by decide) s2
  exact ⟨r1, r2, M1, M2, E1, E2, B1.1, ⟨z, y, l, lb, lt, T, P, PI, B2, hN, K2 C1, D2 D1, R2, I2⟩⟩
set_option maxRecDepth 200000 in
theorem pj_31 {x1 x2 : Int32} (hS : SV7 M) : ∃ r1 r2 M1 M2, Ev none 999 120 0 [some (.ref 0), some (.int x1), some (.int x2), none] [] M (some (.int r1)) M1 0 0 ∧ Ev none 999 245 0 [some (.ref 633), some (.int x1), some (.int x2), none, none, none, none] [] M1 (some (.int r2)) M2 0 0 ∧ INV M1 ∧ SV7 M2 := by
  obtain ⟨z, y, l, lb, lt, T, P, PI, hB, hN, hC, hD, hR, hI⟩ := hS
  obtain ⟨v1, M1, y1, E1, s1, F1, B1, f1, R1, I1⟩ := rel_c7 (cn := kX10_fits) (k := 4) (ws := [.ref 0, .int x1, .int x2]) true false kX10_fits_ok (by decide +kernel) (by decide +kernel) (by decide) (Two.mk rfl (Two.mk ⟨x1, rfl, i32_any x1⟩ (Two.mk ⟨x2, rfl, i32_any x2⟩ trivial))) hB hR hI
  cases f1 rfl
  have D1 : TXd M1 := hD.frm hB.1.1.sh F1 (by decide +kernel)
  have S1 : SQ M1 := ⟨B1.1.1.sh, B1.2.1⟩
  obtain ⟨v2, M2, y2, E2, s2, F2, B2, f2, K2, D2⟩ := rel_r7 (cn := kX11_fits) (k := 7) (ws := [.ref 633, .int x1, .int x2]) true false kX11_fits_ok (by decide +kernel) (by decide +kernel) (by decide) (Two.mk rfl (Two.mk ⟨x1, rfl, i32_any x1⟩ (Two.mk ⟨x2, rfl, i32_any x2⟩ trivial))) B1
  cases f2 rfl
  have S2 : SQ M2 := ⟨B2.1.1.sh, B2.2.1⟩
  have I2 : RIM PI M2 := I1.frm B1.1.1.sh F2 (by decide +kernel)
  have C1 : CST T P PI M1 := (fitsS_ok hC hB.1 (by decide) E1).1
  have R2 : RST T P M2 := R1.frm S2 F2 (by decide +kernel)
  obtain ⟨r1, rfl⟩ := ret_i (by decide) s1
  obtain ⟨r2, rfl⟩ := ret_i (by decide) s2
  exact ⟨r1, r2, M1, M2, E1, E2, B1.1, ⟨0, y, l, lb, lt, T, P, PI, B2, fun k hk => absurd hk (Nat.not_lt_zero k), K2 C1, D2 D1, R2, I2⟩⟩
set_option maxRecDepth 200000 in
theorem pj_34 {x1 : Int32} (hS : SV7 M) : ∃ r M1 M2, Ev none 999 125 0 [some (.ref 0), some (.int x1)] [] M (some (.int r)) M1 0 0 ∧ Ev none 999 248 0 [some (.ref 633), some (.int x1), none, none] [] M1 (some (.int r)) M2 0 0 ∧ INV M1 ∧ SV7 M2 := by
  obtain ⟨z, y, l, lb, lt, T, P, PI, hB, hN, hC, hD, hR, hI⟩ := hS
  obtain ⟨v1, M1, y1, E1, s1, F1, B1, f1, R1, I1⟩ := rel_c7 (cn := kX10_count) (k := 2) (ws := [.ref 0, .int x1]) false false kX10_count_ok (by decide +kernel) (by decide +kernel) (by decide) (Two.mk rfl (Two.mk ⟨x1, rfl, i32_any x1⟩ trivial)) hB hR hI
  cases f1 rfl
  have D1 : TXd M1 := hD.frm hB.1.1.sh F1 (by decide +kernel)
  have S1 : SQ M1 := ⟨B1.1.1.sh, B1.2.1⟩
  obtain ⟨v2, M2, y2, E2, s2, F2, B2, f2, K2, D2⟩ := rel_r7 (cn := kX11_count) (k := 4) (ws := [.ref 633, .int x1]) false false kX11_count_ok (by decide +kernel) (by decide +kernel) (by decide) (Two.mk rfl (Two.mk ⟨x1, rfl, i32_any x1⟩ trivial)) B1
  cases f2 rfl
  have S2 : SQ M2 := ⟨B2.1.1.sh, B2.2.1⟩
  have I2 : RIM PI M2 := I1.frm B1.1.1.sh F2 (by decide +kernel)
  obtain ⟨rfl, C1⟩ := (hB.2.2.1.zi ▸ count_ok hC E1 : v1 = some (.int (couA P z x1)) ∧ CST T P PI M1)
  obtain ⟨rfl, R2⟩ := (B1.2.2.2.1.zi ▸ rcount_ok R1 hC.ok.1 E2 : v2 = some (.int (couA P z x1)) ∧ RST T P M2)
  exact ⟨_, M1, M2, E1, E2, B1.1, ⟨z, y, l, lb, lt, T, _, PI, B2, hN, K2 C1, D2 D1, R2, I2⟩⟩
theorem B6.cfr {md : Md} {z2 : Int32} {lb2 : List Int32} (h : B6 z w y q l lb lt M) (h2 : INV M') (hF : Frm sT md M M') (hC : LC z2 M') (hP : BC lb2 M') (hB : ((!mdIn md 11 2) && ((!mdIn md 1057 0) && ((!mdIn md 1066 0) && ((!mdIn md 1062 0) && ((!mdIn md 10 15) && ((!mdIn md 11 26) && fxM md)))))) = true) : B6 z2 w y q l lb2 lt M' := by
  obtain ⟨hV, hX, _, hR, hK, hL, _, hQ, hF0, hG⟩ := h
  obtain ⟨b1, hB⟩ := and_t hB
  obtain ⟨b2, hB⟩ := and_t hB
  obtain ⟨b3, hB⟩ := and_t hB
  obtain ⟨b4, hB⟩ := and_t hB
  obtain ⟨b5, hB⟩ := and_t hB
  obtain ⟨b6, b7⟩ := and_t hB
  exact ⟨h2, hX.frm hV.1.sh hF b7, hC, hR.frm hF (md_no b1), hK.frm hF (md_no b2), hL.frm hF (md_no b3), hP, hQ.frm hF (md_no b4), hF0.frm hF (md_no b5), hG.frm hF (md_no b6)⟩
theorem B6.rfr {md : Md} {w2 : Int32} {lt2 : List Int32} (h : B6 z w y q l lb lt M) (h2 : INV M') (hF : Frm sT md M M') (hR : LR w2 M') (hQ : BR lt2 M') (hB : ((!mdIn md 5 1) && ((!mdIn md 1057 0) && ((!mdIn md 1066 0) && ((!mdIn md 1002 0) && ((!mdIn md 10 15) && ((!mdIn md 11 26) && fxM md)))))) = true) : B6 z w2 y q l lb lt2 M' := by
  obtain ⟨hV, hX, hC, _, hK, hL, hP, _, hF0, hG⟩ := h
  obtain ⟨b1, hB⟩ := and_t hB
  obtain ⟨b2, hB⟩ := and_t hB
  obtain ⟨b3, hB⟩ := and_t hB
  obtain ⟨b4, hB⟩ := and_t hB
  obtain ⟨b5, hB⟩ := and_t hB
  obtain ⟨b6, b7⟩ := and_t hB
  exact ⟨h2, hX.frm hV.1.sh hF b7, hC.frm hF (md_no b1), hR, hK.frm hF (md_no b2), hL.frm hF (md_no b3), hP.frm hF (md_no b4), hQ, hF0.frm hF (md_no b5), hG.frm hF (md_no b6)⟩
theorem B6.sq (h : B6 z w y q l lb lt M) : SQ M := ⟨h.1.1.sh, h.2.1⟩
/-! feed, end -/
set_option maxRecDepth 200000 in
theorem pj_0 {x1 x2 x3 x4 x5 : Int32} (hS : SV7 M) : ∃ r M1 M2, Ev none 999 80 0 [some (.ref 0), some (.int x1), some (.int x2), some (.int x3), some (.int x4), some (.int x5)] [] M (some (.int r)) M1 0 0 ∧ Ev none 999 136 0 [some (.ref 633), some (.int x1), some (.int x2), some (.int x3), some (.int x4), some (.int x5)] [] M1 (some (.int r)) M2 0 0 ∧ INV M1 ∧ SV7 M2 := by
  obtain ⟨z, y, l, lb, lt, T, P, PI, hB, hN, hC, hD, hR, hI⟩ := hS
  have hz8 := hB.2.2.1.rng hB.1.1
  have hz9 : z.toInt = (z.toInt.toNat : Int) := by omega
  obtain ⟨M1, E1, V1, F1, z1, b1⟩ := ev_feedC4 (e := 998) (x1 := x1) (x2 := x2) (x3 := x3) (x4 := x4) (x5 := x5) hB.1 hB.2.2.1 hB.2.2.2.2.2.2.1
  have B1 := hB.cfr V1 F1 z1 b1 (by decide +kernel)
  obtain ⟨M2, E2, V2, F2, z2, b2⟩ := ev_feedR4 (e := 998) (x1 := x1) (x2 := x2) (x3 := x3) (x4 := x4) (x5 := x5) B1.1 B1.2.2.2.1 B1.2.2.2.2.2.2.2.1
  have B2 := B1.rfr V2 F2 z2 b2 (by decide +kernel)
  refine ⟨_, M1, M2, E1, E2, V1, ⟨_, y, l, _, _, T, P, PI, B2, fd_ok hN hz9 (hB.2.2.2.2.2.2.1.len hB.1.1) (hB.2.2.2.2.2.2.2.1.len hB.1.1) (by omega), ?_, ?_, ?_, ?_⟩⟩
  · exact (hC.frm B1.sq F1 (by decide +kernel)).frm B2.sq F2 (by decide +kernel)
  · exact (hD.frm hB.1.1.sh F1 (by decide +kernel)).frm B1.1.1.sh F2 (by decide +kernel)
  · exact (hR.frm B1.sq F1 (by decide +kernel)).frm B2.sq F2 (by decide +kernel)
  · exact (hI.frm hB.1.1.sh F1 (by decide +kernel)).frm B1.1.1.sh F2 (by decide +kernel)
set_option maxRecDepth 200000 in
theorem pj_1 {x1 : Int32} (hS : SV7 M) : ∃ r M1 M2, Ev none 999 81 0 [some (.ref 0), some (.int x1)] [] M (some (.int r)) M1 0 0 ∧ Ev none 999 138 0 [some (.ref 633), some (.int x1)] [] M1 (some (.int r)) M2 0 0 ∧ INV M1 ∧ SV7 M2 := by
  obtain ⟨z, y, l, lb, lt, T, P, PI, hB, hN, hC, hD, hR, hI⟩ := hS
  obtain ⟨M1, E1, V1, F1, z1⟩ := ev_endC (e := 998) (x := x1) hB.1 hB.2.2.1
  have B1 := hB.cfr V1 F1 z1 (hB.2.2.2.2.2.2.1.frm F1 (by decide)) (by decide +kernel)
  obtain ⟨M2, E2, V2, F2, z2⟩ := ev_endR (e := 998) (x := x1) B1.1 B1.2.2.2.1
  have B2 := B1.rfr V2 F2 z2 (B1.2.2.2.2.2.2.2.1.frm F2 (by decide)) (by decide +kernel)
  refine ⟨_, M1, M2, E1, E2, V1, ⟨_, y, l, _, _, T, P, PI, B2, hN.end, ?_, ?_, ?_, ?_⟩⟩
  · exact (hC.frm B1.sq F1 (by decide +kernel)).frm B2.sq F2 (by decide +kernel)
  · exact (hD.frm hB.1.1.sh F1 (by decide +kernel)).frm B1.1.1.sh F2 (by decide +kernel)
  · exact (hR.frm B1.sq F1 (by decide +kernel)).frm B2.sq F2 (by decide +kernel)
  · exact (hI.frm hB.1.1.sh F1 (by decide +kernel)).frm B1.1.1.sh F2 (by decide +kernel)
/-! park -/
theorem bl_rng {n k : Nat} (hN : BBp n lb lt) (hk : k < n) : 0 ≤ (bL lt k).toInt ∧ (bL lt k).toInt < 256 := by
  unfold bL
  have e : ∀ x : Int32, 0 ≤ (x &&& 255).toInt ∧ (x &&& 255).toInt < 256 := fun x => by
    have h := and_255 x
    omega
  exact e _
set_option maxRecDepth 200000 in
theorem pj_2 {x1 x2 : Int32} (hS : SV7 M) : ∃ r M1 M2, Ev none 999 82 0 [some (.ref 0), some (.int x1), some (.int x2), none] [] M (some (.int r)) M1 0 0 ∧ Ev none 999 155 0 [some (.ref 633), some (.int x1), some (.int x2), none] [] M1 (some (.int r)) M2 0 0 ∧ INV M1 ∧ SV7 M2 := by
  obtain ⟨z, y, l, lb, lt, T, P, PI, hB, hN, hC, hD, hR, hI⟩ := hS
  obtain ⟨v1, M1, y1, E1, s1, F1, B1, f1, R1, I1⟩ := rel_c7 (cn := kX10_park) (k := 4) (ws := [.ref 0, .int x1, .int x2]) true false kX10_park_ok (by decide +kernel) (by decide +kernel) (by decide) (Two.mk rfl (Two.mk ⟨x1, rfl, i32_any x1⟩ (Two.mk ⟨x2, rfl, i32_any x2⟩ trivial))) hB hR hI
  cases f1 rfl
  have D1 : TXd M1 := hD.frm hB.1.1.sh F1 (by decide +kernel)
  obtain ⟨v2, M2, y2, E2, s2, F2, B2, f2, K2, D2⟩ := rel_r7 (cn := kX11_park) (k := 4) (ws := [.ref 633, .int x1, .int x2]) true false kX11_park_ok (by decide +kernel) (by decide +kernel) (by decide) (Two.mk rfl (Two.mk ⟨x1, rfl, i32_any x1⟩ (Two.mk ⟨x2, rfl, i32_any x2⟩ trivial))) B1
  cases f2 rfl
  have I2 : RIM PI M2 := I1.frm B1.1.1.sh F2 (by decide +kernel)
  have ez := hB.2.2.1.zi
  have hz8 := hB.2.2.1.rng hB.1.1
  have ew := B1.2.2.2.1.zi
  have hbl := hB.2.2.2.2.2.2.1.bl hN
  have hbr := B1.2.2.2.2.2.2.2.1.bl
  have C := park_ok hC (fun k hk => by
    rw [ez] at hk
    have e : rN M 2 k = bL lt k := hbl k hk
    rw [e]
    exact bl_rng hN hk) E1
  have R := rpark_ok (o := rN M 2) (n := z.toInt.toNat) R1 (by rw [ew]; omega) (fun k hk => by
    have e : rN M 2 k = bL lt k := hbl k hk
    rw [e]
    exact congrFun hbr k) E2
  rw [ez] at C
  rw [ew] at R
  obtain ⟨r, X, rfl, rfl, C1, R2⟩ := al2 (C := fun X => CST T X PI M1) (R := fun X => RST T X M2) (fun a b => a b) C R
  exact ⟨r, M1, M2, E1, E2, B1.1, ⟨0, y, l, lb, lt, T, X, PI, B2, fun k hk => absurd hk (Nat.not_lt_zero k), K2 C1, D2 D1, R2, I2⟩⟩
/-! fences -/
theorem mF1 {B D : Prop} (h : CST T P PI M ∧ ((A ∧ v = some (.int a) ∧ B) ∨ (A' ∧ v = some (.int b) ∧ D))) : (A ∧ v = some (.int a) ∧ CST T P PI M) ∨ (A' ∧ v = some (.int b) ∧ CST T P PI M) := by
  obtain ⟨h1, h2⟩ := h
  rcases h2 with ⟨h2, h3, _⟩ | ⟨h2, h3, _⟩
  · exact Or.inl ⟨h2, h3, h1⟩
  · exact Or.inr ⟨h2, h3, h1⟩
theorem mF2 {B : Prop} {r : Option (Int32 × Int32 × Int32)} {M0 : Mem} (h : (A ∧ v = some (.int a) ∧ RST T P M ∧ B) ∨ (A' ∧ FRE T P z M0 r v M)) : (A ∧ v = some (.int a) ∧ RST T P M) ∨ (A' ∧ v = some (.int (fenR r)) ∧ RST T P M) := by
  rcases h with ⟨h1, h2, h3, _⟩ | ⟨h1, h2, h3, _⟩
  · exact Or.inl ⟨h1, h2, h3⟩
  · exact Or.inr ⟨h1, h2, h3⟩
set_option maxRecDepth 200000 in
theorem pj_24 {x1 x2 : Int32} (hS : SV7 M) : ∃ r M1 M2, Ev none 999 108 0 [some (.ref 0), some (.int x1), some (.int x2), none] [] M (some (.int r)) M1 0 0 ∧ Ev none 999 235 0 [some (.ref 633), some (.int x1), some (.int x2), none, none, none] [] M1 (some (.int r)) M2 0 0 ∧ INV M1 ∧ SV7 M2 := by
  obtain ⟨z, y, l, lb, lt, T, P, PI, hB, hN, hC, hD, hR, hI⟩ := hS
  obtain ⟨v1, M1, y1, E1, s1, F1, B1, f1, R1, I1⟩ := rel_c7 (cn := kX10_fences) (k := 4) (ws := [.ref 0, .int x1, .int x2]) true false kX10_fences_ok (by decide +kernel) (by decide +kernel) (by decide) (Two.mk rfl (Two.mk ⟨x1, rfl, i32_any x1⟩ (Two.mk ⟨x2, rfl, i32_any x2⟩ trivial))) hB hR hI
  cases f1 rfl
  have D1 : TXd M1 := hD.frm hB.1.1.sh F1 (by decide +kernel)
  obtain ⟨v2, M2, y2, E2, s2, F2, B2, f2, K2, D2⟩ := rel_r7 (cn := kX11_fences) (k := 6) (ws := [.ref 633, .int x1, .int x2]) true false kX11_fences_ok (by decide +kernel) (by decide +kernel) (by decide) (Two.mk rfl (Two.mk ⟨x1, rfl, i32_any x1⟩ (Two.mk ⟨x2, rfl, i32_any x2⟩ trivial))) B1
  cases f2 rfl
  have I2 : RIM PI M2 := I1.frm B1.1.1.sh F2 (by decide +kernel)
  have ez := hB.2.2.1.zi
  have hz8 := hB.2.2.1.rng hB.1.1
  have ew := B1.2.2.2.1.zi
  have hbl := hB.2.2.2.2.2.2.1.bl hN
  have hbr := B1.2.2.2.2.2.2.2.1.bl
  have C := fences_ok (o := rN M 2) (n := z.toInt.toNat) hC (by rw [ez]; omega) (fun _ _ => rfl) E1
  have R := rfences_ok (o := rN M 2) (n := z.toInt.toNat) R1 hC.ok.1 hC.ok.2.1 (b42 B1.1) (by rw [ew]; omega) (fun k hk => by
    have e : rN M 2 k = bL lt k := hbl k hk
    rw [e]
    exact congrFun hbr k) E2
  rw [ez] at C
  rw [ew] at R
  obtain ⟨r, X, rfl, rfl, C1, R2⟩ := al2 (C := fun X => CST T X PI M1) (R := fun X => RST T X M2) (fun a b => b a) (mF1 C) (mF2 R)
  exact ⟨r, M1, M2, E1, E2, B1.1, ⟨0, y, l, lb, lt, T, X, PI, B2, fun k hk => absurd hk (Nat.not_lt_zero k), K2 C1, D2 D1, R2, I2⟩⟩
/-! way -/
theorem wlS_len {hb : Nat} {goal : Int32} : ∀ (r : Nat) (s : Int32 × Int32 × Int32) (l : List Int32), (wlS T P hb goal r s l).1.length ≤ l.length + r := by
  intro r
  induction r with
  | zero => intro s l; exact Nat.le_refl _
  | succ r ih =>
    intro s l
    unfold wlS
    split
    · exact Nat.le_add_right _ _
    · split
      · exact Nat.le_add_right _ _
      · have q := ih (besP P s.1 (choP (T 0) P (T hb) (s.1, goal, s.2.1, s.2.2, true)), choP (T 0) P (T hb) (s.1, goal, s.2.1, s.2.2, true), s.1) (l ++ [besP P s.1 (choP (T 0) P (T hb) (s.1, goal, s.2.1, s.2.2, true))])
        rw [List.length_append] at q
        simp only [List.length_cons, List.length_nil] at q
        omega
theorem unD_of (hV : INV M) (hR : RST T P M) : unD P := by
  obtain ⟨t, l, e, _, hd⟩ := fl0_28 (hV.2 28 (by simp))
  have er : ∀ i x, i < 2314 → gNth l i = some x → x = P i := fun i x hi hx => by
    have q := hR.2.1 i hi
    unfold rN zrw at q
    rw [e] at q
    dsimp only at q
    rw [hx] at q
    exact q
  have len : l.length = 2314 := by
    have q := (hR.1.1.row qa_635 qw_63).2
    unfold zrw at q
    rw [e] at q
    exact q
  have at_ : ∀ i, i < 2314 → gNth l i = some (P i) := fun i hi => by
    obtain ⟨x, hx⟩ : ∃ x, gNth l i = some x := by
      rw [nth_eq]
      exact ⟨_, List.getElem?_eq_getElem (by omega)⟩
    rw [hx, er i x hi hx]
  obtain ⟨n9, h⟩ := hd _ _ _ (at_ 0 (by decide)) (at_ 1 (by decide)) (at_ 2 (by decide))
  intro i j hi hj q
  obtain ⟨a, b, ha, hb, _, hne⟩ := h i j hi hj
  rw [at_ _ (by omega)] at ha hb
  cases ha
  cases hb
  exact Classical.not_not.mp (fun r => hne r q)
set_option maxRecDepth 200000 in
theorem pj_27 {x1 x2 x3 : Int32} (hS : SV7 M) : ∃ r M1 M2, Ev none 999 115 0 [some (.ref 0), some (.int x1), some (.int x2), some (.int x3), none] [] M (some (.int r)) M1 0 0 ∧ Ev none 999 240 0 [some (.ref 633), some (.int x1), some (.int x2), some (.int x3), none, none] [] M1 (some (.int r)) M2 0 0 ∧ INV M1 ∧ SV7 M2 := by
  obtain ⟨z, y, l, lb, lt, T, P, PI, hB, hN, hC, hD, hR, hI⟩ := hS
  obtain ⟨v1, M1, y1, E1, s1, F1, B1, f1, R1, I1⟩ := rel_c7 (cn := kX10_way) (k := 5) (ws := [.ref 0, .int x1, .int x2, .int x3]) false false kX10_way_ok (by decide +kernel) (by decide +kernel) (by decide) (Two.mk rfl (Two.mk ⟨x1, rfl, i32_any x1⟩ (Two.mk ⟨x2, rfl, i32_any x2⟩ (Two.mk ⟨x3, rfl, i32_any x3⟩ trivial)))) hB hR hI
  cases f1 rfl
  have D1 : TXd M1 := hD.frm hB.1.1.sh F1 (by decide +kernel)
  obtain ⟨v2, M2, y2, E2, s2, F2, B2, f2, K2, D2⟩ := rel_r7 (cn := kX11_way) (k := 6) (ws := [.ref 633, .int x1, .int x2, .int x3]) false false kX11_way_ok (by decide +kernel) (by decide +kernel) (by decide) (Two.mk rfl (Two.mk ⟨x1, rfl, i32_any x1⟩ (Two.mk ⟨x2, rfl, i32_any x2⟩ (Two.mk ⟨x3, rfl, i32_any x3⟩ trivial)))) B1
  cases f2 rfl
  have I2 : RIM PI M2 := I1.frm B1.1.1.sh F2 (by decide +kernel)
  obtain ⟨C1, C⟩ := way_ok hC hB.1 (by decide) E1
  obtain ⟨R2, R⟩ := rway_ok R1 hC.ok.1 hC.ok.2.1 (unD_of B1.1 R1) (by unfold wayL; exact Nat.le_trans (wlS_len _ _ _) (Nat.le_refl 201)) E2
  have er : ∃ r, v1 = some (.int r) ∧ v2 = some (.int r) := by
    rcases C with ⟨c1, e1, _⟩ | ⟨c1, n1, _, e1⟩ <;> rcases R with ⟨c2, e2, _⟩ | ⟨c2, n2, _, e2⟩
    · exact ⟨_, e1, e2⟩
    · exact absurd c1 c2
    · exact absurd c2 c1
    · rcases e1 with ⟨w1, e1⟩ | ⟨w1, e1⟩ <;> rcases e2 with ⟨w2, y2, e2, l2⟩ | ⟨w2, e2⟩
      · refine ⟨_, e1, ?_⟩
        rw [e2]
        exact congrArg (fun q => some (Value.int q)) (Int32.toInt_inj.mp (by omega))
      · rw [w1] at w2; cases w2
      · rw [w1] at w2; cases w2
      · exact ⟨_, e1, e2⟩
  obtain ⟨r, rfl, rfl⟩ := er
  exact ⟨r, M1, M2, E1, E2, B1.1, ⟨z, y, l, lb, lt, T, P, PI, B2, hN, K2 C1, D2 D1, R2, I2⟩⟩
/-! law, habit -/
theorem B6.fc {y2 : Int32} (h : B6 z w y q l lb lt M) (hF : FCq y2 M) : B6 z w y2 q l lb lt M := by
  obtain ⟨a1, a2, a3, a4, a5, a6, a7, a8, _, a9⟩ := h
  exact ⟨a1, a2, a3, a4, a5, a6, a7, a8, hF, a9⟩
theorem B6.fr {q2 : Int32} (h : B6 z w y q l lb lt M) (hF : FRq q2 M) : B6 z w y q2 l lb lt M := by
  obtain ⟨a1, a2, a3, a4, a5, a6, a7, a8, a9, _⟩ := h
  exact ⟨a1, a2, a3, a4, a5, a6, a7, a8, a9, hF⟩
noncomputable def c8B (cn : CN) : Bool := ((invC cn && relC true cn) && byB cn) && (!mdIn cn.2.2.2.2.2.1 11 26 && (fxM cn.2.2.2.2.2.1 && (rstB cn.2.2.2.2.2.1 && rimB cn.2.2.2.2.2.1)))
set_option maxRecDepth 200000 in
theorem pj_4 (hS : SV7 M) : ∃ r M1 M2, Ev none 999 85 0 [some (.ref 0), none, none] [] M (some (.int r)) M1 0 0 ∧ Ev none 999 183 0 [some (.ref 633), none] [] M1 (some (.int r)) M2 0 0 ∧ INV M1 ∧ SV7 M2 := by
  obtain ⟨z, y, l, lb, lt, T, P, PI, hB, hN, hC, hD, hR, hI⟩ := hS
  obtain ⟨v1, M1, y1, E1, s1, F1, B1, f1, R1, I1⟩ := rel_c7 (cn := kX10_law) (k := 3) (ws := [.ref 0]) true true kX10_law_ok (by decide +kernel) (by decide +kernel) (by decide) (Two.mk rfl trivial) hB hR hI
  obtain ⟨v2, M2, y2, E2, s2, F2, B2, f2, K2, D2⟩ := rel_r7 (cn := kX11_law) (k := 2) (ws := [.ref 633]) true true kX11_law_ok (by decide +kernel) (by decide +kernel) (by decide) (Two.mk rfl trivial) B1
  have I2 : RIM PI M2 := I1.frm B1.1.1.sh F2 (by decide +kernel)
  have hz := hB.2.2.1.rng hB.1.1
  obtain ⟨⟨r1, e1, a1⟩, C1, D1, q1⟩ := lawS_ok (e := 996) (n := z.toInt.toNat) (B := bL lt) hC hD (by rw [hB.2.2.1.zi]; omega) (by omega) (hB.2.2.2.2.2.2.1.bl hN) E1
  have hbr := B1.2.2.2.2.2.2.2.1.bl
  obtain ⟨⟨r2, e2, a2⟩, R2⟩ := rlawS_ok (e := 996) (n := z.toInt.toNat) R1 (by omega) (by rw [B1.2.2.2.1.zi]; omega) (by omega) (by rw [hbr]; exact q1) E2
  rw [hbr] at a2 R2
  obtain ⟨_, _, _, g1⟩ := law6C hB.1 hB.2.1 hB.2.2.1 hB.2.2.2.2.2.2.1 hN E1
  obtain ⟨_, _, _, g2⟩ := law6R B1.1 B1.2.1 hz B1.2.2.2.1 B1.2.2.2.2.2.2.2.1 E2
  have er : r1 = r2 := Int32.toInt_inj.mp (a1.trans a2.symm)
  subst er e1 e2
  have g3 : FCq (fltB (RDl lt z true)) M2 := g1.frm F2 (md_no (by decide +kernel))
  exact ⟨r1, M1, M2, E1, E2, B1.1, ⟨0, fltB (RDl lt z true), l, lb, lt, _, P, PI, (B2.fc g3).fr g2, fun k hk => absurd hk (Nat.not_lt_zero k), K2 C1, D2 D1, R2, I2⟩⟩
set_option maxRecDepth 200000 in
theorem pj_5 {x1 : Int32} (hS : SV7 M) : ∃ r M1 M2, Ev none 999 86 0 [some (.ref 0), some (.int x1), none, none] [] M (some (.int r)) M1 0 0 ∧ Ev none 999 184 0 [some (.ref 633), some (.int x1)] [] M1 (some (.int r)) M2 0 0 ∧ INV M1 ∧ SV7 M2 := by
  obtain ⟨z, y, l, lb, lt, T, P, PI, hB, hN, hC, hD, hR, hI⟩ := hS
  obtain ⟨v1, M1, y1, E1, s1, F1, B1, f1, R1, I1⟩ := rel_c7 (cn := kX10_habit) (k := 4) (ws := [.ref 0, .int x1]) true true kX10_habit_ok (by decide +kernel) (by decide +kernel) (by decide) (Two.mk rfl (Two.mk ⟨x1, rfl, i32_any x1⟩ trivial)) hB hR hI
  obtain ⟨v2, M2, y2, E2, s2, F2, B2, f2, K2, D2⟩ := rel_r7 (cn := kX11_habit) (k := 2) (ws := [.ref 633, .int x1]) true true kX11_habit_ok (by decide +kernel) (by decide +kernel) (by decide) (Two.mk rfl (Two.mk ⟨x1, rfl, i32_any x1⟩ trivial)) B1
  have I2 : RIM PI M2 := I1.frm B1.1.1.sh F2 (by decide +kernel)
  have hz := hB.2.2.1.rng hB.1.1
  have hbr := B1.2.2.2.2.2.2.2.1.bl
  obtain ⟨r3, e3, a3, g1⟩ := hab6C (x := x1) hB.1 hB.2.1 hB.2.2.1 hB.2.2.2.2.2.2.1 hN hB.2.2.2.2.2.2.2.2.1 E1
  obtain ⟨r4, e4, a4, g2⟩ := hab6R (x := x1) B1.1 B1.2.1 hz B1.2.2.2.1 B1.2.2.2.2.2.2.2.1 B1.2.2.2.2.2.2.2.2.2 E2
  have er : r3 = r4 := Int32.toInt_inj.mp (a3.trans a4.symm)
  subst er
  have g3 : FCq (hbF lt z x1 y) M2 := g1.frm F2 (md_no (by decide +kernel))
  have fin : ∀ T', CST T' P PI M1 → TXd M1 → RST T' P M2 → ∃ r M1 M2, Ev none 999 86 0 [some (.ref 0), some (.int x1), none, none] [] M (some (.int r)) M1 0 0 ∧ Ev none 999 184 0 [some (.ref 633), some (.int x1)] [] M1 (some (.int r)) M2 0 0 ∧ INV M1 ∧ SV7 M2 := fun T' C1 D1 R2 => by
    rw [e3] at E1
    rw [e4] at E2
    exact ⟨r3, M1, M2, E1, E2, B1.1, ⟨0, hbF lt z x1 y, l, lb, lt, T', P, PI, (B2.fc g3).fr g2, fun k hk => absurd hk (Nat.not_lt_zero k), K2 C1, D2 D1, R2, I2⟩⟩
  by_cases hx : 0 ≤ x1.toInt ∧ x1.toInt ≤ 5
  · obtain ⟨_, C1, D1, q1⟩ := habS_ok (e := 996) (n := z.toInt.toNat) (B := bL lt) hC hD hx (by rw [hB.2.2.1.zi]; omega) (by omega) (hB.2.2.2.2.2.2.1.bl hN) E1
    have Z2 := frm_fz B1.1.1.sh F2
    obtain ⟨_, R2⟩ := rhabS_ok (e := 996) (n := z.toInt.toNat) R1 hx (by omega) (by rw [B1.2.2.2.1.zi]; omega) (by omega) (by rw [hbr]; exact q1) E2 (fun k h1 h2 => by
      have hk : k = 28 ∨ k = 29 ∨ k = 30 := by omega
      rcases hk with rfl | rfl | rfl
      · exact Z2.fi (one_F qa_633 qo_61 (by decide +kernel))
      · exact Z2.fi (one_F qa_633 qo_61 (by decide +kernel))
      · exact Z2.fi (one_F qa_633 qo_61 (by decide +kernel)))
    rw [hbr] at R2
    exact fin _ C1 D1 R2
  · obtain ⟨_, m1⟩ := hab_out hC.1 hx E1
    obtain ⟨_, m2⟩ := rhab_out R1.1 hx E2
    refine fin T (by rw [m1]; exact hC.tp) (by rw [m1]; exact hD.same fR_wF fR_wF (fun _ => (show FZ (fun a k => a = 1 ∧ k = 1) noO noO M (wF M 1 1 0) from FZ.wF ⟨rfl, rfl⟩).on (fun q => q))) ?_
    rw [m2]
    unfold X_139
    exact (((R1.w0 0 (by decide) _).w0 3 (by decide) _).w0 2 (by decide) _).w0 4 (by decide) _
/-! image, restore -/
theorem KC.rn {k : Nat} (h : KC l M) : rN M 340 k = (gNth l k).getD 0 := by
  unfold rN zrw
  have h : gNth M 340 = some (.inl (3, .inl l)) := h
  rw [h]
theorem KR.rn {k : Nat} (h : KR l M) : rN M 638 k = (gNth l k).getD 0 := by
  unfold rN zrw
  have h : gNth M 638 = some (.inl (3, .inl l)) := h
  rw [h]
set_option maxRecDepth 200000 in
theorem pj_32 {x1 : Int32} (hS : SV7 M) : ∃ r M1 M2, Ev none 999 123 0 [some (.ref 0), some (.int x1)] [] M (some (.int r)) M1 0 0 ∧ Ev none 999 246 0 [some (.ref 633), some (.int x1), none] [] M1 (some (.int r)) M2 0 0 ∧ INV M1 ∧ SV7 M2 := by
  obtain ⟨z, y, l, lb, lt, T, P, PI, hB, hN, hC, hD, hR, hI⟩ := hS
  obtain ⟨M1, E1, V1, F1, k1⟩ := ev_imageC (e := 997) (x := x1) hB.1 hB.2.2.2.2.1
  have hX1 := hB.2.1.frm hB.1.1.sh F1 (by decide +kernel)
  have S1 : SQ M1 := ⟨V1.1.sh, hX1⟩
  obtain ⟨M2, E2, V2, F2, k2⟩ := ev_imageR (e := 998) (k := x1) V1 (hB.2.2.2.2.2.1.frm F1 (by decide +kernel))
  have hX2 := hX1.frm V1.1.sh F2 (by decide +kernel)
  have S2 : SQ M2 := ⟨V2.1.sh, hX2⟩
  obtain ⟨_, _, hc, hr, _, _, hp, hq, hf, hg⟩ := hB
  have hS := hC.1.1
  have R1 := hR.frm S1 F1 (by decide +kernel)
  have I1 := hI.frm hS F1 (by decide +kernel)
  have B2 : B6 z z y y (imK l x1) lb lt M2 := ⟨V2, hX2, (hc.frm F1 (by decide +kernel)).frm F2 (by decide +kernel), (hr.frm F1 (by decide +kernel)).frm F2 (by decide +kernel), k1.frm F2 (by decide +kernel), k2, (hp.frm F1 (by decide +kernel)).frm F2 (by decide +kernel), (hq.frm F1 (by decide +kernel)).frm F2 (by decide +kernel), (hf.frm F1 (by decide +kernel)).frm F2 (by decide +kernel), (hg.frm F1 (by decide +kernel)).frm F2 (by decide +kernel)⟩
  have D2 : TXd M2 := (hD.frm hS F1 (by decide +kernel)).frm V1.1.sh F2 (by decide +kernel)
  rcases image_ok hC E1 with ⟨c1, _, e1⟩ | ⟨c1, _, C1⟩ <;> rcases rimage_ok R1 I1 E2 with ⟨c2, _, R2, I2⟩ | ⟨c2, _, R2, I2⟩
  · exact ⟨_, M1, M2, E1, E2, V1, ⟨z, y, _, lb, lt, T, P, PI, B2, hN, (show CST T P PI M1 by rw [e1]; exact hC).frm S2 F2 (by decide +kernel), D2, R2, I2⟩⟩
  · exact absurd c2 c1
  · exact absurd c1 c2
  · exact ⟨_, M1, M2, E1, E2, V1, ⟨z, y, _, lb, lt, T, P, _, B2, hN, C1.frm S2 F2 (by decide +kernel), D2, R2, I2⟩⟩
set_option maxRecDepth 200000 in
theorem pj_33 {x1 : Int32} (hS : SV7 M) : ∃ r M1 M2, Ev none 999 124 0 [some (.ref 0), some (.int x1)] [] M (some (.int r)) M1 0 0 ∧ Ev none 999 247 0 [some (.ref 633), some (.int x1), none] [] M1 (some (.int r)) M2 0 0 ∧ INV M1 ∧ SV7 M2 := by
  obtain ⟨z, y, l, lb, lt, T, P, PI, hB, hN, hC, hD, hR, hI⟩ := hS
  obtain ⟨v1, M1, y1, E1, s1, F1, B1, f1, R1, I1⟩ := rel_c7 (cn := kX10_restore) (k := 2) (ws := [.ref 0, .int x1]) false false kX10_restore_ok (by decide +kernel) (by decide +kernel) (by decide) (Two.mk rfl (Two.mk ⟨x1, rfl, i32_any x1⟩ trivial)) hB hR hI
  cases f1 rfl
  have D1 : TXd M1 := hD.frm hB.1.1.sh F1 (by decide +kernel)
  obtain ⟨v2, M2, y2, E2, s2, F2, B2, f2, K2, D2⟩ := rel_r7 (cn := kX11_restore) (k := 3) (ws := [.ref 633, .int x1]) false false kX11_restore_ok (by decide +kernel) (by decide +kernel) (by decide) (Two.mk rfl (Two.mk ⟨x1, rfl, i32_any x1⟩ trivial)) B1
  cases f2 rfl
  have I2 : RIM PI M2 := I1.frm B1.1.1.sh F2 (by decide +kernel)
  have C := restore_ok hC E1
  have R := rrest_ok R1 I1 E2
  rw [hB.2.2.2.2.1.rn] at C
  rw [B1.2.2.2.2.2.1.rn] at R
  rcases C with ⟨c1, rfl, e1⟩ | ⟨c1, d1, rfl, C1⟩ <;> rcases R with ⟨c2, rfl, R2⟩ | ⟨c2, d2, rfl, R2⟩
  · exact ⟨_, M1, M2, E1, E2, B1.1, ⟨z, y, l, lb, lt, T, P, PI, B2, hN, K2 (by rw [e1]; exact hC), D2 D1, R2, I2⟩⟩
  · exact absurd c1 (fun q => q.elim (fun q => q c2) d2)
  · exact absurd c2 (fun q => q.elim (fun q => q c1) d1)
  · exact ⟨_, M1, M2, E1, E2, B1.1, ⟨z, y, l, lb, lt, T, _, PI, B2, hN, K2 C1, D2 D1, R2, I2⟩⟩
end REL7
