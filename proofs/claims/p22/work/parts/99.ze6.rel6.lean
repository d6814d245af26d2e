/-! BOTH SIDES BESIDE EACH OTHER, with the bytes, the fixed references, the fault told -/
def FCq (y : Int32) (M : Mem) : Prop := ∃ vs, gNth M 0 = some (.inr (10, vs)) ∧ gNth vs 15 = some (.int y)
def FRq (y : Int32) (M : Mem) : Prop := ∃ vs, gNth M 633 = some (.inr (11, vs)) ∧ gNth vs 26 = some (.int y)
theorem FCq.frm {z : Int32} {md : Md} {M M' : Mem} (h : FCq z M) (hF : Frm sT md M M') (hm : (10, 15) ∉ md) : FCq z M' := by
  obtain ⟨vs, h1, h2⟩ := h
  obtain ⟨vs', h3, _, h4⟩ := hF.2.1 0 10 vs h1
  exact ⟨vs', h3, (h4 15 hm).trans h2⟩
theorem FRq.frm {z : Int32} {md : Md} {M M' : Mem} (h : FRq z M) (hF : Frm sT md M M') (hm : (11, 26) ∉ md) : FRq z M' := by
  obtain ⟨vs, h1, h2⟩ := h
  obtain ⟨vs', h3, _, h4⟩ := hF.2.1 633 11 vs h1
  exact ⟨vs', h3, (h4 26 hm).trans h2⟩
noncomputable def fxM (md : Md) : Bool := (List.range 8).all (fun k => !mdIn md 6 k) && ((List.range 8).all (fun k => !mdIn md 1 (2 + k)) && (!mdIn md 1 10 && (!mdIn md 1 12 && !mdIn md 1 14)))
set_option maxRecDepth 200000 in
theorem fxT_g : ∀ t ∈ fxT, gNth sT t = some 28 := by decide +kernel
set_option maxRecDepth 200000 in
theorem fxA_g : ∀ t ∈ fxA, gNth sT t = some 8 := by decide +kernel
theorem fV_frm {md : Md} {M M' : Mem} {a g ci k r : Nat} (hS : SH M) (ha : gNth sT a = some g) (hB : oB g ci = true) (hF : Frm sT md M M') (hm : (!mdIn md ci k) = true) (h : fV M a k = some (.ref r)) : fV M' a k = some (.ref r) := by
  obtain ⟨vs, h1⟩ := hS.obj ha hB
  obtain ⟨vs', h3, _, h4⟩ := hF.2.1 a ci vs h1
  unfold fV at h ⊢
  rw [h1] at h
  rw [h3]
  exact (h4 k (md_no hm)).trans h
theorem FX.frm {md : Md} {M M' : Mem} (hX : FX M) (hS : SH M) (hF : Frm sT md M M') (hm : fxM md = true) : FX M' := by
  obtain ⟨m1, hm⟩ := and_t hm
  obtain ⟨m2, hm⟩ := and_t hm
  obtain ⟨m3, hm⟩ := and_t hm
  obtain ⟨m4, m5⟩ := and_t hm
  refine ⟨fun t ht k hk => fV_frm hS (fxT_g t ht) qo_28 hF (List.all_eq_true.mp m1 k (List.mem_range.mpr hk)) (hX.1 t ht k hk), fun a ha => ⟨fun k hk => ?_, ?_, ?_, ?_⟩⟩
  · exact fV_frm hS (fxA_g a ha) qo_8 hF (List.all_eq_true.mp m2 k (List.mem_range.mpr hk)) ((hX.2 a ha).1 k hk)
  · exact fV_frm hS (fxA_g a ha) qo_8 hF m3 (hX.2 a ha).2.1
  · exact fV_frm hS (fxA_g a ha) qo_8 hF m4 (hX.2 a ha).2.2.1
  · exact fV_frm hS (fxA_g a ha) qo_8 hF m5 (hX.2 a ha).2.2.2
noncomputable def rfB (a k r : Nat) : Bool := match gNth mem0 a with
  | some (.inr (_, vs)) => match gNth vs k with
    | some (.ref b) => Nat.beq b r
    | _ => false
  | _ => false
theorem rfB_V {a k r : Nat} (h : rfB a k r = true) : fV mem0 a k = some (.ref r) := by
  unfold rfB at h
  unfold fV
  split at h
  rotate_left
  · cases h
  rename_i c vs e
  rw [e]
  split at h
  rotate_left
  · cases h
  rename_i b e2
  cases Nat.eq_of_beq_eq_true h
  exact e2
set_option maxRecDepth 200000 in
theorem fx0_t : fxT.all (fun t => (List.range 8).all (fun k => rfB t k (t + 1 + k))) = true := by decide +kernel
set_option maxRecDepth 200000 in
theorem fx0_a : fxA.all (fun a => (List.range 8).all (fun k => rfB a (2 + k) (a + 1 + k)) && (rfB a 10 (a + 9) && (rfB a 12 (a + 10) && rfB a 14 (a + 11)))) = true := by decide +kernel
theorem FX0 : FX mem0 := by
  refine ⟨fun t ht k hk => rfB_V (List.all_eq_true.mp (List.all_eq_true.mp fx0_t t ht) k (List.mem_range.mpr hk)), fun a ha => ?_⟩
  obtain ⟨h1, h⟩ := and_t (List.all_eq_true.mp fx0_a a ha)
  obtain ⟨h2, h⟩ := and_t h
  obtain ⟨h3, h4⟩ := and_t h
  exact ⟨fun k hk => rfB_V (List.all_eq_true.mp h1 k (List.mem_range.mpr hk)), rfB_V h2, rfB_V h3, rfB_V h4⟩
set_option maxRecDepth 200000 in
theorem le0_flt : le0B 0 10 15 = true ∧ le0B 633 11 26 = true := by refine ⟨?_, ?_⟩ <;> decide +kernel
def SV6 (M : Mem) : Prop := INV M ∧ FX M ∧ ∃ z y l lb lt, LC z M ∧ LR z M ∧ KC l M ∧ KR l M ∧ BC lb M ∧ BR lt M ∧ BBp z.toInt.toNat lb lt ∧ FCq y M ∧ FRq y M
noncomputable def byC (ff : Bool) (c : CN) : Bool := (ff || !mdIn c.2.2.2.2.2.1 10 15) && (!mdIn c.2.2.2.2.2.1 11 26 && fxM c.2.2.2.2.2.1)
noncomputable def byR (ff : Bool) (c : CN) : Bool := (ff || !mdIn c.2.2.2.2.2.1 11 26) && (!mdIn c.2.2.2.2.2.1 10 15 && fxM c.2.2.2.2.2.1)
theorem rel_c6 {cn : CN} {k : Nat} {z w y q : Int32} {M : Mem} {ws : List Value} {l lb lt : List Int32} (zz ff : Bool) (hok : cnOK sT sG FL0 cn) (hB : (((invC cn && relC zz cn) && byB cn) && byC ff cn) = true) (hm : (gNth mRs cn.1).map (fun q => q.2.2.2.1) = some k) (hd : cn.2.1 ≤ 999) (ha : Two (taOK sT) cn.2.2.1 ws) (hV : INV M) (hX : FX M) (hC : LC z M) (hR : LR w M) (hK : KC l M) (hL : KR l M) (hP : BC lb M) (hQ : BR lt M) (hF : FCq y M) (hG : FRq q M) : ∃ v M', Ev none 999 cn.1 0 (gPad k (gArgs ws)) [] M v M' 0 0 ∧ (∃ s ∈ cn.2.2.2.2.2.2, csOK sT FL0 ws v M' s) ∧ INV M' ∧ FX M' ∧ LC (bif zz then 0 else z) M' ∧ LR w M' ∧ KC l M' ∧ KR l M' ∧ BC lb M' ∧ BR lt M' ∧ (ff = false → FCq y M') ∧ FRq q M' := by
  obtain ⟨hB, hf⟩ := and_t hB
  obtain ⟨f1, hf⟩ := and_t hf
  obtain ⟨f2, f3⟩ := and_t hf
  obtain ⟨hB, hb⟩ := and_t hB
  obtain ⟨hB, hr⟩ := and_t hB
  obtain ⟨r1, r2⟩ := and_t hr
  obtain ⟨r2, r3⟩ := and_t r2
  obtain ⟨r3, r4⟩ := and_t r3
  obtain ⟨b1, b2⟩ := and_t hb
  obtain ⟨v, M', h1, h2, h3, h4⟩ := inv_f hok hB hm hd ha hV
  refine ⟨v, M', h1, h4, h2, hX.frm hV.1.sh h3 f3, ?_, hR.frm h3 (md_no r2), hK.frm h3 (md_no r3), hL.frm h3 (md_no r4), hP.frm h3 (md_no b1), hQ.frm h3 (md_no b2), fun e => ?_, hG.frm h3 (md_no f2)⟩
  · cases zz with
    | true => exact zeB_V r1 h4
    | false => exact hC.frm h3 (md_no r1)
  · subst e
    exact hF.frm h3 (md_no f1)
theorem rel_r6 {cn : CN} {k : Nat} {z w y q : Int32} {M : Mem} {ws : List Value} {l lb lt : List Int32} (zz ff : Bool) (hok : cnOK sT sG FL0 cn) (hB : (((invC cn && relR zz cn) && byB cn) && byR ff cn) = true) (hm : (gNth mRs cn.1).map (fun q => q.2.2.2.1) = some k) (hd : cn.2.1 ≤ 999) (ha : Two (taOK sT) cn.2.2.1 ws) (hV : INV M) (hX : FX M) (hC : LC z M) (hR : LR w M) (hK : KC l M) (hL : KR l M) (hP : BC lb M) (hQ : BR lt M) (hF : FCq y M) (hG : FRq q M) : ∃ v M', Ev none 999 cn.1 0 (gPad k (gArgs ws)) [] M v M' 0 0 ∧ (∃ s ∈ cn.2.2.2.2.2.2, csOK sT FL0 ws v M' s) ∧ INV M' ∧ FX M' ∧ LC z M' ∧ LR (bif zz then 0 else w) M' ∧ KC l M' ∧ KR l M' ∧ BC lb M' ∧ BR lt M' ∧ FCq y M' ∧ (ff = false → FRq q M') := by
  obtain ⟨hB, hf⟩ := and_t hB
  obtain ⟨f1, hf⟩ := and_t hf
  obtain ⟨f2, f3⟩ := and_t hf
  obtain ⟨hB, hb⟩ := and_t hB
  obtain ⟨hB, hr⟩ := and_t hB
  obtain ⟨r1, r2⟩ := and_t hr
  obtain ⟨r2, r3⟩ := and_t r2
  obtain ⟨r3, r4⟩ := and_t r3
  obtain ⟨b1, b2⟩ := and_t hb
  obtain ⟨v, M', h1, h2, h3, h4⟩ := inv_f hok hB hm hd ha hV
  refine ⟨v, M', h1, h4, h2, hX.frm hV.1.sh h3 f3, hC.frm h3 (md_no r2), ?_, hK.frm h3 (md_no r3), hL.frm h3 (md_no r4), hP.frm h3 (md_no b1), hQ.frm h3 (md_no b2), hF.frm h3 (md_no f2), fun e => ?_⟩
  · cases zz with
    | true => exact zeB_V r1 h4
    | false => exact hR.frm h3 (md_no r1)
  · subst e
    exact hG.frm h3 (md_no f1)
theorem SV6.sv4 {M : Mem} (h : SV6 M) : SV4 M := by
  obtain ⟨h1, _, z, y, l, lb, lt, a1, a2, a3, a4, a5, a6, a7, _⟩ := h
  exact ⟨h1, z, l, lb, lt, a1, a2, a3, a4, a5, a6, a7⟩
theorem fV_app {M : Mem} {a k r : Nat} {e : AE} (h : fV M a k = some (.ref r)) : fV (M ++ [e]) a k = some (.ref r) := by
  unfold fV at h ⊢
  cases hM : gNth M a with
  | none => rw [hM] at h; cases h
  | some x =>
    rw [hM] at h
    rw [nth_app hM]
    exact h
theorem SV6.app {M : Mem} (h : SV6 M) (e : AE) : SV6 (M ++ [e]) := by
  obtain ⟨h1, hX, z, y, lk, lb, lt, ⟨vs, a1, a2⟩, ⟨vr, b1, b2⟩, k1, k2, p1, p2, hn, ⟨vf, c1, c2⟩, ⟨vg, d1, d2⟩⟩ := h
  exact ⟨h1.app e, ⟨fun t ht k hk => fV_app (hX.1 t ht k hk), fun a ha => ⟨fun k hk => fV_app ((hX.2 a ha).1 k hk), fV_app (hX.2 a ha).2.1, fV_app (hX.2 a ha).2.2.1, fV_app (hX.2 a ha).2.2.2⟩⟩, z, y, lk, lb, lt, ⟨vs, nth_app a1, a2⟩, ⟨vr, nth_app b1, b2⟩, nth_app k1, nth_app k2, nth_app p1, nth_app p2, hn, ⟨vf, nth_app c1, c2⟩, ⟨vg, nth_app d1, d2⟩⟩
theorem SV6.out {M : Mem} (h : SV6 M) : ∃ l : List Int64, gNth M 663 = some (.inl (2, .inr (.inl l))) ∧ l.length = 1 ∧ ∀ z : Int64, SV6 (gPut M 663 (.inl (2, .inr (.inl (gPut l 0 z))))) := by
  obtain ⟨h1, hX, z, y, lk, lb, lt, ⟨vs, a1, a2⟩, ⟨vr, b1, b2⟩, k1, k2, p1, p2, hn, ⟨vf, c1, c2⟩, ⟨vg, d1, d2⟩⟩ := h
  obtain ⟨l, l1, l2, l3⟩ := h1.out
  have g : ∀ (y : Int64) (a : Nat) (x : AE), a ≠ 663 → gNth M a = some x → gNth (gPut M 663 (.inl (2, .inr (.inl (gPut l 0 y))))) a = some x := fun y a x ha hx => by
    rw [nth_put, if_neg (fun q => ha q.1)]
    exact hx
  have gv : ∀ (y : Int64) (a k r : Nat), fV M a k = some (.ref r) → fV (gPut M 663 (.inl (2, .inr (.inl (gPut l 0 y))))) a k = some (.ref r) := fun y a k r hx => by
    rw [fV_put (fun c vs q => by cases q) (fun c vs q => by rw [l1] at q; cases q)]
    exact hx
  exact ⟨l, l1, l2, fun w => ⟨l3 w, ⟨fun t ht k hk => gv w _ _ _ (hX.1 t ht k hk), fun a ha => ⟨fun k hk => gv w _ _ _ ((hX.2 a ha).1 k hk), gv w _ _ _ (hX.2 a ha).2.1, gv w _ _ _ (hX.2 a ha).2.2.1, gv w _ _ _ (hX.2 a ha).2.2.2⟩⟩, z, y, lk, lb, lt, ⟨vs, g w 1 _ (by decide) a1, a2⟩, ⟨vr, g w 633 _ (by decide) b1, b2⟩, g w 340 _ (by decide) k1, g w 638 _ (by decide) k2, g w 2 _ (by decide) p1, g w 634 _ (by decide) p2, hn, ⟨vf, g w 0 _ (by decide) c1, c2⟩, ⟨vg, g w 633 _ (by decide) d1, d2⟩⟩⟩
theorem SV60 : SV6 mem0 := by
  obtain ⟨h1, z, l, a1, a2, a3, a4⟩ := SV0
  obtain ⟨lb, r1, _⟩ := h1.1.irow tp_u2.2.1 tp_b.2.2.2
  obtain ⟨lt, s1, _⟩ := h1.1.mrow tp_u2.2.2 tp_m.2.2
  exact ⟨h1, FX0, 0, 0, _, lb, lt, le0_V le0_all.1, le0_V le0_all.2, ke0_V ke0_all.1, ke0_V ke0_all.2, r1, s1, fun k hk => absurd hk (Nat.not_lt_zero k), le0_V le0_flt.1, le0_V le0_flt.2⟩
/-! the texts of both sides, read -/
noncomputable def bL (lt : List Int32) : Nat → Int32 := fun k => (gNth lt k).getD 0 &&& 255
noncomputable def RDl (lt : List Int32) (z : Int32) (law : Bool) : PLn := rdB (bL lt) z.toInt.toNat law ((prS (bL lt) 996).1 1)
section R6
variable {z y w : Int32} {M M' : Mem} {lb lt : List Int32} {v : Option Value}
theorem LC.zi (h : LC z M) : zI M 1 1 = z := by
  obtain ⟨vs, h1, h2⟩ := h
  unfold zI fV
  rw [h1]
  dsimp only
  rw [h2]
theorem LR.zi (h : LR z M) : zI M 633 2 = z := by
  obtain ⟨vs, h1, h2⟩ := h
  unfold zI fV
  rw [h1]
  dsimp only
  rw [h2]
theorem FCq.zi (h : FCq z M) : zI M 0 15 = z := by
  obtain ⟨vs, h1, h2⟩ := h
  unfold zI fV
  rw [h1]
  dsimp only
  rw [h2]
theorem FRq.zi (h : FRq z M) : zI M 633 26 = z := by
  obtain ⟨vs, h1, h2⟩ := h
  unfold zI fV
  rw [h1]
  dsimp only
  rw [h2]
theorem FCq.of (hS : SH M) (h : zI M 0 15 = z) : FCq z M := by
  obtain ⟨vs, h1, h2⟩ := hS.fi qa_0 qi_0_15
  rw [h] at h2
  exact ⟨vs, h1, h2⟩
theorem FRq.of (hS : SH M) (h : zI M 633 26 = z) : FRq z M := by
  obtain ⟨vs, h1, h2⟩ := hS.fi qa_633 qi_61_26
  rw [h] at h2
  exact ⟨vs, h1, h2⟩
theorem BR.bl (h : BR lt M) : bR M = bL lt := by
  funext k
  unfold bR bL rN zrw
  have h : gNth M 634 = some (.inl (0, .inl lt)) := h
  rw [h]
theorem BC.bl {n : Nat} (h : BC lb M) (hN : BBp n lb lt) : ∀ k, k < n → bC M k = bL lt k := by
  intro k hk
  obtain ⟨y, h1, h2⟩ := hN k hk
  unfold bC bL rN zrw
  have h : gNth M 2 = some (.inl (1, .inl lb)) := h
  rw [h]
  dsimp only
  rw [h1, h2]
  rfl
theorem law6C (hV : INV M) (hX : FX M) (hC : LC z M) (hP : BC lb M) (hN : BBp z.toInt.toNat lb lt) (H : Ev none 999 85 0 [some (.ref 0), none, none] [] M v M' 0 0) : ∃ r, v = some (.int r) ∧ r.toInt = ansB (RDl lt z true) ∧ FCq (fltB (RDl lt z true)) M' := by
  have hr := hC.rng hV.1
  obtain ⟨⟨x, h1, h2⟩, h3, _, _, h4, _⟩ := law_ok (e := 996) (n := z.toInt.toNat) (B := bL lt) ⟨hV.1.sh, hX⟩ (by rw [hC.zi]; omega) (by omega) (hP.bl hN) H
  exact ⟨x, h1, h2, FCq.of h3.1 h4⟩
theorem law6R (hV : INV M) (hX : FX M) (hz : 0 ≤ z.toInt ∧ z.toInt ≤ 440) (hR : LR z M) (hQ : BR lt M) (H : Ev none 999 183 0 [some (.ref 633), none] [] M v M' 0 0) : ∃ r, v = some (.int r) ∧ r.toInt = ansB (RDl lt z true) ∧ FRq (fltB (RDl lt z true)) M' := by
  obtain ⟨⟨x, h1, h2⟩, h3, _, h4, _⟩ := rlaw_ok (kk := 996) (n := z.toInt.toNat) (by omega) (by omega) ⟨hV.1.sh, hX⟩ (by rw [hR.zi]; omega) H
  rw [hQ.bl] at h2 h4
  exact ⟨x, h1, h2, FRq.of h3.1 h4⟩
noncomputable def hbA (lt : List Int32) (z x : Int32) : Int := if 0 ≤ x.toInt ∧ x.toInt ≤ 5 then ansB (RDl lt z false) else -1000
noncomputable def hbF (lt : List Int32) (z x y : Int32) : Int32 := if 0 ≤ x.toInt ∧ x.toInt ≤ 5 then fltB (RDl lt z false) else y
theorem hab6C {x : Int32} (hV : INV M) (hX : FX M) (hC : LC z M) (hP : BC lb M) (hN : BBp z.toInt.toNat lb lt) (hF : FCq y M) (H : Ev none 999 86 0 [some (.ref 0), some (.int x), none, none] [] M v M' 0 0) : ∃ r, v = some (.int r) ∧ r.toInt = hbA lt z x ∧ FCq (hbF lt z x y) M' := by
  have hr := hC.rng hV.1
  have hS : SQ M := ⟨hV.1.sh, hX⟩
  unfold hbA hbF
  by_cases hx : 0 ≤ x.toInt ∧ x.toInt ≤ 5
  · rw [if_pos hx, if_pos hx]
    obtain ⟨⟨x, h1, h2⟩, h3, _, _, _, _, h4, _⟩ := hab_ok (e := 996) (n := z.toInt.toNat) (B := bL lt) hS hx (by rw [hC.zi]; omega) (by omega) (hP.bl hN) H
    exact ⟨x, h1, h2, FCq.of h3.1 h4⟩
  · rw [if_neg hx, if_neg hx]
    obtain ⟨rfl, rfl⟩ := hab_out hS hx H
    exact ⟨_, rfl, rfl, FCq.of hS.kf.1 (by rw [fI_wF_ne (by decide)]; exact hF.zi)⟩
theorem hab6R {x : Int32} (hV : INV M) (hX : FX M) (hz : 0 ≤ z.toInt ∧ z.toInt ≤ 440) (hR : LR z M) (hQ : BR lt M) (hG : FRq y M) (H : Ev none 999 184 0 [some (.ref 633), some (.int x)] [] M v M' 0 0) : ∃ r, v = some (.int r) ∧ r.toInt = hbA lt z x ∧ FRq (hbF lt z x y) M' := by
  have hS : SQ M := ⟨hV.1.sh, hX⟩
  unfold hbA hbF
  by_cases hx : 0 ≤ x.toInt ∧ x.toInt ≤ 5
  · rw [if_pos hx, if_pos hx]
    obtain ⟨⟨x, h1, h2⟩, h3, _, h4, _⟩ := rhab_ok (kk := 996) (n := z.toInt.toNat) (t := x.toInt.toNat) (by omega) (by omega) (by omega) (by omega) hS (by rw [hR.zi]; omega) H
    rw [hQ.bl] at h2 h4
    exact ⟨x, h1, h2, FRq.of h3.1 h4⟩
  · rw [if_neg hx, if_neg hx]
    obtain ⟨rfl, rfl⟩ := rhab_out hS hx H
    obtain ⟨t1, t2, _⟩ := tkn hS
    exact ⟨_, rfl, rfl, FRq.of t1.1 (by rw [t2.fi (by decide)]; exact hG.zi)⟩
theorem flt6C (hV : INV M) (hX : FX M) (hF : FCq y M) (H : Ev none 999 88 0 [some (.ref 0)] [] M v M' 0 0) : v = some (.int y) := by
  obtain ⟨h1, _⟩ := flt_0 ⟨hV.1.sh, hX⟩ H
  rw [h1, hF.zi]
theorem flt6R (hV : INV M) (hX : FX M) (hG : FRq y M) (H : Ev none 999 185 0 [some (.ref 633)] [] M v M' 0 0) : v = some (.int y) := by
  obtain ⟨h1, _⟩ := rflt_ok ⟨hV.1.sh, hX⟩ H
  rw [h1, hG.zi]
end R6
