/-! THE CLASS'S ways, readings, fits, least: the state is kept -/
def wayN (P : PK) (a b h : Int32) : Prop := ¬ inD P a ∨ ¬ inD P b ∨ a = b ∨ ¬ inX h 0 5
set_option maxRecDepth 200000 in
theorem my_all : (gNth mRs 65).map (fun q => q.2.2.2.1) = some 8 ∧ (gNth mRs 42).map (fun q => q.2.2.2.1) = some 5 ∧ (gNth mRs 43).map (fun q => q.2.2.2.1) = some 3 ∧ (gNth mRs 21).map (fun q => q.2.2.2.1) = some 7 ∧ (gNth mRs 122).map (fun q => q.2.2.2.1) = some 2 := by refine ⟨?_, ?_, ?_, ?_, ?_⟩ <;> decide +kernel
set_option maxRecDepth 200000 in
theorem tm_h : fiB 46 4 2 0 5 = true ∧ irB 60 6 0 255 = true ∧ fiB 22 7 11 0 200 = true := by refine ⟨?_, ?_, ?_⟩ <;> decide +kernel
section CWYS
variable {e B L rw g ci k0 : Nat} {lo hi : Int} {T T' : TS} {P P' P0 Q : PK} {PI : Nat → PK} {M M0 M1 M' : Mem} {v : Option Value} {c k d x a b h t y fr to hb go : Int32} {n i j hn : Nat} {l : List Int32} {F : Nat → Nat → Prop} {W O : Nat → Prop}
theorem TM.wIx (hT : TM sT sG M) (ha : gNth sT k0 = some g) (hB : irB g n lo hi = true) (h0 : lo ≤ x.toInt) (h1 : x.toInt ≤ hi) : TM sT sG (wI M k0 i x) ∧ Frm sT [(1000 + g, 0)] M (wI M k0 i x) := by
  obtain ⟨l, e1, _, _, e4⟩ := hT.irow ha hB
  have e : wI M k0 i x = gPut M k0 (.inl (1, .inl (gPut l i x))) := by
    unfold wI
    rw [e1]
  rw [e]
  exact ⟨e4 i x h0 h1, Frm.row e1 ha (by simp)⟩
theorem TM.zIn (hT : TM sT sG M) (ha : gNth sT k0 = some g) (hB : fiB g ci i lo hi = true) : lo ≤ (zI M k0 i).toInt ∧ (zI M k0 i).toInt ≤ hi := by
  obtain ⟨vs, y, g1, g2, _, h0, h1, _⟩ := hT.fnum ha hB
  have e0 : zI M k0 i = y := by
    unfold zI fV
    rw [g1]
    dsimp only
    rw [g2]
  rw [e0]
  exact ⟨h0, h1⟩
theorem CST.msc (h : CST T P PI M) (hS : SQ M') (hF : FZ F W noO M M') (f : ∀ a k, F a k → (a = 0 ∧ k ≠ 2 ∧ k ≠ 6) ∨ a = 229) (w : ∀ a, W a → a = 344) : CST T P PI M' := by
  refine h.scr hS hF ⟨fun q => by have := f _ _ q; omega, fun q => by have := f _ _ q; omega, fun q => by have := f _ _ q; omega⟩ (fun L hL _ => ⟨fun a k q1 q2 q => ?_, fun a q1 q2 q => ?_⟩) (fun t ht => ⟨fun k q => ?_, fun k k1 k8 q => ?_⟩) ⟨fun q => q, fun q => q, fun q => q⟩ (fun _ _ _ q => q) (fun L hL => ⟨fun k hk => (hF.on (fun q => q)).trans ((h.2.2.2.2.2.1 L hL).1 k hk), (h.2.2.2.2.2.1 L hL).2.on (fun j => hF.on (fun q => q))⟩) (h.2.2.2.2.1.fz hF (fun q => by have := f _ _ q; omega) (fun q => by have := f _ _ q; omega) (fun a _ _ q => by have := w _ q; omega)) (fun q => by have := w _ q; omega)
  · have := ld_cases hL
    have := f _ _ q
    omega
  · have := ld_cases hL
    have := w _ q
    omega
  · have := tx_cases ht
    have := f _ _ q
    omega
  · have := tx_cases ht
    have := w _ q
    omega
theorem CST.w0 (h : CST T P PI M) (h2 : i ≠ 2) (h6 : i ≠ 6) : CST T P PI (wF M 0 i y) := h.msc (W := noO) h.sq.kf (FZ.wF (F := fun a k => a = 0 ∧ k = i) ⟨rfl, rfl⟩) (fun a k q => by have := q.1; have := q.2; omega) (fun _ q => q.elim)
/-- the way that is told stays -/
def KP1 (M M' : Mem) : Prop := (∀ j, rN M' 341 j = rN M 341 j) ∧ fR M' 0 10 = fR M 0 10
theorem KP1.refl : KP1 M M := ⟨fun _ => rfl, rfl⟩
theorem KP1.trans (h : KP1 M M1) (g : KP1 M1 M') : KP1 M M' := ⟨fun j => (g.1 j).trans (h.1 j), g.2.trans h.2⟩
theorem KP1.fz {O : Nat → Prop} (hF : FZ F W O M M') (w : ¬ W 341) (f : ¬ F 0 10) : KP1 M M' := ⟨fun j => hF.rn w, hF.fr f⟩
theorem KP1.nt (hF : FZ netF netW netW M M') : KP1 M M' := KP1.fz hF (by unfold netW; omega) (by unfold netF; omega)
theorem KP1.wy (hF : FZ wyF (wyW rw) noO M M') (h : rw = 342) : KP1 M M' := KP1.fz hF (by rw [h]; unfold wyW lkW; omega) (by unfold wyF; omega)
theorem KP1.en (hF : FZ enF enW noO M M') : KP1 M M' := KP1.fz hF (by unfold enW shgW; omega) (by unfold enF shgF; omega)
theorem KP1.wf {a0 : Nat} : KP1 M (wF M a0 i x) := ⟨fun j => rN_wF, fR_wF⟩
/-- two DOORS and a HABIT -/
theorem wat_ok (hC : CST T P PI M) (H : Ev none e 132 0 [some (.ref 0), some (.int a), some (.int b), some (.int h)] [] M v M' 0 0) : M' = M ∧ ((¬ wayN P a b h ∧ inD P a ∧ inD P b ∧ inX h 0 5 ∧ v = some (.int 1)) ∨ (wayN P a b h ∧ v = some (.int 0))) := by
  obtain ⟨e1, v1, M1, _, H1, H⟩ := wat_0 hC.sq H
  obtain ⟨rm, rv⟩ := twd_ok hC H1
  rw [rm] at H
  rcases rv with ⟨ia, ib, nab, rv⟩ | ⟨q, rv⟩
  · rw [rv] at H
    rcases wat_6 hC.sq H with ⟨q, _⟩ | ⟨_, q, r1, r2⟩ | ⟨_, q, r1, r2⟩
    · exact absurd q (by decide)
    · rw [g126_R] at q
      exact ⟨r2, Or.inr ⟨Or.inr (Or.inr (Or.inr q)), r1⟩⟩
    · rw [g126_R, Classical.not_not] at q
      refine ⟨r2, Or.inl ⟨fun m => ?_, ia, ib, q, r1⟩⟩
      rcases m with m | m | m | m
      · exact m ia
      · exact m ib
      · exact nab m
      · exact m q
  · rw [rv] at H
    rcases wat_6 hC.sq H with ⟨_, r1, r2⟩ | ⟨q2, _⟩ | ⟨q2, _⟩
    · refine ⟨r2, Or.inr ⟨?_, r1⟩⟩
      rcases q with q | q | q
      · exact Or.inl q
      · exact Or.inr (Or.inl q)
      · exact Or.inr (Or.inr (Or.inl q))
    all_goals exact absurd rfl q2
theorem arvI (hI : INV M) (he : 4 ≤ e) (hr : gNth sT rw = some 58) (h1 : 0 ≤ fr.toInt ∧ fr.toInt ≤ 8) (h2 : 0 ≤ to.toInt ∧ to.toInt ≤ 8) (h3 : 0 ≤ hb.toInt ∧ hb.toInt ≤ 5) (H : Ev none e 65 0 [some (.ref 104), some (.int fr), some (.int to), some (.int hb), some (.ref rw), none, none, none] [] M v M' 0 0) : INV M' := (inv_d (c := kX7_arrives) (k := 8) (ws := [.ref 104, .int fr, .int to, .int hb, .ref rw]) kX7_arrives_ok (by decide +kernel) my_all.1 he (Two.mk rfl (Two.mk ⟨_, rfl, h1⟩ (Two.mk ⟨_, rfl, h2⟩ (Two.mk ⟨_, rfl, h3⟩ (Two.mk ⟨rw, rfl, hr⟩ trivial))))) hI H).1
theorem CST.d8 (h : CST T P PI M) (ha : inD P a) : 0 ≤ a.toInt ∧ a.toInt ≤ 8 := by
  have q := h.ok.1.2.1.2.1
  have h1 := ha.1
  have h2 := ha.2
  omega
/-- the way between two DOORS -/
theorem way_ok (h9 : CST T P PI M) (hI : INV M) (he : 6 ≤ e) (H : Ev none e 115 0 [some (.ref 0), some (.int a), some (.int b), some (.int h), none] [] M v M' 0 0) : CST T P PI M' ∧ ((wayN P a b h ∧ v = some (.int (-2)) ∧ M' = M) ∨ (¬ wayN P a b h ∧ (zI M' 0 13).toInt + 1 = ((wayL T P a b h).1.length : Int) ∧ (∀ j y, (wayL T P a b h).1[j]? = some y → rN M' (fR M' 0 9) j = y) ∧ ((wayB T P a b h = true ∧ v = some (.int (zI M' 0 13))) ∨ (wayB T P a b h = false ∧ v = some (.int (-1)))))) := by
  obtain ⟨e1, v1, M1, he1, H1, H⟩ := way_0 h9.sq H
  obtain ⟨rm, rv⟩ := wat_ok h9 H1
  rw [rm] at H
  rcases rv with ⟨nw, ia, ib, ih, rv⟩ | ⟨nw, rv⟩
  · rw [rv] at H
    rcases way_7 h9.sq h9.ld H with ⟨q, _⟩ | ⟨_, e2, v2, M2, he2, H2, H⟩
    · exact absurd q (by decide)
    · obtain ⟨rv2, c2, x2, I2, _⟩ := h9.ent hI (by omega) H2
      rw [rv2] at H
      obtain ⟨e3, v3, M3, he3, H3, H⟩ := way_24 c2.sq H
      have hr : gNth sT (fR M2 0 9) = some 58 := (c2.sq.1.fr qa_0 qr_0_9).2
      obtain ⟨rv3, c3, x3, F3, t3, r3⟩ := arv_ok c2 x2 hr ih ia ib H3
      rw [rv3] at H
      have e9 : fR M3 0 9 = fR M2 0 9 := F3.fr (by unfold wyF; omega)
      have fin : M' = wF M3 0 13 (zI M3 104 11) → CST T P PI M' ∧ (zI M' 0 13).toInt + 1 = ((wayL T P a b h).1.length : Int) ∧ (∀ j y, (wayL T P a b h).1[j]? = some y → rN M' (fR M' 0 9) j = y) ∧ zI M' 0 13 = zI M3 104 11 := fun eM => by
        have e13 : zI M' 0 13 = zI M3 104 11 := by rw [eM]; exact fI_wF_eq c3.sq.1 qa_0 qi_0_13
        refine ⟨by rw [eM]; exact c3.w0 (by decide) (by decide), by rw [e13]; exact t3, fun j y hj => ?_, e13⟩
        rw [eM, fR_wF, rN_wF, e9]
        exact r3 j y hj
      rcases way_38 c3.sq H with ⟨q, r1, r2⟩ | ⟨q, r1, r2⟩
      · obtain ⟨f1, f2, f3, f4⟩ := fin r2
        refine ⟨f1, Or.inr ⟨nw, f2, f3, Or.inr ⟨?_, r1⟩⟩⟩
        cases hw : wayB T P a b h with
        | false => rfl
        | true => rw [hw] at q; exact absurd q (by decide)
      · obtain ⟨f1, f2, f3, f4⟩ := fin r2
        refine ⟨f1, Or.inr ⟨nw, f2, f3, Or.inl ⟨?_, by rw [f4]; exact r1⟩⟩⟩
        cases hw : wayB T P a b h with
        | true => rfl
        | false => rw [hw] at q; exact absurd rfl q
  · rw [rv] at H
    rcases way_7 h9.sq h9.ld H with ⟨_, r1, r2⟩ | ⟨q, _⟩
    · exact ⟨by rw [r2]; exact h9, Or.inl ⟨nw, r1, r2⟩⟩
    · exact absurd rfl q
theorem twy_l (hn5 : n ≤ 5) (he : 5 ≤ e) : ∀ (r : Nat) (iz nz : Int32) (c3 c4 c5 : Option Value) (M : Mem), CST T P PI M → STA 8 T P M → INV M → nz.toInt = (n : Int) → iz.toInt + (r : Int) = nz.toInt → 0 ≤ iz.toInt → Ev none e 118 55 [some (.ref 0), some (.int nz), some (.int iz), c3, c4, c5] [] M v M' 0 0 → CST T P PI M' ∧ INV M' ∧ (fR M 0 10 = 342 → KP1 M M') ∧ ∃ r, v = some (.int r) := by
  intro r
  induction r with
  | zero =>
    intro iz nz c3 c4 c5 M hC hX hI hn hi h0 H
    rcases twy_55 hC.sq H with ⟨_, r1, r2⟩ | ⟨a1, _⟩
    · rw [r2]; exact ⟨hC, hI, fun _ => KP1.refl, _, r1⟩
    · exact absurd (Int32.le_iff_toInt_le.mpr (by omega)) a1
  | succ r ih =>
    intro iz nz c3 c4 c5 M hC hX hI hn hi h0 H
    rcases twy_55 hC.sq H with ⟨_, r1, r2⟩ | ⟨_, _, _, _, e1, v1, M1, he1, H1, H⟩
    · rw [r2]; exact ⟨hC, hI, fun _ => KP1.refl, _, r1⟩
    · obtain ⟨rm, rv⟩ := wat_ok hC H1
      rw [rm] at H
      rcases rv with ⟨nw, ia, ib, ih9, rv⟩ | ⟨nw, rv⟩
      · rw [rv] at H
        rcases twy_111 hC.sq H with ⟨q, _⟩ | ⟨_, e3, v3, M3, he3, H3, H⟩
        · exact absurd q (by decide)
        · have hr : gNth sT (fR M 0 10) = some 58 := (hC.sq.1.fr qa_0 qr_0_10).2
          have I3 := arvI hI (by omega) hr (hC.d8 ia) (hC.d8 ib) ih9 H3
          obtain ⟨rv3, c3, x3, F3, t3, r3⟩ := arv_ok hC hX hr ih9 ia ib H3
          rw [rv3] at H
          rcases twy_130 c3.sq H with ⟨_, r1, r2⟩ | ⟨_, e4, v4, M4, he4, H4, H⟩
          · rw [r2]; exact ⟨c3, I3, fun h => KP1.wy F3 h, _, r1⟩
          · have hr3 : gNth sT (fR M3 0 10) = some 58 := (c3.sq.1.fr qa_0 qr_0_10).2
            obtain ⟨I4, S4, F4, q4⟩ := net_call (cn := kX4_setWay) (mx := 5) (wsv := [.ref 229, .int iz, .ref (fR M3 0 10), .int (zI M3 104 11)]) kX4_setWay_ok (by decide +kernel) my_all.2.1 (by show 1 ≤ e4; omega) (Two.mk rfl (Two.mk ⟨_, rfl, by omega, by show iz.toInt ≤ 4; omega⟩ (Two.mk ⟨_, rfl, hr3⟩ (Two.mk ⟨_, rfl, I3.1.zIn qa_104 tm_h.2.2⟩ trivial)))) I3 c3.sq.2 H4
            rw [ret_n (by decide) q4] at H
            obtain ⟨u1, u2, u3, u4⟩ := ih (iz + 1) nz _ _ _ M4 (c3.nt S4 F4) (x3.nt hC.ok.1 S4 F4) I4 hn (by rw [i32_p1 (by omega)]; omega) (by rw [i32_p1 (by omega)]; omega) (twy_154 S4 H)
            exact ⟨u1, u2, fun h => ((KP1.wy F3 h).trans (KP1.nt F4)).trans (u3 (((KP1.wy F3 h).trans (KP1.nt F4)).2.trans h)), u4⟩
      · rw [rv] at H
        rcases twy_111 hC.sq H with ⟨_, r1, r2⟩ | ⟨q, _⟩
        · rw [r2]; exact ⟨hC, hI, fun _ => KP1.refl, _, r1⟩
        · exact absurd rfl q
theorem STA.f229 (h : STA 8 T P M) (hD : okD P) (hS : SQ M') (hF : FZ (fun a k => a = 229 ∧ k = 2) noO noO M M') : STA 8 T P M' := h.nt hD hS (hF.more (fun a k q => Or.inl q.1) (fun _ q => q.elim) (fun _ q => q.elim))
theorem readS_ok (h9 : CST T P PI M) (hI : INV M) (he : 10 ≤ e) (H : Ev none e 117 0 [some (.ref 0), none] [] M v M' 0 0) : CST T P PI M' ∧ (fR M 0 10 = 342 → KP1 M M') := by
  obtain ⟨e1, v1, M1, he1, H1, H⟩ := rea_0 h9.sq H
  have q1 : CST T P PI M1 ∧ INV M1 ∧ (fR M 0 10 = 342 → KP1 M M1) ∧ ∃ r, v1 = some (.int r) := by
    rcases twy_0 h9.sq h9.ld H1 with ⟨_, r1, r2⟩ | ⟨a1, _, e2, v2, M2, he2, H2, H1⟩ | ⟨_, _, r1, r2⟩
    · rw [r2]; exact ⟨h9, hI, fun _ => KP1.refl, _, r1⟩
    · rw [g126_R, Classical.not_not] at a1
      have n1 : 1 ≤ (zI M 1 1 / 3).toInt := a1.1
      have n5 : (zI M 1 1 / 3).toInt ≤ 5 := a1.2
      obtain ⟨rv2, c2, x2, I2, F2⟩ := h9.ent hI (by omega) H2
      rw [rv2] at H1
      have H1 := twy_45 c2.sq H1
      have F3 : FZ (fun a k => a = 229 ∧ k = 2) noO noO M2 (wF M2 229 2 (zI M 1 1 / 3)) := FZ.wF ⟨rfl, rfl⟩
      have S3 : SQ (wF M2 229 2 (zI M 1 1 / 3)) := c2.sq.kf
      obtain ⟨w1, w2⟩ := I2.1.wFi (x := zI M 1 1 / 3) qa_229 tm_h.1 (by omega) (by omega)
      obtain ⟨u1, u2, u3, u4⟩ := twy_l (n := (zI M 1 1 / 3).toInt.toNat) (by omega) (by omega) (zI M 1 1 / 3).toInt.toNat 0 _ _ _ _ _ (c2.msc S3 F3 (fun a k q => Or.inr q.1) (fun _ q => q.elim)) (x2.f229 h9.ok.1 S3 F3) (I2.frmT w1 w2 (by decide +kernel)) (by omega) (by have z0 : (0 : Int32).toInt = 0 := rfl; omega) (by decide) H1
      have k2 : KP1 M (wF M2 229 2 (zI M 1 1 / 3)) := (KP1.en F2).trans KP1.wf
      exact ⟨u1, u2, fun h => k2.trans (u3 (k2.2.trans h)), u4⟩
    · rw [r2]; exact ⟨h9, hI, fun _ => KP1.refl, _, r1⟩
  obtain ⟨c1, I1, k1, r, hr⟩ := q1
  rw [hr] at H
  rcases rea_4 c1.sq c1.ld H with ⟨_, _, r2⟩ | ⟨_, e4, v4, M4, he4, H4, H⟩
  · rw [r2]; exact ⟨c1.tp, fun h => (k1 h).trans KP1.wf⟩
  · obtain ⟨I4, S4, F4, q4⟩ := net_call (cn := kX4_tellings) (mx := 3) (wsv := [.ref 229, .ref 8]) kX4_tellings_ok (by decide +kernel) my_all.2.2.1 (by show 8 ≤ e4; omega) (Two.mk rfl (Two.mk ⟨8, rfl, lnd_8⟩ trivial)) I1 c1.sq.2 H4
    obtain ⟨r2, hr2⟩ := ret_i (by decide) q4
    rw [hr2] at H
    obtain ⟨_, rm⟩ := rea_18 S4 H
    rw [rm]
    exact ⟨(c1.nt S4 F4).tp, fun h => ((k1 h).trans (KP1.nt F4)).trans KP1.wf⟩
theorem ftg_l (he : 5 ≤ e) (ia : inD P a) (ib : inD P b) : ∀ (r : Nat) (s h : Int32) (M : Mem), CST T P PI M → STA 8 T P M → INV M → h.toInt + (r : Int) = 6 → 0 ≤ h.toInt → Ev none e 121 16 [some (.ref 0), some (.int a), some (.int b), some (.int s), some (.int h)] [] M v M' 0 0 → CST T P PI M' ∧ (fR M 0 10 = 342 → KP1 M M') ∧ ∃ r, v = some (.int r) := by
  have z6 : (6 : Int32).toInt = 6 := rfl
  intro r
  induction r with
  | zero =>
    intro s h M hC hX hI hh h0 H
    rcases ftg_16 hC.sq H with ⟨_, r1, r2⟩ | ⟨a1, _⟩
    · rw [r2]; exact ⟨hC, fun _ => KP1.refl, _, r1⟩
    · exact absurd (Int32.le_iff_toInt_le.mpr (by omega)) a1
  | succ r ih =>
    intro s h M hC hX hI hh h0 H
    rcases ftg_16 hC.sq H with ⟨_, r1, r2⟩ | ⟨_, e3, v3, M3, he3, H3, H⟩
    · rw [r2]; exact ⟨hC, fun _ => KP1.refl, _, r1⟩
    · have hr : gNth sT (fR M 0 10) = some 58 := (hC.sq.1.fr qa_0 qr_0_10).2
      have i5 : inX h 0 5 := ⟨h0, by show h.toInt ≤ 5; omega⟩
      have I3 := arvI hI (by omega) hr (hC.d8 ia) (hC.d8 ib) i5 H3
      obtain ⟨rv3, c3, x3, F3, t3, r3⟩ := arv_ok hC hX hr i5 ia ib H3
      rw [rv3] at H
      rcases ftg_38 c3.sq H with ⟨_, e4, v4, M4, he4, H4, H⟩ | ⟨_, H⟩
      · obtain ⟨I4, S4, F4, q4⟩ := net_call (cn := kX10_tapeTellsTrail) (mx := 2) (wsv := [.ref 0]) kX10_tapeTellsTrail_ok (by decide +kernel) my_all.2.2.2.2 (Nat.zero_le _) (Two.mk rfl trivial) I3 c3.sq.2 H4
        obtain ⟨r4, hr4⟩ := ret_i (by decide) q4
        rw [hr4] at H
        have nx : ∀ s2, Ev none e 121 16 [some (.ref 0), some (.int a), some (.int b), some (.int s2), some (.int (h + 1))] [] M4 v M' 0 0 → CST T P PI M' ∧ (fR M 0 10 = 342 → KP1 M M') ∧ ∃ r, v = some (.int r) := fun s2 H => by
          obtain ⟨u1, u2, u3⟩ := ih s2 (h + 1) M4 (c3.nt S4 F4) (x3.nt hC.ok.1 S4 F4) I4 (by rw [i32_p1 (by omega)]; omega) (by rw [i32_p1 (by omega)]; omega) H
          exact ⟨u1, fun h => ((KP1.wy F3 h).trans (KP1.nt F4)).trans (u2 (((KP1.wy F3 h).trans (KP1.nt F4)).2.trans h)), u3⟩
        rcases ftg_60 S4 H with ⟨_, H⟩ | ⟨_, H⟩
        · exact nx _ H
        · exact nx _ H
      · obtain ⟨u1, u2, u3⟩ := ih s (h + 1) M3 c3 x3 I3 (by rw [i32_p1 (by omega)]; omega) (by rw [i32_p1 (by omega)]; omega) H
        exact ⟨u1, fun h => (KP1.wy F3 h).trans (u2 ((KP1.wy F3 h).2.trans h)), u3⟩
theorem fitsS_ok (h9 : CST T P PI M) (hI : INV M) (he : 8 ≤ e) (H : Ev none e 120 0 [some (.ref 0), some (.int a), some (.int b), none] [] M v M' 0 0) : CST T P PI M' ∧ (fR M 0 10 = 342 → KP1 M M') := by
  rcases fit_0 h9.sq H with ⟨_, _, r2⟩ | ⟨_, e1, v1, M1, he1, H1, H⟩
  · rw [r2]; exact ⟨h9.tp, fun _ => KP1.wf⟩
  · obtain ⟨rm, rv⟩ := twd_ok h9 H1
    rw [rm] at H
    rcases rv with ⟨ia, ib, nab, rv⟩ | ⟨_, rv⟩
    · rw [rv] at H
      rcases fit_25 h9.sq H with ⟨q, _⟩ | ⟨_, e2, v2, M2, he2, H2, H⟩
      · exact absurd q (by decide)
      · obtain ⟨e3, v3, M3, he3, H3, H2⟩ := ftg_0 h9.sq h9.ld H2
        obtain ⟨rv3, c3, x3, I3, F3⟩ := h9.ent hI (by omega) H3
        rw [rv3] at H2
        obtain ⟨c2, k2, r, hr⟩ := ftg_l (by omega) ia ib 6 0 0 M3 c3 x3 I3 rfl (by decide) (ftg_13 c3.sq H2)
        rw [hr] at H
        obtain ⟨_, r2⟩ := fit_34 c2.sq H
        rw [r2]
        exact ⟨c2.tp, fun h => ((KP1.en F3).trans (k2 ((KP1.en F3).2.trans h))).trans KP1.wf⟩
    · rw [rv] at H
      rcases fit_25 h9.sq H with ⟨_, _, r2⟩ | ⟨q, _⟩
      · rw [r2]; exact ⟨h9.tp, fun _ => KP1.wf⟩
      · exact absurd rfl q
theorem CST.e344 (h : CST T P PI M) : CST T P PI (wI M 344 i x) := h.msc (F := noF) h.sq.ki (FZ.wI (W := fun a => a = 344) rfl) (fun _ _ q => q.elim) (fun _ q => q)
theorem lot_l (n6 : n ≤ 6) (he : 6 ≤ e) : ∀ (r : Nat) (iz nz : Int32) (c3 c4 : Option Value) (M : Mem), CST T P PI M → INV M → nz.toInt = (n : Int) → iz.toInt + (r : Int) = nz.toInt → 0 ≤ iz.toInt → 2 ≤ n → Ev none e 101 23 [some (.ref 0), some (.int nz), some (.int iz), c3, c4] [] M v M' 0 0 → CST T P PI M' ∧ ∃ r, v = some (.int r) := by
  have en : ∀ (iz nz : Int32) (c3 c4 : Option Value) (M : Mem), CST T P PI M → INV M → nz.toInt = (n : Int) → 2 ≤ n → (∃ e1 v1 M1, e = e1 + 1 ∧ Ev none e1 54 0 [some (.ref 104), some (.ref 8)] [] M v1 M1 0 0 ∧ Ev none e 101 115 [some (.ref 0), some (.int nz), some (.int iz), c3, c4] (v1.toList ++ []) M1 v M' 0 0) → CST T P PI M' ∧ ∃ r, v = some (.int r) := fun iz nz c3 c4 M hC hI hn n2 H => by
    obtain ⟨e1, v1, M1, he1, H1, H⟩ := H
    obtain ⟨rv, c1, _, I1, _⟩ := hC.ent hI (by omega) H1
    rw [rv] at H
    obtain ⟨e2, v2, M2, he2, H2, H⟩ := lot_115 c1.sq H
    obtain ⟨I2, S2, F2, q4⟩ := net_call (cn := kX2_leastCost) (mx := 7) (wsv := [.ref 192, .ref 344, .int nz]) kX2_leastCost_ok (by decide +kernel) my_all.2.2.2.1 (by show 3 ≤ e2; omega) (Two.mk rfl (Two.mk rfl (Two.mk ⟨_, rfl, by show (2 : Int) ≤ nz.toInt; omega, by show nz.toInt ≤ (6 : Int); omega⟩ trivial))) I1 c1.sq.2 H2
    obtain ⟨r, hr⟩ := ret_i (by decide) q4
    rw [hr] at H
    obtain ⟨r1, r2⟩ := lot_127 S2 H
    rw [r2]
    exact ⟨c1.nt S2 F2, _, r1⟩
  intro r
  induction r with
  | zero =>
    intro iz nz c3 c4 M hC hI hn hi h0 n2 H
    rcases lot_23 hC.sq hC.ld H with ⟨_, H⟩ | ⟨a1, _⟩
    · exact en iz nz c3 c4 M hC hI hn n2 H
    · exact absurd (Int32.le_iff_toInt_le.mpr (by omega)) a1
  | succ r ih =>
    intro iz nz c3 c4 M hC hI hn hi h0 n2 H
    rcases lot_23 hC.sq hC.ld H with ⟨_, H⟩ | ⟨_, _, e1, v1, M1, he1, H1, H⟩
    · exact en iz nz c3 c4 M hC hI hn n2 H
    · obtain ⟨rv, rm⟩ := isd_0 hC.sq hC.ld H1
      rw [rm, rv] at H
      rcases lot_43 hC.sq hC.ld H with ⟨_, r1, r2⟩ | ⟨a1, d9, i6, H⟩
      · rw [r2]; exact ⟨hC, _, r1⟩
      · have ia : inD P (rI M 2 iz) := by
          by_cases q : inD P (rI M 2 iz)
          · exact q
          · exact absurd ((isd_ok hC).mpr q) a1
        have hz0 := ia.1
        have hz1 := ia.2
        have er : rI M (8 + 9) (rI M 2 iz) = P (3 + (rI M 2 iz).toInt.toNat) := (rI_n (p := (rI M 2 iz).toInt.toNat) (by omega)).trans (hC.lan.1.2.2.1.2 (rI M 2 iz).toInt.toNat (by omega))
        have hc := (hC.ok.1.2.1.2.2 (rI M 2 iz).toInt.toNat (by omega)).lt hC.ok.1.1
        rw [← er] at hc
        obtain ⟨w1, w2⟩ := hI.1.wIx (i := iz.toNatClampNeg) qa_344 tm_h.2.1 (x := rI M (8 + 9) (rI M 2 iz)) (by omega) (by omega)
        have C1 := hC.e344 (i := iz.toNatClampNeg) (x := rI M (8 + 9) (rI M 2 iz))
        have I1 := hI.frmT w1 w2 (by decide +kernel)
        obtain ⟨N, eN⟩ : ∃ N, N = wI M 344 iz.toNatClampNeg (rI M (8 + 9) (rI M 2 iz)) := ⟨_, rfl⟩
        rw [← eN] at C1 I1 H
        have lp : ∀ (s : Nat) (j : Int32), 0 ≤ j.toInt → j.toInt + (s : Int) = iz.toInt → Ev none e 101 67 [some (.ref 0), some (.int nz), some (.int iz), some (.int (rI M 2 iz)), some (.int j)] [] N v M' 0 0 → CST T P PI M' ∧ ∃ r, v = some (.int r) := by
          intro s
          induction s with
          | zero =>
            intro j j0 hj H
            rcases lot_67 C1.sq C1.ld H with ⟨_, H⟩ | ⟨a1, _⟩ | ⟨a1, _⟩
            · exact ih (iz + 1) nz _ _ N C1 I1 hn (by rw [i32_p1 (by omega)]; omega) (by rw [i32_p1 (by omega)]; omega) n2 H
            all_goals exact absurd (Int32.le_iff_toInt_le.mpr (by omega)) a1
          | succ s ihs =>
            intro j j0 hj H
            rcases lot_67 C1.sq C1.ld H with ⟨a1, _⟩ | ⟨_, _, _, _, r1, r2⟩ | ⟨_, _, _, _, H⟩
            · have := Int32.le_iff_toInt_le.mp a1
              omega
            · rw [r2]; exact ⟨C1, _, r1⟩
            · exact ihs (j + 1) (by rw [i32_p1 (by omega)]; omega) (by rw [i32_p1 (by omega)]; omega) H
        exact lp iz.toInt.toNat 0 (by decide) (by have z0 : (0 : Int32).toInt = 0 := rfl; omega) H
theorem leastS_ok (h9 : CST T P PI M) (hI : INV M) (he : 8 ≤ e) (H : Ev none e 100 0 [some (.ref 0), none] [] M v M' 0 0) : CST T P PI M' := by
  obtain ⟨e1, v1, M1, he1, H1, H⟩ := lea_0 h9.sq H
  have q1 : CST T P PI M1 ∧ ∃ r, v1 = some (.int r) := by
    rcases lot_0 h9.sq h9.ld H1 with ⟨_, r1, r2⟩ | ⟨a1, H1⟩
    · rw [r2]; exact ⟨h9, _, r1⟩
    · rw [g126_R, Classical.not_not] at a1
      have n1 : 2 ≤ (zI M 1 1).toInt := a1.1
      have n6 : (zI M 1 1).toInt ≤ 6 := a1.2
      exact lot_l (n := (zI M 1 1).toInt.toNat) (by omega) (by omega) (zI M 1 1).toInt.toNat 0 _ _ _ _ h9 hI (by omega) (by have z0 : (0 : Int32).toInt = 0 := rfl; omega) (by decide) (by omega) H1
  obtain ⟨c1, r, hr⟩ := q1
  rw [hr] at H
  obtain ⟨_, r2⟩ := lea_4 c1.sq H
  rw [r2]
  exact c1.tp
end CWYS
/-! THE CLASS'S first line of a weight: pieces (made by gwal7.py) -/
theorem fwl_0 {e : Nat} {M M' : Mem} {v : Option Value} {x : Nat} (hS : SQ M) (a_x : gNth sT x = some 28) (H : Ev none e 52 0 [some (.ref x), none] [] M v M' 0 0) : Ev none e 52 2 [some (.ref x), some (.int 0)] [] M v M' 0 0 := by
  have H : Ev none e 52 2 [some (.ref x), some (.int 0)] [] M v M' 0 0 := Ev.back 2 (fun n => rfl) H
  have HF := H
  exact HF
theorem fwl_2 {e : Nat} {M M' : Mem} {v : Option Value} {i : Int32} {x : Nat} (hS : SQ M) (a_x : gNth sT x = some 28) (H : Ev none e 52 2 [some (.ref x), some (.int i)] [] M v M' 0 0) : ((zI M x 8) ≤ i ∧ v = some (.int (-1)) ∧ M' = M) ∨ (¬ ((zI M x 8) ≤ i) ∧ (rI M (x + 1) i) = 5 ∧ (rI M (x + 2) i) = 6 ∧ (0 ≤ i.toInt ∧ i.toInt < 16) ∧ (0 ≤ i.toInt ∧ i.toInt < 16) ∧ v = some (.int i) ∧ M' = M) ∨ (¬ ((zI M x 8) ≤ i) ∧ (rI M (x + 1) i) = 5 ∧ ¬ ((rI M (x + 2) i) = 6) ∧ (0 ≤ i.toInt ∧ i.toInt < 16) ∧ (0 ≤ i.toInt ∧ i.toInt < 16) ∧ Ev none e 52 2 [some (.ref x), some (.int (i + 1))] [] M v M' 0 0) ∨ (¬ ((zI M x 8) ≤ i) ∧ ¬ ((rI M (x + 1) i) = 5) ∧ (0 ≤ i.toInt ∧ i.toInt < 16) ∧ Ev none e 52 2 [some (.ref x), some (.int (i + 1))] [] M v M' 0 0) := by
  have H : Ev none e 52 4 [some (.ref x), some (.int i)] [.ref x, .int i] M v M' 0 0 := Ev.back 2 (fun n => rfl) H
  have H : Ev none e 52 7 [some (.ref x), some (.int i)] [.int (zI M x 8), .int i] M v M' 0 0 := Ev.back 1 (gs_3 rfl rfl (gf_i hS.1 a_x qi_28_8 rfl)) H
  have H : Ev none e 52 (if (zI M x 8) ≤ i then 39 else 10) [some (.ref x), some (.int i)] [] M v M' 0 0 := Ev.back 1 (fun n => rfl) H
  by_cases h1 : (zI M x 8) ≤ i
  · rw [if_pos h1] at H
    have H : Ev none e 52 40 [some (.ref x), some (.int i)] [.int (-1)] M v M' 0 0 := Ev.back 1 (fun n => rfl) H
    obtain ⟨z1, z2⟩ := Ev.retz rfl rfl H
    exact Or.inl ⟨h1, z1, z2⟩
  · rw [if_neg h1] at H
    have H : Ev none e 52 11 [some (.ref x), some (.int i)] [.ref x] M v M' 0 0 := Ev.back 1 (fun n => rfl) H
    have H : Ev none e 52 14 [some (.ref x), some (.int i)] [.ref (x + 1)] M v M' 0 0 := Ev.back 1 (gs_3 rfl rfl (gf_x hS.1 a_x qo_28 (fx_t0 hS a_x) rfl)) H
    have H : Ev none e 52 15 [some (.ref x), some (.int i)] [.int i, .ref (x + 1)] M v M' 0 0 := Ev.back 1 (fun n => rfl) H
    obtain ⟨b2, H⟩ := Ev.ial rfl rfl hS.1 (fx_g0 a_x) qw_29 H
    have H : Ev none e 52 16 [some (.ref x), some (.int i)] [.int (rI M (x + 1) i)] M v M' 0 0 := H
    have H : Ev none e 52 (if (rI M (x + 1) i) = 5 then 20 else 33) [some (.ref x), some (.int i)] [] M v M' 0 0 := Ev.back 2 (fun n => rfl) H
    by_cases h3 : (rI M (x + 1) i) = 5
    · rw [if_pos h3] at H
      have H : Ev none e 52 21 [some (.ref x), some (.int i)] [.ref x] M v M' 0 0 := Ev.back 1 (fun n => rfl) H
      have H : Ev none e 52 24 [some (.ref x), some (.int i)] [.ref (x + 2)] M v M' 0 0 := Ev.back 1 (gs_3 rfl rfl (gf_x hS.1 a_x qo_28 (fx_t1 hS a_x) rfl)) H
      have H : Ev none e 52 25 [some (.ref x), some (.int i)] [.int i, .ref (x + 2)] M v M' 0 0 := Ev.back 1 (fun n => rfl) H
      obtain ⟨b4, H⟩ := Ev.ial rfl rfl hS.1 (fx_g1 a_x) qw_30 H
      have H : Ev none e 52 26 [some (.ref x), some (.int i)] [.int (rI M (x + 2) i)] M v M' 0 0 := H
      have H : Ev none e 52 (if (rI M (x + 2) i) = 6 then 31 else 33) [some (.ref x), some (.int i)] [] M v M' 0 0 := Ev.back 2 (fun n => rfl) H
      by_cases h5 : (rI M (x + 2) i) = 6
      · rw [if_pos h5] at H
        have H : Ev none e 52 32 [some (.ref x), some (.int i)] [.int i] M v M' 0 0 := Ev.back 1 (fun n => rfl) H
        obtain ⟨z1, z2⟩ := Ev.retz rfl rfl H
        exact Or.inr (Or.inl ⟨h1, h3, h5, b2, b4, z1, z2⟩)
      · rw [if_neg h5] at H
        have H : Ev none e 52 2 [some (.ref x), some (.int (i + 1))] [] M v M' 0 0 := Ev.back 2 (fun n => rfl) H
        have HF := H
        exact Or.inr (Or.inr (Or.inl ⟨h1, h3, h5, b2, b4, HF⟩))
    · rw [if_neg h3] at H
      have H : Ev none e 52 2 [some (.ref x), some (.int (i + 1))] [] M v M' 0 0 := Ev.back 2 (fun n => rfl) H
      have HF := H
      exact Or.inr (Or.inr (Or.inr (⟨h1, h3, b2, HF⟩)))
/-! THE CASE turns, of both sides -/
noncomputable def fwR (ls : List Lnq) : Nat → Nat → Option Nat
  | 0, _ => none
  | r + 1, k => match ls[k]? with
    | none => none
    | some l => if l.1 = 5 then (if l.2.1 = 6 then some k else fwR ls r (k + 1)) else fwR ls r (k + 1)
/-- the first line that weighs what it must -/
noncomputable def fwK (ls : List Lnq) : Option Nat := fwR ls ls.length 0
def turN (h w t : Int32) : Prop := ¬ inX h 0 5 ∨ ¬ inX w 1 4 ∨ ¬ inX t 1 100
noncomputable def turA (T : TS) (P : PK) (h w t m : Int32) : Int32 := match fwK (T (h.toInt.toNat + 1)).2 with
  | none => -1
  | some i => turL T (h.toInt.toNat + 1) i t.toInt.toNat w.toInt.toNat m P 10 0
section TURN
variable {e B L i j n tn wn hn : Nat} {T T' : TS} {P P' P0 Q : PK} {PI : Nat → PK} {M M0 M1 M' : Mem} {v : Option Value} {x y k d h w t m : Int32} {q : TQ} {l : Lnq} {ls : List Lnq} {tx : Nat}
theorem fwR_is : ∀ (r k : Nat), fwR ls r k = some j → ∃ l, ls[j]? = some l ∧ l.1 = 5 := by
  intro r
  induction r with
  | zero => intro k h; cases h
  | succ r ih =>
    intro k h
    unfold fwR at h
    cases hk : ls[k]? with
    | none => rw [hk] at h; cases h
    | some l =>
      rw [hk] at h
      dsimp only at h
      by_cases h1 : l.1 = 5
      · rw [if_pos h1] at h
        by_cases h2 : l.2.1 = 6
        · rw [if_pos h2] at h
          cases h
          exact ⟨l, hk, h1⟩
        · rw [if_neg h2] at h
          exact ih (k + 1) h
      · rw [if_neg h1] at h
        exact ih (k + 1) h
theorem lnN_at (hj : q.2[j]? = some l) : (lnN q i x).2[j]? = some (if i = j then (l.1, l.2.1, x, l.2.2.2.1, l.2.2.2.2) else l) := by
  unfold lnN
  dsimp only
  rw [List.getElem?_modify, hj]
  by_cases h : i = j
  · rw [if_pos h]
    simp [h]
  · rw [if_neg h]
    simp [h]
theorem lnN_len : (lnN q i x).2.length = q.2.length := by
  unfold lnN
  exact List.length_modify _ _ _
theorem lnN_of (hj : (lnN q i x).2[j]? = some l) : ∃ l0, q.2[j]? = some l0 ∧ l = if i = j then (l0.1, l0.2.1, x, l0.2.2.2.1, l0.2.2.2.2) else l0 := by
  cases h0 : q.2[j]? with
  | none =>
    have h1 : (lnN q i x).2.length ≤ j := by rw [lnN_len]; exact List.getElem?_eq_none_iff.mp h0
    rw [List.getElem?_eq_none_iff.mpr h1] at hj
    cases hj
  | some l0 =>
    rw [lnN_at h0] at hj
    exact ⟨l0, rfl, (Option.some.inj hj).symm⟩
theorem tv_mod {k d : Int32} : ∀ (ls : List Lnq) (i : Nat), (∀ l, ls[i]? = some l → l.1 ≠ k) → tvS (ls.modify i (fun l => (l.1, l.2.1, x, l.2.2.2.1, l.2.2.2.2))) k d = tvS ls k d := by
  intro ls
  induction ls with
  | nil => intro i _; cases i <;> rfl
  | cons a ls ih =>
    intro i h
    unfold tvS
    cases i with
    | zero =>
      have ha : a.1 ≠ k := h a rfl
      show (match (((a.1, a.2.1, x, a.2.2.2.1, a.2.2.2.2) :: ls) : List Lnq).find? (fun l => decide (l.1 = k)) with
        | some l => l.2.2.1
        | none => d) = _
      rw [List.find?_cons_of_neg (by simpa using ha), List.find?_cons_of_neg (by simpa using ha)]
      rfl
    | succ i =>
      show (match ((a :: ls.modify i (fun l => (l.1, l.2.1, x, l.2.2.2.1, l.2.2.2.2))) : List Lnq).find? (fun l => decide (l.1 = k)) with
        | some l => l.2.2.1
        | none => d) = _
      by_cases ha : a.1 = k
      · rw [List.find?_cons_of_pos (by simpa using ha), List.find?_cons_of_pos (by simpa using ha)]
      · rw [List.find?_cons_of_neg (by simpa using ha), List.find?_cons_of_neg (by simpa using ha)]
        have q := ih i (fun l hl => h l hl)
        unfold tvS at q
        exact q
theorem lnN_tv {k d : Int32} (hi : q.2[i]? = some l) (h5 : l.1 = 5) (hk : k ≠ 5) : tvS (lnN q i x).2 k d = tvS q.2 k d := tv_mod q.2 i (fun l2 h2 => by
  rw [hi] at h2
  cases h2
  exact fun r => hk (r.symm.trans h5))
theorem lnN_lw (h : LW q) (hi : q.2[i]? = some l) (h5 : l.1 = 5) (h0 : 0 ≤ x.toInt) (h9 : x.toInt ≤ 99) : LW (lnN q i x) := by
  intro a ha
  obtain ⟨j, hj⟩ := List.mem_iff_getElem?.mp ha
  obtain ⟨l0, e0, e1⟩ := lnN_of hj
  obtain ⟨b1, b2, b3, b4⟩ := h l0 (List.mem_of_getElem? e0)
  rw [e1]
  by_cases hij : i = j
  · rw [if_pos hij]
    subst hij
    rw [hi] at e0
    cases e0
    obtain ⟨c1, c2, c3, c4, c5⟩ := b1
    refine ⟨⟨h0, by show x.toInt ≤ 999; omega, fun q5 => ⟨h9, (c3 q5).2⟩, fun q2 => ?_, fun q7 => ?_⟩, b2, b3, b4⟩
    · have q2 : l.1 = 2 := q2
      rw [h5] at q2
      cases q2
    · have q7 : l.1 = 7 := q7
      rw [h5] at q7
      cases q7
  · rw [if_neg hij]
    exact ⟨b1, b2, b3, b4⟩
theorem lnN_2 : lnN (lnN q i x) i y = lnN q i y := by
  have e : (lnN (lnN q i x) i y).2 = (lnN q i y).2 := by
    apply List.ext_getElem?
    intro j
    cases h0 : q.2[j]? with
    | none =>
      have h1 := List.getElem?_eq_none_iff.mp h0
      rw [List.getElem?_eq_none_iff.mpr (by rw [lnN_len, lnN_len]; exact h1), List.getElem?_eq_none_iff.mpr (by rw [lnN_len]; exact h1)]
    | some l =>
      rw [lnN_at h0, lnN_at (lnN_at h0)]
      by_cases hij : i = j
      · rw [if_pos hij, if_pos hij, if_pos hij]
      · rw [if_neg hij, if_neg hij, if_neg hij]
  exact Prod.ext rfl e
theorem lnN_self (hi : q.2[i]? = some l) : lnN q i l.2.2.1 = q := by
  have e : (lnN q i l.2.2.1).2 = q.2 := by
    apply List.ext_getElem?
    intro j
    cases h0 : q.2[j]? with
    | none => exact List.getElem?_eq_none_iff.mpr (by rw [lnN_len]; exact List.getElem?_eq_none_iff.mp h0)
    | some l0 =>
      rw [lnN_at h0]
      by_cases hij : i = j
      · rw [if_pos hij]
        subst hij
        rw [hi] at h0
        cases h0
        rfl
      · rw [if_neg hij]
  exact Prod.ext rfl e
theorem setT_h : setT T n i x n = lnN (T n) i x := if_pos rfl
theorem setT_o (h : j ≠ n) : setT T n i x j = T j := if_neg h
theorem setT_2 : setT (setT T n i x) n i y = setT T n i y := by
  funext j
  by_cases h : j = n
  · rw [h, setT_h, setT_h, setT_h, lnN_2]
  · rw [setT_o h, setT_o h, setT_o h]
theorem setT_self (hi : (T n).2[i]? = some l) : setT T n i l.2.2.1 = T := by
  funext j
  by_cases h : j = n
  · rw [h, setT_h, lnN_self hi]
  · rw [setT_o h]
/-! the class's -/
theorem TXT.num (h : TXT M tx q) (hS : SH M) (ht : gNth sT tx = some 28) (hi : q.2[i]? = some l) (h5 : l.1 = 5) : TXT (wI M (tx + 3) i x) tx (lnN q i x) := by
  obtain ⟨⟨a1, a2, a3⟩, a4, a5, a6, a7, a8⟩ := h
  have hF : FZ noF (fun a => a = tx + 3) noO M (wI M (tx + 3) i x) := FZ.wI rfl
  have hi16 : i < 16 := by
    have := (List.getElem?_eq_some_iff.mp hi).1
    omega
  have len : (zrw M (tx + 3)).length = 16 := (hS.row (fx_g2 ht) qw_31).2
  refine ⟨⟨by rw [fI_wI, lnN_len]; exact a1, by rw [lnN_len]; exact a2, fun j b hj => ?_⟩, a4.fz hF (fun q => q) (fun k k1 k2 q => by omega), ?_, ?_, ?_, ?_⟩
  · obtain ⟨l0, e0, e1⟩ := lnN_of hj
    obtain ⟨b1, b2, b3, b4, b5⟩ := a3 j l0 e0
    rw [rN_wI_ne (by omega), rN_wI_ne (by omega), rN_wI_ne (a := tx + 3) (b := tx + 4) (by omega), rN_wI_ne (a := tx + 3) (b := tx + 5) (by omega)]
    rw [e1]
    by_cases hij : i = j
    · rw [if_pos hij, ← hij, rN_wI_eq (by omega)]
      rw [← hij] at b1 b2 b4 b5
      exact ⟨b1, b2, rfl, b4, b5⟩
    · rw [if_neg hij, rN_wI_ne (by omega)]
      exact ⟨b1, b2, b3, b4, b5⟩
  · rw [fI_wI, lnN_tv hi h5 (by decide)]; exact a5
  · rw [fI_wI, lnN_tv hi h5 (by decide)]; exact a6
  · rw [fI_wI, lnN_tv hi h5 (by decide)]; exact a7
  · rw [fI_wI, lnN_tv hi h5 (by decide)]; exact a8
theorem CST.num (h : CST T P PI M) (hd : TXd M) (hh : hn < 6) (ht : oN M 109 hn = tx) (hi : (T (hn + 1)).2[i]? = some l) (h5 : l.1 = 5) (h0 : 0 ≤ x.toInt) (h9 : x.toInt ≤ 99) : CST (setT T (hn + 1) i x) P PI (wI M (tx + 3) i x) ∧ TXd (wI M (tx + 3) i x) := by
  have hg : gNth sT tx = some 28 := ht ▸ hab_t h.1.1 hh
  obtain ⟨⟨c1, c2⟩, c3⟩ := h.2.2.1
  have hF : FZ noF (fun a => a = tx + 3) noO M (wI M (tx + 3) i x) := FZ.wI rfl
  have on : ∀ j, oN (wI M (tx + 3) i x) 109 j = oN M 109 j := fun j => hF.on (fun q => q)
  have e2 : fR (wI M (tx + 3) i x) 104 2 = fR M 104 2 := fR_wI
  have ofar : ∀ t2 q, TXT M t2 q → gNth sT t2 = some 28 → t2 ≠ tx → TXT (wI M (tx + 3) i x) t2 q := fun t2 q hT2 hg2 hne => by
    have hf := tx_far hg2 hg hne
    exact hT2.fz hF (fun _ q => q) (fun k k1 k8 q => by omega)
  refine ⟨h.txt h.1.ki hF hg (fun _ _ q => q.elim) (fun a q => Or.inr (by omega)) (fun _ q => q.elim) ⟨⟨?_, ?_⟩, fun j hj => ?_⟩, hd.same e2 fR_wI on⟩
  · rw [e2, setT_o (by omega)]
    refine ofar _ _ c1 (law_t h.1.1) (fun q => ?_)
    have := hd 0 (hn + 1) (by decide) (by omega) (by
      show fR M 104 2 = txr M (hn + 1)
      unfold txr
      rw [if_neg (by omega), if_neg (by omega), q]
      exact ht.symm)
    omega
  · rw [setT_o (by omega)]; exact c2
  · rw [on]
    by_cases hj2 : j = hn
    · subst hj2
      rw [ht, setT_h]
      obtain ⟨d1, d2⟩ := c3 j hj
      rw [ht] at d1
      exact ⟨d1.num h.1.1 hg hi h5, lnN_lw d2 hi h5 h0 h9⟩
    · rw [setT_o (by omega)]
      refine ⟨ofar _ _ (c3 j hj).1 (hab_t h.1.1 hj) (fun q => ?_), (c3 j hj).2⟩
      have := hd (j + 1) (hn + 1) (by omega) (by omega) (by
        unfold txr
        rw [if_neg (by omega), if_neg (by omega), if_neg (by omega), if_neg (by omega)]
        exact q.trans ht.symm)
      omega
theorem TXd.tri (h : TXd M) (hF : FZ triF triW triO M M') : TXd M' ∧ ∀ j, oN M' 109 j = oN M 109 j := by
  have on : ∀ j, oN M' 109 j = oN M 109 j := fun j => hF.on (by unfold triO; decide)
  exact ⟨h.same (hF.fr (by unfold triF; omega)) (hF.fr (by unfold triF; omega)) on, on⟩
theorem fwl_l (hS : SQ M) (ht : gNth sT tx = some 28) (hT : TXT M tx q) : ∀ (r k : Nat) (z : Int32), z.toInt = (k : Int) → k + r = q.2.length → Ev none e 52 2 [some (.ref tx), some (.int z)] [] M v M' 0 0 → M' = M ∧ ((fwR q.2 r k = none ∧ v = some (.int (-1))) ∨ ∃ i, fwR q.2 r k = some i ∧ ∃ y : Int32, v = some (.int y) ∧ y.toInt = (i : Int)) := by
  obtain ⟨⟨a1, a2, a3⟩, _⟩ := hT
  intro r
  induction r with
  | zero =>
    intro k z hz hk H
    rcases fwl_2 hS ht H with ⟨_, r1, r2⟩ | ⟨b1, _⟩ | ⟨b1, _⟩ | ⟨b1, _⟩
    · exact ⟨r2, Or.inl ⟨rfl, r1⟩⟩
    all_goals exact absurd (Int32.le_iff_toInt_le.mpr (by omega)) b1
  | succ r ih =>
    intro k z hz hk H
    obtain ⟨l, hl⟩ : ∃ l, q.2[k]? = some l := ⟨_, List.getElem?_eq_getElem (by omega)⟩
    obtain ⟨b1, b2, _⟩ := a3 k l hl
    have e1 : rI M (tx + 1) z = l.1 := (rI_n hz).trans b1
    have e2 : rI M (tx + 2) z = l.2.1 := (rI_n hz).trans b2
    have z1 : (z + 1).toInt = ((k + 1 : Nat) : Int) := by rw [i32_p1 (by omega)]; omega
    unfold fwR
    rw [hl]
    dsimp only
    rcases fwl_2 hS ht H with ⟨c, _⟩ | ⟨_, c1, c2, _, _, r1, r2⟩ | ⟨_, c1, c2, _, _, H⟩ | ⟨_, c1, _, H⟩
    · have := Int32.le_iff_toInt_le.mp c
      omega
    · rw [e1] at c1
      rw [e2] at c2
      rw [if_pos c1, if_pos c2]
      exact ⟨r2, Or.inr ⟨k, rfl, z, r1, hz⟩⟩
    · rw [e1] at c1
      rw [e2] at c2
      rw [if_pos c1, if_neg c2]
      exact ih (k + 1) (z + 1) z1 (by omega) H
    · rw [e1] at c1
      rw [if_neg c1]
      exact ih (k + 1) (z + 1) z1 (by omega) H
theorem tuc_w (hw : w.toInt = (wn : Int)) (ht : t.toInt = (tn : Int)) (t100 : tn ≤ 100) {li told an nz : Int32} (hg : gNth sT tx = some 28) : ∀ (s : Nat) (kz : Int32) (B : Nat) (Q : PK) (M : Mem), TRI T' P PI B (-1) [] Q M → TXd M → 0 ≤ kz.toInt → kz.toInt + (s : Int) = (wn : Int) → B + 60 * tn * s ≤ 100000000 → Ev none e 103 103 [some (.ref 0), some (.int h), some (.int w), some (.int t), some (.int m), some (.ref tx), some (.int li), some (.int told), some (.int an), some (.int nz), some (.int kz)] [] M v M' 0 0 → ∃ M2 kz2, CST T' P PI M2 ∧ TXd M2 ∧ (∀ j, oN M2 109 j = oN M 109 j) ∧ Ev none e 103 127 [some (.ref 0), some (.int h), some (.int w), some (.int t), some (.int m), some (.ref tx), some (.int li), some (.int told), some (.int an), some (.int nz), some (.int kz2)] [.int (nwP (T' 0) (wkN T' tn s Q))] M2 v M' 0 0 := by
  intro s
  induction s with
  | zero =>
    intro kz B Q M hR hd h0 hk hB H
    rcases tuc_103 hR.2.1.sq hg H with ⟨_, e1, v1, M1, _, H1, H⟩ | ⟨a1, _⟩
    · obtain ⟨rm, rv⟩ := wcl_ok hR.2.1.1 hR.2.1.2.2.1.1 hR.2.1.2.2.1.2.1 H1
      rw [rm, rv] at H
      exact ⟨M, kz, hR.1, hd, fun _ => rfl, H⟩
    · exact absurd (Int32.le_iff_toInt_le.mpr (by omega)) a1
  | succ s ih =>
    intro kz B Q M hR hd h0 hk hB H
    rcases tuc_103 hR.2.1.sq hg H with ⟨a1, _⟩ | ⟨_, e1, v1, M1, _, H1, H⟩
    · have := Int32.le_iff_toInt_le.mp a1
      omega
    · have hm : 60 * tn * (s + 1) = 60 * tn * s + 60 * tn := by rw [Nat.mul_add, Nat.mul_one]
      have ub := i32_any w
      obtain ⟨rv, q1, F1⟩ := onk_ok hR (n := tn) (by omega) ht H1
      rw [rv] at H
      obtain ⟨d1, o1⟩ := hd.tri F1
      obtain ⟨M2, kz2, s1, s2, s3, s4⟩ := ih (kz + 1) _ _ M1 q1 d1 (by rw [i32_p1 (by omega)]; omega) (by rw [i32_p1 (by omega)]; omega) (by omega) (tuc_114 q1.2.1.sq hg H)
      exact ⟨M2, kz2, s1, s2, fun j => (s3 j).trans (o1 j), s4⟩
theorem tuc_l (hw : w.toInt = (wn : Int)) (ht : t.toInt = (tn : Int)) (w4 : wn ≤ 4) (t100 : tn ≤ 100) (hh : hn < 6) {li : Int32} (hi : (T (hn + 1)).2[i]? = some l) (h5 : l.1 = 5) (hli : li.toInt = (i : Int)) (hLW : LW (T (hn + 1))) (hg : gNth sT tx = some 28) : ∀ (r : Nat) (nz y : Int32) (c10 : Option Value) (M : Mem), CST (setT T (hn + 1) i y) P PI M → TXd M → oN M 109 hn = tx → 0 ≤ nz.toInt → nz.toInt + (r : Int) = 10 → Ev none e 103 73 [some (.ref 0), some (.int h), some (.int w), some (.int t), some (.int m), some (.ref tx), some (.int li), some (.int l.2.2.1), some (.int (-1)), some (.int nz), c10] [] M v M' 0 0 → v = some (.int (turL T (hn + 1) i tn wn m P r nz)) ∧ CST T P PI M' ∧ TXd M' := by
  have z9 : (9 : Int32).toInt = 9 := rfl
  have nl := (hLW l (List.mem_of_getElem? hi)).1
  have fin : ∀ (y : Int32) (M : Mem), CST (setT T (hn + 1) i y) P PI M → TXd M → oN M 109 hn = tx → M' = wI M (tx + 3) li.toNatClampNeg l.2.2.1 → CST T P PI M' ∧ TXd M' := fun y M hC hd ho eM => by
    have q := hC.num (x := l.2.2.1) hd hh ho (by rw [setT_h]; exact lnN_at hi) (by rw [if_pos rfl]; exact h5) nl.1 (nl.2.2.1 h5).1
    rw [setT_2, setT_self hi] at q
    rw [eM, cl_n hli]
    exact q
  intro r
  induction r with
  | zero =>
    intro nz y c10 M hC hd ho h0 hr H
    rcases tuc_73 hC.sq hg H with ⟨_, _, r1, r2⟩ | ⟨a1, _⟩ | ⟨a1, _⟩
    · exact ⟨r1, fin y M hC hd ho r2⟩
    all_goals exact absurd (Int32.lt_iff_toInt_lt.mpr (by omega)) a1
  | succ r ih =>
    intro nz y c10 M hC hd ho h0 hr H
    rcases tuc_73 hC.sq hg H with ⟨a1, _⟩ | ⟨_, _, _, e1, v1, M1, _, H1, H⟩ | ⟨_, a1, _⟩
    · have := Int32.lt_iff_toInt_lt.mp a1
      omega
    · rw [cl_n hli] at H1
      obtain ⟨C1, d1⟩ := hC.num (x := nz) hd hh ho (by rw [setT_h]; exact lnN_at hi) (by rw [if_pos rfl]; exact h5) h0 (by omega)
      rw [setT_2] at C1
      have o1 : oN (wI M (tx + 3) i nz) 109 hn = tx := ((show FZ noF (fun a => a = tx + 3) noO M (wI M (tx + 3) i nz) from FZ.wI rfl).on (fun q => q)).trans ho
      obtain ⟨rv, q1, _, F1⟩ := opcT_ok C1 H1
      rw [rv] at H
      obtain ⟨d2, o2⟩ := d1.tri F1
      have hb := C1.ok.bud
      have hm : 60 * tn * wn ≤ 60 * 100 * 4 := Nat.mul_le_mul (Nat.mul_le_mul_left _ t100) w4
      obtain ⟨M2, kz2, s1, s2, s3, s4⟩ := tuc_w (T' := setT T (hn + 1) i nz) hw ht t100 hg wn 0 _ P M1 q1 d2 (by decide) (by have z0 : (0 : Int32).toInt = 0 := rfl; omega) (by omega) (tuc_100 q1.2.1.sq hg H)
      rw [setT_o (by omega)] at s4
      have o3 : oN M2 109 hn = tx := (s3 hn).trans ((o2 hn).trans o1)
      unfold turL
      rcases tuc_127 s1.sq hg s4 with ⟨b1, H⟩ | ⟨b1, H⟩
      · rw [if_neg (fun q => by
          have := Int32.le_iff_toInt_le.mp q
          have := Int32.lt_iff_toInt_lt.mp b1
          omega)]
        exact ih (nz + 1) nz _ M2 s1 s2 o3 (by rw [i32_p1 (by omega)]; omega) (by rw [i32_p1 (by omega)]; omega) H
      · rw [if_pos (Int32.le_iff_toInt_le.mpr (by
          have : ¬ m.toInt < (nwP (T 0) (wkN (setT T (hn + 1) i nz) tn wn P)).toInt := fun q => b1 (Int32.lt_iff_toInt_lt.mpr q)
          omega))]
        have nm : ¬ nz = -1 := fun q => by
          rw [q] at h0
          exact absurd h0 (by decide)
        rcases tuc_73 s1.sq hg H with ⟨_, _, r1, r2⟩ | ⟨_, a1, _⟩ | ⟨_, _, _, r1, r2⟩
        · exact ⟨r1, fin nz M2 s1 s2 o3 r2⟩
        · exact absurd a1 nm
        · exact ⟨r1, fin nz M2 s1 s2 o3 r2⟩
    · exact absurd rfl a1
theorem turns_ok (h9 : CST T P PI M) (hd : TXd M) (H : Ev none e 103 0 [some (.ref 0), some (.int h), some (.int w), some (.int t), some (.int m), none, none, none, none, none, none] [] M v M' 0 0) : CST T P PI M' ∧ TXd M' ∧ ((turN h w t ∧ v = some (.int (-2))) ∨ (¬ turN h w t ∧ v = some (.int (turA T P h w t m)))) := by
  unfold turN
  rcases tuc_0 h9.sq H with ⟨a1, r1, r2⟩ | ⟨_, a1, r1, r2⟩ | ⟨_, _, a1, r1, r2⟩ | ⟨a1, a2, a3, h6, e1, v1, M1, _, H1, H⟩
  · rw [g126_R] at a1
    rw [r2]
    exact ⟨h9, hd, Or.inl ⟨Or.inl a1, r1⟩⟩
  · rw [g126_R] at a1
    rw [r2]
    exact ⟨h9, hd, Or.inl ⟨Or.inr (Or.inl a1), r1⟩⟩
  · rw [g126_R] at a1
    rw [r2]
    exact ⟨h9, hd, Or.inl ⟨Or.inr (Or.inr a1), r1⟩⟩
  · rw [g126_R, Classical.not_not] at a1 a2 a3
    obtain ⟨hn, eh⟩ : ∃ hn : Nat, h.toInt = (hn : Int) := ⟨h.toInt.toNat, by omega⟩
    have hn6 : hn < 6 := by omega
    have eo : oI M 109 h = oN M 109 hn := by
      unfold oI
      rw [cl_n eh]
    have hg : gNth sT (oN M 109 hn) = some 28 := hab_t h9.1.1 hn6
    rw [eo] at H1 H
    obtain ⟨hT, hLW⟩ := h9.2.2.1.2 hn hn6
    obtain ⟨rm, rv⟩ := fwl_l h9.sq hg hT (T (hn + 1)).2.length 0 0 rfl (by omega) (fwl_0 h9.sq hg H1)
    rw [rm] at H
    have w1 : 1 ≤ w.toInt := a2.1
    have w4 : w.toInt ≤ 4 := a2.2
    have t1 : 1 ≤ t.toInt := a3.1
    have t100 : t.toInt ≤ 100 := a3.2
    have ng : ¬ (¬ inX h 0 5 ∨ ¬ inX w 1 4 ∨ ¬ inX t 1 100) := fun q => by
      rcases q with q | q | q
      · exact q a1
      · exact q a2
      · exact q a3
    have eA : turA T P h w t m = match fwR (T (hn + 1)).2 (T (hn + 1)).2.length 0 with
        | none => -1
        | some i => turL T (hn + 1) i t.toInt.toNat w.toInt.toNat m P 10 0 := by
      unfold turA fwK
      rw [show h.toInt.toNat = hn by omega]
    rw [eA]
    rcases rv with ⟨b1, rv⟩ | ⟨i, b1, y, rv, hy⟩
    · rw [rv] at H
      rw [b1]
      rcases tuc_47 h9.sq hg H with ⟨_, r1, r2⟩ | ⟨q, _⟩
      · rw [r2]
        exact ⟨h9, hd, Or.inr ⟨ng, r1⟩⟩
      · exact absurd rfl q
    · rw [rv] at H
      rw [b1]
      obtain ⟨l, hl, h5⟩ := fwR_is _ 0 b1
      rcases tuc_47 h9.sq hg H with ⟨q, _⟩ | ⟨_, _, H⟩
      · rw [q] at hy
        have : (-1 : Int32).toInt = -1 := rfl
        omega
      · have et : rI M (oN M 109 hn + 3) y = l.2.2.1 := (rI_n hy).trans (hT.1.2.2 i l hl).2.2.1
        rw [et] at H
        obtain ⟨r1, r2, r3⟩ := tuc_l (T := T) (tn := t.toInt.toNat) (wn := w.toInt.toNat) (by omega) (by omega) (by omega) (by omega) hn6 hl h5 hy hLW hg 10 0 l.2.2.1 none M (by rw [setT_self hl]; exact h9) hd rfl (by decide) rfl H
        exact ⟨r2, r3, Or.inr ⟨ng, r1⟩⟩
end TURN
/-! THE REFERENCE'S turns, paved, wait -/
def pavN (w ws t wh : Int32) : Prop := ¬ inX ws 1 20 ∨ ¬ inX w 1 ws ∨ ¬ inX t 1 200 ∨ ¬ inX wh 0 2
noncomputable def pavA (T : TS) (P : PK) (w ws t wh : Int32) : Int32 := if wh = 0 then nwP (T 0) (wkN T t.toInt.toNat w.toInt.toNat P) else if wh = 1 then aloP2 (T 0) (wkN T t.toInt.toNat w.toInt.toNat P) (wkN T t.toInt.toNat ws.toInt.toNat P) (clsP P) 0 0 else aloP2 (T 0) (wkN T t.toInt.toNat ws.toInt.toNat P) (wkN T t.toInt.toNat w.toInt.toNat P) (clsP P) 0 0
def waiN (ws t : Int32) : Prop := ¬ inX ws 1 20 ∨ ¬ inX t 1 200
noncomputable def waiS (T : TS) (P : PK) (ws t w : Int32) : Int32 := pavA T P w ws t 1 + pavA T P w ws t 2 + w
noncomputable def waiL (T : TS) (P : PK) (ws t : Int32) : Nat → Int32 → Int32 → Int32 → Int32
  | 0, _, be, _ => be
  | r + 1, w, be, le => if be < 0 ∨ waiS T P ws t w < le then waiL T P ws t r (w + 1) w (waiS T P ws t w) else waiL T P ws t r (w + 1) be le
section RTUR
variable {e B L i j n tn wn hn : Nat} {T T' : TS} {P P' P0 Q A Z : PK} {PI : Nat → PK} {M M0 M1 M' : Mem} {v : Option Value} {x y k d h w ws t m wh : Int32} {q : TQ} {l : Lnq} {ls : List Lnq}
theorem RST.num (h : RST T P M) (n1 : 1 ≤ n) (n7 : n < 7) (hi : (T n).2[i]? = some l) (h5 : l.1 = 5) (h0 : 0 ≤ x.toInt) (h9 : x.toInt ≤ 99) : RST (setT T n i x) P (wI M 642 (16 * n + i) x) := by
  obtain ⟨a1, a2, a3, a4⟩ := h
  have len : (zrw M 642).length = 128 := (a1.1.row qa_642 qw_70).2
  refine ⟨a1.ki, fun j hj => (rN_wI_ne (by omega)).trans (a2 j hj), ?_, fun s hs => ?_⟩
  · rw [fI_wI, fI_wI, fI_wI, setT_o (by omega)]
    exact a3
  · obtain ⟨⟨⟨⟨b1, b2, b3⟩, b4⟩, b5⟩, b6⟩ := a4 s hs
    by_cases hsn : s = n
    · subst hsn
      rw [setT_h]
      have hi16 : i < 16 := by
        have := (List.getElem?_eq_some_iff.mp hi).1
        omega
      refine ⟨⟨⟨⟨by rw [rN_wI_ne (by omega), lnN_len]; exact b1, by rw [lnN_len]; exact b2, fun j b hj => ?_⟩, fun j c hj hc => ?_⟩, lnN_lw b5 hi h5 h0 h9⟩, b6⟩
      · obtain ⟨l0, e0, e1⟩ := lnN_of hj
        obtain ⟨d1, d2, d3, d4, d5⟩ := b3 j l0 e0
        rw [rN_wI_ne (by omega), rN_wI_ne (by omega), rN_wI_ne (a := 642) (b := 643) (by omega), rN_wI_ne (a := 642) (b := 644) (by omega)]
        rw [e1]
        by_cases hij : i = j
        · rw [if_pos hij, ← hij, rN_wI_eq (by omega)]
          rw [← hij] at d1 d2 d4 d5
          exact ⟨d1, d2, rfl, d4, d5⟩
        · rw [if_neg hij, rN_wI_ne (by omega)]
          exact ⟨d1, d2, d3, d4, d5⟩
      · rw [rN_wI_ne (by omega), rN_wI_ne (by omega), rN_wI_ne (by omega)]
        exact b4 j c hj hc
    · rw [setT_o hsn]
      have hi16 : i < 16 := by
        have h1 := (List.getElem?_eq_some_iff.mp hi).1
        have h2 := (a4 n n7).1.1.1.2.1
        omega
      refine ⟨⟨⟨⟨by rw [rN_wI_ne (by omega)]; exact b1, b2, fun j b hj => ?_⟩, fun j c hj hc => ?_⟩, b5⟩, b6⟩
      · have hj16 : j < 16 := by
          have := (List.getElem?_eq_some_iff.mp hj).1
          omega
        rw [rN_wI_ne (by omega), rN_wI_ne (by omega), rN_wI_ne (by omega), rN_wI_ne (by omega), rN_wI_ne (by omega)]
        exact b3 j b hj
      · rw [rN_wI_ne (by omega), rN_wI_ne (by omega), rN_wI_ne (by omega)]
        exact b4 j c hj hc
theorem trq_f (hR : RST T P M) (hh : h.toInt = (hn : Int)) (hn6 : hn < 6) : ∀ (r k : Nat) (kz : Int32), kz.toInt = ((16 * (hn + 1) + k : Nat) : Int) → k + r = (T (hn + 1)).2.length → Ev none e 229 47 [some (.ref 633), some (.int h), some (.int w), some (.int t), some (.int m), some (.int (-1)), some (.int kz), none, none, none] [] M v M' 0 0 → (fwR (T (hn + 1)).2 r k = none ∧ v = some (.int (-1)) ∧ M' = M) ∨ ∃ i, fwR (T (hn + 1)).2 r k = some i ∧ ∃ y : Int32, y.toInt = ((16 * (hn + 1) + i : Nat) : Int) ∧ Ev none e 229 127 [some (.ref 633), some (.int h), some (.int w), some (.int t), some (.int m), some (.int y), some (.int (rI M 642 y)), some (.int (-1)), some (.int 0), none] [] M v M' 0 0 := by
  obtain ⟨⟨⟨⟨b1, b2, b3⟩, b4⟩, b5⟩, b6⟩ := hR.2.2.2 (hn + 1) (by omega)
  have z1 : (1 : Int32).toInt = 1 := rfl
  have z16 : (16 : Int32).toInt = 16 := rfl
  have h1 : (1 + h).toInt = ((hn + 1 : Nat) : Int) := by rw [i32_add (by omega) (by omega)]; omega
  have m16 : (16 * (1 + h)).toInt = 16 * (1 + h).toInt := i32_mul (by rw [z16]; omega) (by rw [z16]; omega)
  have er : (rI M 639 (1 + h)).toInt = ((T (hn + 1)).2.length : Int) := by rw [rI_n h1]; exact b1
  have eb : (16 * (1 + h) + rI M 639 (1 + h)).toInt = 16 * (hn + 1 : Nat) + ((T (hn + 1)).2.length : Int) := by rw [i32_add (by omega) (by omega)]; omega
  have t1 : (-1 : Int32).toInt = -1 := rfl
  have no : ¬ (0 : Int32) ≤ -1 := by decide
  intro r
  induction r with
  | zero =>
    intro k kz hz hk H
    have nb : (16 * (1 + h) + rI M 639 (1 + h)) ≤ kz := Int32.le_iff_toInt_le.mpr (by omega)
    rcases trq_47 hR.1 H with ⟨_, _, H⟩ | ⟨a1, _⟩ | ⟨a1, _⟩ | ⟨a1, _⟩ | ⟨a1, _⟩
    · rcases trq_105 hR.1 H with ⟨q, _⟩ | ⟨_, r1, r2⟩
      · exact absurd q no
      · exact Or.inl ⟨rfl, r1, r2⟩
    all_goals exact absurd nb a1
  | succ r ih =>
    intro k kz hz hk H
    obtain ⟨l, hl⟩ : ∃ l, (T (hn + 1)).2[k]? = some l := ⟨_, List.getElem?_eq_getElem (by omega)⟩
    obtain ⟨d1, d2, _⟩ := b3 k l hl
    have e1 : rI M 640 kz = l.1 := (rI_n hz).trans d1
    have e2 : rI M 641 kz = l.2.1 := (rI_n hz).trans d2
    have zk : (kz + 1).toInt = ((16 * (hn + 1) + (k + 1) : Nat) : Int) := by rw [i32_p1 (by omega)]; omega
    unfold fwR
    rw [hl]
    dsimp only
    rcases trq_47 hR.1 H with ⟨c, _⟩ | ⟨_, c, _⟩ | ⟨_, _, c1, c2, _, _, _, H⟩ | ⟨_, _, c1, c2, _, _, _, H⟩ | ⟨_, _, c1, _, _, H⟩
    · have := Int32.le_iff_toInt_le.mp c
      omega
    · exact absurd c no
    · rw [e1] at c1
      rw [e2] at c2
      rw [if_pos c1, if_pos c2]
      have pos : (0 : Int32) ≤ kz := Int32.le_iff_toInt_le.mpr (by have z0 : (0 : Int32).toInt = 0 := rfl; omega)
      have fi : Ev none e 229 105 [some (.ref 633), some (.int h), some (.int w), some (.int t), some (.int m), some (.int kz), some (.int (kz + 1)), none, none, none] [] M v M' 0 0 → Ev none e 229 127 [some (.ref 633), some (.int h), some (.int w), some (.int t), some (.int m), some (.int kz), some (.int (rI M 642 kz)), some (.int (-1)), some (.int 0), none] [] M v M' 0 0 := fun H => by
        rcases trq_105 hR.1 H with ⟨_, _, H⟩ | ⟨q, _⟩
        · exact H
        · exact absurd pos q
      refine Or.inr ⟨k, rfl, kz, hz, ?_⟩
      rcases trq_47 hR.1 H with ⟨_, _, H⟩ | ⟨_, _, _, H⟩ | ⟨_, q, _⟩ | ⟨_, q, _⟩ | ⟨_, q, _⟩
      · exact fi H
      · exact fi H
      all_goals exact absurd pos q
    · rw [e1] at c1
      rw [e2] at c2
      rw [if_pos c1, if_neg c2]
      exact ih (k + 1) (kz + 1) zk (by omega) H
    · rw [e1] at c1
      rw [if_neg c1]
      exact ih (k + 1) (kz + 1) zk (by omega) H
theorem trq_w (hw : w.toInt = (wn : Int)) (ht : t.toInt = (tn : Int)) {xx was f nz : Int32} : ∀ (s : Nat) (jz : Int32) (Q : PK) (M : Mem), RTR T' Q P0 M → 0 ≤ jz.toInt → jz.toInt + (s : Int) = (wn : Int) → Ev none e 229 155 [some (.ref 633), some (.int h), some (.int w), some (.int t), some (.int m), some (.int xx), some (.int was), some (.int f), some (.int nz), some (.int jz)] [] M v M' 0 0 → ∃ M2 jz2, RTR T' (wkN T' tn s Q) P0 M2 ∧ Ev none e 229 176 [some (.ref 633), some (.int h), some (.int w), some (.int t), some (.int m), some (.int xx), some (.int was), some (.int f), some (.int nz), some (.int jz2)] [.int (nwP (T' 0) (wkN T' tn s Q))] M2 v M' 0 0 := by
  intro s
  induction s with
  | zero =>
    intro jz Q M hR h0 hk H
    rcases trq_155 hR.1.1 H with ⟨_, e1, v1, M1, _, H1, H⟩ | ⟨a1, _⟩
    · obtain ⟨rm, rv⟩ := rwmn_ok hR.1 hR.2.1.1 H1
      rw [rm, rv] at H
      exact ⟨M, jz, hR, H⟩
    · exact absurd (Int32.le_iff_toInt_le.mpr (by omega)) a1
  | succ s ih =>
    intro jz Q M hR h0 hk H
    have ub := i32_any w
    rcases trq_155 hR.1.1 H with ⟨a1, _⟩ | ⟨_, e1, v1, M1, _, H1, H⟩
    · have := Int32.le_iff_toInt_le.mp a1
      omega
    · obtain ⟨rv, q1, _⟩ := rgo_ok hR ht H1
      rw [rv] at H
      exact ih (jz + 1) _ M1 q1 (by rw [i32_p1 (by omega)]; omega) (by rw [i32_p1 (by omega)]; omega) (trq_166 q1.1.1 H)
theorem trq_l (hw : w.toInt = (wn : Int)) (ht : t.toInt = (tn : Int)) (hn6 : hn < 6) (hD : okD P) (hK : okK P) {xx : Int32} (hi : (T (hn + 1)).2[i]? = some l) (h5 : l.1 = 5) (hx : xx.toInt = ((16 * (hn + 1) + i : Nat) : Int)) (hLW : LW (T (hn + 1))) : ∀ (r : Nat) (nz y : Int32) (c9 : Option Value) (M : Mem), RST (setT T (hn + 1) i y) P M → (∃ b, zI M 633 42 = bI b) → 0 ≤ nz.toInt → nz.toInt + (r : Int) = 10 → Ev none e 229 127 [some (.ref 633), some (.int h), some (.int w), some (.int t), some (.int m), some (.int xx), some (.int l.2.2.1), some (.int (-1)), some (.int nz), c9] [] M v M' 0 0 → v = some (.int (turL T (hn + 1) i tn wn m P r nz)) ∧ RST T P M' := by
  have z10 : (10 : Int32).toInt = 10 := rfl
  have nl := (hLW l (List.mem_of_getElem? hi)).1
  have fin : ∀ (y : Int32) (M : Mem), RST (setT T (hn + 1) i y) P M → M' = wI M 642 xx.toNatClampNeg l.2.2.1 → RST T P M' := fun y M hC eM => by
    have q := hC.num (n := hn + 1) (x := l.2.2.1) (by omega) (by omega) (by rw [setT_h]; exact lnN_at hi) (by rw [if_pos rfl]; exact h5) nl.1 (nl.2.2.1 h5).1
    rw [setT_2, setT_self hi] at q
    rw [eM, cl_n hx]
    exact q
  intro r
  induction r with
  | zero =>
    intro nz y c9 M hC hb h0 hr H
    rcases trq_127 hC.1 H with ⟨_, _, r1, r2⟩ | ⟨a1, _⟩ | ⟨a1, _⟩
    · exact ⟨r1, fin y M hC r2⟩
    all_goals exact absurd (Int32.le_iff_toInt_le.mpr (by omega)) a1
  | succ r ih =>
    intro nz y c9 M hC hb h0 hr H
    rcases trq_127 hC.1 H with ⟨a1, _⟩ | ⟨_, a1, _⟩ | ⟨_, _, _, e1, v1, M1, _, H1, H⟩
    · have := Int32.le_iff_toInt_le.mp a1
      omega
    · exact absurd a1 (by decide)
    · rw [cl_n hx] at H1
      have C1 := hC.num (n := hn + 1) (x := nz) (by omega) (by omega) (by rw [setT_h]; exact lnN_at hi) (by rw [if_pos rfl]; exact h5) h0 (by omega)
      rw [setT_2] at C1
      obtain ⟨rv, q1, _⟩ := RTR.mk0 C1 hD hK (by obtain ⟨b, hb⟩ := hb; exact ⟨b, by rw [fI_wI]; exact hb⟩) H1
      rw [rv] at H
      obtain ⟨M2, jz2, q2, H⟩ := trq_w hw ht wn 0 P M1 q1 (by decide) (by have z0 : (0 : Int32).toInt = 0 := rfl; omega) (trq_152 q1.1.1 H)
      rw [setT_o (by omega)] at H
      obtain ⟨b2, hb2⟩ := q2.2.2.2.1
      unfold turL
      rcases trq_176 q2.1.1 H with ⟨b1, e3, v3, M3, _, H3, H⟩ | ⟨b1, e3, v3, M3, _, H3, H⟩
      · rw [if_neg (fun q => by
          have := Int32.le_iff_toInt_le.mp q
          have := Int32.lt_iff_toInt_lt.mp b1
          omega)]
        obtain ⟨rv3, q3, F3⟩ := q2.bk H3
        rw [rv3] at H
        exact ih (nz + 1) nz _ M3 q3 ⟨b2, (F3.fi (fun q => q)).trans hb2⟩ (by rw [i32_p1 (by omega)]; omega) (by rw [i32_p1 (by omega)]; omega) (trq_189 q3.1 H)
      · rw [if_pos (Int32.le_iff_toInt_le.mpr (by
          have : ¬ m.toInt < (nwP (T 0) (wkN (setT T (hn + 1) i nz) tn wn P)).toInt := fun q => b1 (Int32.lt_iff_toInt_lt.mpr q)
          omega))]
        obtain ⟨rv3, q3, F3⟩ := q2.bk H3
        rw [rv3] at H
        have pos : (0 : Int32) ≤ nz := Int32.le_iff_toInt_le.mpr (by have z0 : (0 : Int32).toInt = 0 := rfl; omega)
        rcases trq_127 q3.1 (trq_189 q3.1 H) with ⟨_, _, r1, r2⟩ | ⟨_, _, _, r1, r2⟩ | ⟨_, q, _⟩
        · exact ⟨r1, fin nz M3 q3 r2⟩
        · exact ⟨r1, fin nz M3 q3 r2⟩
        · exact absurd pos q
theorem rturns_ok (hR : RST T P M) (hD : okD P) (hK : okK P) (hb : ∃ b, zI M 633 42 = bI b) (H : Ev none e 229 0 [some (.ref 633), some (.int h), some (.int w), some (.int t), some (.int m), none, none, none, none, none] [] M v M' 0 0) : RST T P M' ∧ ((turN h w t ∧ v = some (.int (-2))) ∨ (¬ turN h w t ∧ v = some (.int (turA T P h w t m)))) := by
  have h0 := hR.w0 0 (by decide) 0
  have hb0 : ∃ b, zI (wF M 633 0 0) 633 42 = bI b := by
    obtain ⟨b, hb⟩ := hb
    exact ⟨b, by rw [fI_wF_ne (by decide)]; exact hb⟩
  unfold turN
  rcases trq_0 hR.1 H with ⟨a1, r1, r2⟩ | ⟨_, a1, r1, r2⟩ | ⟨_, _, a1, r1, r2⟩ | ⟨a1, a2, a3, H⟩
  · rw [g140_R] at a1
    exact ⟨r2 ▸ h0, Or.inl ⟨Or.inl a1, r1⟩⟩
  · rw [g140_R] at a1
    exact ⟨r2 ▸ h0, Or.inl ⟨Or.inr (Or.inl a1), r1⟩⟩
  · rw [g140_R] at a1
    exact ⟨r2 ▸ h0, Or.inl ⟨Or.inr (Or.inr a1), r1⟩⟩
  · rw [g140_R, Classical.not_not] at a1 a2 a3
    have g0 : 0 ≤ h.toInt := a1.1
    have g5 : h.toInt ≤ 5 := a1.2
    have w1 : 1 ≤ w.toInt := a2.1
    have t1 : 1 ≤ t.toInt := a3.1
    have ng : ¬ (¬ inX h 0 5 ∨ ¬ inX w 1 4 ∨ ¬ inX t 1 100) := fun q => by
      rcases q with q | q | q
      · exact q a1
      · exact q a2
      · exact q a3
    have z1 : (1 : Int32).toInt = 1 := rfl
    have z16 : (16 : Int32).toInt = 16 := rfl
    have h1 : (1 + h).toInt = 1 + h.toInt := i32_add (by omega) (by omega)
    have m16 : (16 * (1 + h)).toInt = 16 * (1 + h).toInt := i32_mul (by rw [z16]; omega) (by rw [z16]; omega)
    have hT := (h0.2.2.2 (h.toInt.toNat + 1) (by omega)).1
    unfold turA fwK
    rcases trq_f h0 (hn := h.toInt.toNat) (by omega) (by omega) (T (h.toInt.toNat + 1)).2.length 0 (16 * (1 + h)) (by omega) (by omega) H with ⟨b1, r1, r2⟩ | ⟨i, b1, y, hy, H⟩
    · rw [b1]
      exact ⟨r2 ▸ h0, Or.inr ⟨ng, r1⟩⟩
    · rw [b1]
      obtain ⟨l, hl, h5⟩ := fwR_is _ 0 b1
      have et : rI (wF M 633 0 0) 642 y = l.2.2.1 := (rI_n hy).trans (hT.1.1.2.2 i l hl).2.2.1
      rw [et] at H
      obtain ⟨r1, r2⟩ := trq_l (T := T) (tn := t.toInt.toNat) (wn := w.toInt.toNat) (by omega) (by omega) (by omega) hD hK hl h5 hy hT.2 10 0 l.2.2.1 none _ (by rw [setT_self hl]; exact h0) hb0 (by decide) rfl H
      exact ⟨r2, Or.inr ⟨ng, r1⟩⟩
/-! paved -/
theorem wkN_s : ∀ (r : Nat) (P : PK), wkN T n (r + 1) P = wksP T n (wkN T n r P) := by
  intro r
  induction r with
  | zero => intro P; rfl
  | succ r ih => intro P; exact ih (wksP T n P)
theorem RTR.w0 (h : RTR T Q P M) (j : Nat) (hj : 43 ≤ j) : RTR T Q P (wF M 633 j y) := ⟨h.1.w0 j (by omega) y, h.2.1, h.2.2.1, by obtain ⟨b, hb⟩ := h.2.2.2.1; exact ⟨b, by rw [fI_wF_ne (by omega)]; exact hb⟩, fun j hj => by rw [rN_wF]; exact h.2.2.2.2 j hj⟩
theorem wkN_0 : ∀ (r : Nat) (P : PK), okD P → okK P → (okD (wkN T n r P) ∧ okK (wkN T n r P)) ∧ ∀ j, j < 157 → wkN T n r P j = P j := by
  intro r
  induction r with
  | zero => intro P h1 h2; exact ⟨⟨h1, h2⟩, fun _ _ => rfl⟩
  | succ r ih =>
    intro P h1 h2
    obtain ⟨d1, k1⟩ := wks_K (T := T) (t := n) h1 h2
    obtain ⟨q1, q2⟩ := ih (wksP T n P) d1 k1
    exact ⟨q1, fun j hj => (q2 j hj).trans (wks_0 h1 h2 j hj)⟩
theorem rpv_c (hw : wh4 P) (hc : clsP Z = clsP P) (hi : ∀ x, inC P x → inC Z x) : ∀ (r : Nat) (c a b d : Int32) (M : Mem), RTR T Z P M → (∀ x, inC P x → rI M 653 x = bI (wrnB (T 0) A x)) → (∀ x, inC P x → rI M 652 x = bI (wrnB (T 0) Z x)) → zI M 633 49 = a → zI M 633 50 = b → zI M 633 51 = d → 0 ≤ c.toInt → c.toInt + (r : Int) = (clsP P : Int) → Ev none e 230 64 [some (.ref 633), some (.int w), some (.int ws), some (.int t), some (.int c)] [] M v M' 0 0 → v = none ∧ RST T P M' ∧ (∃ b, zI M' 633 42 = bI b) ∧ zI M' 633 49 = netP (T 0) A r c a ∧ zI M' 633 50 = aloP2 (T 0) A Z r c b ∧ zI M' 633 51 = aloP2 (T 0) Z A r c d := by
  obtain ⟨_, c256, _⟩ := cls_int hw
  intro r
  induction r with
  | zero =>
    intro c a b d M hR h3 h2 ea eb ed h0 hk H
    have hg := g144_ok hR.1 hR.2.1.1
    rw [hc] at hg
    rcases rpv_64 hR.1.1 H with ⟨_, e1, v1, M1, _, H1, H⟩ | ⟨a1, _⟩ | ⟨a1, _⟩ | ⟨a1, _⟩ | ⟨a1, _⟩
    · obtain ⟨rv, q1, F1⟩ := hR.bk H1
      rw [rv] at H
      obtain ⟨r1, r2⟩ := rpv_175 q1.1 H
      rw [r2]
      have zz : ∀ k, zI M1 633 k = zI M 633 k := fun k => F1.fi (fun q => q)
      obtain ⟨b4, hb4⟩ := hR.2.2.2.1
      exact ⟨r1, q1, ⟨b4, (zz 42).trans hb4⟩, (zz 49).trans ea, (zz 50).trans eb, (zz 51).trans ed⟩
    all_goals exact absurd (Int32.le_iff_toInt_le.mpr (by omega)) a1
  | succ r ih =>
    intro c a b d M hR h3 h2 ea eb ed h0 hk H
    have hg := g144_ok hR.1 hR.2.1.1
    rw [hc] at hg
    have ic : inC P c := ⟨h0, by omega⟩
    have e3 := h3 c ic
    have e2 := h2 c ic
    have z1 : (c + 1).toInt = c.toInt + 1 := i32_p1 (by omega)
    have q633 := qa_633
    have nx : ∀ a2 b2 d2, Ev none e 230 64 [some (.ref 633), some (.int w), some (.int ws), some (.int t), some (.int (c + 1))] [] (wF (wF (wF M 633 49 a2) 633 50 b2) 633 51 d2) v M' 0 0 → v = none ∧ RST T P M' ∧ (∃ b, zI M' 633 42 = bI b) ∧ zI M' 633 49 = netP (T 0) A r (c + 1) a2 ∧ zI M' 633 50 = aloP2 (T 0) A Z r (c + 1) b2 ∧ zI M' 633 51 = aloP2 (T 0) Z A r (c + 1) d2 := fun a2 b2 d2 H => by
      have S := hR.1.1
      refine ih (c + 1) a2 b2 d2 _ (((hR.w0 49 (by decide)).w0 50 (by decide)).w0 51 (by decide)) (fun x hx => ?_) (fun x hx => ?_) ?_ ?_ ?_ (by omega) (by omega) H
      · show rN _ 653 _ = _
        rw [rN_wF, rN_wF, rN_wF]
        exact h3 x hx
      · show rN _ 652 _ = _
        rw [rN_wF, rN_wF, rN_wF]
        exact h2 x hx
      · rw [fI_wF_ne (by decide), fI_wF_ne (by decide)]
        exact fI_wF_eq S.1 qa_633 qi_61_49
      · rw [fI_wF_ne (by decide)]
        exact fI_wF_eq S.kf.1 qa_633 qi_61_50
      · exact fI_wF_eq S.kf.kf.1 qa_633 qi_61_51
    unfold netP aloP2
    rcases rpv_64 hR.1.1 H with ⟨a1, _⟩ | ⟨_, b1, b2, _, _, _, H⟩ | ⟨_, b1, b2, _, _, _, _, H⟩ | ⟨_, b1, b2, _, _, _, _, H⟩ | ⟨_, b1, b2, _, _, _, _, _, H⟩
    · have := Int32.le_iff_toInt_le.mp a1
      omega
    all_goals
      rw [e3] at b1
      rw [e2] at b2
      rw [ea, eb, ed] at H
      have H := nx _ _ _ H
      cases hA : wrnB (T 0) A c <;> cases hZ : wrnB (T 0) Z c <;> rw [hA] at b1 <;> rw [hZ] at b2
    all_goals first
      | exact absurd b1 (by decide)
      | exact absurd b2 (by decide)
      | exact absurd rfl b1
      | exact absurd rfl b2
      | (simpa using H)
theorem rpv_l (hw : w.toInt = (wn : Int)) (ht : t.toInt = (tn : Int)) (w1 : 1 ≤ wn) (hws : ws.toInt = (n : Int)) (n20 : n ≤ 20) (wle : wn ≤ n) (hD : okD P) (hK : okK P) : ∀ (r k : Nat) (kz : Int32) (M : Mem), RTR T (wkN T tn k P) P M → (wn ≤ k → ∀ x, inC P x → rI M 653 x = bI (wrnB (T 0) (wkN T tn wn P) x)) → kz.toInt = ((k + 1 : Nat) : Int) → k + r = n → Ev none e 230 7 [some (.ref 633), some (.int w), some (.int ws), some (.int t), some (.int kz)] [] M v M' 0 0 → v = none ∧ RST T P M' ∧ (∃ b, zI M' 633 42 = bI b) ∧ zI M' 633 49 = netP (T 0) (wkN T tn wn P) (clsP P) 0 0 ∧ zI M' 633 50 = aloP2 (T 0) (wkN T tn wn P) (wkN T tn n P) (clsP P) 0 0 ∧ zI M' 633 51 = aloP2 (T 0) (wkN T tn n P) (wkN T tn wn P) (clsP P) 0 0 := by
  have iC : ∀ k x, inC P x ↔ inC (wkN T tn k P) x := fun k x => by
    have q := (wkN_0 (T := T) (n := tn) k P hD hK).2
    rw [inC.eq (q 0 (by decide)) (q 1 (by decide))]
  have cC : ∀ k, clsP (wkN T tn k P) = clsP P := fun k => by
    have q := (wkN_0 (T := T) (n := tn) k P hD hK).2
    exact cls_eq (q 0 (by decide)) (q 1 (by decide))
  intro r
  induction r with
  | zero =>
    intro k kz M hR h3 hz hk H
    rcases rpv_7 hR.1.1 H with ⟨_, e1, v1, M1, _, H1, H⟩ | ⟨a1, _⟩
    · obtain ⟨rv, q1, F1, h2⟩ := ntd_ok hR H1
      rw [rv] at H
      have ek : k = n := by omega
      subst ek
      have H := rpv_46 q1.1.1 H
      have S := q1.1.1
      refine rpv_c hD.1 (cC k) (fun x hx => (iC k x).mp hx) (clsP P) 0 0 0 0 _ (((q1.w0 49 (by decide)).w0 50 (by decide)).w0 51 (by decide)) (fun x hx => ?_) (fun x hx => ?_) ?_ ?_ ?_ (by decide) (by have z0 : (0 : Int32).toInt = 0 := rfl; omega) H
      · show rN _ 653 _ = _
        rw [rN_wF, rN_wF, rN_wF]
        exact (F1.rn (by decide)).trans (h3 wle x hx)
      · show rN _ 652 _ = _
        rw [rN_wF, rN_wF, rN_wF]
        exact h2 x ((iC k x).mp hx)
      · rw [fI_wF_ne (by decide), fI_wF_ne (by decide)]
        exact fI_wF_eq S.1 qa_633 qi_61_49
      · rw [fI_wF_ne (by decide)]
        exact fI_wF_eq S.kf.1 qa_633 qi_61_50
      · exact fI_wF_eq S.kf.kf.1 qa_633 qi_61_51
    · exact absurd (Int32.lt_iff_toInt_lt.mpr (by omega)) a1
  | succ r ih =>
    intro k kz M hR h3 hz hk H
    rcases rpv_7 hR.1.1 H with ⟨a1, _⟩ | ⟨_, e1, v1, M1, _, H1, H⟩
    · have := Int32.lt_iff_toInt_lt.mp a1
      omega
    · obtain ⟨rv, q1, F1⟩ := rgo_ok hR ht H1
      rw [rv] at H
      rw [← wkN_s] at q1
      have z1 : (kz + 1).toInt = ((k + 1 + 1 : Nat) : Int) := by rw [i32_p1 (by omega)]; omega
      rcases rpv_18 q1.1.1 H with ⟨b1, e2, v2, M2, _, H2, H⟩ | ⟨b1, H⟩
      · obtain ⟨rv2, q2, F2, h2⟩ := nte_ok q1 H2
        rw [rv2] at H
        have ek : k + 1 = wn := by rw [b1] at hz; omega
        refine ih (k + 1) (kz + 1) M2 q2 (fun _ x hx => ?_) z1 (by omega) (rpv_32 q2.1.1 H)
        rw [← ek]
        exact h2 x ((iC _ x).mp hx)
      · refine ih (k + 1) (kz + 1) M1 q1 (fun hle x hx => ?_) z1 (by omega) H
        have hne : k + 1 ≠ wn := fun q => b1 (Int32.toInt_inj.mp (by omega))
        exact (F1.rn (by unfold rkW; decide)).trans (h3 (by omega) x hx)
theorem rpv_ok (hR : RST T P M) (hD : okD P) (hK : okK P) (hb : ∃ b, zI M 633 42 = bI b) (iw : inX w 1 ws) (i20 : ws.toInt ≤ 20) (t1 : 1 ≤ t.toInt) (H : Ev none e 230 0 [some (.ref 633), some (.int w), some (.int ws), some (.int t), none] [] M v M' 0 0) : v = none ∧ RST T P M' ∧ (∃ b, zI M' 633 42 = bI b) ∧ zI M' 633 49 = pavA T P w ws t 0 ∧ zI M' 633 50 = pavA T P w ws t 1 ∧ zI M' 633 51 = pavA T P w ws t 2 := by
  obtain ⟨e1, v1, M1, _, H1, H⟩ := rpv_0 hR.1 H
  obtain ⟨rv, q1, _⟩ := RTR.mk0 hR hD hK hb H1
  rw [rv] at H
  have w1 : 1 ≤ w.toInt := iw.1
  have w2 : w.toInt ≤ ws.toInt := iw.2
  have q := rpv_l (T := T) (wn := w.toInt.toNat) (tn := t.toInt.toNat) (n := ws.toInt.toNat) (by omega) (by omega) (by omega) (by omega) (by omega) (by omega) hD hK ws.toInt.toNat 0 1 M1 q1 (fun h => by omega) rfl (by omega) (rpv_4 q1.1.1 H)
  have e1 : ¬ (1 : Int32) = 0 := by decide
  have e2 : ¬ (2 : Int32) = 0 := by decide
  have e3 : ¬ (2 : Int32) = 1 := by decide
  have cA : clsP (wkN T t.toInt.toNat w.toInt.toNat P) = clsP P := by
    have q := (wkN_0 (T := T) (n := t.toInt.toNat) w.toInt.toNat P hD hK).2
    exact cls_eq (q 0 (by decide)) (q 1 (by decide))
  unfold pavA nwP
  rw [if_pos rfl, if_neg e1, if_pos rfl, if_neg e2, if_neg e3, cA]
  exact q
theorem rpaved_ok (hR : RST T P M) (hD : okD P) (hK : okK P) (hb : ∃ b, zI M 633 42 = bI b) (H : Ev none e 231 0 [some (.ref 633), some (.int w), some (.int ws), some (.int t), some (.int wh)] [] M v M' 0 0) : RST T P M' ∧ ((pavN w ws t wh ∧ v = some (.int (-1))) ∨ (¬ pavN w ws t wh ∧ v = some (.int (pavA T P w ws t wh)))) := by
  have h0 := hR.w0 0 (by decide) 0
  have hb0 : ∃ b, zI (wF M 633 0 0) 633 42 = bI b := by
    obtain ⟨b, hb⟩ := hb
    exact ⟨b, by rw [fI_wF_ne (by decide)]; exact hb⟩
  unfold pavN
  rcases rpd_0 hR.1 H with ⟨a1, r1, r2⟩ | ⟨_, a1, r1, r2⟩ | ⟨_, _, a1, r1, r2⟩ | ⟨_, _, _, a1, r1, r2⟩ | ⟨a1, a2, a3, a4, e1, v1, M1, _, H1, H⟩
  · rw [g140_R] at a1
    exact ⟨r2 ▸ h0, Or.inl ⟨Or.inl a1, r1⟩⟩
  · rw [g140_R] at a1
    exact ⟨r2 ▸ h0, Or.inl ⟨Or.inr (Or.inl a1), r1⟩⟩
  · rw [g140_R] at a1
    exact ⟨r2 ▸ h0, Or.inl ⟨Or.inr (Or.inr (Or.inl a1)), r1⟩⟩
  · rw [g140_R] at a1
    exact ⟨r2 ▸ h0, Or.inl ⟨Or.inr (Or.inr (Or.inr a1)), r1⟩⟩
  · rw [g140_R, Classical.not_not] at a1 a2 a3 a4
    have ng : ¬ (¬ inX ws 1 20 ∨ ¬ inX w 1 ws ∨ ¬ inX t 1 200 ∨ ¬ inX wh 0 2) := fun q => by
      rcases q with q | q | q | q
      · exact q a1
      · exact q a2
      · exact q a3
      · exact q a4
    obtain ⟨rv, q1, _, f1, f2, f3⟩ := rpv_ok h0 hD hK hb0 a2 a1.2 a3.1 H1
    rw [rv] at H
    rcases rpd_54 q1.1 H with ⟨b1, r1, r2⟩ | ⟨b1, b2, r1, r2⟩ | ⟨b1, b2, r1, r2⟩
    · rw [r2, r1, f1, b1]
      exact ⟨q1, Or.inr ⟨by rw [b1] at ng; exact ng, rfl⟩⟩
    · rw [r2, r1, f2, b2]
      exact ⟨q1, Or.inr ⟨by rw [b2] at ng; exact ng, rfl⟩⟩
    · rw [r2, r1, f3]
      refine ⟨q1, Or.inr ⟨ng, ?_⟩⟩
      have e2 : ¬ (2 : Int32) = 0 := by decide
      have e3 : ¬ (2 : Int32) = 1 := by decide
      unfold pavA
      rw [if_neg e2, if_neg e3, if_neg b1, if_neg b2]
theorem rwt_l (hD : okD P) (hK : okK P) (i20 : ws.toInt ≤ 20) (t1 : 1 ≤ t.toInt) : ∀ (r : Nat) (wz be le : Int32) (c6 : Option Value) (M : Mem), RST T P M → (∃ b, zI M 633 42 = bI b) → wz.toInt + (r : Int) = ws.toInt + 1 → 1 ≤ wz.toInt → Ev none e 232 36 [some (.ref 633), some (.int ws), some (.int t), some (.int be), some (.int le), some (.int wz), c6] [] M v M' 0 0 → v = some (.int (waiL T P ws t r wz be le)) ∧ RST T P M' := by
  intro r
  induction r with
  | zero =>
    intro wz be le c6 M hR hb hw h1 H
    rcases rwt_36 hR.1 H with ⟨_, r1, r2⟩ | ⟨a1, _⟩
    · rw [r2]; exact ⟨r1, hR⟩
    · exact absurd (Int32.lt_iff_toInt_lt.mpr (by omega)) a1
  | succ r ih =>
    intro wz be le c6 M hR hb hw h1 H
    rcases rwt_36 hR.1 H with ⟨a1, _⟩ | ⟨_, e1, v1, M1, _, H1, H⟩
    · have := Int32.lt_iff_toInt_lt.mp a1
      omega
    · obtain ⟨rv, q1, hb1, f1, f2, f3⟩ := rpv_ok hR hD hK hb ⟨h1, by omega⟩ i20 t1 H1
      rw [rv] at H
      have z1 : (wz + 1).toInt = wz.toInt + 1 := i32_p1 (by omega)
      have H := rwt_50 q1.1 H
      rw [f2, f3] at H
      have es : pavA T P wz ws t 1 + pavA T P wz ws t 2 + wz = waiS T P ws t wz := rfl
      rw [es] at H
      unfold waiL
      rcases H with ⟨b1, H⟩ | ⟨b1, b2, H⟩ | ⟨b1, b2, H⟩
      · rw [if_pos (Or.inl b1)]
        exact ih _ _ _ _ M1 q1 hb1 (by omega) (by omega) H
      · rw [if_pos (Or.inr b2)]
        exact ih _ _ _ _ M1 q1 hb1 (by omega) (by omega) H
      · rw [if_neg (fun q => q.elim b1 b2)]
        exact ih _ _ _ _ M1 q1 hb1 (by omega) (by omega) H
theorem rwait_ok (hR : RST T P M) (hD : okD P) (hK : okK P) (hb : ∃ b, zI M 633 42 = bI b) (H : Ev none e 232 0 [some (.ref 633), some (.int ws), some (.int t), none, none, none, none] [] M v M' 0 0) : RST T P M' ∧ ((waiN ws t ∧ v = some (.int (-1))) ∨ (¬ waiN ws t ∧ v = some (.int (waiL T P ws t ws.toInt.toNat 1 (-1) 0)))) := by
  have h0 := hR.w0 0 (by decide) 0
  have hb0 : ∃ b, zI (wF M 633 0 0) 633 42 = bI b := by
    obtain ⟨b, hb⟩ := hb
    exact ⟨b, by rw [fI_wF_ne (by decide)]; exact hb⟩
  unfold waiN
  rcases rwt_0 hR.1 H with ⟨a1, r1, r2⟩ | ⟨_, a1, r1, r2⟩ | ⟨a1, a2, H⟩
  · rw [g140_R] at a1
    exact ⟨r2 ▸ h0, Or.inl ⟨Or.inl a1, r1⟩⟩
  · rw [g140_R] at a1
    exact ⟨r2 ▸ h0, Or.inl ⟨Or.inr a1, r1⟩⟩
  · rw [g140_R, Classical.not_not] at a1 a2
    have w1 : 1 ≤ ws.toInt := a1.1
    obtain ⟨r1, r2⟩ := rwt_l (T := T) hD hK a1.2 a2.1 ws.toInt.toNat 1 (-1) 0 none _ h0 hb0 (by have z1 : (1 : Int32).toInt = 1 := rfl; omega) (by decide) H
    exact ⟨r2, Or.inr ⟨fun q => q.elim (fun q => q a1) (fun q => q a2), r1⟩⟩
end RTUR
/-! WALKER, COUNT, FENCEAT, WAYAT of both sides: pieces (made by gwal8.py) -/
section ALEN
variable {d me pc c s a g n o np kf mx : Nat} {y : MethodName} {cc : ByteArray} {ret : Option FieldType} {tab : List (Nat × Nat × Instr)} {ls : Lo} {st : List Value} {M M' : Mem} {v : Option Value}
theorem Ev.alen (hrow : gNth mRs me = some (o, y, cc, mx, ret, np, kf, tab)) (hl : gLook tab pc = some (3, .arraylength)) (hS : SH M) (ha : gNth sT a = some g) (hB : wB g 1 n = true) (h : Ev none d me pc ls (.ref a :: st) M v M' c s) : Ev none d me (pc + 1) ls (.int (Int32.ofNat n) :: st) M v M' c s := by
  obtain ⟨st1, M1, e, h⟩ := Ev.get hrow hl h
  obtain ⟨h1, h2⟩ := hS.row ha hB
  have e : (match gNth M a with
    | some (.inl (1, .inl l)) => some (Value.int (Int32.ofNat (gLn l)) :: st, M)
    | some (.inl (3, .inl l)) => some (Value.int (Int32.ofNat (gLn l)) :: st, M)
    | _ => none) = some (st1, M1) := e
  rw [h1] at e
  have e : some (Value.int (Int32.ofNat (gLn (zrw M a))) :: st, M) = some (st1, M1) := e
  rw [ln_eq, h2] at e
  cases e
  exact h
end ALEN
theorem wkr_0 {e : Nat} {M M' : Mem} {v : Option Value} {k w : Int32} (hS : SQ M) (hLd : fR M 0 2 = 8) (H : Ev none e 96 0 [some (.ref 0), some (.int k), some (.int w), none] [] M v M' 0 0) : ((G_126 M k 0 ((zI M 8 15) - 1)) = 0 ∧ v = some (.int (-1)) ∧ M' = M) ∨ (¬ ((G_126 M k 0 ((zI M 8 15) - 1)) = 0) ∧ w = 0 ∧ (0 ≤ k.toInt ∧ k.toInt < 60) ∧ v = some (.int (zI M (oI M (8 + 11) k) 0)) ∧ M' = M) ∨ (¬ ((G_126 M k 0 ((zI M 8 15) - 1)) = 0) ∧ ¬ (w = 0) ∧ w = 1 ∧ (0 ≤ k.toInt ∧ k.toInt < 60) ∧ v = some (.int (zI M (oI M (8 + 11) k) 1)) ∧ M' = M) ∨ (¬ ((G_126 M k 0 ((zI M 8 15) - 1)) = 0) ∧ ¬ (w = 0) ∧ ¬ (w = 1) ∧ w = 2 ∧ (0 ≤ k.toInt ∧ k.toInt < 60) ∧ v = some (.int (zI M (oI M (8 + 11) k) 2)) ∧ M' = M) ∨ (¬ ((G_126 M k 0 ((zI M 8 15) - 1)) = 0) ∧ ¬ (w = 0) ∧ ¬ (w = 1) ∧ ¬ (w = 2) ∧ (0 ≤ k.toInt ∧ k.toInt < 60) ∧ v = some (.int (-1)) ∧ M' = M) := by
  have H : Ev none e 96 3 [some (.ref 0), some (.int k), some (.int w), none] [.ref 0, .int 0, .int k] M v M' 0 0 := Ev.back 3 (fun n => rfl) H
  have H : Ev none e 96 6 [some (.ref 0), some (.int k), some (.int w), none] [.ref (fR M 0 2), .int 0, .int k] M v M' 0 0 := Ev.back 1 (gs_3 rfl rfl (gf_r hS.1 qa_0 qr_0_2 rfl)) H
  rw [hLd] at H
  have H : Ev none e 96 9 [some (.ref 0), some (.int k), some (.int w), none] [.int (zI M 8 15), .int 0, .int k] M v M' 0 0 := Ev.back 1 (gs_3 rfl rfl (gf_i hS.1 qa_8 qi_8_15 rfl)) H
  have H : Ev none e 96 11 [some (.ref 0), some (.int k), some (.int w), none] [.int ((zI M 8 15) - 1), .int 0, .int k] M v M' 0 0 := Ev.back 2 (fun n => rfl) H
  obtain ⟨e1, rfl⟩ := Ev.dpos rfl rfl H
  obtain ⟨vK1, MK1, K1, H⟩ := Ev.callb (fun n => rfl) H
  obtain ⟨pK1, qK1⟩ := g_126 hS K1
  rw [pK1, qK1] at H
  have H : Ev none (e1 + 1) 96 14 [some (.ref 0), some (.int k), some (.int w), none] [.int (G_126 M k 0 ((zI M 8 15) - 1))] M v M' 0 0 := H
  have H : Ev none (e1 + 1) 96 (if (G_126 M k 0 ((zI M 8 15) - 1)) = 0 then 17 else 19) [some (.ref 0), some (.int k), some (.int w), none] [] M v M' 0 0 := Ev.back 1 (fun n => rfl) H
  by_cases h2 : (G_126 M k 0 ((zI M 8 15) - 1)) = 0
  · rw [if_pos h2] at H
    have H : Ev none (e1 + 1) 96 18 [some (.ref 0), some (.int k), some (.int w), none] [.int (-1)] M v M' 0 0 := Ev.back 1 (fun n => rfl) H
    obtain ⟨z1, z2⟩ := Ev.retz rfl rfl H
    exact Or.inl ⟨h2, z1, z2⟩
  · rw [if_neg h2] at H
    have H : Ev none (e1 + 1) 96 20 [some (.ref 0), some (.int k), some (.int w), none] [.ref 0] M v M' 0 0 := Ev.back 1 (fun n => rfl) H
    have H : Ev none (e1 + 1) 96 23 [some (.ref 0), some (.int k), some (.int w), none] [.ref (fR M 0 2)] M v M' 0 0 := Ev.back 1 (gs_3 rfl rfl (gf_r hS.1 qa_0 qr_0_2 rfl)) H
    rw [hLd] at H
    have H : Ev none (e1 + 1) 96 26 [some (.ref 0), some (.int k), some (.int w), none] [.ref (8 + 11)] M v M' 0 0 := Ev.back 1 (gs_3 rfl rfl (gf_x hS.1 qa_8 qo_8 (fx_l14 hS qa_8) rfl)) H
    have H : Ev none (e1 + 1) 96 27 [some (.ref 0), some (.int k), some (.int w), none] [.int k, .ref (8 + 11)] M v M' 0 0 := Ev.back 1 (fun n => rfl) H
    obtain ⟨b3, H⟩ := Ev.aal rfl rfl hS.1 (fx_h14 qa_8) qz_19 H
    have H : Ev none (e1 + 1) 96 28 [some (.ref 0), some (.int k), some (.int w), none] [.ref (oI M (8 + 11) k)] M v M' 0 0 := H
    have H : Ev none (e1 + 1) 96 30 [some (.ref 0), some (.int k), some (.int w), some (.ref (oI M (8 + 11) k))] [.int w] M v M' 0 0 := Ev.back 2 (fun n => rfl) H
    by_cases h4 : w = 0
    · have H : Ev none (e1 + 1) 96 56 [some (.ref 0), some (.int k), some (.int w), some (.ref (oI M (8 + 11) k))] [] M v M' 0 0 := Ev.back 1 (by rw [h4]; exact fun n => rfl) H
      have H : Ev none (e1 + 1) 96 57 [some (.ref 0), some (.int k), some (.int w), some (.ref (oI M (8 + 11) k))] [.ref (oI M (8 + 11) k)] M v M' 0 0 := Ev.back 1 (fun n => rfl) H
      have H : Ev none (e1 + 1) 96 60 [some (.ref 0), some (.int k), some (.int w), some (.ref (oI M (8 + 11) k))] [.int (zI M (oI M (8 + 11) k) 0)] M v M' 0 0 := Ev.back 1 (gs_3 rfl rfl (gf_i hS.1 b3.2 qi_21_0 rfl)) H
      obtain ⟨z1, z2⟩ := Ev.retz rfl rfl H
      exact Or.inr (Or.inl ⟨h2, h4, b3.1, z1, z2⟩)
    · by_cases h5 : w = 1
      · have H : Ev none (e1 + 1) 96 61 [some (.ref 0), some (.int k), some (.int w), some (.ref (oI M (8 + 11) k))] [] M v M' 0 0 := Ev.back 1 (by rw [h5]; exact fun n => rfl) H
        have H : Ev none (e1 + 1) 96 62 [some (.ref 0), some (.int k), some (.int w), some (.ref (oI M (8 + 11) k))] [.ref (oI M (8 + 11) k)] M v M' 0 0 := Ev.back 1 (fun n => rfl) H
        have H : Ev none (e1 + 1) 96 65 [some (.ref 0), some (.int k), some (.int w), some (.ref (oI M (8 + 11) k))] [.int (zI M (oI M (8 + 11) k) 1)] M v M' 0 0 := Ev.back 1 (gs_3 rfl rfl (gf_i hS.1 b3.2 qi_21_1 rfl)) H
        obtain ⟨z1, z2⟩ := Ev.retz rfl rfl H
        exact Or.inr (Or.inr (Or.inl ⟨h2, h4, h5, b3.1, z1, z2⟩))
      · by_cases h6 : w = 2
        · have H : Ev none (e1 + 1) 96 66 [some (.ref 0), some (.int k), some (.int w), some (.ref (oI M (8 + 11) k))] [] M v M' 0 0 := Ev.back 1 (by rw [h6]; exact fun n => rfl) H
          have H : Ev none (e1 + 1) 96 67 [some (.ref 0), some (.int k), some (.int w), some (.ref (oI M (8 + 11) k))] [.ref (oI M (8 + 11) k)] M v M' 0 0 := Ev.back 1 (fun n => rfl) H
          have H : Ev none (e1 + 1) 96 70 [some (.ref 0), some (.int k), some (.int w), some (.ref (oI M (8 + 11) k))] [.int (zI M (oI M (8 + 11) k) 2)] M v M' 0 0 := Ev.back 1 (gs_3 rfl rfl (gf_i hS.1 b3.2 qi_21_2 rfl)) H
          obtain ⟨z1, z2⟩ := Ev.retz rfl rfl H
          exact Or.inr (Or.inr (Or.inr (Or.inl ⟨h2, h4, h5, h6, b3.1, z1, z2⟩)))
        · have H : Ev none (e1 + 1) 96 (if w.toInt < 0 ∨ 2 < w.toInt then gT 30 41 else gT 30 (([26, 31, 36] : List Int).getD (w.toInt - 0).toNat 0)) [some (.ref 0), some (.int k), some (.int w), some (.ref (oI M (8 + 11) k))] [] M v M' 0 0 := Ev.back 1 (fun n => rfl) H
          have qh4 : w.toInt ≠ 0 := fun q => h4 (Int32.toInt_inj.mp q)
          have qh5 : w.toInt ≠ 1 := fun q => h5 (Int32.toInt_inj.mp q)
          have qh6 : w.toInt ≠ 2 := fun q => h6 (Int32.toInt_inj.mp q)
          rw [if_pos (show w.toInt < 0 ∨ 2 < w.toInt from by omega)] at H
          have H : Ev none (e1 + 1) 96 71 [some (.ref 0), some (.int k), some (.int w), some (.ref (oI M (8 + 11) k))] [] M v M' 0 0 := H
          have H : Ev none (e1 + 1) 96 72 [some (.ref 0), some (.int k), some (.int w), some (.ref (oI M (8 + 11) k))] [.int (-1)] M v M' 0 0 := Ev.back 1 (fun n => rfl) H
          obtain ⟨z1, z2⟩ := Ev.retz rfl rfl H
          exact Or.inr (Or.inr (Or.inr (Or.inr (⟨h2, h4, h5, h6, b3.1, z1, z2⟩))))
theorem wta_0 {e : Nat} {M M' : Mem} {v : Option Value} (hS : SQ M) (H : Ev none e 11 0 [some (.ref 8), none, none] [] M v M' 0 0) : Ev none e 11 4 [some (.ref 8), some (.int 0), some (.int 0)] [] M v M' 0 0 := by
  have H : Ev none e 11 4 [some (.ref 8), some (.int 0), some (.int 0)] [] M v M' 0 0 := Ev.back 4 (fun n => rfl) H
  have HF := H
  exact HF
theorem wta_4 {e : Nat} {M M' : Mem} {v : Option Value} {n i : Int32} (hS : SQ M) (H : Ev none e 11 4 [some (.ref 8), some (.int n), some (.int i)] [] M v M' 0 0) : ((zI M 8 13) ≤ i ∧ v = some (.int n) ∧ M' = M) ∨ (¬ ((zI M 8 13) ≤ i) ∧ (zI M (oI M (8 + 10) i) 5) = 0 ∧ (0 ≤ i.toInt ∧ i.toInt < 24) ∧ Ev none e 11 4 [some (.ref 8), some (.int (n + 0)), some (.int (i + 1))] [] M v M' 0 0) ∨ (¬ ((zI M 8 13) ≤ i) ∧ ¬ ((zI M (oI M (8 + 10) i) 5) = 0) ∧ (0 ≤ i.toInt ∧ i.toInt < 24) ∧ Ev none e 11 4 [some (.ref 8), some (.int (n + 1)), some (.int (i + 1))] [] M v M' 0 0) := by
  have H : Ev none e 11 6 [some (.ref 8), some (.int n), some (.int i)] [.ref 8, .int i] M v M' 0 0 := Ev.back 2 (fun n => rfl) H
  have H : Ev none e 11 9 [some (.ref 8), some (.int n), some (.int i)] [.int (zI M 8 13), .int i] M v M' 0 0 := Ev.back 1 (gs_3 rfl rfl (gf_i hS.1 qa_8 qi_8_13 rfl)) H
  have H : Ev none e 11 (if (zI M 8 13) ≤ i then 38 else 12) [some (.ref 8), some (.int n), some (.int i)] [] M v M' 0 0 := Ev.back 1 (fun n => rfl) H
  by_cases h1 : (zI M 8 13) ≤ i
  · rw [if_pos h1] at H
    have H : Ev none e 11 39 [some (.ref 8), some (.int n), some (.int i)] [.int n] M v M' 0 0 := Ev.back 1 (fun n => rfl) H
    obtain ⟨z1, z2⟩ := Ev.retz rfl rfl H
    exact Or.inl ⟨h1, z1, z2⟩
  · rw [if_neg h1] at H
    have H : Ev none e 11 14 [some (.ref 8), some (.int n), some (.int i)] [.ref 8, .int n] M v M' 0 0 := Ev.back 2 (fun n => rfl) H
    have H : Ev none e 11 17 [some (.ref 8), some (.int n), some (.int i)] [.ref (8 + 10), .int n] M v M' 0 0 := Ev.back 1 (gs_3 rfl rfl (gf_x hS.1 qa_8 qo_8 (fx_l12 hS qa_8) rfl)) H
    have H : Ev none e 11 18 [some (.ref 8), some (.int n), some (.int i)] [.int i, .ref (8 + 10), .int n] M v M' 0 0 := Ev.back 1 (fun n => rfl) H
    obtain ⟨b2, H⟩ := Ev.aal rfl rfl hS.1 (fx_h12 qa_8) qz_18 H
    have H : Ev none e 11 19 [some (.ref 8), some (.int n), some (.int i)] [.ref (oI M (8 + 10) i), .int n] M v M' 0 0 := H
    have H : Ev none e 11 22 [some (.ref 8), some (.int n), some (.int i)] [.int (zI M (oI M (8 + 10) i) 5), .int n] M v M' 0 0 := Ev.back 1 (gs_3 rfl rfl (gf_i hS.1 b2.2 qi_20_5 rfl)) H
    have H : Ev none e 11 (if (zI M (oI M (8 + 10) i) 5) = 0 then 29 else 25) [some (.ref 8), some (.int n), some (.int i)] [.int n] M v M' 0 0 := Ev.back 1 (fun n => rfl) H
    by_cases h3 : (zI M (oI M (8 + 10) i) 5) = 0
    · rw [if_pos h3] at H
      have H : Ev none e 11 4 [some (.ref 8), some (.int (n + 0)), some (.int (i + 1))] [] M v M' 0 0 := Ev.back 5 (fun n => rfl) H
      have HF := H
      exact Or.inr (Or.inl ⟨h1, h3, b2.1, HF⟩)
    · rw [if_neg h3] at H
      have H : Ev none e 11 4 [some (.ref 8), some (.int (n + 1)), some (.int (i + 1))] [] M v M' 0 0 := Ev.back 6 (fun n => rfl) H
      have HF := H
      exact Or.inr (Or.inr (⟨h1, h3, b2.1, HF⟩))
theorem cnt_0 {e : Nat} {M M' : Mem} {v : Option Value} {k : Int32} (hS : SQ M) (hLd : fR M 0 2 = 8) (H : Ev none e 125 0 [some (.ref 0), some (.int k)] [] M v M' 0 0) : (k = 0 ∧ v = some (.int (zI M 8 0)) ∧ M' = M) ∨ (¬ (k = 0) ∧ k = 1 ∧ v = some (.int (zI M 8 1)) ∧ M' = M) ∨ (¬ (k = 0) ∧ ¬ (k = 1) ∧ k = 2 ∧ v = some (.int (zI M 8 11)) ∧ M' = M) ∨ (¬ (k = 0) ∧ ¬ (k = 1) ∧ ¬ (k = 2) ∧ k = 3 ∧ (∃ e1 v1 M1, e = e1 + 1 ∧ Ev none e1 11 0 [some (.ref 8), none, none] [] M v1 M1 0 0 ∧ Ev none e 125 87 [some (.ref 0), some (.int k)] (v1.toList ++ []) M1 v M' 0 0)) ∨ (¬ (k = 0) ∧ ¬ (k = 1) ∧ ¬ (k = 2) ∧ ¬ (k = 3) ∧ k = 4 ∧ v = some (.int (zI M 8 15)) ∧ M' = M) ∨ (¬ (k = 0) ∧ ¬ (k = 1) ∧ ¬ (k = 2) ∧ ¬ (k = 3) ∧ ¬ (k = 4) ∧ k = 5 ∧ v = some (.int (zI M 8 16)) ∧ M' = M) ∨ (¬ (k = 0) ∧ ¬ (k = 1) ∧ ¬ (k = 2) ∧ ¬ (k = 3) ∧ ¬ (k = 4) ∧ ¬ (k = 5) ∧ k = 6 ∧ v = some (.int (zI M 8 17)) ∧ M' = M) ∨ (¬ (k = 0) ∧ ¬ (k = 1) ∧ ¬ (k = 2) ∧ ¬ (k = 3) ∧ ¬ (k = 4) ∧ ¬ (k = 5) ∧ ¬ (k = 6) ∧ k = 7 ∧ v = some (.int (zI M 8 18)) ∧ M' = M) ∨ (¬ (k = 0) ∧ ¬ (k = 1) ∧ ¬ (k = 2) ∧ ¬ (k = 3) ∧ ¬ (k = 4) ∧ ¬ (k = 5) ∧ ¬ (k = 6) ∧ ¬ (k = 7) ∧ k = 8 ∧ v = some (.int (zI M 8 19)) ∧ M' = M) ∨ (¬ (k = 0) ∧ ¬ (k = 1) ∧ ¬ (k = 2) ∧ ¬ (k = 3) ∧ ¬ (k = 4) ∧ ¬ (k = 5) ∧ ¬ (k = 6) ∧ ¬ (k = 7) ∧ ¬ (k = 8) ∧ k = 9 ∧ v = some (.int (zI M 1 1)) ∧ M' = M) ∨ (¬ (k = 0) ∧ ¬ (k = 1) ∧ ¬ (k = 2) ∧ ¬ (k = 3) ∧ ¬ (k = 4) ∧ ¬ (k = 5) ∧ ¬ (k = 6) ∧ ¬ (k = 7) ∧ ¬ (k = 8) ∧ ¬ (k = 9) ∧ v = some (.int (-1)) ∧ M' = M) := by
  have H : Ev none e 125 1 [some (.ref 0), some (.int k)] [.int k] M v M' 0 0 := Ev.back 1 (fun n => rfl) H
  by_cases h1 : k = 0
  · have H : Ev none e 125 56 [some (.ref 0), some (.int k)] [] M v M' 0 0 := Ev.back 1 (by rw [h1]; exact fun n => rfl) H
    have H : Ev none e 125 57 [some (.ref 0), some (.int k)] [.ref 0] M v M' 0 0 := Ev.back 1 (fun n => rfl) H
    have H : Ev none e 125 60 [some (.ref 0), some (.int k)] [.ref (fR M 0 2)] M v M' 0 0 := Ev.back 1 (gs_3 rfl rfl (gf_r hS.1 qa_0 qr_0_2 rfl)) H
    rw [hLd] at H
    have H : Ev none e 125 63 [some (.ref 0), some (.int k)] [.int (zI M 8 0)] M v M' 0 0 := Ev.back 1 (gs_3 rfl rfl (gf_i hS.1 qa_8 qi_8_0 rfl)) H
    obtain ⟨z1, z2⟩ := Ev.retz rfl rfl H
    exact Or.inl ⟨h1, z1, z2⟩
  · by_cases h2 : k = 1
    · have H : Ev none e 125 64 [some (.ref 0), some (.int k)] [] M v M' 0 0 := Ev.back 1 (by rw [h2]; exact fun n => rfl) H
      have H : Ev none e 125 65 [some (.ref 0), some (.int k)] [.ref 0] M v M' 0 0 := Ev.back 1 (fun n => rfl) H
      have H : Ev none e 125 68 [some (.ref 0), some (.int k)] [.ref (fR M 0 2)] M v M' 0 0 := Ev.back 1 (gs_3 rfl rfl (gf_r hS.1 qa_0 qr_0_2 rfl)) H
      rw [hLd] at H
      have H : Ev none e 125 71 [some (.ref 0), some (.int k)] [.int (zI M 8 1)] M v M' 0 0 := Ev.back 1 (gs_3 rfl rfl (gf_i hS.1 qa_8 qi_8_1 rfl)) H
      obtain ⟨z1, z2⟩ := Ev.retz rfl rfl H
      exact Or.inr (Or.inl ⟨h1, h2, z1, z2⟩)
    · by_cases h3 : k = 2
      · have H : Ev none e 125 72 [some (.ref 0), some (.int k)] [] M v M' 0 0 := Ev.back 1 (by rw [h3]; exact fun n => rfl) H
        have H : Ev none e 125 73 [some (.ref 0), some (.int k)] [.ref 0] M v M' 0 0 := Ev.back 1 (fun n => rfl) H
        have H : Ev none e 125 76 [some (.ref 0), some (.int k)] [.ref (fR M 0 2)] M v M' 0 0 := Ev.back 1 (gs_3 rfl rfl (gf_r hS.1 qa_0 qr_0_2 rfl)) H
        rw [hLd] at H
        have H : Ev none e 125 79 [some (.ref 0), some (.int k)] [.int (zI M 8 11)] M v M' 0 0 := Ev.back 1 (gs_3 rfl rfl (gf_i hS.1 qa_8 qi_8_11 rfl)) H
        obtain ⟨z1, z2⟩ := Ev.retz rfl rfl H
        exact Or.inr (Or.inr (Or.inl ⟨h1, h2, h3, z1, z2⟩))
      · by_cases h4 : k = 3
        · have H : Ev none e 125 80 [some (.ref 0), some (.int k)] [] M v M' 0 0 := Ev.back 1 (by rw [h4]; exact fun n => rfl) H
          have H : Ev none e 125 81 [some (.ref 0), some (.int k)] [.ref 0] M v M' 0 0 := Ev.back 1 (fun n => rfl) H
          have H : Ev none e 125 84 [some (.ref 0), some (.int k)] [.ref (fR M 0 2)] M v M' 0 0 := Ev.back 1 (gs_3 rfl rfl (gf_r hS.1 qa_0 qr_0_2 rfl)) H
          rw [hLd] at H
          obtain ⟨e1, rfl⟩ := Ev.dpos rfl rfl H
          obtain ⟨vK5, MK5, K5, H⟩ := Ev.callb (fun n_ => gs_7 rfl rfl (show gCal (.invokevirtual 399) 10 (.ref 8 :: []) M = some (.inr (11, [some (.ref 8), none, none], [])) from by show @cond (Option ((List Value × Mem) ⊕ (Nat × Lo × List Value))) (true && gRecv M (.ref 8) 1 && gRoom [] && true) (some (.inr (11, [some (.ref 8), none, none], []))) none = _; rw [recv_s hS.1 qa_8 qo_8]; rfl)) H
          have K5 : Ev none e1 11 0 [some (.ref 8), none, none] [] M vK5 MK5 0 0 := K5
          have HF := H
          exact Or.inr (Or.inr (Or.inr (Or.inl ⟨h1, h2, h3, h4, ⟨e1, vK5, MK5, rfl, K5, HF⟩⟩)))
        · by_cases h6 : k = 4
          · have H : Ev none e 125 88 [some (.ref 0), some (.int k)] [] M v M' 0 0 := Ev.back 1 (by rw [h6]; exact fun n => rfl) H
            have H : Ev none e 125 89 [some (.ref 0), some (.int k)] [.ref 0] M v M' 0 0 := Ev.back 1 (fun n => rfl) H
            have H : Ev none e 125 92 [some (.ref 0), some (.int k)] [.ref (fR M 0 2)] M v M' 0 0 := Ev.back 1 (gs_3 rfl rfl (gf_r hS.1 qa_0 qr_0_2 rfl)) H
            rw [hLd] at H
            have H : Ev none e 125 95 [some (.ref 0), some (.int k)] [.int (zI M 8 15)] M v M' 0 0 := Ev.back 1 (gs_3 rfl rfl (gf_i hS.1 qa_8 qi_8_15 rfl)) H
            obtain ⟨z1, z2⟩ := Ev.retz rfl rfl H
            exact Or.inr (Or.inr (Or.inr (Or.inr (Or.inl ⟨h1, h2, h3, h4, h6, z1, z2⟩))))
          · by_cases h7 : k = 5
            · have H : Ev none e 125 96 [some (.ref 0), some (.int k)] [] M v M' 0 0 := Ev.back 1 (by rw [h7]; exact fun n => rfl) H
              have H : Ev none e 125 97 [some (.ref 0), some (.int k)] [.ref 0] M v M' 0 0 := Ev.back 1 (fun n => rfl) H
              have H : Ev none e 125 100 [some (.ref 0), some (.int k)] [.ref (fR M 0 2)] M v M' 0 0 := Ev.back 1 (gs_3 rfl rfl (gf_r hS.1 qa_0 qr_0_2 rfl)) H
              rw [hLd] at H
              have H : Ev none e 125 103 [some (.ref 0), some (.int k)] [.int (zI M 8 16)] M v M' 0 0 := Ev.back 1 (gs_3 rfl rfl (gf_i hS.1 qa_8 qi_8_16 rfl)) H
              obtain ⟨z1, z2⟩ := Ev.retz rfl rfl H
              exact Or.inr (Or.inr (Or.inr (Or.inr (Or.inr (Or.inl ⟨h1, h2, h3, h4, h6, h7, z1, z2⟩)))))
            · by_cases h8 : k = 6
              · have H : Ev none e 125 104 [some (.ref 0), some (.int k)] [] M v M' 0 0 := Ev.back 1 (by rw [h8]; exact fun n => rfl) H
                have H : Ev none e 125 105 [some (.ref 0), some (.int k)] [.ref 0] M v M' 0 0 := Ev.back 1 (fun n => rfl) H
                have H : Ev none e 125 108 [some (.ref 0), some (.int k)] [.ref (fR M 0 2)] M v M' 0 0 := Ev.back 1 (gs_3 rfl rfl (gf_r hS.1 qa_0 qr_0_2 rfl)) H
                rw [hLd] at H
                have H : Ev none e 125 111 [some (.ref 0), some (.int k)] [.int (zI M 8 17)] M v M' 0 0 := Ev.back 1 (gs_3 rfl rfl (gf_i hS.1 qa_8 qi_8_17 rfl)) H
                obtain ⟨z1, z2⟩ := Ev.retz rfl rfl H
                exact Or.inr (Or.inr (Or.inr (Or.inr (Or.inr (Or.inr (Or.inl ⟨h1, h2, h3, h4, h6, h7, h8, z1, z2⟩))))))
              · by_cases h9 : k = 7
                · have H : Ev none e 125 112 [some (.ref 0), some (.int k)] [] M v M' 0 0 := Ev.back 1 (by rw [h9]; exact fun n => rfl) H
                  have H : Ev none e 125 113 [some (.ref 0), some (.int k)] [.ref 0] M v M' 0 0 := Ev.back 1 (fun n => rfl) H
                  have H : Ev none e 125 116 [some (.ref 0), some (.int k)] [.ref (fR M 0 2)] M v M' 0 0 := Ev.back 1 (gs_3 rfl rfl (gf_r hS.1 qa_0 qr_0_2 rfl)) H
                  rw [hLd] at H
                  have H : Ev none e 125 119 [some (.ref 0), some (.int k)] [.int (zI M 8 18)] M v M' 0 0 := Ev.back 1 (gs_3 rfl rfl (gf_i hS.1 qa_8 qi_8_18 rfl)) H
                  obtain ⟨z1, z2⟩ := Ev.retz rfl rfl H
                  exact Or.inr (Or.inr (Or.inr (Or.inr (Or.inr (Or.inr (Or.inr (Or.inl ⟨h1, h2, h3, h4, h6, h7, h8, h9, z1, z2⟩)))))))
                · by_cases h10 : k = 8
                  · have H : Ev none e 125 120 [some (.ref 0), some (.int k)] [] M v M' 0 0 := Ev.back 1 (by rw [h10]; exact fun n => rfl) H
                    have H : Ev none e 125 121 [some (.ref 0), some (.int k)] [.ref 0] M v M' 0 0 := Ev.back 1 (fun n => rfl) H
                    have H : Ev none e 125 124 [some (.ref 0), some (.int k)] [.ref (fR M 0 2)] M v M' 0 0 := Ev.back 1 (gs_3 rfl rfl (gf_r hS.1 qa_0 qr_0_2 rfl)) H
                    rw [hLd] at H
                    have H : Ev none e 125 127 [some (.ref 0), some (.int k)] [.int (zI M 8 19)] M v M' 0 0 := Ev.back 1 (gs_3 rfl rfl (gf_i hS.1 qa_8 qi_8_19 rfl)) H
                    obtain ⟨z1, z2⟩ := Ev.retz rfl rfl H
                    exact Or.inr (Or.inr (Or.inr (Or.inr (Or.inr (Or.inr (Or.inr (Or.inr (Or.inl ⟨h1, h2, h3, h4, h6, h7, h8, h9, h10, z1, z2⟩))))))))
                  · by_cases h11 : k = 9
                    · have H : Ev none e 125 128 [some (.ref 0), some (.int k)] [] M v M' 0 0 := Ev.back 1 (by rw [h11]; exact fun n => rfl) H
                      have H : Ev none e 125 129 [some (.ref 0), some (.int k)] [.ref 0] M v M' 0 0 := Ev.back 1 (fun n => rfl) H
                      have H : Ev none e 125 132 [some (.ref 0), some (.int k)] [.ref 1] M v M' 0 0 := Ev.back 1 (gs_3 rfl rfl (gf_u hS.1 qa_0 qr_0_0 qu_1 rfl)) H
                      have H : Ev none e 125 135 [some (.ref 0), some (.int k)] [.int (zI M 1 1)] M v M' 0 0 := Ev.back 1 (gs_3 rfl rfl (gf_i hS.1 qa_1 qi_1_1 rfl)) H
                      obtain ⟨z1, z2⟩ := Ev.retz rfl rfl H
                      exact Or.inr (Or.inr (Or.inr (Or.inr (Or.inr (Or.inr (Or.inr (Or.inr (Or.inr (Or.inl ⟨h1, h2, h3, h4, h6, h7, h8, h9, h10, h11, z1, z2⟩)))))))))
                    · have H : Ev none e 125 (if k.toInt < 0 ∨ 9 < k.toInt then gT 1 135 else gT 1 (([55, 63, 71, 79, 87, 95, 103, 111, 119, 127] : List Int).getD (k.toInt - 0).toNat 0)) [some (.ref 0), some (.int k)] [] M v M' 0 0 := Ev.back 1 (fun n => rfl) H
                      have qh1 : k.toInt ≠ 0 := fun q => h1 (Int32.toInt_inj.mp q)
                      have qh2 : k.toInt ≠ 1 := fun q => h2 (Int32.toInt_inj.mp q)
                      have qh3 : k.toInt ≠ 2 := fun q => h3 (Int32.toInt_inj.mp q)
                      have qh4 : k.toInt ≠ 3 := fun q => h4 (Int32.toInt_inj.mp q)
                      have qh6 : k.toInt ≠ 4 := fun q => h6 (Int32.toInt_inj.mp q)
                      have qh7 : k.toInt ≠ 5 := fun q => h7 (Int32.toInt_inj.mp q)
                      have qh8 : k.toInt ≠ 6 := fun q => h8 (Int32.toInt_inj.mp q)
                      have qh9 : k.toInt ≠ 7 := fun q => h9 (Int32.toInt_inj.mp q)
                      have qh10 : k.toInt ≠ 8 := fun q => h10 (Int32.toInt_inj.mp q)
                      have qh11 : k.toInt ≠ 9 := fun q => h11 (Int32.toInt_inj.mp q)
                      rw [if_pos (show k.toInt < 0 ∨ 9 < k.toInt from by omega)] at H
                      have H : Ev none e 125 136 [some (.ref 0), some (.int k)] [] M v M' 0 0 := H
                      have H : Ev none e 125 137 [some (.ref 0), some (.int k)] [.int (-1)] M v M' 0 0 := Ev.back 1 (fun n => rfl) H
                      obtain ⟨z1, z2⟩ := Ev.retz rfl rfl H
                      exact Or.inr (Or.inr (Or.inr (Or.inr (Or.inr (Or.inr (Or.inr (Or.inr (Or.inr (Or.inr (⟨h1, h2, h3, h4, h6, h7, h8, h9, h10, h11, z1, z2⟩))))))))))
theorem cnt_87 {e : Nat} {M M' : Mem} {v : Option Value} {k r : Int32} (hS : SQ M) (H : Ev none e 125 87 [some (.ref 0), some (.int k)] [.int r] M v M' 0 0) : v = some (.int r) ∧ M' = M := by
  obtain ⟨z1, z2⟩ := Ev.retz rfl rfl H
  exact ⟨z1, z2⟩
theorem fcA_0 {e : Nat} {M M' : Mem} {v : Option Value} {k : Int32} (hS : SQ M) (H : Ev none e 113 0 [some (.ref 0), some (.int k)] [] M v M' 0 0) : ((G_126 M k 0 ((if 2 < (zI M 0 14) then 2 else (zI M 0 14)) - 1)) = 0 ∧ v = some (.int (-1)) ∧ M' = M) ∨ (¬ ((G_126 M k 0 ((if 2 < (zI M 0 14) then 2 else (zI M 0 14)) - 1)) = 0) ∧ (0 ≤ k.toInt ∧ k.toInt < 2) ∧ v = some (.int (rI M 343 k)) ∧ M' = M) := by
  have H : Ev none e 113 3 [some (.ref 0), some (.int k)] [.ref 0, .int 0, .int k] M v M' 0 0 := Ev.back 3 (fun n => rfl) H
  have H : Ev none e 113 6 [some (.ref 0), some (.int k)] [.int (zI M 0 14), .int 0, .int k] M v M' 0 0 := Ev.back 1 (gs_3 rfl rfl (gf_i hS.1 qa_0 qi_0_14 rfl)) H
  have H : Ev none e 113 7 [some (.ref 0), some (.int k)] [.ref 0, .int (zI M 0 14), .int 0, .int k] M v M' 0 0 := Ev.back 1 (fun n => rfl) H
  have H : Ev none e 113 10 [some (.ref 0), some (.int k)] [.ref 343, .int (zI M 0 14), .int 0, .int k] M v M' 0 0 := Ev.back 1 (gs_3 rfl rfl (gf_u hS.1 qa_0 qr_0_11 qu_59 rfl)) H
  have H : Ev none e 113 11 [some (.ref 0), some (.int k)] [.int 2, .int (zI M 0 14), .int 0, .int k] M v M' 0 0 := Ev.alen rfl rfl hS.1 qa_343 qw_59 H
  obtain ⟨e1, rfl⟩ := Ev.dpos rfl rfl H
  have H : Ev none (e1 + 1) 113 16 [some (.ref 0), some (.int k)] [.int ((if 2 < (zI M 0 14) then 2 else (zI M 0 14)) - 1), .int 0, .int k] M v M' 0 0 := Ev.back 3 (fun n => rfl) H
  obtain ⟨vK1, MK1, K1, H⟩ := Ev.callb (fun n => rfl) H
  obtain ⟨pK1, qK1⟩ := g_126 hS K1
  rw [pK1, qK1] at H
  have H : Ev none (e1 + 1) 113 19 [some (.ref 0), some (.int k)] [.int (G_126 M k 0 ((if 2 < (zI M 0 14) then 2 else (zI M 0 14)) - 1))] M v M' 0 0 := H
  have H : Ev none (e1 + 1) 113 (if (G_126 M k 0 ((if 2 < (zI M 0 14) then 2 else (zI M 0 14)) - 1)) = 0 then 31 else 22) [some (.ref 0), some (.int k)] [] M v M' 0 0 := Ev.back 1 (fun n => rfl) H
  by_cases h2 : (G_126 M k 0 ((if 2 < (zI M 0 14) then 2 else (zI M 0 14)) - 1)) = 0
  · rw [if_pos h2] at H
    have H : Ev none (e1 + 1) 113 32 [some (.ref 0), some (.int k)] [.int (-1)] M v M' 0 0 := Ev.back 1 (fun n => rfl) H
    obtain ⟨z1, z2⟩ := Ev.retz rfl rfl H
    exact Or.inl ⟨h2, z1, z2⟩
  · rw [if_neg h2] at H
    have H : Ev none (e1 + 1) 113 23 [some (.ref 0), some (.int k)] [.ref 0] M v M' 0 0 := Ev.back 1 (fun n => rfl) H
    have H : Ev none (e1 + 1) 113 26 [some (.ref 0), some (.int k)] [.ref 343] M v M' 0 0 := Ev.back 1 (gs_3 rfl rfl (gf_u hS.1 qa_0 qr_0_11 qu_59 rfl)) H
    have H : Ev none (e1 + 1) 113 27 [some (.ref 0), some (.int k)] [.int k, .ref 343] M v M' 0 0 := Ev.back 1 (fun n => rfl) H
    obtain ⟨b3, H⟩ := Ev.ial rfl rfl hS.1 qa_343 qw_59 H
    have H : Ev none (e1 + 1) 113 28 [some (.ref 0), some (.int k)] [.int (rI M 343 k)] M v M' 0 0 := H
    have H : Ev none (e1 + 1) 113 32 [some (.ref 0), some (.int k)] [.int (rI M 343 k)] M v M' 0 0 := Ev.back 1 (fun n => rfl) H
    obtain ⟨z1, z2⟩ := Ev.retz rfl rfl H
    exact Or.inr (⟨h2, b3, z1, z2⟩)
theorem wyA_0 {e : Nat} {M M' : Mem} {v : Option Value} {k : Int32} (hS : SQ M) (H : Ev none e 116 0 [some (.ref 0), some (.int k)] [] M v M' 0 0) : ((G_126 M k 0 (if 200 < (zI M 0 13) then 200 else (zI M 0 13))) = 0 ∧ v = some (.int (-1)) ∧ M' = M) ∨ (¬ ((G_126 M k 0 (if 200 < (zI M 0 13) then 200 else (zI M 0 13))) = 0) ∧ (0 ≤ k.toInt ∧ k.toInt < 201) ∧ v = some (.int (rI M (fR M 0 9) k)) ∧ M' = M) := by
  have H : Ev none e 116 3 [some (.ref 0), some (.int k)] [.ref 0, .int 0, .int k] M v M' 0 0 := Ev.back 3 (fun n => rfl) H
  have H : Ev none e 116 6 [some (.ref 0), some (.int k)] [.int (zI M 0 13), .int 0, .int k] M v M' 0 0 := Ev.back 1 (gs_3 rfl rfl (gf_i hS.1 qa_0 qi_0_13 rfl)) H
  have H : Ev none e 116 9 [some (.ref 0), some (.int k)] [.int 200, .int (zI M 0 13), .int 0, .int k] M v M' 0 0 := Ev.back 1 (fun n => rfl) H
  obtain ⟨e1, rfl⟩ := Ev.dpos rfl rfl H
  have H : Ev none (e1 + 1) 116 12 [some (.ref 0), some (.int k)] [.int (if 200 < (zI M 0 13) then 200 else (zI M 0 13)), .int 0, .int k] M v M' 0 0 := Ev.back 1 (fun n => rfl) H
  obtain ⟨vK1, MK1, K1, H⟩ := Ev.callb (fun n => rfl) H
  obtain ⟨pK1, qK1⟩ := g_126 hS K1
  rw [pK1, qK1] at H
  have H : Ev none (e1 + 1) 116 15 [some (.ref 0), some (.int k)] [.int (G_126 M k 0 (if 200 < (zI M 0 13) then 200 else (zI M 0 13)))] M v M' 0 0 := H
  have H : Ev none (e1 + 1) 116 (if (G_126 M k 0 (if 200 < (zI M 0 13) then 200 else (zI M 0 13))) = 0 then 27 else 18) [some (.ref 0), some (.int k)] [] M v M' 0 0 := Ev.back 1 (fun n => rfl) H
  by_cases h2 : (G_126 M k 0 (if 200 < (zI M 0 13) then 200 else (zI M 0 13))) = 0
  · rw [if_pos h2] at H
    have H : Ev none (e1 + 1) 116 28 [some (.ref 0), some (.int k)] [.int (-1)] M v M' 0 0 := Ev.back 1 (fun n => rfl) H
    obtain ⟨z1, z2⟩ := Ev.retz rfl rfl H
    exact Or.inl ⟨h2, z1, z2⟩
  · rw [if_neg h2] at H
    have H : Ev none (e1 + 1) 116 19 [some (.ref 0), some (.int k)] [.ref 0] M v M' 0 0 := Ev.back 1 (fun n => rfl) H
    have H : Ev none (e1 + 1) 116 22 [some (.ref 0), some (.int k)] [.ref (fR M 0 9)] M v M' 0 0 := Ev.back 1 (gs_3 rfl rfl (gf_r hS.1 qa_0 qr_0_9 rfl)) H
    have H : Ev none (e1 + 1) 116 23 [some (.ref 0), some (.int k)] [.int k, .ref (fR M 0 9)] M v M' 0 0 := Ev.back 1 (fun n => rfl) H
    obtain ⟨b3, H⟩ := Ev.ial rfl rfl hS.1 (hS.1.fr qa_0 qr_0_9).2 qw_58 H
    have H : Ev none (e1 + 1) 116 24 [some (.ref 0), some (.int k)] [.int (rI M (fR M 0 9) k)] M v M' 0 0 := H
    have H : Ev none (e1 + 1) 116 28 [some (.ref 0), some (.int k)] [.int (rI M (fR M 0 9) k)] M v M' 0 0 := Ev.back 1 (fun n => rfl) H
    obtain ⟨z1, z2⟩ := Ev.retz rfl rfl H
    exact Or.inr (⟨h2, b3, z1, z2⟩)
theorem rwr_0 {e : Nat} {M M' : Mem} {v : Option Value} {k w : Int32} (hS : SQ M) (H : Ev none e 215 0 [some (.ref 633), some (.int k), some (.int w)] [] M v M' 0 0) : ((G_140 (wF M 633 0 0) k 0 ((rI M 635 157) - 1)) = 0 ∧ (0 ≤ (157 : Int32).toInt ∧ (157 : Int32).toInt < 2314) ∧ v = some (.int (-1)) ∧ M' = (wF M 633 0 0)) ∨ (¬ ((G_140 (wF M 633 0 0) k 0 ((rI M 635 157) - 1)) = 0) ∧ (G_140 (wF M 633 0 0) w 0 2) = 0 ∧ (0 ≤ (157 : Int32).toInt ∧ (157 : Int32).toInt < 2314) ∧ v = some (.int (-1)) ∧ M' = (wF M 633 0 0)) ∨ (¬ ((G_140 (wF M 633 0 0) k 0 ((rI M 635 157) - 1)) = 0) ∧ ¬ ((G_140 (wF M 633 0 0) w 0 2) = 0) ∧ (0 ≤ (157 : Int32).toInt ∧ (157 : Int32).toInt < 2314) ∧ (0 ≤ ((158 + (6 * k)) + w).toInt ∧ ((158 + (6 * k)) + w).toInt < 2314) ∧ v = some (.int (rI M 635 ((158 + (6 * k)) + w))) ∧ M' = (wF M 633 0 0)) := by
  have H : Ev none e 215 2 [some (.ref 633), some (.int k), some (.int w)] [.int 0, .ref 633] M v M' 0 0 := Ev.back 2 (fun n => rfl) H
  obtain ⟨N2, eN2⟩ : ∃ N, N = (wF M 633 0 0) := ⟨_, rfl⟩
  have hN2 : SQ N2 := by rw [eN2]; exact hS.kf
  have H : Ev none e 215 5 [some (.ref 633), some (.int k), some (.int w)] [] N2 v M' 0 0 := by rw [eN2]; exact Ev.pfi rfl rfl rfl hS.1 qa_633 qi_61_0 H
  have H : Ev none e 215 8 [some (.ref 633), some (.int k), some (.int w)] [.ref 633, .int 0, .int k] N2 v M' 0 0 := Ev.back 3 (fun n => rfl) H
  have H : Ev none e 215 11 [some (.ref 633), some (.int k), some (.int w)] [.ref 635, .int 0, .int k] N2 v M' 0 0 := Ev.back 1 (gs_3 rfl rfl (gf_u hN2.1 qa_633 qr_61_5 qu_63 rfl)) H
  have H : Ev none e 215 14 [some (.ref 633), some (.int k), some (.int w)] [.int 157, .ref 635, .int 0, .int k] N2 v M' 0 0 := Ev.back 1 (fun n => rfl) H
  obtain ⟨b3, H⟩ := Ev.ial rfl rfl hN2.1 qa_635 qw_63 H
  have H : Ev none e 215 15 [some (.ref 633), some (.int k), some (.int w)] [.int (rI N2 635 157), .int 0, .int k] N2 v M' 0 0 := H
  rw [show rI N2 635 157 = rI M 635 157 from by rw [eN2]; exact rN_wF] at H
  have H : Ev none e 215 17 [some (.ref 633), some (.int k), some (.int w)] [.int ((rI M 635 157) - 1), .int 0, .int k] N2 v M' 0 0 := Ev.back 2 (fun n => rfl) H
  obtain ⟨e1, rfl⟩ := Ev.dpos rfl rfl H
  obtain ⟨vK4, MK4, K4, H⟩ := Ev.callb (fun n => rfl) H
  obtain ⟨pK4, qK4⟩ := g_140 hN2 K4
  rw [pK4, qK4] at H
  have H : Ev none (e1 + 1) 215 20 [some (.ref 633), some (.int k), some (.int w)] [.int (G_140 N2 k 0 ((rI M 635 157) - 1))] N2 v M' 0 0 := H
  have H : Ev none (e1 + 1) 215 (if (G_140 N2 k 0 ((rI M 635 157) - 1)) = 0 then 50 else 23) [some (.ref 633), some (.int k), some (.int w)] [] N2 v M' 0 0 := Ev.back 1 (fun n => rfl) H
  by_cases h5 : (G_140 N2 k 0 ((rI M 635 157) - 1)) = 0
  · rw [if_pos h5] at H
    have H : Ev none (e1 + 1) 215 51 [some (.ref 633), some (.int k), some (.int w)] [.int (-1)] N2 v M' 0 0 := Ev.back 1 (fun n => rfl) H
    obtain ⟨z1, z2⟩ := Ev.retz rfl rfl H
    subst eN2
    exact Or.inl ⟨h5, b3, z1, z2⟩
  · rw [if_neg h5] at H
    have H : Ev none (e1 + 1) 215 26 [some (.ref 633), some (.int k), some (.int w)] [.int 2, .int 0, .int w] N2 v M' 0 0 := Ev.back 3 (fun n => rfl) H
    obtain ⟨vK6, MK6, K6, H⟩ := Ev.callb (fun n => rfl) H
    obtain ⟨pK6, qK6⟩ := g_140 hN2 K6
    rw [pK6, qK6] at H
    have H : Ev none (e1 + 1) 215 29 [some (.ref 633), some (.int k), some (.int w)] [.int (G_140 N2 w 0 2)] N2 v M' 0 0 := H
    have H : Ev none (e1 + 1) 215 (if (G_140 N2 w 0 2) = 0 then 50 else 32) [some (.ref 633), some (.int k), some (.int w)] [] N2 v M' 0 0 := Ev.back 1 (fun n => rfl) H
    by_cases h7 : (G_140 N2 w 0 2) = 0
    · rw [if_pos h7] at H
      have H : Ev none (e1 + 1) 215 51 [some (.ref 633), some (.int k), some (.int w)] [.int (-1)] N2 v M' 0 0 := Ev.back 1 (fun n => rfl) H
      obtain ⟨z1, z2⟩ := Ev.retz rfl rfl H
      subst eN2
      exact Or.inr (Or.inl ⟨h5, h7, b3, z1, z2⟩)
    · rw [if_neg h7] at H
      have H : Ev none (e1 + 1) 215 33 [some (.ref 633), some (.int k), some (.int w)] [.ref 633] N2 v M' 0 0 := Ev.back 1 (fun n => rfl) H
      have H : Ev none (e1 + 1) 215 36 [some (.ref 633), some (.int k), some (.int w)] [.ref 635] N2 v M' 0 0 := Ev.back 1 (gs_3 rfl rfl (gf_u hN2.1 qa_633 qr_61_5 qu_63 rfl)) H
      have H : Ev none (e1 + 1) 215 46 [some (.ref 633), some (.int k), some (.int w)] [.int ((158 + (6 * k)) + w), .ref 635] N2 v M' 0 0 := Ev.back 7 (fun n => rfl) H
      obtain ⟨b8, H⟩ := Ev.ial rfl rfl hN2.1 qa_635 qw_63 H
      have H : Ev none (e1 + 1) 215 47 [some (.ref 633), some (.int k), some (.int w)] [.int (rI N2 635 ((158 + (6 * k)) + w))] N2 v M' 0 0 := H
      rw [show rI N2 635 ((158 + (6 * k)) + w) = rI M 635 ((158 + (6 * k)) + w) from by rw [eN2]; exact rN_wF] at H
      have H : Ev none (e1 + 1) 215 51 [some (.ref 633), some (.int k), some (.int w)] [.int (rI M 635 ((158 + (6 * k)) + w))] N2 v M' 0 0 := Ev.back 1 (fun n => rfl) H
      obtain ⟨z1, z2⟩ := Ev.retz rfl rfl H
      subst eN2
      exact Or.inr (Or.inr (⟨h5, h7, b3, b8, z1, z2⟩))
theorem rcn_0 {e : Nat} {M M' : Mem} {v : Option Value} {k : Int32} (hS : SQ M) (H : Ev none e 248 0 [some (.ref 633), some (.int k), none, none] [] M v M' 0 0) : Ev none e 248 9 [some (.ref 633), some (.int k), some (.int 0), some (.int 0)] [] (wF M 633 0 0) v M' 0 0 := by
  have H : Ev none e 248 2 [some (.ref 633), some (.int k), none, none] [.int 0, .ref 633] M v M' 0 0 := Ev.back 2 (fun n => rfl) H
  obtain ⟨N2, eN2⟩ : ∃ N, N = (wF M 633 0 0) := ⟨_, rfl⟩
  have hN2 : SQ N2 := by rw [eN2]; exact hS.kf
  have H : Ev none e 248 5 [some (.ref 633), some (.int k), none, none] [] N2 v M' 0 0 := by rw [eN2]; exact Ev.pfi rfl rfl rfl hS.1 qa_633 qi_61_0 H
  have H : Ev none e 248 9 [some (.ref 633), some (.int k), some (.int 0), some (.int 0)] [] N2 v M' 0 0 := Ev.back 4 (fun n => rfl) H
  have HF := H
  subst eN2
  exact HF
theorem rcn_9 {e : Nat} {M M' : Mem} {v : Option Value} {k n i : Int32} (hS : SQ M) (H : Ev none e 248 9 [some (.ref 633), some (.int k), some (.int n), some (.int i)] [] M v M' 0 0) : ((rI M 635 12) ≤ i ∧ (0 ≤ (12 : Int32).toInt ∧ (12 : Int32).toInt < 2314) ∧ Ev none e 248 43 [some (.ref 633), some (.int k), some (.int n), some (.int i)] [] M v M' 0 0) ∨ (¬ ((rI M 635 12) ≤ i) ∧ (0 ≤ (12 : Int32).toInt ∧ (12 : Int32).toInt < 2314) ∧ (0 ≤ ((13 + (6 * i)) + 5).toInt ∧ ((13 + (6 * i)) + 5).toInt < 2314) ∧ Ev none e 248 9 [some (.ref 633), some (.int k), some (.int (n + (rI M 635 ((13 + (6 * i)) + 5)))), some (.int (i + 1))] [] M v M' 0 0) := by
  have H : Ev none e 248 11 [some (.ref 633), some (.int k), some (.int n), some (.int i)] [.ref 633, .int i] M v M' 0 0 := Ev.back 2 (fun n => rfl) H
  have H : Ev none e 248 14 [some (.ref 633), some (.int k), some (.int n), some (.int i)] [.ref 635, .int i] M v M' 0 0 := Ev.back 1 (gs_3 rfl rfl (gf_u hS.1 qa_633 qr_61_5 qu_63 rfl)) H
  have H : Ev none e 248 16 [some (.ref 633), some (.int k), some (.int n), some (.int i)] [.int 12, .ref 635, .int i] M v M' 0 0 := Ev.back 1 (fun n => rfl) H
  obtain ⟨b1, H⟩ := Ev.ial rfl rfl hS.1 qa_635 qw_63 H
  have H : Ev none e 248 17 [some (.ref 633), some (.int k), some (.int n), some (.int i)] [.int (rI M 635 12), .int i] M v M' 0 0 := H
  have H : Ev none e 248 (if (rI M 635 12) ≤ i then 43 else 20) [some (.ref 633), some (.int k), some (.int n), some (.int i)] [] M v M' 0 0 := Ev.back 1 (fun n => rfl) H
  by_cases h2 : (rI M 635 12) ≤ i
  · rw [if_pos h2] at H
    have HF := H
    exact Or.inl ⟨h2, b1, HF⟩
  · rw [if_neg h2] at H
    have H : Ev none e 248 22 [some (.ref 633), some (.int k), some (.int n), some (.int i)] [.ref 633, .int n] M v M' 0 0 := Ev.back 2 (fun n => rfl) H
    have H : Ev none e 248 25 [some (.ref 633), some (.int k), some (.int n), some (.int i)] [.ref 635, .int n] M v M' 0 0 := Ev.back 1 (gs_3 rfl rfl (gf_u hS.1 qa_633 qr_61_5 qu_63 rfl)) H
    have H : Ev none e 248 34 [some (.ref 633), some (.int k), some (.int n), some (.int i)] [.int ((13 + (6 * i)) + 5), .ref 635, .int n] M v M' 0 0 := Ev.back 7 (fun n => rfl) H
    obtain ⟨b3, H⟩ := Ev.ial rfl rfl hS.1 qa_635 qw_63 H
    have H : Ev none e 248 35 [some (.ref 633), some (.int k), some (.int n), some (.int i)] [.int (rI M 635 ((13 + (6 * i)) + 5)), .int n] M v M' 0 0 := H
    have H : Ev none e 248 9 [some (.ref 633), some (.int k), some (.int (n + (rI M 635 ((13 + (6 * i)) + 5)))), some (.int (i + 1))] [] M v M' 0 0 := Ev.back 4 (fun n => rfl) H
    have HF := H
    exact Or.inr (⟨h2, b1, b3, HF⟩)
theorem rcn_43 {e : Nat} {M M' : Mem} {v : Option Value} {k n i : Int32} (hS : SQ M) (H : Ev none e 248 43 [some (.ref 633), some (.int k), some (.int n), some (.int i)] [] M v M' 0 0) : (k = 0 ∧ (0 ≤ (0 : Int32).toInt ∧ (0 : Int32).toInt < 2314) ∧ v = some (.int (rI M 635 0)) ∧ M' = M) ∨ (¬ (k = 0) ∧ k = 1 ∧ (0 ≤ (1 : Int32).toInt ∧ (1 : Int32).toInt < 2314) ∧ v = some (.int (rI M 635 1)) ∧ M' = M) ∨ (¬ (k = 0) ∧ ¬ (k = 1) ∧ k = 2 ∧ (0 ≤ (2 : Int32).toInt ∧ (2 : Int32).toInt < 2314) ∧ v = some (.int (rI M 635 2)) ∧ M' = M) ∨ (¬ (k = 0) ∧ ¬ (k = 1) ∧ ¬ (k = 2) ∧ k = 3 ∧ v = some (.int n) ∧ M' = M) ∨ (¬ (k = 0) ∧ ¬ (k = 1) ∧ ¬ (k = 2) ∧ ¬ (k = 3) ∧ k = 4 ∧ (0 ≤ (157 : Int32).toInt ∧ (157 : Int32).toInt < 2314) ∧ v = some (.int (rI M 635 157)) ∧ M' = M) ∨ (¬ (k = 0) ∧ ¬ (k = 1) ∧ ¬ (k = 2) ∧ ¬ (k = 3) ∧ ¬ (k = 4) ∧ k = 5 ∧ (0 ≤ (518 : Int32).toInt ∧ (518 : Int32).toInt < 2314) ∧ v = some (.int (rI M 635 518)) ∧ M' = M) ∨ (¬ (k = 0) ∧ ¬ (k = 1) ∧ ¬ (k = 2) ∧ ¬ (k = 3) ∧ ¬ (k = 4) ∧ ¬ (k = 5) ∧ k = 6 ∧ (0 ≤ (519 : Int32).toInt ∧ (519 : Int32).toInt < 2314) ∧ v = some (.int (rI M 635 519)) ∧ M' = M) ∨ (¬ (k = 0) ∧ ¬ (k = 1) ∧ ¬ (k = 2) ∧ ¬ (k = 3) ∧ ¬ (k = 4) ∧ ¬ (k = 5) ∧ ¬ (k = 6) ∧ k = 7 ∧ (0 ≤ (520 : Int32).toInt ∧ (520 : Int32).toInt < 2314) ∧ v = some (.int (rI M 635 520)) ∧ M' = M) ∨ (¬ (k = 0) ∧ ¬ (k = 1) ∧ ¬ (k = 2) ∧ ¬ (k = 3) ∧ ¬ (k = 4) ∧ ¬ (k = 5) ∧ ¬ (k = 6) ∧ ¬ (k = 7) ∧ k = 8 ∧ (0 ≤ (521 : Int32).toInt ∧ (521 : Int32).toInt < 2314) ∧ v = some (.int (rI M 635 521)) ∧ M' = M) ∨ (¬ (k = 0) ∧ ¬ (k = 1) ∧ ¬ (k = 2) ∧ ¬ (k = 3) ∧ ¬ (k = 4) ∧ ¬ (k = 5) ∧ ¬ (k = 6) ∧ ¬ (k = 7) ∧ ¬ (k = 8) ∧ k = 9 ∧ v = some (.int (zI M 633 2)) ∧ M' = M) ∨ (¬ (k = 0) ∧ ¬ (k = 1) ∧ ¬ (k = 2) ∧ ¬ (k = 3) ∧ ¬ (k = 4) ∧ ¬ (k = 5) ∧ ¬ (k = 6) ∧ ¬ (k = 7) ∧ ¬ (k = 8) ∧ ¬ (k = 9) ∧ v = some (.int (-1)) ∧ M' = M) := by
  have H : Ev none e 248 44 [some (.ref 633), some (.int k), some (.int n), some (.int i)] [.int k] M v M' 0 0 := Ev.back 1 (fun n => rfl) H
  by_cases h1 : k = 0
  · have H : Ev none e 248 100 [some (.ref 633), some (.int k), some (.int n), some (.int i)] [] M v M' 0 0 := Ev.back 1 (by rw [h1]; exact fun n => rfl) H
    have H : Ev none e 248 101 [some (.ref 633), some (.int k), some (.int n), some (.int i)] [.ref 633] M v M' 0 0 := Ev.back 1 (fun n => rfl) H
    have H : Ev none e 248 104 [some (.ref 633), some (.int k), some (.int n), some (.int i)] [.ref 635] M v M' 0 0 := Ev.back 1 (gs_3 rfl rfl (gf_u hS.1 qa_633 qr_61_5 qu_63 rfl)) H
    have H : Ev none e 248 105 [some (.ref 633), some (.int k), some (.int n), some (.int i)] [.int 0, .ref 635] M v M' 0 0 := Ev.back 1 (fun n => rfl) H
    obtain ⟨b2, H⟩ := Ev.ial rfl rfl hS.1 qa_635 qw_63 H
    have H : Ev none e 248 106 [some (.ref 633), some (.int k), some (.int n), some (.int i)] [.int (rI M 635 0)] M v M' 0 0 := H
    obtain ⟨z1, z2⟩ := Ev.retz rfl rfl H
    exact Or.inl ⟨h1, b2, z1, z2⟩
  · by_cases h3 : k = 1
    · have H : Ev none e 248 107 [some (.ref 633), some (.int k), some (.int n), some (.int i)] [] M v M' 0 0 := Ev.back 1 (by rw [h3]; exact fun n => rfl) H
      have H : Ev none e 248 108 [some (.ref 633), some (.int k), some (.int n), some (.int i)] [.ref 633] M v M' 0 0 := Ev.back 1 (fun n => rfl) H
      have H : Ev none e 248 111 [some (.ref 633), some (.int k), some (.int n), some (.int i)] [.ref 635] M v M' 0 0 := Ev.back 1 (gs_3 rfl rfl (gf_u hS.1 qa_633 qr_61_5 qu_63 rfl)) H
      have H : Ev none e 248 112 [some (.ref 633), some (.int k), some (.int n), some (.int i)] [.int 1, .ref 635] M v M' 0 0 := Ev.back 1 (fun n => rfl) H
      obtain ⟨b4, H⟩ := Ev.ial rfl rfl hS.1 qa_635 qw_63 H
      have H : Ev none e 248 113 [some (.ref 633), some (.int k), some (.int n), some (.int i)] [.int (rI M 635 1)] M v M' 0 0 := H
      obtain ⟨z1, z2⟩ := Ev.retz rfl rfl H
      exact Or.inr (Or.inl ⟨h1, h3, b4, z1, z2⟩)
    · by_cases h5 : k = 2
      · have H : Ev none e 248 114 [some (.ref 633), some (.int k), some (.int n), some (.int i)] [] M v M' 0 0 := Ev.back 1 (by rw [h5]; exact fun n => rfl) H
        have H : Ev none e 248 115 [some (.ref 633), some (.int k), some (.int n), some (.int i)] [.ref 633] M v M' 0 0 := Ev.back 1 (fun n => rfl) H
        have H : Ev none e 248 118 [some (.ref 633), some (.int k), some (.int n), some (.int i)] [.ref 635] M v M' 0 0 := Ev.back 1 (gs_3 rfl rfl (gf_u hS.1 qa_633 qr_61_5 qu_63 rfl)) H
        have H : Ev none e 248 119 [some (.ref 633), some (.int k), some (.int n), some (.int i)] [.int 2, .ref 635] M v M' 0 0 := Ev.back 1 (fun n => rfl) H
        obtain ⟨b6, H⟩ := Ev.ial rfl rfl hS.1 qa_635 qw_63 H
        have H : Ev none e 248 120 [some (.ref 633), some (.int k), some (.int n), some (.int i)] [.int (rI M 635 2)] M v M' 0 0 := H
        obtain ⟨z1, z2⟩ := Ev.retz rfl rfl H
        exact Or.inr (Or.inr (Or.inl ⟨h1, h3, h5, b6, z1, z2⟩))
      · by_cases h7 : k = 3
        · have H : Ev none e 248 121 [some (.ref 633), some (.int k), some (.int n), some (.int i)] [] M v M' 0 0 := Ev.back 1 (by rw [h7]; exact fun n => rfl) H
          have H : Ev none e 248 122 [some (.ref 633), some (.int k), some (.int n), some (.int i)] [.int n] M v M' 0 0 := Ev.back 1 (fun n => rfl) H
          obtain ⟨z1, z2⟩ := Ev.retz rfl rfl H
          exact Or.inr (Or.inr (Or.inr (Or.inl ⟨h1, h3, h5, h7, z1, z2⟩)))
        · by_cases h8 : k = 4
          · have H : Ev none e 248 123 [some (.ref 633), some (.int k), some (.int n), some (.int i)] [] M v M' 0 0 := Ev.back 1 (by rw [h8]; exact fun n => rfl) H
            have H : Ev none e 248 124 [some (.ref 633), some (.int k), some (.int n), some (.int i)] [.ref 633] M v M' 0 0 := Ev.back 1 (fun n => rfl) H
            have H : Ev none e 248 127 [some (.ref 633), some (.int k), some (.int n), some (.int i)] [.ref 635] M v M' 0 0 := Ev.back 1 (gs_3 rfl rfl (gf_u hS.1 qa_633 qr_61_5 qu_63 rfl)) H
            have H : Ev none e 248 130 [some (.ref 633), some (.int k), some (.int n), some (.int i)] [.int 157, .ref 635] M v M' 0 0 := Ev.back 1 (fun n => rfl) H
            obtain ⟨b9, H⟩ := Ev.ial rfl rfl hS.1 qa_635 qw_63 H
            have H : Ev none e 248 131 [some (.ref 633), some (.int k), some (.int n), some (.int i)] [.int (rI M 635 157)] M v M' 0 0 := H
            obtain ⟨z1, z2⟩ := Ev.retz rfl rfl H
            exact Or.inr (Or.inr (Or.inr (Or.inr (Or.inl ⟨h1, h3, h5, h7, h8, b9, z1, z2⟩))))
          · by_cases h10 : k = 5
            · have H : Ev none e 248 132 [some (.ref 633), some (.int k), some (.int n), some (.int i)] [] M v M' 0 0 := Ev.back 1 (by rw [h10]; exact fun n => rfl) H
              have H : Ev none e 248 133 [some (.ref 633), some (.int k), some (.int n), some (.int i)] [.ref 633] M v M' 0 0 := Ev.back 1 (fun n => rfl) H
              have H : Ev none e 248 136 [some (.ref 633), some (.int k), some (.int n), some (.int i)] [.ref 635] M v M' 0 0 := Ev.back 1 (gs_3 rfl rfl (gf_u hS.1 qa_633 qr_61_5 qu_63 rfl)) H
              have H : Ev none e 248 139 [some (.ref 633), some (.int k), some (.int n), some (.int i)] [.int 518, .ref 635] M v M' 0 0 := Ev.back 1 (fun n => rfl) H
              obtain ⟨b11, H⟩ := Ev.ial rfl rfl hS.1 qa_635 qw_63 H
              have H : Ev none e 248 140 [some (.ref 633), some (.int k), some (.int n), some (.int i)] [.int (rI M 635 518)] M v M' 0 0 := H
              obtain ⟨z1, z2⟩ := Ev.retz rfl rfl H
              exact Or.inr (Or.inr (Or.inr (Or.inr (Or.inr (Or.inl ⟨h1, h3, h5, h7, h8, h10, b11, z1, z2⟩)))))
            · by_cases h12 : k = 6
              · have H : Ev none e 248 141 [some (.ref 633), some (.int k), some (.int n), some (.int i)] [] M v M' 0 0 := Ev.back 1 (by rw [h12]; exact fun n => rfl) H
                have H : Ev none e 248 142 [some (.ref 633), some (.int k), some (.int n), some (.int i)] [.ref 633] M v M' 0 0 := Ev.back 1 (fun n => rfl) H
                have H : Ev none e 248 145 [some (.ref 633), some (.int k), some (.int n), some (.int i)] [.ref 635] M v M' 0 0 := Ev.back 1 (gs_3 rfl rfl (gf_u hS.1 qa_633 qr_61_5 qu_63 rfl)) H
                have H : Ev none e 248 148 [some (.ref 633), some (.int k), some (.int n), some (.int i)] [.int 519, .ref 635] M v M' 0 0 := Ev.back 1 (fun n => rfl) H
                obtain ⟨b13, H⟩ := Ev.ial rfl rfl hS.1 qa_635 qw_63 H
                have H : Ev none e 248 149 [some (.ref 633), some (.int k), some (.int n), some (.int i)] [.int (rI M 635 519)] M v M' 0 0 := H
                obtain ⟨z1, z2⟩ := Ev.retz rfl rfl H
                exact Or.inr (Or.inr (Or.inr (Or.inr (Or.inr (Or.inr (Or.inl ⟨h1, h3, h5, h7, h8, h10, h12, b13, z1, z2⟩))))))
              · by_cases h14 : k = 7
                · have H : Ev none e 248 150 [some (.ref 633), some (.int k), some (.int n), some (.int i)] [] M v M' 0 0 := Ev.back 1 (by rw [h14]; exact fun n => rfl) H
                  have H : Ev none e 248 151 [some (.ref 633), some (.int k), some (.int n), some (.int i)] [.ref 633] M v M' 0 0 := Ev.back 1 (fun n => rfl) H
                  have H : Ev none e 248 154 [some (.ref 633), some (.int k), some (.int n), some (.int i)] [.ref 635] M v M' 0 0 := Ev.back 1 (gs_3 rfl rfl (gf_u hS.1 qa_633 qr_61_5 qu_63 rfl)) H
                  have H : Ev none e 248 157 [some (.ref 633), some (.int k), some (.int n), some (.int i)] [.int 520, .ref 635] M v M' 0 0 := Ev.back 1 (fun n => rfl) H
                  obtain ⟨b15, H⟩ := Ev.ial rfl rfl hS.1 qa_635 qw_63 H
                  have H : Ev none e 248 158 [some (.ref 633), some (.int k), some (.int n), some (.int i)] [.int (rI M 635 520)] M v M' 0 0 := H
                  obtain ⟨z1, z2⟩ := Ev.retz rfl rfl H
                  exact Or.inr (Or.inr (Or.inr (Or.inr (Or.inr (Or.inr (Or.inr (Or.inl ⟨h1, h3, h5, h7, h8, h10, h12, h14, b15, z1, z2⟩)))))))
                · by_cases h16 : k = 8
                  · have H : Ev none e 248 159 [some (.ref 633), some (.int k), some (.int n), some (.int i)] [] M v M' 0 0 := Ev.back 1 (by rw [h16]; exact fun n => rfl) H
                    have H : Ev none e 248 160 [some (.ref 633), some (.int k), some (.int n), some (.int i)] [.ref 633] M v M' 0 0 := Ev.back 1 (fun n => rfl) H
                    have H : Ev none e 248 163 [some (.ref 633), some (.int k), some (.int n), some (.int i)] [.ref 635] M v M' 0 0 := Ev.back 1 (gs_3 rfl rfl (gf_u hS.1 qa_633 qr_61_5 qu_63 rfl)) H
                    have H : Ev none e 248 166 [some (.ref 633), some (.int k), some (.int n), some (.int i)] [.int 521, .ref 635] M v M' 0 0 := Ev.back 1 (fun n => rfl) H
                    obtain ⟨b17, H⟩ := Ev.ial rfl rfl hS.1 qa_635 qw_63 H
                    have H : Ev none e 248 167 [some (.ref 633), some (.int k), some (.int n), some (.int i)] [.int (rI M 635 521)] M v M' 0 0 := H
                    obtain ⟨z1, z2⟩ := Ev.retz rfl rfl H
                    exact Or.inr (Or.inr (Or.inr (Or.inr (Or.inr (Or.inr (Or.inr (Or.inr (Or.inl ⟨h1, h3, h5, h7, h8, h10, h12, h14, h16, b17, z1, z2⟩))))))))
                  · by_cases h18 : k = 9
                    · have H : Ev none e 248 168 [some (.ref 633), some (.int k), some (.int n), some (.int i)] [] M v M' 0 0 := Ev.back 1 (by rw [h18]; exact fun n => rfl) H
                      have H : Ev none e 248 169 [some (.ref 633), some (.int k), some (.int n), some (.int i)] [.ref 633] M v M' 0 0 := Ev.back 1 (fun n => rfl) H
                      have H : Ev none e 248 172 [some (.ref 633), some (.int k), some (.int n), some (.int i)] [.int (zI M 633 2)] M v M' 0 0 := Ev.back 1 (gs_3 rfl rfl (gf_i hS.1 qa_633 qi_61_2 rfl)) H
                      obtain ⟨z1, z2⟩ := Ev.retz rfl rfl H
                      exact Or.inr (Or.inr (Or.inr (Or.inr (Or.inr (Or.inr (Or.inr (Or.inr (Or.inr (Or.inl ⟨h1, h3, h5, h7, h8, h10, h12, h14, h16, h18, z1, z2⟩)))))))))
                    · have H : Ev none e 248 (if k.toInt < 0 ∨ 9 < k.toInt then gT 44 129 else gT 44 (([56, 63, 70, 77, 79, 88, 97, 106, 115, 124] : List Int).getD (k.toInt - 0).toNat 0)) [some (.ref 633), some (.int k), some (.int n), some (.int i)] [] M v M' 0 0 := Ev.back 1 (fun n => rfl) H
                      have qh1 : k.toInt ≠ 0 := fun q => h1 (Int32.toInt_inj.mp q)
                      have qh3 : k.toInt ≠ 1 := fun q => h3 (Int32.toInt_inj.mp q)
                      have qh5 : k.toInt ≠ 2 := fun q => h5 (Int32.toInt_inj.mp q)
                      have qh7 : k.toInt ≠ 3 := fun q => h7 (Int32.toInt_inj.mp q)
                      have qh8 : k.toInt ≠ 4 := fun q => h8 (Int32.toInt_inj.mp q)
                      have qh10 : k.toInt ≠ 5 := fun q => h10 (Int32.toInt_inj.mp q)
                      have qh12 : k.toInt ≠ 6 := fun q => h12 (Int32.toInt_inj.mp q)
                      have qh14 : k.toInt ≠ 7 := fun q => h14 (Int32.toInt_inj.mp q)
                      have qh16 : k.toInt ≠ 8 := fun q => h16 (Int32.toInt_inj.mp q)
                      have qh18 : k.toInt ≠ 9 := fun q => h18 (Int32.toInt_inj.mp q)
                      rw [if_pos (show k.toInt < 0 ∨ 9 < k.toInt from by omega)] at H
                      have H : Ev none e 248 173 [some (.ref 633), some (.int k), some (.int n), some (.int i)] [] M v M' 0 0 := H
                      have H : Ev none e 248 174 [some (.ref 633), some (.int k), some (.int n), some (.int i)] [.int (-1)] M v M' 0 0 := Ev.back 1 (fun n => rfl) H
                      obtain ⟨z1, z2⟩ := Ev.retz rfl rfl H
                      exact Or.inr (Or.inr (Or.inr (Or.inr (Or.inr (Or.inr (Or.inr (Or.inr (Or.inr (Or.inr (⟨h1, h3, h5, h7, h8, h10, h12, h14, h16, h18, z1, z2⟩))))))))))
theorem rfA_0 {e : Nat} {M M' : Mem} {v : Option Value} {k : Int32} (hS : SQ M) (H : Ev none e 236 0 [some (.ref 633), some (.int k)] [] M v M' 0 0) : ((G_140 (wF M 633 0 0) k 0 ((zI M 633 53) - 1)) = 0 ∧ v = some (.int (-1)) ∧ M' = (wF M 633 0 0)) ∨ (¬ ((G_140 (wF M 633 0 0) k 0 ((zI M 633 53) - 1)) = 0) ∧ (0 ≤ k.toInt ∧ k.toInt < 2) ∧ v = some (.int (rI M 656 k)) ∧ M' = (wF M 633 0 0)) := by
  have H : Ev none e 236 2 [some (.ref 633), some (.int k)] [.int 0, .ref 633] M v M' 0 0 := Ev.back 2 (fun n => rfl) H
  obtain ⟨N2, eN2⟩ : ∃ N, N = (wF M 633 0 0) := ⟨_, rfl⟩
  have hN2 : SQ N2 := by rw [eN2]; exact hS.kf
  have H : Ev none e 236 5 [some (.ref 633), some (.int k)] [] N2 v M' 0 0 := by rw [eN2]; exact Ev.pfi rfl rfl rfl hS.1 qa_633 qi_61_0 H
  have H : Ev none e 236 8 [some (.ref 633), some (.int k)] [.ref 633, .int 0, .int k] N2 v M' 0 0 := Ev.back 3 (fun n => rfl) H
  have H : Ev none e 236 11 [some (.ref 633), some (.int k)] [.int (zI N2 633 53), .int 0, .int k] N2 v M' 0 0 := Ev.back 1 (gs_3 rfl rfl (gf_i hN2.1 qa_633 qi_61_53 rfl)) H
  rw [show zI N2 633 53 = zI M 633 53 from by rw [eN2]; exact fI_wF_ne (fun q => absurd q.2 (by decide))] at H
  have H : Ev none e 236 13 [some (.ref 633), some (.int k)] [.int ((zI M 633 53) - 1), .int 0, .int k] N2 v M' 0 0 := Ev.back 2 (fun n => rfl) H
  obtain ⟨e1, rfl⟩ := Ev.dpos rfl rfl H
  obtain ⟨vK3, MK3, K3, H⟩ := Ev.callb (fun n => rfl) H
  obtain ⟨pK3, qK3⟩ := g_140 hN2 K3
  rw [pK3, qK3] at H
  have H : Ev none (e1 + 1) 236 16 [some (.ref 633), some (.int k)] [.int (G_140 N2 k 0 ((zI M 633 53) - 1))] N2 v M' 0 0 := H
  have H : Ev none (e1 + 1) 236 (if (G_140 N2 k 0 ((zI M 633 53) - 1)) = 0 then 28 else 19) [some (.ref 633), some (.int k)] [] N2 v M' 0 0 := Ev.back 1 (fun n => rfl) H
  by_cases h4 : (G_140 N2 k 0 ((zI M 633 53) - 1)) = 0
  · rw [if_pos h4] at H
    have H : Ev none (e1 + 1) 236 29 [some (.ref 633), some (.int k)] [.int (-1)] N2 v M' 0 0 := Ev.back 1 (fun n => rfl) H
    obtain ⟨z1, z2⟩ := Ev.retz rfl rfl H
    subst eN2
    exact Or.inl ⟨h4, z1, z2⟩
  · rw [if_neg h4] at H
    have H : Ev none (e1 + 1) 236 20 [some (.ref 633), some (.int k)] [.ref 633] N2 v M' 0 0 := Ev.back 1 (fun n => rfl) H
    have H : Ev none (e1 + 1) 236 23 [some (.ref 633), some (.int k)] [.ref 656] N2 v M' 0 0 := Ev.back 1 (gs_3 rfl rfl (gf_u hN2.1 qa_633 qr_61_52 qu_84 rfl)) H
    have H : Ev none (e1 + 1) 236 24 [some (.ref 633), some (.int k)] [.int k, .ref 656] N2 v M' 0 0 := Ev.back 1 (fun n => rfl) H
    obtain ⟨b5, H⟩ := Ev.ial rfl rfl hN2.1 qa_656 qw_84 H
    have H : Ev none (e1 + 1) 236 25 [some (.ref 633), some (.int k)] [.int (rI N2 656 k)] N2 v M' 0 0 := H
    rw [show rI N2 656 k = rI M 656 k from by rw [eN2]; exact rN_wF] at H
    have H : Ev none (e1 + 1) 236 29 [some (.ref 633), some (.int k)] [.int (rI M 656 k)] N2 v M' 0 0 := Ev.back 1 (fun n => rfl) H
    obtain ⟨z1, z2⟩ := Ev.retz rfl rfl H
    subst eN2
    exact Or.inr (⟨h4, b5, z1, z2⟩)
theorem rwA_0 {e : Nat} {M M' : Mem} {v : Option Value} {k : Int32} (hS : SQ M) (H : Ev none e 241 0 [some (.ref 633), some (.int k)] [] M v M' 0 0) : ((G_140 (wF M 633 0 0) k 0 ((zI M 633 61) - 1)) = 0 ∧ v = some (.int (-1)) ∧ M' = (wF M 633 0 0)) ∨ (¬ ((G_140 (wF M 633 0 0) k 0 ((zI M 633 61) - 1)) = 0) ∧ (0 ≤ k.toInt ∧ k.toInt < 201) ∧ v = some (.int (rI M 658 k)) ∧ M' = (wF M 633 0 0)) := by
  have H : Ev none e 241 2 [some (.ref 633), some (.int k)] [.int 0, .ref 633] M v M' 0 0 := Ev.back 2 (fun n => rfl) H
  obtain ⟨N2, eN2⟩ : ∃ N, N = (wF M 633 0 0) := ⟨_, rfl⟩
  have hN2 : SQ N2 := by rw [eN2]; exact hS.kf
  have H : Ev none e 241 5 [some (.ref 633), some (.int k)] [] N2 v M' 0 0 := by rw [eN2]; exact Ev.pfi rfl rfl rfl hS.1 qa_633 qi_61_0 H
  have H : Ev none e 241 8 [some (.ref 633), some (.int k)] [.ref 633, .int 0, .int k] N2 v M' 0 0 := Ev.back 3 (fun n => rfl) H
  have H : Ev none e 241 11 [some (.ref 633), some (.int k)] [.int (zI N2 633 61), .int 0, .int k] N2 v M' 0 0 := Ev.back 1 (gs_3 rfl rfl (gf_i hN2.1 qa_633 qi_61_61 rfl)) H
  rw [show zI N2 633 61 = zI M 633 61 from by rw [eN2]; exact fI_wF_ne (fun q => absurd q.2 (by decide))] at H
  have H : Ev none e 241 13 [some (.ref 633), some (.int k)] [.int ((zI M 633 61) - 1), .int 0, .int k] N2 v M' 0 0 := Ev.back 2 (fun n => rfl) H
  obtain ⟨e1, rfl⟩ := Ev.dpos rfl rfl H
  obtain ⟨vK3, MK3, K3, H⟩ := Ev.callb (fun n => rfl) H
  obtain ⟨pK3, qK3⟩ := g_140 hN2 K3
  rw [pK3, qK3] at H
  have H : Ev none (e1 + 1) 241 16 [some (.ref 633), some (.int k)] [.int (G_140 N2 k 0 ((zI M 633 61) - 1))] N2 v M' 0 0 := H
  have H : Ev none (e1 + 1) 241 (if (G_140 N2 k 0 ((zI M 633 61) - 1)) = 0 then 28 else 19) [some (.ref 633), some (.int k)] [] N2 v M' 0 0 := Ev.back 1 (fun n => rfl) H
  by_cases h4 : (G_140 N2 k 0 ((zI M 633 61) - 1)) = 0
  · rw [if_pos h4] at H
    have H : Ev none (e1 + 1) 241 29 [some (.ref 633), some (.int k)] [.int (-1)] N2 v M' 0 0 := Ev.back 1 (fun n => rfl) H
    obtain ⟨z1, z2⟩ := Ev.retz rfl rfl H
    subst eN2
    exact Or.inl ⟨h4, z1, z2⟩
  · rw [if_neg h4] at H
    have H : Ev none (e1 + 1) 241 20 [some (.ref 633), some (.int k)] [.ref 633] N2 v M' 0 0 := Ev.back 1 (fun n => rfl) H
    have H : Ev none (e1 + 1) 241 23 [some (.ref 633), some (.int k)] [.ref 658] N2 v M' 0 0 := Ev.back 1 (gs_3 rfl rfl (gf_u hN2.1 qa_633 qr_61_55 qu_86 rfl)) H
    have H : Ev none (e1 + 1) 241 24 [some (.ref 633), some (.int k)] [.int k, .ref 658] N2 v M' 0 0 := Ev.back 1 (fun n => rfl) H
    obtain ⟨b5, H⟩ := Ev.ial rfl rfl hN2.1 qa_658 qw_86 H
    have H : Ev none (e1 + 1) 241 25 [some (.ref 633), some (.int k)] [.int (rI N2 658 k)] N2 v M' 0 0 := H
    rw [show rI N2 658 k = rI M 658 k from by rw [eN2]; exact rN_wF] at H
    have H : Ev none (e1 + 1) 241 29 [some (.ref 633), some (.int k)] [.int (rI M 658 k)] N2 v M' 0 0 := Ev.back 1 (fun n => rfl) H
    obtain ⟨z1, z2⟩ := Ev.retz rfl rfl H
    subst eN2
    exact Or.inr (⟨h4, b5, z1, z2⟩)
theorem rce_0 {e : Nat} {M M' : Mem} {v : Option Value} {c k : Int32} (hS : SQ M) (H : Ev none e 214 0 [some (.ref 633), some (.int c), some (.int k)] [] M v M' 0 0) : ((G_145 M c) = 0 ∧ (∃ e1 v1 M1, e = e1 + 1 ∧ Ev none e1 135 0 [some (.ref 633), some (.int 1)] [] M v1 M1 0 0 ∧ Ev none e 214 27 [some (.ref 633), some (.int c), some (.int k)] (v1.toList ++ []) M1 v M' 0 0)) ∨ (¬ ((G_145 M c) = 0) ∧ (G_140 M k 0 8) = 0 ∧ (∃ e1 v1 M1, e = e1 + 1 ∧ Ev none e1 135 0 [some (.ref 633), some (.int 1)] [] M v1 M1 0 0 ∧ Ev none e 214 27 [some (.ref 633), some (.int c), some (.int k)] (v1.toList ++ []) M1 v M' 0 0)) ∨ (¬ ((G_145 M c) = 0) ∧ ¬ ((G_140 M k 0 8) = 0) ∧ (∃ e1 v1 M1, e = e1 + 1 ∧ Ev none e1 135 0 [some (.ref 633), some (.int 0)] [] M v1 M1 0 0 ∧ Ev none e 214 27 [some (.ref 633), some (.int c), some (.int k)] (v1.toList ++ []) M1 v M' 0 0)) := by
  have H : Ev none e 214 3 [some (.ref 633), some (.int c), some (.int k)] [.int c, .ref 633, .ref 633] M v M' 0 0 := Ev.back 3 (fun n => rfl) H
  obtain ⟨e1, rfl⟩ := Ev.dpos rfl rfl H
  obtain ⟨vK1, MK1, K1, H⟩ := Ev.callb (fun n_ => gs_7 rfl rfl (show gCal (.invokevirtual 155) 11 (.int c :: .ref 633 :: [.ref 633]) M = some (.inr (145, [some (.ref 633), some (.int c)], [.ref 633])) from by show @cond (Option ((List Value × Mem) ⊕ (Nat × Lo × List Value))) (true && gRecv M (.ref 633) 11 && gRoom [.ref 633] && true) (some (.inr (145, [some (.ref 633), some (.int c)], [.ref 633]))) none = _; rw [recv_s hS.1 qa_633 qo_61]; rfl)) H
  obtain ⟨pK1, qK1⟩ := g_145 hS K1
  rw [pK1, qK1] at H
  have H : Ev none (e1 + 1) 214 6 [some (.ref 633), some (.int c), some (.int k)] [.int (G_145 M c), .ref 633] M v M' 0 0 := H
  have H : Ev none (e1 + 1) 214 (if (G_145 M c) = 0 then 19 else 9) [some (.ref 633), some (.int c), some (.int k)] [.ref 633] M v M' 0 0 := Ev.back 1 (fun n => rfl) H
  by_cases h2 : (G_145 M c) = 0
  · rw [if_pos h2] at H
    have H : Ev none (e1 + 1) 214 24 [some (.ref 633), some (.int c), some (.int k)] [.int 1, .ref 633] M v M' 0 0 := Ev.back 2 (fun n => rfl) H
    obtain ⟨vK3, MK3, K3, H⟩ := Ev.callb (fun n_ => gs_7 rfl rfl (show gCal (.invokevirtual 439) 11 (.int 1 :: .ref 633 :: []) M = some (.inr (135, [some (.ref 633), some (.int 1)], [])) from by show @cond (Option ((List Value × Mem) ⊕ (Nat × Lo × List Value))) (true && gRecv M (.ref 633) 11 && gRoom [] && true) (some (.inr (135, [some (.ref 633), some (.int 1)], []))) none = _; rw [recv_s hS.1 qa_633 qo_61]; rfl)) H
    have K3 : Ev none e1 135 0 [some (.ref 633), some (.int 1)] [] M vK3 MK3 0 0 := K3
    have HF := H
    exact Or.inl ⟨h2, ⟨e1, vK3, MK3, rfl, K3, HF⟩⟩
  · rw [if_neg h2] at H
    have H : Ev none (e1 + 1) 214 13 [some (.ref 633), some (.int c), some (.int k)] [.int 8, .int 0, .int k, .ref 633] M v M' 0 0 := Ev.back 3 (fun n => rfl) H
    obtain ⟨vK4, MK4, K4, H⟩ := Ev.callb (fun n => rfl) H
    obtain ⟨pK4, qK4⟩ := g_140 hS K4
    rw [pK4, qK4] at H
    have H : Ev none (e1 + 1) 214 16 [some (.ref 633), some (.int c), some (.int k)] [.int (G_140 M k 0 8), .ref 633] M v M' 0 0 := H
    have H : Ev none (e1 + 1) 214 (if (G_140 M k 0 8) = 0 then 19 else 23) [some (.ref 633), some (.int c), some (.int k)] [.ref 633] M v M' 0 0 := Ev.back 1 (fun n => rfl) H
    by_cases h5 : (G_140 M k 0 8) = 0
    · rw [if_pos h5] at H
      have H : Ev none (e1 + 1) 214 24 [some (.ref 633), some (.int c), some (.int k)] [.int 1, .ref 633] M v M' 0 0 := Ev.back 2 (fun n => rfl) H
      obtain ⟨vK6, MK6, K6, H⟩ := Ev.callb (fun n_ => gs_7 rfl rfl (show gCal (.invokevirtual 439) 11 (.int 1 :: .ref 633 :: []) M = some (.inr (135, [some (.ref 633), some (.int 1)], [])) from by show @cond (Option ((List Value × Mem) ⊕ (Nat × Lo × List Value))) (true && gRecv M (.ref 633) 11 && gRoom [] && true) (some (.inr (135, [some (.ref 633), some (.int 1)], []))) none = _; rw [recv_s hS.1 qa_633 qo_61]; rfl)) H
      have K6 : Ev none e1 135 0 [some (.ref 633), some (.int 1)] [] M vK6 MK6 0 0 := K6
      have HF := H
      exact Or.inr (Or.inl ⟨h2, h5, ⟨e1, vK6, MK6, rfl, K6, HF⟩⟩)
    · rw [if_neg h5] at H
      have H : Ev none (e1 + 1) 214 24 [some (.ref 633), some (.int c), some (.int k)] [.int 0, .ref 633] M v M' 0 0 := Ev.back 1 (fun n => rfl) H
      obtain ⟨vK7, MK7, K7, H⟩ := Ev.callb (fun n_ => gs_7 rfl rfl (show gCal (.invokevirtual 439) 11 (.int 0 :: .ref 633 :: []) M = some (.inr (135, [some (.ref 633), some (.int 0)], [])) from by show @cond (Option ((List Value × Mem) ⊕ (Nat × Lo × List Value))) (true && gRecv M (.ref 633) 11 && gRoom [] && true) (some (.inr (135, [some (.ref 633), some (.int 0)], []))) none = _; rw [recv_s hS.1 qa_633 qo_61]; rfl)) H
      have K7 : Ev none e1 135 0 [some (.ref 633), some (.int 0)] [] M vK7 MK7 0 0 := K7
      have HF := H
      exact Or.inr (Or.inr (⟨h2, h5, ⟨e1, vK7, MK7, rfl, K7, HF⟩⟩))
/-! WALKER and COUNT of both sides -/
noncomputable def walA (P : PK) (k w : Int32) : Int32 := if ((0 : Int32).toInt ≤ k.toInt ∧ k.toInt ≤ (P 157 - 1).toInt) ∧ ((0 : Int32).toInt ≤ w.toInt ∧ w.toInt ≤ (2 : Int32).toInt) then P (158 + 6 * k.toInt.toNat + w.toInt.toNat) else -1
noncomputable def isN (P : PK) : Nat → Nat → Int32 → Int32
  | 0, _, n => n
  | r + 1, i, n => isN P r (i + 1) (n + P (13 + 6 * i + 5))
noncomputable def couA (P : PK) (z k : Int32) : Int32 := if k = 0 then P 0 else if k = 1 then P 1 else if k = 2 then P 2 else if k = 3 then isN P (P 12).toInt.toNat 0 0 else if k = 4 then P 157 else if k = 5 then P 518 else if k = 6 then P 519 else if k = 7 then P 520 else if k = 8 then P 521 else if k = 9 then z else -1
section OBAN
variable {e n i j : Nat} {T : TS} {P : PK} {PI : Nat → PK} {M M1 M' : Mem} {v : Option Value} {k w x c nz iz : Int32}
theorem walk_ok (hC : CST T P PI M) (H : Ev none e 96 0 [some (.ref 0), some (.int k), some (.int w), none] [] M v M' 0 0) : v = some (.int (walA P k w)) ∧ CST T P PI M' := by
  have hA := hC.lan
  have e15 : zI M 8 15 = P 157 := hA.2.2.2.1.1
  have k60 := hC.ok.k60
  have k0 := hC.ok.2.1.1
  have m1 : (P 157 - 1).toInt = (P 157).toInt - 1 := i32_m1 (by omega)
  have t0 : (0 : Int32).toInt = 0 := rfl
  have wf : inX k 0 (P 157 - 1) → WFq (oI M (8 + 11) k) P k.toInt.toNat M := fun q => by
    have q0 := q.1
    have q1 := q.2
    have e : oI M (8 + 11) k = oN M (8 + 11) k.toInt.toNat := by
      unfold oI
      rw [cl_n (show k.toInt = ((k.toInt.toNat : Nat) : Int) by omega)]
    rw [e]
    exact hA.2.2.2.1.2 k.toInt.toNat (by omega)
  unfold walA
  rcases wkr_0 hC.sq hC.ld H with ⟨a1, r1, r2⟩ | ⟨a1, a2, _, r1, r2⟩ | ⟨a1, _, a2, _, r1, r2⟩ | ⟨a1, _, _, a2, _, r1, r2⟩ | ⟨a1, b0, b1, b2, _, r1, r2⟩
  · rw [g126_R, e15] at a1
    rw [r2]
    exact ⟨by rw [r1, if_neg (fun q => a1 q.1)], hC⟩
  · rw [g126_R, e15, Classical.not_not] at a1
    rw [r2]
    refine ⟨?_, hC⟩
    rw [r1, a2, if_pos ⟨a1, by decide⟩, (wf a1).1]
    rfl
  · rw [g126_R, e15, Classical.not_not] at a1
    rw [r2]
    refine ⟨?_, hC⟩
    rw [r1, a2, if_pos ⟨a1, by decide⟩, (wf a1).2.1]
    rfl
  · rw [g126_R, e15, Classical.not_not] at a1
    rw [r2]
    refine ⟨?_, hC⟩
    rw [r1, a2, if_pos ⟨a1, by decide⟩, (wf a1).2.2.1]
    rfl
  · rw [r2]
    refine ⟨?_, hC⟩
    rw [r1, if_neg (fun q => ?_)]
    have q0 : 0 ≤ w.toInt := q.2.1
    have q1 : w.toInt ≤ 2 := q.2.2
    have n0 : w.toInt ≠ 0 := fun h => b0 (Int32.toInt_inj.mp h)
    have n1 : w.toInt ≠ 1 := fun h => b1 (Int32.toInt_inj.mp h)
    have n2 : w.toInt ≠ 2 := fun h => b2 (Int32.toInt_inj.mp h)
    omega
theorem rwalk_ok (hR : RST T P M) (hK : okK P) (H : Ev none e 215 0 [some (.ref 633), some (.int k), some (.int w)] [] M v M' 0 0) : v = some (.int (walA P k w)) ∧ RST T P M' := by
  have h0 := hR.w0 0 (by decide) 0
  have k0 := hK.1
  have k60 := hK.2.1
  have m1 : (P 157 - 1).toInt = (P 157).toInt - 1 := i32_m1 (by omega)
  have e157 : rI M 635 157 = P 157 := (rI_n (p := 157) rfl).trans (hR.2.1 157 (by decide))
  have t0 : (0 : Int32).toInt = 0 := rfl
  unfold walA
  rcases rwr_0 hR.1 H with ⟨a1, _, r1, r2⟩ | ⟨_, a1, _, r1, r2⟩ | ⟨a1, a2, _, _, r1, r2⟩
  · rw [g140_R, e157] at a1
    rw [r2]
    exact ⟨by rw [r1, if_neg (fun q => a1 q.1)], h0⟩
  · rw [g140_R] at a1
    rw [r2]
    exact ⟨by rw [r1, if_neg (fun q => a1 q.2)], h0⟩
  · rw [g140_R, e157, Classical.not_not] at a1
    rw [g140_R, Classical.not_not] at a2
    rw [r2]
    refine ⟨?_, h0⟩
    have q0 : 0 ≤ k.toInt := a1.1
    have q1 := a1.2
    have w0 : 0 ≤ w.toInt := a2.1
    have w2 : w.toInt ≤ 2 := a2.2
    have t6 : (6 : Int32).toInt = 6 := rfl
    have t158 : (158 : Int32).toInt = 158 := rfl
    have m6 : (6 * k).toInt = 6 * k.toInt := i32_mul (by rw [t6]; omega) (by rw [t6]; omega)
    have s1 : (158 + 6 * k).toInt = 158 + 6 * k.toInt := by rw [i32_add (by omega) (by omega), m6]; omega
    have s2 : (158 + 6 * k + w).toInt = ((158 + 6 * k.toInt.toNat + w.toInt.toNat : Nat) : Int) := by rw [i32_add (by omega) (by omega), s1]; omega
    rw [r1, if_pos ⟨a1, a2⟩, rI_n s2, hR.2.1 _ (by omega)]
theorem wta_l (hC : CST T P PI M) : ∀ (r i : Nat) (iz nz : Int32), iz.toInt = (i : Int) → i + r = (P 12).toInt.toNat → Ev none e 11 4 [some (.ref 8), some (.int nz), some (.int iz)] [] M v M' 0 0 → M' = M ∧ v = some (.int (isN P r i nz)) := by
  have hA := hC.lan
  have e13 : zI M 8 13 = P 12 := hA.1.2.2.2.1
  have n24 := hC.ok.n24
  have n0 := hC.ok.1.2.2.1
  intro r
  induction r with
  | zero =>
    intro i iz nz hi hr H
    rcases wta_4 hC.sq H with ⟨_, r1, r2⟩ | ⟨a1, _⟩ | ⟨a1, _⟩
    · exact ⟨r2, r1⟩
    all_goals exact absurd (Int32.le_iff_toInt_le.mpr (by rw [e13]; omega)) a1
  | succ r ih =>
    intro i iz nz hi hr H
    have eo : oI M (8 + 10) iz = 8 + 12 + i := by
      unfold oI
      rw [cl_n hi]
      exact hC.wx i (by omega)
    have e5 : zI M (oI M (8 + 10) iz) 5 = P (13 + 6 * i + 5) := by
      rw [eo]
      exact hA.1.2.2.2.2 i (by omega) 5 (by decide)
    have hb := (hC.ok.1.2.2.2.2 i (by omega)).2.2.2.2
    have z1 : (iz + 1).toInt = ((i + 1 : Nat) : Int) := by rw [i32_p1 (by omega)]; omega
    unfold isN
    rcases wta_4 hC.sq H with ⟨a1, _⟩ | ⟨_, a1, _, H⟩ | ⟨_, a1, _, H⟩
    · have := Int32.le_iff_toInt_le.mp a1
      rw [e13] at this
      omega
    · rw [e5] at a1
      rw [a1]
      exact ih (i + 1) (iz + 1) _ z1 (by omega) H
    · rw [e5] at a1
      rw [hb.resolve_left a1]
      exact ih (i + 1) (iz + 1) _ z1 (by omega) H
theorem count_ok (hC : CST T P PI M) (H : Ev none e 125 0 [some (.ref 0), some (.int k)] [] M v M' 0 0) : v = some (.int (couA P (zI M 1 1) k)) ∧ CST T P PI M' := by
  have hA := hC.lan
  have n0 := hC.ok.1.2.2.1
  unfold couA
  rcases cnt_0 hC.sq hC.ld H with ⟨a0, r1, r2⟩ | ⟨a0, a1, r1, r2⟩ | ⟨a0, a1, a2, r1, r2⟩ | ⟨a0, a1, a2, a3, e1, v1, M1, _, H1, H⟩ | ⟨a0, a1, a2, a3, a4, r1, r2⟩ | ⟨a0, a1, a2, a3, a4, a5, r1, r2⟩ | ⟨a0, a1, a2, a3, a4, a5, a6, r1, r2⟩ | ⟨a0, a1, a2, a3, a4, a5, a6, a7, r1, r2⟩ | ⟨a0, a1, a2, a3, a4, a5, a6, a7, a8, r1, r2⟩ | ⟨a0, a1, a2, a3, a4, a5, a6, a7, a8, a9, r1, r2⟩ | ⟨a0, a1, a2, a3, a4, a5, a6, a7, a8, a9, r1, r2⟩
  · rw [r2, r1, if_pos a0, hA.1.1]
    exact ⟨rfl, hC⟩
  · rw [r2, r1, if_neg a0, if_pos a1, hA.1.2.1]
    exact ⟨rfl, hC⟩
  · rw [r2, r1, if_neg a0, if_neg a1, if_pos a2, hA.1.2.2.1.1]
    exact ⟨rfl, hC⟩
  · obtain ⟨rm, rv⟩ := wta_l hC (P 12).toInt.toNat 0 0 0 rfl (by omega) (wta_0 hC.sq H1)
    rw [rm, rv] at H
    obtain ⟨r1, r2⟩ := cnt_87 hC.sq H
    rw [r2, r1, if_neg a0, if_neg a1, if_neg a2, if_pos a3]
    exact ⟨rfl, hC⟩
  · rw [r2, r1, if_neg a0, if_neg a1, if_neg a2, if_neg a3, if_pos a4, hA.2.2.2.1.1]
    exact ⟨rfl, hC⟩
  · rw [r2, r1, if_neg a0, if_neg a1, if_neg a2, if_neg a3, if_neg a4, if_pos a5, hA.2.1.1]
    exact ⟨rfl, hC⟩
  · rw [r2, r1, if_neg a0, if_neg a1, if_neg a2, if_neg a3, if_neg a4, if_neg a5, if_pos a6, hA.2.1.2.1]
    exact ⟨rfl, hC⟩
  · rw [r2, r1, if_neg a0, if_neg a1, if_neg a2, if_neg a3, if_neg a4, if_neg a5, if_neg a6, if_pos a7, hA.2.1.2.2.1]
    exact ⟨rfl, hC⟩
  · rw [r2, r1, if_neg a0, if_neg a1, if_neg a2, if_neg a3, if_neg a4, if_neg a5, if_neg a6, if_neg a7, if_pos a8, hA.2.1.2.2.2]
    exact ⟨rfl, hC⟩
  · rw [r2, r1, if_neg a0, if_neg a1, if_neg a2, if_neg a3, if_neg a4, if_neg a5, if_neg a6, if_neg a7, if_neg a8, if_pos a9]
    exact ⟨rfl, hC⟩
  · rw [r2, r1, if_neg a0, if_neg a1, if_neg a2, if_neg a3, if_neg a4, if_neg a5, if_neg a6, if_neg a7, if_neg a8, if_neg a9]
    exact ⟨rfl, hC⟩
theorem rcn_l (hR : RST T P M) (hD : okD P) : ∀ (r i : Nat) (iz nz : Int32), iz.toInt = (i : Int) → i + r = (P 12).toInt.toNat → Ev none e 248 9 [some (.ref 633), some (.int k), some (.int nz), some (.int iz)] [] M v M' 0 0 → ∃ iz2, Ev none e 248 43 [some (.ref 633), some (.int k), some (.int (isN P r i nz)), some (.int iz2)] [] M v M' 0 0 := by
  have n0 := hD.2.2.1
  have n24 := hD.2.2.2.1
  have e12 : rI M 635 12 = P 12 := (rI_n (p := 12) rfl).trans (hR.2.1 12 (by decide))
  intro r
  induction r with
  | zero =>
    intro i iz nz hi hr H
    rcases rcn_9 hR.1 H with ⟨_, _, H⟩ | ⟨a1, _⟩
    · exact ⟨iz, H⟩
    · exact absurd (Int32.le_iff_toInt_le.mpr (by rw [e12]; omega)) a1
  | succ r ih =>
    intro i iz nz hi hr H
    have z1 : (iz + 1).toInt = ((i + 1 : Nat) : Int) := by rw [i32_p1 (by omega)]; omega
    have t6 : (6 : Int32).toInt = 6 := rfl
    have t13 : (13 : Int32).toInt = 13 := rfl
    have t5 : (5 : Int32).toInt = 5 := rfl
    have m6 : (6 * iz).toInt = 6 * iz.toInt := i32_mul (by rw [t6]; omega) (by rw [t6]; omega)
    have s1 : (13 + 6 * iz).toInt = 13 + 6 * iz.toInt := by rw [i32_add (by omega) (by omega), m6]; omega
    have s2 : (13 + 6 * iz + 5).toInt = ((13 + 6 * i + 5 : Nat) : Int) := by rw [i32_add (by omega) (by omega), s1]; omega
    unfold isN
    rcases rcn_9 hR.1 H with ⟨a1, _⟩ | ⟨_, _, _, H⟩
    · have := Int32.le_iff_toInt_le.mp a1
      rw [e12] at this
      omega
    · rw [rI_n s2, hR.2.1 _ (by omega)] at H
      exact ih (i + 1) (iz + 1) _ z1 (by omega) H
theorem rcount_ok (hR : RST T P M) (hD : okD P) (H : Ev none e 248 0 [some (.ref 633), some (.int k), none, none] [] M v M' 0 0) : v = some (.int (couA P (zI M 633 2) k)) ∧ RST T P M' := by
  have h0 := hR.w0 0 (by decide) 0
  have n0 := hD.2.2.1
  have g : ∀ (p : Nat) (q : Int32), q.toInt = (p : Int) → p < 2314 → rI (wF M 633 0 0) 635 q = P p := fun p q hq hp => (rI_n hq).trans (h0.2.1 p hp)
  have e2 : zI (wF M 633 0 0) 633 2 = zI M 633 2 := fI_wF_ne (by decide)
  unfold couA
  obtain ⟨iz2, H⟩ := rcn_l h0 hD (P 12).toInt.toNat 0 0 0 rfl (by omega) (rcn_0 hR.1 H)
  rcases rcn_43 h0.1 H with ⟨a0, _, r1, r2⟩ | ⟨a0, a1, _, r1, r2⟩ | ⟨a0, a1, a2, _, r1, r2⟩ | ⟨a0, a1, a2, a3, r1, r2⟩ | ⟨a0, a1, a2, a3, a4, _, r1, r2⟩ | ⟨a0, a1, a2, a3, a4, a5, _, r1, r2⟩ | ⟨a0, a1, a2, a3, a4, a5, a6, _, r1, r2⟩ | ⟨a0, a1, a2, a3, a4, a5, a6, a7, _, r1, r2⟩ | ⟨a0, a1, a2, a3, a4, a5, a6, a7, a8, _, r1, r2⟩ | ⟨a0, a1, a2, a3, a4, a5, a6, a7, a8, a9, r1, r2⟩ | ⟨a0, a1, a2, a3, a4, a5, a6, a7, a8, a9, r1, r2⟩
  · rw [r2, r1, if_pos a0, g 0 0 rfl (by decide)]
    exact ⟨rfl, h0⟩
  · rw [r2, r1, if_neg a0, if_pos a1, g 1 1 rfl (by decide)]
    exact ⟨rfl, h0⟩
  · rw [r2, r1, if_neg a0, if_neg a1, if_pos a2, g 2 2 rfl (by decide)]
    exact ⟨rfl, h0⟩
  · rw [r2, r1, if_neg a0, if_neg a1, if_neg a2, if_pos a3]
    exact ⟨rfl, h0⟩
  · rw [r2, r1, if_neg a0, if_neg a1, if_neg a2, if_neg a3, if_pos a4, g 157 157 rfl (by decide)]
    exact ⟨rfl, h0⟩
  · rw [r2, r1, if_neg a0, if_neg a1, if_neg a2, if_neg a3, if_neg a4, if_pos a5, g 518 518 rfl (by decide)]
    exact ⟨rfl, h0⟩
  · rw [r2, r1, if_neg a0, if_neg a1, if_neg a2, if_neg a3, if_neg a4, if_neg a5, if_pos a6, g 519 519 rfl (by decide)]
    exact ⟨rfl, h0⟩
  · rw [r2, r1, if_neg a0, if_neg a1, if_neg a2, if_neg a3, if_neg a4, if_neg a5, if_neg a6, if_pos a7, g 520 520 rfl (by decide)]
    exact ⟨rfl, h0⟩
  · rw [r2, r1, if_neg a0, if_neg a1, if_neg a2, if_neg a3, if_neg a4, if_neg a5, if_neg a6, if_neg a7, if_pos a8, g 521 521 rfl (by decide)]
    exact ⟨rfl, h0⟩
  · rw [r2, r1, if_neg a0, if_neg a1, if_neg a2, if_neg a3, if_neg a4, if_neg a5, if_neg a6, if_neg a7, if_neg a8, if_pos a9, e2]
    exact ⟨rfl, h0⟩
  · rw [r2, r1, if_neg a0, if_neg a1, if_neg a2, if_neg a3, if_neg a4, if_neg a5, if_neg a6, if_neg a7, if_neg a8, if_neg a9]
    exact ⟨rfl, h0⟩
end OBAN
/-! THE REFERENCE'S ways: pieces (made by gref8.py) -/
noncomputable def G_239 (M : Mem) (a : Int32) (b : Int32) (h : Int32) : Int32 := if (G_152 M a) = 0 then 0 else (if (G_152 M b) = 0 then 0 else (if a = b then 0 else (if (G_140 M h 0 5) = 0 then 0 else 1)))
theorem g_239 {e : Nat} {M M' : Mem} {v : Option Value} {a b h : Int32} (hS : SQ M) (H : Ev none e 239 0 [some (.ref 633), some (.int a), some (.int b), some (.int h)] [] M v M' 0 0) : v = some (.int (G_239 M a b h)) ∧ M' = M := by
  unfold G_239
  have H : Ev none e 239 2 [some (.ref 633), some (.int a), some (.int b), some (.int h)] [.int a, .ref 633] M v M' 0 0 := Ev.back 2 (fun n => rfl) H
  obtain ⟨e1, rfl⟩ := Ev.dpos rfl rfl H
  obtain ⟨vK1, MK1, K1, H⟩ := Ev.callb (fun n_ => gs_7 rfl rfl (show gCal (.invokevirtual 340) 11 (.int a :: .ref 633 :: []) M = some (.inr (152, [some (.ref 633), some (.int a)], [])) from by show @cond (Option ((List Value × Mem) ⊕ (Nat × Lo × List Value))) (true && gRecv M (.ref 633) 11 && gRoom [] && true) (some (.inr (152, [some (.ref 633), some (.int a)], []))) none = _; rw [recv_s hS.1 qa_633 qo_61]; rfl)) H
  obtain ⟨pK1, qK1⟩ := g_152 hS K1
  rw [pK1, qK1] at H
  have H : Ev none (e1 + 1) 239 5 [some (.ref 633), some (.int a), some (.int b), some (.int h)] [.int (G_152 M a)] M v M' 0 0 := H
  have H : Ev none (e1 + 1) 239 (if (G_152 M a) = 0 then 34 else 8) [some (.ref 633), some (.int a), some (.int b), some (.int h)] [] M v M' 0 0 := Ev.back 1 (fun n => rfl) H
  by_cases h2 : (G_152 M a) = 0
  · rw [if_pos h2] at H
    have H : Ev none (e1 + 1) 239 35 [some (.ref 633), some (.int a), some (.int b), some (.int h)] [.int 0] M v M' 0 0 := Ev.back 1 (fun n => rfl) H
    obtain ⟨p1, p2⟩ := Ev.retz rfl rfl H
    exact ⟨by rw [if_pos h2]; exact p1, p2⟩
  · rw [if_neg h2] at H
    have H : Ev none (e1 + 1) 239 10 [some (.ref 633), some (.int a), some (.int b), some (.int h)] [.int b, .ref 633] M v M' 0 0 := Ev.back 2 (fun n => rfl) H
    obtain ⟨vK3, MK3, K3, H⟩ := Ev.callb (fun n_ => gs_7 rfl rfl (show gCal (.invokevirtual 340) 11 (.int b :: .ref 633 :: []) M = some (.inr (152, [some (.ref 633), some (.int b)], [])) from by show @cond (Option ((List Value × Mem) ⊕ (Nat × Lo × List Value))) (true && gRecv M (.ref 633) 11 && gRoom [] && true) (some (.inr (152, [some (.ref 633), some (.int b)], []))) none = _; rw [recv_s hS.1 qa_633 qo_61]; rfl)) H
    obtain ⟨pK3, qK3⟩ := g_152 hS K3
    rw [pK3, qK3] at H
    have H : Ev none (e1 + 1) 239 13 [some (.ref 633), some (.int a), some (.int b), some (.int h)] [.int (G_152 M b)] M v M' 0 0 := H
    have H : Ev none (e1 + 1) 239 (if (G_152 M b) = 0 then 34 else 16) [some (.ref 633), some (.int a), some (.int b), some (.int h)] [] M v M' 0 0 := Ev.back 1 (fun n => rfl) H
    by_cases h4 : (G_152 M b) = 0
    · rw [if_pos h4] at H
      have H : Ev none (e1 + 1) 239 35 [some (.ref 633), some (.int a), some (.int b), some (.int h)] [.int 0] M v M' 0 0 := Ev.back 1 (fun n => rfl) H
      obtain ⟨p1, p2⟩ := Ev.retz rfl rfl H
      exact ⟨by rw [if_neg h2, if_pos h4]; exact p1, p2⟩
    · rw [if_neg h4] at H
      have H : Ev none (e1 + 1) 239 (if a = b then 34 else 21) [some (.ref 633), some (.int a), some (.int b), some (.int h)] [] M v M' 0 0 := Ev.back 3 (fun n => rfl) H
      by_cases h5 : a = b
      · rw [if_pos h5] at H
        have H : Ev none (e1 + 1) 239 35 [some (.ref 633), some (.int a), some (.int b), some (.int h)] [.int 0] M v M' 0 0 := Ev.back 1 (fun n => rfl) H
        obtain ⟨p1, p2⟩ := Ev.retz rfl rfl H
        exact ⟨by rw [if_neg h2, if_neg h4, if_pos h5]; exact p1, p2⟩
      · rw [if_neg h5] at H
        have H : Ev none (e1 + 1) 239 24 [some (.ref 633), some (.int a), some (.int b), some (.int h)] [.int 5, .int 0, .int h] M v M' 0 0 := Ev.back 3 (fun n => rfl) H
        obtain ⟨vK6, MK6, K6, H⟩ := Ev.callb (fun n => rfl) H
        obtain ⟨pK6, qK6⟩ := g_140 hS K6
        rw [pK6, qK6] at H
        have H : Ev none (e1 + 1) 239 27 [some (.ref 633), some (.int a), some (.int b), some (.int h)] [.int (G_140 M h 0 5)] M v M' 0 0 := H
        have H : Ev none (e1 + 1) 239 (if (G_140 M h 0 5) = 0 then 34 else 30) [some (.ref 633), some (.int a), some (.int b), some (.int h)] [] M v M' 0 0 := Ev.back 1 (fun n => rfl) H
        by_cases h7 : (G_140 M h 0 5) = 0
        · rw [if_pos h7] at H
          have H : Ev none (e1 + 1) 239 35 [some (.ref 633), some (.int a), some (.int b), some (.int h)] [.int 0] M v M' 0 0 := Ev.back 1 (fun n => rfl) H
          obtain ⟨p1, p2⟩ := Ev.retz rfl rfl H
          exact ⟨by rw [if_neg h2, if_neg h4, if_neg h5, if_pos h7]; exact p1, p2⟩
        · rw [if_neg h7] at H
          have H : Ev none (e1 + 1) 239 35 [some (.ref 633), some (.int a), some (.int b), some (.int h)] [.int 1] M v M' 0 0 := Ev.back 2 (fun n => rfl) H
          obtain ⟨p1, p2⟩ := Ev.retz rfl rfl H
          exact ⟨by rw [if_neg h2, if_neg h4, if_neg h5, if_neg h7]; exact p1, p2⟩
theorem rwk_0 {e : Nat} {M M' : Mem} {v : Option Value} {a b h : Int32} (hS : SQ M) (H : Ev none e 238 0 [some (.ref 633), some (.int a), some (.int b), some (.int h), none, none] [] M v M' 0 0) : (0 ≤ (3 + a).toInt ∧ (3 + a).toInt < 2314) ∧ (0 ≤ (3 + b).toInt ∧ (3 + b).toInt < 2314) ∧ (0 ≤ (0 : Int32).toInt ∧ (0 : Int32).toInt < 201) ∧ Ev none e 238 64 [some (.ref 633), some (.int a), some (.int b), some (.int h), some (.int 0), none] [] (wI (wF (wF (wF (wF (wF (wF (wF M 633 34 (rI M 635 (3 + a))) 633 35 (rI M 635 (3 + b))) 633 36 (1 + h)) 633 37 (-1)) 633 38 (-1)) 633 39 1) 633 60 1) 657 ((0 : Int32).toNatClampNeg) (rI M 635 (3 + a))) v M' 0 0 := by
  have H : Ev none e 238 2 [some (.ref 633), some (.int a), some (.int b), some (.int h), none, none] [.ref 633, .ref 633] M v M' 0 0 := Ev.back 2 (fun n => rfl) H
  have H : Ev none e 238 5 [some (.ref 633), some (.int a), some (.int b), some (.int h), none, none] [.ref 635, .ref 633] M v M' 0 0 := Ev.back 1 (gs_3 rfl rfl (gf_u hS.1 qa_633 qr_61_5 qu_63 rfl)) H
  have H : Ev none e 238 8 [some (.ref 633), some (.int a), some (.int b), some (.int h), none, none] [.int (3 + a), .ref 635, .ref 633] M v M' 0 0 := Ev.back 3 (fun n => rfl) H
  obtain ⟨b1, H⟩ := Ev.ial rfl rfl hS.1 qa_635 qw_63 H
  have H : Ev none e 238 9 [some (.ref 633), some (.int a), some (.int b), some (.int h), none, none] [.int (rI M 635 (3 + a)), .ref 633] M v M' 0 0 := H
  obtain ⟨N3, eN3⟩ : ∃ N, N = (wF M 633 34 (rI M 635 (3 + a))) := ⟨_, rfl⟩
  have hN3 : SQ N3 := by rw [eN3]; exact hS.kf
  have H : Ev none e 238 12 [some (.ref 633), some (.int a), some (.int b), some (.int h), none, none] [] N3 v M' 0 0 := by rw [eN3]; exact Ev.pfi rfl rfl rfl hS.1 qa_633 qi_61_34 H
  have H : Ev none e 238 14 [some (.ref 633), some (.int a), some (.int b), some (.int h), none, none] [.ref 633, .ref 633] N3 v M' 0 0 := Ev.back 2 (fun n => rfl) H
  have H : Ev none e 238 17 [some (.ref 633), some (.int a), some (.int b), some (.int h), none, none] [.ref 635, .ref 633] N3 v M' 0 0 := Ev.back 1 (gs_3 rfl rfl (gf_u hN3.1 qa_633 qr_61_5 qu_63 rfl)) H
  have H : Ev none e 238 20 [some (.ref 633), some (.int a), some (.int b), some (.int h), none, none] [.int (3 + b), .ref 635, .ref 633] N3 v M' 0 0 := Ev.back 3 (fun n => rfl) H
  obtain ⟨b4, H⟩ := Ev.ial rfl rfl hN3.1 qa_635 qw_63 H
  have H : Ev none e 238 21 [some (.ref 633), some (.int a), some (.int b), some (.int h), none, none] [.int (rI N3 635 (3 + b)), .ref 633] N3 v M' 0 0 := H
  rw [show rI N3 635 (3 + b) = rI M 635 (3 + b) from by rw [eN3]; exact rN_wF] at H
  obtain ⟨N6, eN6⟩ : ∃ N, N = (wF N3 633 35 (rI M 635 (3 + b))) := ⟨_, rfl⟩
  have hN6 : SQ N6 := by rw [eN6]; exact hN3.kf
  have H : Ev none e 238 24 [some (.ref 633), some (.int a), some (.int b), some (.int h), none, none] [] N6 v M' 0 0 := by rw [eN6]; exact Ev.pfi rfl rfl rfl hN3.1 qa_633 qi_61_35 H
  have H : Ev none e 238 28 [some (.ref 633), some (.int a), some (.int b), some (.int h), none, none] [.int (1 + h), .ref 633] N6 v M' 0 0 := Ev.back 4 (fun n => rfl) H
  obtain ⟨N8, eN8⟩ : ∃ N, N = (wF N6 633 36 (1 + h)) := ⟨_, rfl⟩
  have hN8 : SQ N8 := by rw [eN8]; exact hN6.kf
  have H : Ev none e 238 31 [some (.ref 633), some (.int a), some (.int b), some (.int h), none, none] [] N8 v M' 0 0 := by rw [eN8]; exact Ev.pfi rfl rfl rfl hN6.1 qa_633 qi_61_36 H
  have H : Ev none e 238 33 [some (.ref 633), some (.int a), some (.int b), some (.int h), none, none] [.int (-1), .ref 633] N8 v M' 0 0 := Ev.back 2 (fun n => rfl) H
  obtain ⟨N10, eN10⟩ : ∃ N, N = (wF N8 633 37 (-1)) := ⟨_, rfl⟩
  have hN10 : SQ N10 := by rw [eN10]; exact hN8.kf
  have H : Ev none e 238 36 [some (.ref 633), some (.int a), some (.int b), some (.int h), none, none] [] N10 v M' 0 0 := by rw [eN10]; exact Ev.pfi rfl rfl rfl hN8.1 qa_633 qi_61_37 H
  have H : Ev none e 238 38 [some (.ref 633), some (.int a), some (.int b), some (.int h), none, none] [.int (-1), .ref 633] N10 v M' 0 0 := Ev.back 2 (fun n => rfl) H
  obtain ⟨N12, eN12⟩ : ∃ N, N = (wF N10 633 38 (-1)) := ⟨_, rfl⟩
  have hN12 : SQ N12 := by rw [eN12]; exact hN10.kf
  have H : Ev none e 238 41 [some (.ref 633), some (.int a), some (.int b), some (.int h), none, none] [] N12 v M' 0 0 := by rw [eN12]; exact Ev.pfi rfl rfl rfl hN10.1 qa_633 qi_61_38 H
  have H : Ev none e 238 43 [some (.ref 633), some (.int a), some (.int b), some (.int h), none, none] [.int 1, .ref 633] N12 v M' 0 0 := Ev.back 2 (fun n => rfl) H
  obtain ⟨N14, eN14⟩ : ∃ N, N = (wF N12 633 39 1) := ⟨_, rfl⟩
  have hN14 : SQ N14 := by rw [eN14]; exact hN12.kf
  have H : Ev none e 238 46 [some (.ref 633), some (.int a), some (.int b), some (.int h), none, none] [] N14 v M' 0 0 := by rw [eN14]; exact Ev.pfi rfl rfl rfl hN12.1 qa_633 qi_61_39 H
  have H : Ev none e 238 48 [some (.ref 633), some (.int a), some (.int b), some (.int h), none, none] [.int 1, .ref 633] N14 v M' 0 0 := Ev.back 2 (fun n => rfl) H
  obtain ⟨N16, eN16⟩ : ∃ N, N = (wF N14 633 60 1) := ⟨_, rfl⟩
  have hN16 : SQ N16 := by rw [eN16]; exact hN14.kf
  have H : Ev none e 238 51 [some (.ref 633), some (.int a), some (.int b), some (.int h), none, none] [] N16 v M' 0 0 := by rw [eN16]; exact Ev.pfi rfl rfl rfl hN14.1 qa_633 qi_61_60 H
  have H : Ev none e 238 52 [some (.ref 633), some (.int a), some (.int b), some (.int h), none, none] [.ref 633] N16 v M' 0 0 := Ev.back 1 (fun n => rfl) H
  have H : Ev none e 238 55 [some (.ref 633), some (.int a), some (.int b), some (.int h), none, none] [.ref 657] N16 v M' 0 0 := Ev.back 1 (gs_3 rfl rfl (gf_u hN16.1 qa_633 qr_61_54 qu_85 rfl)) H
  have H : Ev none e 238 57 [some (.ref 633), some (.int a), some (.int b), some (.int h), none, none] [.ref 633, .int 0, .ref 657] N16 v M' 0 0 := Ev.back 2 (fun n => rfl) H
  have H : Ev none e 238 60 [some (.ref 633), some (.int a), some (.int b), some (.int h), none, none] [.int (zI N16 633 34), .int 0, .ref 657] N16 v M' 0 0 := Ev.back 1 (gs_3 rfl rfl (gf_i hN16.1 qa_633 qi_61_34 rfl)) H
  rw [((((((show zI N16 633 34 = zI N14 633 34 from by rw [eN16]; exact fI_wF_ne (fun q => absurd q.2 (by decide))).trans (show zI N14 633 34 = zI N12 633 34 from by rw [eN14]; exact fI_wF_ne (fun q => absurd q.2 (by decide)))).trans (show zI N12 633 34 = zI N10 633 34 from by rw [eN12]; exact fI_wF_ne (fun q => absurd q.2 (by decide)))).trans (show zI N10 633 34 = zI N8 633 34 from by rw [eN10]; exact fI_wF_ne (fun q => absurd q.2 (by decide)))).trans (show zI N8 633 34 = zI N6 633 34 from by rw [eN8]; exact fI_wF_ne (fun q => absurd q.2 (by decide)))).trans (show zI N6 633 34 = zI N3 633 34 from by rw [eN6]; exact fI_wF_ne (fun q => absurd q.2 (by decide)))).trans (show zI N3 633 34 = rI M 635 (3 + a) from by rw [eN3]; exact fI_wF_eq hS.1 qa_633 qi_61_34)] at H
  obtain ⟨b17, H⟩ := Ev.ias rfl rfl hN16.1 qa_657 qw_85 H
  obtain ⟨N18, eN18⟩ : ∃ N, N = (wI N16 657 ((0 : Int32).toNatClampNeg) (rI M 635 (3 + a))) := ⟨_, rfl⟩
  have hN18 : SQ N18 := by rw [eN18]; exact hN16.ki
  have H : Ev none e 238 61 [some (.ref 633), some (.int a), some (.int b), some (.int h), none, none] [] N18 v M' 0 0 := by rw [eN18]; exact H
  have H : Ev none e 238 64 [some (.ref 633), some (.int a), some (.int b), some (.int h), some (.int 0), none] [] N18 v M' 0 0 := Ev.back 2 (fun n => rfl) H
  have HF := H
  subst eN3 eN6 eN8 eN10 eN12 eN14 eN16 eN18
  exact ⟨b1, b4, b17, HF⟩
theorem rwk_64 {e : Nat} {M M' : Mem} {v : Option Value} {a b h n : Int32} {c5 : Option Value} (hS : SQ M) (H : Ev none e 238 64 [some (.ref 633), some (.int a), some (.int b), some (.int h), some (.int n), c5] [] M v M' 0 0) : (200 ≤ n ∧ v = some (.int (-1)) ∧ M' = M) ∨ (¬ (200 ≤ n) ∧ (∃ e1 v1 M1, e = e1 + 1 ∧ Ev none e1 202 0 [some (.ref 633), none, none, none, none, none] [] M v1 M1 0 0 ∧ Ev none e 238 76 [some (.ref 633), some (.int a), some (.int b), some (.int h), some (.int n), c5] (v1.toList ++ []) M1 v M' 0 0)) := by
  have H : Ev none e 238 (if 200 ≤ n then 160 else 72) [some (.ref 633), some (.int a), some (.int b), some (.int h), some (.int n), c5] [] M v M' 0 0 := Ev.back 3 (fun n => rfl) H
  by_cases h1 : 200 ≤ n
  · rw [if_pos h1] at H
    have H : Ev none e 238 161 [some (.ref 633), some (.int a), some (.int b), some (.int h), some (.int n), c5] [.int (-1)] M v M' 0 0 := Ev.back 1 (fun n => rfl) H
    obtain ⟨z1, z2⟩ := Ev.retz rfl rfl H
    exact Or.inl ⟨h1, z1, z2⟩
  · rw [if_neg h1] at H
    have H : Ev none e 238 73 [some (.ref 633), some (.int a), some (.int b), some (.int h), some (.int n), c5] [.ref 633] M v M' 0 0 := Ev.back 1 (fun n => rfl) H
    obtain ⟨e1, rfl⟩ := Ev.dpos rfl rfl H
    obtain ⟨vK2, MK2, K2, H⟩ := Ev.callb (fun n_ => gs_7 rfl rfl (show gCal (.invokevirtual 414) 11 (.ref 633 :: []) M = some (.inr (202, [some (.ref 633), none, none, none, none, none], [])) from by show @cond (Option ((List Value × Mem) ⊕ (Nat × Lo × List Value))) (true && gRecv M (.ref 633) 11 && gRoom [] && true) (some (.inr (202, [some (.ref 633), none, none, none, none, none], []))) none = _; rw [recv_s hS.1 qa_633 qo_61]; rfl)) H
    have K2 : Ev none e1 202 0 [some (.ref 633), none, none, none, none, none] [] M vK2 MK2 0 0 := K2
    have HF := H
    exact Or.inr (⟨h1, ⟨e1, vK2, MK2, rfl, K2, HF⟩⟩)
theorem rwk_76 {e : Nat} {M M' : Mem} {v : Option Value} {a b h n d : Int32} {c5 : Option Value} (hS : SQ M) (H : Ev none e 238 76 [some (.ref 633), some (.int a), some (.int b), some (.int h), some (.int n), c5] [.int d] M v M' 0 0) : (0 ≤ d ∧ (∃ e1 v1 M1, e = e1 + 1 ∧ Ev none e1 194 0 [some (.ref 633), some (.int (zI M 633 34)), some (.int d), none, none] [] (wF (wF M 633 37 d) 633 38 (zI M 633 34)) v1 M1 0 0 ∧ Ev none e 238 110 [some (.ref 633), some (.int a), some (.int b), some (.int h), some (.int n), some (.int d)] (v1.toList ++ [.ref 633]) M1 v M' 0 0)) ∨ (¬ (0 ≤ d) ∧ v = some (.int (-1)) ∧ M' = M) := by
  have H : Ev none e 238 (if 0 ≤ d then 85 else 83) [some (.ref 633), some (.int a), some (.int b), some (.int h), some (.int n), some (.int d)] [] M v M' 0 0 := Ev.back 3 (fun n => rfl) H
  by_cases h1 : 0 ≤ d
  · rw [if_pos h1] at H
    have H : Ev none e 238 88 [some (.ref 633), some (.int a), some (.int b), some (.int h), some (.int n), some (.int d)] [.int d, .ref 633] M v M' 0 0 := Ev.back 2 (fun n => rfl) H
    obtain ⟨N3, eN3⟩ : ∃ N, N = (wF M 633 37 d) := ⟨_, rfl⟩
    have hN3 : SQ N3 := by rw [eN3]; exact hS.kf
    have H : Ev none e 238 91 [some (.ref 633), some (.int a), some (.int b), some (.int h), some (.int n), some (.int d)] [] N3 v M' 0 0 := by rw [eN3]; exact Ev.pfi rfl rfl rfl hS.1 qa_633 qi_61_37 H
    have H : Ev none e 238 93 [some (.ref 633), some (.int a), some (.int b), some (.int h), some (.int n), some (.int d)] [.ref 633, .ref 633] N3 v M' 0 0 := Ev.back 2 (fun n => rfl) H
    have H : Ev none e 238 96 [some (.ref 633), some (.int a), some (.int b), some (.int h), some (.int n), some (.int d)] [.int (zI N3 633 34), .ref 633] N3 v M' 0 0 := Ev.back 1 (gs_3 rfl rfl (gf_i hN3.1 qa_633 qi_61_34 rfl)) H
    rw [show zI N3 633 34 = zI M 633 34 from by rw [eN3]; exact fI_wF_ne (fun q => absurd q.2 (by decide))] at H
    obtain ⟨N5, eN5⟩ : ∃ N, N = (wF N3 633 38 (zI M 633 34)) := ⟨_, rfl⟩
    have hN5 : SQ N5 := by rw [eN5]; exact hN3.kf
    have H : Ev none e 238 99 [some (.ref 633), some (.int a), some (.int b), some (.int h), some (.int n), some (.int d)] [] N5 v M' 0 0 := by rw [eN5]; exact Ev.pfi rfl rfl rfl hN3.1 qa_633 qi_61_38 H
    have H : Ev none e 238 102 [some (.ref 633), some (.int a), some (.int b), some (.int h), some (.int n), some (.int d)] [.ref 633, .ref 633, .ref 633] N5 v M' 0 0 := Ev.back 3 (fun n => rfl) H
    have H : Ev none e 238 105 [some (.ref 633), some (.int a), some (.int b), some (.int h), some (.int n), some (.int d)] [.int (zI N5 633 34), .ref 633, .ref 633] N5 v M' 0 0 := Ev.back 1 (gs_3 rfl rfl (gf_i hN5.1 qa_633 qi_61_34 rfl)) H
    rw [(show zI N5 633 34 = zI N3 633 34 from by rw [eN5]; exact fI_wF_ne (fun q => absurd q.2 (by decide))).trans (show zI N3 633 34 = zI M 633 34 from by rw [eN3]; exact fI_wF_ne (fun q => absurd q.2 (by decide)))] at H
    have H : Ev none e 238 107 [some (.ref 633), some (.int a), some (.int b), some (.int h), some (.int n), some (.int d)] [.int d, .int (zI M 633 34), .ref 633, .ref 633] N5 v M' 0 0 := Ev.back 1 (fun n => rfl) H
    obtain ⟨e1, rfl⟩ := Ev.dpos rfl rfl H
    obtain ⟨vK6, MK6, K6, H⟩ := Ev.callb (fun n_ => gs_7 rfl rfl (show gCal (.invokevirtual 380) 11 (.int d :: .int (zI M 633 34) :: .ref 633 :: [.ref 633]) N5 = some (.inr (194, [some (.ref 633), some (.int (zI M 633 34)), some (.int d), none, none], [.ref 633])) from by show @cond (Option ((List Value × Mem) ⊕ (Nat × Lo × List Value))) (true && gRecv N5 (.ref 633) 11 && gRoom [.ref 633] && true) (some (.inr (194, [some (.ref 633), some (.int (zI M 633 34)), some (.int d), none, none], [.ref 633]))) none = _; rw [recv_s hN5.1 qa_633 qo_61]; rfl)) H
    have K6 : Ev none e1 194 0 [some (.ref 633), some (.int (zI M 633 34)), some (.int d), none, none] [] N5 vK6 MK6 0 0 := K6
    have HF := H
    subst eN3 eN5
    exact Or.inl ⟨h1, ⟨e1, vK6, MK6, rfl, K6, HF⟩⟩
  · rw [if_neg h1] at H
    have H : Ev none e 238 84 [some (.ref 633), some (.int a), some (.int b), some (.int h), some (.int n), some (.int d)] [.int (-1)] M v M' 0 0 := Ev.back 1 (fun n => rfl) H
    obtain ⟨z1, z2⟩ := Ev.retz rfl rfl H
    exact Or.inr (⟨h1, z1, z2⟩)
theorem rwk_110 {e : Nat} {M M' : Mem} {v : Option Value} {a b h n d y : Int32} (hS : SQ M) (H : Ev none e 238 110 [some (.ref 633), some (.int a), some (.int b), some (.int h), some (.int n), some (.int d)] [.int y, .ref 633] M v M' 0 0) : (y = (zI M 633 35) ∧ (0 ≤ (zI M 633 60).toInt ∧ (zI M 633 60).toInt < 201) ∧ v = some (.int (((zI M 633 60) + 1) - 1)) ∧ M' = (wF (wI (wF M 633 34 y) 657 ((zI M 633 60).toNatClampNeg) y) 633 60 ((zI M 633 60) + 1))) ∨ (¬ (y = (zI M 633 35)) ∧ (0 ≤ (zI M 633 60).toInt ∧ (zI M 633 60).toInt < 201) ∧ Ev none e 238 64 [some (.ref 633), some (.int a), some (.int b), some (.int h), some (.int (n + 1)), some (.int d)] [] (wF (wI (wF M 633 34 y) 657 ((zI M 633 60).toNatClampNeg) y) 633 60 ((zI M 633 60) + 1)) v M' 0 0) := by
  obtain ⟨N2, eN2⟩ : ∃ N, N = (wF M 633 34 y) := ⟨_, rfl⟩
  have hN2 : SQ N2 := by rw [eN2]; exact hS.kf
  have H : Ev none e 238 113 [some (.ref 633), some (.int a), some (.int b), some (.int h), some (.int n), some (.int d)] [] N2 v M' 0 0 := by rw [eN2]; exact Ev.pfi rfl rfl rfl hS.1 qa_633 qi_61_34 H
  have H : Ev none e 238 114 [some (.ref 633), some (.int a), some (.int b), some (.int h), some (.int n), some (.int d)] [.ref 633] N2 v M' 0 0 := Ev.back 1 (fun n => rfl) H
  have H : Ev none e 238 117 [some (.ref 633), some (.int a), some (.int b), some (.int h), some (.int n), some (.int d)] [.ref 657] N2 v M' 0 0 := Ev.back 1 (gs_3 rfl rfl (gf_u hN2.1 qa_633 qr_61_54 qu_85 rfl)) H
  have H : Ev none e 238 118 [some (.ref 633), some (.int a), some (.int b), some (.int h), some (.int n), some (.int d)] [.ref 633, .ref 657] N2 v M' 0 0 := Ev.back 1 (fun n => rfl) H
  have H : Ev none e 238 121 [some (.ref 633), some (.int a), some (.int b), some (.int h), some (.int n), some (.int d)] [.int (zI N2 633 60), .ref 657] N2 v M' 0 0 := Ev.back 1 (gs_3 rfl rfl (gf_i hN2.1 qa_633 qi_61_60 rfl)) H
  rw [show zI N2 633 60 = zI M 633 60 from by rw [eN2]; exact fI_wF_ne (fun q => absurd q.2 (by decide))] at H
  have H : Ev none e 238 122 [some (.ref 633), some (.int a), some (.int b), some (.int h), some (.int n), some (.int d)] [.ref 633, .int (zI M 633 60), .ref 657] N2 v M' 0 0 := Ev.back 1 (fun n => rfl) H
  have H : Ev none e 238 125 [some (.ref 633), some (.int a), some (.int b), some (.int h), some (.int n), some (.int d)] [.int (zI N2 633 34), .int (zI M 633 60), .ref 657] N2 v M' 0 0 := Ev.back 1 (gs_3 rfl rfl (gf_i hN2.1 qa_633 qi_61_34 rfl)) H
  rw [show zI N2 633 34 = y from by rw [eN2]; exact fI_wF_eq hS.1 qa_633 qi_61_34] at H
  obtain ⟨b3, H⟩ := Ev.ias rfl rfl hN2.1 qa_657 qw_85 H
  obtain ⟨N4, eN4⟩ : ∃ N, N = (wI N2 657 ((zI M 633 60).toNatClampNeg) y) := ⟨_, rfl⟩
  have hN4 : SQ N4 := by rw [eN4]; exact hN2.ki
  have H : Ev none e 238 126 [some (.ref 633), some (.int a), some (.int b), some (.int h), some (.int n), some (.int d)] [] N4 v M' 0 0 := by rw [eN4]; exact H
  have H : Ev none e 238 128 [some (.ref 633), some (.int a), some (.int b), some (.int h), some (.int n), some (.int d)] [.ref 633, .ref 633] N4 v M' 0 0 := Ev.back 2 (fun n => rfl) H
  have H : Ev none e 238 131 [some (.ref 633), some (.int a), some (.int b), some (.int h), some (.int n), some (.int d)] [.int (zI N4 633 60), .ref 633] N4 v M' 0 0 := Ev.back 1 (gs_3 rfl rfl (gf_i hN4.1 qa_633 qi_61_60 rfl)) H
  rw [(show zI N4 633 60 = zI N2 633 60 from by rw [eN4]; exact fI_wI).trans (show zI N2 633 60 = zI M 633 60 from by rw [eN2]; exact fI_wF_ne (fun q => absurd q.2 (by decide)))] at H
  have H : Ev none e 238 133 [some (.ref 633), some (.int a), some (.int b), some (.int h), some (.int n), some (.int d)] [.int ((zI M 633 60) + 1), .ref 633] N4 v M' 0 0 := Ev.back 2 (fun n => rfl) H
  obtain ⟨N6, eN6⟩ : ∃ N, N = (wF N4 633 60 ((zI M 633 60) + 1)) := ⟨_, rfl⟩
  have hN6 : SQ N6 := by rw [eN6]; exact hN4.kf
  have H : Ev none e 238 136 [some (.ref 633), some (.int a), some (.int b), some (.int h), some (.int n), some (.int d)] [] N6 v M' 0 0 := by rw [eN6]; exact Ev.pfi rfl rfl rfl hN4.1 qa_633 qi_61_60 H
  have H : Ev none e 238 137 [some (.ref 633), some (.int a), some (.int b), some (.int h), some (.int n), some (.int d)] [.ref 633] N6 v M' 0 0 := Ev.back 1 (fun n => rfl) H
  have H : Ev none e 238 140 [some (.ref 633), some (.int a), some (.int b), some (.int h), some (.int n), some (.int d)] [.int (zI N6 633 34)] N6 v M' 0 0 := Ev.back 1 (gs_3 rfl rfl (gf_i hN6.1 qa_633 qi_61_34 rfl)) H
  rw [((show zI N6 633 34 = zI N4 633 34 from by rw [eN6]; exact fI_wF_ne (fun q => absurd q.2 (by decide))).trans (show zI N4 633 34 = zI N2 633 34 from by rw [eN4]; exact fI_wI)).trans (show zI N2 633 34 = y from by rw [eN2]; exact fI_wF_eq hS.1 qa_633 qi_61_34)] at H
  have H : Ev none e 238 141 [some (.ref 633), some (.int a), some (.int b), some (.int h), some (.int n), some (.int d)] [.ref 633, .int y] N6 v M' 0 0 := Ev.back 1 (fun n => rfl) H
  have H : Ev none e 238 144 [some (.ref 633), some (.int a), some (.int b), some (.int h), some (.int n), some (.int d)] [.int (zI N6 633 35), .int y] N6 v M' 0 0 := Ev.back 1 (gs_3 rfl rfl (gf_i hN6.1 qa_633 qi_61_35 rfl)) H
  rw [((show zI N6 633 35 = zI N4 633 35 from by rw [eN6]; exact fI_wF_ne (fun q => absurd q.2 (by decide))).trans (show zI N4 633 35 = zI N2 633 35 from by rw [eN4]; exact fI_wI)).trans (show zI N2 633 35 = zI M 633 35 from by rw [eN2]; exact fI_wF_ne (fun q => absurd q.2 (by decide)))] at H
  have H : Ev none e 238 (if y = (zI M 633 35) then 147 else 154) [some (.ref 633), some (.int a), some (.int b), some (.int h), some (.int n), some (.int d)] [] N6 v M' 0 0 := Ev.back 1 (fun n => rfl) H
  by_cases h7 : y = (zI M 633 35)
  · rw [if_pos h7] at H
    have H : Ev none e 238 148 [some (.ref 633), some (.int a), some (.int b), some (.int h), some (.int n), some (.int d)] [.ref 633] N6 v M' 0 0 := Ev.back 1 (fun n => rfl) H
    have H : Ev none e 238 151 [some (.ref 633), some (.int a), some (.int b), some (.int h), some (.int n), some (.int d)] [.int (zI N6 633 60)] N6 v M' 0 0 := Ev.back 1 (gs_3 rfl rfl (gf_i hN6.1 qa_633 qi_61_60 rfl)) H
    rw [show zI N6 633 60 = (zI M 633 60) + 1 from by rw [eN6]; exact fI_wF_eq hN4.1 qa_633 qi_61_60] at H
    have H : Ev none e 238 153 [some (.ref 633), some (.int a), some (.int b), some (.int h), some (.int n), some (.int d)] [.int (((zI M 633 60) + 1) - 1)] N6 v M' 0 0 := Ev.back 2 (fun n => rfl) H
    obtain ⟨z1, z2⟩ := Ev.retz rfl rfl H
    subst eN2 eN4 eN6
    exact Or.inl ⟨h7, b3, z1, z2⟩
  · rw [if_neg h7] at H
    have H : Ev none e 238 64 [some (.ref 633), some (.int a), some (.int b), some (.int h), some (.int (n + 1)), some (.int d)] [] N6 v M' 0 0 := Ev.back 2 (fun n => rfl) H
    have HF := H
    subst eN2 eN4 eN6
    exact Or.inr (⟨h7, b3, HF⟩)
theorem rwy_0 {e : Nat} {M M' : Mem} {v : Option Value} {a b h : Int32} (hS : SQ M) (H : Ev none e 240 0 [some (.ref 633), some (.int a), some (.int b), some (.int h), none, none] [] M v M' 0 0) : ((G_239 (wF M 633 0 0) a b h) = 0 ∧ v = some (.int (-2)) ∧ M' = (wF M 633 0 0)) ∨ (¬ ((G_239 (wF M 633 0 0) a b h) = 0) ∧ (∃ e1 v1 M1, e = e1 + 1 ∧ Ev none e1 238 0 [some (.ref 633), some (.int a), some (.int b), some (.int h), none, none] [] (wF M 633 0 0) v1 M1 0 0 ∧ Ev none e 240 25 [some (.ref 633), some (.int a), some (.int b), some (.int h), none, none] (v1.toList ++ []) M1 v M' 0 0)) := by
  have H : Ev none e 240 2 [some (.ref 633), some (.int a), some (.int b), some (.int h), none, none] [.int 0, .ref 633] M v M' 0 0 := Ev.back 2 (fun n => rfl) H
  obtain ⟨N2, eN2⟩ : ∃ N, N = (wF M 633 0 0) := ⟨_, rfl⟩
  have hN2 : SQ N2 := by rw [eN2]; exact hS.kf
  have H : Ev none e 240 5 [some (.ref 633), some (.int a), some (.int b), some (.int h), none, none] [] N2 v M' 0 0 := by rw [eN2]; exact Ev.pfi rfl rfl rfl hS.1 qa_633 qi_61_0 H
  have H : Ev none e 240 9 [some (.ref 633), some (.int a), some (.int b), some (.int h), none, none] [.int h, .int b, .int a, .ref 633] N2 v M' 0 0 := Ev.back 4 (fun n => rfl) H
  obtain ⟨e1, rfl⟩ := Ev.dpos rfl rfl H
  obtain ⟨vK3, MK3, K3, H⟩ := Ev.callb (fun n_ => gs_7 rfl rfl (show gCal (.invokevirtual 497) 11 (.int h :: .int b :: .int a :: .ref 633 :: []) N2 = some (.inr (239, [some (.ref 633), some (.int a), some (.int b), some (.int h)], [])) from by show @cond (Option ((List Value × Mem) ⊕ (Nat × Lo × List Value))) (true && gRecv N2 (.ref 633) 11 && gRoom [] && true) (some (.inr (239, [some (.ref 633), some (.int a), some (.int b), some (.int h)], []))) none = _; rw [recv_s hN2.1 qa_633 qo_61]; rfl)) H
  obtain ⟨pK3, qK3⟩ := g_239 hN2 K3
  rw [pK3, qK3] at H
  have H : Ev none (e1 + 1) 240 12 [some (.ref 633), some (.int a), some (.int b), some (.int h), none, none] [.int (G_239 N2 a b h)] N2 v M' 0 0 := H
  have H : Ev none (e1 + 1) 240 (if (G_239 N2 a b h) = 0 then 15 else 18) [some (.ref 633), some (.int a), some (.int b), some (.int h), none, none] [] N2 v M' 0 0 := Ev.back 1 (fun n => rfl) H
  by_cases h4 : (G_239 N2 a b h) = 0
  · rw [if_pos h4] at H
    have H : Ev none (e1 + 1) 240 17 [some (.ref 633), some (.int a), some (.int b), some (.int h), none, none] [.int (-2)] N2 v M' 0 0 := Ev.back 1 (fun n => rfl) H
    obtain ⟨z1, z2⟩ := Ev.retz rfl rfl H
    subst eN2
    exact Or.inl ⟨h4, z1, z2⟩
  · rw [if_neg h4] at H
    have H : Ev none (e1 + 1) 240 22 [some (.ref 633), some (.int a), some (.int b), some (.int h), none, none] [.int h, .int b, .int a, .ref 633] N2 v M' 0 0 := Ev.back 4 (fun n => rfl) H
    obtain ⟨vK5, MK5, K5, H⟩ := Ev.callb (fun n_ => gs_7 rfl rfl (show gCal (.invokevirtual 500) 11 (.int h :: .int b :: .int a :: .ref 633 :: []) N2 = some (.inr (238, [some (.ref 633), some (.int a), some (.int b), some (.int h), none, none], [])) from by show @cond (Option ((List Value × Mem) ⊕ (Nat × Lo × List Value))) (true && gRecv N2 (.ref 633) 11 && gRoom [] && true) (some (.inr (238, [some (.ref 633), some (.int a), some (.int b), some (.int h), none, none], []))) none = _; rw [recv_s hN2.1 qa_633 qo_61]; rfl)) H
    have K5 : Ev none e1 238 0 [some (.ref 633), some (.int a), some (.int b), some (.int h), none, none] [] N2 vK5 MK5 0 0 := K5
    have HF := H
    subst eN2
    exact Or.inr (⟨h4, ⟨e1, vK5, MK5, rfl, K5, HF⟩⟩)
theorem rwy_25 {e : Nat} {M M' : Mem} {v : Option Value} {a b h r : Int32} (hS : SQ M) (H : Ev none e 240 25 [some (.ref 633), some (.int a), some (.int b), some (.int h), none, none] [.int r] M v M' 0 0) : Ev none e 240 38 [some (.ref 633), some (.int a), some (.int b), some (.int h), some (.int r), some (.int 0)] [] (wF M 633 61 (zI M 633 60)) v M' 0 0 := by
  have H : Ev none e 240 29 [some (.ref 633), some (.int a), some (.int b), some (.int h), some (.int r), none] [.ref 633, .ref 633] M v M' 0 0 := Ev.back 3 (fun n => rfl) H
  have H : Ev none e 240 32 [some (.ref 633), some (.int a), some (.int b), some (.int h), some (.int r), none] [.int (zI M 633 60), .ref 633] M v M' 0 0 := Ev.back 1 (gs_3 rfl rfl (gf_i hS.1 qa_633 qi_61_60 rfl)) H
  obtain ⟨N2, eN2⟩ : ∃ N, N = (wF M 633 61 (zI M 633 60)) := ⟨_, rfl⟩
  have hN2 : SQ N2 := by rw [eN2]; exact hS.kf
  have H : Ev none e 240 35 [some (.ref 633), some (.int a), some (.int b), some (.int h), some (.int r), none] [] N2 v M' 0 0 := by rw [eN2]; exact Ev.pfi rfl rfl rfl hS.1 qa_633 qi_61_61 H
  have H : Ev none e 240 38 [some (.ref 633), some (.int a), some (.int b), some (.int h), some (.int r), some (.int 0)] [] N2 v M' 0 0 := Ev.back 2 (fun n => rfl) H
  have HF := H
  subst eN2
  exact HF
theorem rwy_38 {e : Nat} {M M' : Mem} {v : Option Value} {a b h r i : Int32} (hS : SQ M) (H : Ev none e 240 38 [some (.ref 633), some (.int a), some (.int b), some (.int h), some (.int r), some (.int i)] [] M v M' 0 0) : ((zI M 633 60) ≤ i ∧ v = some (.int r) ∧ M' = M) ∨ (¬ ((zI M 633 60) ≤ i) ∧ (0 ≤ i.toInt ∧ i.toInt < 201) ∧ (0 ≤ i.toInt ∧ i.toInt < 201) ∧ Ev none e 240 38 [some (.ref 633), some (.int a), some (.int b), some (.int h), some (.int r), some (.int (i + 1))] [] (wI M 658 i.toNatClampNeg (rI M 657 i)) v M' 0 0) := by
  have H : Ev none e 240 41 [some (.ref 633), some (.int a), some (.int b), some (.int h), some (.int r), some (.int i)] [.ref 633, .int i] M v M' 0 0 := Ev.back 2 (fun n => rfl) H
  have H : Ev none e 240 44 [some (.ref 633), some (.int a), some (.int b), some (.int h), some (.int r), some (.int i)] [.int (zI M 633 60), .int i] M v M' 0 0 := Ev.back 1 (gs_3 rfl rfl (gf_i hS.1 qa_633 qi_61_60 rfl)) H
  have H : Ev none e 240 (if (zI M 633 60) ≤ i then 67 else 47) [some (.ref 633), some (.int a), some (.int b), some (.int h), some (.int r), some (.int i)] [] M v M' 0 0 := Ev.back 1 (fun n => rfl) H
  by_cases h1 : (zI M 633 60) ≤ i
  · rw [if_pos h1] at H
    have H : Ev none e 240 69 [some (.ref 633), some (.int a), some (.int b), some (.int h), some (.int r), some (.int i)] [.int r] M v M' 0 0 := Ev.back 1 (fun n => rfl) H
    obtain ⟨z1, z2⟩ := Ev.retz rfl rfl H
    exact Or.inl ⟨h1, z1, z2⟩
  · rw [if_neg h1] at H
    have H : Ev none e 240 48 [some (.ref 633), some (.int a), some (.int b), some (.int h), some (.int r), some (.int i)] [.ref 633] M v M' 0 0 := Ev.back 1 (fun n => rfl) H
    have H : Ev none e 240 51 [some (.ref 633), some (.int a), some (.int b), some (.int h), some (.int r), some (.int i)] [.ref 658] M v M' 0 0 := Ev.back 1 (gs_3 rfl rfl (gf_u hS.1 qa_633 qr_61_55 qu_86 rfl)) H
    have H : Ev none e 240 54 [some (.ref 633), some (.int a), some (.int b), some (.int h), some (.int r), some (.int i)] [.ref 633, .int i, .ref 658] M v M' 0 0 := Ev.back 2 (fun n => rfl) H
    have H : Ev none e 240 57 [some (.ref 633), some (.int a), some (.int b), some (.int h), some (.int r), some (.int i)] [.ref 657, .int i, .ref 658] M v M' 0 0 := Ev.back 1 (gs_3 rfl rfl (gf_u hS.1 qa_633 qr_61_54 qu_85 rfl)) H
    have H : Ev none e 240 59 [some (.ref 633), some (.int a), some (.int b), some (.int h), some (.int r), some (.int i)] [.int i, .ref 657, .int i, .ref 658] M v M' 0 0 := Ev.back 1 (fun n => rfl) H
    obtain ⟨b2, H⟩ := Ev.ial rfl rfl hS.1 qa_657 qw_85 H
    have H : Ev none e 240 60 [some (.ref 633), some (.int a), some (.int b), some (.int h), some (.int r), some (.int i)] [.int (rI M 657 i), .int i, .ref 658] M v M' 0 0 := H
    obtain ⟨b3, H⟩ := Ev.ias rfl rfl hS.1 qa_658 qw_86 H
    obtain ⟨N4, eN4⟩ : ∃ N, N = (wI M 658 i.toNatClampNeg (rI M 657 i)) := ⟨_, rfl⟩
    have hN4 : SQ N4 := by rw [eN4]; exact hS.ki
    have H : Ev none e 240 61 [some (.ref 633), some (.int a), some (.int b), some (.int h), some (.int r), some (.int i)] [] N4 v M' 0 0 := by rw [eN4]; exact H
    have H : Ev none e 240 38 [some (.ref 633), some (.int a), some (.int b), some (.int h), some (.int r), some (.int (i + 1))] [] N4 v M' 0 0 := Ev.back 2 (fun n => rfl) H
    have HF := H
    subst eN4
    exact Or.inr (⟨h1, b2, b3, HF⟩)
/-! THE REFERENCE'S ways -/
def rwF (a k : Nat) : Prop := a = 633 ∧ ((34 ≤ k ∧ k ≤ 39) ∨ k = 60)
def rwW (a : Nat) : Prop := a = 649 ∨ a = 657
/-- DOORS are unlike -/
def unD (P : PK) : Prop := ∀ i j : Nat, (i : Int) < (P 2).toInt → (j : Int) < (P 2).toInt → P (3 + i) = P (3 + j) → i = j
section RWAY
variable {e i j n tn : Nat} {T : TS} {P : PK} {M M1 M' : Mem} {v : Option Value} {x y k d h a b t w goal : Int32} {l : List Int32}
theorem wlS_g {hb : Nat} {cf : Int32} : ∀ r, wlS T P hb goal r (goal, w, cf) l = (l, goal) := by
  intro r
  cases r with
  | zero => rfl
  | succ r =>
    unfold wlS
    dsimp only
    rw [if_pos rfl]
theorem rwk_l (hD : okD P) (hK : okK P) (ht : tn < 7) (hgo : inC P goal) : ∀ (r n : Nat) (nz here w cf : Int32) (l : List Int32) (c5 : Option Value) (M : Mem), RST T P M → inC P here → ¬ here = goal → RWC (here, goal, w, cf, true) tn M → nz.toInt = (n : Int) → n + r = 200 → (zI M 633 60).toInt = ((n + 1 : Nat) : Int) → l.length = n + 1 → (∀ j y, l[j]? = some y → rN M 657 j = y) → Ev none e 238 64 [some (.ref 633), some (.int a), some (.int b), some (.int h), some (.int nz), c5] [] M v M' 0 0 → (((wlS T P tn goal r (here, w, cf) l).2 = goal ∧ ∃ y : Int32, v = some (.int y) ∧ y.toInt + 1 = ((wlS T P tn goal r (here, w, cf) l).1.length : Int)) ∨ (¬ (wlS T P tn goal r (here, w, cf) l).2 = goal ∧ v = some (.int (-1)))) ∧ RST T P M' ∧ FZ rwF rwW noO M M' ∧ (zI M' 633 60).toInt = ((wlS T P tn goal r (here, w, cf) l).1.length : Int) ∧ ∀ j y, (wlS T P tn goal r (here, w, cf) l).1[j]? = some y → rN M' 657 j = y := by
  have z200 : (200 : Int32).toInt = 200 := rfl
  intro r
  induction r with
  | zero =>
    intro n nz here w cf l c5 M hR hin hne hW hn hr h60 hl hrow H
    rcases rwk_64 hR.1 H with ⟨_, r1, r2⟩ | ⟨a1, _⟩
    · rw [r2]
      exact ⟨Or.inr ⟨hne, r1⟩, hR, FZ.refl _, by show _ = ((l.length : Nat) : Int); rw [hl]; exact h60, hrow⟩
    · exact absurd (Int32.le_iff_toInt_le.mpr (by omega)) a1
  | succ r ih =>
    intro n nz here w cf l c5 M hR hin hne hW hn hr h60 hl hrow H
    unfold wlS
    dsimp only
    rw [if_neg hne]
    rcases rwk_64 hR.1 H with ⟨a1, _⟩ | ⟨_, e1, v1, M1, _, H1, H⟩
    · have := Int32.le_iff_toInt_le.mp a1
      omega
    · obtain ⟨rv, S1, F1⟩ := rcho_ok (w := (here, goal, w, cf, true)) hR hD.1 hK ht hW hin hgo.1 H1
      have hcr := cho_rng (g := T 0) (P := P) (q := T tn) (w := (here, goal, w, cf, true)) hgo.1
      obtain ⟨dd, edd⟩ : ∃ dd, dd = choP (T 0) P (T tn) (here, goal, w, cf, true) := ⟨_, rfl⟩
      rw [← edd] at rv hcr ⊢
      rw [rv] at H
      have R1 : RST T P M1 := hR.tu S1 F1
      have W1 : RWC (here, goal, w, cf, true) tn M1 := hW.tu F1
      obtain ⟨w1, w2, w3, w4, w5, w6⟩ := W1
      have w1 : zI M1 633 34 = here := w1
      have w2 : zI M1 633 35 = goal := w2
      have f60 : zI M1 633 60 = zI M 633 60 := F1.fi (fun q => q)
      have FF : FZ rwF rwW noO M M1 := F1.more (fun _ _ q => q.elim) (fun a q => Or.inl q) (fun _ q => q)
      have tm : (-1 : Int32).toInt = -1 := rfl
      have z0 : (0 : Int32).toInt = 0 := rfl
      rcases rwk_76 S1 H with ⟨b1, e2, v2, M2, _, H2, H⟩ | ⟨b1, r1, r2⟩
      · have hd := hcr.resolve_left (fun q => by
          rw [q] at b1
          exact absurd b1 (by decide))
        have hnl : ¬ dd < 0 := fun q => by
          have := Int32.lt_iff_toInt_lt.mp q
          omega
        rw [if_neg hnl]
        have hbe : inC P (besP P here dd) := (besP_in hD.1 hin).resolve_left (fun q => hd.2.2 (by rw [q]; decide))
        rw [w1] at H2
        obtain ⟨N, eN⟩ : ∃ N, N = wF (wF M1 633 37 dd) 633 38 here := ⟨_, rfl⟩
        rw [← eN] at H2
        have RN : RST T P N := by rw [eN]; exact (R1.w0 37 (by decide) dd).w0 38 (by decide) here
        obtain ⟨rv2, rm2⟩ := g_194 RN.1 H2
        rw [g194_ok RN] at rv2
        rw [rv2, rm2] at H
        obtain ⟨y, ey⟩ : ∃ y, y = besP P here dd := ⟨_, rfl⟩
        rw [← ey] at H hbe ⊢
        have n35 : zI N 633 35 = goal := by rw [eN, fI_wF_ne (by decide), fI_wF_ne (by decide)]; exact w2
        have n60 : zI N 633 60 = zI M 633 60 := by rw [eN, fI_wF_ne (by decide), fI_wF_ne (by decide)]; exact f60
        have n36 : zI N 633 36 = zI M1 633 36 := by rw [eN, fI_wF_ne (by decide), fI_wF_ne (by decide)]
        have n39 : zI N 633 39 = zI M1 633 39 := by rw [eN, fI_wF_ne (by decide), fI_wF_ne (by decide)]
        have n37 : zI N 633 37 = dd := by rw [eN, fI_wF_ne (by decide)]; exact fI_wF_eq S1.1 qa_633 qi_61_37
        have n38 : zI N 633 38 = here := by rw [eN]; exact fI_wF_eq S1.kf.1 qa_633 qi_61_38
        have FN : FZ rwF rwW noO M1 N := by
          rw [eN]
          exact (FZ.wF (F := rwF) ⟨rfl, Or.inl (by decide)⟩).trans (FZ.wF ⟨rfl, Or.inl (by decide)⟩)
        have rN0 : ∀ j, rN N 657 j = rN M 657 j := fun j => by
          rw [eN, rN_wF, rN_wF]
          exact F1.rn (by unfold tuW; decide)
        have H := rwk_110 RN.1 H
        rw [n35, n60, cl_n h60] at H
        obtain ⟨N3, eN3⟩ : ∃ N3, N3 = wF (wI (wF N 633 34 y) 657 (n + 1) y) 633 60 (zI M 633 60 + 1) := ⟨_, rfl⟩
        rw [← eN3] at H
        have S3 : SQ N3 := by rw [eN3]; exact RN.1.kf.ki.kf
        have F3 : FZ rwF rwW noO N N3 := by
          rw [eN3]
          exact ((FZ.wF (F := rwF) ⟨rfl, Or.inl (by decide)⟩).trans (FZ.wI (Or.inr rfl))).trans (FZ.wF ⟨rfl, Or.inr rfl⟩)
        have F9 := (FF.trans FN).trans F3
        have R3 : RST T P N3 := hR.fz S3 F9 (fun k k1 k2 q => by unfold rwF at q; omega) (fun a ha q => by unfold rwW at q; omega)
        have p1 : (zI M 633 60 + 1).toInt = ((n + 1 + 1 : Nat) : Int) := by rw [i32_p1 (by omega)]; omega
        have z60 : zI N3 633 60 = zI M 633 60 + 1 := by rw [eN3]; exact fI_wF_eq RN.1.kf.ki.1 qa_633 qi_61_60
        have zo : ∀ k, k ≠ 34 → k ≠ 60 → zI N3 633 k = zI N 633 k := fun k k1 k2 => by rw [eN3, fI_wF_ne (by omega), fI_wI, fI_wF_ne (by omega)]
        have z34 : zI N3 633 34 = y := by rw [eN3, fI_wF_ne (by decide), fI_wI]; exact fI_wF_eq RN.1.1 qa_633 qi_61_34
        have len : (zrw (wF N 633 34 y) 657).length = 201 := (RN.1.kf.1.row qa_657 qw_85).2
        have lrow : ∀ j z, (l ++ [y])[j]? = some z → rN N3 657 j = z := fun j z hj => by
          rcases Nat.lt_or_ge j l.length with hlt | hge
          · rw [List.getElem?_append_left hlt] at hj
            rw [eN3, rN_wF, rN_wI_ne (fun q => by omega), rN_wF, rN0]
            exact hrow j z hj
          · rw [List.getElem?_append_right hge] at hj
            have hj0 : j - l.length = 0 := by
              rcases Nat.eq_zero_or_pos (j - l.length) with q | q
              · exact q
              · rw [List.getElem?_eq_none (by simp; omega)] at hj
                cases hj
            have ejk : j = n + 1 := by omega
            rw [hj0] at hj
            cases hj
            rw [ejk, eN3, rN_wF]
            exact rN_wI_eq (by omega)
        have ll : (l ++ [y]).length = n + 1 + 1 := by rw [List.length_append]; simp; omega
        rcases H with ⟨c1, _, r1, r2⟩ | ⟨c1, _, H⟩
        · have wg : wlS T P tn goal r (y, dd, here) (l ++ [y]) = (l ++ [y], goal) := by
            rw [c1]
            exact wlS_g r
          rw [wg]
          dsimp only
          rw [r2]
          refine ⟨Or.inl ⟨rfl, _, r1, ?_⟩, R3, F9, ?_, lrow⟩
          · rw [ll]
            have : (zI M 633 60 + 1 - 1).toInt = (zI M 633 60 + 1).toInt - 1 := i32_m1 (by omega)
            omega
          · rw [z60, ll]
            exact p1
        · have W3 : RWC (y, goal, dd, here, true) tn N3 := ⟨z34, (zo 35 (by decide) (by decide)).trans n35, by rw [zo 36 (by decide) (by decide), n36]; exact w3, (zo 37 (by decide) (by decide)).trans n37, (zo 38 (by decide) (by decide)).trans n38, by rw [zo 39 (by decide) (by decide), n39]; exact w6⟩
          obtain ⟨u1, u2, u3, u4, u5⟩ := ih (n + 1) (nz + 1) y dd here (l ++ [y]) _ N3 R3 hbe c1 W3 (by rw [i32_p1 (by omega)]; omega) (by omega) (by rw [z60]; exact p1) ll lrow H
          exact ⟨u1, u2, F9.trans u3, u4, u5⟩
      · have hlt : dd < 0 := by
          rcases hcr with q | q
          · rw [q]; decide
          · exact absurd (Int32.le_iff_toInt_le.mpr (by omega)) b1
        rw [if_pos hlt]
        rw [r2]
        exact ⟨Or.inr ⟨hne, r1⟩, R1, FF, by show _ = ((l.length : Nat) : Int); rw [f60, hl]; exact h60, fun j z hj => (F1.rn (by unfold tuW; decide)).trans (hrow j z hj)⟩
theorem g239_ok (hR : RST T P M) (hD : okD P) : G_239 M a b h = 0 ↔ wayN P a b h := by
  unfold G_239 wayN
  by_cases h1 : G_152 M a = 0
  · rw [if_pos h1]
    rw [g152_ok hR hD] at h1
    exact ⟨fun _ => Or.inl h1, fun _ => rfl⟩
  · rw [if_neg h1]
    rw [g152_ok hR hD, Classical.not_not] at h1
    by_cases h2 : G_152 M b = 0
    · rw [if_pos h2]
      rw [g152_ok hR hD] at h2
      exact ⟨fun _ => Or.inr (Or.inl h2), fun _ => rfl⟩
    · rw [if_neg h2]
      rw [g152_ok hR hD, Classical.not_not] at h2
      by_cases h3 : a = b
      · rw [if_pos h3]
        exact ⟨fun _ => Or.inr (Or.inr (Or.inl h3)), fun _ => rfl⟩
      · rw [if_neg h3]
        by_cases h4 : G_140 M h 0 5 = 0
        · rw [if_pos h4]
          rw [g140_R] at h4
          exact ⟨fun _ => Or.inr (Or.inr (Or.inr h4)), fun _ => rfl⟩
        · rw [if_neg h4]
          rw [g140_R, Classical.not_not] at h4
          refine ⟨fun q => absurd q (by decide), fun q => ?_⟩
          rcases q with q | q | q | q
          · exact absurd h1 q
          · exact absurd h2 q
          · exact absurd q h3
          · exact absurd h4 q
/-- from DOOR to DOOR, one alone -/
theorem rwk_ok (hR : RST T P M) (hD : okD P) (hK : okK P) (hu : unD P) (ia : inD P a) (ib : inD P b) (hab : ¬ a = b) (ih : inX h 0 5) (H : Ev none e 238 0 [some (.ref 633), some (.int a), some (.int b), some (.int h), none, none] [] M v M' 0 0) : ((wayB T P a b h = true ∧ ∃ y : Int32, v = some (.int y) ∧ y.toInt + 1 = ((wayL T P a b h).1.length : Int)) ∨ (wayB T P a b h = false ∧ v = some (.int (-1)))) ∧ RST T P M' ∧ FZ rwF rwW noO M M' ∧ (zI M' 633 60).toInt = ((wayL T P a b h).1.length : Int) ∧ ∀ j y, (wayL T P a b h).1[j]? = some y → rN M' 657 j = y := by
  have a0 := ia.1
  have a1 := ia.2
  have b0 := ib.1
  have b1 := ib.2
  have n9 := hD.2.1.2.1
  have t3 : (3 : Int32).toInt = 3 := rfl
  have t1 : (1 : Int32).toInt = 1 := rfl
  have h0 : 0 ≤ h.toInt := ih.1
  have h5 : h.toInt ≤ 5 := ih.2
  have ea : (3 + a).toInt = ((3 + a.toInt.toNat : Nat) : Int) := by rw [i32_add (by omega) (by omega)]; omega
  have eb : (3 + b).toInt = ((3 + b.toInt.toNat : Nat) : Int) := by rw [i32_add (by omega) (by omega)]; omega
  have eh : (1 + h).toInt = ((h.toInt.toNat + 1 : Nat) : Int) := by rw [i32_add (by omega) (by omega)]; omega
  obtain ⟨_, _, _, H⟩ := rwk_0 hR.1 H
  have ra : rI M 635 (3 + a) = P (3 + a.toInt.toNat) := (rI_n ea).trans (hR.2.1 _ (by omega))
  have rb : rI M 635 (3 + b) = P (3 + b.toInt.toNat) := (rI_n eb).trans (hR.2.1 _ (by omega))
  have i0 : (0 : Int32).toNatClampNeg = 0 := rfl
  rw [ra, rb, i0] at H
  obtain ⟨A, eA⟩ : ∃ A, A = P (3 + a.toInt.toNat) := ⟨_, rfl⟩
  obtain ⟨G, eG⟩ : ∃ G, G = P (3 + b.toInt.toNat) := ⟨_, rfl⟩
  have iA : inC P A := by rw [eA]; exact hD.2.1.2.2 _ (by omega)
  have iG : inC P G := by rw [eG]; exact hD.2.1.2.2 _ (by omega)
  have hne : ¬ A = G := fun q => by
    rw [eA, eG] at q
    have := hu a.toInt.toNat b.toInt.toNat (by omega) (by omega) q
    exact hab (Int32.toInt_inj.mp (by omega))
  rw [← eA, ← eG] at H
  obtain ⟨N, eN⟩ : ∃ N, N = wI (wF (wF (wF (wF (wF (wF (wF M 633 34 A) 633 35 G) 633 36 (1 + h)) 633 37 (-1)) 633 38 (-1)) 633 39 1) 633 60 1) 657 0 A := ⟨_, rfl⟩
  rw [← eN] at H
  have S := hR.1
  have FN : FZ rwF rwW noO M N := by
    rw [eN]
    exact (((((((FZ.wF (F := rwF) ⟨rfl, Or.inl (by decide)⟩).trans (FZ.wF ⟨rfl, Or.inl (by decide)⟩)).trans (FZ.wF ⟨rfl, Or.inl (by decide)⟩)).trans (FZ.wF ⟨rfl, Or.inl (by decide)⟩)).trans (FZ.wF ⟨rfl, Or.inl (by decide)⟩)).trans (FZ.wF ⟨rfl, Or.inl (by decide)⟩)).trans (FZ.wF ⟨rfl, Or.inr rfl⟩)).trans (FZ.wI (Or.inr rfl))
  have SN : SQ N := by rw [eN]; exact S.kf.kf.kf.kf.kf.kf.kf.ki
  have RN : RST T P N := hR.fz SN FN (fun k k1 k2 q => by unfold rwF at q; omega) (fun a ha q => by unfold rwW at q; omega)
  have WN : RWC (A, G, -1, -1, true) (h.toInt.toNat + 1) N := by
    rw [eN]
    refine ⟨?_, ?_, ?_, ?_, ?_, ?_⟩
    · rw [fI_wI, fI_wF_ne (by decide), fI_wF_ne (by decide), fI_wF_ne (by decide), fI_wF_ne (by decide), fI_wF_ne (by decide), fI_wF_ne (by decide)]
      exact fI_wF_eq S.1 qa_633 qi_61_34
    · rw [fI_wI, fI_wF_ne (by decide), fI_wF_ne (by decide), fI_wF_ne (by decide), fI_wF_ne (by decide), fI_wF_ne (by decide)]
      exact fI_wF_eq S.kf.1 qa_633 qi_61_35
    · rw [fI_wI, fI_wF_ne (by decide), fI_wF_ne (by decide), fI_wF_ne (by decide), fI_wF_ne (by decide), fI_wF_eq S.kf.kf.1 qa_633 qi_61_36]
      exact eh
    · rw [fI_wI, fI_wF_ne (by decide), fI_wF_ne (by decide), fI_wF_ne (by decide)]
      exact fI_wF_eq S.kf.kf.kf.1 qa_633 qi_61_37
    · rw [fI_wI, fI_wF_ne (by decide), fI_wF_ne (by decide)]
      exact fI_wF_eq S.kf.kf.kf.kf.1 qa_633 qi_61_38
    · rw [fI_wI, fI_wF_ne (by decide)]
      exact fI_wF_eq S.kf.kf.kf.kf.kf.1 qa_633 qi_61_39
  have z60 : zI N 633 60 = 1 := by rw [eN, fI_wI]; exact fI_wF_eq S.kf.kf.kf.kf.kf.kf.1 qa_633 qi_61_60
  have len : (zrw (wF (wF (wF (wF (wF (wF (wF M 633 34 A) 633 35 G) 633 36 (1 + h)) 633 37 (-1)) 633 38 (-1)) 633 39 1) 633 60 1) 657).length = 201 := (S.kf.kf.kf.kf.kf.kf.kf.1.row qa_657 qw_85).2
  have q := rwk_l (T := T) (tn := h.toInt.toNat + 1) hD hK (by omega) iG 200 0 0 A (-1) (-1) [A] none N RN iA hne WN rfl rfl (by rw [z60]; rfl) rfl (fun j y hj => by
    cases j with
    | zero =>
      cases hj
      rw [eN]
      exact rN_wI_eq (by omega)
    | succ j => cases hj) H
  unfold wayB wayL
  rw [← eA, ← eG]
  obtain ⟨u1, u2, u3, u4, u5⟩ := q
  refine ⟨?_, u2, FN.trans u3, u4, u5⟩
  rcases u1 with ⟨c1, c2⟩ | ⟨c1, c2⟩
  · exact Or.inl ⟨decide_eq_true c1, c2⟩
  · exact Or.inr ⟨decide_eq_false c1, c2⟩
theorem rwy_l {r : Int32} (hn : n ≤ 201) : ∀ (s i : Nat) (iz : Int32) (M : Mem), RST T P M → iz.toInt = (i : Int) → i + s = n → (zI M 633 60).toInt = (n : Int) → (∀ j, j < i → rN M 658 j = rN M 657 j) → Ev none e 240 38 [some (.ref 633), some (.int a), some (.int b), some (.int h), some (.int r), some (.int iz)] [] M v M' 0 0 → v = some (.int r) ∧ RST T P M' ∧ FZ noF (fun a => a = 658) noO M M' ∧ ∀ j, j < n → rN M' 658 j = rN M' 657 j := by
  intro s
  induction s with
  | zero =>
    intro i iz M hR hi hs h60 hrow H
    rcases rwy_38 hR.1 H with ⟨_, r1, r2⟩ | ⟨a1, _⟩
    · rw [r2]
      exact ⟨r1, hR, FZ.refl _, fun j hj => hrow j (by omega)⟩
    · exact absurd (Int32.le_iff_toInt_le.mpr (by omega)) a1
  | succ s ih =>
    intro i iz M hR hi hs h60 hrow H
    rcases rwy_38 hR.1 H with ⟨a1, _⟩ | ⟨_, _, _, H⟩
    · have := Int32.le_iff_toInt_le.mp a1
      omega
    · rw [cl_n hi, rI_n hi] at H
      have F1 : FZ noF (fun a => a = 658) noO M (wI M 658 i (rN M 657 i)) := FZ.wI rfl
      have len : (zrw M 658).length = 201 := (hR.1.1.row qa_658 qw_86).2
      obtain ⟨u1, u2, u3, u4⟩ := ih (i + 1) (iz + 1) _ (hR.fz hR.1.ki F1 (fun _ _ _ q => q) (fun a ha q => by omega)) (by rw [i32_p1 (by omega)]; omega) (by omega) (by rw [fI_wI]; exact h60) (fun j hj => by
        rw [rN_wI_ne (a := 658) (b := 657) (by omega)]
        by_cases q : j = i
        · rw [q]
          exact rN_wI_eq (by omega)
        · rw [rN_wI_ne (by omega)]
          exact hrow j (by omega)) H
      exact ⟨u1, u2, F1.trans u3, u4⟩
theorem rway_ok (hR : RST T P M) (hD : okD P) (hK : okK P) (hu : unD P) (hl : (wayL T P a b h).1.length ≤ 201) (H : Ev none e 240 0 [some (.ref 633), some (.int a), some (.int b), some (.int h), none, none] [] M v M' 0 0) : RST T P M' ∧ ((wayN P a b h ∧ v = some (.int (-2)) ∧ zI M' 633 61 = zI M 633 61 ∧ ∀ j, rN M' 658 j = rN M 658 j) ∨ (¬ wayN P a b h ∧ (zI M' 633 61).toInt = ((wayL T P a b h).1.length : Int) ∧ (∀ j y, (wayL T P a b h).1[j]? = some y → rN M' 658 j = y) ∧ ((wayB T P a b h = true ∧ ∃ y : Int32, v = some (.int y) ∧ y.toInt + 1 = ((wayL T P a b h).1.length : Int)) ∨ (wayB T P a b h = false ∧ v = some (.int (-1)))))) := by
  have h0 := hR.w0 0 (by decide) 0
  rcases rwy_0 hR.1 H with ⟨a1, r1, r2⟩ | ⟨a1, e1, v1, M1, _, H1, H⟩
  · rw [g239_ok h0 hD] at a1
    rw [r2]
    exact ⟨h0, Or.inl ⟨a1, r1, fI_wF_ne (by decide), fun j => rN_wF⟩⟩
  · rw [g239_ok h0 hD] at a1
    have ia : inD P a := Classical.not_not.mp (fun q => a1 (Or.inl q))
    have ib : inD P b := Classical.not_not.mp (fun q => a1 (Or.inr (Or.inl q)))
    have nab : ¬ a = b := fun q => a1 (Or.inr (Or.inr (Or.inl q)))
    have ix : inX h 0 5 := Classical.not_not.mp (fun q => a1 (Or.inr (Or.inr (Or.inr q))))
    obtain ⟨u1, u2, u3, u4, u5⟩ := rwk_ok h0 hD hK hu ia ib nab ix H1
    have fin : ∀ r, Ev none e 240 25 [some (.ref 633), some (.int a), some (.int b), some (.int h), none, none] [.int r] M1 v M' 0 0 → v = some (.int r) ∧ RST T P M' ∧ (zI M' 633 61).toInt = ((wayL T P a b h).1.length : Int) ∧ ∀ j y, (wayL T P a b h).1[j]? = some y → rN M' 658 j = y := fun r H => by
      have H := rwy_25 u2.1 H
      have R2 := u2.w0 61 (by decide) (zI M1 633 60)
      obtain ⟨s1, s2, s3, s4⟩ := rwy_l (n := (wayL T P a b h).1.length) hl (wayL T P a b h).1.length 0 0 _ R2 rfl (by omega) (by rw [fI_wF_ne (by decide)]; exact u4) (fun j hj => absurd hj (Nat.not_lt_zero j)) H
      refine ⟨s1, s2, by rw [s3.fi (fun q => q), fI_wF_eq u2.1.1 qa_633 qi_61_61]; exact u4, fun j y hj => ?_⟩
      rw [s4 j (List.getElem?_eq_some_iff.mp hj).1, s3.rn (by decide), rN_wF]
      exact u5 j y hj
    rcases u1 with ⟨c1, y, c2, c3⟩ | ⟨c1, c2⟩
    · rw [c2] at H
      obtain ⟨s1, s2, s3, s4⟩ := fin y H
      exact ⟨s2, Or.inr ⟨a1, s3, s4, Or.inl ⟨c1, y, s1, c3⟩⟩⟩
    · rw [c2] at H
      obtain ⟨s1, s2, s3, s4⟩ := fin (-1) H
      exact ⟨s2, Or.inr ⟨a1, s3, s4, Or.inr ⟨c1, s1⟩⟩⟩
end RWAY
