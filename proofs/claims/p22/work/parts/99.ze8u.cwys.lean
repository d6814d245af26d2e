/-! THE CLASS'S ways, readings, fits, least: the state is kept -/
def wayN (P : PK) (a b h : Int32) : Prop := ¬ inD P a ∨ ¬ inD P b ∨ a = b ∨ ¬ inX h 0 5
set_option maxRecDepth 200000 in
theorem my_all : (gNth mRs 65).map (fun q => q.2.2.2.1) = some 8 ∧ (gNth mRs 42).map (fun q => q.2.2.2.1) = some 5 ∧ (gNth mRs 43).map (fun q => q.2.2.2.1) = some 3 ∧ (gNth mRs 21).map (fun q => q.2.2.2.1) = some 7 ∧ (gNth mRs 122).map (fun q => q.2.2.2.1) = some 2 := by refine ⟨?_, ?_, ?_, ?_, ?_⟩ <;> decide +kernel
set_option maxRecDepth 200000 in
theorem tm_h : fiB 46 4 2 0 5 = true ∧ irB 60 6 0 255 = true ∧ fiB 22 7 11 0 200 = true := by refine ⟨?_, ?_, ?_⟩ <;> decide +kernel
section CWYS
variable {e B L rw g ci k0 : Nat} {lo hi : Int} {T T' : TS} {P P' P0 Q : PK} {PI : Nat → PK} {M M0 M1 M' : Mem} {v : Option Value} {c k d x a b h t y fr to hb go : Int32} {n i j hn : Nat} {l : List Int32} {F : Nat → Nat → Prop} {W O : Nat → Prop}
theorem TM.wIx (hT : TM sT sG M) (ha : gNth sT k0 = some g) (hB : irB g n lo hi = true) (h0 : lo ≤ x.toInt) (h1 : x.toInt ≤ hi) : TM sT sG (wI M k0 i x) ∧ Frm sT [(1000 + g, 0)] M (wI M k0 i x) := by
  obtain ⟨l, e1, _, _, e4⟩ := hT.irow ha hB
  have e : wI M k0 i x = gPut M k0 (.inl (1, .inl (gPut l i x))) := by
    unfold wI
    rw [e1]
  rw [e]
  exact ⟨e4 i x h0 h1, Frm.row e1 ha (by simp)⟩
theorem TM.zIn (hT : TM sT sG M) (ha : gNth sT k0 = some g) (hB : fiB g ci i lo hi = true) : lo ≤ (zI M k0 i).toInt ∧ (zI M k0 i).toInt ≤ hi := by
  obtain ⟨vs, y, g1, g2, _, h0, h1, _⟩ := hT.fnum ha hB
  have e0 : zI M k0 i = y := by
    unfold zI fV
    rw [g1]
    dsimp only
    rw [g2]
  rw [e0]
  exact ⟨h0, h1⟩
theorem CST.msc (h : CST T P PI M) (hS : SQ M') (hF : FZ F W noO M M') (f : ∀ a k, F a k → (a = 0 ∧ k ≠ 2 ∧ k ≠ 6) ∨ a = 229) (w : ∀ a, W a → a = 344) : CST T P PI M' := by
  refine h.scr hS hF ⟨fun q => by have := f _ _ q; omega, fun q => by have := f _ _ q; omega, fun q => by have := f _ _ q; omega⟩ (fun L hL _ => ⟨fun a k q1 q2 q => ?_, fun a q1 q2 q => ?_⟩) (fun t ht => ⟨fun k q => ?_, fun k k1 k8 q => ?_⟩) ⟨fun q => q, fun q => q, fun q => q⟩ (fun _ _ _ q => q) (fun L hL => ⟨fun k hk => (hF.on (fun q => q)).trans ((h.2.2.2.2.2.1 L hL).1 k hk), (h.2.2.2.2.2.1 L hL).2.on (fun j => hF.on (fun q => q))⟩) (h.2.2.2.2.1.fz hF (fun q => by have := f _ _ q; omega) (fun q => by have := f _ _ q; omega) (fun a _ _ q => by have := w _ q; omega)) (fun q => by have := w _ q; omega)
  · have := ld_cases hL
    have := f _ _ q
    omega
  · have := ld_cases hL
    have := w _ q
    omega
  · have := tx_cases ht
    have := f _ _ q
    omega
  · have := tx_cases ht
    have := w _ q
    omega
theorem CST.w0 (h : CST T P PI M) (h2 : i ≠ 2) (h6 : i ≠ 6) : CST T P PI (wF M 0 i y) := h.msc (W := noO) h.sq.kf (FZ.wF (F := fun a k => a = 0 ∧ k = i) ⟨rfl, rfl⟩) (fun a k q => by have := q.1; have := q.2; omega) (fun _ q => q.elim)
/-- the way that is told stays -/
def KP1 (M M' : Mem) : Prop := (∀ j, rN M' 341 j = rN M 341 j) ∧ fR M' 0 10 = fR M 0 10
theorem KP1.refl : KP1 M M := ⟨fun _ => rfl, rfl⟩
theorem KP1.trans (h : KP1 M M1) (g : KP1 M1 M') : KP1 M M' := ⟨fun j => (g.1 j).trans (h.1 j), g.2.trans h.2⟩
theorem KP1.fz {O : Nat → Prop} (hF : FZ F W O M M') (w : ¬ W 341) (f : ¬ F 0 10) : KP1 M M' := ⟨fun j => hF.rn w, hF.fr f⟩
theorem KP1.nt (hF : FZ netF netW netW M M') : KP1 M M' := KP1.fz hF (by unfold netW; omega) (by unfold netF; omega)
theorem KP1.wy (hF : FZ wyF (wyW rw) noO M M') (h : rw = 342) : KP1 M M' := KP1.fz hF (by rw [h]; unfold wyW lkW; omega) (by unfold wyF; omega)
theorem KP1.en (hF : FZ enF enW noO M M') : KP1 M M' := KP1.fz hF (by unfold enW shgW; omega) (by unfold enF shgF; omega)
theorem KP1.wf {a0 : Nat} : KP1 M (wF M a0 i x) := ⟨fun j => rN_wF, fR_wF⟩
/-- two DOORS and a HABIT -/
theorem wat_ok (hC : CST T P PI M) (H : Ev none e 132 0 [some (.ref 0), some (.int a), some (.int b), some (.int h)] [] M v M' 0 0) : M' = M ∧ ((¬ wayN P a b h ∧ inD P a ∧ inD P b ∧ inX h 0 5 ∧ v = some (.int 1)) ∨ (wayN P a b h ∧ v = some (.int 0))) := by
  obtain ⟨e1, v1, M1, _, H1, H⟩ := wat_0 hC.sq H
  obtain ⟨rm, rv⟩ := twd_ok hC H1
  rw [rm] at H
  rcases rv with ⟨ia, ib, nab, rv⟩ | ⟨q, rv⟩
  · rw [rv] at H
    rcases wat_6 hC.sq H with ⟨q, _⟩ | ⟨_, q, r1, r2⟩ | ⟨_, q, r1, r2⟩
    · exact absurd q (by decide)
    · rw [g126_R] at q
      exact ⟨r2, Or.inr ⟨Or.inr (Or.inr (Or.inr q)), r1⟩⟩
    · rw [g126_R, Classical.not_not] at q
      refine ⟨r2, Or.inl ⟨fun m => ?_, ia, ib, q, r1⟩⟩
      rcases m with m | m | m | m
      · exact m ia
      · exact m ib
      · exact nab m
      · exact m q
  · rw [rv] at H
    rcases wat_6 hC.sq H with ⟨_, r1, r2⟩ | ⟨q2, _⟩ | ⟨q2, _⟩
    · refine ⟨r2, Or.inr ⟨?_, r1⟩⟩
      rcases q with q | q | q
      · exact Or.inl q
      · exact Or.inr (Or.inl q)
      · exact Or.inr (Or.inr (Or.inl q))
    all_goals exact absurd rfl q2
theorem arvI (hI : INV M) (he : 4 ≤ e) (hr : gNth sT rw = some 58) (h1 : 0 ≤ fr.toInt ∧ fr.toInt ≤ 8) (h2 : 0 ≤ to.toInt ∧ to.toInt ≤ 8) (h3 : 0 ≤ hb.toInt ∧ hb.toInt ≤ 5) (H : Ev none e 65 0 [some (.ref 104), some (.int fr), some (.int to), some (.int hb), some (.ref rw), none, none, none] [] M v M' 0 0) : INV M' := (inv_d (c := kX7_arrives) (k := 8) (ws := [.ref 104, .int fr, .int to, .int hb, .ref rw]) kX7_arrives_ok (by decide +kernel) my_all.1 he (Two.mk rfl (Two.mk ⟨_, rfl, h1⟩ (Two.mk ⟨_, rfl, h2⟩ (Two.mk ⟨_, rfl, h3⟩ (Two.mk ⟨rw, rfl, hr⟩ trivial))))) hI H).1
theorem CST.d8 (h : CST T P PI M) (ha : inD P a) : 0 ≤ a.toInt ∧ a.toInt ≤ 8 := by
  have q := h.ok.1.2.1.2.1
  have h1 := ha.1
  have h2 := ha.2
  omega
/-- the way between two DOORS -/
theorem way_ok (h9 : CST T P PI M) (hI : INV M) (he : 6 ≤ e) (H : Ev none e 115 0 [some (.ref 0), some (.int a), some (.int b), some (.int h), none] [] M v M' 0 0) : CST T P PI M' ∧ ((wayN P a b h ∧ v = some (.int (-2)) ∧ M' = M) ∨ (¬ wayN P a b h ∧ (zI M' 0 13).toInt + 1 = ((wayL T P a b h).1.length : Int) ∧ (∀ j y, (wayL T P a b h).1[j]? = some y → rN M' (fR M' 0 9) j = y) ∧ ((wayB T P a b h = true ∧ v = some (.int (zI M' 0 13))) ∨ (wayB T P a b h = false ∧ v = some (.int (-1)))))) := by
  obtain ⟨e1, v1, M1, he1, H1, H⟩ := way_0 h9.sq H
  obtain ⟨rm, rv⟩ := wat_ok h9 H1
  rw [rm] at H
  rcases rv with ⟨nw, ia, ib, ih, rv⟩ | ⟨nw, rv⟩
  · rw [rv] at H
    rcases way_7 h9.sq h9.ld H with ⟨q, _⟩ | ⟨_, e2, v2, M2, he2, H2, H⟩
    · exact absurd q (by decide)
    · obtain ⟨rv2, c2, x2, I2, _⟩ := h9.ent hI (by omega) H2
      rw [rv2] at H
      obtain ⟨e3, v3, M3, he3, H3, H⟩ := way_24 c2.sq H
      have hr : gNth sT (fR M2 0 9) = some 58 := (c2.sq.1.fr qa_0 qr_0_9).2
      obtain ⟨rv3, c3, x3, F3, t3, r3⟩ := arv_ok c2 x2 hr ih ia ib H3
      rw [rv3] at H
      have e9 : fR M3 0 9 = fR M2 0 9 := F3.fr (by unfold wyF; omega)
      have fin : M' = wF M3 0 13 (zI M3 104 11) → CST T P PI M' ∧ (zI M' 0 13).toInt + 1 = ((wayL T P a b h).1.length : Int) ∧ (∀ j y, (wayL T P a b h).1[j]? = some y → rN M' (fR M' 0 9) j = y) ∧ zI M' 0 13 = zI M3 104 11 := fun eM => by
        have e13 : zI M' 0 13 = zI M3 104 11 := by rw [eM]; exact fI_wF_eq c3.sq.1 qa_0 qi_0_13
        refine ⟨by rw [eM]; exact c3.w0 (by decide) (by decide), by rw [e13]; exact t3, fun j y hj => ?_, e13⟩
        rw [eM, fR_wF, rN_wF, e9]
        exact r3 j y hj
      rcases way_38 c3.sq H with ⟨q, r1, r2⟩ | ⟨q, r1, r2⟩
      · obtain ⟨f1, f2, f3, f4⟩ := fin r2
        refine ⟨f1, Or.inr ⟨nw, f2, f3, Or.inr ⟨?_, r1⟩⟩⟩
        cases hw : wayB T P a b h with
        | false => rfl
        | true => rw [hw] at q; exact absurd q (by decide)
      · obtain ⟨f1, f2, f3, f4⟩ := fin r2
        refine ⟨f1, Or.inr ⟨nw, f2, f3, Or.inl ⟨?_, by rw [f4]; exact r1⟩⟩⟩
        cases hw : wayB T P a b h with
        | true => rfl
        | false => rw [hw] at q; exact absurd rfl q
  · rw [rv] at H
    rcases way_7 h9.sq h9.ld H with ⟨_, r1, r2⟩ | ⟨q, _⟩
    · exact ⟨by rw [r2]; exact h9, Or.inl ⟨nw, r1, r2⟩⟩
    · exact absurd rfl q
theorem twy_l (hn5 : n ≤ 5) (he : 5 ≤ e) : ∀ (r : Nat) (iz nz : Int32) (c3 c4 c5 : Option Value) (M : Mem), CST T P PI M → STA 8 T P M → INV M → nz.toInt = (n : Int) → iz.toInt + (r : Int) = nz.toInt → 0 ≤ iz.toInt → Ev none e 118 55 [some (.ref 0), some (.int nz), some (.int iz), c3, c4, c5] [] M v M' 0 0 → CST T P PI M' ∧ INV M' ∧ (fR M 0 10 = 342 → KP1 M M') ∧ ∃ r, v = some (.int r) := by
  intro r
  induction r with
  | zero =>
    intro iz nz c3 c4 c5 M hC hX hI hn hi h0 H
    rcases twy_55 hC.sq H with ⟨_, r1, r2⟩ | ⟨a1, _⟩
    · rw [r2]; exact ⟨hC, hI, fun _ => KP1.refl, _, r1⟩
    · exact absurd (Int32.le_iff_toInt_le.mpr (by omega)) a1
  | succ r ih =>
    intro iz nz c3 c4 c5 M hC hX hI hn hi h0 H
    rcases twy_55 hC.sq H with ⟨_, r1, r2⟩ | ⟨_, _, _, _, e1, v1, M1, he1, H1, H⟩
    · rw [r2]; exact ⟨hC, hI, fun _ => KP1.refl, _, r1⟩
    · obtain ⟨rm, rv⟩ := wat_ok hC H1
      rw [rm] at H
      rcases rv with ⟨nw, ia, ib, ih9, rv⟩ | ⟨nw, rv⟩
      · rw [rv] at H
        rcases twy_111 hC.sq H with ⟨q, _⟩ | ⟨_, e3, v3, M3, he3, H3, H⟩
        · exact absurd q (by decide)
        · have hr : gNth sT (fR M 0 10) = some 58 := (hC.sq.1.fr qa_0 qr_0_10).2
          have I3 := arvI hI (by omega) hr (hC.d8 ia) (hC.d8 ib) ih9 H3
          obtain ⟨rv3, c3, x3, F3, t3, r3⟩ := arv_ok hC hX hr ih9 ia ib H3
          rw [rv3] at H
          rcases twy_130 c3.sq H with ⟨_, r1, r2⟩ | ⟨_, e4, v4, M4, he4, H4, H⟩
          · rw [r2]; exact ⟨c3, I3, fun h => KP1.wy F3 h, _, r1⟩
          · have hr3 : gNth sT (fR M3 0 10) = some 58 := (c3.sq.1.fr qa_0 qr_0_10).2
            obtain ⟨I4, S4, F4, q4⟩ := net_call (cn := kX4_setWay) (mx := 5) (wsv := [.ref 229, .int iz, .ref (fR M3 0 10), .int (zI M3 104 11)]) kX4_setWay_ok (by decide +kernel) my_all.2.1 (by show 1 ≤ e4; omega) (Two.mk rfl (Two.mk ⟨_, rfl, by omega, by show iz.toInt ≤ 4; omega⟩ (Two.mk ⟨_, rfl, hr3⟩ (Two.mk ⟨_, rfl, I3.1.zIn qa_104 tm_h.2.2⟩ trivial)))) I3 c3.sq.2 H4
            rw [ret_n (by decide) q4] at H
            obtain ⟨u1, u2, u3, u4⟩ := ih (iz + 1) nz _ _ _ M4 (c3.nt S4 F4) (x3.nt hC.ok.1 S4 F4) I4 hn (by rw [i32_p1 (by omega)]; omega) (by rw [i32_p1 (by omega)]; omega) (twy_154 S4 H)
            exact ⟨u1, u2, fun h => ((KP1.wy F3 h).trans (KP1.nt F4)).trans (u3 (((KP1.wy F3 h).trans (KP1.nt F4)).2.trans h)), u4⟩
      · rw [rv] at H
        rcases twy_111 hC.sq H with ⟨_, r1, r2⟩ | ⟨q, _⟩
        · rw [r2]; exact ⟨hC, hI, fun _ => KP1.refl, _, r1⟩
        · exact absurd rfl q
theorem STA.f229 (h : STA 8 T P M) (hD : okD P) (hS : SQ M') (hF : FZ (fun a k => a = 229 ∧ k = 2) noO noO M M') : STA 8 T P M' := h.nt hD hS (hF.more (fun a k q => Or.inl q.1) (fun _ q => q.elim) (fun _ q => q.elim))
theorem readS_ok (h9 : CST T P PI M) (hI : INV M) (he : 10 ≤ e) (H : Ev none e 117 0 [some (.ref 0), none] [] M v M' 0 0) : CST T P PI M' ∧ (fR M 0 10 = 342 → KP1 M M') := by
  obtain ⟨e1, v1, M1, he1, H1, H⟩ := rea_0 h9.sq H
  have q1 : CST T P PI M1 ∧ INV M1 ∧ (fR M 0 10 = 342 → KP1 M M1) ∧ ∃ r, v1 = some (.int r) := by
    rcases twy_0 h9.sq h9.ld H1 with ⟨_, r1, r2⟩ | ⟨a1, _, e2, v2, M2, he2, H2, H1⟩ | ⟨_, _, r1, r2⟩
    · rw [r2]; exact ⟨h9, hI, fun _ => KP1.refl, _, r1⟩
    · rw [g126_R, Classical.not_not] at a1
      have n1 : 1 ≤ (zI M 1 1 / 3).toInt := a1.1
      have n5 : (zI M 1 1 / 3).toInt ≤ 5 := a1.2
      obtain ⟨rv2, c2, x2, I2, F2⟩ := h9.ent hI (by omega) H2
      rw [rv2] at H1
      have H1 := twy_45 c2.sq H1
      have F3 : FZ (fun a k => a = 229 ∧ k = 2) noO noO M2 (wF M2 229 2 (zI M 1 1 / 3)) := FZ.wF ⟨rfl, rfl⟩
      have S3 : SQ (wF M2 229 2 (zI M 1 1 / 3)) := c2.sq.kf
      obtain ⟨w1, w2⟩ := I2.1.wFi (x := zI M 1 1 / 3) qa_229 tm_h.1 (by omega) (by omega)
      obtain ⟨u1, u2, u3, u4⟩ := twy_l (n := (zI M 1 1 / 3).toInt.toNat) (by omega) (by omega) (zI M 1 1 / 3).toInt.toNat 0 _ _ _ _ _ (c2.msc S3 F3 (fun a k q => Or.inr q.1) (fun _ q => q.elim)) (x2.f229 h9.ok.1 S3 F3) (I2.frmT w1 w2 (by decide +kernel)) (by omega) (by have z0 : (0 : Int32).toInt = 0 := rfl; omega) (by decide) H1
      have k2 : KP1 M (wF M2 229 2 (zI M 1 1 / 3)) := (KP1.en F2).trans KP1.wf
      exact ⟨u1, u2, fun h => k2.trans (u3 (k2.2.trans h)), u4⟩
    · rw [r2]; exact ⟨h9, hI, fun _ => KP1.refl, _, r1⟩
  obtain ⟨c1, I1, k1, r, hr⟩ := q1
  rw [hr] at H
  rcases rea_4 c1.sq c1.ld H with ⟨_, _, r2⟩ | ⟨_, e4, v4, M4, he4, H4, H⟩
  · rw [r2]; exact ⟨c1.tp, fun h => (k1 h).trans KP1.wf⟩
  · obtain ⟨I4, S4, F4, q4⟩ := net_call (cn := kX4_tellings) (mx := 3) (wsv := [.ref 229, .ref 8]) kX4_tellings_ok (by decide +kernel) my_all.2.2.1 (by show 8 ≤ e4; omega) (Two.mk rfl (Two.mk ⟨8, rfl, lnd_8⟩ trivial)) I1 c1.sq.2 H4
    obtain ⟨r2, hr2⟩ := ret_i (by decide) q4
    rw [hr2] at H
    obtain ⟨_, rm⟩ := rea_18 S4 H
    rw [rm]
    exact ⟨(c1.nt S4 F4).tp, fun h => ((k1 h).trans (KP1.nt F4)).trans KP1.wf⟩
theorem ftg_l (he : 5 ≤ e) (ia : inD P a) (ib : inD P b) : ∀ (r : Nat) (s h : Int32) (M : Mem), CST T P PI M → STA 8 T P M → INV M → h.toInt + (r : Int) = 6 → 0 ≤ h.toInt → Ev none e 121 16 [some (.ref 0), some (.int a), some (.int b), some (.int s), some (.int h)] [] M v M' 0 0 → CST T P PI M' ∧ (fR M 0 10 = 342 → KP1 M M') ∧ ∃ r, v = some (.int r) := by
  have z6 : (6 : Int32).toInt = 6 := rfl
  intro r
  induction r with
  | zero =>
    intro s h M hC hX hI hh h0 H
    rcases ftg_16 hC.sq H with ⟨_, r1, r2⟩ | ⟨a1, _⟩
    · rw [r2]; exact ⟨hC, fun _ => KP1.refl, _, r1⟩
    · exact absurd (Int32.le_iff_toInt_le.mpr (by omega)) a1
  | succ r ih =>
    intro s h M hC hX hI hh h0 H
    rcases ftg_16 hC.sq H with ⟨_, r1, r2⟩ | ⟨_, e3, v3, M3, he3, H3, H⟩
    · rw [r2]; exact ⟨hC, fun _ => KP1.refl, _, r1⟩
    · have hr : gNth sT (fR M 0 10) = some 58 := (hC.sq.1.fr qa_0 qr_0_10).2
      have i5 : inX h 0 5 := ⟨h0, by show h.toInt ≤ 5; omega⟩
      have I3 := arvI hI (by omega) hr (hC.d8 ia) (hC.d8 ib) i5 H3
      obtain ⟨rv3, c3, x3, F3, t3, r3⟩ := arv_ok hC hX hr i5 ia ib H3
      rw [rv3] at H
      rcases ftg_38 c3.sq H with ⟨_, e4, v4, M4, he4, H4, H⟩ | ⟨_, H⟩
      · obtain ⟨I4, S4, F4, q4⟩ := net_call (cn := kX10_tapeTellsTrail) (mx := 2) (wsv := [.ref 0]) kX10_tapeTellsTrail_ok (by decide +kernel) my_all.2.2.2.2 (Nat.zero_le _) (Two.mk rfl trivial) I3 c3.sq.2 H4
        obtain ⟨r4, hr4⟩ := ret_i (by decide) q4
        rw [hr4] at H
        have nx : ∀ s2, Ev none e 121 16 [some (.ref 0), some (.int a), some (.int b), some (.int s2), some (.int (h + 1))] [] M4 v M' 0 0 → CST T P PI M' ∧ (fR M 0 10 = 342 → KP1 M M') ∧ ∃ r, v = some (.int r) := fun s2 H => by
          obtain ⟨u1, u2, u3⟩ := ih s2 (h + 1) M4 (c3.nt S4 F4) (x3.nt hC.ok.1 S4 F4) I4 (by rw [i32_p1 (by omega)]; omega) (by rw [i32_p1 (by omega)]; omega) H
          exact ⟨u1, fun h => ((KP1.wy F3 h).trans (KP1.nt F4)).trans (u2 (((KP1.wy F3 h).trans (KP1.nt F4)).2.trans h)), u3⟩
        rcases ftg_60 S4 H with ⟨_, H⟩ | ⟨_, H⟩
        · exact nx _ H
        · exact nx _ H
      · obtain ⟨u1, u2, u3⟩ := ih s (h + 1) M3 c3 x3 I3 (by rw [i32_p1 (by omega)]; omega) (by rw [i32_p1 (by omega)]; omega) H
        exact ⟨u1, fun h => (KP1.wy F3 h).trans (u2 ((KP1.wy F3 h).2.trans h)), u3⟩
theorem fitsS_ok (h9 : CST T P PI M) (hI : INV M) (he : 8 ≤ e) (H : Ev none e 120 0 [some (.ref 0), some (.int a), some (.int b), none] [] M v M' 0 0) : CST T P PI M' ∧ (fR M 0 10 = 342 → KP1 M M') := by
  rcases fit_0 h9.sq H with ⟨_, _, r2⟩ | ⟨_, e1, v1, M1, he1, H1, H⟩
  · rw [r2]; exact ⟨h9.tp, fun _ => KP1.wf⟩
  · obtain ⟨rm, rv⟩ := twd_ok h9 H1
    rw [rm] at H
    rcases rv with ⟨ia, ib, nab, rv⟩ | ⟨_, rv⟩
    · rw [rv] at H
      rcases fit_25 h9.sq H with ⟨q, _⟩ | ⟨_, e2, v2, M2, he2, H2, H⟩
      · exact absurd q (by decide)
      · obtain ⟨e3, v3, M3, he3, H3, H2⟩ := ftg_0 h9.sq h9.ld H2
        obtain ⟨rv3, c3, x3, I3, F3⟩ := h9.ent hI (by omega) H3
        rw [rv3] at H2
        obtain ⟨c2, k2, r, hr⟩ := ftg_l (by omega) ia ib 6 0 0 M3 c3 x3 I3 rfl (by decide) (ftg_13 c3.sq H2)
        rw [hr] at H
        obtain ⟨_, r2⟩ := fit_34 c2.sq H
        rw [r2]
        exact ⟨c2.tp, fun h => ((KP1.en F3).trans (k2 ((KP1.en F3).2.trans h))).trans KP1.wf⟩
    · rw [rv] at H
      rcases fit_25 h9.sq H with ⟨_, _, r2⟩ | ⟨q, _⟩
      · rw [r2]; exact ⟨h9.tp, fun _ => KP1.wf⟩
      · exact absurd rfl q
theorem CST.e344 (h : CST T P PI M) : CST T P PI (wI M 344 i x) := h.msc (F := noF) h.sq.ki (FZ.wI (W := fun a => a = 344) rfl) (fun _ _ q => q.elim) (fun _ q => q)
theorem lot_l (n6 : n ≤ 6) (he : 6 ≤ e) : ∀ (r : Nat) (iz nz : Int32) (c3 c4 : Option Value) (M : Mem), CST T P PI M → INV M → nz.toInt = (n : Int) → iz.toInt + (r : Int) = nz.toInt → 0 ≤ iz.toInt → 2 ≤ n → Ev none e 101 23 [some (.ref 0), some (.int nz), some (.int iz), c3, c4] [] M v M' 0 0 → CST T P PI M' ∧ ∃ r, v = some (.int r) := by
  have en : ∀ (iz nz : Int32) (c3 c4 : Option Value) (M : Mem), CST T P PI M → INV M → nz.toInt = (n : Int) → 2 ≤ n → (∃ e1 v1 M1, e = e1 + 1 ∧ Ev none e1 54 0 [some (.ref 104), some (.ref 8)] [] M v1 M1 0 0 ∧ Ev none e 101 115 [some (.ref 0), some (.int nz), some (.int iz), c3, c4] (v1.toList ++ []) M1 v M' 0 0) → CST T P PI M' ∧ ∃ r, v = some (.int r) := fun iz nz c3 c4 M hC hI hn n2 H => by
    obtain ⟨e1, v1, M1, he1, H1, H⟩ := H
    obtain ⟨rv, c1, _, I1, _⟩ := hC.ent hI (by omega) H1
    rw [rv] at H
    obtain ⟨e2, v2, M2, he2, H2, H⟩ := lot_115 c1.sq H
    obtain ⟨I2, S2, F2, q4⟩ := net_call (cn := kX2_leastCost) (mx := 7) (wsv := [.ref 192, .ref 344, .int nz]) kX2_leastCost_ok (by decide +kernel) my_all.2.2.2.1 (by show 3 ≤ e2; omega) (Two.mk rfl (Two.mk rfl (Two.mk ⟨_, rfl, by show (2 : Int) ≤ nz.toInt; omega, by show nz.toInt ≤ (6 : Int); omega⟩ trivial))) I1 c1.sq.2 H2
    obtain ⟨r, hr⟩ := ret_i (by decide) q4
    rw [hr] at H
    obtain ⟨r1, r2⟩ := lot_127 S2 H
    rw [r2]
    exact ⟨c1.nt S2 F2, _, r1⟩
  intro r
  induction r with
  | zero =>
    intro iz nz c3 c4 M hC hI hn hi h0 n2 H
    rcases lot_23 hC.sq hC.ld H with ⟨_, H⟩ | ⟨a1, _⟩
    · exact en iz nz c3 c4 M hC hI hn n2 H
    · exact absurd (Int32.le_iff_toInt_le.mpr (by omega)) a1
  | succ r ih =>
    intro iz nz c3 c4 M hC hI hn hi h0 n2 H
    rcases lot_23 hC.sq hC.ld H with ⟨_, H⟩ | ⟨_, _, e1, v1, M1, he1, H1, H⟩
    · exact en iz nz c3 c4 M hC hI hn n2 H
    · obtain ⟨rv, rm⟩ := isd_0 hC.sq hC.ld H1
      rw [rm, rv] at H
      rcases lot_43 hC.sq hC.ld H with ⟨_, r1, r2⟩ | ⟨a1, d9, i6, H⟩
      · rw [r2]; exact ⟨hC, _, r1⟩
      · have ia : inD P (rI M 2 iz) := by
          by_cases q : inD P (rI M 2 iz)
          · exact q
          · exact absurd ((isd_ok hC).mpr q) a1
        have hz0 := ia.1
        have hz1 := ia.2
        have er : rI M (8 + 9) (rI M 2 iz) = P (3 + (rI M 2 iz).toInt.toNat) := (rI_n (p := (rI M 2 iz).toInt.toNat) (by omega)).trans (hC.lan.1.2.2.1.2 (rI M 2 iz).toInt.toNat (by omega))
        have hc := (hC.ok.1.2.1.2.2 (rI M 2 iz).toInt.toNat (by omega)).lt hC.ok.1.1
        rw [← er] at hc
        obtain ⟨w1, w2⟩ := hI.1.wIx (i := iz.toNatClampNeg) qa_344 tm_h.2.1 (x := rI M (8 + 9) (rI M 2 iz)) (by omega) (by omega)
        have C1 := hC.e344 (i := iz.toNatClampNeg) (x := rI M (8 + 9) (rI M 2 iz))
        have I1 := hI.frmT w1 w2 (by decide +kernel)
        obtain ⟨N, eN⟩ : ∃ N, N = wI M 344 iz.toNatClampNeg (rI M (8 + 9) (rI M 2 iz)) := ⟨_, rfl⟩
        rw [← eN] at C1 I1 H
        have lp : ∀ (s : Nat) (j : Int32), 0 ≤ j.toInt → j.toInt + (s : Int) = iz.toInt → Ev none e 101 67 [some (.ref 0), some (.int nz), some (.int iz), some (.int (rI M 2 iz)), some (.int j)] [] N v M' 0 0 → CST T P PI M' ∧ ∃ r, v = some (.int r) := by
          intro s
          induction s with
          | zero =>
            intro j j0 hj H
            rcases lot_67 C1.sq C1.ld H with ⟨_, H⟩ | ⟨a1, _⟩ | ⟨a1, _⟩
            · exact ih (iz + 1) nz _ _ N C1 I1 hn (by rw [i32_p1 (by omega)]; omega) (by rw [i32_p1 (by omega)]; omega) n2 H
            all_goals exact absurd (Int32.le_iff_toInt_le.mpr (by omega)) a1
          | succ s ihs =>
            intro j j0 hj H
            rcases lot_67 C1.sq C1.ld H with ⟨a1, _⟩ | ⟨_, _, _, _, r1, r2⟩ | ⟨_, _, _, _, H⟩
            · have := Int32.le_iff_toInt_le.mp a1
              omega
            · rw [r2]; exact ⟨C1, _, r1⟩
            · exact ihs (j + 1) (by rw [i32_p1 (by omega)]; omega) (by rw [i32_p1 (by omega)]; omega) H
        exact lp iz.toInt.toNat 0 (by decide) (by have z0 : (0 : Int32).toInt = 0 := rfl; omega) H
theorem leastS_ok (h9 : CST T P PI M) (hI : INV M) (he : 8 ≤ e) (H : Ev none e 100 0 [some (.ref 0), none] [] M v M' 0 0) : CST T P PI M' := by
  obtain ⟨e1, v1, M1, he1, H1, H⟩ := lea_0 h9.sq H
  have q1 : CST T P PI M1 ∧ ∃ r, v1 = some (.int r) := by
    rcases lot_0 h9.sq h9.ld H1 with ⟨_, r1, r2⟩ | ⟨a1, H1⟩
    · rw [r2]; exact ⟨h9, _, r1⟩
    · rw [g126_R, Classical.not_not] at a1
      have n1 : 2 ≤ (zI M 1 1).toInt := a1.1
      have n6 : (zI M 1 1).toInt ≤ 6 := a1.2
      exact lot_l (n := (zI M 1 1).toInt.toNat) (by omega) (by omega) (zI M 1 1).toInt.toNat 0 _ _ _ _ h9 hI (by omega) (by have z0 : (0 : Int32).toInt = 0 := rfl; omega) (by decide) (by omega) H1
  obtain ⟨c1, r, hr⟩ := q1
  rw [hr] at H
  obtain ⟨_, r2⟩ := lea_4 c1.sq H
  rw [r2]
  exact c1.tp
end CWYS
