/-! THE CLASS'S net, lasts, nobodySteps, fences -/
section CFEN
variable {e B L : Nat} {T T' : TS} {P P' P0 Q : PK} {PI : Nat → PK} {M M0 M1 M' : Mem} {v : Option Value} {c k d x a b t y ws z : Int32} {n i j : Nat} {ss : List Int32} {F : Nat → Nat → Prop} {W O : Nat → Prop}
theorem cnet_ok (h : CST T P PI M) (H : Ev none e 97 0 [some (.ref 0)] [] M v M' 0 0) : v = some (.int (nwP (T 0) P)) ∧ CST T P PI M' := by
  obtain ⟨e1, v1, M1, _, H1, H⟩ := net_0 h.sq h.ld H
  obtain ⟨rv1, b2, b3, b4, b5, b6⟩ := centr_ok h H1
  rw [rv1] at H
  obtain ⟨e3, v3, M3, _, H3, H⟩ := net_11 b2.sq H
  obtain ⟨rm, rv3⟩ := wcl_ok b2.1 b2.2.2.1.1 b2.2.2.1.2.1 H3
  rw [rv3, rm] at H
  obtain ⟨u1, u2⟩ := net_18 b2.sq H
  refine ⟨u1, ?_⟩
  rw [u2]
  refine h.wlk b4 (fun a k q => ?_) (fun a q => ?_) (fun a q => q.elim) b5 b2 b3 h.ok
  · unfold enF shgF at q
    omega
  · unfold enW shgW at q
    omega
/-- a land whose k-th wish is dropped -/
theorem LAN.drp (hS : SQ M) (hL : gNth sT L = some 8) (hA : LAN L P M) (hx : WXr L M) (hk : WKs L M) (hD : okD P) (k60 : (P 157).toInt ≤ 60) (w1 : 0 ≤ k.toInt ∧ k.toInt < (P 12).toInt) : LAN L (drpP P k) (wF M (L + 12 + k.toInt.toNat) 5 0) := by
  obtain ⟨m, em⟩ : ∃ m, m = k.toInt.toNat := ⟨_, rfl⟩
  have b24 := hD.2.2.2.1
  rw [← em]
  obtain ⟨b1, b2⟩ := hD.drp (k := k) w1
  rw [← em] at b2
  have hF : FZ (fun a f => a = L + 12 + m ∧ f = 5) noO noO M (wF M (L + 12 + m) 5 0) := FZ.wF (F := fun a f => a = L + 12 + m ∧ f = 5) ⟨rfl, rfl⟩
  have b3 := b2 0 (by omega)
  have b4 := b2 1 (by omega)
  refine hA.lo hF b3 b4 (fun j hj => b2 j (by omega)) (fun a k _ _ q => Or.inr (by omega)) (fun a q => q.elim) (fun q => q) hk k60 ⟨?_, fun d hd => ?_⟩ ⟨?_, fun i hi f hf => ?_⟩
  · rw [b2 2 (by omega), hF.fi (by omega)]
    exact hA.1.2.2.1.1
  · rw [b2 2 (by omega)] at hd
    have := hD.2.1.2.1
    rw [b2 _ (by omega)]
    exact (hF.rn (fun q => q)).trans (hA.1.2.2.1.2 d hd)
  · rw [b2 12 (by omega), hF.fi (by omega)]
    exact hA.1.2.2.2.1
  · rw [b2 12 (by omega)] at hi
    by_cases hif : i = m ∧ f = 5
    · rw [hif.1, hif.2]
      have e5 : drpP P k (13 + 6 * m + 5) = 0 := by rw [em]; exact up_eq
      rw [e5]
      exact fI_wF_eq hS.1 (wi_t hS.1 hL hx (by omega)) qi_20_5
    · rw [b2 _ (by omega), hF.fi (by omega)]
      exact hA.1.2.2.2.2 i hi f hf
theorem lsv_l {tt : Nat} (ht : t.toInt = (tt : Int)) (hc0 : inC P0 c) : ∀ (r : Nat) (nz : Int32) (B : Nat) (P : PK) (M : Mem), TRI T P0 PI B (-1) [] P M → P 0 = P0 0 → P 1 = P0 1 → nz.toInt + (r : Int) = ws.toInt → 0 ≤ nz.toInt → r ≤ 40 → tt ≤ 200 → B + 60 * tt * r ≤ 100000000 → Ev none e 114 64 [some (.ref 0), some (.int k), some (.int c), some (.int ws), some (.int t), some (.int nz)] [] M v M' 0 0 → v = some (.int (lasL T tt c r nz P)) ∧ CST T P0 PI M' := by
  have uw := i32_any ws
  intro r
  induction r with
  | zero =>
    intro nz B P M h p0 p1 hw h1 _ _ hB H
    have hcP : inC P c := (inC.eq p0 p1).mpr hc0
    have hg := tri_worn h hcP
    have en : ws = nz := Int32.toInt_inj.mp (by omega)
    unfold lasL
    rcases lsv_64 h.2.1.sq H with ⟨_, a2, r1, r2⟩ | ⟨_, a2, r1, r2⟩ | ⟨a1, _⟩ | ⟨a1, _⟩
    · rw [hg, bI_0] at a2
      rw [if_neg (by rw [a2]; decide), r2]
      exact ⟨by rw [r1, en], h.1⟩
    · rw [hg, bI_0, Bool.not_eq_false] at a2
      rw [if_pos a2, r2]
      exact ⟨r1, h.1⟩
    all_goals exact absurd (Int32.le_iff_toInt_le.mpr (by omega)) a1
  | succ r ih =>
    intro nz B P M h p0 p1 hw h1 r40 t200 hB H
    have hcP : inC P c := (inC.eq p0 p1).mpr hc0
    have hg := tri_worn h hcP
    unfold lasL
    rcases lsv_64 h.2.1.sq H with ⟨a1, _⟩ | ⟨a1, _⟩ | ⟨_, a2, r1, r2⟩ | ⟨_, a2, e1, v1, M1, _, H1, H⟩
    · have := Int32.le_iff_toInt_le.mp a1
      omega
    · have := Int32.le_iff_toInt_le.mp a1
      omega
    · rw [hg, bI_0] at a2
      rw [if_neg (by rw [a2]; decide), r2]
      exact ⟨r1, h.1⟩
    · rw [hg, bI_0, Bool.not_eq_false] at a2
      rw [if_pos a2]
      have hm : 60 * tt * (r + 1) = 60 * tt * r + 60 * tt := by rw [Nat.mul_add, Nat.mul_one]
      obtain ⟨rv, q1, _⟩ := onk_ok h (n := tt) (by omega) ht H1
      rw [rv] at H
      have H := lsv_90 q1.2.1.sq H
      have w0 := wks_0 (T := T) (t := tt) h.2.2.2.1 h.2.2.2.2.1
      exact ih (nz + 1) (B + 60 * tt) _ M1 q1 ((w0 0 (by decide)).trans p0) ((w0 1 (by decide)).trans p1) (by rw [i32_p1 (by omega)]; omega) (by rw [i32_p1 (by omega)]; omega) (by omega) t200 (by omega) H
/-- the budget of what can be trod -/
theorem okA.bud (h : okA P) : 60 * (P 518).toInt.toNat ≤ 3600000 := by
  have := h.2.2.1
  omega
theorem lasts_ok (h : CST T P PI M) (H : Ev none e 114 0 [some (.ref 0), some (.int k), some (.int c), some (.int ws), some (.int t), none] [] M v M' 0 0) : (lasN P k c ws t ∧ v = some (.int (-2)) ∧ CST T P PI M') ∨ (¬ lasN P k c ws t ∧ v = some (.int (lasL T t.toInt.toNat c ws.toInt.toNat 0 (drpP P k))) ∧ CST T P PI M') := by
  have hS := h.sq
  have hD := h.ok.1
  have o1 : ¬ ((1 : Int32) = 0) := by decide
  obtain ⟨e1, v1, M1, _, H1, H⟩ := lsv_0 hS H
  obtain ⟨rm, rv⟩ := isw_ok h H1
  rw [rm] at H
  unfold lasN
  rcases rv with ⟨hW, rv⟩ | ⟨hW, rv⟩
  · rw [rv] at H
    rcases lsv_5 hS H with ⟨a1, _⟩ | ⟨_, e2, v2, M2, _, H2, H⟩
    · exact absurd a1 o1
    · obtain ⟨rv2, rm2⟩ := isc_0 hS h.ld H2
      rw [rv2, rm2] at H
      rcases lsv_13 hS H with ⟨a2, r1, r2⟩ | ⟨_, a2, r1, r2⟩ | ⟨_, _, a2, r1, r2⟩ | ⟨a2, a3, a4, e3, v3, M3, _, H3, H⟩
      · rw [isc_ok h.lan hD.1] at a2
        exact Or.inl ⟨Or.inr (Or.inl a2), r1, r2 ▸ h⟩
      · rw [g126_R] at a2
        exact Or.inl ⟨Or.inr (Or.inr (Or.inl a2)), r1, r2 ▸ h⟩
      · rw [g126_R] at a2
        exact Or.inl ⟨Or.inr (Or.inr (Or.inr a2)), r1, r2 ▸ h⟩
      · rw [isc_ok h.lan hD.1, Classical.not_not] at a2
        rw [g126_R, Classical.not_not] at a3 a4
        have nl : ¬ (¬ isW P k ∨ ¬ inC P c ∨ ¬ inX ws 1 40 ∨ ¬ inX t 1 200) := fun q => by
          rcases q with q | q | q | q
          · exact q hW
          · exact q a2
          · exact q a3
          · exact q a4
        have y1 : 1 ≤ ws.toInt := a3.1
        have y40 : ws.toInt ≤ 40 := a3.2
        have t1 : 1 ≤ t.toInt := a4.1
        have t200 : t.toInt ≤ 200 := a4.2
        obtain ⟨rv3, q1, qv, _⟩ := opcT_ok h H3
        rw [rv3] at H
        have w1 := hW.1
        have b24 := hD.2.2.2.1
        obtain ⟨_, H⟩ := lsv_48 q1.2.1.sq q1.1.2.1.2.1 H
        rw [wx_oI q1.2.1.2.2.2.2.1 (by omega) (by omega)] at H
        have hcl := q1.2.1.2.2.2.2.2.1
        have lan : LAN 243 (drpP P k) (wF M3 (243 + 12 + k.toInt.toNat) 5 0) := LAN.drp q1.2.1.sq lnd_tr (q1.2.1.lan q1.2.2.1) q1.2.1.2.2.2.2.1 hcl hD h.ok.k60 w1
        obtain ⟨dD, dO⟩ := hD.drp w1
        have d0 := dO 0 (by omega)
        have d1 := dO 1 (by omega)
        have hE : okE (60 * (P 518).toInt.toNat) (drpP P k) := h.ok.2.2.2.sb d0 d1 (fun j hj => dO j (by omega))
        have hF : FZ (fun a f => a = 243 + 12 + k.toInt.toNat ∧ f = 5) noO noO M3 (wF M3 (243 + 12 + k.toInt.toNat) 5 0) := FZ.wF (F := fun a f => a = 243 + 12 + k.toInt.toNat ∧ f = 5) ⟨rfl, rfl⟩
        obtain ⟨x1, x2⟩ := q1.2.1.new q1.2.1.sq.kf (hF.more (fun a k q => by unfold cpF; omega) (fun _ q => q.elim) (fun _ q => q)) lan d0 d1 hE.nn (fun j hj => rN_wF.trans (qv j hj))
        have c1 := q1.1.tri (hF.more (fun a k q => by unfold triF; omega) (fun _ q => q.elim) (fun _ q => q.elim)) (q1.1.2.2.2.2.1.fz hF (by omega) (by omega) (fun _ _ _ q => q)) x1
        have hK : okK (drpP P k) := h.ok.2.1.wis d0 d1 (by rw [dO 12 (by omega)]; exact Int.le_refl _) (fun j hj => dO j (by omega))
        have tr : TRI T P PI (60 * (P 518).toInt.toNat) (-1) [] (drpP P k) (wF M3 (243 + 12 + k.toInt.toNat) 5 0) := ⟨c1, x1, x2, dD, hK, hE, ⟨(hF.fi (by omega)).trans q1.2.2.2.2.2.2.1, (hF.fi (by omega)).trans q1.2.2.2.2.2.2.2⟩⟩
        have H := lsv_61 tr.2.1.sq H
        have hb := h.ok.bud
        have hm : 60 * t.toInt.toNat * ws.toInt.toNat ≤ 60 * 200 * 40 := Nat.mul_le_mul (Nat.mul_le_mul_left _ (by omega)) (by omega)
        obtain ⟨r1, r2⟩ := lsv_l (tt := t.toInt.toNat) (ws := ws) (by omega) a2 ws.toInt.toNat 0 _ _ _ tr d0 d1 (by have z0 : (0 : Int32).toInt = 0 := rfl; omega) (by decide) (by omega) (by omega) (by omega) H
        exact Or.inr ⟨nl, r1, r2⟩
  · rw [rv] at H
    rcases lsv_5 hS H with ⟨_, r1, r2⟩ | ⟨a1, _⟩
    · exact Or.inl ⟨Or.inl hW, r1, r2 ▸ h⟩
    · exact absurd rfl a1
/-! nobodySteps -/
theorem TRI.fen (h : TRI T P0 PI B (-1) [] P M) (hv : ∀ j, j < 1536 → rN M 128 j = -1) (hc : inC P c) : TRI T P0 PI B (-1) [] (layP P c 6) (X_10 M 243 c 6) ∧ (∀ j, j < 1536 → rN (X_10 M 243 c 6) 128 j = -1) ∧ FZ triF triW triO M (X_10 M 243 c 6) := by
  obtain ⟨hC, hX, hl, hD, hK, hE, hf⟩ := h
  obtain ⟨x1, x2, x3⟩ := x10_ok (k := 6) hX.sq hX.ld hX.cel hX.wh hc
  have hs : hiS P (layP P c 6) := lay_hi
  have e0 := hs 0 (by decide)
  have e1 := hs 1 (by decide)
  have hE2 : okE B (layP P c 6) := hE.lay hc (by unfold inX; decide)
  have lan : LAN 243 (layP P c 6) (X_10 M 243 c 6) := (hX.lan hl).hi x3 hs (fun a q => by omega) x2 hD hK.2.1
  have hv2 : ∀ j, j < 1536 → rN (X_10 M 243 c 6) 128 j = -1 := fun j hj => (x3.rn (by omega)).trans (hv j hj)
  obtain ⟨s1, s2⟩ := hX.new x1 (x3.more (fun _ _ q => q.elim) (fun a q => by unfold cpW; omega) (fun _ q => q)) lan e0 e1 hE2.nn hv2
  have f2 : FZ triF triW triO M (X_10 M 243 c 6) := x3.more (fun _ _ q => q.elim) (fun a q => by unfold triW; omega) (fun _ q => q.elim)
  exact ⟨⟨hC.tri f2 (hC.2.2.2.2.1.fz x3 (fun q => q) (fun q => q) (fun a _ _ => by omega)) s1, s1, s2, hs.D hD, hs.K hK, hE2, ⟨(x3.fi (fun q => q)).trans hf.1, (x3.fi (fun q => q)).trans hf.2⟩⟩, hv2, f2⟩
theorem STA.f9 (h : STA L T P M) (hD : okD P) : STA L T P (wF M 104 9 x) := by
  have hF : FZ (fun a k => a = 104 ∧ k = 9) noO noO M (wF M 104 9 x) := FZ.wF (F := fun a k => a = 104 ∧ k = 9) ⟨rfl, rfl⟩
  have hl := ld_cases h.ld
  obtain ⟨a1, a2, a3, a4, a5, a6, a7⟩ := h
  have ok : okF L (fun a k => a = 104 ∧ k = 9) noO noO := ⟨⟨by omega, by omega⟩, fun t ht => ⟨fun k q => by have := tx_cases ht; omega, fun _ _ _ q => q⟩, ⟨fun q => q, fun q => q⟩, fun q => q, fun q => q, fun q => q⟩
  have cr : ∀ c, inC P c → rI (wF M 104 9 x) (L + 8) c = crdP P c (P 157).toInt.toNat := fun c hc => (hF.rn (fun q => q)).trans (a1.2.2.2.2.2.2.2 c hc)
  have lc : LCel L P (wF M 104 9 x) := fun k f hk hf => rN_wF.trans (a1.1.2.2.2.2.2.2 k f hk hf)
  exact ⟨a1.mv a1.1.1.kf hF ok lc rfl rfl a1.2.2.1 cr, a2.mv rfl rfl (fun _ _ => rfl) (fun b j _ => rN_wF), a3.mv hF (by omega) (by omega) (by omega) (by omega) (fun k f _ => by omega) (fun q => q) (fun _ _ => rfl) hD.2.1.2.1 hD.2.2.2.1, ⟨(hF.fi (by omega)).trans a4.1, (hF.fi (by omega)).trans a4.2.1, (hF.fi (by omega)).trans a4.2.2.1, (hF.fi (by omega)).trans a4.2.2.2⟩, fun k hk => (hF.on (fun q => q)).trans (a5 k hk), a6.on (fun j => hF.on (fun q => q)), (hF.fi (by omega)).trans a7⟩
theorem nbs_ok (h : CST T P PI M) (ha : a = -1 ∨ inC P a) (hb : b = -1 ∨ inC P b) (ht : t.toInt = (n : Int)) (hn : n ≤ 100) (H : Ev none e 111 0 [some (.ref 0), some (.int c), some (.int t), some (.int a), some (.int b)] [] M v M' 0 0) : v = some (.int (bI (!trodB T P c n a b))) ∧ CST T P PI M' ∧ FZ triF triW triO M M' := by
  obtain ⟨e1, v1, M1, _, H1, H⟩ := nbs_0 h.sq H
  obtain ⟨rv1, q1, qv, qF⟩ := opcT_ok h H1
  rw [rv1] at H
  have hm1 : ∀ (R : PK) (z : Int32), z = -1 → ¬ inC R z := fun R z hz q => by
    have := q.1
    rw [hz] at this
    exact absurd this (by decide)
  have nn : ∀ (R : PK) (z : Int32), (z = -1 ∨ inC R z) → (inC R z ↔ (0 : Int32) ≤ z) := fun R z hz => by
    have z0 : (0 : Int32).toInt = 0 := rfl
    have zm : (-1 : Int32).toInt = -1 := rfl
    rw [Int32.le_iff_toInt_le]
    constructor
    · intro q
      have := q.1
      omega
    · intro q
      exact hz.resolve_left (fun r => by rw [r] at q; omega)
  have ic : ∀ {N : Mem} {z : Int32} {ee : Nat} {vv : Option Value} {MM : Mem}, CST T P PI N → Ev none ee 127 0 [some (.ref 0), some (.int z)] [] N vv MM 0 0 → MM = N ∧ ∃ r, vv = some (.int r) ∧ (r = 0 ↔ ¬ inC P z) := fun {N z ee vv MM} hN HH => by
    obtain ⟨rv, rm⟩ := isc_0 hN.sq hN.ld HH
    exact ⟨rm, _, rv, isc_ok hN.lan hN.ok.1.1⟩
  obtain ⟨e2, v2, M2, _, H2, H⟩ := nbs_4 q1.2.1.sq H
  obtain ⟨rm2, r2, rv2, hr2⟩ := ic q1.1 H2
  rw [rv2, rm2] at H
  have s1 : ∃ M3, TRI T P PI (60 * (P 518).toInt.toNat) (-1) [] (fen1 P a) M3 ∧ (∀ j, j < 1536 → rN M3 128 j = -1) ∧ FZ triF triW triO M1 M3 ∧ Ev none e 111 22 [some (.ref 0), some (.int c), some (.int t), some (.int a), some (.int b)] [] M3 v M' 0 0 := by
    unfold fen1
    rcases nbs_9 q1.2.1.sq q1.1.2.1.2.1 H with ⟨a1, H⟩ | ⟨a1, H⟩
    · rw [hr2, nn P a ha] at a1
      rw [if_neg a1]
      exact ⟨M1, q1, qv, FZ.refl _, H⟩
    · rw [hr2, Classical.not_not] at a1
      rw [if_pos ((nn P a ha).mp a1)]
      obtain ⟨u1, u2, u3⟩ := q1.fen qv a1
      exact ⟨_, u1, u2, u3, H⟩
  obtain ⟨M3, s1, sv, sF, H⟩ := s1
  obtain ⟨e4, v4, M4, _, H4, H⟩ := nbs_22 s1.2.1.sq H
  obtain ⟨rm4, r4, rv4, hr4⟩ := ic s1.1 H4
  rw [rv4, rm4] at H
  have lo1 : hiS P (fen1 P a) := fen1_lo
  have s5 : ∃ M5, TRI T P PI (60 * (P 518).toInt.toNat) (-1) [] (fenP P a b) M5 ∧ FZ triF triW triO M3 M5 ∧ Ev none e 111 42 [some (.ref 0), some (.int c), some (.int t), some (.int a), some (.int b)] [] M5 v M' 0 0 := by
    unfold fenP
    rcases nbs_28 s1.2.1.sq s1.1.2.1.2.1 H with ⟨a1, H⟩ | ⟨a1, H⟩
    · rw [hr4, nn P b hb] at a1
      rw [show fen1 (fen1 P a) b = fen1 P a from if_neg a1]
      exact ⟨M3, s1, FZ.refl _, H⟩
    · rw [hr4, Classical.not_not] at a1
      rw [show fen1 (fen1 P a) b = layP (fen1 P a) b 6 from if_pos ((nn P b hb).mp a1)]
      obtain ⟨u1, u2, u3⟩ := s1.fen sv ((inC.hi lo1).mpr a1)
      exact ⟨_, u1, u3, H⟩
  obtain ⟨M5, s5, sF5, H⟩ := s5
  obtain ⟨e6, v6, M6, _, H6, H⟩ := nbs_42 s5.2.1.sq H
  obtain ⟨hC5, hX5, hl5, hD5, hK5, hE5, hf5⟩ := s5
  have F9 : FZ (fun a k => a = 104 ∧ k = 9) noO noO M5 (wF M5 104 9 c) := FZ.wF (F := fun a k => a = 104 ∧ k = 9) ⟨rfl, rfl⟩
  have hX6 := hX5.f9 (x := c) hD5
  have lan6 : LAN 243 (fenP P a b) (wF M5 104 9 c) := (hX5.lan hl5).fz F9 (fun a k h1 h2 => by omega) (fun _ _ _ q => q) (fun q => q) hX5.2.2.2.2.2.1 hD5.2.2.2.1 hK5.2.1
  have hf6 : WFl c [] (wF M5 104 9 c) := ⟨fI_wF_eq hX5.sq.1 qa_104 qi_22_9, by rw [fI_wF_ne (by omega), hf5.2, decide_eq_false (by simp), decide_eq_false (by simp)]⟩
  have hbud := h.ok.bud
  obtain ⟨P6, ss6, g1, rv6, w1, w2, w3, w4, w5, w6, w7, w8, w9⟩ := gow_ok hX6 hD5 hK5 hE5 (r := n) (by omega) lan6.2.2.2.1 hf6 ht H6
  rw [rv6] at H
  have c5 : CST T P PI (wF M5 104 9 c) := hC5.tri (F9.more (fun a k q => by unfold triF; omega) (fun _ q => q.elim) (fun _ q => q.elim)) (hC5.2.2.2.2.1.fz F9 (by omega) (by omega) (fun _ _ _ q => q)) hX6
  have c6 := tri_F w7 c5 w1
  have FF : FZ triF triW triO M M6 := (((qF.trans sF).trans sF5).trans (F9.more (fun a k q => by unfold triF; omega) (fun _ q => q.elim) (fun _ q => q.elim))).trans (gw_tri w7)
  have et : trodB T P c n a b = decide (c ∈ ss6) := by unfold trodB; rw [g1]
  rw [et]
  have z10 : zI M6 104 10 = bI (decide (c ∈ ss6)) := w6.2
  rcases nbs_58 w1.sq H with ⟨a1, u1, u2⟩ | ⟨a1, u1, u2⟩
  · rw [z10, bI_0] at a1
    rw [u1, u2, a1]
    exact ⟨rfl, c6, FF⟩
  · rw [z10, bI_0, Bool.not_eq_false] at a1
    rw [u1, u2, a1]
    exact ⟨rfl, c6, FF⟩
end CFEN
