/-! THE CLASS'S wish, lay -/
section CWIS
variable {e B L : Nat} {T : TS} {P P' Q : PK} {PI : Nat → PK} {M M1 M' : Mem} {v : Option Value} {c k d x a b h ev fi t : Int32} {n i j : Nat}
theorem isd_ok (hC : CST T P PI M) : G_126 M d 0 (zI M 8 11 - 1) = 0 ↔ ¬ inD P d := by
  have hD := hC.ok.1
  have z11 : zI M 8 11 = P 2 := hC.lan.1.2.2.1.1
  have h0 := hD.2.1.1
  have e1 : (P 2 - 1).toInt = (P 2).toInt - 1 := i32_m1 (by omega)
  have t0 : (0 : Int32).toInt = 0 := rfl
  rw [z11, g126_R]
  unfold inX inD
  rw [e1, t0]
  exact ⟨fun q r => q ⟨r.1, by omega⟩, fun q r => q ⟨r.1, by omega⟩⟩
theorem twd_ok (hC : CST T P PI M) (H : Ev none e 129 0 [some (.ref 0), some (.int a), some (.int b)] [] M v M' 0 0) : M' = M ∧ ((inD P a ∧ inD P b ∧ ¬ a = b ∧ v = some (.int 1)) ∨ ((¬ inD P a ∨ ¬ inD P b ∨ a = b) ∧ v = some (.int 0))) := by
  have hS := hC.sq
  obtain ⟨e1, v1, M1, _, H1, H⟩ := twd_0 hS hC.ld H
  obtain ⟨rv, rm⟩ := isd_0 hS hC.ld H1
  rw [rv, rm] at H
  rcases twd_5 hS hC.ld H with ⟨a1, r1, r2⟩ | ⟨a1, e2, v2, M2, _, H2, H⟩
  · rw [isd_ok hC] at a1
    exact ⟨r2, Or.inr ⟨Or.inl a1, r1⟩⟩
  · rw [isd_ok hC, Classical.not_not] at a1
    obtain ⟨rv, rm⟩ := isd_0 hS hC.ld H2
    rw [rv, rm] at H
    rcases twd_13 hS hC.ld H with ⟨a2, r1, r2⟩ | ⟨a2, a3, r1, r2⟩ | ⟨a2, a3, r1, r2⟩
    · rw [isd_ok hC] at a2
      exact ⟨r2, Or.inr ⟨Or.inr (Or.inl a2), r1⟩⟩
    · exact ⟨r2, Or.inr ⟨Or.inr (Or.inr a3), r1⟩⟩
    · rw [isd_ok hC, Classical.not_not] at a2
      exact ⟨r2, Or.inl ⟨a1, a2, a3, r1⟩⟩
theorem wish_ok (hC : CST T P PI M) (H : Ev none e 89 0 [some (.ref 0), some (.int a), some (.int b), some (.int h), some (.int ev), some (.int fi), none] [] M v M' 0 0) : (wisN P a b h ev fi ∧ v = some (.int (-1)) ∧ M' = M) ∨ (¬ wisN P a b h ev fi ∧ v = some (.int (P 12)) ∧ CST T (wisP P a b h ev fi) PI M') := by
  have hS := hC.sq
  have hA := hC.lan
  have hD := hC.ok.1
  have z13 : zI M 8 13 = P 12 := hA.1.2.2.2.1
  have b0 := hD.2.2.1
  have b24 := hD.2.2.2.1
  unfold wisN
  rcases wis_0 hS hC.ld H with ⟨a1, r1, r2⟩ | ⟨a1, e1, v1, M1, _, H1, H⟩
  · rw [z13] at a1
    exact Or.inl ⟨Or.inl a1, r1, r2⟩
  · rw [z13] at a1
    obtain ⟨rm, rv⟩ := twd_ok hC H1
    rw [rm] at H
    rcases rv with ⟨ia, ib, nab, rv⟩ | ⟨no, rv⟩
    · rw [rv] at H
      rcases wis_18 hS hC.ld H with ⟨q, _⟩ | ⟨_, a2, r1, r2⟩ | ⟨_, _, a2, r1, r2⟩ | ⟨_, _, _, a2, r1, r2⟩ | ⟨_, a2, a3, a4, _, H⟩
      · exact absurd q (by decide)
      · rw [g126_R] at a2
        exact Or.inl ⟨Or.inr (Or.inr (Or.inr (Or.inr (Or.inl a2)))), r1, r2⟩
      · rw [g126_R] at a2
        exact Or.inl ⟨Or.inr (Or.inr (Or.inr (Or.inr (Or.inr (Or.inl a2))))), r1, r2⟩
      · rw [g126_R] at a2
        exact Or.inl ⟨Or.inr (Or.inr (Or.inr (Or.inr (Or.inr (Or.inr a2))))), r1, r2⟩
      · rw [g126_R, Classical.not_not] at a2 a3 a4
        have t24 : (24 : Int32).toInt = 24 := rfl
        have n24 : (P 12).toInt ≠ 24 := fun q => a1 (Int32.toInt_inj.mp (q.trans t24.symm))
        obtain ⟨m, em⟩ : ∃ m, m = (P 12).toInt.toNat := ⟨_, rfl⟩
        rw [z13, wx_oI hC.wx (by omega) (by omega), ← em] at H
        have tx := wi_t' hS.1 hC.wx (k := m) (by omega)
        obtain ⟨r1, r2⟩ := wis_74 hS tx hC.ld H
        rw [z13] at r1 r2
        obtain ⟨b1, b2, b3, b4⟩ := hD.wis a1 ia ib a2 a3 (fi := fi)
        have d12 : (wisP P a b h ev fi 12).toInt = (P 12).toInt + 1 := by rw [b3]; exact i32_p1 (by omega)
        have e0 := b4 0 (by decide)
        have e1' := b4 1 (by decide)
        have hF : FZ (fun a k => a = 8 + 12 + m ∨ (a = 8 ∧ k = 13)) noO noO M M' := by
          rw [r2]
          exact ((((((FZ.wF (F := fun a k => a = 8 + 12 + m ∨ (a = 8 ∧ k = 13)) (Or.inl rfl)).trans (FZ.wF (Or.inl rfl))).trans (FZ.wF (Or.inl rfl))).trans (FZ.wF (Or.inl rfl))).trans (FZ.wF (Or.inl rfl))).trans (FZ.wF (Or.inl rfl))).trans (FZ.wF (Or.inr ⟨rfl, rfl⟩))
        have S' : SQ M' := by rw [r2]; exact hS.kf.kf.kf.kf.kf.kf.kf
        refine Or.inr ⟨fun q => ?_, r1, hC.live S' (hF.more (fun a k q => by unfold cpF; omega) (fun a q => q.elim) (fun _ q => q)) (hC.ok.lo b1 (hC.ok.2.1.wis e0 e1' (by omega) b2) e0 e1' (fun j hj => b2 j (by omega))) (hA.lo hF e0 e1' b2 (fun a k _ _ q => by omega) (fun a q => q.elim) (fun q => q) hC.wk hC.ok.k60 ⟨?_, fun d hd => ?_⟩ ⟨?_, fun i hi f hf => ?_⟩)⟩
        · rcases q with q | q | q | q | q | q | q
          · exact a1 q
          · exact q ia
          · exact q ib
          · exact nab q
          · exact q a2
          · exact q a3
          · exact q a4
        · rw [b4 2 (by decide), hF.fi (by omega)]
          exact hA.1.2.2.1.1
        · rw [b4 2 (by decide)] at hd
          have := hD.2.1.2.1
          rw [b4 _ (by omega)]
          exact (hF.rn (fun q => q)).trans (hA.1.2.2.1.2 d hd)
        · rw [b3, r2]
          exact fI_wF_eq hS.kf.kf.kf.kf.kf.kf.1 lnd_8 qi_8_13
        · have hq : wisP P a b h ev fi (13 + 6 * i + f) = wiQ P m a b h ev fi (13 + 6 * i + f) := by
            rw [em]
            exact up_ne (by omega)
          rw [hq]
          by_cases him : i = m
          · rw [him]
            obtain ⟨i0, i1, i2, i3, i4, i5⟩ := wiQ_i (P := P) (k := m) (a := a) (b := b) (h := h) (ev := ev) (fi := fi)
            match f, hf with
            | 0, _ => rw [r2, fI_wF_ne (by omega), fI_wF_ne (by omega), fI_wF_ne (by omega), fI_wF_ne (by omega), fI_wF_ne (by omega), fI_wF_ne (by omega)]; exact (fI_wF_eq hS.1 tx qi_20_0).trans i0.symm
            | 1, _ => rw [r2, fI_wF_ne (by omega), fI_wF_ne (by omega), fI_wF_ne (by omega), fI_wF_ne (by omega), fI_wF_ne (by omega)]; exact (fI_wF_eq hS.kf.1 tx qi_20_1).trans i1.symm
            | 2, _ => rw [r2, fI_wF_ne (by omega), fI_wF_ne (by omega), fI_wF_ne (by omega), fI_wF_ne (by omega)]; exact (fI_wF_eq hS.kf.kf.1 tx qi_20_2).trans i2.symm
            | 3, _ => rw [r2, fI_wF_ne (by omega), fI_wF_ne (by omega), fI_wF_ne (by omega)]; exact (fI_wF_eq hS.kf.kf.kf.1 tx qi_20_3).trans i3.symm
            | 4, _ => rw [r2, fI_wF_ne (by omega), fI_wF_ne (by omega)]; exact (fI_wF_eq hS.kf.kf.kf.kf.1 tx qi_20_4).trans i4.symm
            | 5, _ => rw [r2, fI_wF_ne (by omega)]; exact (fI_wF_eq hS.kf.kf.kf.kf.kf.1 tx qi_20_5).trans i5.symm
          · rw [wiQ_o (by omega), hF.fi (by omega)]
            exact hA.1.2.2.2.2 i (by omega) f hf
    · rw [rv] at H
      rcases wis_18 hS hC.ld H with ⟨_, r1, r2⟩ | ⟨q, _⟩ | ⟨q, _⟩ | ⟨q, _⟩ | ⟨q, _⟩
      · refine Or.inl ⟨?_, r1, r2⟩
        rcases no with q | q | q
        · exact Or.inr (Or.inl q)
        · exact Or.inr (Or.inr (Or.inl q))
        · exact Or.inr (Or.inr (Or.inr (Or.inl q)))
      all_goals exact absurd rfl q
theorem lay_ok (hC : CST T P PI M) (H : Ev none e 95 0 [some (.ref 0), some (.int c), some (.int k)] [] M v M' 0 0) : (layN P c k ∧ v = some (.int 0) ∧ M' = M) ∨ (¬ layN P c k ∧ v = some (.int 1) ∧ CST T (layP P c k) PI M') := by
  have hS := hC.sq
  have hA := hC.lan
  have hD := hC.ok.1
  have hw := hD.1
  have hK := hC.ok.2.1
  have fin : inC P c → inX k 0 6 → M' = X_10 M 8 c k → CST T (layP P c k) PI M' := fun ic ik r2 => by
    obtain ⟨x1, x2, x3⟩ := x10_ok (k := k) hS lnd_8 hA.2.2.1 hw ic
    rw [r2]
    exact hC.hi x1 x3 (fun a q => by omega) lay_hi x2 (hC.ok.2.2.2.lay ic ik)
  obtain ⟨e1, v1, M1, _, H1, H⟩ := lay_0 hS hC.ld H
  obtain ⟨rv, rm⟩ := isc_0 hS hC.ld H1
  rw [rv, rm] at H
  have dr : ∀ M2 v2 e2, (k = 3 ∨ k = 6) → inC P c → inX k 0 6 → Ev none e2 9 0 [some (.ref 8), some (.int c), none] [] M v2 M2 0 0 → Ev none e 95 39 [some (.ref 0), some (.int c), some (.int k)] (v2.toList ++ []) M2 v M' 0 0 → (layN P c k ∧ v = some (.int 0) ∧ M' = M) ∨ (¬ layN P c k ∧ v = some (.int 1) ∧ CST T (layP P c k) PI M') := fun M2 v2 e2 hk ic ik H2 H => by
    obtain ⟨rm2, rv2⟩ := hsd_ok hS lnd_8 hA hD H2
    rw [rv2, rm2] at H
    have hcr : rI M (8 + 8) c = crdP P c (P 157).toInt.toNat := hA.2.2.2.2 c ic
    have z0 : (0 : Int32).toInt = 0 := rfl
    rcases lay_39 hS hC.ld H with ⟨a1, a2, _, r1, r2⟩ | ⟨a1, a2, _, r1, r2⟩ | ⟨a1, r1, r2⟩
    · rw [bI_0] at a1
      rw [hcr] at a2
      have a2 := Int32.le_iff_toInt_le.mp a2
      refine Or.inr ⟨fun q => ?_, r1, fin ic ik r2⟩
      rcases q with q | q | ⟨_, q | q⟩
      · exact q ic
      · exact q ik
      · rw [a1] at q; cases q
      · rw [← wth_crd hK.2.1] at q
        have := Int32.lt_iff_toInt_lt.mp q
        omega
    · rw [hcr] at a2
      have a2' : ¬ (crdP P c (P 157).toInt.toNat).toInt ≤ (0 : Int32).toInt := fun s => a2 (Int32.le_iff_toInt_le.mpr s)
      have hp : 0 < crdP P c (P 157).toInt.toNat := Int32.lt_iff_toInt_lt.mpr (by omega)
      exact Or.inl ⟨Or.inr (Or.inr ⟨hk, Or.inr ((wth_crd hK.2.1).mp hp)⟩), r1, r2⟩
    · rw [bI_0, Bool.not_eq_false] at a1
      exact Or.inl ⟨Or.inr (Or.inr ⟨hk, Or.inl a1⟩), r1, r2⟩
  rcases lay_5 hS hC.ld H with ⟨a1, r1, r2⟩ | ⟨a1, a2, r1, r2⟩ | ⟨a1, a2, a3, e2, v2, M2, _, H2, H⟩ | ⟨a1, a2, _, a3, e2, v2, M2, _, H2, H⟩ | ⟨a1, a2, a3, a4, r1, r2⟩
  · rw [isc_ok hA hw] at a1
    exact Or.inl ⟨Or.inl a1, r1, r2⟩
  · rw [g126_R] at a2
    exact Or.inl ⟨Or.inr (Or.inl a2), r1, r2⟩
  · rw [isc_ok hA hw, Classical.not_not] at a1
    rw [g126_R, Classical.not_not] at a2
    exact dr _ _ _ (Or.inl a3) a1 a2 H2 H
  · rw [isc_ok hA hw, Classical.not_not] at a1
    rw [g126_R, Classical.not_not] at a2
    exact dr _ _ _ (Or.inr a3) a1 a2 H2 H
  · rw [isc_ok hA hw, Classical.not_not] at a1
    rw [g126_R, Classical.not_not] at a2
    refine Or.inr ⟨fun q => ?_, r1, fin a1 a2 r2⟩
    rcases q with q | q | ⟨q | q, _⟩
    · exact q a1
    · exact q a2
    · exact a3 q
    · exact a4 q
end CWIS
