/-! THE CLASS'S door, wish, drop, snow -/
section CDOR
variable {e B L : Nat} {T : TS} {P P' Q : PK} {PI : Nat → PK} {M M1 M' : Mem} {v : Option Value} {c k d x a b h ev fi t : Int32} {n i j : Nat}
theorem CST.sq (h : CST T P PI M) : SQ M := h.1
theorem CST.ld (h : CST T P PI M) : fR M 0 2 = 8 := h.2.1.1
theorem CST.ok (h : CST T P PI M) : okA P := h.2.2.2.2.2.2.1.1
theorem CST.lan (h : CST T P PI M) : LAN 8 P M := h.2.2.2.2.2.2.1.2
theorem CST.wx (h : CST T P PI M) : WXr 8 M := (h.2.2.2.2.2.1 8 lnd_8).1
theorem CST.wk (h : CST T P PI M) : WKs 8 M := (h.2.2.2.2.2.1 8 lnd_8).2
theorem door_ok (h : CST T P PI M) (H : Ev none e 84 0 [some (.ref 0), some (.int c)] [] M v M' 0 0) : (dorN P c ∧ v = some (.int (-1)) ∧ M' = M) ∨ (¬ dorN P c ∧ v = some (.int (P 2)) ∧ CST T (dorP P c) PI M') := by
  have hS := h.sq
  have hA := h.lan
  have hD := h.ok.1
  have hw := hD.1
  have z11 : zI M 8 11 = P 2 := hA.1.2.2.1.1
  unfold dorN
  rcases dor_0 hS h.ld H with ⟨a1, r1, r2⟩ | ⟨a1, e1, v1, M1, _, H1, H⟩
  · rw [z11] at a1
    exact Or.inl ⟨Or.inl a1, r1, r2⟩
  · rw [z11] at a1
    obtain ⟨rv, rm⟩ := isc_0 hS h.ld H1
    rw [rv, rm] at H
    rcases dor_17 hS h.ld H with ⟨a2, q1, q2⟩ | ⟨a2, a3, q1, q2⟩ | ⟨a2, a3, e2, v2, M2, _, H2, H⟩
    · rw [isc_ok hA hw] at a2
      exact Or.inl ⟨Or.inr (Or.inl a2), q1, q2⟩
    · rw [isc_ok hA hw, Classical.not_not] at a2
      rw [g7L hA.2.2.1 a2, bI_0] at a3
      exact Or.inl ⟨Or.inr (Or.inr (Or.inl a3)), q1, q2⟩
    · rw [isc_ok hA hw, Classical.not_not] at a2
      rw [g7L hA.2.2.1 a2, bI_0] at a3
      obtain ⟨rm2, rv2⟩ := hsd_ok hS lnd_8 hA hD H2
      rw [rv2, rm2] at H
      rcases dor_39 hS h.ld H with ⟨a4, _, q1, q2⟩ | ⟨a4, q1, q2⟩
      · rw [bI_0] at a4
        rw [z11] at q1 q2
        obtain ⟨b1, b2, b3, b4⟩ := hD.dor a1 a2
        have b0 := hD.2.1.1
        have b9 := hD.2.1.2.1
        have t9 : (9 : Int32).toInt = 9 := rfl
        have n9 : (P 2).toInt ≠ 9 := fun q => a1 (Int32.toInt_inj.mp (q.trans t9.symm))
        obtain ⟨m, em⟩ : ∃ m, m = (P 2).toInt.toNat := ⟨_, rfl⟩
        have ix : (P 2).toNatClampNeg = m := cl_n (by omega)
        rw [ix] at q2
        have hF : FZ (fun a k => a = 8 ∧ k = 11) (fun a => a = 17) noO M M' := by
          rw [q2]
          exact (FZ.wI (F := fun a k => a = 8 ∧ k = 11) (W := fun a => a = 17) rfl).trans (FZ.wF ⟨rfl, rfl⟩)
        have S' : SQ M' := by rw [q2]; exact hS.ki.kf
        have d2 : dorP P c 2 = P 2 + 1 := up_eq
        have d2i : (dorP P c 2).toInt = (P 2).toInt + 1 := by rw [d2]; exact i32_p1 (by omega)
        refine Or.inr ⟨fun q => ?_, q1, h.live S' (hF.more (fun a k q => by unfold cpF; omega) (fun a q => by unfold cpW; omega) (fun _ q => q)) (h.ok.lo b1 (h.ok.2.1.wis b3 b4 (by rw [b2 12 (by decide)]; omega) (fun j hj => b2 j (by omega))) b3 b4 (fun j hj => b2 j (by omega))) (hA.lo hF b3 b4 (fun j hj => b2 j (by omega)) (fun a k _ _ q => Or.inl ⟨q.1, Or.inl q.2⟩) (fun a q => Or.inl q) (fun q => q) h.wk h.ok.k60 ⟨?_, fun d hd => ?_⟩ ⟨?_, fun k hk f hf => ?_⟩)⟩
        · rcases q with q | q | q | q
          · exact a1 q
          · exact q a2
          · exact a3 q
          · rw [a4] at q; cases q
        · rw [d2, q2]
          exact fI_wF_eq hS.ki.1 lnd_8 qi_8_11
        · rw [q2, rN_wF]
          unfold dorP
          rw [← em, up_ne (by omega)]
          by_cases hdm : d = m
          · rw [hdm, up_eq]
            exact rN_wI_eq (by rw [(hS.1.row (fx_h10 lnd_8) qw_17).2]; omega)
          · rw [up_ne (by omega), rN_wI_ne (by omega)]
            exact hA.1.2.2.1.2 d (by omega)
        · rw [b2 12 (by decide), hF.fi (by omega)]
          exact hA.1.2.2.2.1
        · rw [b2 12 (by decide)] at hk
          rw [b2 _ (by omega), hF.fi (by omega)]
          exact hA.1.2.2.2.2 k hk f hf
      · rw [bI_0, Bool.not_eq_false] at a4
        exact Or.inl ⟨Or.inr (Or.inr (Or.inr a4)), q1, q2⟩
theorem wx_oI (hx : WXr L M) {kz : Int32} (h0 : 0 ≤ kz.toInt) (h1 : kz.toInt < 24) : oI M (L + 10) kz = L + 12 + kz.toInt.toNat := by
  unfold oI
  rw [cl_n (kn := kz.toInt.toNat) (by omega)]
  exact hx _ (by omega)
theorem isw_ok (h : CST T P PI M) (H : Ev none e 130 0 [some (.ref 0), some (.int k)] [] M v M' 0 0) : M' = M ∧ ((isW P k ∧ v = some (.int 1)) ∨ (¬ isW P k ∧ v = some (.int 0))) := by
  have hS := h.sq
  have hA := h.lan
  have hD := h.ok.1
  have z13 : zI M 8 13 = P 12 := hA.1.2.2.2.1
  have b0 := hD.2.2.1
  have b24 := hD.2.2.2.1
  have e1 : (P 12 - 1).toInt = (P 12).toInt - 1 := i32_m1 (by omega)
  have t0 : (0 : Int32).toInt = 0 := rfl
  unfold isW
  rcases isw_0 hS h.ld H with ⟨a1, r1, r2⟩ | ⟨a1, a2, _, r1, r2⟩ | ⟨a1, a2, _, r1, r2⟩
  · rw [z13, g126_R] at a1
    unfold inX at a1
    rw [e1, t0] at a1
    exact ⟨r2, Or.inr ⟨fun q => a1 ⟨q.1.1, by omega⟩, r1⟩⟩
  · rw [z13, g126_R, Classical.not_not] at a1
    unfold inX at a1
    rw [e1, t0] at a1
    rw [wx_oI h.wx (by omega) (by omega), hA.1.2.2.2.2 _ (by omega) 5 (by decide)] at a2
    exact ⟨r2, Or.inr ⟨fun q => by rw [q.2] at a2; exact absurd a2 (by decide), r1⟩⟩
  · rw [z13, g126_R, Classical.not_not] at a1
    unfold inX at a1
    rw [e1, t0] at a1
    rw [wx_oI h.wx (by omega) (by omega), hA.1.2.2.2.2 _ (by omega) 5 (by decide)] at a2
    rcases (hD.2.2.2.2 k.toInt.toNat (by omega)).2.2.2.2 with q | q
    · exact absurd q a2
    · exact ⟨r2, Or.inl ⟨⟨⟨by omega, by omega⟩, q⟩, r1⟩⟩
theorem wi_t' (hS : SH M) (hx : WXr 8 M) {k : Nat} (hk : k < 24) : gNth sT (8 + 12 + k) = some 20 := wi_t hS lnd_8 hx hk
theorem drop_ok (h : CST T P PI M) (H : Ev none e 90 0 [some (.ref 0), some (.int k)] [] M v M' 0 0) : (¬ isW P k ∧ v = some (.int 0) ∧ M' = M) ∨ (isW P k ∧ v = some (.int 1) ∧ CST T (drpP P k) PI M') := by
  have hS := h.sq
  have hA := h.lan
  have hD := h.ok.1
  obtain ⟨e1, v1, M1, _, H1, H⟩ := drp_0 hS h.ld H
  obtain ⟨rm, rv⟩ := isw_ok h H1
  rw [rm] at H
  rcases rv with ⟨hW, rv⟩ | ⟨hW, rv⟩
  · rw [rv] at H
    rcases drp_5 hS h.ld H with ⟨a1, _⟩ | ⟨_, _, r1, r2⟩
    · exact absurd a1 (by decide)
    · obtain ⟨m, em⟩ : ∃ m, m = k.toInt.toNat := ⟨_, rfl⟩
      have w1 := hW.1
      have b24 := hD.2.2.2.1
      rw [wx_oI h.wx (by omega) (by omega), ← em] at r2
      obtain ⟨b1, b2⟩ := hD.drp (k := k) w1
      rw [← em] at b2
      have hF : FZ (fun a f => a = 8 + 12 + m ∧ f = 5) noO noO M M' := by
        rw [r2]
        exact FZ.wF (F := fun a f => a = 8 + 12 + m ∧ f = 5) ⟨rfl, rfl⟩
      have S' : SQ M' := by rw [r2]; exact hS.kf
      have b3 := b2 0 (by omega)
      have b4 := b2 1 (by omega)
      refine Or.inr ⟨hW, r1, h.live S' (hF.more (fun a k q => by unfold cpF; omega) (fun a q => q.elim) (fun _ q => q)) (h.ok.lo b1 (h.ok.2.1.wis b3 b4 (by rw [b2 12 (by omega)]; omega) (fun j hj => b2 j (by omega))) b3 b4 (fun j hj => b2 j (by omega))) (hA.lo hF b3 b4 (fun j hj => b2 j (by omega)) (fun a k _ _ q => Or.inr (by omega)) (fun a q => q.elim) (fun q => q) h.wk h.ok.k60 ⟨?_, fun d hd => ?_⟩ ⟨?_, fun i hi f hf => ?_⟩)⟩
      · rw [b2 2 (by omega), hF.fi (by omega)]
        exact hA.1.2.2.1.1
      · rw [b2 2 (by omega)] at hd
        have := hD.2.1.2.1
        rw [b2 _ (by omega)]
        exact (hF.rn (fun q => q)).trans (hA.1.2.2.1.2 d hd)
      · rw [b2 12 (by omega), hF.fi (by omega)]
        exact hA.1.2.2.2.1
      · rw [b2 12 (by omega)] at hi
        by_cases hif : i = m ∧ f = 5
        · rw [hif.1, hif.2, r2]
          have e5 : drpP P k (13 + 6 * m + 5) = 0 := by rw [em]; exact up_eq
          rw [e5]
          exact fI_wF_eq hS.1 (wi_t' hS.1 h.wx (by omega)) qi_20_5
        · rw [b2 _ (by omega), hF.fi (by omega)]
          exact hA.1.2.2.2.2 i hi f hf
  · rw [rv] at H
    rcases drp_5 hS h.ld H with ⟨_, r1, r2⟩ | ⟨a1, _⟩
    · exact Or.inl ⟨hW, r1, r2⟩
    · exact absurd rfl a1
end CDOR
