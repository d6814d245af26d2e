/-! THE CLASS'S begin: those due in a TICK -/
section BEG
variable {e L : Nat} {T : TS} {P P' : PK} {M M1 M' : Mem} {v : Option Value} {c d : Int32} {n i k b B : Nat}
theorem due_ok (h : PKs L P M) (hx : WXr L M) (hD : okD P) (hk : k < (P 12).toInt.toNat) (ht : zI M L 16 = P 518) {kz : Int32} (hkz : kz.toInt = (k : Int)) : G_78 M (oI M (L + 10) kz) (zI M L 16) = bI (dueB P k) := by
  have h24 := hD.2.2.2.1
  have ho : oI M (L + 10) kz = L + 12 + k := by
    unfold oI
    rw [cl_n hkz]
    exact hx k (by omega)
  obtain ⟨_, _, _, hev, _⟩ := hD.2.2.2.2 k hk
  have f := fun f hf => h.2.2.2.2 k hk f hf
  have z0 : (0 : Int32).toInt = 0 := rfl
  unfold G_78 dueB remI
  rw [ho, ht, f 3 (by decide), f 4 (by decide), f 5 (by decide)]
  by_cases h5 : P (13 + 6 * k + 5) = 0
  · rw [if_pos h5, decide_eq_true h5]; rfl
  · rw [if_neg h5, decide_eq_false h5, if_neg (fun q => by have := Int32.le_iff_toInt_le.mp q; omega)]
    by_cases h4 : P 518 < P (13 + 6 * k + 4)
    · rw [if_pos h4, decide_eq_true h4]; rfl
    · rw [if_neg h4, decide_eq_false h4]
      by_cases hr : P 518 - P (13 + 6 * k + 4) - (P 518 - P (13 + 6 * k + 4)) / P (13 + 6 * k + 3) * P (13 + 6 * k + 3) = 0
      · rw [if_pos hr, decide_eq_true hr]; rfl
      · rw [if_neg hr, decide_eq_false hr]; rfl
def LST (L : Nat) (P : PK) (M : Mem) : Prop := zI M L 15 = P 157 ∧ ∀ k, k < (P 157).toInt.toNat → WFq (oN M (L + 11) k) P k M
theorem wi_t (hS : SH M) (hL : gNth sT L = some 8) (hx : WXr L M) (hk : k < 24) : gNth sT (L + 12 + k) = some 20 := by
  have h := ((hS.ror (fx_h12 hL) qz_18).2.2 k hk).2
  rw [hx k hk] at h
  exact h
/-- one more -/
theorem nwk_ok (h : STA L T P M) (hD : okD P) (hK : okK P) (hl : LST L P M) (hk : k < (P 12).toInt.toNat) (hm : ¬ P 157 = 60) {M1 M3 : Mem} (h1 : M1 = X_73w M (oN M (L + 11) (P 157).toInt.toNat) (P (3 + (P (13 + 6 * k)).toInt.toNat)) (nI k)) (h3 : M3 = wI (wF M1 L 15 (zI M1 L 15 + 1)) (L + 8) (P (3 + (P (13 + 6 * k)).toInt.toNat)).toNatClampNeg (rI M1 (L + 8) (P (3 + (P (13 + 6 * k)).toInt.toNat)) + 1)) : STA L T (newP P k) M3 ∧ okK (newP P k) ∧ LST L (newP P k) M3 ∧ FZ (gwF L) (gwW L) (gwO L) M M3 ∧ (∀ k, zI M3 104 k = zI M 104 k) ∧ fR M1 104 7 = L ∧ SQ M1 := by
  have hS := h.sq
  have hL := h.ld
  have hw := h.wh
  have hWK := h.2.2.2.2.2.1
  have hld := ld_cases hL
  obtain ⟨k0, k60, kk⟩ := hK
  have t60 : (60 : Int32).toInt = 60 := rfl
  have m59 : (P 157).toInt ≤ 59 := by
    have : (P 157).toInt ≠ 60 := fun q => hm (Int32.toInt_inj.mp (q.trans t60.symm))
    omega
  obtain ⟨m, em⟩ : ∃ m, m = (P 157).toInt.toNat := ⟨_, rfl⟩
  have emi : (P 157).toInt = (m : Int) := by omega
  obtain ⟨hfr, _, _, _, _⟩ := hD.2.2.2.2 k hk
  obtain ⟨to, et⟩ : ∃ x, x = P (3 + (P (13 + 6 * k)).toInt.toNat) := ⟨_, rfl⟩
  have hto : inC P to := by rw [et]; exact hD.2.1.2.2 _ (by omega)
  rw [← em, ← et] at h1
  rw [← et] at h3
  have hb := hWK.2 m (by omega)
  have hbt := wk_t hS.1 hL (j := m) (by omega)
  obtain ⟨b, eb⟩ : ∃ b, b = oN M (L + 11) m := ⟨_, rfl⟩
  rw [← eb] at hb hbt h1
  have hF1 : FZ (bF b) noO noO M M1 := by
    rw [h1]
    unfold X_73w
    exact ((((FZ.wF (F := bF b) rfl).trans (FZ.wF (F := bF b) rfl)).trans (FZ.wF (F := bF b) rfl)).trans (FZ.wF (F := bF b) rfl)).trans (FZ.wF (F := bF b) rfl)
  have hS1 : SQ M1 := by rw [h1]; exact X_73w_sx hS hbt
  have z1L : ∀ k, zI M1 L k = zI M L k := fun k => hF1.fi (by unfold bF; omega)
  have r1 : rI M1 (L + 8) to = crdP P to m := by
    have : rI M1 (L + 8) to = rI M (L + 8) to := hF1.rn (fun q => q)
    rw [this, em]
    exact h.crd to hto
  have b0 : zI M1 b 0 = to := by
    rw [h1]
    unfold X_73w
    rw [fI_wF_ne (fun q => absurd q.2 (by decide)), fI_wF_ne (fun q => absurd q.2 (by decide)), fI_wF_ne (fun q => absurd q.2 (by decide)), fI_wF_ne (fun q => absurd q.2 (by decide))]
    exact fI_wF_eq hS.1 hbt qi_21_0
  have b1 : zI M1 b 1 = nI k := by
    rw [h1]
    unfold X_73w
    rw [fI_wF_ne (fun q => absurd q.2 (by decide)), fI_wF_ne (fun q => absurd q.2 (by decide)), fI_wF_ne (fun q => absurd q.2 (by decide))]
    exact fI_wF_eq hS.kf.1 hbt qi_21_1
  have b2 : zI M1 b 2 = 0 := by
    rw [h1]
    unfold X_73w
    rw [fI_wF_ne (fun q => absurd q.2 (by decide)), fI_wF_ne (fun q => absurd q.2 (by decide))]
    exact fI_wF_eq hS.kf.kf.1 hbt qi_21_2
  have b3 : zI M1 b 3 = -1 := by
    rw [h1]
    unfold X_73w
    rw [fI_wF_ne (fun q => absurd q.2 (by decide))]
    exact fI_wF_eq hS.kf.kf.kf.1 hbt qi_21_3
  have b4 : zI M1 b 4 = -1 := by
    rw [h1]
    unfold X_73w
    exact fI_wF_eq hS.kf.kf.kf.kf.1 hbt qi_21_4
  have hF3 : FZ (fun a k => bF b a k ∨ (a = L ∧ k = 15)) (crO L) noO M M3 := by
    rw [h3]
    exact ((hF1.more (fun _ _ q => Or.inl q) (fun _ q => q.elim) (fun _ q => q)).trans (FZ.wF (Or.inr ⟨rfl, rfl⟩))).trans (FZ.wI rfl)
  have hS3 : SQ M3 := by rw [h3]; exact hS1.kf.ki
  have hgo : FZ (gwF L) (gwW L) (gwO L) M M3 := hF3.more (fun a k q => by
    rcases q with q | q
    · exact Or.inr (Or.inl (by have : a = b := q; omega))
    · exact Or.inl ⟨q.1, by omega⟩) (fun a q => Or.inl (by have : a = L + 8 := q; omega)) (fun _ q => q.elim)
  have zb : ∀ k, zI M3 b k = zI M1 b k := fun k => by rw [h3, fI_wI, fI_wF_ne (fun q => by have := q.1; omega)]
  obtain ⟨Q, eQ⟩ : ∃ Q, Q = newP P k := ⟨_, rfl⟩
  rw [← eQ]
  unfold newP at eQ
  rw [← em, ← et] at eQ
  have q157 : Q 157 = P 157 + 1 := by rw [eQ]; exact up_eq
  have q157i : (Q 157).toInt = (m : Int) + 1 := by
    rw [q157, i32_p1 (by omega)]
    omega
  have Qo : ∀ j, j ≠ 157 → (j < 158 + 6 * m ∨ 158 + 6 * m + 5 ≤ j) → Q j = P j := fun j j1 j2 => by
    rw [eQ, up_ne j1, up_ne (by omega), up_ne (by omega), up_ne (by omega), up_ne (by omega), up_ne (by omega)]
  have Q0 : Q (158 + 6 * m) = to := by
    rw [eQ, up_ne (by omega), up_ne (by omega), up_ne (by omega), up_ne (by omega), up_ne (by omega), up_eq]
  have Q1 : Q (158 + 6 * m + 1) = nI k := by
    rw [eQ, up_ne (by omega), up_ne (by omega), up_ne (by omega), up_ne (by omega), up_eq]
  have Q2 : Q (158 + 6 * m + 2) = 0 := by
    rw [eQ, up_ne (by omega), up_ne (by omega), up_ne (by omega), up_eq]
  have Q3 : Q (158 + 6 * m + 3) = -1 := by
    rw [eQ, up_ne (by omega), up_ne (by omega), up_eq]
  have Q4 : Q (158 + 6 * m + 4) = -1 := by
    rw [eQ, up_ne (by omega), up_eq]
  have e0 : Q 0 = P 0 := Qo 0 (by omega) (by omega)
  have e1 : Q 1 = P 1 := Qo 1 (by omega) (by omega)
  have hi522 : ∀ j, 522 ≤ j → Q j = P j := fun j hj => Qo j (by omega) (by omega)
  have lkn : ∀ b' j, lkW b' → rN M3 b' j = rN M b' j := fun b' j hb' => hF3.rn (fun q => by have q : b' = L + 8 := q; exact lk_ld hL 8 (by decide) (q ▸ hb'))
  have oo : ∀ j, oN M3 (L + 11) j = oN M (L + 11) j := fun j => hF3.on (fun q => q)
  have hkI : (nI k).toInt = (k : Int) := nI_toInt (by have := hD.2.2.2.1; omega)
  refine ⟨h.mv hD hS3 hgo (h.cel.fz hF3 (fun f hf q => by have q : L + 1 + f = L + 8 := q; omega) e0 e1 hi522) (fun j hj => Qo j (by omega) (by omega)) (fun c hc => ?_) (fun c hc => ?_) (h.2.1.mv e0 e1 hi522 lkn) ?_ (hWK.fz hF3 (fun q => q)), ⟨by omega, by omega, fun t ht => ?_⟩, ⟨?_, fun t ht => ?_⟩, hgo, fun k => hF3.fi (by unfold bF; omega), ?_, hS1⟩
  · have hc2 := (inC.eq e0 e1).mp hc
    have hsame : ∀ f, cE Q f c = cE P f c := fun f => hi522 _ cX_ge
    unfold nnC
    rw [hsame, hsame, hsame, hsame]
    exact h.nn c hc2
  · have hc2 := (inC.eq e0 e1).mp hc
    have hq : (Q 157).toInt.toNat = m + 1 := by omega
    have hr : rI (wF M1 L 15 (zI M1 L 15 + 1)) (L + 8) c = rI M (L + 8) c := by
      have a1 : rI (wF M1 L 15 (zI M1 L 15 + 1)) (L + 8) c = rI M1 (L + 8) c := by unfold rI; rw [rN_wF]
      have a2 : rI M1 (L + 8) c = rI M (L + 8) c := hF1.rn (fun q => q)
      rw [a1, a2]
    rw [hq, h3, crow_up hS1.kf.1 hL hw hto hc2, hr, r1, h.crd c hc2, ← em]
    show _ = crdP Q c m + (if Q (158 + 6 * m) = c then 1 else 0)
    rw [crd_congr m (fun t ht => Qo _ (by omega) (by omega)), Q0]
    by_cases hcc : c = to
    · rw [if_pos hcc, if_pos hcc.symm, hcc]
    · rw [if_neg hcc, if_neg (fun q => hcc q.symm)]
      grind
  · obtain ⟨t1, t2, t3, t4⟩ := h.2.2.2.1
    unfold PKt
    have f1 : ∀ k, k ≠ 15 → zI M3 L k = zI M L k := fun k hk => hF3.fi (fun q => by
      rcases q with q | q
      · have q : L = b := q
        omega
      · exact hk q.2)
    rw [f1 16 (by decide), f1 17 (by decide), f1 18 (by decide), f1 19 (by decide), Qo 518 (by omega) (by omega), Qo 519 (by omega) (by omega), Qo 520 (by omega) (by omega), Qo 521 (by omega) (by omega)]
    exact ⟨t1, t2, t3, t4⟩
  · rw [inC.eq e0 e1]
    by_cases htm : t = m
    · subst htm
      rw [Q0, Q1, Q3, Qo 12 (by omega) (by omega), hkI]
      exact ⟨hto, by omega, by omega, by decide⟩
    · obtain ⟨c1, c2, c3, c4⟩ := kk t (by omega)
      rw [Qo _ (by omega) (by omega), Qo _ (by omega) (by omega), Qo 12 (by omega) (by omega), Qo _ (by omega) (by omega)]
      exact ⟨c1, c2, c3, c4⟩
  · rw [q157, h3, fI_wI]
    rw [fI_wF_eq hS1.1 hL qi_8_15, z1L, hl.1]
  · rw [oo]
    by_cases htm : t = m
    · subst htm
      rw [← eb]
      exact ⟨by rw [zb, b0, Q0], by rw [zb, b1, Q1], by rw [zb, b2, Q2], by rw [zb, b3, Q4], by rw [zb, b4, Q3]⟩
    · have hb2 := hWK.2 t (by omega)
      have hne : oN M (L + 11) t ≠ b := fun q => htm (hWK.1 t m (by omega) (by omega) (q.trans eb))
      refine (hl.2 t (by omega)).eq (fun f _ => hF3.fi (fun q => ?_)) (fun j hj => Qo _ (by omega) (by omega))
      rcases q with q | q
      · exact hne q
      · omega
  · rw [hF1.fr (by unfold bF; omega)]
    exact h.lw
theorem tur_ok (h : STA L T P M) (hD : okD P) (hK : okK P) (hl : LST L P M) {M3 : Mem} (h3 : M3 = wF M L 19 (zI M L 19 + 1)) : STA L T (uPk P 521 (P 521 + 1)) M3 ∧ okK (uPk P 521 (P 521 + 1)) ∧ LST L (uPk P 521 (P 521 + 1)) M3 ∧ FZ (gwF L) (gwW L) (gwO L) M M3 ∧ ∀ k, zI M3 104 k = zI M 104 k := by
  have hS := h.sq
  have hL := h.ld
  have hWK := h.2.2.2.2.2.1
  have hld := ld_cases hL
  have hF3 : FZ (fun a k => a = L ∧ k = 19) noO noO M M3 := by rw [h3]; exact FZ.wF ⟨rfl, rfl⟩
  have hS3 : SQ M3 := by rw [h3]; exact hS.kf
  have hgo : FZ (gwF L) (gwW L) (gwO L) M M3 := hF3.more (fun a k q => Or.inl ⟨q.1, by omega⟩) (fun a q => q.elim) (fun _ q => q.elim)
  have Qo : ∀ j, j ≠ 521 → uPk P 521 (P 521 + 1) j = P j := fun j hj => up_ne hj
  have lkn : ∀ b' j, lkW b' → rN M3 b' j = rN M b' j := fun b' j _ => hF3.rn (fun q => q)
  obtain ⟨t1, t2, t3, t4⟩ := h.2.2.2.1
  have f1 : ∀ k, k ≠ 19 → zI M3 L k = zI M L k := fun k hk => hF3.fi (fun q => hk q.2)
  refine ⟨h.mv hD hS3 hgo (h.cel.fz hF3 (fun f hf q => q) (Qo 0 (by decide)) (Qo 1 (by decide)) (fun j hj => Qo j (by omega))) (fun j hj => Qo j (by omega)) (fun c hc => ?_) (fun c hc => ?_) (h.2.1.mv (Qo 0 (by decide)) (Qo 1 (by decide)) (fun j hj => Qo j (by omega)) lkn) ⟨?_, ?_, ?_, ?_⟩ (hWK.fz hF3 (fun q => q)), ⟨?_, ?_, fun t ht => ?_⟩, ⟨?_, fun t ht => ?_⟩, hgo, fun k => hF3.fi (by omega)⟩
  · have hc2 := (inC.eq (Qo 0 (by decide)) (Qo 1 (by decide))).mp hc
    have hsame : ∀ f, cE (uPk P 521 (P 521 + 1)) f c = cE P f c := fun f => cE_lo (by decide)
    unfold nnC
    rw [hsame, hsame, hsame, hsame]
    exact h.nn c hc2
  · have hc2 := (inC.eq (Qo 0 (by decide)) (Qo 1 (by decide))).mp hc
    have hr : rI M3 (L + 8) c = rI M (L + 8) c := hF3.rn (fun q => q)
    have hK2 := hK.2.1
    rw [hr, h.crd c hc2, Qo 157 (by decide)]
    exact (crd_congr _ (fun t ht => Qo _ (by omega))).symm
  · rw [f1 16 (by decide), t1]; exact (Qo _ (by decide)).symm
  · rw [f1 17 (by decide), t2]; exact (Qo _ (by decide)).symm
  · rw [f1 18 (by decide), t3]; exact (Qo _ (by decide)).symm
  · rw [h3, fI_wF_eq hS.1 hL qi_8_19, t4]; exact up_eq.symm
  · rw [Qo 157 (by decide)]; exact hK.1
  · rw [Qo 157 (by decide)]; exact hK.2.1
  · rw [Qo 157 (by decide)] at ht
    have hK2 := hK.2.1
    obtain ⟨c1, c2, c3, c4⟩ := hK.2.2 t ht
    rw [inC.eq (Qo 0 (by decide)) (Qo 1 (by decide)), Qo _ (by omega), Qo _ (by omega), Qo 12 (by decide), Qo _ (by omega)]
    exact ⟨c1, c2, c3, c4⟩
  · rw [f1 15 (by decide), hl.1]; exact (Qo _ (by decide)).symm
  · rw [Qo 157 (by decide)] at ht
    have hK2 := hK.2.1
    rw [hF3.on (fun q => q)]
    have hb := hWK.2 t (by omega)
    exact (hl.2 t ht).eq (fun f _ => hF3.fi (by omega)) (fun j hj => Qo _ (by omega))
theorem new_sb (hk : k < 24) (hm : (P 157).toInt ≤ 60) : ∀ j, j < 157 → newP P k j = P j := fun j hj => by
  unfold newP
  rw [up_ne (by omega), up_ne (by omega), up_ne (by omega), up_ne (by omega), up_ne (by omega), up_ne (by omega)]
theorem beg_l : ∀ (n k : Nat) (kz : Int32) (c2 c3 : Option Value) (P : PK) (M : Mem), STA L T P M → okD P → okK P → LST L P M → kz.toInt = (k : Int) → (k : Int) + (n : Int) = (P 12).toInt → Ev none e 59 2 [some (.ref 104), some (.int kz), c2, c3] [] M v M' 0 0 → v = none ∧ STA L T (begP n k P) M' ∧ okK (begP n k P) ∧ LST L (begP n k P) M' ∧ FZ (gwF L) (gwW L) (gwO L) M M' ∧ ∀ k, zI M' 104 k = zI M 104 k := by
  intro n
  induction n with
  | zero =>
    intro k kz c2 c3 P M h hD hK hl hkz hn H
    have h13 := h.2.2.1.2.2.2.1
    rcases bgn_2 h.sq H with ⟨_, h1, h2⟩ | ⟨a1, _⟩ | ⟨a1, _⟩ | ⟨a1, _⟩
    · subst h2
      exact ⟨h1, h, hK, hl, FZ.refl _, fun _ => rfl⟩
    all_goals exact absurd (Int32.le_iff_toInt_le.mpr (by rw [h.lw, h13]; omega)) a1
  | succ n ih =>
    intro k kz c2 c3 P M h hD hK hl hkz hn H
    have h13 := h.2.2.1.2.2.2.1
    have h24 := hD.2.2.2.1
    have hk : k < (P 12).toInt.toNat := by omega
    have hdu := due_ok h.2.2.1 h.2.2.2.2.1 hD hk h.2.2.2.1.1 hkz
    have hk1 : (kz + 1).toInt = ((k + 1 : Nat) : Int) := by
      rw [i32_p1 (by omega)]
      omega
    have hx : oI M (L + 10) kz = L + 12 + k := by
      unfold oI
      rw [cl_n hkz]
      exact h.2.2.2.2.1 k (by omega)
    have hkI : kz = nI k := Int32.toInt_inj.mp (by rw [hkz, nI_toInt (by omega)])
    have t60 : (60 : Int32).toInt = 60 := rfl
    unfold begP
    rcases bgn_2 h.sq H with ⟨a1, _⟩ | ⟨_, a2, _, H⟩ | ⟨_, a2, a3, _, _, _, e1, v1, M1, rfl, H1, H⟩ | ⟨_, a2, a3, _, H⟩
    · rw [h.lw, h13] at a1
      have := Int32.le_iff_toInt_le.mp a1
      omega
    · rw [h.lw, hdu, bI_0] at a2
      rw [if_neg (by rw [a2]; decide)]
      exact ih (k + 1) _ _ _ P M h hD hK hl hk1 (by omega) H
    · rw [h.lw, hdu, bI_0, Bool.not_eq_false] at a2
      rw [h.lw, hl.1] at a3
      have hne : ¬ P 157 = 60 := fun q => by rw [q] at a3; exact absurd a3 (by decide)
      rw [if_pos a2, if_neg hne]
      have hfr := (hD.2.2.2.2 k hk).1
      have hw0 : zI M (L + 12 + k) 0 = P (13 + 6 * k) := h.2.2.1.2.2.2.2 k hk 0 (by decide)
      have hdo : rI M (L + 9) (P (13 + 6 * k)) = P (3 + (P (13 + 6 * k)).toInt.toNat) := h.2.2.1.2.2.1.2 (P (13 + 6 * k)).toInt.toNat (by omega)
      have hob : oI M (L + 11) (P 157) = oN M (L + 11) (P 157).toInt.toNat := rfl
      have hbt := wk_t h.sq.1 h.ld (j := (P 157).toInt.toNat) (by have := hK.2.1; have : (P 157).toInt ≠ 60 := fun q => hne (Int32.toInt_inj.mp (q.trans t60.symm)); omega)
      rw [h.lw, hx, hl.1, hw0, hdo, hob, hkI] at H1
      obtain ⟨rfl, q2⟩ := g_73w h.sq hbt H1
      obtain ⟨r1, r2, r3, r4, r5, r6, r7⟩ := nwk_ok h hD hK hl hk hne q2 rfl
      rw [h.lw, hx, hw0, hdo] at H
      obtain ⟨_, _, H⟩ := bgn_101 r7 (wi_t h.sq.1 h.ld h.2.2.2.2.1 (k := k) (by omega)) H
      rw [r6] at H
      obtain ⟨s1, s2, s3, s4, s5, s6⟩ := ih (k + 1) _ _ _ (newP P k) _ r1 (hD.sb (new_sb (by omega) hK.2.1)) r2 r3 hk1 (by rw [new_sb (by omega) hK.2.1 12 (by decide)]; omega) H
      exact ⟨s1, s2, s3, s4, r4.trans s5, fun k => (s6 k).trans (r5 k)⟩
    · rw [h.lw, hdu, bI_0, Bool.not_eq_false] at a2
      rw [h.lw, hl.1] at a3
      have hq : P 157 = 60 := Int32.toInt_inj.mp (by rw [Int32.lt_iff_toInt_lt] at a3; have := hK.2.1; omega)
      rw [if_pos a2, if_pos hq]
      rw [h.lw] at H
      obtain ⟨r1, r2, r3, r4, r5⟩ := tur_ok h hD hK hl rfl
      obtain ⟨s1, s2, s3, s4, s5, s6⟩ := ih (k + 1) _ _ _ _ _ r1 (hD.sb (fun j hj => up_ne (by omega))) r2 r3 hk1 (by rw [show uPk P 521 (P 521 + 1) 12 = P 12 from up_ne (by decide)]; omega) H
      exact ⟨s1, s2, s3, s4, r4.trans s5, fun k => (s6 k).trans (r5 k)⟩
end BEG
