/-! THE CLASS'S go, endWeek, wornCells, enter -/
noncomputable def gofP (T : TS) (w : Int32) : Nat → PS → PS
  | 0, p => p
  | n + 1, p => if w ∈ p.2 then p else gofP T w n (tckP T p)
section GOO
variable {e L : Nat} {T : TS} {g : TQ} {P P' Q : PK} {M M1 M' : Mem} {v : Option Value} {c w ti bf nz : Int32} {n i k B : Nat} {s : List Nat} {ss : List Int32}
theorem beg_keep : ∀ (n k : Nat) (P : PK), 0 ≤ (P 157).toInt → (P 157).toInt ≤ 60 → (∀ j, (j < 157 ∨ 522 ≤ j ∨ (518 ≤ j ∧ j ≤ 520)) → begP n k P j = P j) := by
  intro n
  induction n with
  | zero => intro k P _ _ j _; rfl
  | succ n ih =>
    intro k P h0 h1 j hj
    have t60 : (60 : Int32).toInt = 60 := rfl
    unfold begP
    split
    · split
      · rename_i hd h60
        rw [ih (k + 1) (uPk P 521 (P 521 + 1)) (by rw [up_ne (by decide)]; exact h0) (by rw [up_ne (by decide)]; exact h1) j hj]
        exact up_ne (by omega)
      · rename_i hd h60
        have hlt : (P 157).toInt ≤ 59 := by
          have : (P 157).toInt ≠ 60 := fun q => h60 (Int32.toInt_inj.mp (q.trans t60.symm))
          omega
        have e157 : newP P k 157 = P 157 + 1 := by unfold newP; exact up_eq
        have ei : (P 157 + 1).toInt = (P 157).toInt + 1 := i32_p1 (by omega)
        rw [ih (k + 1) (newP P k) (by rw [e157, ei]; omega) (by rw [e157, ei]; omega) j hj]
        unfold newP
        rw [up_ne (by omega), up_ne (by omega), up_ne (by omega), up_ne (by omega), up_ne (by omega), up_ne (by omega)]
    · exact ih (k + 1) P h0 h1 j hj
theorem MDW.mk0 (hl : LST L P M) (hK : okK P) : MDW L P M (P 157).toInt.toNat 0 [] := by
  have h0 := hK.1
  have h60 := hK.2.1
  have hn : nI (P 157).toInt.toNat = P 157 := Int32.toInt_inj.mp (by rw [nI_toInt (by omega)]; omega)
  refine ⟨by rw [hn]; exact hl.1, by omega, Nat.zero_le _, (by show _ = ((0 : Nat) : Int) + _; omega), fun t j ht => (by cases ht), fun j _ h2 => ?_, fun j h => absurd h (Nat.not_lt_zero j), fun t t' j j' _ ht => (by cases ht)⟩
  show WFq _ P (0 + (j - 0)) M
  rw [Nat.sub_zero, Nat.zero_add]
  exact hl.2 j h2
theorem tik_ok (h : STA L T P M) (hD : okD P) (hK : okK P) (hl : LST L P M) (h3 : M' = wF M L 16 (zI M L 16 + 1)) : STA L T (uPk P 518 (P 518 + 1)) M' ∧ okK (uPk P 518 (P 518 + 1)) ∧ LST L (uPk P 518 (P 518 + 1)) M' ∧ FZ (gwF L) (gwW L) (gwO L) M M' ∧ ∀ k, zI M' 104 k = zI M 104 k := by
  have hS := h.sq
  have hL := h.ld
  have hWK := h.2.2.2.2.2.1
  have hld := ld_cases hL
  have hF3 : FZ (fun a k => a = L ∧ k = 16) noO noO M M' := by rw [h3]; exact FZ.wF (F := fun a k => a = L ∧ k = 16) ⟨rfl, rfl⟩
  have hS3 : SQ M' := by rw [h3]; exact hS.kf
  have hgo : FZ (gwF L) (gwW L) (gwO L) M M' := hF3.more (fun a k q => Or.inl ⟨q.1, by omega⟩) (fun a q => q.elim) (fun _ q => q.elim)
  have Qo : ∀ j, j ≠ 518 → uPk P 518 (P 518 + 1) j = P j := fun j hj => up_ne hj
  have hK2 := hK.2.1
  obtain ⟨t1, t2, t3, t4⟩ := h.2.2.2.1
  have f1 : ∀ k, k ≠ 16 → zI M' L k = zI M L k := fun k hk => hF3.fi (fun q => hk q.2)
  refine ⟨h.mv hD hS3 hgo (h.cel.fz hF3 (fun f hf q => q) (Qo 0 (by decide)) (Qo 1 (by decide)) (fun j hj => Qo j (by omega))) (fun j hj => Qo j (by omega)) (fun c hc => ?_) (fun c hc => ?_) (h.2.1.mv (Qo 0 (by decide)) (Qo 1 (by decide)) (fun j hj => Qo j (by omega)) (fun b' j _ => hF3.rn (fun q => q))) ⟨?_, ?_, ?_, ?_⟩ (hWK.fz hF3 (fun q => q)), ⟨?_, ?_, fun t ht => ?_⟩, ⟨?_, fun t ht => ?_⟩, hgo, fun k => hF3.fi (by omega)⟩
  · have hc2 := (inC.eq (Qo 0 (by decide)) (Qo 1 (by decide))).mp hc
    have hsame : ∀ f, cE (uPk P 518 (P 518 + 1)) f c = cE P f c := fun f => cE_lo (by decide)
    unfold nnC
    rw [hsame, hsame, hsame, hsame]
    exact h.nn c hc2
  · have hc2 := (inC.eq (Qo 0 (by decide)) (Qo 1 (by decide))).mp hc
    have hr : rI M' (L + 8) c = rI M (L + 8) c := hF3.rn (fun q => q)
    rw [hr, h.crd c hc2, Qo 157 (by decide)]
    exact (crd_congr _ (fun t ht => Qo _ (by omega))).symm
  · rw [h3, fI_wF_eq hS.1 hL qi_8_16, t1]; exact up_eq.symm
  · rw [f1 17 (by decide), t2]; exact (Qo _ (by decide)).symm
  · rw [f1 18 (by decide), t3]; exact (Qo _ (by decide)).symm
  · rw [f1 19 (by decide), t4]; exact (Qo _ (by decide)).symm
  · rw [Qo 157 (by decide)]; exact hK.1
  · rw [Qo 157 (by decide)]; exact hK.2.1
  · rw [Qo 157 (by decide)] at ht
    obtain ⟨c1, c2, c3, c4⟩ := hK.2.2 t ht
    rw [inC.eq (Qo 0 (by decide)) (Qo 1 (by decide)), Qo _ (by omega), Qo _ (by omega), Qo 12 (by decide), Qo _ (by omega)]
    exact ⟨c1, c2, c3, c4⟩
  · rw [f1 15 (by decide), hl.1]; exact (Qo _ (by decide)).symm
  · rw [Qo 157 (by decide)] at ht
    rw [hF3.on (fun q => q)]
    have hb := hWK.2 t (by omega)
    exact (hl.2 t ht).eq (fun f _ => hF3.fi (by omega)) (fun j hj => Qo _ (by omega))
theorem go_l : ∀ (r k : Nat) (nz : Int32) (B : Nat) (P : PK) (ss : List Int32) (M : Mem) (c4 c5 c6 c7 c8 : Option Value), STA L T P M → okD P → okK P → okE B P → B + 60 * r ≤ 100000000 → LST L P M → WFl w ss M → nz.toInt = (k : Int) → ti.toInt = (k : Int) + (r : Int) → Ev none e 58 10 [some (.ref 104), some (.int ti), some (.int bf), some (.int nz), c4, c5, c6, c7, c8] [] M v M' 0 0 → ∃ (P6 : PK) (ss6 : List Int32), gofP T w r (P, ss) = (P6, ss6) ∧ v = some (.int (P6 519 - bf)) ∧ STA L T P6 M' ∧ okD P6 ∧ okK P6 ∧ okE (B + 60 * r) P6 ∧ LST L P6 M' ∧ WFl w ss6 M' ∧ FZ (gwF L) (gwW L) (gwO L) M M' ∧ (∀ j, j < 157 → P6 j = P j) ∧ ∀ c, c ∈ ss6 → c ∈ ss ∨ inC P c := by
  intro r
  induction r with
  | zero =>
    intro k nz B P ss M c4 c5 c6 c7 c8 hX hD hK hE hB hl hf hn ht H
    rcases goo_10 hX.sq H with ⟨_, h1, h2⟩ | ⟨a1, _⟩ | ⟨a1, _⟩
    · subst h2
      rw [hX.lw, hX.2.2.2.1.2.1] at h1
      exact ⟨P, ss, rfl, h1, hX, hD, hK, hE, hl, hf, FZ.refl _, fun _ _ => rfl, fun c hc => Or.inl hc⟩
    all_goals exact absurd (Int32.le_iff_toInt_le.mpr (by omega)) a1
  | succ r ih =>
    intro k nz B P ss M c4 c5 c6 c7 c8 hX hD hK hE hB hl hf hn ht H
    have htl := (i32_lt ti).2
    rcases goo_10 hX.sq H with ⟨a1, _⟩ | ⟨_, a2, e1, v1, M1, rfl, H1, H⟩ | ⟨_, a2, h1, h2⟩
    · have := Int32.le_iff_toInt_le.mp a1
      omega
    · rw [hf.2, bI_0] at a2
      have hnw : ¬ w ∈ ss := of_decide_eq_false a2
      have h12 := hD.2.2.1
      obtain ⟨rfl, b2, b3, b4, b5, b6⟩ := beg_l (P 12).toInt.toNat 0 0 none none P M hX hD hK hl rfl (by omega) (bgn_0 hX.sq H1)
      have bk := beg_keep (P 12).toInt.toNat 0 P hK.1 hK.2.1
      obtain ⟨P1, eP1⟩ : ∃ P1, P1 = bg0P P := ⟨_, rfl⟩
      have eb : begP (P 12).toInt.toNat 0 P = P1 := eP1.symm
      rw [eb] at b2 b3 b4 bk
      have hD1 : okD P1 := hD.sb (fun j hj => bk j (Or.inl hj))
      have hE1 : okE B P1 := hE.sb (bk 0 (by omega)) (bk 1 (by omega)) (fun j hj => bk j (by omega))
      have H := goo_26 b2.sq H
      have hK1 := b3.1
      have hK2 := b3.2.1
      obtain ⟨P6, ss6, M6, d4, d5, d6, d7, d8, p1, p2, p3, p4, p5, p6, p7, p8, p9, p10, p11, H⟩ := wlk_l (P1 157).toInt.toNat 0 0 B P1 ss [] M1 _ _ _ _ b2 hD1 b3 hE1 (by omega) (MDW.mk0 b4 b3) (by omega) (hf.same b6) rfl H
      have H := goo_202 p2.sq H
      rw [p2.lw] at H
      obtain ⟨t1, t2, t3, t4, t5⟩ := tik_ok p2 p3 p4 p6 rfl
      have ht1 : tckP T (P, ss) = (uPk P6 518 (P6 518 + 1), ss6) := by
        have p1 : wlkP T (P1 157).toInt.toNat 0 (P1, ss) = (P6, ss6) := p1
        unfold tckP
        dsimp only
        rw [← eP1, p1]
      have hk1 : (nz + 1).toInt = ((k + 1 : Nat) : Int) := by
        rw [i32_p1 (by omega)]
        omega
      obtain ⟨P7, ss7, q1, q2, q3, q4, q5, q6, q7, q8, q9, q10, q11⟩ := ih (k + 1) (nz + 1) (B + 60) (uPk P6 518 (P6 518 + 1)) ss6 _ _ _ _ _ _ t1 (p3.sb (fun j hj => up_ne (by omega))) t2 ((p5.more (by omega)).sb (up_ne (by decide)) (up_ne (by decide)) (fun j hj => up_ne (by omega))) (by omega) t3 (p7.same t5) hk1 (by omega) H
      have hlow : ∀ j, j < 157 → uPk P6 518 (P6 518 + 1) j = P j := fun j hj => (up_ne (by omega)).trans ((p9 j hj).trans (bk j (Or.inl hj)))
      refine ⟨P7, ss7, ?_, q2, q3, q4, q5, by rw [show B + 60 * (r + 1) = B + 60 + 60 * r from by omega]; exact q6, q7, q8, ((b5.trans p8).trans t4).trans q9, fun j hj => (q10 j hj).trans (hlow j hj), fun c hc => ?_⟩
      · show (if w ∈ ss then _ else gofP T w r (tckP T (P, ss))) = _
        rw [if_neg hnw, ht1]
        exact q1
      · rcases q11 c hc with h | h
        · rcases p11 c h with h | h
          · exact Or.inl h
          · exact Or.inr ((inC.eq (bk 0 (by omega)) (bk 1 (by omega))).mp h)
        · exact Or.inr ((inC.eq (hlow 0 (by decide)) (hlow 1 (by decide))).mp h)
    · subst h2
      rw [hf.2, bI_0, Bool.not_eq_false] at a2
      have hw : w ∈ ss := of_decide_eq_true a2
      rw [hX.lw, hX.2.2.2.1.2.1] at h1
      refine ⟨P, ss, ?_, h1, hX, hD, hK, hE.more (by omega), hl, hf, FZ.refl _, fun _ _ => rfl, fun c hc => Or.inl hc⟩
      show (if w ∈ ss then _ else _) = _
      rw [if_pos hw]
theorem gow_ok (hX : STA L T P M) (hD : okD P) (hK : okK P) (hE : okE B P) {r : Nat} (hB : B + 60 * r ≤ 100000000) (hl : LST L P M) (hf : WFl w ss M) (ht : ti.toInt = (r : Int)) (H : Ev none e 58 0 [some (.ref 104), some (.int ti), none, none, none, none, none, none, none] [] M v M' 0 0) : ∃ (P6 : PK) (ss6 : List Int32), gofP T w r (P, ss) = (P6, ss6) ∧ v = some (.int (P6 519 - P 519)) ∧ STA L T P6 M' ∧ okD P6 ∧ okK P6 ∧ okE (B + 60 * r) P6 ∧ LST L P6 M' ∧ WFl w ss6 M' ∧ FZ (gwF L) (gwW L) (gwO L) M M' ∧ (∀ j, j < 157 → P6 j = P j) ∧ ∀ c, c ∈ ss6 → c ∈ ss ∨ inC P c := by
  have H := goo_0 hX.sq H
  rw [hX.lw, hX.2.2.2.1.2.1] at H
  exact go_l r 0 0 B P ss M _ _ _ _ _ hX hD hK hE hB hl hf rfl (by omega) H
/-- nobody watched: all TICKS are gone -/
theorem gof_live (hw : w.toInt < 0) : ∀ (n : Nat) (p : PS), (∀ c, c ∈ (tksP T n p).2 → 0 ≤ c.toInt) → (∀ m q, (∀ c, c ∈ (tksP T m q).2 → 0 ≤ c.toInt) → ∀ c, c ∈ q.2 → 0 ≤ c.toInt) → gofP T w n p = tksP T n p := by
  intro n
  induction n with
  | zero => intro p _ _; rfl
  | succ n ih =>
    intro p h hm
    have h1 := hm (n + 1) p h
    unfold gofP tksP
    rw [if_neg (fun q => by have := h1 w q; omega)]
    exact ih (tckP T p) h hm
end GOO
