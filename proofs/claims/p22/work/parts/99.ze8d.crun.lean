/-! THE CLASS'S run, week -/
section CRUN
variable {e B L : Nat} {T : TS} {P P' Q : PK} {PI : Nat → PK} {M M1 M' : Mem} {v : Option Value} {c k d x t : Int32} {n i j : Nat} {F : Nat → Nat → Prop} {W O : Nat → Prop}
/-- walking on the live land -/
theorem CST.wlk (h : CST T P PI M) (hF : FZ F W O M M') (fF : ∀ a k, F a k → (8 ≤ a ∧ a < 104) ∨ (a = 104 ∧ 7 ≤ k) ∨ a = 105) (fW : ∀ a, W a → (9 ≤ a ∧ a ≤ 17) ∨ (106 ≤ a ∧ a ≤ 108) ∨ a = 128 ∨ (130 ≤ a ∧ a ≤ 136)) (fO : ∀ a, O a → a = 19) (hG : GRI M') (hX : STA 8 T Q M') (hl : LST 8 Q M') (ok : okA Q) : CST T Q PI M' := by
  obtain ⟨a1, ⟨a2, a3, a4⟩, a5, a6, a7, a8, ⟨a9, a10⟩, a11⟩ := h
  have nf : ∀ a k, 137 ≤ a → ¬ F a k := fun a k ha q => by have := fF a k q; omega
  have nw : ∀ a, 137 ≤ a → ¬ W a := fun a ha q => by have := fW a q; omega
  have no : ∀ a, a ≠ 19 → ¬ O a := fun a ha q => ha (fO a q)
  refine ⟨hX.sq, ⟨(hF.fr (fun q => by have := fF _ _ q; omega)).trans a2, (hF.fr (fun q => by have := fF _ _ q; omega)).trans a3, fun k hk => (hF.on (no _ (by decide))).trans (a4 k hk)⟩, ⟨hX.1.2.2.2.2.2.1, hX.1.2.2.2.2.2.2.1⟩, hX.1.2.2.2.1, hG, fun L hL => ?_, ⟨ok, hX.lan hl⟩, fun k hk hr => ?_⟩
  · by_cases hL8 : L = 8
    · subst hL8
      exact ⟨hX.2.2.2.2.1, hX.2.2.2.2.2.1⟩
    · have hc := ld_cases hL
      exact ⟨fun k hk => (hF.on (no _ (by omega))).trans ((a8 L hL).1 k hk), (a8 L hL).2.on (fun j => hF.on (no _ (by omega)))⟩
  · have er : rN M' 340 k = rN M 340 k := hF.rn (nw _ (by decide))
    rw [er] at hr
    obtain ⟨b1, b2⟩ := a11 k hk hr
    have hi := lnd_im k hk
    exact ⟨b1, b2.fz hF (fun a k q1 q2 => nf _ _ (by unfold imgA at q1; omega)) (fun a q1 q2 => nw _ (by unfold imgA at q1; omega)) (no _ (by unfold imgA; omega)) (a8 _ hi).2 b1.n24 b1.k60⟩
theorem centr_ok (h : CST T P PI M) (H : Ev none e 54 0 [some (.ref 104), some (.ref 8)] [] M v M' 0 0) : v = none ∧ STA 8 T P M' ∧ LST 8 P M' ∧ FZ enF enW noO M M' ∧ GRI M' ∧ WFl (-1) [] M' := by
  have hD := h.ok.1
  obtain ⟨r1, r2, r3, r4, r5, _, _, r6⟩ := enter_ok h.sq lnd_8 hD.1 h.ok.2.2.2.nn h.2.2.2.2.1 h.2.2.2.1 h.2.2.1 h.lan h.wx h.wk h.ok.n24 h.ok.k60 H
  exact ⟨r1, r2, r3, r4, r5, r6⟩
theorem gof_tks {w : Int32} : ∀ (r : Nat) (p : PS), ¬ w ∈ (gofP T w r p).2 → gofP T w r p = tksP T r p := by
  intro r
  induction r with
  | zero => intro p _; rfl
  | succ r ih =>
    intro p h
    by_cases hw : w ∈ p.2
    · have e : gofP T w (r + 1) p = p := if_pos hw
      rw [e] at h
      exact absurd hw h
    · have e : gofP T w (r + 1) p = gofP T w r (tckP T p) := if_neg hw
      rw [e] at h ⊢
      exact ih _ h
theorem run_ok (h : CST T P PI M) (H : Ev none e 91 0 [some (.ref 0), some (.int t)] [] M v M' 0 0) : (runN P t ∧ v = some (.int (-1)) ∧ M' = M) ∨ (¬ runN P t ∧ v = some (.int (runP T P t 519 - P 519)) ∧ CST T (runP T P t) PI M') := by
  have hS := h.sq
  have hA := h.lan
  obtain ⟨hD, hK, ⟨q0, q6⟩, hE⟩ := h.ok
  have z16 : zI M 8 16 = P 518 := hA.2.1.1
  have t1 : (1 : Int32).toInt = 1 := rfl
  have t400 : (400 : Int32).toInt = 400 := rfl
  have tl : (60000 : Int32).toInt = 60000 := rfl
  unfold runN
  rcases rnn_0 hS h.ld H with ⟨a1, r1, r2⟩ | ⟨a1, a2, e1, v1, M1, _, H1, H⟩ | ⟨a1, a2, r1, r2⟩
  · rw [g126_R] at a1
    exact Or.inl ⟨Or.inl a1, r1, r2⟩
  · rw [g126_R, Classical.not_not] at a1
    unfold inX at a1
    rw [z16] at a2
    have hs : (P 518 + t).toInt = (P 518).toInt + t.toInt := i32_add (by omega) (by omega)
    have a2 := Int32.le_iff_toInt_le.mp a2
    obtain ⟨rv1, b2, b3, b4, b5, b6⟩ := centr_ok h H1
    rw [rv1] at H
    obtain ⟨e2, v2, M2, _, H2, H⟩ := rnn_38 b2.sq H
    obtain ⟨P6, ss6, g1, rv2, s1, s2, s3, s4, s5, s6, s7, s8, s9⟩ := gow_ok b2 hD hK hE (r := t.toInt.toNat) (by omega) b3 b6 (by omega) H2
    rw [rv2] at H
    obtain ⟨u1, u2⟩ := rnn_46 s1.sq H
    have hn : ¬ (-1 : Int32) ∈ (gofP T (-1) t.toInt.toNat (P, [])).2 := by
      rw [g1]
      intro q
      rcases s9 _ q with q | q
      · cases q
      · exact absurd q.1 (by decide)
    have hr : runP T P t = P6 := by
      unfold runP
      rw [← gof_tks _ _ hn, g1]
    have h518 : (P6 518).toInt = (P 518).toInt + t.toInt := by
      rw [← hr]
      unfold runP
      rw [tks_518 t.toInt.toNat P [] hD hK (fun p d1 k1 => tck_keep d1 k1) (by omega) q0]
      omega
    have ok : okA P6 := ⟨s2, s3, ⟨by omega, by omega⟩, s4.more (by omega)⟩
    rw [hr]
    refine Or.inr ⟨fun q => ?_, u1, ?_⟩
    · unfold inX at q
      omega
    · rw [u2]
      refine h.wlk ((b4.more (G := fun a k => enF a k ∨ gwF 8 a k) (V := fun a => enW a ∨ gwW 8 a) (U := gwO 8) (fun _ _ q => Or.inl q) (fun _ q => Or.inl q) (fun _ q => q.elim)).trans (s7.more (fun _ _ q => Or.inr q) (fun _ q => Or.inr q) (fun _ q => q))) ?_ ?_ ?_ (b5.fz s7 ?_ ?_ ?_) s1 s5 ok
      · intro a k q
        unfold enF shgF gwF at q
        omega
      · intro a q
        unfold enW shgW gwW lkW at q
        omega
      · intro a q
        unfold gwO at q
        omega
      · unfold gwF; omega
      · unfold gwF; omega
      · intro a h1 h2
        unfold gwW lkW
        omega
  · rw [g126_R, Classical.not_not] at a1
    unfold inX at a1
    rw [z16] at a2
    have hs : (P 518 + t).toInt = (P 518).toInt + t.toInt := i32_add (by omega) (by omega)
    have a2 : ¬ (P 518).toInt + t.toInt ≤ 60000 := fun q => a2 (Int32.le_iff_toInt_le.mpr (by omega))
    exact Or.inl ⟨Or.inr (by omega), r1, r2⟩
theorem week_ok (h : CST T P PI M) (H : Ev none e 92 0 [some (.ref 0)] [] M v M' 0 0) : v = some (.int (nwP (T 0) (wekP (T 0) P))) ∧ CST T (wekP (T 0) P) PI M' := by
  have hS := h.sq
  have hA := h.lan
  obtain ⟨hD, hK, ⟨q0, q6⟩, hE⟩ := h.ok
  obtain ⟨e1, v1, M1, _, H1, H⟩ := wkk_0 hS h.ld H
  obtain ⟨rv1, b2, b3, b4, b5, b6⟩ := centr_ok h H1
  rw [rv1] at H
  obtain ⟨e2, v2, M2, _, H2, H⟩ := wkk_11 b2.sq H
  obtain ⟨rv2, s1, s2, s3, s4, s5, s6, s7, s8⟩ := ewk_ok b2 hD hK hE b3 H2
  rw [rv2] at H
  obtain ⟨e3, v3, M3, _, H3, H⟩ := wkk_18 s1.sq H
  obtain ⟨rm, rv3⟩ := wcl_ok s1.1 s1.2.2.1.1 s1.2.2.1.2.1 H3
  rw [rv3, rm] at H
  obtain ⟨u1, u2⟩ := wkk_25 s1.sq H
  have e518 := s8 518 (by decide)
  have ok : okA (wekP (T 0) P) := ⟨s2, s3, by rw [e518]; exact ⟨q0, q6⟩, by rw [e518]; exact s4⟩
  refine ⟨u1, ?_⟩
  rw [u2]
  refine h.wlk ((b4.more (G := fun a k => enF a k ∨ gwF 8 a k) (V := fun a => enW a ∨ gwW 8 a) (U := gwO 8) (fun _ _ q => Or.inl q) (fun _ q => Or.inl q) (fun _ q => q.elim)).trans (s6.more (fun _ _ q => Or.inr q) (fun _ q => Or.inr q) (fun _ q => q))) ?_ ?_ ?_ (b5.fz s6 ?_ ?_ ?_) s1 s5 ok
  · intro a k q
    unfold enF shgF gwF at q
    omega
  · intro a q
    unfold enW shgW gwW lkW at q
    omega
  · intro a q
    unfold gwO at q
    omega
  · unfold gwF; omega
  · unfold gwF; omega
  · intro a h1 h2
    unfold gwW lkW
    omega
end CRUN
