/-! THE CLASS'S trials: weeks on the other land -/
/-- what a trial touches -/
def triF (a k : Nat) : Prop := (243 ≤ a ∧ a < 339) ∨ (a = 104 ∧ 7 ≤ k) ∨ a = 105
def triW (a : Nat) : Prop := (244 ≤ a ∧ a ≤ 252) ∨ (106 ≤ a ∧ a ≤ 108) ∨ a = 128 ∨ (130 ≤ a ∧ a ≤ 136)
def triO (a : Nat) : Prop := a = 254
section CTRI
variable {e B L : Nat} {T T' : TS} {P P' P0 Q : PK} {PI : Nat → PK} {M M0 M1 M' : Mem} {v : Option Value} {c k d x a b t y ws : Int32} {n i j : Nat} {ss : List Int32} {F : Nat → Nat → Prop} {W O : Nat → Prop}
/-- a land changed, nothing looked at yet -/
theorem STA.new (h : STA L T P M) (hS : SQ M') (hF : FZ (cpF L) (cpW L) noO M M') (hA : LAN L Q M') (h0 : Q 0 = P 0) (h1 : Q 1 = P 1) (hn : ∀ c, inC Q c → nnC Q c) (hv : ∀ j, j < 1536 → rN M' 128 j = -1) : STA L T Q M' ∧ LST L Q M' := by
  have hl := ld_cases h.ld
  obtain ⟨a1, a2, a3, a4, a5, a6, a7⟩ := h
  have ok : okF L (cpF L) (cpW L) noO := by
    refine ⟨⟨by unfold cpF; omega, by unfold cpF; omega⟩, fun t ht => ?_, ⟨fun q => q, fun q => q⟩, by unfold cpW; omega, by unfold cpW; omega, by unfold cpW; omega⟩
    have := tx_cases ht
    exact ⟨fun k => by unfold cpF; omega, fun k k1 k8 => by unfold cpW; omega⟩
  exact ⟨⟨a1.mv hS hF ok hA.2.2.1 h0 h1 hn hA.2.2.2.2, vc_new hv (a1.2.1.eq h0 h1), hA.1, hA.2.1, fun k hk => (hF.on (fun q => q)).trans (a5 k hk), a6.on (fun j => hF.on (fun q => q)), (hF.fi (by unfold cpF; omega)).trans a7⟩, hA.2.2.2.1⟩
/-- the state of the live land and of the images, through what happens on the other land -/
theorem CST.tri (h : CST T P PI M) (hF : FZ triF triW triO M M') (hG : GRI M') (hX : STA 243 T' Q M') : CST T P PI M' := by
  obtain ⟨a1, ⟨a2, a3, a4⟩, a5, a6, a7, a8, ⟨a9, a10⟩, a11⟩ := h
  have nf : ∀ a k, ¬ ((243 ≤ a ∧ a < 339) ∨ (a = 104 ∧ 7 ≤ k) ∨ a = 105) → ¬ triF a k := fun a k ha q => ha q
  have nw : ∀ a, ¬ ((244 ≤ a ∧ a ≤ 252) ∨ (106 ≤ a ∧ a ≤ 108) ∨ a = 128 ∨ (130 ≤ a ∧ a ≤ 136)) → ¬ triW a := fun a ha q => ha q
  have no : ∀ a, a ≠ 254 → ¬ triO a := fun a ha q => ha q
  refine ⟨hX.sq, ⟨(hF.fr (nf _ _ (by omega))).trans a2, (hF.fr (nf _ _ (by omega))).trans a3, fun k hk => (hF.on (no _ (by decide))).trans (a4 k hk)⟩, a5.fz a1.1 hF (nf _ _ (by omega)) (fun t ht => ?_) (no _ (by decide)), fun m hm => (hF.on (no _ (by decide))).trans (a6 m hm), hG, fun L hL => ?_, ⟨a9, a10.fz hF (fun a k h1 h2 => nf _ _ (by omega)) (fun a h1 h2 => nw _ (by omega)) (no _ (by decide)) (a8 8 lnd_8).2 a9.n24 a9.k60⟩, fun k hk hr => ?_⟩
  · have := tx_cases ht
    exact ⟨fun k => nf _ _ (by omega), fun k k1 k8 => nw _ (by omega)⟩
  · by_cases hL8 : L = 243
    · subst hL8
      exact ⟨hX.2.2.2.2.1, hX.2.2.2.2.2.1⟩
    · have hc := ld_cases hL
      exact ⟨fun k hk => (hF.on (no _ (by omega))).trans ((a8 L hL).1 k hk), (a8 L hL).2.on (fun j => hF.on (no _ (by omega)))⟩
  · have er : rN M' 340 k = rN M 340 k := hF.rn (nw _ (by decide))
    rw [er] at hr
    obtain ⟨b1, b2⟩ := a11 k hk hr
    have hi := lnd_im k hk
    exact ⟨b1, b2.fz hF (fun a k q1 q2 => nf _ _ (by unfold imgA at q1 q2; omega)) (fun a q1 q2 => nw _ (by unfold imgA at q1 q2; omega)) (no _ (by unfold imgA; omega)) (a8 _ hi).2 b1.n24 b1.k60⟩
/-- a trial: B bounds what was trod -/
def TRI (T : TS) (P0 : PK) (PI : Nat → PK) (B : Nat) (w : Int32) (ss : List Int32) (P : PK) (M : Mem) : Prop := CST T P0 PI M ∧ STA 243 T P M ∧ LST 243 P M ∧ okD P ∧ okK P ∧ okE B P ∧ WFl w ss M
/-- the verdicts are forgotten by enter -/
theorem ent_v (hS : SQ M) (hL : gNth sT L = some 8) (hA : LAN L P M) (hw : wh4 P) (hG : GRI M) (H : Ev none e 54 0 [some (.ref 104), some (.ref L)] [] M v M' 0 0) : ∀ j, j < 1536 → rN M' 128 j = -1 := by
  obtain ⟨e1, v1, M1, rfl, H1, H⟩ := ent_0 hS hL H
  have S0 : SQ (wR M 104 7 L) := hS.kr_22_7 hL
  have F0 : FZ (fun a k => a = 104 ∧ k = 7) noO noO M (wR M 104 7 L) := FZ.wR ⟨rfl, rfl⟩
  rw [hA.1.1, hA.1.2.1] at H1
  obtain ⟨hv1, S1, _⟩ := shape_ok S0 ⟨hw.1, hw.2.1⟩ ⟨hw.2.2.1, hw.2.2.2⟩ (hG.fz F0 (by omega) (by omega) (fun _ _ _ q => q)) H1
  rw [hv1] at H
  obtain ⟨_, eM⟩ := ent_26 S1 hL H
  have eM2 : M' = wA (wF (wF (wF M1 104 8 0) 104 9 (-1)) 104 10 0) 128 (-1) := eM
  intro j hj
  rw [eM2]
  exact rN_wA_eq S1.kf.kf.kf.1 qa_128 qw_37 hj
theorem opcT_ok (h : CST T P PI M) (H : Ev none e 133 0 [some (.ref 0)] [] M v M' 0 0) : v = none ∧ TRI T P PI (60 * (P 518).toInt.toNat) (-1) [] P M' ∧ (∀ j, j < 1536 → rN M' 128 j = -1) ∧ FZ triF triW triO M M' := by
  have h9 := h
  obtain ⟨r1, r2, r3, r4, r5⟩ := openC_ok h H
  refine ⟨r1, ⟨r2, r3, r4, h.ok.1, h.ok.2.1, h.ok.2.2.2, r5⟩, ?_⟩
  have hS := h.sq
  have hD := h.ok.1
  obtain ⟨e1, v1, M1, _, H1, H⟩ := opc_0 hS h.ld h.2.1.2.1 H
  obtain ⟨_, _, _, _, hG, hXs, _, _⟩ := id h
  obtain ⟨rv, s1, s2, s3⟩ := copy_ok hS lnd_tr lnd_8 (by decide) hD h.ok.2.1 (hXs _ lnd_tr).1 h.wx (hXs _ lnd_tr).2 h.wk h.lan H1
  rw [rv] at H
  have h1 : CST T P PI M1 := h.cop lnd_tr (by decide) s1 s2 (fun k hk _ => by unfold imgA; omega)
  obtain ⟨e2, v2, M2, _, H2, H⟩ := opc_11 s1 h1.ld h1.2.1.2.1 H
  have q := ent_v s1 lnd_tr s3 hD.1 h1.2.2.2.2.1 H2
  obtain ⟨rv2, q2, _, q4, _⟩ := enter_ok s1 lnd_tr hD.1 h1.ok.2.2.2.nn h1.2.2.2.2.1 h1.2.2.2.1 h1.2.2.1 s3 (h1.2.2.2.2.2.1 _ lnd_tr).1 (h1.2.2.2.2.2.1 _ lnd_tr).2 h1.ok.n24 h1.ok.k60 H2
  rw [rv2] at H
  obtain ⟨_, u2⟩ := opc_22 q2.sq H
  rw [u2]
  refine ⟨q, (s2.more (fun a k q => ?_) (fun a q => ?_) (fun _ q => q.elim)).trans (q4.more (fun a k q => ?_) (fun a q => ?_) (fun _ q => q.elim))⟩
  · unfold cpF at q
    unfold triF
    omega
  · unfold cpW at q
    unfold triW
    omega
  · unfold enF shgF at q
    unfold triF
    omega
  · unfold enW shgW at q
    unfold triW
    omega
theorem gw_tri (h : FZ (gwF 243) (gwW 243) (gwO 243) M M') : FZ triF triW triO M M' := h.more (fun a k q => by unfold gwF at q; unfold triF; omega) (fun a q => by unfold gwW lkW at q; unfold triW; omega) (fun a q => by unfold gwO at q; unfold triO; omega)
theorem tri_F (h : FZ (gwF 243) (gwW 243) (gwO 243) M M') (hC : CST T P0 PI M) (hX : STA 243 T' Q M') : CST T P0 PI M' := by
  refine hC.tri (gw_tri h) (hC.2.2.2.2.1.fz h ?_ ?_ ?_) hX
  · unfold gwF; omega
  · unfold gwF; omega
  · intro a h1 h2
    unfold gwW lkW
    omega
theorem gof_K {w : Int32} : ∀ (r : Nat) (p : PS), okD p.1 → okK p.1 → okD (gofP T w r p).1 ∧ okK (gofP T w r p).1 := by
  intro r
  induction r with
  | zero => intro p h1 h2; exact ⟨h1, h2⟩
  | succ r ih =>
    intro p h1 h2
    unfold gofP
    split
    · exact ⟨h1, h2⟩
    · obtain ⟨d1, k1⟩ := tck_keep (T := T) h1 h2
      exact ih (tckP T p) d1 k1
/-- one week of a trial, nobody watched -/
theorem onk_ok (h : TRI T P0 PI B (-1) [] P M) (hB : B + 60 * n ≤ 100000000) (ht : t.toInt = (n : Int)) (H : Ev none e 134 0 [some (.ref 0), some (.int t)] [] M v M' 0 0) : v = none ∧ TRI T P0 PI (B + 60 * n) (-1) [] (wksP T n P) M' ∧ FZ triF triW triO M M' := by
  obtain ⟨hC, hX, hl, hD, hK, hE, hf⟩ := h
  obtain ⟨e1, v1, M1, _, H1, H⟩ := onk_0 hX.sq H
  obtain ⟨P6, ss6, g1, rv, s1, s2, s3, s4, s5, s6, s7, s8, s9⟩ := gow_ok hX hD hK hE hB hl hf ht H1
  rw [rv] at H
  obtain ⟨e2, v2, M2, _, H2, H⟩ := onk_8 s1.sq H
  have hn : ¬ (-1 : Int32) ∈ ss6 := fun q => by
    rcases s9 _ q with q | q
    · cases q
    · exact absurd q.1 (by decide)
  have hr : (tksP T n (P, [])).1 = P6 := by
    rw [← gof_tks (w := -1) n (P, []) (by rw [g1]; exact hn), g1]
  obtain ⟨rv2, q1, q2, q3, q4, q5, q6, q7, q8⟩ := ewk_ok s1 s2 s3 s4 s5 H2
  rw [rv2] at H
  obtain ⟨u1, u2⟩ := onk_16 q1.sq H
  have ew : wksP T n P = wekP (T 0) P6 := by unfold wksP; rw [hr]
  rw [ew, u2]
  have c1 := tri_F s7 hC s1
  refine ⟨u1, ⟨tri_F q6 c1 q1, q1, q5, q2, q3, q4, ⟨(q7 9).trans s6.1, (q7 10).trans (s6.2.trans ?_)⟩⟩, (gw_tri s7).trans (gw_tri q6)⟩
  rw [decide_eq_false hn]
  rfl
theorem tri_worn {w : Int32} (h : TRI T P0 PI B w ss P M) (hc : inC P c) : G_56 M c = bI (wrnB (T 0) P c) := g56_ok h.2.1.1.1 hc
end CTRI
