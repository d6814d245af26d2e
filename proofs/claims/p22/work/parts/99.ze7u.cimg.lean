/-! THE CLASS'S image, restore, openCase -/
section CIMG
variable {e B L : Nat} {T : TS} {P P' Q : PK} {PI : Nat → PK} {M M1 M' : Mem} {v : Option Value} {c k d x a b t y : Int32} {n i j : Nat}
theorem img_rng (h : inX k 0 2) : ∃ m : Nat, m < 3 ∧ k.toInt = (m : Int) := by
  unfold inX at h
  have t0 : (0 : Int32).toInt = 0 := rfl
  have t2 : (2 : Int32).toInt = 2 := rfl
  exact ⟨k.toInt.toNat, by omega, by omega⟩
noncomputable def upI (PI : Nat → PK) (m : Nat) (P : PK) : Nat → PK := fun j => if j = m then P else PI j
/-- a land that is not the live one becomes another -/
theorem CST.cop (h : CST T P PI M) (hL : gNth sT L = some 8) (hne : ¬ L = 8) (hS : SQ M') (hF : FZ (cpF L) (cpW L) noO M M') (hI : ∀ k, k < 3 → ¬ rN M 340 k = 0 → ¬ imgA k = L) : CST T P PI M' := by
  obtain ⟨a1, ⟨a2, a3, a4⟩, a5, a6, a7, a8, ⟨a9, a10⟩, a11⟩ := h
  have hl := ld_cases hL
  refine ⟨hS, ⟨(hF.fr (by unfold cpF; omega)).trans a2, (hF.fr (by unfold cpF; omega)).trans a3, fun k hk => (hF.on (fun q => q)).trans (a4 k hk)⟩, a5.fz a1.1 hF (by unfold cpF; omega) (fun t ht => ?_) (fun q => q), fun m hm => (hF.on (fun q => q)).trans (a6 m hm), a7.fz hF (by unfold cpF; omega) (by unfold cpF; omega) (fun a _ _ => by unfold cpW; omega), fun L hL => ⟨fun k hk => (hF.on (fun q => q)).trans ((a8 L hL).1 k hk), (a8 L hL).2.on (fun j => hF.on (fun q => q))⟩, ⟨a9, a10.fz hF (fun a k q1 q2 => by unfold cpF; omega) (fun a q1 q2 => by unfold cpW; omega) (fun q => q) (a8 8 lnd_8).2 a9.n24 a9.k60⟩, fun k hk hr => ?_⟩
  · have := tx_cases ht
    exact ⟨fun k => by unfold cpF; omega, fun k k1 k8 => by unfold cpW; omega⟩
  · have er : rN M' 340 k = rN M 340 k := hF.rn (by unfold cpW; omega)
    rw [er] at hr
    obtain ⟨b1, b2⟩ := a11 k hk hr
    have hi := hI k hk hr
    have h3 := lnd_im k hk
    unfold imgA at hi
    exact ⟨b1, b2.fz hF (fun a k q1 q2 => by unfold imgA at q1 q2; unfold cpF; omega) (fun a q1 q2 => by unfold imgA at q1 q2; unfold cpW; omega) (fun q => q) (a8 _ h3).2 b1.n24 b1.k60⟩
theorem image_ok (h : CST T P PI M) (H : Ev none e 123 0 [some (.ref 0), some (.int k)] [] M v M' 0 0) : (¬ inX k 0 2 ∧ v = some (.int 0) ∧ M' = M) ∨ (inX k 0 2 ∧ v = some (.int 1) ∧ CST T P (upI PI k.toInt.toNat P) M') := by
  have hS := h.sq
  have hD := h.ok.1
  rcases img_0 hS h.ld H with ⟨a1, r1, r2⟩ | ⟨a1, _, e1, v1, M1, _, H1, H⟩
  · rw [g126_R] at a1
    exact Or.inl ⟨a1, r1, r2⟩
  · rw [g126_R, Classical.not_not] at a1
    obtain ⟨m, m3, hk⟩ := img_rng a1
    have ei : oI M 339 k = imgA m := by unfold oI; rw [cl_n hk]; exact h.2.1.2.2 m m3
    have hi := lnd_im m m3
    have hne : imgA m ≠ 8 := by unfold imgA; omega
    rw [ei] at H1
    obtain ⟨_, _, _, _, _, hXs, _, _⟩ := id h
    obtain ⟨rv, s1, s2, s3⟩ := copy_ok hS hi lnd_8 hne hD h.ok.2.1 (hXs _ hi).1 h.wx (hXs _ hi).2 h.wk h.lan H1
    rw [rv] at H
    obtain ⟨_, u1, u2⟩ := img_24 s1 H
    rw [cl_n hk] at u2
    have hF : FZ noF (fun a => a = 340) noO M1 M' := by rw [u2]; exact FZ.wI (W := fun a => a = 340) rfl
    have S' : SQ M' := by rw [u2]; exact s1.ki
    have F2 : FZ (cpF (imgA m)) (fun a => cpW (imgA m) a ∨ a = 340) noO M M' := (s2.more (fun _ _ q => q) (fun _ q => Or.inl q) (fun _ q => q)).trans (hF.more (fun _ _ q => q.elim) (fun _ q => Or.inr q) (fun _ q => q))
    refine Or.inr ⟨a1, u1, ?_⟩
    obtain ⟨b1, ⟨b2, b3, b4⟩, b5, b6, b7, b8, ⟨b9, b10⟩, b11⟩ := h
    refine ⟨S', ⟨(F2.fr (by unfold cpF imgA; omega)).trans b2, (F2.fr (by unfold cpF imgA; omega)).trans b3, fun k hk => (F2.on (fun q => q)).trans (b4 k hk)⟩, b5.fz b1.1 F2 (by unfold cpF imgA; omega) (fun t ht => ?_) (fun q => q), fun m hm => (F2.on (fun q => q)).trans (b6 m hm), b7.fz F2 (by unfold cpF imgA; omega) (by unfold cpF imgA; omega) (fun a _ _ => by unfold cpW imgA; omega), fun L hL => ⟨fun k hk => (F2.on (fun q => q)).trans ((b8 L hL).1 k hk), (b8 L hL).2.on (fun j => F2.on (fun q => q))⟩, ⟨b9, b10.fz F2 (fun a k q1 q2 => by unfold cpF imgA; omega) (fun a q1 q2 => by unfold cpW imgA; omega) (fun q => q) (b8 8 lnd_8).2 b9.n24 b9.k60⟩, fun j hj hr => ?_⟩
    · have := tx_cases ht
      exact ⟨fun k => by unfold cpF imgA; omega, fun k k1 k8 => by unfold cpW imgA; omega⟩
    · have em : k.toInt.toNat = m := by omega
      unfold upI
      rw [em]
      by_cases hjm : j = m
      · rw [if_pos hjm, hjm]
        exact ⟨b9, s3.fz hF (fun _ _ _ _ q => q) (fun a q1 q2 q => by unfold imgA at q1 q2; omega) (fun q => q) ((b8 _ hi).2.on (fun j => s2.on (fun q => q))) b9.n24 b9.k60⟩
      · rw [if_neg hjm]
        have er : rN M' 340 j = rN M 340 j := by
          rw [u2, rN_wI_ne (by omega)]
          exact s2.rn (by unfold cpW imgA; omega)
        rw [er] at hr
        obtain ⟨c1, c2⟩ := b11 j hj hr
        exact ⟨c1, c2.fz F2 (fun a k q1 q2 => by unfold imgA at q1 q2; unfold cpF imgA; omega) (fun a q1 q2 => by unfold imgA at q1 q2; unfold cpW imgA; omega) (fun q => q) (b8 _ (lnd_im j hj)).2 c1.n24 c1.k60⟩
theorem restore_ok (h : CST T P PI M) (H : Ev none e 124 0 [some (.ref 0), some (.int k)] [] M v M' 0 0) : ((¬ inX k 0 2 ∨ rN M 340 k.toInt.toNat = 0) ∧ v = some (.int 0) ∧ M' = M) ∨ (inX k 0 2 ∧ ¬ rN M 340 k.toInt.toNat = 0 ∧ v = some (.int 1) ∧ CST T (PI k.toInt.toNat) PI M') := by
  have hS := h.sq
  rcases rst_0 hS h.ld H with ⟨a1, r1, r2⟩ | ⟨a1, a2, _, r1, r2⟩ | ⟨a1, a2, _, _, e1, v1, M1, _, H1, H⟩
  · rw [g126_R] at a1
    exact Or.inl ⟨Or.inl a1, r1, r2⟩
  · rw [g126_R, Classical.not_not] at a1
    obtain ⟨m, m3, hk⟩ := img_rng a1
    have em : k.toInt.toNat = m := by omega
    rw [rI_n hk] at a2
    rw [em]
    exact Or.inl ⟨Or.inr a2, r1, r2⟩
  · rw [g126_R, Classical.not_not] at a1
    obtain ⟨m, m3, hk⟩ := img_rng a1
    have em : k.toInt.toNat = m := by omega
    rw [rI_n hk] at a2
    rw [em]
    have ei : oI M 339 k = imgA m := by unfold oI; rw [cl_n hk]; exact h.2.1.2.2 m m3
    have hi := lnd_im m m3
    have hne : 8 ≠ imgA m := by unfold imgA; omega
    rw [ei] at H1
    obtain ⟨_, _, _, _, _, hXs, _, hPI⟩ := id h
    obtain ⟨c1, c2⟩ := hPI m m3 a2
    obtain ⟨rv, s1, s2, s3⟩ := copy_ok hS lnd_8 hi hne c1.1 c1.2.1 h.wx (hXs _ hi).1 h.wk (hXs _ hi).2 c2 H1
    rw [rv] at H
    obtain ⟨u1, u2⟩ := rst_33 s1 H
    refine Or.inr ⟨a1, a2, u1, ?_⟩
    rw [u2]
    exact h.live s1 s2 c1 s3
/-- a trial on the other land -/
theorem openC_ok (h : CST T P PI M) (H : Ev none e 133 0 [some (.ref 0)] [] M v M' 0 0) : v = none ∧ CST T P PI M' ∧ STA 243 T P M' ∧ LST 243 P M' ∧ WFl (-1) [] M' := by
  have hS := h.sq
  have hD := h.ok.1
  obtain ⟨e1, v1, M1, _, H1, H⟩ := opc_0 hS h.ld h.2.1.2.1 H
  obtain ⟨_, _, _, _, _, hXs, _, _⟩ := id h
  obtain ⟨rv, s1, s2, s3⟩ := copy_ok hS lnd_tr lnd_8 (by decide) hD h.ok.2.1 (hXs _ lnd_tr).1 h.wx (hXs _ lnd_tr).2 h.wk h.lan H1
  rw [rv] at H
  have h1 : CST T P PI M1 := h.cop lnd_tr (by decide) s1 s2 (fun k hk _ => by unfold imgA; omega)
  obtain ⟨e2, v2, M2, _, H2, H⟩ := opc_11 s1 h1.ld h1.2.1.2.1 H
  obtain ⟨_, _, _, _, hG, hXs1, _, _⟩ := id h1
  obtain ⟨rv2, q2, q3, q4, q5, _, _, q6⟩ := enter_ok s1 lnd_tr hD.1 h1.ok.2.2.2.nn hG h1.2.2.2.1 h1.2.2.1 s3 (hXs1 _ lnd_tr).1 (hXs1 _ lnd_tr).2 h1.ok.n24 h1.ok.k60 H2
  rw [rv2] at H
  obtain ⟨u1, u2⟩ := opc_22 q2.sq H
  rw [u2]
  refine ⟨u1, h1.scr q2.sq q4 ⟨by unfold enF shgF; omega, by unfold enF shgF; omega, by unfold enF shgF; omega⟩ (fun L hL _ => ⟨fun a k q1 q2 => ?_, fun a q1 q2 => ?_⟩) (fun t ht => ⟨fun k => ?_, fun k k1 k8 => ?_⟩) ⟨fun q => q, fun q => q, fun q => q⟩ (fun _ _ _ q => q) (fun L hL => ⟨fun k hk => (q4.on (fun q => q)).trans ((hXs1 L hL).1 k hk), (hXs1 L hL).2.on (fun j => q4.on (fun q => q))⟩) q5 (by unfold enW shgW; omega), q2, q3, q6⟩
  · have := ld_cases hL
    unfold enF shgF
    omega
  · have := ld_cases hL
    unfold enW shgW
    omega
  · have := tx_cases ht
    unfold enF shgF
    omega
  · have := tx_cases ht
    unfold enW shgW
    omega
end CIMG
