/-! THE CLASS'S tapeTellsPark: pieces (made by gwal4.py) -/
theorem ttp_0 {e : Nat} {M M' : Mem} {v : Option Value} {a b : Int32} (hS : SQ M) (H : Ev none e 83 0 [some (.ref 0), some (.int a), some (.int b), none] [] M v M' 0 0) : ((G_126 M a 4 16) = 0 ∧ v = some (.int 0) ∧ M' = M) ∨ (¬ ((G_126 M a 4 16) = 0) ∧ (G_126 M b 4 16) = 0 ∧ v = some (.int 0) ∧ M' = M) ∨ (¬ ((G_126 M a 4 16) = 0) ∧ ¬ ((G_126 M b 4 16) = 0) ∧ (zI M 1 1) = (a * b) ∧ Ev none e 83 37 [some (.ref 0), some (.int a), some (.int b), some (.int 0)] [] M v M' 0 0) ∨ (¬ ((G_126 M a 4 16) = 0) ∧ ¬ ((G_126 M b 4 16) = 0) ∧ ¬ ((zI M 1 1) = (a * b)) ∧ v = some (.int 0) ∧ M' = M) := by
  have H : Ev none e 83 4 [some (.ref 0), some (.int a), some (.int b), none] [.int 16, .int 4, .int a] M v M' 0 0 := Ev.back 3 (fun n => rfl) H
  obtain ⟨e1, rfl⟩ := Ev.dpos rfl rfl H
  obtain ⟨vK1, MK1, K1, H⟩ := Ev.callb (fun n => rfl) H
  obtain ⟨pK1, qK1⟩ := g_126 hS K1
  rw [pK1, qK1] at H
  have H : Ev none (e1 + 1) 83 7 [some (.ref 0), some (.int a), some (.int b), none] [.int (G_126 M a 4 16)] M v M' 0 0 := H
  have H : Ev none (e1 + 1) 83 (if (G_126 M a 4 16) = 0 then 33 else 10) [some (.ref 0), some (.int a), some (.int b), none] [] M v M' 0 0 := Ev.back 1 (fun n => rfl) H
  by_cases h2 : (G_126 M a 4 16) = 0
  · rw [if_pos h2] at H
    have H : Ev none (e1 + 1) 83 34 [some (.ref 0), some (.int a), some (.int b), none] [.int 0] M v M' 0 0 := Ev.back 1 (fun n => rfl) H
    obtain ⟨z1, z2⟩ := Ev.retz rfl rfl H
    exact Or.inl ⟨h2, z1, z2⟩
  · rw [if_neg h2] at H
    have H : Ev none (e1 + 1) 83 14 [some (.ref 0), some (.int a), some (.int b), none] [.int 16, .int 4, .int b] M v M' 0 0 := Ev.back 3 (fun n => rfl) H
    obtain ⟨vK3, MK3, K3, H⟩ := Ev.callb (fun n => rfl) H
    obtain ⟨pK3, qK3⟩ := g_126 hS K3
    rw [pK3, qK3] at H
    have H : Ev none (e1 + 1) 83 17 [some (.ref 0), some (.int a), some (.int b), none] [.int (G_126 M b 4 16)] M v M' 0 0 := H
    have H : Ev none (e1 + 1) 83 (if (G_126 M b 4 16) = 0 then 33 else 20) [some (.ref 0), some (.int a), some (.int b), none] [] M v M' 0 0 := Ev.back 1 (fun n => rfl) H
    by_cases h4 : (G_126 M b 4 16) = 0
    · rw [if_pos h4] at H
      have H : Ev none (e1 + 1) 83 34 [some (.ref 0), some (.int a), some (.int b), none] [.int 0] M v M' 0 0 := Ev.back 1 (fun n => rfl) H
      obtain ⟨z1, z2⟩ := Ev.retz rfl rfl H
      exact Or.inr (Or.inl ⟨h2, h4, z1, z2⟩)
    · rw [if_neg h4] at H
      have H : Ev none (e1 + 1) 83 21 [some (.ref 0), some (.int a), some (.int b), none] [.ref 0] M v M' 0 0 := Ev.back 1 (fun n => rfl) H
      have H : Ev none (e1 + 1) 83 24 [some (.ref 0), some (.int a), some (.int b), none] [.ref 1] M v M' 0 0 := Ev.back 1 (gs_3 rfl rfl (gf_u hS.1 qa_0 qr_0_0 qu_1 rfl)) H
      have H : Ev none (e1 + 1) 83 27 [some (.ref 0), some (.int a), some (.int b), none] [.int (zI M 1 1)] M v M' 0 0 := Ev.back 1 (gs_3 rfl rfl (gf_i hS.1 qa_1 qi_1_1 rfl)) H
      have H : Ev none (e1 + 1) 83 (if (zI M 1 1) = (a * b) then 35 else 33) [some (.ref 0), some (.int a), some (.int b), none] [] M v M' 0 0 := Ev.back 4 (fun n => rfl) H
      by_cases h5 : (zI M 1 1) = (a * b)
      · rw [if_pos h5] at H
        have H : Ev none (e1 + 1) 83 37 [some (.ref 0), some (.int a), some (.int b), some (.int 0)] [] M v M' 0 0 := Ev.back 2 (fun n => rfl) H
        have HF := H
        exact Or.inr (Or.inr (Or.inl ⟨h2, h4, h5, HF⟩))
      · rw [if_neg h5] at H
        have H : Ev none (e1 + 1) 83 34 [some (.ref 0), some (.int a), some (.int b), none] [.int 0] M v M' 0 0 := Ev.back 1 (fun n => rfl) H
        obtain ⟨z1, z2⟩ := Ev.retz rfl rfl H
        exact Or.inr (Or.inr (Or.inr (⟨h2, h4, h5, z1, z2⟩)))
theorem ttp_37 {e : Nat} {M M' : Mem} {v : Option Value} {a b k : Int32} (hS : SQ M) (H : Ev none e 83 37 [some (.ref 0), some (.int a), some (.int b), some (.int k)] [] M v M' 0 0) : ((zI M 1 1) ≤ k ∧ v = some (.int 1) ∧ M' = M) ∨ (¬ ((zI M 1 1) ≤ k) ∧ ((rI M 2 k) &&& 7) ≤ 6 ∧ (0 ≤ k.toInt ∧ k.toInt < 440) ∧ Ev none e 83 37 [some (.ref 0), some (.int a), some (.int b), some (.int (k + 1))] [] M v M' 0 0) ∨ (¬ ((zI M 1 1) ≤ k) ∧ ¬ (((rI M 2 k) &&& 7) ≤ 6) ∧ (0 ≤ k.toInt ∧ k.toInt < 440) ∧ v = some (.int 0) ∧ M' = M) := by
  have H : Ev none e 83 39 [some (.ref 0), some (.int a), some (.int b), some (.int k)] [.ref 0, .int k] M v M' 0 0 := Ev.back 2 (fun n => rfl) H
  have H : Ev none e 83 42 [some (.ref 0), some (.int a), some (.int b), some (.int k)] [.ref 1, .int k] M v M' 0 0 := Ev.back 1 (gs_3 rfl rfl (gf_u hS.1 qa_0 qr_0_0 qu_1 rfl)) H
  have H : Ev none e 83 45 [some (.ref 0), some (.int a), some (.int b), some (.int k)] [.int (zI M 1 1), .int k] M v M' 0 0 := Ev.back 1 (gs_3 rfl rfl (gf_i hS.1 qa_1 qi_1_1 rfl)) H
  have H : Ev none e 83 (if (zI M 1 1) ≤ k then 73 else 48) [some (.ref 0), some (.int a), some (.int b), some (.int k)] [] M v M' 0 0 := Ev.back 1 (fun n => rfl) H
  by_cases h1 : (zI M 1 1) ≤ k
  · rw [if_pos h1] at H
    have H : Ev none e 83 74 [some (.ref 0), some (.int a), some (.int b), some (.int k)] [.int 1] M v M' 0 0 := Ev.back 1 (fun n => rfl) H
    obtain ⟨z1, z2⟩ := Ev.retz rfl rfl H
    exact Or.inl ⟨h1, z1, z2⟩
  · rw [if_neg h1] at H
    have H : Ev none e 83 49 [some (.ref 0), some (.int a), some (.int b), some (.int k)] [.ref 0] M v M' 0 0 := Ev.back 1 (fun n => rfl) H
    have H : Ev none e 83 52 [some (.ref 0), some (.int a), some (.int b), some (.int k)] [.ref 1] M v M' 0 0 := Ev.back 1 (gs_3 rfl rfl (gf_u hS.1 qa_0 qr_0_0 qu_1 rfl)) H
    have H : Ev none e 83 55 [some (.ref 0), some (.int a), some (.int b), some (.int k)] [.ref 2] M v M' 0 0 := Ev.back 1 (gs_3 rfl rfl (gf_u hS.1 qa_1 qr_1_0 qu_2 rfl)) H
    have H : Ev none e 83 56 [some (.ref 0), some (.int a), some (.int b), some (.int k)] [.int k, .ref 2] M v M' 0 0 := Ev.back 1 (fun n => rfl) H
    obtain ⟨b2, H⟩ := Ev.ial rfl rfl hS.1 qa_2 qw_2 H
    have H : Ev none e 83 57 [some (.ref 0), some (.int a), some (.int b), some (.int k)] [.int (rI M 2 k)] M v M' 0 0 := H
    have H : Ev none e 83 (if ((rI M 2 k) &&& 7) ≤ 6 then 67 else 65) [some (.ref 0), some (.int a), some (.int b), some (.int k)] [] M v M' 0 0 := Ev.back 4 (fun n => rfl) H
    by_cases h3 : ((rI M 2 k) &&& 7) ≤ 6
    · rw [if_pos h3] at H
      have H : Ev none e 83 37 [some (.ref 0), some (.int a), some (.int b), some (.int (k + 1))] [] M v M' 0 0 := Ev.back 2 (fun n => rfl) H
      have HF := H
      exact Or.inr (Or.inl ⟨h1, h3, b2, HF⟩)
    · rw [if_neg h3] at H
      have H : Ev none e 83 66 [some (.ref 0), some (.int a), some (.int b), some (.int k)] [.int 0] M v M' 0 0 := Ev.back 1 (fun n => rfl) H
      obtain ⟨z1, z2⟩ := Ev.retz rfl rfl H
      exact Or.inr (Or.inr (⟨h1, h3, b2, z1, z2⟩))
/-! THE CLASS'S park, image, restore -/
def parT (a b z : Int32) (o : Nat → Int32) : Prop := inX a 4 16 ∧ inX b 4 16 ∧ z = a * b ∧ ∀ k, k < a.toInt.toNat * b.toInt.toNat → ¬ byI (o k) 0 = 7
section CPAR
variable {e B L : Nat} {T : TS} {P P' Q : PK} {PI : Nat → PK} {M M1 M' : Mem} {v : Option Value} {c k d x a b t y : Int32} {n i j : Nat}
theorem ttp_l (hS : SQ M) (hn : (zI M 1 1).toInt = (n : Int)) (hb : ∀ k, k < n → 0 ≤ (rN M 2 k).toInt ∧ (rN M 2 k).toInt < 256) : ∀ (r k : Nat) (kz : Int32), kz.toInt = (k : Int) → k + r = n → (∀ i, i < k → ¬ byI (rN M 2 i) 0 = 7) → Ev none e 83 37 [some (.ref 0), some (.int a), some (.int b), some (.int kz)] [] M v M' 0 0 → M' = M ∧ ((v = some (.int 1) ∧ ∀ i, i < n → ¬ byI (rN M 2 i) 0 = 7) ∨ (v = some (.int 0) ∧ ∃ i, i < n ∧ byI (rN M 2 i) 0 = 7)) := by
  have t6 : (6 : Int32).toInt = 6 := rfl
  have t7 : (7 : Int32).toInt = 7 := rfl
  intro r
  induction r with
  | zero =>
    intro k kz hk hkr hg H
    rcases ttp_37 hS H with ⟨_, r1, r2⟩ | ⟨a1, _⟩ | ⟨a1, _⟩
    · exact ⟨r2, Or.inl ⟨r1, fun i hi => hg i (by omega)⟩⟩
    all_goals exact absurd (Int32.le_iff_toInt_le.mpr (by omega)) a1
  | succ r ih =>
    intro k kz hk hkr hg H
    have hbk := hb k (by omega)
    have hbb := (by_bits hbk).1
    have hbr := (by_rng hbk).1
    have er : rI M 2 kz = rN M 2 k := rI_n hk
    have hz := (i32_lt (zI M 1 1)).2
    rcases ttp_37 hS H with ⟨a1, _⟩ | ⟨_, a2, _, H⟩ | ⟨_, a2, _, r1, r2⟩
    · have := Int32.le_iff_toInt_le.mp a1
      omega
    · rw [er, hbb] at a2
      have a2 := Int32.le_iff_toInt_le.mp a2
      refine ih (k + 1) (kz + 1) (by rw [i32_p1 (by omega)]; omega) (by omega) (fun i hi => ?_) H
      by_cases hik : i = k
      · rw [hik]
        intro q
        rw [q] at a2
        omega
      · exact hg i (by omega)
    · rw [er, hbb] at a2
      have a2' : ¬ (byI (rN M 2 k) 0).toInt ≤ (6 : Int32).toInt := fun s => a2 (Int32.le_iff_toInt_le.mpr s)
      exact ⟨r2, Or.inr ⟨r1, k, by omega, Int32.toInt_inj.mp (by omega)⟩⟩
theorem ttp_ok (hS : SQ M) (hb : ∀ k, k < (zI M 1 1).toInt.toNat → 0 ≤ (rN M 2 k).toInt ∧ (rN M 2 k).toInt < 256) (H : Ev none e 83 0 [some (.ref 0), some (.int a), some (.int b), none] [] M v M' 0 0) : M' = M ∧ ((parT a b (zI M 1 1) (rN M 2) ∧ v = some (.int 1)) ∨ (¬ parT a b (zI M 1 1) (rN M 2) ∧ v = some (.int 0))) := by
  have t4 : (4 : Int32).toInt = 4 := rfl
  have t16 : (16 : Int32).toInt = 16 := rfl
  unfold parT
  rcases ttp_0 hS H with ⟨a1, r1, r2⟩ | ⟨_, a1, r1, r2⟩ | ⟨a1, a2, a3, H⟩ | ⟨a1, a2, a3, r1, r2⟩
  · rw [g126_R] at a1
    exact ⟨r2, Or.inr ⟨fun q => a1 q.1, r1⟩⟩
  · rw [g126_R] at a1
    exact ⟨r2, Or.inr ⟨fun q => a1 q.2.1, r1⟩⟩
  · rw [g126_R, Classical.not_not] at a1 a2
    have w1 : 4 ≤ a.toInt ∧ a.toInt ≤ 16 := by unfold inX at a1; omega
    have w2 : 4 ≤ b.toInt ∧ b.toInt ≤ 16 := by unfold inX at a2; omega
    obtain ⟨c1, c2, _⟩ := cls_int (parP_wh (o := rN M 2) w1 w2)
    have cw : clsP (parP a b (rN M 2)) = a.toInt.toNat * b.toInt.toNat := rfl
    rw [cw] at c1 c2
    rw [parP_0, parP_1] at c1
    have hn : (zI M 1 1).toInt = ((a.toInt.toNat * b.toInt.toNat : Nat) : Int) := by rw [a3, i32_mul (by omega) (by omega)]; exact c1.symm
    obtain ⟨rm, rv⟩ := ttp_l hS hn (fun k hk => hb k (by omega)) (a.toInt.toNat * b.toInt.toNat) 0 0 rfl (by omega) (fun i hi => absurd hi (Nat.not_lt_zero _)) H
    rcases rv with ⟨rv, g⟩ | ⟨rv, i, i1, i2⟩
    · exact ⟨rm, Or.inl ⟨⟨a1, a2, a3, g⟩, rv⟩⟩
    · exact ⟨rm, Or.inr ⟨fun q => q.2.2.2 i i1 i2, rv⟩⟩
  · exact ⟨r2, Or.inr ⟨fun q => a3 q.2.2.1, r1⟩⟩
/-- the tape's length is no part of the state -/
theorem CST.tp (h : CST T P PI M) : CST T P PI (wF M 1 1 y) := by
  have hF : FZ (fun a k => a = 1 ∧ k = 1) noO noO M (wF M 1 1 y) := FZ.wF ⟨rfl, rfl⟩
  refine h.scr h.sq.kf hF ⟨by omega, by omega, by omega⟩ (fun L hL _ => ⟨fun a k q1 q2 q => ?_, fun a _ _ q => q⟩) (fun t ht => ⟨fun k q => ?_, fun k _ _ q => q⟩) ⟨fun q => q, fun q => q, fun q => q⟩ (fun _ _ _ q => q) (fun L hL => ⟨fun k hk => (hF.on (fun q => q)).trans ((h.2.2.2.2.2.1 L hL).1 k hk), (h.2.2.2.2.2.1 L hL).2.on (fun j => hF.on (fun q => q))⟩) (h.2.2.2.2.1.fz hF (by omega) (by omega) (fun _ _ _ q => q)) (fun q => q)
  · have := ld_cases hL
    have := q.1
    omega
  · have := tx_cases ht
    have := q.1
    omega
theorem park_ok (h : CST T P PI M) (hb : ∀ k, k < (zI M 1 1).toInt.toNat → 0 ≤ (rN M 2 k).toInt ∧ (rN M 2 k).toInt < 256) (H : Ev none e 82 0 [some (.ref 0), some (.int a), some (.int b), none] [] M v M' 0 0) : (¬ parT a b (zI M 1 1) (rN M 2) ∧ v = some (.int 0) ∧ CST T P PI M') ∨ (parT a b (zI M 1 1) (rN M 2) ∧ v = some (.int 1) ∧ CST T (parP a b (rN M 2)) PI M') := by
  have hS := h.sq
  obtain ⟨e1, v1, M1, _, H1, H⟩ := prk_0 hS H
  obtain ⟨rm, rv⟩ := ttp_ok hS hb H1
  rw [rm] at H
  rcases rv with ⟨hp, rv⟩ | ⟨hp, rv⟩
  · rw [rv] at H
    have t4 : (4 : Int32).toInt = 4 := rfl
    have t16 : (16 : Int32).toInt = 16 := rfl
    obtain ⟨p1, p2, p3, p4⟩ := hp
    have w1 : 4 ≤ a.toInt ∧ a.toInt ≤ 16 := by unfold inX at p1; omega
    have w2 : 4 ≤ b.toInt ∧ b.toInt ≤ 16 := by unfold inX at p2; omega
    obtain ⟨c1, c2, _⟩ := cls_int (parP_wh (o := rN M 2) w1 w2)
    have cw : clsP (parP a b (rN M 2)) = a.toInt.toNat * b.toInt.toNat := rfl
    rw [cw] at c1 c2
    rw [parP_0, parP_1] at c1
    have hn : (zI M 1 1).toInt = ((a.toInt.toNat * b.toInt.toNat : Nat) : Int) := by rw [p3, i32_mul (by omega) (by omega)]; exact c1.symm
    rcases prk_6 hS h.ld H with ⟨q, _⟩ | ⟨_, e2, v2, M2, _, H2, H⟩
    · exact absurd q (by decide)
    · obtain ⟨rv2, s1, s2, s3⟩ := renew_ok hS lnd_8 w1 w2 (fun k hk => hb k (by omega)) H2
      rw [rv2] at H
      obtain ⟨u1, u2⟩ := prk_24 s1 H
      obtain ⟨d1, d2⟩ := parP_D (o := rN M 2) w1 w2
      have z518 : parP a b (rN M 2) 518 = 0 := parP_z (by decide) (by decide)
      have ok : okA (parP a b (rN M 2)) := ⟨d1, d2, by rw [z518]; decide, parP_E (fun k hk => ⟨hb k (by omega), p4 k hk⟩)⟩
      refine Or.inr ⟨⟨p1, p2, p3, p4⟩, u1, ?_⟩
      rw [u2]
      exact (h.live s1 (s2.more (fun a k q => ⟨Nat.le_of_eq q.1.symm, by have := q.1; omega⟩) (fun _ q => q) (fun _ q => q)) ok s3).tp
  · rw [rv] at H
    rcases prk_6 hS h.ld H with ⟨_, r1, r2⟩ | ⟨q, _⟩
    · refine Or.inl ⟨hp, r1, ?_⟩
      rw [r2]
      exact h.tp
    · exact absurd rfl q
end CPAR
/-! THE CLASS'S image, restore, openCase -/
section CIMG
variable {e B L : Nat} {T : TS} {P P' Q : PK} {PI : Nat → PK} {M M1 M' : Mem} {v : Option Value} {c k d x a b t y : Int32} {n i j : Nat}
theorem img_rng (h : inX k 0 2) : ∃ m : Nat, m < 3 ∧ k.toInt = (m : Int) := by
  unfold inX at h
  have t0 : (0 : Int32).toInt = 0 := rfl
  have t2 : (2 : Int32).toInt = 2 := rfl
  exact ⟨k.toInt.toNat, by omega, by omega⟩
noncomputable def upI (PI : Nat → PK) (m : Nat) (P : PK) : Nat → PK := fun j => if j = m then P else PI j
/-- a land that is not the live one becomes another -/
theorem CST.cop (h : CST T P PI M) (hL : gNth sT L = some 8) (hne : ¬ L = 8) (hS : SQ M') (hF : FZ (cpF L) (cpW L) noO M M') (hI : ∀ k, k < 3 → ¬ rN M 340 k = 0 → ¬ imgA k = L) : CST T P PI M' := by
  obtain ⟨a1, ⟨a2, a3, a4⟩, a5, a6, a7, a8, ⟨a9, a10⟩, a11⟩ := h
  have hl := ld_cases hL
  refine ⟨hS, ⟨(hF.fr (by unfold cpF; omega)).trans a2, (hF.fr (by unfold cpF; omega)).trans a3, fun k hk => (hF.on (fun q => q)).trans (a4 k hk)⟩, a5.fz a1.1 hF (by unfold cpF; omega) (fun t ht => ?_) (fun q => q), fun m hm => (hF.on (fun q => q)).trans (a6 m hm), a7.fz hF (by unfold cpF; omega) (by unfold cpF; omega) (fun a _ _ => by unfold cpW; omega), fun L hL => ⟨fun k hk => (hF.on (fun q => q)).trans ((a8 L hL).1 k hk), (a8 L hL).2.on (fun j => hF.on (fun q => q))⟩, ⟨a9, a10.fz hF (fun a k q1 q2 => by unfold cpF; omega) (fun a q1 q2 => by unfold cpW; omega) (fun q => q) (a8 8 lnd_8).2 a9.n24 a9.k60⟩, fun k hk hr => ?_⟩
  · have := tx_cases ht
    exact ⟨fun k => by unfold cpF; omega, fun k k1 k8 => by unfold cpW; omega⟩
  · have er : rN M' 340 k = rN M 340 k := hF.rn (by unfold cpW; omega)
    rw [er] at hr
    obtain ⟨b1, b2⟩ := a11 k hk hr
    have hi := hI k hk hr
    have h3 := lnd_im k hk
    unfold imgA at hi
    exact ⟨b1, b2.fz hF (fun a k q1 q2 => by unfold imgA at q1 q2; unfold cpF; omega) (fun a q1 q2 => by unfold imgA at q1 q2; unfold cpW; omega) (fun q => q) (a8 _ h3).2 b1.n24 b1.k60⟩
theorem image_ok (h : CST T P PI M) (H : Ev none e 123 0 [some (.ref 0), some (.int k)] [] M v M' 0 0) : (¬ inX k 0 2 ∧ v = some (.int 0) ∧ M' = M) ∨ (inX k 0 2 ∧ v = some (.int 1) ∧ CST T P (upI PI k.toInt.toNat P) M') := by
  have hS := h.sq
  have hD := h.ok.1
  rcases img_0 hS h.ld H with ⟨a1, r1, r2⟩ | ⟨a1, _, e1, v1, M1, _, H1, H⟩
  · rw [g126_R] at a1
    exact Or.inl ⟨a1, r1, r2⟩
  · rw [g126_R, Classical.not_not] at a1
    obtain ⟨m, m3, hk⟩ := img_rng a1
    have ei : oI M 339 k = imgA m := by unfold oI; rw [cl_n hk]; exact h.2.1.2.2 m m3
    have hi := lnd_im m m3
    have hne : imgA m ≠ 8 := by unfold imgA; omega
    rw [ei] at H1
    obtain ⟨_, _, _, _, _, hXs, _, _⟩ := id h
    obtain ⟨rv, s1, s2, s3⟩ := copy_ok hS hi lnd_8 hne hD h.ok.2.1 (hXs _ hi).1 h.wx (hXs _ hi).2 h.wk h.lan H1
    rw [rv] at H
    obtain ⟨_, u1, u2⟩ := img_24 s1 H
    rw [cl_n hk] at u2
    have hF : FZ noF (fun a => a = 340) noO M1 M' := by rw [u2]; exact FZ.wI (W := fun a => a = 340) rfl
    have S' : SQ M' := by rw [u2]; exact s1.ki
    have F2 : FZ (cpF (imgA m)) (fun a => cpW (imgA m) a ∨ a = 340) noO M M' := (s2.more (fun _ _ q => q) (fun _ q => Or.inl q) (fun _ q => q)).trans (hF.more (fun _ _ q => q.elim) (fun _ q => Or.inr q) (fun _ q => q))
    refine Or.inr ⟨a1, u1, ?_⟩
    obtain ⟨b1, ⟨b2, b3, b4⟩, b5, b6, b7, b8, ⟨b9, b10⟩, b11⟩ := h
    refine ⟨S', ⟨(F2.fr (by unfold cpF imgA; omega)).trans b2, (F2.fr (by unfold cpF imgA; omega)).trans b3, fun k hk => (F2.on (fun q => q)).trans (b4 k hk)⟩, b5.fz b1.1 F2 (by unfold cpF imgA; omega) (fun t ht => ?_) (fun q => q), fun m hm => (F2.on (fun q => q)).trans (b6 m hm), b7.fz F2 (by unfold cpF imgA; omega) (by unfold cpF imgA; omega) (fun a _ _ => by unfold cpW imgA; omega), fun L hL => ⟨fun k hk => (F2.on (fun q => q)).trans ((b8 L hL).1 k hk), (b8 L hL).2.on (fun j => F2.on (fun q => q))⟩, ⟨b9, b10.fz F2 (fun a k q1 q2 => by unfold cpF imgA; omega) (fun a q1 q2 => by unfold cpW imgA; omega) (fun q => q) (b8 8 lnd_8).2 b9.n24 b9.k60⟩, fun j hj hr => ?_⟩
    · have := tx_cases ht
      exact ⟨fun k => by unfold cpF imgA; omega, fun k k1 k8 => by unfold cpW imgA; omega⟩
    · have em : k.toInt.toNat = m := by omega
      unfold upI
      rw [em]
      by_cases hjm : j = m
      · rw [if_pos hjm, hjm]
        exact ⟨b9, s3.fz hF (fun _ _ _ _ q => q) (fun a q1 q2 q => by unfold imgA at q1 q2; omega) (fun q => q) ((b8 _ hi).2.on (fun j => s2.on (fun q => q))) b9.n24 b9.k60⟩
      · rw [if_neg hjm]
        have er : rN M' 340 j = rN M 340 j := by
          rw [u2, rN_wI_ne (by omega)]
          exact s2.rn (by unfold cpW imgA; omega)
        rw [er] at hr
        obtain ⟨c1, c2⟩ := b11 j hj hr
        exact ⟨c1, c2.fz F2 (fun a k q1 q2 => by unfold imgA at q1 q2; unfold cpF imgA; omega) (fun a q1 q2 => by unfold imgA at q1 q2; unfold cpW imgA; omega) (fun q => q) (b8 _ (lnd_im j hj)).2 c1.n24 c1.k60⟩
theorem restore_ok (h : CST T P PI M) (H : Ev none e 124 0 [some (.ref 0), some (.int k)] [] M v M' 0 0) : ((¬ inX k 0 2 ∨ rN M 340 k.toInt.toNat = 0) ∧ v = some (.int 0) ∧ M' = M) ∨ (inX k 0 2 ∧ ¬ rN M 340 k.toInt.toNat = 0 ∧ v = some (.int 1) ∧ CST T (PI k.toInt.toNat) PI M') := by
  have hS := h.sq
  rcases rst_0 hS h.ld H with ⟨a1, r1, r2⟩ | ⟨a1, a2, _, r1, r2⟩ | ⟨a1, a2, _, _, e1, v1, M1, _, H1, H⟩
  · rw [g126_R] at a1
    exact Or.inl ⟨Or.inl a1, r1, r2⟩
  · rw [g126_R, Classical.not_not] at a1
    obtain ⟨m, m3, hk⟩ := img_rng a1
    have em : k.toInt.toNat = m := by omega
    rw [rI_n hk] at a2
    rw [em]
    exact Or.inl ⟨Or.inr a2, r1, r2⟩
  · rw [g126_R, Classical.not_not] at a1
    obtain ⟨m, m3, hk⟩ := img_rng a1
    have em : k.toInt.toNat = m := by omega
    rw [rI_n hk] at a2
    rw [em]
    have ei : oI M 339 k = imgA m := by unfold oI; rw [cl_n hk]; exact h.2.1.2.2 m m3
    have hi := lnd_im m m3
    have hne : 8 ≠ imgA m := by unfold imgA; omega
    rw [ei] at H1
    obtain ⟨_, _, _, _, _, hXs, _, hPI⟩ := id h
    obtain ⟨c1, c2⟩ := hPI m m3 a2
    obtain ⟨rv, s1, s2, s3⟩ := copy_ok hS lnd_8 hi hne c1.1 c1.2.1 h.wx (hXs _ hi).1 h.wk (hXs _ hi).2 c2 H1
    rw [rv] at H
    obtain ⟨u1, u2⟩ := rst_33 s1 H
    refine Or.inr ⟨a1, a2, u1, ?_⟩
    rw [u2]
    exact h.live s1 s2 c1 s3
/-- a trial on the other land -/
theorem openC_ok (h : CST T P PI M) (H : Ev none e 133 0 [some (.ref 0)] [] M v M' 0 0) : v = none ∧ CST T P PI M' ∧ STA 243 T P M' ∧ LST 243 P M' ∧ WFl (-1) [] M' := by
  have hS := h.sq
  have hD := h.ok.1
  obtain ⟨e1, v1, M1, _, H1, H⟩ := opc_0 hS h.ld h.2.1.2.1 H
  obtain ⟨_, _, _, _, _, hXs, _, _⟩ := id h
  obtain ⟨rv, s1, s2, s3⟩ := copy_ok hS lnd_tr lnd_8 (by decide) hD h.ok.2.1 (hXs _ lnd_tr).1 h.wx (hXs _ lnd_tr).2 h.wk h.lan H1
  rw [rv] at H
  have h1 : CST T P PI M1 := h.cop lnd_tr (by decide) s1 s2 (fun k hk _ => by unfold imgA; omega)
  obtain ⟨e2, v2, M2, _, H2, H⟩ := opc_11 s1 h1.ld h1.2.1.2.1 H
  obtain ⟨_, _, _, _, hG, hXs1, _, _⟩ := id h1
  obtain ⟨rv2, q2, q3, q4, q5, _, _, q6⟩ := enter_ok s1 lnd_tr hD.1 h1.ok.2.2.2.nn hG h1.2.2.2.1 h1.2.2.1 s3 (hXs1 _ lnd_tr).1 (hXs1 _ lnd_tr).2 h1.ok.n24 h1.ok.k60 H2
  rw [rv2] at H
  obtain ⟨u1, u2⟩ := opc_22 q2.sq H
  rw [u2]
  refine ⟨u1, h1.scr q2.sq q4 ⟨by unfold enF shgF; omega, by unfold enF shgF; omega, by unfold enF shgF; omega⟩ (fun L hL _ => ⟨fun a k q1 q2 => ?_, fun a q1 q2 => ?_⟩) (fun t ht => ⟨fun k => ?_, fun k k1 k8 => ?_⟩) ⟨fun q => q, fun q => q, fun q => q⟩ (fun _ _ _ q => q) (fun L hL => ⟨fun k hk => (q4.on (fun q => q)).trans ((hXs1 L hL).1 k hk), (hXs1 L hL).2.on (fun j => q4.on (fun q => q))⟩) q5 (by unfold enW shgW; omega), q2, q3, q6⟩
  · have := ld_cases hL
    unfold enF shgF
    omega
  · have := ld_cases hL
    unfold enW shgW
    omega
  · have := tx_cases ht
    unfold enF shgF
    omega
  · have := tx_cases ht
    unfold enW shgW
    omega
end CIMG
/-! THE REFERENCE'S walking: small ones, holds: pieces (made by gref.py) -/
noncomputable def G_141 (M : Mem) (x : Int32) : Int32 := if 0 ≤ x then x else -x
theorem g_141 {e : Nat} {M M' : Mem} {v : Option Value} {x : Int32} (hS : SQ M) (H : Ev none e 141 0 [some (.int x)] [] M v M' 0 0) : v = some (.int (G_141 M x)) ∧ M' = M := by
  unfold G_141
  have H : Ev none e 141 (if 0 ≤ x then 9 else 4) [some (.int x)] [] M v M' 0 0 := Ev.back 2 (fun n => rfl) H
  by_cases h1 : 0 ≤ x
  · rw [if_pos h1] at H
    have H : Ev none e 141 10 [some (.int x)] [.int x] M v M' 0 0 := Ev.back 1 (fun n => rfl) H
    obtain ⟨p1, p2⟩ := Ev.retz rfl rfl H
    exact ⟨by rw [if_pos h1]; exact p1, p2⟩
  · rw [if_neg h1] at H
    have H : Ev none e 141 10 [some (.int x)] [.int (-x)] M v M' 0 0 := Ev.back 3 (fun n => rfl) H
    obtain ⟨p1, p2⟩ := Ev.retz rfl rfl H
    exact ⟨by rw [if_neg h1]; exact p1, p2⟩
noncomputable def G_144 (M : Mem) : Int32 := (rI M 635 0) * (rI M 635 1)
theorem g_144 {e : Nat} {M M' : Mem} {v : Option Value} (hS : SQ M) (H : Ev none e 144 0 [some (.ref 633)] [] M v M' 0 0) : v = some (.int (G_144 M)) ∧ M' = M := by
  unfold G_144
  have H : Ev none e 144 1 [some (.ref 633)] [.ref 633] M v M' 0 0 := Ev.back 1 (fun n => rfl) H
  have H : Ev none e 144 4 [some (.ref 633)] [.ref 635] M v M' 0 0 := Ev.back 1 (gs_3 rfl rfl (gf_u hS.1 qa_633 qr_61_5 qu_63 rfl)) H
  have H : Ev none e 144 5 [some (.ref 633)] [.int 0, .ref 635] M v M' 0 0 := Ev.back 1 (fun n => rfl) H
  obtain ⟨b1, H⟩ := Ev.ial rfl rfl hS.1 qa_635 qw_63 H
  have H : Ev none e 144 6 [some (.ref 633)] [.int (rI M 635 0)] M v M' 0 0 := H
  have H : Ev none e 144 7 [some (.ref 633)] [.ref 633, .int (rI M 635 0)] M v M' 0 0 := Ev.back 1 (fun n => rfl) H
  have H : Ev none e 144 10 [some (.ref 633)] [.ref 635, .int (rI M 635 0)] M v M' 0 0 := Ev.back 1 (gs_3 rfl rfl (gf_u hS.1 qa_633 qr_61_5 qu_63 rfl)) H
  have H : Ev none e 144 11 [some (.ref 633)] [.int 1, .ref 635, .int (rI M 635 0)] M v M' 0 0 := Ev.back 1 (fun n => rfl) H
  obtain ⟨b2, H⟩ := Ev.ial rfl rfl hS.1 qa_635 qw_63 H
  have H : Ev none e 144 12 [some (.ref 633)] [.int (rI M 635 1), .int (rI M 635 0)] M v M' 0 0 := H
  have H : Ev none e 144 13 [some (.ref 633)] [.int ((rI M 635 0) * (rI M 635 1))] M v M' 0 0 := Ev.back 1 (fun n => rfl) H
  obtain ⟨p1, p2⟩ := Ev.retz rfl rfl H
  exact ⟨p1, p2⟩
noncomputable def G_146 (M : Mem) (c : Int32) (wh : Int32) : Int32 := rI M 635 ((522 + (7 * c)) + wh)
theorem g_146 {e : Nat} {M M' : Mem} {v : Option Value} {c wh : Int32} (hS : SQ M) (H : Ev none e 146 0 [some (.ref 633), some (.int c), some (.int wh)] [] M v M' 0 0) : v = some (.int (G_146 M c wh)) ∧ M' = M := by
  unfold G_146
  have H : Ev none e 146 1 [some (.ref 633), some (.int c), some (.int wh)] [.ref 633] M v M' 0 0 := Ev.back 1 (fun n => rfl) H
  have H : Ev none e 146 4 [some (.ref 633), some (.int c), some (.int wh)] [.ref 635] M v M' 0 0 := Ev.back 1 (gs_3 rfl rfl (gf_u hS.1 qa_633 qr_61_5 qu_63 rfl)) H
  have H : Ev none e 146 14 [some (.ref 633), some (.int c), some (.int wh)] [.int ((522 + (7 * c)) + wh), .ref 635] M v M' 0 0 := Ev.back 7 (fun n => rfl) H
  obtain ⟨b1, H⟩ := Ev.ial rfl rfl hS.1 qa_635 qw_63 H
  have H : Ev none e 146 15 [some (.ref 633), some (.int c), some (.int wh)] [.int (rI M 635 ((522 + (7 * c)) + wh))] M v M' 0 0 := H
  obtain ⟨p1, p2⟩ := Ev.retz rfl rfl H
  exact ⟨p1, p2⟩
noncomputable def X_147 (M : Mem) (c : Int32) (wh : Int32) (vv : Int32) : Mem := (wI M 635 (((522 + (7 * c)) + wh).toNatClampNeg) vv)
theorem g_147 {e : Nat} {M M' : Mem} {v : Option Value} {c wh vv : Int32} (hS : SQ M) (H : Ev none e 147 0 [some (.ref 633), some (.int c), some (.int wh), some (.int vv)] [] M v M' 0 0) : v = none ∧ M' = X_147 M c wh vv := by
  unfold X_147
  have H : Ev none e 147 1 [some (.ref 633), some (.int c), some (.int wh), some (.int vv)] [.ref 633] M v M' 0 0 := Ev.back 1 (fun n => rfl) H
  have H : Ev none e 147 4 [some (.ref 633), some (.int c), some (.int wh), some (.int vv)] [.ref 635] M v M' 0 0 := Ev.back 1 (gs_3 rfl rfl (gf_u hS.1 qa_633 qr_61_5 qu_63 rfl)) H
  have H : Ev none e 147 15 [some (.ref 633), some (.int c), some (.int wh), some (.int vv)] [.int vv, .int ((522 + (7 * c)) + wh), .ref 635] M v M' 0 0 := Ev.back 8 (fun n => rfl) H
  obtain ⟨b1, H⟩ := Ev.ias rfl rfl hS.1 qa_635 qw_63 H
  obtain ⟨N2, eN2⟩ : ∃ N, N = (wI M 635 (((522 + (7 * c)) + wh).toNatClampNeg) vv) := ⟨_, rfl⟩
  have hN2 : SQ N2 := by rw [eN2]; exact hS.ki
  have H : Ev none e 147 16 [some (.ref 633), some (.int c), some (.int wh), some (.int vv)] [] N2 v M' 0 0 := by rw [eN2]; exact H
  obtain ⟨p1, p2⟩ := Ev.retb (fun n => rfl) H
  subst eN2
  exact ⟨p1, p2⟩
theorem X_147_sx {M : Mem} {c wh vv : Int32} (hS : SQ M) : SQ (X_147 M c wh vv) := by
  unfold X_147
  exact hS.ki
noncomputable def G_148 (M : Mem) (c : Int32) : Int32 := if (G_146 M c 0) = 3 then 0 else (if (G_146 M c 0) = 6 then 0 else 1)
theorem g_148 {e : Nat} {M M' : Mem} {v : Option Value} {c : Int32} (hS : SQ M) (H : Ev none e 148 0 [some (.ref 633), some (.int c)] [] M v M' 0 0) : v = some (.int (G_148 M c)) ∧ M' = M := by
  unfold G_148
  have H : Ev none e 148 3 [some (.ref 633), some (.int c)] [.int 0, .int c, .ref 633] M v M' 0 0 := Ev.back 3 (fun n => rfl) H
  obtain ⟨e1, rfl⟩ := Ev.dpos rfl rfl H
  obtain ⟨vK1, MK1, K1, H⟩ := Ev.callb (fun n_ => gs_7 rfl rfl (show gCal (.invokevirtual 136) 11 (.int 0 :: .int c :: .ref 633 :: []) M = some (.inr (146, [some (.ref 633), some (.int c), some (.int 0)], [])) from by show @cond (Option ((List Value × Mem) ⊕ (Nat × Lo × List Value))) (true && gRecv M (.ref 633) 11 && gRoom [] && true) (some (.inr (146, [some (.ref 633), some (.int c), some (.int 0)], []))) none = _; rw [recv_s hS.1 qa_633 qo_61]; rfl)) H
  obtain ⟨pK1, qK1⟩ := g_146 hS K1
  rw [pK1, qK1] at H
  have H : Ev none (e1 + 1) 148 6 [some (.ref 633), some (.int c)] [.int (G_146 M c 0)] M v M' 0 0 := H
  have H : Ev none (e1 + 1) 148 (if (G_146 M c 0) = 3 then 25 else 10) [some (.ref 633), some (.int c)] [] M v M' 0 0 := Ev.back 2 (fun n => rfl) H
  by_cases h2 : (G_146 M c 0) = 3
  · rw [if_pos h2] at H
    have H : Ev none (e1 + 1) 148 26 [some (.ref 633), some (.int c)] [.int 0] M v M' 0 0 := Ev.back 1 (fun n => rfl) H
    obtain ⟨p1, p2⟩ := Ev.retz rfl rfl H
    exact ⟨by rw [if_pos h2]; exact p1, p2⟩
  · rw [if_neg h2] at H
    have H : Ev none (e1 + 1) 148 13 [some (.ref 633), some (.int c)] [.int 0, .int c, .ref 633] M v M' 0 0 := Ev.back 3 (fun n => rfl) H
    obtain ⟨vK3, MK3, K3, H⟩ := Ev.callb (fun n_ => gs_7 rfl rfl (show gCal (.invokevirtual 136) 11 (.int 0 :: .int c :: .ref 633 :: []) M = some (.inr (146, [some (.ref 633), some (.int c), some (.int 0)], [])) from by show @cond (Option ((List Value × Mem) ⊕ (Nat × Lo × List Value))) (true && gRecv M (.ref 633) 11 && gRoom [] && true) (some (.inr (146, [some (.ref 633), some (.int c), some (.int 0)], []))) none = _; rw [recv_s hS.1 qa_633 qo_61]; rfl)) H
    obtain ⟨pK3, qK3⟩ := g_146 hS K3
    rw [pK3, qK3] at H
    have H : Ev none (e1 + 1) 148 16 [some (.ref 633), some (.int c)] [.int (G_146 M c 0)] M v M' 0 0 := H
    have H : Ev none (e1 + 1) 148 (if (G_146 M c 0) = 6 then 25 else 21) [some (.ref 633), some (.int c)] [] M v M' 0 0 := Ev.back 2 (fun n => rfl) H
    by_cases h4 : (G_146 M c 0) = 6
    · rw [if_pos h4] at H
      have H : Ev none (e1 + 1) 148 26 [some (.ref 633), some (.int c)] [.int 0] M v M' 0 0 := Ev.back 1 (fun n => rfl) H
      obtain ⟨p1, p2⟩ := Ev.retz rfl rfl H
      exact ⟨by rw [if_neg h2, if_pos h4]; exact p1, p2⟩
    · rw [if_neg h4] at H
      have H : Ev none (e1 + 1) 148 26 [some (.ref 633), some (.int c)] [.int 1] M v M' 0 0 := Ev.back 2 (fun n => rfl) H
      obtain ⟨p1, p2⟩ := Ev.retz rfl rfl H
      exact ⟨by rw [if_neg h2, if_neg h4]; exact p1, p2⟩
noncomputable def G_149 (M : Mem) (c : Int32) : Int32 := if (G_146 M c 0) = 0 then 1 else (if (G_146 M c 0) = 2 then 1 else 0)
theorem g_149 {e : Nat} {M M' : Mem} {v : Option Value} {c : Int32} (hS : SQ M) (H : Ev none e 149 0 [some (.ref 633), some (.int c)] [] M v M' 0 0) : v = some (.int (G_149 M c)) ∧ M' = M := by
  unfold G_149
  have H : Ev none e 149 3 [some (.ref 633), some (.int c)] [.int 0, .int c, .ref 633] M v M' 0 0 := Ev.back 3 (fun n => rfl) H
  obtain ⟨e1, rfl⟩ := Ev.dpos rfl rfl H
  obtain ⟨vK1, MK1, K1, H⟩ := Ev.callb (fun n_ => gs_7 rfl rfl (show gCal (.invokevirtual 136) 11 (.int 0 :: .int c :: .ref 633 :: []) M = some (.inr (146, [some (.ref 633), some (.int c), some (.int 0)], [])) from by show @cond (Option ((List Value × Mem) ⊕ (Nat × Lo × List Value))) (true && gRecv M (.ref 633) 11 && gRoom [] && true) (some (.inr (146, [some (.ref 633), some (.int c), some (.int 0)], []))) none = _; rw [recv_s hS.1 qa_633 qo_61]; rfl)) H
  obtain ⟨pK1, qK1⟩ := g_146 hS K1
  rw [pK1, qK1] at H
  have H : Ev none (e1 + 1) 149 6 [some (.ref 633), some (.int c)] [.int (G_146 M c 0)] M v M' 0 0 := H
  have H : Ev none (e1 + 1) 149 (if (G_146 M c 0) = 0 then 19 else 9) [some (.ref 633), some (.int c)] [] M v M' 0 0 := Ev.back 1 (fun n => rfl) H
  by_cases h2 : (G_146 M c 0) = 0
  · rw [if_pos h2] at H
    have H : Ev none (e1 + 1) 149 24 [some (.ref 633), some (.int c)] [.int 1] M v M' 0 0 := Ev.back 2 (fun n => rfl) H
    obtain ⟨p1, p2⟩ := Ev.retz rfl rfl H
    exact ⟨by rw [if_pos h2]; exact p1, p2⟩
  · rw [if_neg h2] at H
    have H : Ev none (e1 + 1) 149 12 [some (.ref 633), some (.int c)] [.int 0, .int c, .ref 633] M v M' 0 0 := Ev.back 3 (fun n => rfl) H
    obtain ⟨vK3, MK3, K3, H⟩ := Ev.callb (fun n_ => gs_7 rfl rfl (show gCal (.invokevirtual 136) 11 (.int 0 :: .int c :: .ref 633 :: []) M = some (.inr (146, [some (.ref 633), some (.int c), some (.int 0)], [])) from by show @cond (Option ((List Value × Mem) ⊕ (Nat × Lo × List Value))) (true && gRecv M (.ref 633) 11 && gRoom [] && true) (some (.inr (146, [some (.ref 633), some (.int c), some (.int 0)], []))) none = _; rw [recv_s hS.1 qa_633 qo_61]; rfl)) H
    obtain ⟨pK3, qK3⟩ := g_146 hS K3
    rw [pK3, qK3] at H
    have H : Ev none (e1 + 1) 149 15 [some (.ref 633), some (.int c)] [.int (G_146 M c 0)] M v M' 0 0 := H
    have H : Ev none (e1 + 1) 149 (if (G_146 M c 0) = 2 then 19 else 23) [some (.ref 633), some (.int c)] [] M v M' 0 0 := Ev.back 2 (fun n => rfl) H
    by_cases h4 : (G_146 M c 0) = 2
    · rw [if_pos h4] at H
      have H : Ev none (e1 + 1) 149 24 [some (.ref 633), some (.int c)] [.int 1] M v M' 0 0 := Ev.back 2 (fun n => rfl) H
      obtain ⟨p1, p2⟩ := Ev.retz rfl rfl H
      exact ⟨by rw [if_neg h2, if_pos h4]; exact p1, p2⟩
    · rw [if_neg h4] at H
      have H : Ev none (e1 + 1) 149 24 [some (.ref 633), some (.int c)] [.int 0] M v M' 0 0 := Ev.back 1 (fun n => rfl) H
      obtain ⟨p1, p2⟩ := Ev.retz rfl rfl H
      exact ⟨by rw [if_neg h2, if_neg h4]; exact p1, p2⟩
noncomputable def G_150 (M : Mem) (c : Int32) : Int32 := if (G_146 M c 3) < (zI M 633 28) then 0 else 1
theorem g_150 {e : Nat} {M M' : Mem} {v : Option Value} {c : Int32} (hS : SQ M) (H : Ev none e 150 0 [some (.ref 633), some (.int c)] [] M v M' 0 0) : v = some (.int (G_150 M c)) ∧ M' = M := by
  unfold G_150
  have H : Ev none e 150 3 [some (.ref 633), some (.int c)] [.int 3, .int c, .ref 633] M v M' 0 0 := Ev.back 3 (fun n => rfl) H
  obtain ⟨e1, rfl⟩ := Ev.dpos rfl rfl H
  obtain ⟨vK1, MK1, K1, H⟩ := Ev.callb (fun n_ => gs_7 rfl rfl (show gCal (.invokevirtual 136) 11 (.int 3 :: .int c :: .ref 633 :: []) M = some (.inr (146, [some (.ref 633), some (.int c), some (.int 3)], [])) from by show @cond (Option ((List Value × Mem) ⊕ (Nat × Lo × List Value))) (true && gRecv M (.ref 633) 11 && gRoom [] && true) (some (.inr (146, [some (.ref 633), some (.int c), some (.int 3)], []))) none = _; rw [recv_s hS.1 qa_633 qo_61]; rfl)) H
  obtain ⟨pK1, qK1⟩ := g_146 hS K1
  rw [pK1, qK1] at H
  have H : Ev none (e1 + 1) 150 6 [some (.ref 633), some (.int c)] [.int (G_146 M c 3)] M v M' 0 0 := H
  have H : Ev none (e1 + 1) 150 7 [some (.ref 633), some (.int c)] [.ref 633, .int (G_146 M c 3)] M v M' 0 0 := Ev.back 1 (fun n => rfl) H
  have H : Ev none (e1 + 1) 150 10 [some (.ref 633), some (.int c)] [.int (zI M 633 28), .int (G_146 M c 3)] M v M' 0 0 := Ev.back 1 (gs_3 rfl rfl (gf_i hS.1 qa_633 qi_61_28 rfl)) H
  have H : Ev none (e1 + 1) 150 (if (G_146 M c 3) < (zI M 633 28) then 17 else 13) [some (.ref 633), some (.int c)] [] M v M' 0 0 := Ev.back 1 (fun n => rfl) H
  by_cases h2 : (G_146 M c 3) < (zI M 633 28)
  · rw [if_pos h2] at H
    have H : Ev none (e1 + 1) 150 18 [some (.ref 633), some (.int c)] [.int 0] M v M' 0 0 := Ev.back 1 (fun n => rfl) H
    obtain ⟨p1, p2⟩ := Ev.retz rfl rfl H
    exact ⟨by rw [if_pos h2]; exact p1, p2⟩
  · rw [if_neg h2] at H
    have H : Ev none (e1 + 1) 150 18 [some (.ref 633), some (.int c)] [.int 1] M v M' 0 0 := Ev.back 2 (fun n => rfl) H
    obtain ⟨p1, p2⟩ := Ev.retz rfl rfl H
    exact ⟨by rw [if_neg h2]; exact p1, p2⟩
noncomputable def G_151 (M : Mem) (c : Int32) : Int32 := if (G_150 M c) = 0 then 0 else (if (G_146 M c 4) < (zI M 633 29) then 0 else 1)
theorem g_151 {e : Nat} {M M' : Mem} {v : Option Value} {c : Int32} (hS : SQ M) (H : Ev none e 151 0 [some (.ref 633), some (.int c)] [] M v M' 0 0) : v = some (.int (G_151 M c)) ∧ M' = M := by
  unfold G_151
  have H : Ev none e 151 2 [some (.ref 633), some (.int c)] [.int c, .ref 633] M v M' 0 0 := Ev.back 2 (fun n => rfl) H
  obtain ⟨e1, rfl⟩ := Ev.dpos rfl rfl H
  obtain ⟨vK1, MK1, K1, H⟩ := Ev.callb (fun n_ => gs_7 rfl rfl (show gCal (.invokevirtual 140) 11 (.int c :: .ref 633 :: []) M = some (.inr (150, [some (.ref 633), some (.int c)], [])) from by show @cond (Option ((List Value × Mem) ⊕ (Nat × Lo × List Value))) (true && gRecv M (.ref 633) 11 && gRoom [] && true) (some (.inr (150, [some (.ref 633), some (.int c)], []))) none = _; rw [recv_s hS.1 qa_633 qo_61]; rfl)) H
  obtain ⟨pK1, qK1⟩ := g_150 hS K1
  rw [pK1, qK1] at H
  have H : Ev none (e1 + 1) 151 5 [some (.ref 633), some (.int c)] [.int (G_150 M c)] M v M' 0 0 := H
  have H : Ev none (e1 + 1) 151 (if (G_150 M c) = 0 then 25 else 8) [some (.ref 633), some (.int c)] [] M v M' 0 0 := Ev.back 1 (fun n => rfl) H
  by_cases h2 : (G_150 M c) = 0
  · rw [if_pos h2] at H
    have H : Ev none (e1 + 1) 151 26 [some (.ref 633), some (.int c)] [.int 0] M v M' 0 0 := Ev.back 1 (fun n => rfl) H
    obtain ⟨p1, p2⟩ := Ev.retz rfl rfl H
    exact ⟨by rw [if_pos h2]; exact p1, p2⟩
  · rw [if_neg h2] at H
    have H : Ev none (e1 + 1) 151 11 [some (.ref 633), some (.int c)] [.int 4, .int c, .ref 633] M v M' 0 0 := Ev.back 3 (fun n => rfl) H
    obtain ⟨vK3, MK3, K3, H⟩ := Ev.callb (fun n_ => gs_7 rfl rfl (show gCal (.invokevirtual 136) 11 (.int 4 :: .int c :: .ref 633 :: []) M = some (.inr (146, [some (.ref 633), some (.int c), some (.int 4)], [])) from by show @cond (Option ((List Value × Mem) ⊕ (Nat × Lo × List Value))) (true && gRecv M (.ref 633) 11 && gRoom [] && true) (some (.inr (146, [some (.ref 633), some (.int c), some (.int 4)], []))) none = _; rw [recv_s hS.1 qa_633 qo_61]; rfl)) H
    obtain ⟨pK3, qK3⟩ := g_146 hS K3
    rw [pK3, qK3] at H
    have H : Ev none (e1 + 1) 151 14 [some (.ref 633), some (.int c)] [.int (G_146 M c 4)] M v M' 0 0 := H
    have H : Ev none (e1 + 1) 151 15 [some (.ref 633), some (.int c)] [.ref 633, .int (G_146 M c 4)] M v M' 0 0 := Ev.back 1 (fun n => rfl) H
    have H : Ev none (e1 + 1) 151 18 [some (.ref 633), some (.int c)] [.int (zI M 633 29), .int (G_146 M c 4)] M v M' 0 0 := Ev.back 1 (gs_3 rfl rfl (gf_i hS.1 qa_633 qi_61_29 rfl)) H
    have H : Ev none (e1 + 1) 151 (if (G_146 M c 4) < (zI M 633 29) then 25 else 21) [some (.ref 633), some (.int c)] [] M v M' 0 0 := Ev.back 1 (fun n => rfl) H
    by_cases h4 : (G_146 M c 4) < (zI M 633 29)
    · rw [if_pos h4] at H
      have H : Ev none (e1 + 1) 151 26 [some (.ref 633), some (.int c)] [.int 0] M v M' 0 0 := Ev.back 1 (fun n => rfl) H
      obtain ⟨p1, p2⟩ := Ev.retz rfl rfl H
      exact ⟨by rw [if_neg h2, if_pos h4]; exact p1, p2⟩
    · rw [if_neg h4] at H
      have H : Ev none (e1 + 1) 151 26 [some (.ref 633), some (.int c)] [.int 1] M v M' 0 0 := Ev.back 2 (fun n => rfl) H
      obtain ⟨p1, p2⟩ := Ev.retz rfl rfl H
      exact ⟨by rw [if_neg h2, if_neg h4]; exact p1, p2⟩
noncomputable def G_192 (M : Mem) (d : Int32) : Int32 := if (d - d / 4 * 4) = 0 then 0 else (if 4 ≤ d then (-1) else 1)
theorem g_192 {e : Nat} {M M' : Mem} {v : Option Value} {d : Int32} (hS : SQ M) (H : Ev none e 192 0 [some (.int d)] [] M v M' 0 0) : v = some (.int (G_192 M d)) ∧ M' = M := by
  unfold G_192
  have H : Ev none e 192 (if (d - d / 4 * 4) = 0 then 6 else 10) [some (.int d)] [] M v M' 0 0 := Ev.back 4 (fun n => rfl) H
  by_cases h1 : (d - d / 4 * 4) = 0
  · rw [if_pos h1] at H
    have H : Ev none e 192 20 [some (.int d)] [.int 0] M v M' 0 0 := Ev.back 2 (fun n => rfl) H
    obtain ⟨p1, p2⟩ := Ev.retz rfl rfl H
    exact ⟨by rw [if_pos h1]; exact p1, p2⟩
  · rw [if_neg h1] at H
    have H : Ev none e 192 (if 4 ≤ d then 19 else 15) [some (.int d)] [] M v M' 0 0 := Ev.back 3 (fun n => rfl) H
    by_cases h2 : 4 ≤ d
    · rw [if_pos h2] at H
      have H : Ev none e 192 20 [some (.int d)] [.int (-1)] M v M' 0 0 := Ev.back 1 (fun n => rfl) H
      obtain ⟨p1, p2⟩ := Ev.retz rfl rfl H
      exact ⟨by rw [if_neg h1, if_pos h2]; exact p1, p2⟩
    · rw [if_neg h2] at H
      have H : Ev none e 192 20 [some (.int d)] [.int 1] M v M' 0 0 := Ev.back 2 (fun n => rfl) H
      obtain ⟨p1, p2⟩ := Ev.retz rfl rfl H
      exact ⟨by rw [if_neg h1, if_neg h2]; exact p1, p2⟩
noncomputable def G_193 (M : Mem) (d : Int32) : Int32 := if (d - d / 4 * 4) = 2 then 0 else (if (G_140 M d 3 5) = 0 then (-1) else 1)
theorem g_193 {e : Nat} {M M' : Mem} {v : Option Value} {d : Int32} (hS : SQ M) (H : Ev none e 193 0 [some (.int d)] [] M v M' 0 0) : v = some (.int (G_193 M d)) ∧ M' = M := by
  unfold G_193
  have H : Ev none e 193 (if (d - d / 4 * 4) = 2 then 7 else 11) [some (.int d)] [] M v M' 0 0 := Ev.back 5 (fun n => rfl) H
  by_cases h1 : (d - d / 4 * 4) = 2
  · rw [if_pos h1] at H
    have H : Ev none e 193 25 [some (.int d)] [.int 0] M v M' 0 0 := Ev.back 2 (fun n => rfl) H
    obtain ⟨p1, p2⟩ := Ev.retz rfl rfl H
    exact ⟨by rw [if_pos h1]; exact p1, p2⟩
  · rw [if_neg h1] at H
    have H : Ev none e 193 14 [some (.int d)] [.int 5, .int 3, .int d] M v M' 0 0 := Ev.back 3 (fun n => rfl) H
    obtain ⟨e1, rfl⟩ := Ev.dpos rfl rfl H
    obtain ⟨vK2, MK2, K2, H⟩ := Ev.callb (fun n => rfl) H
    obtain ⟨pK2, qK2⟩ := g_140 hS K2
    rw [pK2, qK2] at H
    have H : Ev none (e1 + 1) 193 17 [some (.int d)] [.int (G_140 M d 3 5)] M v M' 0 0 := H
    have H : Ev none (e1 + 1) 193 (if (G_140 M d 3 5) = 0 then 24 else 20) [some (.int d)] [] M v M' 0 0 := Ev.back 1 (fun n => rfl) H
    by_cases h3 : (G_140 M d 3 5) = 0
    · rw [if_pos h3] at H
      have H : Ev none (e1 + 1) 193 25 [some (.int d)] [.int (-1)] M v M' 0 0 := Ev.back 1 (fun n => rfl) H
      obtain ⟨p1, p2⟩ := Ev.retz rfl rfl H
      exact ⟨by rw [if_neg h1, if_pos h3]; exact p1, p2⟩
    · rw [if_neg h3] at H
      have H : Ev none (e1 + 1) 193 25 [some (.int d)] [.int 1] M v M' 0 0 := Ev.back 2 (fun n => rfl) H
      obtain ⟨p1, p2⟩ := Ev.retz rfl rfl H
      exact ⟨by rw [if_neg h1, if_neg h3]; exact p1, p2⟩
noncomputable def G_194 (M : Mem) (c : Int32) (d : Int32) : Int32 := if (G_140 M ((c - c / (rI M 635 0) * (rI M 635 0)) + (G_192 M d)) 0 ((rI M 635 0) - 1)) = 0 then (-1) else (if (G_140 M ((c / (rI M 635 0)) + (G_193 M d)) 0 ((rI M 635 1) - 1)) = 0 then (-1) else ((rI M 635 0) * ((c / (rI M 635 0)) + (G_193 M d))) + ((c - c / (rI M 635 0) * (rI M 635 0)) + (G_192 M d)))
theorem g_194 {e : Nat} {M M' : Mem} {v : Option Value} {c d : Int32} (hS : SQ M) (H : Ev none e 194 0 [some (.ref 633), some (.int c), some (.int d), none, none] [] M v M' 0 0) : v = some (.int (G_194 M c d)) ∧ M' = M := by
  unfold G_194
  have H : Ev none e 194 2 [some (.ref 633), some (.int c), some (.int d), none, none] [.ref 633, .int c] M v M' 0 0 := Ev.back 2 (fun n => rfl) H
  have H : Ev none e 194 5 [some (.ref 633), some (.int c), some (.int d), none, none] [.ref 635, .int c] M v M' 0 0 := Ev.back 1 (gs_3 rfl rfl (gf_u hS.1 qa_633 qr_61_5 qu_63 rfl)) H
  have H : Ev none e 194 6 [some (.ref 633), some (.int c), some (.int d), none, none] [.int 0, .ref 635, .int c] M v M' 0 0 := Ev.back 1 (fun n => rfl) H
  obtain ⟨b1, H⟩ := Ev.ial rfl rfl hS.1 qa_635 qw_63 H
  have H : Ev none e 194 7 [some (.ref 633), some (.int c), some (.int d), none, none] [.int (rI M 635 0), .int c] M v M' 0 0 := H
  obtain ⟨nz2, H⟩ := rm_i H rfl rfl
  have H : Ev none e 194 8 [some (.ref 633), some (.int c), some (.int d), none, none] [.int (c - c / (rI M 635 0) * (rI M 635 0))] M v M' 0 0 := H
  have H : Ev none e 194 9 [some (.ref 633), some (.int c), some (.int d), none, none] [.int d, .int (c - c / (rI M 635 0) * (rI M 635 0))] M v M' 0 0 := Ev.back 1 (fun n => rfl) H
  obtain ⟨e1, rfl⟩ := Ev.dpos rfl rfl H
  obtain ⟨vK3, MK3, K3, H⟩ := Ev.callb (fun n => rfl) H
  obtain ⟨pK3, qK3⟩ := g_192 hS K3
  rw [pK3, qK3] at H
  have H : Ev none (e1 + 1) 194 12 [some (.ref 633), some (.int c), some (.int d), none, none] [.int (G_192 M d), .int (c - c / (rI M 635 0) * (rI M 635 0))] M v M' 0 0 := H
  have H : Ev none (e1 + 1) 194 16 [some (.ref 633), some (.int c), some (.int d), some (.int ((c - c / (rI M 635 0) * (rI M 635 0)) + (G_192 M d))), none] [.ref 633, .int c] M v M' 0 0 := Ev.back 4 (fun n => rfl) H
  have H : Ev none (e1 + 1) 194 19 [some (.ref 633), some (.int c), some (.int d), some (.int ((c - c / (rI M 635 0) * (rI M 635 0)) + (G_192 M d))), none] [.ref 635, .int c] M v M' 0 0 := Ev.back 1 (gs_3 rfl rfl (gf_u hS.1 qa_633 qr_61_5 qu_63 rfl)) H
  have H : Ev none (e1 + 1) 194 20 [some (.ref 633), some (.int c), some (.int d), some (.int ((c - c / (rI M 635 0) * (rI M 635 0)) + (G_192 M d))), none] [.int 0, .ref 635, .int c] M v M' 0 0 := Ev.back 1 (fun n => rfl) H
  obtain ⟨b4, H⟩ := Ev.ial rfl rfl hS.1 qa_635 qw_63 H
  have H : Ev none (e1 + 1) 194 21 [some (.ref 633), some (.int c), some (.int d), some (.int ((c - c / (rI M 635 0) * (rI M 635 0)) + (G_192 M d))), none] [.int (rI M 635 0), .int c] M v M' 0 0 := H
  obtain ⟨nz5, H⟩ := dv_i H rfl rfl
  have H : Ev none (e1 + 1) 194 22 [some (.ref 633), some (.int c), some (.int d), some (.int ((c - c / (rI M 635 0) * (rI M 635 0)) + (G_192 M d))), none] [.int (c / (rI M 635 0))] M v M' 0 0 := H
  have H : Ev none (e1 + 1) 194 23 [some (.ref 633), some (.int c), some (.int d), some (.int ((c - c / (rI M 635 0) * (rI M 635 0)) + (G_192 M d))), none] [.int d, .int (c / (rI M 635 0))] M v M' 0 0 := Ev.back 1 (fun n => rfl) H
  obtain ⟨vK6, MK6, K6, H⟩ := Ev.callb (fun n => rfl) H
  obtain ⟨pK6, qK6⟩ := g_193 hS K6
  rw [pK6, qK6] at H
  have H : Ev none (e1 + 1) 194 26 [some (.ref 633), some (.int c), some (.int d), some (.int ((c - c / (rI M 635 0) * (rI M 635 0)) + (G_192 M d))), none] [.int (G_193 M d), .int (c / (rI M 635 0))] M v M' 0 0 := H
  have H : Ev none (e1 + 1) 194 32 [some (.ref 633), some (.int c), some (.int d), some (.int ((c - c / (rI M 635 0) * (rI M 635 0)) + (G_192 M d))), some (.int ((c / (rI M 635 0)) + (G_193 M d)))] [.ref 633, .int 0, .int ((c - c / (rI M 635 0) * (rI M 635 0)) + (G_192 M d))] M v M' 0 0 := Ev.back 5 (fun n => rfl) H
  have H : Ev none (e1 + 1) 194 35 [some (.ref 633), some (.int c), some (.int d), some (.int ((c - c / (rI M 635 0) * (rI M 635 0)) + (G_192 M d))), some (.int ((c / (rI M 635 0)) + (G_193 M d)))] [.ref 635, .int 0, .int ((c - c / (rI M 635 0) * (rI M 635 0)) + (G_192 M d))] M v M' 0 0 := Ev.back 1 (gs_3 rfl rfl (gf_u hS.1 qa_633 qr_61_5 qu_63 rfl)) H
  have H : Ev none (e1 + 1) 194 36 [some (.ref 633), some (.int c), some (.int d), some (.int ((c - c / (rI M 635 0) * (rI M 635 0)) + (G_192 M d))), some (.int ((c / (rI M 635 0)) + (G_193 M d)))] [.int 0, .ref 635, .int 0, .int ((c - c / (rI M 635 0) * (rI M 635 0)) + (G_192 M d))] M v M' 0 0 := Ev.back 1 (fun n => rfl) H
  obtain ⟨b7, H⟩ := Ev.ial rfl rfl hS.1 qa_635 qw_63 H
  have H : Ev none (e1 + 1) 194 37 [some (.ref 633), some (.int c), some (.int d), some (.int ((c - c / (rI M 635 0) * (rI M 635 0)) + (G_192 M d))), some (.int ((c / (rI M 635 0)) + (G_193 M d)))] [.int (rI M 635 0), .int 0, .int ((c - c / (rI M 635 0) * (rI M 635 0)) + (G_192 M d))] M v M' 0 0 := H
  have H : Ev none (e1 + 1) 194 39 [some (.ref 633), some (.int c), some (.int d), some (.int ((c - c / (rI M 635 0) * (rI M 635 0)) + (G_192 M d))), some (.int ((c / (rI M 635 0)) + (G_193 M d)))] [.int ((rI M 635 0) - 1), .int 0, .int ((c - c / (rI M 635 0) * (rI M 635 0)) + (G_192 M d))] M v M' 0 0 := Ev.back 2 (fun n => rfl) H
  obtain ⟨vK8, MK8, K8, H⟩ := Ev.callb (fun n => rfl) H
  obtain ⟨pK8, qK8⟩ := g_140 hS K8
  rw [pK8, qK8] at H
  have H : Ev none (e1 + 1) 194 42 [some (.ref 633), some (.int c), some (.int d), some (.int ((c - c / (rI M 635 0) * (rI M 635 0)) + (G_192 M d))), some (.int ((c / (rI M 635 0)) + (G_193 M d)))] [.int (G_140 M ((c - c / (rI M 635 0) * (rI M 635 0)) + (G_192 M d)) 0 ((rI M 635 0) - 1))] M v M' 0 0 := H
  have H : Ev none (e1 + 1) 194 (if (G_140 M ((c - c / (rI M 635 0) * (rI M 635 0)) + (G_192 M d)) 0 ((rI M 635 0) - 1)) = 0 then 76 else 45) [some (.ref 633), some (.int c), some (.int d), some (.int ((c - c / (rI M 635 0) * (rI M 635 0)) + (G_192 M d))), some (.int ((c / (rI M 635 0)) + (G_193 M d)))] [] M v M' 0 0 := Ev.back 1 (fun n => rfl) H
  by_cases h9 : (G_140 M ((c - c / (rI M 635 0) * (rI M 635 0)) + (G_192 M d)) 0 ((rI M 635 0) - 1)) = 0
  · rw [if_pos h9] at H
    have H : Ev none (e1 + 1) 194 77 [some (.ref 633), some (.int c), some (.int d), some (.int ((c - c / (rI M 635 0) * (rI M 635 0)) + (G_192 M d))), some (.int ((c / (rI M 635 0)) + (G_193 M d)))] [.int (-1)] M v M' 0 0 := Ev.back 1 (fun n => rfl) H
    obtain ⟨p1, p2⟩ := Ev.retz rfl rfl H
    exact ⟨by rw [if_pos h9]; exact p1, p2⟩
  · rw [if_neg h9] at H
    have H : Ev none (e1 + 1) 194 49 [some (.ref 633), some (.int c), some (.int d), some (.int ((c - c / (rI M 635 0) * (rI M 635 0)) + (G_192 M d))), some (.int ((c / (rI M 635 0)) + (G_193 M d)))] [.ref 633, .int 0, .int ((c / (rI M 635 0)) + (G_193 M d))] M v M' 0 0 := Ev.back 3 (fun n => rfl) H
    have H : Ev none (e1 + 1) 194 52 [some (.ref 633), some (.int c), some (.int d), some (.int ((c - c / (rI M 635 0) * (rI M 635 0)) + (G_192 M d))), some (.int ((c / (rI M 635 0)) + (G_193 M d)))] [.ref 635, .int 0, .int ((c / (rI M 635 0)) + (G_193 M d))] M v M' 0 0 := Ev.back 1 (gs_3 rfl rfl (gf_u hS.1 qa_633 qr_61_5 qu_63 rfl)) H
    have H : Ev none (e1 + 1) 194 53 [some (.ref 633), some (.int c), some (.int d), some (.int ((c - c / (rI M 635 0) * (rI M 635 0)) + (G_192 M d))), some (.int ((c / (rI M 635 0)) + (G_193 M d)))] [.int 1, .ref 635, .int 0, .int ((c / (rI M 635 0)) + (G_193 M d))] M v M' 0 0 := Ev.back 1 (fun n => rfl) H
    obtain ⟨b10, H⟩ := Ev.ial rfl rfl hS.1 qa_635 qw_63 H
    have H : Ev none (e1 + 1) 194 54 [some (.ref 633), some (.int c), some (.int d), some (.int ((c - c / (rI M 635 0) * (rI M 635 0)) + (G_192 M d))), some (.int ((c / (rI M 635 0)) + (G_193 M d)))] [.int (rI M 635 1), .int 0, .int ((c / (rI M 635 0)) + (G_193 M d))] M v M' 0 0 := H
    have H : Ev none (e1 + 1) 194 56 [some (.ref 633), some (.int c), some (.int d), some (.int ((c - c / (rI M 635 0) * (rI M 635 0)) + (G_192 M d))), some (.int ((c / (rI M 635 0)) + (G_193 M d)))] [.int ((rI M 635 1) - 1), .int 0, .int ((c / (rI M 635 0)) + (G_193 M d))] M v M' 0 0 := Ev.back 2 (fun n => rfl) H
    obtain ⟨vK11, MK11, K11, H⟩ := Ev.callb (fun n => rfl) H
    obtain ⟨pK11, qK11⟩ := g_140 hS K11
    rw [pK11, qK11] at H
    have H : Ev none (e1 + 1) 194 59 [some (.ref 633), some (.int c), some (.int d), some (.int ((c - c / (rI M 635 0) * (rI M 635 0)) + (G_192 M d))), some (.int ((c / (rI M 635 0)) + (G_193 M d)))] [.int (G_140 M ((c / (rI M 635 0)) + (G_193 M d)) 0 ((rI M 635 1) - 1))] M v M' 0 0 := H
    have H : Ev none (e1 + 1) 194 (if (G_140 M ((c / (rI M 635 0)) + (G_193 M d)) 0 ((rI M 635 1) - 1)) = 0 then 76 else 62) [some (.ref 633), some (.int c), some (.int d), some (.int ((c - c / (rI M 635 0) * (rI M 635 0)) + (G_192 M d))), some (.int ((c / (rI M 635 0)) + (G_193 M d)))] [] M v M' 0 0 := Ev.back 1 (fun n => rfl) H
    by_cases h12 : (G_140 M ((c / (rI M 635 0)) + (G_193 M d)) 0 ((rI M 635 1) - 1)) = 0
    · rw [if_pos h12] at H
      have H : Ev none (e1 + 1) 194 77 [some (.ref 633), some (.int c), some (.int d), some (.int ((c - c / (rI M 635 0) * (rI M 635 0)) + (G_192 M d))), some (.int ((c / (rI M 635 0)) + (G_193 M d)))] [.int (-1)] M v M' 0 0 := Ev.back 1 (fun n => rfl) H
      obtain ⟨p1, p2⟩ := Ev.retz rfl rfl H
      exact ⟨by rw [if_neg h9, if_pos h12]; exact p1, p2⟩
    · rw [if_neg h12] at H
      have H : Ev none (e1 + 1) 194 63 [some (.ref 633), some (.int c), some (.int d), some (.int ((c - c / (rI M 635 0) * (rI M 635 0)) + (G_192 M d))), some (.int ((c / (rI M 635 0)) + (G_193 M d)))] [.ref 633] M v M' 0 0 := Ev.back 1 (fun n => rfl) H
      have H : Ev none (e1 + 1) 194 66 [some (.ref 633), some (.int c), some (.int d), some (.int ((c - c / (rI M 635 0) * (rI M 635 0)) + (G_192 M d))), some (.int ((c / (rI M 635 0)) + (G_193 M d)))] [.ref 635] M v M' 0 0 := Ev.back 1 (gs_3 rfl rfl (gf_u hS.1 qa_633 qr_61_5 qu_63 rfl)) H
      have H : Ev none (e1 + 1) 194 67 [some (.ref 633), some (.int c), some (.int d), some (.int ((c - c / (rI M 635 0) * (rI M 635 0)) + (G_192 M d))), some (.int ((c / (rI M 635 0)) + (G_193 M d)))] [.int 0, .ref 635] M v M' 0 0 := Ev.back 1 (fun n => rfl) H
      obtain ⟨b13, H⟩ := Ev.ial rfl rfl hS.1 qa_635 qw_63 H
      have H : Ev none (e1 + 1) 194 68 [some (.ref 633), some (.int c), some (.int d), some (.int ((c - c / (rI M 635 0) * (rI M 635 0)) + (G_192 M d))), some (.int ((c / (rI M 635 0)) + (G_193 M d)))] [.int (rI M 635 0)] M v M' 0 0 := H
      have H : Ev none (e1 + 1) 194 77 [some (.ref 633), some (.int c), some (.int d), some (.int ((c - c / (rI M 635 0) * (rI M 635 0)) + (G_192 M d))), some (.int ((c / (rI M 635 0)) + (G_193 M d)))] [.int (((rI M 635 0) * ((c / (rI M 635 0)) + (G_193 M d))) + ((c - c / (rI M 635 0) * (rI M 635 0)) + (G_192 M d)))] M v M' 0 0 := Ev.back 5 (fun n => rfl) H
      obtain ⟨p1, p2⟩ := Ev.retz rfl rfl H
      exact ⟨by rw [if_neg h9, if_neg h12]; exact p1, p2⟩
noncomputable def G_195 (M : Mem) (x : Int32) (y : Int32) : Int32 := G_141 M ((x - x / (rI M 635 0) * (rI M 635 0)) - (y - y / (rI M 635 0) * (rI M 635 0)))
theorem g_195 {e : Nat} {M M' : Mem} {v : Option Value} {x y : Int32} (hS : SQ M) (H : Ev none e 195 0 [some (.ref 633), some (.int x), some (.int y)] [] M v M' 0 0) : v = some (.int (G_195 M x y)) ∧ M' = M := by
  unfold G_195
  have H : Ev none e 195 2 [some (.ref 633), some (.int x), some (.int y)] [.ref 633, .int x] M v M' 0 0 := Ev.back 2 (fun n => rfl) H
  have H : Ev none e 195 5 [some (.ref 633), some (.int x), some (.int y)] [.ref 635, .int x] M v M' 0 0 := Ev.back 1 (gs_3 rfl rfl (gf_u hS.1 qa_633 qr_61_5 qu_63 rfl)) H
  have H : Ev none e 195 6 [some (.ref 633), some (.int x), some (.int y)] [.int 0, .ref 635, .int x] M v M' 0 0 := Ev.back 1 (fun n => rfl) H
  obtain ⟨b1, H⟩ := Ev.ial rfl rfl hS.1 qa_635 qw_63 H
  have H : Ev none e 195 7 [some (.ref 633), some (.int x), some (.int y)] [.int (rI M 635 0), .int x] M v M' 0 0 := H
  obtain ⟨nz2, H⟩ := rm_i H rfl rfl
  have H : Ev none e 195 8 [some (.ref 633), some (.int x), some (.int y)] [.int (x - x / (rI M 635 0) * (rI M 635 0))] M v M' 0 0 := H
  have H : Ev none e 195 10 [some (.ref 633), some (.int x), some (.int y)] [.ref 633, .int y, .int (x - x / (rI M 635 0) * (rI M 635 0))] M v M' 0 0 := Ev.back 2 (fun n => rfl) H
  have H : Ev none e 195 13 [some (.ref 633), some (.int x), some (.int y)] [.ref 635, .int y, .int (x - x / (rI M 635 0) * (rI M 635 0))] M v M' 0 0 := Ev.back 1 (gs_3 rfl rfl (gf_u hS.1 qa_633 qr_61_5 qu_63 rfl)) H
  have H : Ev none e 195 14 [some (.ref 633), some (.int x), some (.int y)] [.int 0, .ref 635, .int y, .int (x - x / (rI M 635 0) * (rI M 635 0))] M v M' 0 0 := Ev.back 1 (fun n => rfl) H
  obtain ⟨b3, H⟩ := Ev.ial rfl rfl hS.1 qa_635 qw_63 H
  have H : Ev none e 195 15 [some (.ref 633), some (.int x), some (.int y)] [.int (rI M 635 0), .int y, .int (x - x / (rI M 635 0) * (rI M 635 0))] M v M' 0 0 := H
  obtain ⟨nz4, H⟩ := rm_i H rfl rfl
  have H : Ev none e 195 16 [some (.ref 633), some (.int x), some (.int y)] [.int (y - y / (rI M 635 0) * (rI M 635 0)), .int (x - x / (rI M 635 0) * (rI M 635 0))] M v M' 0 0 := H
  have H : Ev none e 195 17 [some (.ref 633), some (.int x), some (.int y)] [.int ((x - x / (rI M 635 0) * (rI M 635 0)) - (y - y / (rI M 635 0) * (rI M 635 0)))] M v M' 0 0 := Ev.back 1 (fun n => rfl) H
  obtain ⟨e1, rfl⟩ := Ev.dpos rfl rfl H
  obtain ⟨vK5, MK5, K5, H⟩ := Ev.callb (fun n => rfl) H
  obtain ⟨pK5, qK5⟩ := g_141 hS K5
  rw [pK5, qK5] at H
  have H : Ev none (e1 + 1) 195 20 [some (.ref 633), some (.int x), some (.int y)] [.int (G_141 M ((x - x / (rI M 635 0) * (rI M 635 0)) - (y - y / (rI M 635 0) * (rI M 635 0))))] M v M' 0 0 := H
  obtain ⟨p1, p2⟩ := Ev.retz rfl rfl H
  exact ⟨p1, p2⟩
noncomputable def G_196 (M : Mem) (x : Int32) (y : Int32) : Int32 := G_141 M ((x / (rI M 635 0)) - (y / (rI M 635 0)))
theorem g_196 {e : Nat} {M M' : Mem} {v : Option Value} {x y : Int32} (hS : SQ M) (H : Ev none e 196 0 [some (.ref 633), some (.int x), some (.int y)] [] M v M' 0 0) : v = some (.int (G_196 M x y)) ∧ M' = M := by
  unfold G_196
  have H : Ev none e 196 2 [some (.ref 633), some (.int x), some (.int y)] [.ref 633, .int x] M v M' 0 0 := Ev.back 2 (fun n => rfl) H
  have H : Ev none e 196 5 [some (.ref 633), some (.int x), some (.int y)] [.ref 635, .int x] M v M' 0 0 := Ev.back 1 (gs_3 rfl rfl (gf_u hS.1 qa_633 qr_61_5 qu_63 rfl)) H
  have H : Ev none e 196 6 [some (.ref 633), some (.int x), some (.int y)] [.int 0, .ref 635, .int x] M v M' 0 0 := Ev.back 1 (fun n => rfl) H
  obtain ⟨b1, H⟩ := Ev.ial rfl rfl hS.1 qa_635 qw_63 H
  have H : Ev none e 196 7 [some (.ref 633), some (.int x), some (.int y)] [.int (rI M 635 0), .int x] M v M' 0 0 := H
  obtain ⟨nz2, H⟩ := dv_i H rfl rfl
  have H : Ev none e 196 8 [some (.ref 633), some (.int x), some (.int y)] [.int (x / (rI M 635 0))] M v M' 0 0 := H
  have H : Ev none e 196 10 [some (.ref 633), some (.int x), some (.int y)] [.ref 633, .int y, .int (x / (rI M 635 0))] M v M' 0 0 := Ev.back 2 (fun n => rfl) H
  have H : Ev none e 196 13 [some (.ref 633), some (.int x), some (.int y)] [.ref 635, .int y, .int (x / (rI M 635 0))] M v M' 0 0 := Ev.back 1 (gs_3 rfl rfl (gf_u hS.1 qa_633 qr_61_5 qu_63 rfl)) H
  have H : Ev none e 196 14 [some (.ref 633), some (.int x), some (.int y)] [.int 0, .ref 635, .int y, .int (x / (rI M 635 0))] M v M' 0 0 := Ev.back 1 (fun n => rfl) H
  obtain ⟨b3, H⟩ := Ev.ial rfl rfl hS.1 qa_635 qw_63 H
  have H : Ev none e 196 15 [some (.ref 633), some (.int x), some (.int y)] [.int (rI M 635 0), .int y, .int (x / (rI M 635 0))] M v M' 0 0 := H
  obtain ⟨nz4, H⟩ := dv_i H rfl rfl
  have H : Ev none e 196 16 [some (.ref 633), some (.int x), some (.int y)] [.int (y / (rI M 635 0)), .int (x / (rI M 635 0))] M v M' 0 0 := H
  have H : Ev none e 196 17 [some (.ref 633), some (.int x), some (.int y)] [.int ((x / (rI M 635 0)) - (y / (rI M 635 0)))] M v M' 0 0 := Ev.back 1 (fun n => rfl) H
  obtain ⟨e1, rfl⟩ := Ev.dpos rfl rfl H
  obtain ⟨vK5, MK5, K5, H⟩ := Ev.callb (fun n => rfl) H
  obtain ⟨pK5, qK5⟩ := g_141 hS K5
  rw [pK5, qK5] at H
  have H : Ev none (e1 + 1) 196 20 [some (.ref 633), some (.int x), some (.int y)] [.int (G_141 M ((x / (rI M 635 0)) - (y / (rI M 635 0))))] M v M' 0 0 := H
  obtain ⟨p1, p2⟩ := Ev.retz rfl rfl H
  exact ⟨p1, p2⟩
theorem ris0_0 {e : Nat} {M M' : Mem} {v : Option Value} {c : Int32} (hS : SQ M) (H : Ev none e 186 0 [some (.ref 633), some (.int c), some (.int 0)] [] M v M' 0 0) : ((G_146 M c 0) = 0 ∧ v = some (.int 1) ∧ M' = M) ∨ (¬ ((G_146 M c 0) = 0) ∧ v = some (.int 0) ∧ M' = M) := by
  have H : Ev none e 186 47 [some (.ref 633), some (.int c), some (.int 0)] [.int 0, .int c, .ref 633] M v M' 0 0 := Ev.back 5 (fun n => rfl) H
  obtain ⟨e1, rfl⟩ := Ev.dpos rfl rfl H
  obtain ⟨vK1, MK1, K1, H⟩ := Ev.callb (fun n_ => gs_7 rfl rfl (show gCal (.invokevirtual 136) 11 (.int 0 :: .int c :: .ref 633 :: []) M = some (.inr (146, [some (.ref 633), some (.int c), some (.int 0)], [])) from by show @cond (Option ((List Value × Mem) ⊕ (Nat × Lo × List Value))) (true && gRecv M (.ref 633) 11 && gRoom [] && true) (some (.inr (146, [some (.ref 633), some (.int c), some (.int 0)], []))) none = _; rw [recv_s hS.1 qa_633 qo_61]; rfl)) H
  obtain ⟨pK1, qK1⟩ := g_146 hS K1
  rw [pK1, qK1] at H
  have H : Ev none (e1 + 1) 186 50 [some (.ref 633), some (.int c), some (.int 0)] [.int (G_146 M c 0)] M v M' 0 0 := H
  have H : Ev none (e1 + 1) 186 (if (G_146 M c 0) = 0 then 53 else 57) [some (.ref 633), some (.int c), some (.int 0)] [] M v M' 0 0 := Ev.back 1 (fun n => rfl) H
  by_cases h2 : (G_146 M c 0) = 0
  · rw [if_pos h2] at H
    have H : Ev none (e1 + 1) 186 58 [some (.ref 633), some (.int c), some (.int 0)] [.int 1] M v M' 0 0 := Ev.back 2 (fun n => rfl) H
    obtain ⟨z1, z2⟩ := Ev.retz rfl rfl H
    exact Or.inl ⟨h2, z1, z2⟩
  · rw [if_neg h2] at H
    have H : Ev none (e1 + 1) 186 58 [some (.ref 633), some (.int c), some (.int 0)] [.int 0] M v M' 0 0 := Ev.back 1 (fun n => rfl) H
    obtain ⟨z1, z2⟩ := Ev.retz rfl rfl H
    exact Or.inr (⟨h2, z1, z2⟩)
theorem ris1_0 {e : Nat} {M M' : Mem} {v : Option Value} {c : Int32} (hS : SQ M) (H : Ev none e 186 0 [some (.ref 633), some (.int c), some (.int 1)] [] M v M' 0 0) : ((G_146 M c 0) = 1 ∧ v = some (.int 1) ∧ M' = M) ∨ (¬ ((G_146 M c 0) = 1) ∧ v = some (.int 0) ∧ M' = M) := by
  have H : Ev none e 186 62 [some (.ref 633), some (.int c), some (.int 1)] [.int 0, .int c, .ref 633] M v M' 0 0 := Ev.back 5 (fun n => rfl) H
  obtain ⟨e1, rfl⟩ := Ev.dpos rfl rfl H
  obtain ⟨vK1, MK1, K1, H⟩ := Ev.callb (fun n_ => gs_7 rfl rfl (show gCal (.invokevirtual 136) 11 (.int 0 :: .int c :: .ref 633 :: []) M = some (.inr (146, [some (.ref 633), some (.int c), some (.int 0)], [])) from by show @cond (Option ((List Value × Mem) ⊕ (Nat × Lo × List Value))) (true && gRecv M (.ref 633) 11 && gRoom [] && true) (some (.inr (146, [some (.ref 633), some (.int c), some (.int 0)], []))) none = _; rw [recv_s hS.1 qa_633 qo_61]; rfl)) H
  obtain ⟨pK1, qK1⟩ := g_146 hS K1
  rw [pK1, qK1] at H
  have H : Ev none (e1 + 1) 186 65 [some (.ref 633), some (.int c), some (.int 1)] [.int (G_146 M c 0)] M v M' 0 0 := H
  have H : Ev none (e1 + 1) 186 (if (G_146 M c 0) = 1 then 69 else 73) [some (.ref 633), some (.int c), some (.int 1)] [] M v M' 0 0 := Ev.back 2 (fun n => rfl) H
  by_cases h2 : (G_146 M c 0) = 1
  · rw [if_pos h2] at H
    have H : Ev none (e1 + 1) 186 74 [some (.ref 633), some (.int c), some (.int 1)] [.int 1] M v M' 0 0 := Ev.back 2 (fun n => rfl) H
    obtain ⟨z1, z2⟩ := Ev.retz rfl rfl H
    exact Or.inl ⟨h2, z1, z2⟩
  · rw [if_neg h2] at H
    have H : Ev none (e1 + 1) 186 74 [some (.ref 633), some (.int c), some (.int 1)] [.int 0] M v M' 0 0 := Ev.back 1 (fun n => rfl) H
    obtain ⟨z1, z2⟩ := Ev.retz rfl rfl H
    exact Or.inr (⟨h2, z1, z2⟩)
theorem ris2_0 {e : Nat} {M M' : Mem} {v : Option Value} {c : Int32} (hS : SQ M) (H : Ev none e 186 0 [some (.ref 633), some (.int c), some (.int 2)] [] M v M' 0 0) : ((G_146 M c 0) = 2 ∧ v = some (.int 1) ∧ M' = M) ∨ (¬ ((G_146 M c 0) = 2) ∧ v = some (.int 0) ∧ M' = M) := by
  have H : Ev none e 186 78 [some (.ref 633), some (.int c), some (.int 2)] [.int 0, .int c, .ref 633] M v M' 0 0 := Ev.back 5 (fun n => rfl) H
  obtain ⟨e1, rfl⟩ := Ev.dpos rfl rfl H
  obtain ⟨vK1, MK1, K1, H⟩ := Ev.callb (fun n_ => gs_7 rfl rfl (show gCal (.invokevirtual 136) 11 (.int 0 :: .int c :: .ref 633 :: []) M = some (.inr (146, [some (.ref 633), some (.int c), some (.int 0)], [])) from by show @cond (Option ((List Value × Mem) ⊕ (Nat × Lo × List Value))) (true && gRecv M (.ref 633) 11 && gRoom [] && true) (some (.inr (146, [some (.ref 633), some (.int c), some (.int 0)], []))) none = _; rw [recv_s hS.1 qa_633 qo_61]; rfl)) H
  obtain ⟨pK1, qK1⟩ := g_146 hS K1
  rw [pK1, qK1] at H
  have H : Ev none (e1 + 1) 186 81 [some (.ref 633), some (.int c), some (.int 2)] [.int (G_146 M c 0)] M v M' 0 0 := H
  have H : Ev none (e1 + 1) 186 (if (G_146 M c 0) = 2 then 85 else 89) [some (.ref 633), some (.int c), some (.int 2)] [] M v M' 0 0 := Ev.back 2 (fun n => rfl) H
  by_cases h2 : (G_146 M c 0) = 2
  · rw [if_pos h2] at H
    have H : Ev none (e1 + 1) 186 90 [some (.ref 633), some (.int c), some (.int 2)] [.int 1] M v M' 0 0 := Ev.back 2 (fun n => rfl) H
    obtain ⟨z1, z2⟩ := Ev.retz rfl rfl H
    exact Or.inl ⟨h2, z1, z2⟩
  · rw [if_neg h2] at H
    have H : Ev none (e1 + 1) 186 90 [some (.ref 633), some (.int c), some (.int 2)] [.int 0] M v M' 0 0 := Ev.back 1 (fun n => rfl) H
    obtain ⟨z1, z2⟩ := Ev.retz rfl rfl H
    exact Or.inr (⟨h2, z1, z2⟩)
theorem ris3_0 {e : Nat} {M M' : Mem} {v : Option Value} {c : Int32} (hS : SQ M) (H : Ev none e 186 0 [some (.ref 633), some (.int c), some (.int 3)] [] M v M' 0 0) : ((G_146 M c 0) = 4 ∧ v = some (.int 1) ∧ M' = M) ∨ (¬ ((G_146 M c 0) = 4) ∧ v = some (.int 0) ∧ M' = M) := by
  have H : Ev none e 186 94 [some (.ref 633), some (.int c), some (.int 3)] [.int 0, .int c, .ref 633] M v M' 0 0 := Ev.back 5 (fun n => rfl) H
  obtain ⟨e1, rfl⟩ := Ev.dpos rfl rfl H
  obtain ⟨vK1, MK1, K1, H⟩ := Ev.callb (fun n_ => gs_7 rfl rfl (show gCal (.invokevirtual 136) 11 (.int 0 :: .int c :: .ref 633 :: []) M = some (.inr (146, [some (.ref 633), some (.int c), some (.int 0)], [])) from by show @cond (Option ((List Value × Mem) ⊕ (Nat × Lo × List Value))) (true && gRecv M (.ref 633) 11 && gRoom [] && true) (some (.inr (146, [some (.ref 633), some (.int c), some (.int 0)], []))) none = _; rw [recv_s hS.1 qa_633 qo_61]; rfl)) H
  obtain ⟨pK1, qK1⟩ := g_146 hS K1
  rw [pK1, qK1] at H
  have H : Ev none (e1 + 1) 186 97 [some (.ref 633), some (.int c), some (.int 3)] [.int (G_146 M c 0)] M v M' 0 0 := H
  have H : Ev none (e1 + 1) 186 (if (G_146 M c 0) = 4 then 101 else 105) [some (.ref 633), some (.int c), some (.int 3)] [] M v M' 0 0 := Ev.back 2 (fun n => rfl) H
  by_cases h2 : (G_146 M c 0) = 4
  · rw [if_pos h2] at H
    have H : Ev none (e1 + 1) 186 106 [some (.ref 633), some (.int c), some (.int 3)] [.int 1] M v M' 0 0 := Ev.back 2 (fun n => rfl) H
    obtain ⟨z1, z2⟩ := Ev.retz rfl rfl H
    exact Or.inl ⟨h2, z1, z2⟩
  · rw [if_neg h2] at H
    have H : Ev none (e1 + 1) 186 106 [some (.ref 633), some (.int c), some (.int 3)] [.int 0] M v M' 0 0 := Ev.back 1 (fun n => rfl) H
    obtain ⟨z1, z2⟩ := Ev.retz rfl rfl H
    exact Or.inr (⟨h2, z1, z2⟩)
theorem ris4_0 {e : Nat} {M M' : Mem} {v : Option Value} {c : Int32} (hS : SQ M) (H : Ev none e 186 0 [some (.ref 633), some (.int c), some (.int 4)] [] M v M' 0 0) : ((G_146 M c 0) = 5 ∧ v = some (.int 1) ∧ M' = M) ∨ (¬ ((G_146 M c 0) = 5) ∧ v = some (.int 0) ∧ M' = M) := by
  have H : Ev none e 186 110 [some (.ref 633), some (.int c), some (.int 4)] [.int 0, .int c, .ref 633] M v M' 0 0 := Ev.back 5 (fun n => rfl) H
  obtain ⟨e1, rfl⟩ := Ev.dpos rfl rfl H
  obtain ⟨vK1, MK1, K1, H⟩ := Ev.callb (fun n_ => gs_7 rfl rfl (show gCal (.invokevirtual 136) 11 (.int 0 :: .int c :: .ref 633 :: []) M = some (.inr (146, [some (.ref 633), some (.int c), some (.int 0)], [])) from by show @cond (Option ((List Value × Mem) ⊕ (Nat × Lo × List Value))) (true && gRecv M (.ref 633) 11 && gRoom [] && true) (some (.inr (146, [some (.ref 633), some (.int c), some (.int 0)], []))) none = _; rw [recv_s hS.1 qa_633 qo_61]; rfl)) H
  obtain ⟨pK1, qK1⟩ := g_146 hS K1
  rw [pK1, qK1] at H
  have H : Ev none (e1 + 1) 186 113 [some (.ref 633), some (.int c), some (.int 4)] [.int (G_146 M c 0)] M v M' 0 0 := H
  have H : Ev none (e1 + 1) 186 (if (G_146 M c 0) = 5 then 117 else 121) [some (.ref 633), some (.int c), some (.int 4)] [] M v M' 0 0 := Ev.back 2 (fun n => rfl) H
  by_cases h2 : (G_146 M c 0) = 5
  · rw [if_pos h2] at H
    have H : Ev none (e1 + 1) 186 122 [some (.ref 633), some (.int c), some (.int 4)] [.int 1] M v M' 0 0 := Ev.back 2 (fun n => rfl) H
    obtain ⟨z1, z2⟩ := Ev.retz rfl rfl H
    exact Or.inl ⟨h2, z1, z2⟩
  · rw [if_neg h2] at H
    have H : Ev none (e1 + 1) 186 122 [some (.ref 633), some (.int c), some (.int 4)] [.int 0] M v M' 0 0 := Ev.back 1 (fun n => rfl) H
    obtain ⟨z1, z2⟩ := Ev.retz rfl rfl H
    exact Or.inr (⟨h2, z1, z2⟩)
theorem ris5_0 {e : Nat} {M M' : Mem} {v : Option Value} {c : Int32} (hS : SQ M) (H : Ev none e 186 0 [some (.ref 633), some (.int c), some (.int 5)] [] M v M' 0 0) : ((G_146 M c 1) = 1 ∧ v = some (.int 1) ∧ M' = M) ∨ (¬ ((G_146 M c 1) = 1) ∧ v = some (.int 0) ∧ M' = M) := by
  have H : Ev none e 186 126 [some (.ref 633), some (.int c), some (.int 5)] [.int 1, .int c, .ref 633] M v M' 0 0 := Ev.back 5 (fun n => rfl) H
  obtain ⟨e1, rfl⟩ := Ev.dpos rfl rfl H
  obtain ⟨vK1, MK1, K1, H⟩ := Ev.callb (fun n_ => gs_7 rfl rfl (show gCal (.invokevirtual 136) 11 (.int 1 :: .int c :: .ref 633 :: []) M = some (.inr (146, [some (.ref 633), some (.int c), some (.int 1)], [])) from by show @cond (Option ((List Value × Mem) ⊕ (Nat × Lo × List Value))) (true && gRecv M (.ref 633) 11 && gRoom [] && true) (some (.inr (146, [some (.ref 633), some (.int c), some (.int 1)], []))) none = _; rw [recv_s hS.1 qa_633 qo_61]; rfl)) H
  obtain ⟨pK1, qK1⟩ := g_146 hS K1
  rw [pK1, qK1] at H
  have H : Ev none (e1 + 1) 186 129 [some (.ref 633), some (.int c), some (.int 5)] [.int (G_146 M c 1)] M v M' 0 0 := H
  have H : Ev none (e1 + 1) 186 (if (G_146 M c 1) = 1 then 133 else 137) [some (.ref 633), some (.int c), some (.int 5)] [] M v M' 0 0 := Ev.back 2 (fun n => rfl) H
  by_cases h2 : (G_146 M c 1) = 1
  · rw [if_pos h2] at H
    have H : Ev none (e1 + 1) 186 138 [some (.ref 633), some (.int c), some (.int 5)] [.int 1] M v M' 0 0 := Ev.back 2 (fun n => rfl) H
    obtain ⟨z1, z2⟩ := Ev.retz rfl rfl H
    exact Or.inl ⟨h2, z1, z2⟩
  · rw [if_neg h2] at H
    have H : Ev none (e1 + 1) 186 138 [some (.ref 633), some (.int c), some (.int 5)] [.int 0] M v M' 0 0 := Ev.back 1 (fun n => rfl) H
    obtain ⟨z1, z2⟩ := Ev.retz rfl rfl H
    exact Or.inr (⟨h2, z1, z2⟩)
theorem ris6_0 {e : Nat} {M M' : Mem} {v : Option Value} {c : Int32} (hS : SQ M) (H : Ev none e 186 0 [some (.ref 633), some (.int c), some (.int 6)] [] M v M' 0 0) : v = some (.int (G_151 M c)) ∧ M' = M := by
  have H : Ev none e 186 141 [some (.ref 633), some (.int c), some (.int 6)] [.int c, .ref 633] M v M' 0 0 := Ev.back 4 (fun n => rfl) H
  obtain ⟨e1, rfl⟩ := Ev.dpos rfl rfl H
  obtain ⟨vK1, MK1, K1, H⟩ := Ev.callb (fun n_ => gs_7 rfl rfl (show gCal (.invokevirtual 331) 11 (.int c :: .ref 633 :: []) M = some (.inr (151, [some (.ref 633), some (.int c)], [])) from by show @cond (Option ((List Value × Mem) ⊕ (Nat × Lo × List Value))) (true && gRecv M (.ref 633) 11 && gRoom [] && true) (some (.inr (151, [some (.ref 633), some (.int c)], []))) none = _; rw [recv_s hS.1 qa_633 qo_61]; rfl)) H
  obtain ⟨pK1, qK1⟩ := g_151 hS K1
  rw [pK1, qK1] at H
  have H : Ev none (e1 + 1) 186 144 [some (.ref 633), some (.int c), some (.int 6)] [.int (G_151 M c)] M v M' 0 0 := H
  obtain ⟨z1, z2⟩ := Ev.retz rfl rfl H
  exact ⟨z1, z2⟩
theorem ris7_0 {e : Nat} {M M' : Mem} {v : Option Value} {c : Int32} (hS : SQ M) (H : Ev none e 186 0 [some (.ref 633), some (.int c), some (.int 7)] [] M v M' 0 0) : v = some (.int (G_150 M c)) ∧ M' = M := by
  have H : Ev none e 186 147 [some (.ref 633), some (.int c), some (.int 7)] [.int c, .ref 633] M v M' 0 0 := Ev.back 4 (fun n => rfl) H
  obtain ⟨e1, rfl⟩ := Ev.dpos rfl rfl H
  obtain ⟨vK1, MK1, K1, H⟩ := Ev.callb (fun n_ => gs_7 rfl rfl (show gCal (.invokevirtual 140) 11 (.int c :: .ref 633 :: []) M = some (.inr (150, [some (.ref 633), some (.int c)], [])) from by show @cond (Option ((List Value × Mem) ⊕ (Nat × Lo × List Value))) (true && gRecv M (.ref 633) 11 && gRoom [] && true) (some (.inr (150, [some (.ref 633), some (.int c)], []))) none = _; rw [recv_s hS.1 qa_633 qo_61]; rfl)) H
  obtain ⟨pK1, qK1⟩ := g_150 hS K1
  rw [pK1, qK1] at H
  have H : Ev none (e1 + 1) 186 150 [some (.ref 633), some (.int c), some (.int 7)] [.int (G_150 M c)] M v M' 0 0 := H
  obtain ⟨z1, z2⟩ := Ev.retz rfl rfl H
  exact ⟨z1, z2⟩
theorem rho_0 {e : Nat} {M M' : Mem} {v : Option Value} {x c : Int32} (hS : SQ M) (H : Ev none e 187 0 [some (.ref 633), some (.int x), some (.int c), none, none, none, none, none] [] M v M' 0 0) : ((rI M 643 x) = (rI M 644 x) ∧ (0 ≤ x.toInt ∧ x.toInt < 128) ∧ (0 ≤ x.toInt ∧ x.toInt < 128) ∧ v = some (.int 1) ∧ M' = M) ∨ (¬ ((rI M 643 x) = (rI M 644 x)) ∧ (0 ≤ x.toInt ∧ x.toInt < 128) ∧ (0 ≤ x.toInt ∧ x.toInt < 128) ∧ (0 ≤ x.toInt ∧ x.toInt < 128) ∧ Ev none e 187 39 [some (.ref 633), some (.int x), some (.int c), some (.int (x / 16)), some (.int 0), some (.int ((200 * (x / 16)) + (rI M 643 x))), none, none] [] M v M' 0 0) := by
  have H : Ev none e 187 6 [some (.ref 633), some (.int x), some (.int c), some (.int (x / 16)), none, none, none, none] [.ref 633] M v M' 0 0 := Ev.back 5 (fun n => rfl) H
  have H : Ev none e 187 9 [some (.ref 633), some (.int x), some (.int c), some (.int (x / 16)), none, none, none, none] [.ref 643] M v M' 0 0 := Ev.back 1 (gs_3 rfl rfl (gf_u hS.1 qa_633 qr_61_13 qu_71 rfl)) H
  have H : Ev none e 187 10 [some (.ref 633), some (.int x), some (.int c), some (.int (x / 16)), none, none, none, none] [.int x, .ref 643] M v M' 0 0 := Ev.back 1 (fun n => rfl) H
  obtain ⟨b1, H⟩ := Ev.ial rfl rfl hS.1 qa_643 qw_71 H
  have H : Ev none e 187 11 [some (.ref 633), some (.int x), some (.int c), some (.int (x / 16)), none, none, none, none] [.int (rI M 643 x)] M v M' 0 0 := H
  have H : Ev none e 187 12 [some (.ref 633), some (.int x), some (.int c), some (.int (x / 16)), none, none, none, none] [.ref 633, .int (rI M 643 x)] M v M' 0 0 := Ev.back 1 (fun n => rfl) H
  have H : Ev none e 187 15 [some (.ref 633), some (.int x), some (.int c), some (.int (x / 16)), none, none, none, none] [.ref 644, .int (rI M 643 x)] M v M' 0 0 := Ev.back 1 (gs_3 rfl rfl (gf_u hS.1 qa_633 qr_61_14 qu_72 rfl)) H
  have H : Ev none e 187 16 [some (.ref 633), some (.int x), some (.int c), some (.int (x / 16)), none, none, none, none] [.int x, .ref 644, .int (rI M 643 x)] M v M' 0 0 := Ev.back 1 (fun n => rfl) H
  obtain ⟨b2, H⟩ := Ev.ial rfl rfl hS.1 qa_644 qw_72 H
  have H : Ev none e 187 17 [some (.ref 633), some (.int x), some (.int c), some (.int (x / 16)), none, none, none, none] [.int (rI M 644 x), .int (rI M 643 x)] M v M' 0 0 := H
  have H : Ev none e 187 (if (rI M 643 x) = (rI M 644 x) then 20 else 22) [some (.ref 633), some (.int x), some (.int c), some (.int (x / 16)), none, none, none, none] [] M v M' 0 0 := Ev.back 1 (fun n => rfl) H
  by_cases h3 : (rI M 643 x) = (rI M 644 x)
  · rw [if_pos h3] at H
    have H : Ev none e 187 21 [some (.ref 633), some (.int x), some (.int c), some (.int (x / 16)), none, none, none, none] [.int 1] M v M' 0 0 := Ev.back 1 (fun n => rfl) H
    obtain ⟨z1, z2⟩ := Ev.retz rfl rfl H
    exact Or.inl ⟨h3, b1, b2, z1, z2⟩
  · rw [if_neg h3] at H
    have H : Ev none e 187 31 [some (.ref 633), some (.int x), some (.int c), some (.int (x / 16)), some (.int 0), none, none, none] [.ref 633, .int (200 * (x / 16))] M v M' 0 0 := Ev.back 6 (fun n => rfl) H
    have H : Ev none e 187 34 [some (.ref 633), some (.int x), some (.int c), some (.int (x / 16)), some (.int 0), none, none, none] [.ref 643, .int (200 * (x / 16))] M v M' 0 0 := Ev.back 1 (gs_3 rfl rfl (gf_u hS.1 qa_633 qr_61_13 qu_71 rfl)) H
    have H : Ev none e 187 35 [some (.ref 633), some (.int x), some (.int c), some (.int (x / 16)), some (.int 0), none, none, none] [.int x, .ref 643, .int (200 * (x / 16))] M v M' 0 0 := Ev.back 1 (fun n => rfl) H
    obtain ⟨b4, H⟩ := Ev.ial rfl rfl hS.1 qa_643 qw_71 H
    have H : Ev none e 187 36 [some (.ref 633), some (.int x), some (.int c), some (.int (x / 16)), some (.int 0), none, none, none] [.int (rI M 643 x), .int (200 * (x / 16))] M v M' 0 0 := H
    have H : Ev none e 187 39 [some (.ref 633), some (.int x), some (.int c), some (.int (x / 16)), some (.int 0), some (.int ((200 * (x / 16)) + (rI M 643 x))), none, none] [] M v M' 0 0 := Ev.back 2 (fun n => rfl) H
    have HF := H
    exact Or.inr (⟨h3, b1, b2, b4, HF⟩)
theorem rho_39 {e : Nat} {M M' : Mem} {v : Option Value} {x c tx sn kk : Int32} {c6 c7 : Option Value} (hS : SQ M) (H : Ev none e 187 39 [some (.ref 633), some (.int x), some (.int c), some (.int tx), some (.int sn), some (.int kk), c6, c7] [] M v M' 0 0) : (((200 * tx) + (rI M 644 x)) ≤ kk ∧ (0 ≤ x.toInt ∧ x.toInt < 128) ∧ (0 ≤ (0 : Int32).toInt ∧ (0 : Int32).toInt < 60) ∧ v = some (.int (rI M 649 0)) ∧ M' = M) ∨ (¬ (((200 * tx) + (rI M 644 x)) ≤ kk) ∧ (0 ≤ x.toInt ∧ x.toInt < 128) ∧ (0 ≤ kk.toInt ∧ kk.toInt < 1600) ∧ Ev none e 187 65 [some (.ref 633), some (.int x), some (.int c), some (.int tx), some (.int sn), some (.int kk), some (.int (rI M 645 kk)), c7] [] M v M' 0 0) := by
  have H : Ev none e 187 47 [some (.ref 633), some (.int x), some (.int c), some (.int tx), some (.int sn), some (.int kk), c6, c7] [.ref 633, .int (200 * tx), .int kk] M v M' 0 0 := Ev.back 5 (fun n => rfl) H
  have H : Ev none e 187 50 [some (.ref 633), some (.int x), some (.int c), some (.int tx), some (.int sn), some (.int kk), c6, c7] [.ref 644, .int (200 * tx), .int kk] M v M' 0 0 := Ev.back 1 (gs_3 rfl rfl (gf_u hS.1 qa_633 qr_61_14 qu_72 rfl)) H
  have H : Ev none e 187 51 [some (.ref 633), some (.int x), some (.int c), some (.int tx), some (.int sn), some (.int kk), c6, c7] [.int x, .ref 644, .int (200 * tx), .int kk] M v M' 0 0 := Ev.back 1 (fun n => rfl) H
  obtain ⟨b1, H⟩ := Ev.ial rfl rfl hS.1 qa_644 qw_72 H
  have H : Ev none e 187 52 [some (.ref 633), some (.int x), some (.int c), some (.int tx), some (.int sn), some (.int kk), c6, c7] [.int (rI M 644 x), .int (200 * tx), .int kk] M v M' 0 0 := H
  have H : Ev none e 187 (if ((200 * tx) + (rI M 644 x)) ≤ kk then 360 else 56) [some (.ref 633), some (.int x), some (.int c), some (.int tx), some (.int sn), some (.int kk), c6, c7] [] M v M' 0 0 := Ev.back 2 (fun n => rfl) H
  by_cases h2 : ((200 * tx) + (rI M 644 x)) ≤ kk
  · rw [if_pos h2] at H
    have H : Ev none e 187 361 [some (.ref 633), some (.int x), some (.int c), some (.int tx), some (.int sn), some (.int kk), c6, c7] [.ref 633] M v M' 0 0 := Ev.back 1 (fun n => rfl) H
    have H : Ev none e 187 364 [some (.ref 633), some (.int x), some (.int c), some (.int tx), some (.int sn), some (.int kk), c6, c7] [.ref 649] M v M' 0 0 := Ev.back 1 (gs_3 rfl rfl (gf_u hS.1 qa_633 qr_61_33 qu_77 rfl)) H
    have H : Ev none e 187 365 [some (.ref 633), some (.int x), some (.int c), some (.int tx), some (.int sn), some (.int kk), c6, c7] [.int 0, .ref 649] M v M' 0 0 := Ev.back 1 (fun n => rfl) H
    obtain ⟨b3, H⟩ := Ev.bal rfl rfl hS.1 qa_649 qw_77 (Or.inr rfl) H
    have H : Ev none e 187 366 [some (.ref 633), some (.int x), some (.int c), some (.int tx), some (.int sn), some (.int kk), c6, c7] [.int (rI M 649 0)] M v M' 0 0 := H
    obtain ⟨z1, z2⟩ := Ev.retz rfl rfl H
    exact Or.inl ⟨h2, b1, b3, z1, z2⟩
  · rw [if_neg h2] at H
    have H : Ev none e 187 57 [some (.ref 633), some (.int x), some (.int c), some (.int tx), some (.int sn), some (.int kk), c6, c7] [.ref 633] M v M' 0 0 := Ev.back 1 (fun n => rfl) H
    have H : Ev none e 187 60 [some (.ref 633), some (.int x), some (.int c), some (.int tx), some (.int sn), some (.int kk), c6, c7] [.ref 645] M v M' 0 0 := Ev.back 1 (gs_3 rfl rfl (gf_u hS.1 qa_633 qr_61_15 qu_73 rfl)) H
    have H : Ev none e 187 62 [some (.ref 633), some (.int x), some (.int c), some (.int tx), some (.int sn), some (.int kk), c6, c7] [.int kk, .ref 645] M v M' 0 0 := Ev.back 1 (fun n => rfl) H
    obtain ⟨b4, H⟩ := Ev.ial rfl rfl hS.1 qa_645 qw_73 H
    have H : Ev none e 187 63 [some (.ref 633), some (.int x), some (.int c), some (.int tx), some (.int sn), some (.int kk), c6, c7] [.int (rI M 645 kk)] M v M' 0 0 := H
    have H : Ev none e 187 65 [some (.ref 633), some (.int x), some (.int c), some (.int tx), some (.int sn), some (.int kk), some (.int (rI M 645 kk)), c7] [] M v M' 0 0 := Ev.back 1 (fun n => rfl) H
    have HF := H
    exact Or.inr (⟨h2, b1, b4, HF⟩)
theorem rho_65 {e : Nat} {M M' : Mem} {v : Option Value} {x c tx sn kk wh : Int32} {c7 : Option Value} (hS : SQ M) (H : Ev none e 187 65 [some (.ref 633), some (.int x), some (.int c), some (.int tx), some (.int sn), some (.int kk), some (.int wh), c7] [] M v M' 0 0) : (wh = 20 ∧ (rI M 649 (sn - 1)) = 0 ∧ (0 ≤ (sn - 1).toInt ∧ (sn - 1).toInt < 60) ∧ (0 ≤ (sn - 1).toInt ∧ (sn - 1).toInt < 60) ∧ Ev none e 187 39 [some (.ref 633), some (.int x), some (.int c), some (.int tx), some (.int sn), some (.int (kk + 1)), some (.int wh), c7] [] (wI M 649 ((sn - 1).toNatClampNeg) (vp_nar .boolean 1)) v M' 0 0) ∨ (wh = 20 ∧ ¬ ((rI M 649 (sn - 1)) = 0) ∧ (0 ≤ (sn - 1).toInt ∧ (sn - 1).toInt < 60) ∧ (0 ≤ (sn - 1).toInt ∧ (sn - 1).toInt < 60) ∧ Ev none e 187 39 [some (.ref 633), some (.int x), some (.int c), some (.int tx), some (.int sn), some (.int (kk + 1)), some (.int wh), c7] [] (wI M 649 ((sn - 1).toNatClampNeg) (vp_nar .boolean 0)) v M' 0 0) ∨ (¬ (wh = 20) ∧ wh = 21 ∧ Ev none e 187 118 [some (.ref 633), some (.int x), some (.int c), some (.int tx), some (.int (sn + Int32.ofInt (-1))), some (.int kk), some (.int wh), c7] [] M v M' 0 0) ∨ (¬ (wh = 20) ∧ ¬ (wh = 21) ∧ wh = 22 ∧ Ev none e 187 118 [some (.ref 633), some (.int x), some (.int c), some (.int tx), some (.int (sn + Int32.ofInt (-1))), some (.int kk), some (.int wh), c7] [] M v M' 0 0) ∨ (¬ (wh = 20) ∧ ¬ (wh = 21) ∧ ¬ (wh = 22) ∧ 8 ≤ wh ∧ wh = 8 ∧ Ev none e 187 246 [some (.ref 633), some (.int x), some (.int c), some (.int tx), some (.int sn), some (.int kk), some (.int wh), some (.int (G_146 M c 3))] [] M v M' 0 0) ∨ (¬ (wh = 20) ∧ ¬ (wh = 21) ∧ ¬ (wh = 22) ∧ 8 ≤ wh ∧ ¬ (wh = 8) ∧ wh = 9 ∧ Ev none e 187 246 [some (.ref 633), some (.int x), some (.int c), some (.int tx), some (.int sn), some (.int kk), some (.int wh), some (.int (G_146 M c 4))] [] M v M' 0 0) ∨ (¬ (wh = 20) ∧ ¬ (wh = 21) ∧ ¬ (wh = 22) ∧ 8 ≤ wh ∧ ¬ (wh = 8) ∧ ¬ (wh = 9) ∧ wh = 10 ∧ Ev none e 187 246 [some (.ref 633), some (.int x), some (.int c), some (.int tx), some (.int sn), some (.int kk), some (.int wh), some (.int (G_146 M c 2))] [] M v M' 0 0) ∨ (¬ (wh = 20) ∧ ¬ (wh = 21) ∧ ¬ (wh = 22) ∧ 8 ≤ wh ∧ ¬ (wh = 8) ∧ ¬ (wh = 9) ∧ ¬ (wh = 10) ∧ Ev none e 187 246 [some (.ref 633), some (.int x), some (.int c), some (.int tx), some (.int sn), some (.int kk), some (.int wh), some (.int (G_146 M c 5))] [] M v M' 0 0) ∨ (¬ (wh = 20) ∧ ¬ (wh = 21) ∧ ¬ (wh = 22) ∧ ¬ (8 ≤ wh) ∧ Ev none e 187 246 [some (.ref 633), some (.int x), some (.int c), some (.int tx), some (.int sn), some (.int kk), some (.int wh), some (.int 0)] [] M v M' 0 0) := by
  have H : Ev none e 187 (if wh = 20 then 72 else 101) [some (.ref 633), some (.int x), some (.int c), some (.int tx), some (.int sn), some (.int kk), some (.int wh), c7] [] M v M' 0 0 := Ev.back 3 (fun n => rfl) H
  by_cases h1 : wh = 20
  · rw [if_pos h1] at H
    have H : Ev none e 187 73 [some (.ref 633), some (.int x), some (.int c), some (.int tx), some (.int sn), some (.int kk), some (.int wh), c7] [.ref 633] M v M' 0 0 := Ev.back 1 (fun n => rfl) H
    have H : Ev none e 187 76 [some (.ref 633), some (.int x), some (.int c), some (.int tx), some (.int sn), some (.int kk), some (.int wh), c7] [.ref 649] M v M' 0 0 := Ev.back 1 (gs_3 rfl rfl (gf_u hS.1 qa_633 qr_61_33 qu_77 rfl)) H
    have H : Ev none e 187 81 [some (.ref 633), some (.int x), some (.int c), some (.int tx), some (.int sn), some (.int kk), some (.int wh), c7] [.ref 633, .int (sn - 1), .ref 649] M v M' 0 0 := Ev.back 4 (fun n => rfl) H
    have H : Ev none e 187 84 [some (.ref 633), some (.int x), some (.int c), some (.int tx), some (.int sn), some (.int kk), some (.int wh), c7] [.ref 649, .int (sn - 1), .ref 649] M v M' 0 0 := Ev.back 1 (gs_3 rfl rfl (gf_u hS.1 qa_633 qr_61_33 qu_77 rfl)) H
    have H : Ev none e 187 88 [some (.ref 633), some (.int x), some (.int c), some (.int tx), some (.int sn), some (.int kk), some (.int wh), c7] [.int (sn - 1), .ref 649, .int (sn - 1), .ref 649] M v M' 0 0 := Ev.back 3 (fun n => rfl) H
    obtain ⟨b2, H⟩ := Ev.bal rfl rfl hS.1 qa_649 qw_77 (Or.inr rfl) H
    have H : Ev none e 187 89 [some (.ref 633), some (.int x), some (.int c), some (.int tx), some (.int sn), some (.int kk), some (.int wh), c7] [.int (rI M 649 (sn - 1)), .int (sn - 1), .ref 649] M v M' 0 0 := H
    have H : Ev none e 187 (if (rI M 649 (sn - 1)) = 0 then 92 else 96) [some (.ref 633), some (.int x), some (.int c), some (.int tx), some (.int sn), some (.int kk), some (.int wh), c7] [.int (sn - 1), .ref 649] M v M' 0 0 := Ev.back 1 (fun n => rfl) H
    by_cases h3 : (rI M 649 (sn - 1)) = 0
    · rw [if_pos h3] at H
      have H : Ev none e 187 97 [some (.ref 633), some (.int x), some (.int c), some (.int tx), some (.int sn), some (.int kk), some (.int wh), c7] [.int 1, .int (sn - 1), .ref 649] M v M' 0 0 := Ev.back 2 (fun n => rfl) H
      obtain ⟨b4, H⟩ := Ev.bas3 rfl rfl hS.1 qa_649 qw_77 H
      obtain ⟨N5, eN5⟩ : ∃ N, N = (wI M 649 ((sn - 1).toNatClampNeg) (vp_nar .boolean 1)) := ⟨_, rfl⟩
      have hN5 : SQ N5 := by rw [eN5]; exact hS.ki
      have H : Ev none e 187 98 [some (.ref 633), some (.int x), some (.int c), some (.int tx), some (.int sn), some (.int kk), some (.int wh), c7] [] N5 v M' 0 0 := by rw [eN5]; exact H
      have H : Ev none e 187 39 [some (.ref 633), some (.int x), some (.int c), some (.int tx), some (.int sn), some (.int (kk + 1)), some (.int wh), c7] [] N5 v M' 0 0 := Ev.back 3 (fun n => rfl) H
      have HF := H
      subst eN5
      exact Or.inl ⟨h1, h3, b2, b4, HF⟩
    · rw [if_neg h3] at H
      have H : Ev none e 187 97 [some (.ref 633), some (.int x), some (.int c), some (.int tx), some (.int sn), some (.int kk), some (.int wh), c7] [.int 0, .int (sn - 1), .ref 649] M v M' 0 0 := Ev.back 1 (fun n => rfl) H
      obtain ⟨b6, H⟩ := Ev.bas3 rfl rfl hS.1 qa_649 qw_77 H
      obtain ⟨N7, eN7⟩ : ∃ N, N = (wI M 649 ((sn - 1).toNatClampNeg) (vp_nar .boolean 0)) := ⟨_, rfl⟩
      have hN7 : SQ N7 := by rw [eN7]; exact hS.ki
      have H : Ev none e 187 98 [some (.ref 633), some (.int x), some (.int c), some (.int tx), some (.int sn), some (.int kk), some (.int wh), c7] [] N7 v M' 0 0 := by rw [eN7]; exact H
      have H : Ev none e 187 39 [some (.ref 633), some (.int x), some (.int c), some (.int tx), some (.int sn), some (.int (kk + 1)), some (.int wh), c7] [] N7 v M' 0 0 := Ev.back 3 (fun n => rfl) H
      have HF := H
      subst eN7
      exact Or.inr (Or.inl ⟨h1, h3, b2, b6, HF⟩)
  · rw [if_neg h1] at H
    have H : Ev none e 187 (if wh = 21 then 115 else 108) [some (.ref 633), some (.int x), some (.int c), some (.int tx), some (.int sn), some (.int kk), some (.int wh), c7] [] M v M' 0 0 := Ev.back 3 (fun n => rfl) H
    by_cases h8 : wh = 21
    · rw [if_pos h8] at H
      have H : Ev none e 187 118 [some (.ref 633), some (.int x), some (.int c), some (.int tx), some (.int (sn + Int32.ofInt (-1))), some (.int kk), some (.int wh), c7] [] M v M' 0 0 := Ev.back 1 (gs_1 (i := .iinc 4 (-1)) rfl rfl rfl) H
      have HF := H
      exact Or.inr (Or.inr (Or.inl ⟨h1, h8, HF⟩))
    · rw [if_neg h8] at H
      have H : Ev none e 187 (if wh = 22 then 115 else 194) [some (.ref 633), some (.int x), some (.int c), some (.int tx), some (.int sn), some (.int kk), some (.int wh), c7] [] M v M' 0 0 := Ev.back 3 (fun n => rfl) H
      by_cases h9 : wh = 22
      · rw [if_pos h9] at H
        have H : Ev none e 187 118 [some (.ref 633), some (.int x), some (.int c), some (.int tx), some (.int (sn + Int32.ofInt (-1))), some (.int kk), some (.int wh), c7] [] M v M' 0 0 := Ev.back 1 (gs_1 (i := .iinc 4 (-1)) rfl rfl rfl) H
        have HF := H
        exact Or.inr (Or.inr (Or.inr (Or.inl ⟨h1, h8, h9, HF⟩)))
      · rw [if_neg h9] at H
        have H : Ev none e 187 (if 8 ≤ wh then 205 else 201) [some (.ref 633), some (.int x), some (.int c), some (.int tx), some (.int sn), some (.int kk), some (.int wh), c7] [] M v M' 0 0 := Ev.back 3 (fun n => rfl) H
        by_cases h10 : 8 ≤ wh
        · rw [if_pos h10] at H
          have H : Ev none e 187 (if wh = 8 then 214 else 218) [some (.ref 633), some (.int x), some (.int c), some (.int tx), some (.int sn), some (.int kk), some (.int wh), c7] [.int c, .ref 633] M v M' 0 0 := Ev.back 5 (fun n => rfl) H
          by_cases h11 : wh = 8
          · rw [if_pos h11] at H
            have H : Ev none e 187 241 [some (.ref 633), some (.int x), some (.int c), some (.int tx), some (.int sn), some (.int kk), some (.int wh), c7] [.int 3, .int c, .ref 633] M v M' 0 0 := Ev.back 2 (fun n => rfl) H
            obtain ⟨e1, rfl⟩ := Ev.dpos rfl rfl H
            obtain ⟨vK12, MK12, K12, H⟩ := Ev.callb (fun n_ => gs_7 rfl rfl (show gCal (.invokevirtual 136) 11 (.int 3 :: .int c :: .ref 633 :: []) M = some (.inr (146, [some (.ref 633), some (.int c), some (.int 3)], [])) from by show @cond (Option ((List Value × Mem) ⊕ (Nat × Lo × List Value))) (true && gRecv M (.ref 633) 11 && gRoom [] && true) (some (.inr (146, [some (.ref 633), some (.int c), some (.int 3)], []))) none = _; rw [recv_s hS.1 qa_633 qo_61]; rfl)) H
            obtain ⟨pK12, qK12⟩ := g_146 hS K12
            rw [pK12, qK12] at H
            have H : Ev none (e1 + 1) 187 244 [some (.ref 633), some (.int x), some (.int c), some (.int tx), some (.int sn), some (.int kk), some (.int wh), c7] [.int (G_146 M c 3)] M v M' 0 0 := H
            have H : Ev none (e1 + 1) 187 246 [some (.ref 633), some (.int x), some (.int c), some (.int tx), some (.int sn), some (.int kk), some (.int wh), some (.int (G_146 M c 3))] [] M v M' 0 0 := Ev.back 1 (fun n => rfl) H
            have HF := H
            exact Or.inr (Or.inr (Or.inr (Or.inr (Or.inl ⟨h1, h8, h9, h10, h11, HF⟩))))
          · rw [if_neg h11] at H
            have H : Ev none e 187 (if wh = 9 then 225 else 229) [some (.ref 633), some (.int x), some (.int c), some (.int tx), some (.int sn), some (.int kk), some (.int wh), c7] [.int c, .ref 633] M v M' 0 0 := Ev.back 3 (fun n => rfl) H
            by_cases h13 : wh = 9
            · rw [if_pos h13] at H
              have H : Ev none e 187 241 [some (.ref 633), some (.int x), some (.int c), some (.int tx), some (.int sn), some (.int kk), some (.int wh), c7] [.int 4, .int c, .ref 633] M v M' 0 0 := Ev.back 2 (fun n => rfl) H
              obtain ⟨e1, rfl⟩ := Ev.dpos rfl rfl H
              obtain ⟨vK14, MK14, K14, H⟩ := Ev.callb (fun n_ => gs_7 rfl rfl (show gCal (.invokevirtual 136) 11 (.int 4 :: .int c :: .ref 633 :: []) M = some (.inr (146, [some (.ref 633), some (.int c), some (.int 4)], [])) from by show @cond (Option ((List Value × Mem) ⊕ (Nat × Lo × List Value))) (true && gRecv M (.ref 633) 11 && gRoom [] && true) (some (.inr (146, [some (.ref 633), some (.int c), some (.int 4)], []))) none = _; rw [recv_s hS.1 qa_633 qo_61]; rfl)) H
              obtain ⟨pK14, qK14⟩ := g_146 hS K14
              rw [pK14, qK14] at H
              have H : Ev none (e1 + 1) 187 244 [some (.ref 633), some (.int x), some (.int c), some (.int tx), some (.int sn), some (.int kk), some (.int wh), c7] [.int (G_146 M c 4)] M v M' 0 0 := H
              have H : Ev none (e1 + 1) 187 246 [some (.ref 633), some (.int x), some (.int c), some (.int tx), some (.int sn), some (.int kk), some (.int wh), some (.int (G_146 M c 4))] [] M v M' 0 0 := Ev.back 1 (fun n => rfl) H
              have HF := H
              exact Or.inr (Or.inr (Or.inr (Or.inr (Or.inr (Or.inl ⟨h1, h8, h9, h10, h11, h13, HF⟩)))))
            · rw [if_neg h13] at H
              have H : Ev none e 187 (if wh = 10 then 236 else 240) [some (.ref 633), some (.int x), some (.int c), some (.int tx), some (.int sn), some (.int kk), some (.int wh), c7] [.int c, .ref 633] M v M' 0 0 := Ev.back 3 (fun n => rfl) H
              by_cases h15 : wh = 10
              · rw [if_pos h15] at H
                have H : Ev none e 187 241 [some (.ref 633), some (.int x), some (.int c), some (.int tx), some (.int sn), some (.int kk), some (.int wh), c7] [.int 2, .int c, .ref 633] M v M' 0 0 := Ev.back 2 (fun n => rfl) H
                obtain ⟨e1, rfl⟩ := Ev.dpos rfl rfl H
                obtain ⟨vK16, MK16, K16, H⟩ := Ev.callb (fun n_ => gs_7 rfl rfl (show gCal (.invokevirtual 136) 11 (.int 2 :: .int c :: .ref 633 :: []) M = some (.inr (146, [some (.ref 633), some (.int c), some (.int 2)], [])) from by show @cond (Option ((List Value × Mem) ⊕ (Nat × Lo × List Value))) (true && gRecv M (.ref 633) 11 && gRoom [] && true) (some (.inr (146, [some (.ref 633), some (.int c), some (.int 2)], []))) none = _; rw [recv_s hS.1 qa_633 qo_61]; rfl)) H
                obtain ⟨pK16, qK16⟩ := g_146 hS K16
                rw [pK16, qK16] at H
                have H : Ev none (e1 + 1) 187 244 [some (.ref 633), some (.int x), some (.int c), some (.int tx), some (.int sn), some (.int kk), some (.int wh), c7] [.int (G_146 M c 2)] M v M' 0 0 := H
                have H : Ev none (e1 + 1) 187 246 [some (.ref 633), some (.int x), some (.int c), some (.int tx), some (.int sn), some (.int kk), some (.int wh), some (.int (G_146 M c 2))] [] M v M' 0 0 := Ev.back 1 (fun n => rfl) H
                have HF := H
                exact Or.inr (Or.inr (Or.inr (Or.inr (Or.inr (Or.inr (Or.inl ⟨h1, h8, h9, h10, h11, h13, h15, HF⟩))))))
              · rw [if_neg h15] at H
                have H : Ev none e 187 241 [some (.ref 633), some (.int x), some (.int c), some (.int tx), some (.int sn), some (.int kk), some (.int wh), c7] [.int 5, .int c, .ref 633] M v M' 0 0 := Ev.back 1 (fun n => rfl) H
                obtain ⟨e1, rfl⟩ := Ev.dpos rfl rfl H
                obtain ⟨vK17, MK17, K17, H⟩ := Ev.callb (fun n_ => gs_7 rfl rfl (show gCal (.invokevirtual 136) 11 (.int 5 :: .int c :: .ref 633 :: []) M = some (.inr (146, [some (.ref 633), some (.int c), some (.int 5)], [])) from by show @cond (Option ((List Value × Mem) ⊕ (Nat × Lo × List Value))) (true && gRecv M (.ref 633) 11 && gRoom [] && true) (some (.inr (146, [some (.ref 633), some (.int c), some (.int 5)], []))) none = _; rw [recv_s hS.1 qa_633 qo_61]; rfl)) H
                obtain ⟨pK17, qK17⟩ := g_146 hS K17
                rw [pK17, qK17] at H
                have H : Ev none (e1 + 1) 187 244 [some (.ref 633), some (.int x), some (.int c), some (.int tx), some (.int sn), some (.int kk), some (.int wh), c7] [.int (G_146 M c 5)] M v M' 0 0 := H
                have H : Ev none (e1 + 1) 187 246 [some (.ref 633), some (.int x), some (.int c), some (.int tx), some (.int sn), some (.int kk), some (.int wh), some (.int (G_146 M c 5))] [] M v M' 0 0 := Ev.back 1 (fun n => rfl) H
                have HF := H
                exact Or.inr (Or.inr (Or.inr (Or.inr (Or.inr (Or.inr (Or.inr (Or.inl ⟨h1, h8, h9, h10, h11, h13, h15, HF⟩)))))))
        · rw [if_neg h10] at H
          have H : Ev none e 187 246 [some (.ref 633), some (.int x), some (.int c), some (.int tx), some (.int sn), some (.int kk), some (.int wh), some (.int 0)] [] M v M' 0 0 := Ev.back 3 (fun n => rfl) H
          have HF := H
          exact Or.inr (Or.inr (Or.inr (Or.inr (Or.inr (Or.inr (Or.inr (Or.inr (⟨h1, h8, h9, h10, HF⟩))))))))
theorem rho_118 {e : Nat} {M M' : Mem} {v : Option Value} {x c tx sn kk wh : Int32} {c7 : Option Value} (hS : SQ M) (H : Ev none e 187 118 [some (.ref 633), some (.int x), some (.int c), some (.int tx), some (.int sn), some (.int kk), some (.int wh), c7] [] M v M' 0 0) : (wh = 21 ∧ (rI M 649 (sn - 1)) = 0 ∧ (0 ≤ (sn - 1).toInt ∧ (sn - 1).toInt < 60) ∧ (0 ≤ (sn - 1).toInt ∧ (sn - 1).toInt < 60) ∧ Ev none e 187 39 [some (.ref 633), some (.int x), some (.int c), some (.int tx), some (.int sn), some (.int (kk + 1)), some (.int wh), c7] [] (wI M 649 ((sn - 1).toNatClampNeg) (vp_nar .boolean 0)) v M' 0 0) ∨ (wh = 21 ∧ ¬ ((rI M 649 (sn - 1)) = 0) ∧ (rI M 649 sn) = 0 ∧ (0 ≤ (sn - 1).toInt ∧ (sn - 1).toInt < 60) ∧ (0 ≤ sn.toInt ∧ sn.toInt < 60) ∧ (0 ≤ (sn - 1).toInt ∧ (sn - 1).toInt < 60) ∧ Ev none e 187 39 [some (.ref 633), some (.int x), some (.int c), some (.int tx), some (.int sn), some (.int (kk + 1)), some (.int wh), c7] [] (wI M 649 ((sn - 1).toNatClampNeg) (vp_nar .boolean 0)) v M' 0 0) ∨ (wh = 21 ∧ ¬ ((rI M 649 (sn - 1)) = 0) ∧ ¬ ((rI M 649 sn) = 0) ∧ (0 ≤ (sn - 1).toInt ∧ (sn - 1).toInt < 60) ∧ (0 ≤ sn.toInt ∧ sn.toInt < 60) ∧ (0 ≤ (sn - 1).toInt ∧ (sn - 1).toInt < 60) ∧ Ev none e 187 39 [some (.ref 633), some (.int x), some (.int c), some (.int tx), some (.int sn), some (.int (kk + 1)), some (.int wh), c7] [] (wI M 649 ((sn - 1).toNatClampNeg) (vp_nar .boolean 1)) v M' 0 0) ∨ (¬ (wh = 21) ∧ (rI M 649 (sn - 1)) = 0 ∧ (rI M 649 sn) = 0 ∧ (0 ≤ (sn - 1).toInt ∧ (sn - 1).toInt < 60) ∧ (0 ≤ sn.toInt ∧ sn.toInt < 60) ∧ (0 ≤ (sn - 1).toInt ∧ (sn - 1).toInt < 60) ∧ Ev none e 187 39 [some (.ref 633), some (.int x), some (.int c), some (.int tx), some (.int sn), some (.int (kk + 1)), some (.int wh), c7] [] (wI M 649 ((sn - 1).toNatClampNeg) (vp_nar .boolean 0)) v M' 0 0) ∨ (¬ (wh = 21) ∧ (rI M 649 (sn - 1)) = 0 ∧ ¬ ((rI M 649 sn) = 0) ∧ (0 ≤ (sn - 1).toInt ∧ (sn - 1).toInt < 60) ∧ (0 ≤ sn.toInt ∧ sn.toInt < 60) ∧ (0 ≤ (sn - 1).toInt ∧ (sn - 1).toInt < 60) ∧ Ev none e 187 39 [some (.ref 633), some (.int x), some (.int c), some (.int tx), some (.int sn), some (.int (kk + 1)), some (.int wh), c7] [] (wI M 649 ((sn - 1).toNatClampNeg) (vp_nar .boolean 1)) v M' 0 0) ∨ (¬ (wh = 21) ∧ ¬ ((rI M 649 (sn - 1)) = 0) ∧ (0 ≤ (sn - 1).toInt ∧ (sn - 1).toInt < 60) ∧ (0 ≤ (sn - 1).toInt ∧ (sn - 1).toInt < 60) ∧ Ev none e 187 39 [some (.ref 633), some (.int x), some (.int c), some (.int tx), some (.int sn), some (.int (kk + 1)), some (.int wh), c7] [] (wI M 649 ((sn - 1).toNatClampNeg) (vp_nar .boolean 1)) v M' 0 0) := by
  have H : Ev none e 187 119 [some (.ref 633), some (.int x), some (.int c), some (.int tx), some (.int sn), some (.int kk), some (.int wh), c7] [.ref 633] M v M' 0 0 := Ev.back 1 (fun n => rfl) H
  have H : Ev none e 187 122 [some (.ref 633), some (.int x), some (.int c), some (.int tx), some (.int sn), some (.int kk), some (.int wh), c7] [.ref 649] M v M' 0 0 := Ev.back 1 (gs_3 rfl rfl (gf_u hS.1 qa_633 qr_61_33 qu_77 rfl)) H
  have H : Ev none e 187 (if wh = 21 then 133 else 163) [some (.ref 633), some (.int x), some (.int c), some (.int tx), some (.int sn), some (.int kk), some (.int wh), c7] [.int (sn - 1), .ref 649] M v M' 0 0 := Ev.back 6 (fun n => rfl) H
  by_cases h1 : wh = 21
  · rw [if_pos h1] at H
    have H : Ev none e 187 134 [some (.ref 633), some (.int x), some (.int c), some (.int tx), some (.int sn), some (.int kk), some (.int wh), c7] [.ref 633, .int (sn - 1), .ref 649] M v M' 0 0 := Ev.back 1 (fun n => rfl) H
    have H : Ev none e 187 137 [some (.ref 633), some (.int x), some (.int c), some (.int tx), some (.int sn), some (.int kk), some (.int wh), c7] [.ref 649, .int (sn - 1), .ref 649] M v M' 0 0 := Ev.back 1 (gs_3 rfl rfl (gf_u hS.1 qa_633 qr_61_33 qu_77 rfl)) H
    have H : Ev none e 187 141 [some (.ref 633), some (.int x), some (.int c), some (.int tx), some (.int sn), some (.int kk), some (.int wh), c7] [.int (sn - 1), .ref 649, .int (sn - 1), .ref 649] M v M' 0 0 := Ev.back 3 (fun n => rfl) H
    obtain ⟨b2, H⟩ := Ev.bal rfl rfl hS.1 qa_649 qw_77 (Or.inr rfl) H
    have H : Ev none e 187 142 [some (.ref 633), some (.int x), some (.int c), some (.int tx), some (.int sn), some (.int kk), some (.int wh), c7] [.int (rI M 649 (sn - 1)), .int (sn - 1), .ref 649] M v M' 0 0 := H
    have H : Ev none e 187 (if (rI M 649 (sn - 1)) = 0 then 159 else 145) [some (.ref 633), some (.int x), some (.int c), some (.int tx), some (.int sn), some (.int kk), some (.int wh), c7] [.int (sn - 1), .ref 649] M v M' 0 0 := Ev.back 1 (fun n => rfl) H
    by_cases h3 : (rI M 649 (sn - 1)) = 0
    · rw [if_pos h3] at H
      have H : Ev none e 187 190 [some (.ref 633), some (.int x), some (.int c), some (.int tx), some (.int sn), some (.int kk), some (.int wh), c7] [.int 0, .int (sn - 1), .ref 649] M v M' 0 0 := Ev.back 2 (fun n => rfl) H
      obtain ⟨b4, H⟩ := Ev.bas3 rfl rfl hS.1 qa_649 qw_77 H
      obtain ⟨N5, eN5⟩ : ∃ N, N = (wI M 649 ((sn - 1).toNatClampNeg) (vp_nar .boolean 0)) := ⟨_, rfl⟩
      have hN5 : SQ N5 := by rw [eN5]; exact hS.ki
      have H : Ev none e 187 191 [some (.ref 633), some (.int x), some (.int c), some (.int tx), some (.int sn), some (.int kk), some (.int wh), c7] [] N5 v M' 0 0 := by rw [eN5]; exact H
      have H : Ev none e 187 39 [some (.ref 633), some (.int x), some (.int c), some (.int tx), some (.int sn), some (.int (kk + 1)), some (.int wh), c7] [] N5 v M' 0 0 := Ev.back 3 (fun n => rfl) H
      have HF := H
      subst eN5
      exact Or.inl ⟨h1, h3, b2, b4, HF⟩
    · rw [if_neg h3] at H
      have H : Ev none e 187 146 [some (.ref 633), some (.int x), some (.int c), some (.int tx), some (.int sn), some (.int kk), some (.int wh), c7] [.ref 633, .int (sn - 1), .ref 649] M v M' 0 0 := Ev.back 1 (fun n => rfl) H
      have H : Ev none e 187 149 [some (.ref 633), some (.int x), some (.int c), some (.int tx), some (.int sn), some (.int kk), some (.int wh), c7] [.ref 649, .int (sn - 1), .ref 649] M v M' 0 0 := Ev.back 1 (gs_3 rfl rfl (gf_u hS.1 qa_633 qr_61_33 qu_77 rfl)) H
      have H : Ev none e 187 151 [some (.ref 633), some (.int x), some (.int c), some (.int tx), some (.int sn), some (.int kk), some (.int wh), c7] [.int sn, .ref 649, .int (sn - 1), .ref 649] M v M' 0 0 := Ev.back 1 (fun n => rfl) H
      obtain ⟨b6, H⟩ := Ev.bal rfl rfl hS.1 qa_649 qw_77 (Or.inr rfl) H
      have H : Ev none e 187 152 [some (.ref 633), some (.int x), some (.int c), some (.int tx), some (.int sn), some (.int kk), some (.int wh), c7] [.int (rI M 649 sn), .int (sn - 1), .ref 649] M v M' 0 0 := H
      have H : Ev none e 187 (if (rI M 649 sn) = 0 then 159 else 155) [some (.ref 633), some (.int x), some (.int c), some (.int tx), some (.int sn), some (.int kk), some (.int wh), c7] [.int (sn - 1), .ref 649] M v M' 0 0 := Ev.back 1 (fun n => rfl) H
      by_cases h7 : (rI M 649 sn) = 0
      · rw [if_pos h7] at H
        have H : Ev none e 187 190 [some (.ref 633), some (.int x), some (.int c), some (.int tx), some (.int sn), some (.int kk), some (.int wh), c7] [.int 0, .int (sn - 1), .ref 649] M v M' 0 0 := Ev.back 2 (fun n => rfl) H
        obtain ⟨b8, H⟩ := Ev.bas3 rfl rfl hS.1 qa_649 qw_77 H
        obtain ⟨N9, eN9⟩ : ∃ N, N = (wI M 649 ((sn - 1).toNatClampNeg) (vp_nar .boolean 0)) := ⟨_, rfl⟩
        have hN9 : SQ N9 := by rw [eN9]; exact hS.ki
        have H : Ev none e 187 191 [some (.ref 633), some (.int x), some (.int c), some (.int tx), some (.int sn), some (.int kk), some (.int wh), c7] [] N9 v M' 0 0 := by rw [eN9]; exact H
        have H : Ev none e 187 39 [some (.ref 633), some (.int x), some (.int c), some (.int tx), some (.int sn), some (.int (kk + 1)), some (.int wh), c7] [] N9 v M' 0 0 := Ev.back 3 (fun n => rfl) H
        have HF := H
        subst eN9
        exact Or.inr (Or.inl ⟨h1, h3, h7, b2, b6, b8, HF⟩)
      · rw [if_neg h7] at H
        have H : Ev none e 187 190 [some (.ref 633), some (.int x), some (.int c), some (.int tx), some (.int sn), some (.int kk), some (.int wh), c7] [.int 1, .int (sn - 1), .ref 649] M v M' 0 0 := Ev.back 2 (fun n => rfl) H
        obtain ⟨b10, H⟩ := Ev.bas3 rfl rfl hS.1 qa_649 qw_77 H
        obtain ⟨N11, eN11⟩ : ∃ N, N = (wI M 649 ((sn - 1).toNatClampNeg) (vp_nar .boolean 1)) := ⟨_, rfl⟩
        have hN11 : SQ N11 := by rw [eN11]; exact hS.ki
        have H : Ev none e 187 191 [some (.ref 633), some (.int x), some (.int c), some (.int tx), some (.int sn), some (.int kk), some (.int wh), c7] [] N11 v M' 0 0 := by rw [eN11]; exact H
        have H : Ev none e 187 39 [some (.ref 633), some (.int x), some (.int c), some (.int tx), some (.int sn), some (.int (kk + 1)), some (.int wh), c7] [] N11 v M' 0 0 := Ev.back 3 (fun n => rfl) H
        have HF := H
        subst eN11
        exact Or.inr (Or.inr (Or.inl ⟨h1, h3, h7, b2, b6, b10, HF⟩))
  · rw [if_neg h1] at H
    have H : Ev none e 187 164 [some (.ref 633), some (.int x), some (.int c), some (.int tx), some (.int sn), some (.int kk), some (.int wh), c7] [.ref 633, .int (sn - 1), .ref 649] M v M' 0 0 := Ev.back 1 (fun n => rfl) H
    have H : Ev none e 187 167 [some (.ref 633), some (.int x), some (.int c), some (.int tx), some (.int sn), some (.int kk), some (.int wh), c7] [.ref 649, .int (sn - 1), .ref 649] M v M' 0 0 := Ev.back 1 (gs_3 rfl rfl (gf_u hS.1 qa_633 qr_61_33 qu_77 rfl)) H
    have H : Ev none e 187 171 [some (.ref 633), some (.int x), some (.int c), some (.int tx), some (.int sn), some (.int kk), some (.int wh), c7] [.int (sn - 1), .ref 649, .int (sn - 1), .ref 649] M v M' 0 0 := Ev.back 3 (fun n => rfl) H
    obtain ⟨b12, H⟩ := Ev.bal rfl rfl hS.1 qa_649 qw_77 (Or.inr rfl) H
    have H : Ev none e 187 172 [some (.ref 633), some (.int x), some (.int c), some (.int tx), some (.int sn), some (.int kk), some (.int wh), c7] [.int (rI M 649 (sn - 1)), .int (sn - 1), .ref 649] M v M' 0 0 := H
    have H : Ev none e 187 (if (rI M 649 (sn - 1)) = 0 then 175 else 185) [some (.ref 633), some (.int x), some (.int c), some (.int tx), some (.int sn), some (.int kk), some (.int wh), c7] [.int (sn - 1), .ref 649] M v M' 0 0 := Ev.back 1 (fun n => rfl) H
    by_cases h13 : (rI M 649 (sn - 1)) = 0
    · rw [if_pos h13] at H
      have H : Ev none e 187 176 [some (.ref 633), some (.int x), some (.int c), some (.int tx), some (.int sn), some (.int kk), some (.int wh), c7] [.ref 633, .int (sn - 1), .ref 649] M v M' 0 0 := Ev.back 1 (fun n => rfl) H
      have H : Ev none e 187 179 [some (.ref 633), some (.int x), some (.int c), some (.int tx), some (.int sn), some (.int kk), some (.int wh), c7] [.ref 649, .int (sn - 1), .ref 649] M v M' 0 0 := Ev.back 1 (gs_3 rfl rfl (gf_u hS.1 qa_633 qr_61_33 qu_77 rfl)) H
      have H : Ev none e 187 181 [some (.ref 633), some (.int x), some (.int c), some (.int tx), some (.int sn), some (.int kk), some (.int wh), c7] [.int sn, .ref 649, .int (sn - 1), .ref 649] M v M' 0 0 := Ev.back 1 (fun n => rfl) H
      obtain ⟨b14, H⟩ := Ev.bal rfl rfl hS.1 qa_649 qw_77 (Or.inr rfl) H
      have H : Ev none e 187 182 [some (.ref 633), some (.int x), some (.int c), some (.int tx), some (.int sn), some (.int kk), some (.int wh), c7] [.int (rI M 649 sn), .int (sn - 1), .ref 649] M v M' 0 0 := H
      have H : Ev none e 187 (if (rI M 649 sn) = 0 then 189 else 185) [some (.ref 633), some (.int x), some (.int c), some (.int tx), some (.int sn), some (.int kk), some (.int wh), c7] [.int (sn - 1), .ref 649] M v M' 0 0 := Ev.back 1 (fun n => rfl) H
      by_cases h15 : (rI M 649 sn) = 0
      · rw [if_pos h15] at H
        have H : Ev none e 187 190 [some (.ref 633), some (.int x), some (.int c), some (.int tx), some (.int sn), some (.int kk), some (.int wh), c7] [.int 0, .int (sn - 1), .ref 649] M v M' 0 0 := Ev.back 1 (fun n => rfl) H
        obtain ⟨b16, H⟩ := Ev.bas3 rfl rfl hS.1 qa_649 qw_77 H
        obtain ⟨N17, eN17⟩ : ∃ N, N = (wI M 649 ((sn - 1).toNatClampNeg) (vp_nar .boolean 0)) := ⟨_, rfl⟩
        have hN17 : SQ N17 := by rw [eN17]; exact hS.ki
        have H : Ev none e 187 191 [some (.ref 633), some (.int x), some (.int c), some (.int tx), some (.int sn), some (.int kk), some (.int wh), c7] [] N17 v M' 0 0 := by rw [eN17]; exact H
        have H : Ev none e 187 39 [some (.ref 633), some (.int x), some (.int c), some (.int tx), some (.int sn), some (.int (kk + 1)), some (.int wh), c7] [] N17 v M' 0 0 := Ev.back 3 (fun n => rfl) H
        have HF := H
        subst eN17
        exact Or.inr (Or.inr (Or.inr (Or.inl ⟨h1, h13, h15, b12, b14, b16, HF⟩)))
      · rw [if_neg h15] at H
        have H : Ev none e 187 190 [some (.ref 633), some (.int x), some (.int c), some (.int tx), some (.int sn), some (.int kk), some (.int wh), c7] [.int 1, .int (sn - 1), .ref 649] M v M' 0 0 := Ev.back 2 (fun n => rfl) H
        obtain ⟨b18, H⟩ := Ev.bas3 rfl rfl hS.1 qa_649 qw_77 H
        obtain ⟨N19, eN19⟩ : ∃ N, N = (wI M 649 ((sn - 1).toNatClampNeg) (vp_nar .boolean 1)) := ⟨_, rfl⟩
        have hN19 : SQ N19 := by rw [eN19]; exact hS.ki
        have H : Ev none e 187 191 [some (.ref 633), some (.int x), some (.int c), some (.int tx), some (.int sn), some (.int kk), some (.int wh), c7] [] N19 v M' 0 0 := by rw [eN19]; exact H
        have H : Ev none e 187 39 [some (.ref 633), some (.int x), some (.int c), some (.int tx), some (.int sn), some (.int (kk + 1)), some (.int wh), c7] [] N19 v M' 0 0 := Ev.back 3 (fun n => rfl) H
        have HF := H
        subst eN19
        exact Or.inr (Or.inr (Or.inr (Or.inr (Or.inl ⟨h1, h13, h15, b12, b14, b18, HF⟩))))
    · rw [if_neg h13] at H
      have H : Ev none e 187 190 [some (.ref 633), some (.int x), some (.int c), some (.int tx), some (.int sn), some (.int kk), some (.int wh), c7] [.int 1, .int (sn - 1), .ref 649] M v M' 0 0 := Ev.back 2 (fun n => rfl) H
      obtain ⟨b20, H⟩ := Ev.bas3 rfl rfl hS.1 qa_649 qw_77 H
      obtain ⟨N21, eN21⟩ : ∃ N, N = (wI M 649 ((sn - 1).toNatClampNeg) (vp_nar .boolean 1)) := ⟨_, rfl⟩
      have hN21 : SQ N21 := by rw [eN21]; exact hS.ki
      have H : Ev none e 187 191 [some (.ref 633), some (.int x), some (.int c), some (.int tx), some (.int sn), some (.int kk), some (.int wh), c7] [] N21 v M' 0 0 := by rw [eN21]; exact H
      have H : Ev none e 187 39 [some (.ref 633), some (.int x), some (.int c), some (.int tx), some (.int sn), some (.int (kk + 1)), some (.int wh), c7] [] N21 v M' 0 0 := Ev.back 3 (fun n => rfl) H
      have HF := H
      subst eN21
      exact Or.inr (Or.inr (Or.inr (Or.inr (Or.inr (⟨h1, h13, b12, b20, HF⟩)))))
theorem rho_246 {e : Nat} {M M' : Mem} {v : Option Value} {x c tx sn kk wh vv : Int32} (hS : SQ M) (H : Ev none e 187 246 [some (.ref 633), some (.int x), some (.int c), some (.int tx), some (.int sn), some (.int kk), some (.int wh), some (.int vv)] [] M v M' 0 0) : (8 ≤ wh ∧ (rI M 646 kk) = 60 ∧ (rI M 647 kk) ≤ vv ∧ (0 ≤ kk.toInt ∧ kk.toInt < 1600) ∧ (0 ≤ kk.toInt ∧ kk.toInt < 1600) ∧ (0 ≤ sn.toInt ∧ sn.toInt < 60) ∧ Ev none e 187 39 [some (.ref 633), some (.int x), some (.int c), some (.int tx), some (.int (sn + 1)), some (.int (kk + 1)), some (.int wh), some (.int vv)] [] (wI M 649 sn.toNatClampNeg (vp_nar .boolean 0)) v M' 0 0) ∨ (8 ≤ wh ∧ (rI M 646 kk) = 60 ∧ ¬ ((rI M 647 kk) ≤ vv) ∧ (0 ≤ kk.toInt ∧ kk.toInt < 1600) ∧ (0 ≤ kk.toInt ∧ kk.toInt < 1600) ∧ (0 ≤ sn.toInt ∧ sn.toInt < 60) ∧ Ev none e 187 39 [some (.ref 633), some (.int x), some (.int c), some (.int tx), some (.int (sn + 1)), some (.int (kk + 1)), some (.int wh), some (.int vv)] [] (wI M 649 sn.toNatClampNeg (vp_nar .boolean 1)) v M' 0 0) ∨ (8 ≤ wh ∧ ¬ ((rI M 646 kk) = 60) ∧ (rI M 646 kk) = 61 ∧ vv = (rI M 647 kk) ∧ (0 ≤ kk.toInt ∧ kk.toInt < 1600) ∧ (0 ≤ kk.toInt ∧ kk.toInt < 1600) ∧ (0 ≤ kk.toInt ∧ kk.toInt < 1600) ∧ (0 ≤ sn.toInt ∧ sn.toInt < 60) ∧ Ev none e 187 39 [some (.ref 633), some (.int x), some (.int c), some (.int tx), some (.int (sn + 1)), some (.int (kk + 1)), some (.int wh), some (.int vv)] [] (wI M 649 sn.toNatClampNeg (vp_nar .boolean 1)) v M' 0 0) ∨ (8 ≤ wh ∧ ¬ ((rI M 646 kk) = 60) ∧ (rI M 646 kk) = 61 ∧ ¬ (vv = (rI M 647 kk)) ∧ (0 ≤ kk.toInt ∧ kk.toInt < 1600) ∧ (0 ≤ kk.toInt ∧ kk.toInt < 1600) ∧ (0 ≤ kk.toInt ∧ kk.toInt < 1600) ∧ (0 ≤ sn.toInt ∧ sn.toInt < 60) ∧ Ev none e 187 39 [some (.ref 633), some (.int x), some (.int c), some (.int tx), some (.int (sn + 1)), some (.int (kk + 1)), some (.int wh), some (.int vv)] [] (wI M 649 sn.toNatClampNeg (vp_nar .boolean 0)) v M' 0 0) ∨ (8 ≤ wh ∧ ¬ ((rI M 646 kk) = 60) ∧ ¬ ((rI M 646 kk) = 61) ∧ vv ≤ (rI M 647 kk) ∧ (0 ≤ kk.toInt ∧ kk.toInt < 1600) ∧ (0 ≤ kk.toInt ∧ kk.toInt < 1600) ∧ (0 ≤ kk.toInt ∧ kk.toInt < 1600) ∧ (0 ≤ sn.toInt ∧ sn.toInt < 60) ∧ Ev none e 187 39 [some (.ref 633), some (.int x), some (.int c), some (.int tx), some (.int (sn + 1)), some (.int (kk + 1)), some (.int wh), some (.int vv)] [] (wI M 649 sn.toNatClampNeg (vp_nar .boolean 0)) v M' 0 0) ∨ (8 ≤ wh ∧ ¬ ((rI M 646 kk) = 60) ∧ ¬ ((rI M 646 kk) = 61) ∧ ¬ (vv ≤ (rI M 647 kk)) ∧ (0 ≤ kk.toInt ∧ kk.toInt < 1600) ∧ (0 ≤ kk.toInt ∧ kk.toInt < 1600) ∧ (0 ≤ kk.toInt ∧ kk.toInt < 1600) ∧ (0 ≤ sn.toInt ∧ sn.toInt < 60) ∧ Ev none e 187 39 [some (.ref 633), some (.int x), some (.int c), some (.int tx), some (.int (sn + 1)), some (.int (kk + 1)), some (.int wh), some (.int vv)] [] (wI M 649 sn.toNatClampNeg (vp_nar .boolean 1)) v M' 0 0) ∨ (¬ (8 ≤ wh) ∧ (∃ e1 v1 M1, e = e1 + 1 ∧ Ev none e1 186 0 [some (.ref 633), some (.int c), some (.int wh)] [] M v1 M1 0 0 ∧ Ev none e 187 266 [some (.ref 633), some (.int x), some (.int c), some (.int tx), some (.int sn), some (.int kk), some (.int wh), some (.int vv)] (v1.toList ++ [.int sn, .ref 649]) M1 v M' 0 0)) := by
  have H : Ev none e 187 247 [some (.ref 633), some (.int x), some (.int c), some (.int tx), some (.int sn), some (.int kk), some (.int wh), some (.int vv)] [.ref 633] M v M' 0 0 := Ev.back 1 (fun n => rfl) H
  have H : Ev none e 187 250 [some (.ref 633), some (.int x), some (.int c), some (.int tx), some (.int sn), some (.int kk), some (.int wh), some (.int vv)] [.ref 649] M v M' 0 0 := Ev.back 1 (gs_3 rfl rfl (gf_u hS.1 qa_633 qr_61_33 qu_77 rfl)) H
  have H : Ev none e 187 (if 8 ≤ wh then 269 else 259) [some (.ref 633), some (.int x), some (.int c), some (.int tx), some (.int sn), some (.int kk), some (.int wh), some (.int vv)] [.int sn, .ref 649] M v M' 0 0 := Ev.back 4 (fun n => rfl) H
  by_cases h1 : 8 ≤ wh
  · rw [if_pos h1] at H
    have H : Ev none e 187 270 [some (.ref 633), some (.int x), some (.int c), some (.int tx), some (.int sn), some (.int kk), some (.int wh), some (.int vv)] [.ref 633, .int sn, .ref 649] M v M' 0 0 := Ev.back 1 (fun n => rfl) H
    have H : Ev none e 187 273 [some (.ref 633), some (.int x), some (.int c), some (.int tx), some (.int sn), some (.int kk), some (.int wh), some (.int vv)] [.ref 646, .int sn, .ref 649] M v M' 0 0 := Ev.back 1 (gs_3 rfl rfl (gf_u hS.1 qa_633 qr_61_16 qu_74 rfl)) H
    have H : Ev none e 187 275 [some (.ref 633), some (.int x), some (.int c), some (.int tx), some (.int sn), some (.int kk), some (.int wh), some (.int vv)] [.int kk, .ref 646, .int sn, .ref 649] M v M' 0 0 := Ev.back 1 (fun n => rfl) H
    obtain ⟨b2, H⟩ := Ev.ial rfl rfl hS.1 qa_646 qw_74 H
    have H : Ev none e 187 276 [some (.ref 633), some (.int x), some (.int c), some (.int tx), some (.int sn), some (.int kk), some (.int wh), some (.int vv)] [.int (rI M 646 kk), .int sn, .ref 649] M v M' 0 0 := H
    have H : Ev none e 187 (if (rI M 646 kk) = 60 then 281 else 301) [some (.ref 633), some (.int x), some (.int c), some (.int tx), some (.int sn), some (.int kk), some (.int wh), some (.int vv)] [.int sn, .ref 649] M v M' 0 0 := Ev.back 2 (fun n => rfl) H
    by_cases h3 : (rI M 646 kk) = 60
    · rw [if_pos h3] at H
      have H : Ev none e 187 284 [some (.ref 633), some (.int x), some (.int c), some (.int tx), some (.int sn), some (.int kk), some (.int wh), some (.int vv)] [.ref 633, .int vv, .int sn, .ref 649] M v M' 0 0 := Ev.back 2 (fun n => rfl) H
      have H : Ev none e 187 287 [some (.ref 633), some (.int x), some (.int c), some (.int tx), some (.int sn), some (.int kk), some (.int wh), some (.int vv)] [.ref 647, .int vv, .int sn, .ref 649] M v M' 0 0 := Ev.back 1 (gs_3 rfl rfl (gf_u hS.1 qa_633 qr_61_17 qu_75 rfl)) H
      have H : Ev none e 187 289 [some (.ref 633), some (.int x), some (.int c), some (.int tx), some (.int sn), some (.int kk), some (.int wh), some (.int vv)] [.int kk, .ref 647, .int vv, .int sn, .ref 649] M v M' 0 0 := Ev.back 1 (fun n => rfl) H
      obtain ⟨b4, H⟩ := Ev.ial rfl rfl hS.1 qa_647 qw_75 H
      have H : Ev none e 187 290 [some (.ref 633), some (.int x), some (.int c), some (.int tx), some (.int sn), some (.int kk), some (.int wh), some (.int vv)] [.int (rI M 647 kk), .int vv, .int sn, .ref 649] M v M' 0 0 := H
      have H : Ev none e 187 (if (rI M 647 kk) ≤ vv then 297 else 293) [some (.ref 633), some (.int x), some (.int c), some (.int tx), some (.int sn), some (.int kk), some (.int wh), some (.int vv)] [.int sn, .ref 649] M v M' 0 0 := Ev.back 1 (fun n => rfl) H
      by_cases h5 : (rI M 647 kk) ≤ vv
      · rw [if_pos h5] at H
        have H : Ev none e 187 350 [some (.ref 633), some (.int x), some (.int c), some (.int tx), some (.int sn), some (.int kk), some (.int wh), some (.int vv)] [.int 0, .int sn, .ref 649] M v M' 0 0 := Ev.back 2 (fun n => rfl) H
        obtain ⟨b6, H⟩ := Ev.bas3 rfl rfl hS.1 qa_649 qw_77 H
        obtain ⟨N7, eN7⟩ : ∃ N, N = (wI M 649 sn.toNatClampNeg (vp_nar .boolean 0)) := ⟨_, rfl⟩
        have hN7 : SQ N7 := by rw [eN7]; exact hS.ki
        have H : Ev none e 187 351 [some (.ref 633), some (.int x), some (.int c), some (.int tx), some (.int sn), some (.int kk), some (.int wh), some (.int vv)] [] N7 v M' 0 0 := by rw [eN7]; exact H
        have H : Ev none e 187 39 [some (.ref 633), some (.int x), some (.int c), some (.int tx), some (.int (sn + 1)), some (.int (kk + 1)), some (.int wh), some (.int vv)] [] N7 v M' 0 0 := Ev.back 3 (fun n => rfl) H
        have HF := H
        subst eN7
        exact Or.inl ⟨h1, h3, h5, b2, b4, b6, HF⟩
      · rw [if_neg h5] at H
        have H : Ev none e 187 350 [some (.ref 633), some (.int x), some (.int c), some (.int tx), some (.int sn), some (.int kk), some (.int wh), some (.int vv)] [.int 1, .int sn, .ref 649] M v M' 0 0 := Ev.back 2 (fun n => rfl) H
        obtain ⟨b8, H⟩ := Ev.bas3 rfl rfl hS.1 qa_649 qw_77 H
        obtain ⟨N9, eN9⟩ : ∃ N, N = (wI M 649 sn.toNatClampNeg (vp_nar .boolean 1)) := ⟨_, rfl⟩
        have hN9 : SQ N9 := by rw [eN9]; exact hS.ki
        have H : Ev none e 187 351 [some (.ref 633), some (.int x), some (.int c), some (.int tx), some (.int sn), some (.int kk), some (.int wh), some (.int vv)] [] N9 v M' 0 0 := by rw [eN9]; exact H
        have H : Ev none e 187 39 [some (.ref 633), some (.int x), some (.int c), some (.int tx), some (.int (sn + 1)), some (.int (kk + 1)), some (.int wh), some (.int vv)] [] N9 v M' 0 0 := Ev.back 3 (fun n => rfl) H
        have HF := H
        subst eN9
        exact Or.inr (Or.inl ⟨h1, h3, h5, b2, b4, b8, HF⟩)
    · rw [if_neg h3] at H
      have H : Ev none e 187 302 [some (.ref 633), some (.int x), some (.int c), some (.int tx), some (.int sn), some (.int kk), some (.int wh), some (.int vv)] [.ref 633, .int sn, .ref 649] M v M' 0 0 := Ev.back 1 (fun n => rfl) H
      have H : Ev none e 187 305 [some (.ref 633), some (.int x), some (.int c), some (.int tx), some (.int sn), some (.int kk), some (.int wh), some (.int vv)] [.ref 646, .int sn, .ref 649] M v M' 0 0 := Ev.back 1 (gs_3 rfl rfl (gf_u hS.1 qa_633 qr_61_16 qu_74 rfl)) H
      have H : Ev none e 187 307 [some (.ref 633), some (.int x), some (.int c), some (.int tx), some (.int sn), some (.int kk), some (.int wh), some (.int vv)] [.int kk, .ref 646, .int sn, .ref 649] M v M' 0 0 := Ev.back 1 (fun n => rfl) H
      obtain ⟨b10, H⟩ := Ev.ial rfl rfl hS.1 qa_646 qw_74 H
      have H : Ev none e 187 308 [some (.ref 633), some (.int x), some (.int c), some (.int tx), some (.int sn), some (.int kk), some (.int wh), some (.int vv)] [.int (rI M 646 kk), .int sn, .ref 649] M v M' 0 0 := H
      have H : Ev none e 187 (if (rI M 646 kk) = 61 then 313 else 333) [some (.ref 633), some (.int x), some (.int c), some (.int tx), some (.int sn), some (.int kk), some (.int wh), some (.int vv)] [.int sn, .ref 649] M v M' 0 0 := Ev.back 2 (fun n => rfl) H
      by_cases h11 : (rI M 646 kk) = 61
      · rw [if_pos h11] at H
        have H : Ev none e 187 316 [some (.ref 633), some (.int x), some (.int c), some (.int tx), some (.int sn), some (.int kk), some (.int wh), some (.int vv)] [.ref 633, .int vv, .int sn, .ref 649] M v M' 0 0 := Ev.back 2 (fun n => rfl) H
        have H : Ev none e 187 319 [some (.ref 633), some (.int x), some (.int c), some (.int tx), some (.int sn), some (.int kk), some (.int wh), some (.int vv)] [.ref 647, .int vv, .int sn, .ref 649] M v M' 0 0 := Ev.back 1 (gs_3 rfl rfl (gf_u hS.1 qa_633 qr_61_17 qu_75 rfl)) H
        have H : Ev none e 187 321 [some (.ref 633), some (.int x), some (.int c), some (.int tx), some (.int sn), some (.int kk), some (.int wh), some (.int vv)] [.int kk, .ref 647, .int vv, .int sn, .ref 649] M v M' 0 0 := Ev.back 1 (fun n => rfl) H
        obtain ⟨b12, H⟩ := Ev.ial rfl rfl hS.1 qa_647 qw_75 H
        have H : Ev none e 187 322 [some (.ref 633), some (.int x), some (.int c), some (.int tx), some (.int sn), some (.int kk), some (.int wh), some (.int vv)] [.int (rI M 647 kk), .int vv, .int sn, .ref 649] M v M' 0 0 := H
        have H : Ev none e 187 (if vv = (rI M 647 kk) then 325 else 329) [some (.ref 633), some (.int x), some (.int c), some (.int tx), some (.int sn), some (.int kk), some (.int wh), some (.int vv)] [.int sn, .ref 649] M v M' 0 0 := Ev.back 1 (fun n => rfl) H
        by_cases h13 : vv = (rI M 647 kk)
        · rw [if_pos h13] at H
          have H : Ev none e 187 350 [some (.ref 633), some (.int x), some (.int c), some (.int tx), some (.int sn), some (.int kk), some (.int wh), some (.int vv)] [.int 1, .int sn, .ref 649] M v M' 0 0 := Ev.back 2 (fun n => rfl) H
          obtain ⟨b14, H⟩ := Ev.bas3 rfl rfl hS.1 qa_649 qw_77 H
          obtain ⟨N15, eN15⟩ : ∃ N, N = (wI M 649 sn.toNatClampNeg (vp_nar .boolean 1)) := ⟨_, rfl⟩
          have hN15 : SQ N15 := by rw [eN15]; exact hS.ki
          have H : Ev none e 187 351 [some (.ref 633), some (.int x), some (.int c), some (.int tx), some (.int sn), some (.int kk), some (.int wh), some (.int vv)] [] N15 v M' 0 0 := by rw [eN15]; exact H
          have H : Ev none e 187 39 [some (.ref 633), some (.int x), some (.int c), some (.int tx), some (.int (sn + 1)), some (.int (kk + 1)), some (.int wh), some (.int vv)] [] N15 v M' 0 0 := Ev.back 3 (fun n => rfl) H
          have HF := H
          subst eN15
          exact Or.inr (Or.inr (Or.inl ⟨h1, h3, h11, h13, b2, b10, b12, b14, HF⟩))
        · rw [if_neg h13] at H
          have H : Ev none e 187 350 [some (.ref 633), some (.int x), some (.int c), some (.int tx), some (.int sn), some (.int kk), some (.int wh), some (.int vv)] [.int 0, .int sn, .ref 649] M v M' 0 0 := Ev.back 2 (fun n => rfl) H
          obtain ⟨b16, H⟩ := Ev.bas3 rfl rfl hS.1 qa_649 qw_77 H
          obtain ⟨N17, eN17⟩ : ∃ N, N = (wI M 649 sn.toNatClampNeg (vp_nar .boolean 0)) := ⟨_, rfl⟩
          have hN17 : SQ N17 := by rw [eN17]; exact hS.ki
          have H : Ev none e 187 351 [some (.ref 633), some (.int x), some (.int c), some (.int tx), some (.int sn), some (.int kk), some (.int wh), some (.int vv)] [] N17 v M' 0 0 := by rw [eN17]; exact H
          have H : Ev none e 187 39 [some (.ref 633), some (.int x), some (.int c), some (.int tx), some (.int (sn + 1)), some (.int (kk + 1)), some (.int wh), some (.int vv)] [] N17 v M' 0 0 := Ev.back 3 (fun n => rfl) H
          have HF := H
          subst eN17
          exact Or.inr (Or.inr (Or.inr (Or.inl ⟨h1, h3, h11, h13, b2, b10, b12, b16, HF⟩)))
      · rw [if_neg h11] at H
        have H : Ev none e 187 336 [some (.ref 633), some (.int x), some (.int c), some (.int tx), some (.int sn), some (.int kk), some (.int wh), some (.int vv)] [.ref 633, .int vv, .int sn, .ref 649] M v M' 0 0 := Ev.back 2 (fun n => rfl) H
        have H : Ev none e 187 339 [some (.ref 633), some (.int x), some (.int c), some (.int tx), some (.int sn), some (.int kk), some (.int wh), some (.int vv)] [.ref 647, .int vv, .int sn, .ref 649] M v M' 0 0 := Ev.back 1 (gs_3 rfl rfl (gf_u hS.1 qa_633 qr_61_17 qu_75 rfl)) H
        have H : Ev none e 187 341 [some (.ref 633), some (.int x), some (.int c), some (.int tx), some (.int sn), some (.int kk), some (.int wh), some (.int vv)] [.int kk, .ref 647, .int vv, .int sn, .ref 649] M v M' 0 0 := Ev.back 1 (fun n => rfl) H
        obtain ⟨b18, H⟩ := Ev.ial rfl rfl hS.1 qa_647 qw_75 H
        have H : Ev none e 187 342 [some (.ref 633), some (.int x), some (.int c), some (.int tx), some (.int sn), some (.int kk), some (.int wh), some (.int vv)] [.int (rI M 647 kk), .int vv, .int sn, .ref 649] M v M' 0 0 := H
        have H : Ev none e 187 (if vv ≤ (rI M 647 kk) then 349 else 345) [some (.ref 633), some (.int x), some (.int c), some (.int tx), some (.int sn), some (.int kk), some (.int wh), some (.int vv)] [.int sn, .ref 649] M v M' 0 0 := Ev.back 1 (fun n => rfl) H
        by_cases h19 : vv ≤ (rI M 647 kk)
        · rw [if_pos h19] at H
          have H : Ev none e 187 350 [some (.ref 633), some (.int x), some (.int c), some (.int tx), some (.int sn), some (.int kk), some (.int wh), some (.int vv)] [.int 0, .int sn, .ref 649] M v M' 0 0 := Ev.back 1 (fun n => rfl) H
          obtain ⟨b20, H⟩ := Ev.bas3 rfl rfl hS.1 qa_649 qw_77 H
          obtain ⟨N21, eN21⟩ : ∃ N, N = (wI M 649 sn.toNatClampNeg (vp_nar .boolean 0)) := ⟨_, rfl⟩
          have hN21 : SQ N21 := by rw [eN21]; exact hS.ki
          have H : Ev none e 187 351 [some (.ref 633), some (.int x), some (.int c), some (.int tx), some (.int sn), some (.int kk), some (.int wh), some (.int vv)] [] N21 v M' 0 0 := by rw [eN21]; exact H
          have H : Ev none e 187 39 [some (.ref 633), some (.int x), some (.int c), some (.int tx), some (.int (sn + 1)), some (.int (kk + 1)), some (.int wh), some (.int vv)] [] N21 v M' 0 0 := Ev.back 3 (fun n => rfl) H
          have HF := H
          subst eN21
          exact Or.inr (Or.inr (Or.inr (Or.inr (Or.inl ⟨h1, h3, h11, h19, b2, b10, b18, b20, HF⟩))))
        · rw [if_neg h19] at H
          have H : Ev none e 187 350 [some (.ref 633), some (.int x), some (.int c), some (.int tx), some (.int sn), some (.int kk), some (.int wh), some (.int vv)] [.int 1, .int sn, .ref 649] M v M' 0 0 := Ev.back 2 (fun n => rfl) H
          obtain ⟨b22, H⟩ := Ev.bas3 rfl rfl hS.1 qa_649 qw_77 H
          obtain ⟨N23, eN23⟩ : ∃ N, N = (wI M 649 sn.toNatClampNeg (vp_nar .boolean 1)) := ⟨_, rfl⟩
          have hN23 : SQ N23 := by rw [eN23]; exact hS.ki
          have H : Ev none e 187 351 [some (.ref 633), some (.int x), some (.int c), some (.int tx), some (.int sn), some (.int kk), some (.int wh), some (.int vv)] [] N23 v M' 0 0 := by rw [eN23]; exact H
          have H : Ev none e 187 39 [some (.ref 633), some (.int x), some (.int c), some (.int tx), some (.int (sn + 1)), some (.int (kk + 1)), some (.int wh), some (.int vv)] [] N23 v M' 0 0 := Ev.back 3 (fun n => rfl) H
          have HF := H
          subst eN23
          exact Or.inr (Or.inr (Or.inr (Or.inr (Or.inr (Or.inl ⟨h1, h3, h11, h19, b2, b10, b18, b22, HF⟩)))))
  · rw [if_neg h1] at H
    have H : Ev none e 187 263 [some (.ref 633), some (.int x), some (.int c), some (.int tx), some (.int sn), some (.int kk), some (.int wh), some (.int vv)] [.int wh, .int c, .ref 633, .int sn, .ref 649] M v M' 0 0 := Ev.back 3 (fun n => rfl) H
    obtain ⟨e1, rfl⟩ := Ev.dpos rfl rfl H
    obtain ⟨vK24, MK24, K24, H⟩ := Ev.callb (fun n_ => gs_7 rfl rfl (show gCal (.invokevirtual 334) 11 (.int wh :: .int c :: .ref 633 :: [.int sn, .ref 649]) M = some (.inr (186, [some (.ref 633), some (.int c), some (.int wh)], [.int sn, .ref 649])) from by show @cond (Option ((List Value × Mem) ⊕ (Nat × Lo × List Value))) (true && gRecv M (.ref 633) 11 && gRoom [.int sn, .ref 649] && true) (some (.inr (186, [some (.ref 633), some (.int c), some (.int wh)], [.int sn, .ref 649]))) none = _; rw [recv_s hS.1 qa_633 qo_61]; rfl)) H
    have K24 : Ev none e1 186 0 [some (.ref 633), some (.int c), some (.int wh)] [] M vK24 MK24 0 0 := K24
    have HF := H
    exact Or.inr (Or.inr (Or.inr (Or.inr (Or.inr (Or.inr (⟨h1, ⟨e1, vK24, MK24, rfl, K24, HF⟩⟩))))))
theorem rho_266 {e : Nat} {M M' : Mem} {v : Option Value} {x c tx sn kk wh vv y z : Int32} (hS : SQ M) (H : Ev none e 187 266 [some (.ref 633), some (.int x), some (.int c), some (.int tx), some (.int sn), some (.int kk), some (.int wh), some (.int vv)] [.int y, .int z, .ref 649] M v M' 0 0) : (0 ≤ z.toInt ∧ z.toInt < 60) ∧ Ev none e 187 39 [some (.ref 633), some (.int x), some (.int c), some (.int tx), some (.int (sn + 1)), some (.int (kk + 1)), some (.int wh), some (.int vv)] [] (wI M 649 z.toNatClampNeg (vp_nar .boolean y)) v M' 0 0 := by
  have H : Ev none e 187 350 [some (.ref 633), some (.int x), some (.int c), some (.int tx), some (.int sn), some (.int kk), some (.int wh), some (.int vv)] [.int y, .int z, .ref 649] M v M' 0 0 := Ev.back 1 (fun n => rfl) H
  obtain ⟨b1, H⟩ := Ev.bas3 rfl rfl hS.1 qa_649 qw_77 H
  obtain ⟨N2, eN2⟩ : ∃ N, N = (wI M 649 z.toNatClampNeg (vp_nar .boolean y)) := ⟨_, rfl⟩
  have hN2 : SQ N2 := by rw [eN2]; exact hS.ki
  have H : Ev none e 187 351 [some (.ref 633), some (.int x), some (.int c), some (.int tx), some (.int sn), some (.int kk), some (.int wh), some (.int vv)] [] N2 v M' 0 0 := by rw [eN2]; exact H
  have H : Ev none e 187 39 [some (.ref 633), some (.int x), some (.int c), some (.int tx), some (.int (sn + 1)), some (.int (kk + 1)), some (.int wh), some (.int vv)] [] N2 v M' 0 0 := Ev.back 3 (fun n => rfl) H
  have HF := H
  subst eN2
  exact ⟨b1, HF⟩
/-! THE REFERENCE'S walking: choose: pieces (made by gref.py) -/
theorem rfs_0 {e : Nat} {M M' : Mem} {v : Option Value} {k c d : Int32} (hS : SQ M) (H : Ev none e 188 0 [some (.ref 633), some (.int k), some (.int c), some (.int d), none] [] M v M' 0 0) : Ev none e 188 3 [some (.ref 633), some (.int k), some (.int c), some (.int d), some (.int 0)] [] M v M' 0 0 := by
  have H : Ev none e 188 3 [some (.ref 633), some (.int k), some (.int c), some (.int d), some (.int 0)] [] M v M' 0 0 := Ev.back 2 (fun n => rfl) H
  have HF := H
  exact HF
theorem rfs_3 {e : Nat} {M M' : Mem} {v : Option Value} {k c d i : Int32} (hS : SQ M) (H : Ev none e 188 3 [some (.ref 633), some (.int k), some (.int c), some (.int d), some (.int i)] [] M v M' 0 0) : ((rI M 639 0) ≤ i ∧ (0 ≤ (0 : Int32).toInt ∧ (0 : Int32).toInt < 8) ∧ v = some (.int d) ∧ M' = M) ∨ (¬ ((rI M 639 0) ≤ i) ∧ (rI M 640 i) = k ∧ (0 ≤ (0 : Int32).toInt ∧ (0 : Int32).toInt < 8) ∧ (0 ≤ i.toInt ∧ i.toInt < 128) ∧ (∃ e1 v1 M1, e = e1 + 1 ∧ Ev none e1 187 0 [some (.ref 633), some (.int i), some (.int c), none, none, none, none, none] [] M v1 M1 0 0 ∧ Ev none e 188 32 [some (.ref 633), some (.int k), some (.int c), some (.int d), some (.int i)] (v1.toList ++ []) M1 v M' 0 0)) ∨ (¬ ((rI M 639 0) ≤ i) ∧ ¬ ((rI M 640 i) = k) ∧ (0 ≤ (0 : Int32).toInt ∧ (0 : Int32).toInt < 8) ∧ (0 ≤ i.toInt ∧ i.toInt < 128) ∧ Ev none e 188 3 [some (.ref 633), some (.int k), some (.int c), some (.int d), some (.int (i + 1))] [] M v M' 0 0) := by
  have H : Ev none e 188 6 [some (.ref 633), some (.int k), some (.int c), some (.int d), some (.int i)] [.ref 633, .int i] M v M' 0 0 := Ev.back 2 (fun n => rfl) H
  have H : Ev none e 188 9 [some (.ref 633), some (.int k), some (.int c), some (.int d), some (.int i)] [.ref 639, .int i] M v M' 0 0 := Ev.back 1 (gs_3 rfl rfl (gf_u hS.1 qa_633 qr_61_9 qu_67 rfl)) H
  have H : Ev none e 188 10 [some (.ref 633), some (.int k), some (.int c), some (.int d), some (.int i)] [.int 0, .ref 639, .int i] M v M' 0 0 := Ev.back 1 (fun n => rfl) H
  obtain ⟨b1, H⟩ := Ev.ial rfl rfl hS.1 qa_639 qw_67 H
  have H : Ev none e 188 11 [some (.ref 633), some (.int k), some (.int c), some (.int d), some (.int i)] [.int (rI M 639 0), .int i] M v M' 0 0 := H
  have H : Ev none e 188 (if (rI M 639 0) ≤ i then 49 else 14) [some (.ref 633), some (.int k), some (.int c), some (.int d), some (.int i)] [] M v M' 0 0 := Ev.back 1 (fun n => rfl) H
  by_cases h2 : (rI M 639 0) ≤ i
  · rw [if_pos h2] at H
    have H : Ev none e 188 50 [some (.ref 633), some (.int k), some (.int c), some (.int d), some (.int i)] [.int d] M v M' 0 0 := Ev.back 1 (fun n => rfl) H
    obtain ⟨z1, z2⟩ := Ev.retz rfl rfl H
    exact Or.inl ⟨h2, b1, z1, z2⟩
  · rw [if_neg h2] at H
    have H : Ev none e 188 15 [some (.ref 633), some (.int k), some (.int c), some (.int d), some (.int i)] [.ref 633] M v M' 0 0 := Ev.back 1 (fun n => rfl) H
    have H : Ev none e 188 18 [some (.ref 633), some (.int k), some (.int c), some (.int d), some (.int i)] [.ref 640] M v M' 0 0 := Ev.back 1 (gs_3 rfl rfl (gf_u hS.1 qa_633 qr_61_10 qu_68 rfl)) H
    have H : Ev none e 188 20 [some (.ref 633), some (.int k), some (.int c), some (.int d), some (.int i)] [.int i, .ref 640] M v M' 0 0 := Ev.back 1 (fun n => rfl) H
    obtain ⟨b3, H⟩ := Ev.ial rfl rfl hS.1 qa_640 qw_68 H
    have H : Ev none e 188 21 [some (.ref 633), some (.int k), some (.int c), some (.int d), some (.int i)] [.int (rI M 640 i)] M v M' 0 0 := H
    have H : Ev none e 188 (if (rI M 640 i) = k then 25 else 43) [some (.ref 633), some (.int k), some (.int c), some (.int d), some (.int i)] [] M v M' 0 0 := Ev.back 2 (fun n => rfl) H
    by_cases h4 : (rI M 640 i) = k
    · rw [if_pos h4] at H
      have H : Ev none e 188 29 [some (.ref 633), some (.int k), some (.int c), some (.int d), some (.int i)] [.int c, .int i, .ref 633] M v M' 0 0 := Ev.back 3 (fun n => rfl) H
      obtain ⟨e1, rfl⟩ := Ev.dpos rfl rfl H
      obtain ⟨vK5, MK5, K5, H⟩ := Ev.callb (fun n_ => gs_7 rfl rfl (show gCal (.invokevirtual 337) 11 (.int c :: .int i :: .ref 633 :: []) M = some (.inr (187, [some (.ref 633), some (.int i), some (.int c), none, none, none, none, none], [])) from by show @cond (Option ((List Value × Mem) ⊕ (Nat × Lo × List Value))) (true && gRecv M (.ref 633) 11 && gRoom [] && true) (some (.inr (187, [some (.ref 633), some (.int i), some (.int c), none, none, none, none, none], []))) none = _; rw [recv_s hS.1 qa_633 qo_61]; rfl)) H
      have K5 : Ev none e1 187 0 [some (.ref 633), some (.int i), some (.int c), none, none, none, none, none] [] M vK5 MK5 0 0 := K5
      have HF := H
      exact Or.inr (Or.inl ⟨h2, h4, b1, b3, ⟨e1, vK5, MK5, rfl, K5, HF⟩⟩)
    · rw [if_neg h4] at H
      have H : Ev none e 188 3 [some (.ref 633), some (.int k), some (.int c), some (.int d), some (.int (i + 1))] [] M v M' 0 0 := Ev.back 2 (fun n => rfl) H
      have HF := H
      exact Or.inr (Or.inr (⟨h2, h4, b1, b3, HF⟩))
theorem rfs_32 {e : Nat} {M M' : Mem} {v : Option Value} {k c d i y : Int32} (hS : SQ M) (H : Ev none e 188 32 [some (.ref 633), some (.int k), some (.int c), some (.int d), some (.int i)] [.int y] M v M' 0 0) : (y = 0 ∧ Ev none e 188 3 [some (.ref 633), some (.int k), some (.int c), some (.int d), some (.int (i + 1))] [] M v M' 0 0) ∨ (¬ (y = 0) ∧ (0 ≤ i.toInt ∧ i.toInt < 128) ∧ v = some (.int (rI M 642 i)) ∧ M' = M) := by
  have H : Ev none e 188 (if y = 0 then 43 else 35) [some (.ref 633), some (.int k), some (.int c), some (.int d), some (.int i)] [] M v M' 0 0 := Ev.back 1 (fun n => rfl) H
  by_cases h1 : y = 0
  · rw [if_pos h1] at H
    have H : Ev none e 188 3 [some (.ref 633), some (.int k), some (.int c), some (.int d), some (.int (i + 1))] [] M v M' 0 0 := Ev.back 2 (fun n => rfl) H
    have HF := H
    exact Or.inl ⟨h1, HF⟩
  · rw [if_neg h1] at H
    have H : Ev none e 188 36 [some (.ref 633), some (.int k), some (.int c), some (.int d), some (.int i)] [.ref 633] M v M' 0 0 := Ev.back 1 (fun n => rfl) H
    have H : Ev none e 188 39 [some (.ref 633), some (.int k), some (.int c), some (.int d), some (.int i)] [.ref 642] M v M' 0 0 := Ev.back 1 (gs_3 rfl rfl (gf_u hS.1 qa_633 qr_61_12 qu_70 rfl)) H
    have H : Ev none e 188 41 [some (.ref 633), some (.int k), some (.int c), some (.int d), some (.int i)] [.int i, .ref 642] M v M' 0 0 := Ev.back 1 (fun n => rfl) H
    obtain ⟨b2, H⟩ := Ev.ial rfl rfl hS.1 qa_642 qw_70 H
    have H : Ev none e 188 42 [some (.ref 633), some (.int k), some (.int c), some (.int d), some (.int i)] [.int (rI M 642 i)] M v M' 0 0 := H
    obtain ⟨z1, z2⟩ := Ev.retz rfl rfl H
    exact Or.inr (⟨h1, b2, z1, z2⟩)
theorem rfd_0 {e : Nat} {M M' : Mem} {v : Option Value} {tx k : Int32} (hS : SQ M) (H : Ev none e 172 0 [some (.ref 633), some (.int tx), some (.int k), none] [] M v M' 0 0) : Ev none e 172 5 [some (.ref 633), some (.int tx), some (.int k), some (.int (16 * tx))] [] M v M' 0 0 := by
  have H : Ev none e 172 5 [some (.ref 633), some (.int tx), some (.int k), some (.int (16 * tx))] [] M v M' 0 0 := Ev.back 4 (fun n => rfl) H
  have HF := H
  exact HF
theorem rfd_5 {e : Nat} {M M' : Mem} {v : Option Value} {tx k i : Int32} (hS : SQ M) (H : Ev none e 172 5 [some (.ref 633), some (.int tx), some (.int k), some (.int i)] [] M v M' 0 0) : (((16 * tx) + (rI M 639 tx)) ≤ i ∧ (0 ≤ tx.toInt ∧ tx.toInt < 8) ∧ v = some (.int (-1)) ∧ M' = M) ∨ (¬ (((16 * tx) + (rI M 639 tx)) ≤ i) ∧ (rI M 640 i) = k ∧ (0 ≤ tx.toInt ∧ tx.toInt < 8) ∧ (0 ≤ i.toInt ∧ i.toInt < 128) ∧ v = some (.int i) ∧ M' = M) ∨ (¬ (((16 * tx) + (rI M 639 tx)) ≤ i) ∧ ¬ ((rI M 640 i) = k) ∧ (0 ≤ tx.toInt ∧ tx.toInt < 8) ∧ (0 ≤ i.toInt ∧ i.toInt < 128) ∧ Ev none e 172 5 [some (.ref 633), some (.int tx), some (.int k), some (.int (i + 1))] [] M v M' 0 0) := by
  have H : Ev none e 172 11 [some (.ref 633), some (.int tx), some (.int k), some (.int i)] [.ref 633, .int (16 * tx), .int i] M v M' 0 0 := Ev.back 5 (fun n => rfl) H
  have H : Ev none e 172 14 [some (.ref 633), some (.int tx), some (.int k), some (.int i)] [.ref 639, .int (16 * tx), .int i] M v M' 0 0 := Ev.back 1 (gs_3 rfl rfl (gf_u hS.1 qa_633 qr_61_9 qu_67 rfl)) H
  have H : Ev none e 172 15 [some (.ref 633), some (.int tx), some (.int k), some (.int i)] [.int tx, .ref 639, .int (16 * tx), .int i] M v M' 0 0 := Ev.back 1 (fun n => rfl) H
  obtain ⟨b1, H⟩ := Ev.ial rfl rfl hS.1 qa_639 qw_67 H
  have H : Ev none e 172 16 [some (.ref 633), some (.int tx), some (.int k), some (.int i)] [.int (rI M 639 tx), .int (16 * tx), .int i] M v M' 0 0 := H
  have H : Ev none e 172 (if ((16 * tx) + (rI M 639 tx)) ≤ i then 38 else 20) [some (.ref 633), some (.int tx), some (.int k), some (.int i)] [] M v M' 0 0 := Ev.back 2 (fun n => rfl) H
  by_cases h2 : ((16 * tx) + (rI M 639 tx)) ≤ i
  · rw [if_pos h2] at H
    have H : Ev none e 172 39 [some (.ref 633), some (.int tx), some (.int k), some (.int i)] [.int (-1)] M v M' 0 0 := Ev.back 1 (fun n => rfl) H
    obtain ⟨z1, z2⟩ := Ev.retz rfl rfl H
    exact Or.inl ⟨h2, b1, z1, z2⟩
  · rw [if_neg h2] at H
    have H : Ev none e 172 21 [some (.ref 633), some (.int tx), some (.int k), some (.int i)] [.ref 633] M v M' 0 0 := Ev.back 1 (fun n => rfl) H
    have H : Ev none e 172 24 [some (.ref 633), some (.int tx), some (.int k), some (.int i)] [.ref 640] M v M' 0 0 := Ev.back 1 (gs_3 rfl rfl (gf_u hS.1 qa_633 qr_61_10 qu_68 rfl)) H
    have H : Ev none e 172 25 [some (.ref 633), some (.int tx), some (.int k), some (.int i)] [.int i, .ref 640] M v M' 0 0 := Ev.back 1 (fun n => rfl) H
    obtain ⟨b3, H⟩ := Ev.ial rfl rfl hS.1 qa_640 qw_68 H
    have H : Ev none e 172 26 [some (.ref 633), some (.int tx), some (.int k), some (.int i)] [.int (rI M 640 i)] M v M' 0 0 := H
    have H : Ev none e 172 (if (rI M 640 i) = k then 30 else 32) [some (.ref 633), some (.int tx), some (.int k), some (.int i)] [] M v M' 0 0 := Ev.back 2 (fun n => rfl) H
    by_cases h4 : (rI M 640 i) = k
    · rw [if_pos h4] at H
      have H : Ev none e 172 31 [some (.ref 633), some (.int tx), some (.int k), some (.int i)] [.int i] M v M' 0 0 := Ev.back 1 (fun n => rfl) H
      obtain ⟨z1, z2⟩ := Ev.retz rfl rfl H
      exact Or.inr (Or.inl ⟨h2, h4, b1, b3, z1, z2⟩)
    · rw [if_neg h4] at H
      have H : Ev none e 172 5 [some (.ref 633), some (.int tx), some (.int k), some (.int (i + 1))] [] M v M' 0 0 := Ev.back 2 (fun n => rfl) H
      have HF := H
      exact Or.inr (Or.inr (⟨h2, h4, b1, b3, HF⟩))
theorem rme0_0 {e : Nat} {M M' : Mem} {v : Option Value} {c d : Int32} (hS : SQ M) (H : Ev none e 197 0 [some (.ref 633), some (.int c), some (.int d), some (.int 0)] [] M v M' 0 0) : ((G_149 M c) = 0 ∧ v = some (.int 0) ∧ M' = M) ∨ (¬ ((G_149 M c) = 0) ∧ (G_150 M c) = 0 ∧ v = some (.int (((zI M 633 28) - (G_146 M c 3)) / 10)) ∧ M' = M) ∨ (¬ ((G_149 M c) = 0) ∧ ¬ ((G_150 M c) = 0) ∧ v = some (.int 0) ∧ M' = M) := by
  have H : Ev none e 197 42 [some (.ref 633), some (.int c), some (.int d), some (.int 0)] [.int c, .ref 633] M v M' 0 0 := Ev.back 4 (fun n => rfl) H
  obtain ⟨e1, rfl⟩ := Ev.dpos rfl rfl H
  obtain ⟨vK1, MK1, K1, H⟩ := Ev.callb (fun n_ => gs_7 rfl rfl (show gCal (.invokevirtual 356) 11 (.int c :: .ref 633 :: []) M = some (.inr (149, [some (.ref 633), some (.int c)], [])) from by show @cond (Option ((List Value × Mem) ⊕ (Nat × Lo × List Value))) (true && gRecv M (.ref 633) 11 && gRoom [] && true) (some (.inr (149, [some (.ref 633), some (.int c)], []))) none = _; rw [recv_s hS.1 qa_633 qo_61]; rfl)) H
  obtain ⟨pK1, qK1⟩ := g_149 hS K1
  rw [pK1, qK1] at H
  have H : Ev none (e1 + 1) 197 45 [some (.ref 633), some (.int c), some (.int d), some (.int 0)] [.int (G_149 M c)] M v M' 0 0 := H
  have H : Ev none (e1 + 1) 197 (if (G_149 M c) = 0 then 73 else 48) [some (.ref 633), some (.int c), some (.int d), some (.int 0)] [] M v M' 0 0 := Ev.back 1 (fun n => rfl) H
  by_cases h2 : (G_149 M c) = 0
  · rw [if_pos h2] at H
    have H : Ev none (e1 + 1) 197 74 [some (.ref 633), some (.int c), some (.int d), some (.int 0)] [.int 0] M v M' 0 0 := Ev.back 1 (fun n => rfl) H
    obtain ⟨z1, z2⟩ := Ev.retz rfl rfl H
    exact Or.inl ⟨h2, z1, z2⟩
  · rw [if_neg h2] at H
    have H : Ev none (e1 + 1) 197 50 [some (.ref 633), some (.int c), some (.int d), some (.int 0)] [.int c, .ref 633] M v M' 0 0 := Ev.back 2 (fun n => rfl) H
    obtain ⟨vK3, MK3, K3, H⟩ := Ev.callb (fun n_ => gs_7 rfl rfl (show gCal (.invokevirtual 140) 11 (.int c :: .ref 633 :: []) M = some (.inr (150, [some (.ref 633), some (.int c)], [])) from by show @cond (Option ((List Value × Mem) ⊕ (Nat × Lo × List Value))) (true && gRecv M (.ref 633) 11 && gRoom [] && true) (some (.inr (150, [some (.ref 633), some (.int c)], []))) none = _; rw [recv_s hS.1 qa_633 qo_61]; rfl)) H
    obtain ⟨pK3, qK3⟩ := g_150 hS K3
    rw [pK3, qK3] at H
    have H : Ev none (e1 + 1) 197 53 [some (.ref 633), some (.int c), some (.int d), some (.int 0)] [.int (G_150 M c)] M v M' 0 0 := H
    have H : Ev none (e1 + 1) 197 (if (G_150 M c) = 0 then 56 else 73) [some (.ref 633), some (.int c), some (.int d), some (.int 0)] [] M v M' 0 0 := Ev.back 1 (fun n => rfl) H
    by_cases h4 : (G_150 M c) = 0
    · rw [if_pos h4] at H
      have H : Ev none (e1 + 1) 197 57 [some (.ref 633), some (.int c), some (.int d), some (.int 0)] [.ref 633] M v M' 0 0 := Ev.back 1 (fun n => rfl) H
      have H : Ev none (e1 + 1) 197 60 [some (.ref 633), some (.int c), some (.int d), some (.int 0)] [.int (zI M 633 28)] M v M' 0 0 := Ev.back 1 (gs_3 rfl rfl (gf_i hS.1 qa_633 qi_61_28 rfl)) H
      have H : Ev none (e1 + 1) 197 63 [some (.ref 633), some (.int c), some (.int d), some (.int 0)] [.int 3, .int c, .ref 633, .int (zI M 633 28)] M v M' 0 0 := Ev.back 3 (fun n => rfl) H
      obtain ⟨vK5, MK5, K5, H⟩ := Ev.callb (fun n_ => gs_7 rfl rfl (show gCal (.invokevirtual 136) 11 (.int 3 :: .int c :: .ref 633 :: [.int (zI M 633 28)]) M = some (.inr (146, [some (.ref 633), some (.int c), some (.int 3)], [.int (zI M 633 28)])) from by show @cond (Option ((List Value × Mem) ⊕ (Nat × Lo × List Value))) (true && gRecv M (.ref 633) 11 && gRoom [.int (zI M 633 28)] && true) (some (.inr (146, [some (.ref 633), some (.int c), some (.int 3)], [.int (zI M 633 28)]))) none = _; rw [recv_s hS.1 qa_633 qo_61]; rfl)) H
      obtain ⟨pK5, qK5⟩ := g_146 hS K5
      rw [pK5, qK5] at H
      have H : Ev none (e1 + 1) 197 66 [some (.ref 633), some (.int c), some (.int d), some (.int 0)] [.int (G_146 M c 3), .int (zI M 633 28)] M v M' 0 0 := H
      have H : Ev none (e1 + 1) 197 74 [some (.ref 633), some (.int c), some (.int d), some (.int 0)] [.int (((zI M 633 28) - (G_146 M c 3)) / 10)] M v M' 0 0 := Ev.back 4 (fun n => rfl) H
      obtain ⟨z1, z2⟩ := Ev.retz rfl rfl H
      exact Or.inr (Or.inl ⟨h2, h4, z1, z2⟩)
    · rw [if_neg h4] at H
      have H : Ev none (e1 + 1) 197 74 [some (.ref 633), some (.int c), some (.int d), some (.int 0)] [.int 0] M v M' 0 0 := Ev.back 1 (fun n => rfl) H
      obtain ⟨z1, z2⟩ := Ev.retz rfl rfl H
      exact Or.inr (Or.inr (⟨h2, h4, z1, z2⟩))
theorem rme1_0 {e : Nat} {M M' : Mem} {v : Option Value} {c d : Int32} (hS : SQ M) (H : Ev none e 197 0 [some (.ref 633), some (.int c), some (.int d), some (.int 1)] [] M v M' 0 0) : v = some (.int ((G_146 M c 4) / 10)) ∧ M' = M := by
  have H : Ev none e 197 78 [some (.ref 633), some (.int c), some (.int d), some (.int 1)] [.int 4, .int c, .ref 633] M v M' 0 0 := Ev.back 5 (fun n => rfl) H
  obtain ⟨e1, rfl⟩ := Ev.dpos rfl rfl H
  obtain ⟨vK1, MK1, K1, H⟩ := Ev.callb (fun n_ => gs_7 rfl rfl (show gCal (.invokevirtual 136) 11 (.int 4 :: .int c :: .ref 633 :: []) M = some (.inr (146, [some (.ref 633), some (.int c), some (.int 4)], [])) from by show @cond (Option ((List Value × Mem) ⊕ (Nat × Lo × List Value))) (true && gRecv M (.ref 633) 11 && gRoom [] && true) (some (.inr (146, [some (.ref 633), some (.int c), some (.int 4)], []))) none = _; rw [recv_s hS.1 qa_633 qo_61]; rfl)) H
  obtain ⟨pK1, qK1⟩ := g_146 hS K1
  rw [pK1, qK1] at H
  have H : Ev none (e1 + 1) 197 81 [some (.ref 633), some (.int c), some (.int d), some (.int 1)] [.int (G_146 M c 4)] M v M' 0 0 := H
  have H : Ev none (e1 + 1) 197 84 [some (.ref 633), some (.int c), some (.int d), some (.int 1)] [.int ((G_146 M c 4) / 10)] M v M' 0 0 := Ev.back 2 (fun n => rfl) H
  obtain ⟨z1, z2⟩ := Ev.retz rfl rfl H
  exact ⟨z1, z2⟩
theorem rme2_0 {e : Nat} {M M' : Mem} {v : Option Value} {c d : Int32} (hS : SQ M) (H : Ev none e 197 0 [some (.ref 633), some (.int c), some (.int d), some (.int 2)] [] M v M' 0 0) : v = some (.int (G_141 M ((G_146 M c 2) - (G_146 M (zI M 633 34) 2)))) ∧ M' = M := by
  have H : Ev none e 197 88 [some (.ref 633), some (.int c), some (.int d), some (.int 2)] [.int 2, .int c, .ref 633] M v M' 0 0 := Ev.back 5 (fun n => rfl) H
  obtain ⟨e1, rfl⟩ := Ev.dpos rfl rfl H
  obtain ⟨vK1, MK1, K1, H⟩ := Ev.callb (fun n_ => gs_7 rfl rfl (show gCal (.invokevirtual 136) 11 (.int 2 :: .int c :: .ref 633 :: []) M = some (.inr (146, [some (.ref 633), some (.int c), some (.int 2)], [])) from by show @cond (Option ((List Value × Mem) ⊕ (Nat × Lo × List Value))) (true && gRecv M (.ref 633) 11 && gRoom [] && true) (some (.inr (146, [some (.ref 633), some (.int c), some (.int 2)], []))) none = _; rw [recv_s hS.1 qa_633 qo_61]; rfl)) H
  obtain ⟨pK1, qK1⟩ := g_146 hS K1
  rw [pK1, qK1] at H
  have H : Ev none (e1 + 1) 197 91 [some (.ref 633), some (.int c), some (.int d), some (.int 2)] [.int (G_146 M c 2)] M v M' 0 0 := H
  have H : Ev none (e1 + 1) 197 93 [some (.ref 633), some (.int c), some (.int d), some (.int 2)] [.ref 633, .ref 633, .int (G_146 M c 2)] M v M' 0 0 := Ev.back 2 (fun n => rfl) H
  have H : Ev none (e1 + 1) 197 96 [some (.ref 633), some (.int c), some (.int d), some (.int 2)] [.int (zI M 633 34), .ref 633, .int (G_146 M c 2)] M v M' 0 0 := Ev.back 1 (gs_3 rfl rfl (gf_i hS.1 qa_633 qi_61_34 rfl)) H
  have H : Ev none (e1 + 1) 197 97 [some (.ref 633), some (.int c), some (.int d), some (.int 2)] [.int 2, .int (zI M 633 34), .ref 633, .int (G_146 M c 2)] M v M' 0 0 := Ev.back 1 (fun n => rfl) H
  obtain ⟨vK2, MK2, K2, H⟩ := Ev.callb (fun n_ => gs_7 rfl rfl (show gCal (.invokevirtual 136) 11 (.int 2 :: .int (zI M 633 34) :: .ref 633 :: [.int (G_146 M c 2)]) M = some (.inr (146, [some (.ref 633), some (.int (zI M 633 34)), some (.int 2)], [.int (G_146 M c 2)])) from by show @cond (Option ((List Value × Mem) ⊕ (Nat × Lo × List Value))) (true && gRecv M (.ref 633) 11 && gRoom [.int (G_146 M c 2)] && true) (some (.inr (146, [some (.ref 633), some (.int (zI M 633 34)), some (.int 2)], [.int (G_146 M c 2)]))) none = _; rw [recv_s hS.1 qa_633 qo_61]; rfl)) H
  obtain ⟨pK2, qK2⟩ := g_146 hS K2
  rw [pK2, qK2] at H
  have H : Ev none (e1 + 1) 197 100 [some (.ref 633), some (.int c), some (.int d), some (.int 2)] [.int (G_146 M (zI M 633 34) 2), .int (G_146 M c 2)] M v M' 0 0 := H
  have H : Ev none (e1 + 1) 197 101 [some (.ref 633), some (.int c), some (.int d), some (.int 2)] [.int ((G_146 M c 2) - (G_146 M (zI M 633 34) 2))] M v M' 0 0 := Ev.back 1 (fun n => rfl) H
  obtain ⟨vK3, MK3, K3, H⟩ := Ev.callb (fun n => rfl) H
  obtain ⟨pK3, qK3⟩ := g_141 hS K3
  rw [pK3, qK3] at H
  have H : Ev none (e1 + 1) 197 104 [some (.ref 633), some (.int c), some (.int d), some (.int 2)] [.int (G_141 M ((G_146 M c 2) - (G_146 M (zI M 633 34) 2)))] M v M' 0 0 := H
  obtain ⟨z1, z2⟩ := Ev.retz rfl rfl H
  exact ⟨z1, z2⟩
theorem rme3_0 {e : Nat} {M M' : Mem} {v : Option Value} {c d : Int32} (hS : SQ M) (H : Ev none e 197 0 [some (.ref 633), some (.int c), some (.int d), some (.int 3)] [] M v M' 0 0) : ((zI M 633 39) = 0 ∧ (∃ e1 v1 M1, e = e1 + 1 ∧ Ev none e1 198 0 [some (.ref 633), some (.int c), none, none] [] M v1 M1 0 0 ∧ Ev none e 197 121 [some (.ref 633), some (.int c), some (.int d), some (.int 3)] (v1.toList ++ []) M1 v M' 0 0)) ∨ (¬ ((zI M 633 39) = 0) ∧ v = some (.int 0) ∧ M' = M) := by
  have H : Ev none e 197 106 [some (.ref 633), some (.int c), some (.int d), some (.int 3)] [.ref 633] M v M' 0 0 := Ev.back 3 (fun n => rfl) H
  have H : Ev none e 197 109 [some (.ref 633), some (.int c), some (.int d), some (.int 3)] [.int (zI M 633 39)] M v M' 0 0 := Ev.back 1 (gs_3 rfl rfl (gf_i hS.1 qa_633 qi_61_39 rfl)) H
  have H : Ev none e 197 (if (zI M 633 39) = 0 then 116 else 112) [some (.ref 633), some (.int c), some (.int d), some (.int 3)] [] M v M' 0 0 := Ev.back 1 (fun n => rfl) H
  by_cases h1 : (zI M 633 39) = 0
  · rw [if_pos h1] at H
    have H : Ev none e 197 118 [some (.ref 633), some (.int c), some (.int d), some (.int 3)] [.int c, .ref 633] M v M' 0 0 := Ev.back 2 (fun n => rfl) H
    obtain ⟨e1, rfl⟩ := Ev.dpos rfl rfl H
    obtain ⟨vK2, MK2, K2, H⟩ := Ev.callb (fun n_ => gs_7 rfl rfl (show gCal (.invokevirtual 366) 11 (.int c :: .ref 633 :: []) M = some (.inr (198, [some (.ref 633), some (.int c), none, none], [])) from by show @cond (Option ((List Value × Mem) ⊕ (Nat × Lo × List Value))) (true && gRecv M (.ref 633) 11 && gRoom [] && true) (some (.inr (198, [some (.ref 633), some (.int c), none, none], []))) none = _; rw [recv_s hS.1 qa_633 qo_61]; rfl)) H
    have K2 : Ev none e1 198 0 [some (.ref 633), some (.int c), none, none] [] M vK2 MK2 0 0 := K2
    have HF := H
    exact Or.inl ⟨h1, ⟨e1, vK2, MK2, rfl, K2, HF⟩⟩
  · rw [if_neg h1] at H
    have H : Ev none e 197 121 [some (.ref 633), some (.int c), some (.int d), some (.int 3)] [.int 0] M v M' 0 0 := Ev.back 2 (fun n => rfl) H
    obtain ⟨z1, z2⟩ := Ev.retz rfl rfl H
    exact Or.inr (⟨h1, z1, z2⟩)
theorem rme4_0 {e : Nat} {M M' : Mem} {v : Option Value} {c d : Int32} (hS : SQ M) (H : Ev none e 197 0 [some (.ref 633), some (.int c), some (.int d), some (.int 4)] [] M v M' 0 0) : ((zI M 633 37) < 0 ∧ v = some (.int 0) ∧ M' = M) ∨ (¬ ((zI M 633 37) < 0) ∧ (zI M 633 37) = d ∧ v = some (.int 0) ∧ M' = M) ∨ (¬ ((zI M 633 37) < 0) ∧ ¬ ((zI M 633 37) = d) ∧ v = some (.int 1) ∧ M' = M) := by
  have H : Ev none e 197 123 [some (.ref 633), some (.int c), some (.int d), some (.int 4)] [.ref 633] M v M' 0 0 := Ev.back 3 (fun n => rfl) H
  have H : Ev none e 197 126 [some (.ref 633), some (.int c), some (.int d), some (.int 4)] [.int (zI M 633 37)] M v M' 0 0 := Ev.back 1 (gs_3 rfl rfl (gf_i hS.1 qa_633 qi_61_37 rfl)) H
  have H : Ev none e 197 (if (zI M 633 37) < 0 then 141 else 129) [some (.ref 633), some (.int c), some (.int d), some (.int 4)] [] M v M' 0 0 := Ev.back 1 (fun n => rfl) H
  by_cases h1 : (zI M 633 37) < 0
  · rw [if_pos h1] at H
    have H : Ev none e 197 142 [some (.ref 633), some (.int c), some (.int d), some (.int 4)] [.int 0] M v M' 0 0 := Ev.back 1 (fun n => rfl) H
    obtain ⟨z1, z2⟩ := Ev.retz rfl rfl H
    exact Or.inl ⟨h1, z1, z2⟩
  · rw [if_neg h1] at H
    have H : Ev none e 197 130 [some (.ref 633), some (.int c), some (.int d), some (.int 4)] [.ref 633] M v M' 0 0 := Ev.back 1 (fun n => rfl) H
    have H : Ev none e 197 133 [some (.ref 633), some (.int c), some (.int d), some (.int 4)] [.int (zI M 633 37)] M v M' 0 0 := Ev.back 1 (gs_3 rfl rfl (gf_i hS.1 qa_633 qi_61_37 rfl)) H
    have H : Ev none e 197 (if (zI M 633 37) = d then 141 else 137) [some (.ref 633), some (.int c), some (.int d), some (.int 4)] [] M v M' 0 0 := Ev.back 2 (fun n => rfl) H
    by_cases h2 : (zI M 633 37) = d
    · rw [if_pos h2] at H
      have H : Ev none e 197 142 [some (.ref 633), some (.int c), some (.int d), some (.int 4)] [.int 0] M v M' 0 0 := Ev.back 1 (fun n => rfl) H
      obtain ⟨z1, z2⟩ := Ev.retz rfl rfl H
      exact Or.inr (Or.inl ⟨h1, h2, z1, z2⟩)
    · rw [if_neg h2] at H
      have H : Ev none e 197 142 [some (.ref 633), some (.int c), some (.int d), some (.int 4)] [.int 1] M v M' 0 0 := Ev.back 2 (fun n => rfl) H
      obtain ⟨z1, z2⟩ := Ev.retz rfl rfl H
      exact Or.inr (Or.inr (⟨h1, h2, z1, z2⟩))
theorem rme5_0 {e : Nat} {M M' : Mem} {v : Option Value} {c d : Int32} (hS : SQ M) (H : Ev none e 197 0 [some (.ref 633), some (.int c), some (.int d), some (.int 5)] [] M v M' 0 0) : (c = (zI M 633 38) ∧ v = some (.int 1) ∧ M' = M) ∨ (¬ (c = (zI M 633 38)) ∧ v = some (.int 0) ∧ M' = M) := by
  have H : Ev none e 197 145 [some (.ref 633), some (.int c), some (.int d), some (.int 5)] [.ref 633, .int c] M v M' 0 0 := Ev.back 4 (fun n => rfl) H
  have H : Ev none e 197 148 [some (.ref 633), some (.int c), some (.int d), some (.int 5)] [.int (zI M 633 38), .int c] M v M' 0 0 := Ev.back 1 (gs_3 rfl rfl (gf_i hS.1 qa_633 qi_61_38 rfl)) H
  have H : Ev none e 197 (if c = (zI M 633 38) then 151 else 155) [some (.ref 633), some (.int c), some (.int d), some (.int 5)] [] M v M' 0 0 := Ev.back 1 (fun n => rfl) H
  by_cases h1 : c = (zI M 633 38)
  · rw [if_pos h1] at H
    have H : Ev none e 197 156 [some (.ref 633), some (.int c), some (.int d), some (.int 5)] [.int 1] M v M' 0 0 := Ev.back 2 (fun n => rfl) H
    obtain ⟨z1, z2⟩ := Ev.retz rfl rfl H
    exact Or.inl ⟨h1, z1, z2⟩
  · rw [if_neg h1] at H
    have H : Ev none e 197 156 [some (.ref 633), some (.int c), some (.int d), some (.int 5)] [.int 0] M v M' 0 0 := Ev.back 1 (fun n => rfl) H
    obtain ⟨z1, z2⟩ := Ev.retz rfl rfl H
    exact Or.inr (⟨h1, z1, z2⟩)
theorem rme6_0 {e : Nat} {M M' : Mem} {v : Option Value} {c d : Int32} (hS : SQ M) (H : Ev none e 197 0 [some (.ref 633), some (.int c), some (.int d), some (.int 6)] [] M v M' 0 0) : (∃ e1 v1 M1, e = e1 + 1 ∧ Ev none e1 199 0 [some (.ref 633), some (.int c), some (.int d), none, none, none, none] [] M v1 M1 0 0 ∧ Ev none e 197 163 [some (.ref 633), some (.int c), some (.int d), some (.int 6)] (v1.toList ++ []) M1 v M' 0 0) := by
  have H : Ev none e 197 160 [some (.ref 633), some (.int c), some (.int d), some (.int 6)] [.int d, .int c, .ref 633] M v M' 0 0 := Ev.back 5 (fun n => rfl) H
  obtain ⟨e1, rfl⟩ := Ev.dpos rfl rfl H
  obtain ⟨vK1, MK1, K1, H⟩ := Ev.callb (fun n_ => gs_7 rfl rfl (show gCal (.invokevirtual 375) 11 (.int d :: .int c :: .ref 633 :: []) M = some (.inr (199, [some (.ref 633), some (.int c), some (.int d), none, none, none, none], [])) from by show @cond (Option ((List Value × Mem) ⊕ (Nat × Lo × List Value))) (true && gRecv M (.ref 633) 11 && gRoom [] && true) (some (.inr (199, [some (.ref 633), some (.int c), some (.int d), none, none, none, none], []))) none = _; rw [recv_s hS.1 qa_633 qo_61]; rfl)) H
  have K1 : Ev none e1 199 0 [some (.ref 633), some (.int c), some (.int d), none, none, none, none] [] M vK1 MK1 0 0 := K1
  have HF := H
  exact ⟨e1, vK1, MK1, rfl, K1, HF⟩
theorem rme3_121 {e : Nat} {M M' : Mem} {v : Option Value} {c d y : Int32} (hS : SQ M) (H : Ev none e 197 121 [some (.ref 633), some (.int c), some (.int d), some (.int 3)] [.int y] M v M' 0 0) : v = some (.int y) ∧ M' = M := by
  obtain ⟨z1, z2⟩ := Ev.retz rfl rfl H
  exact ⟨z1, z2⟩
theorem rme6_163 {e : Nat} {M M' : Mem} {v : Option Value} {c d y : Int32} (hS : SQ M) (H : Ev none e 197 163 [some (.ref 633), some (.int c), some (.int d), some (.int 6)] [.int y] M v M' 0 0) : v = some (.int y) ∧ M' = M := by
  obtain ⟨z1, z2⟩ := Ev.retz rfl rfl H
  exact ⟨z1, z2⟩
theorem rcr_0 {e : Nat} {M M' : Mem} {v : Option Value} {c : Int32} (hS : SQ M) (H : Ev none e 198 0 [some (.ref 633), some (.int c), none, none] [] M v M' 0 0) : Ev none e 198 4 [some (.ref 633), some (.int c), some (.int 0), some (.int 0)] [] M v M' 0 0 := by
  have H : Ev none e 198 4 [some (.ref 633), some (.int c), some (.int 0), some (.int 0)] [] M v M' 0 0 := Ev.back 4 (fun n => rfl) H
  have HF := H
  exact HF
theorem rcr_4 {e : Nat} {M M' : Mem} {v : Option Value} {c nn k : Int32} (hS : SQ M) (H : Ev none e 198 4 [some (.ref 633), some (.int c), some (.int nn), some (.int k)] [] M v M' 0 0) : ((rI M 635 157) ≤ k ∧ (0 ≤ (157 : Int32).toInt ∧ (157 : Int32).toInt < 2314) ∧ v = some (.int nn) ∧ M' = M) ∨ (¬ ((rI M 635 157) ≤ k) ∧ (rI M 635 (158 + (6 * k))) = c ∧ (0 ≤ (157 : Int32).toInt ∧ (157 : Int32).toInt < 2314) ∧ (0 ≤ (158 + (6 * k)).toInt ∧ (158 + (6 * k)).toInt < 2314) ∧ Ev none e 198 4 [some (.ref 633), some (.int c), some (.int (nn + 1)), some (.int (k + 1))] [] M v M' 0 0) ∨ (¬ ((rI M 635 157) ≤ k) ∧ ¬ ((rI M 635 (158 + (6 * k))) = c) ∧ (0 ≤ (157 : Int32).toInt ∧ (157 : Int32).toInt < 2314) ∧ (0 ≤ (158 + (6 * k)).toInt ∧ (158 + (6 * k)).toInt < 2314) ∧ Ev none e 198 4 [some (.ref 633), some (.int c), some (.int (nn + 0)), some (.int (k + 1))] [] M v M' 0 0) := by
  have H : Ev none e 198 6 [some (.ref 633), some (.int c), some (.int nn), some (.int k)] [.ref 633, .int k] M v M' 0 0 := Ev.back 2 (fun n => rfl) H
  have H : Ev none e 198 9 [some (.ref 633), some (.int c), some (.int nn), some (.int k)] [.ref 635, .int k] M v M' 0 0 := Ev.back 1 (gs_3 rfl rfl (gf_u hS.1 qa_633 qr_61_5 qu_63 rfl)) H
  have H : Ev none e 198 12 [some (.ref 633), some (.int c), some (.int nn), some (.int k)] [.int 157, .ref 635, .int k] M v M' 0 0 := Ev.back 1 (fun n => rfl) H
  obtain ⟨b1, H⟩ := Ev.ial rfl rfl hS.1 qa_635 qw_63 H
  have H : Ev none e 198 13 [some (.ref 633), some (.int c), some (.int nn), some (.int k)] [.int (rI M 635 157), .int k] M v M' 0 0 := H
  have H : Ev none e 198 (if (rI M 635 157) ≤ k then 47 else 16) [some (.ref 633), some (.int c), some (.int nn), some (.int k)] [] M v M' 0 0 := Ev.back 1 (fun n => rfl) H
  by_cases h2 : (rI M 635 157) ≤ k
  · rw [if_pos h2] at H
    have H : Ev none e 198 48 [some (.ref 633), some (.int c), some (.int nn), some (.int k)] [.int nn] M v M' 0 0 := Ev.back 1 (fun n => rfl) H
    obtain ⟨z1, z2⟩ := Ev.retz rfl rfl H
    exact Or.inl ⟨h2, b1, z1, z2⟩
  · rw [if_neg h2] at H
    have H : Ev none e 198 18 [some (.ref 633), some (.int c), some (.int nn), some (.int k)] [.ref 633, .int nn] M v M' 0 0 := Ev.back 2 (fun n => rfl) H
    have H : Ev none e 198 21 [some (.ref 633), some (.int c), some (.int nn), some (.int k)] [.ref 635, .int nn] M v M' 0 0 := Ev.back 1 (gs_3 rfl rfl (gf_u hS.1 qa_633 qr_61_5 qu_63 rfl)) H
    have H : Ev none e 198 29 [some (.ref 633), some (.int c), some (.int nn), some (.int k)] [.int (158 + (6 * k)), .ref 635, .int nn] M v M' 0 0 := Ev.back 5 (fun n => rfl) H
    obtain ⟨b3, H⟩ := Ev.ial rfl rfl hS.1 qa_635 qw_63 H
    have H : Ev none e 198 30 [some (.ref 633), some (.int c), some (.int nn), some (.int k)] [.int (rI M 635 (158 + (6 * k))), .int nn] M v M' 0 0 := H
    have H : Ev none e 198 (if (rI M 635 (158 + (6 * k))) = c then 34 else 38) [some (.ref 633), some (.int c), some (.int nn), some (.int k)] [.int nn] M v M' 0 0 := Ev.back 2 (fun n => rfl) H
    by_cases h4 : (rI M 635 (158 + (6 * k))) = c
    · rw [if_pos h4] at H
      have H : Ev none e 198 4 [some (.ref 633), some (.int c), some (.int (nn + 1)), some (.int (k + 1))] [] M v M' 0 0 := Ev.back 6 (fun n => rfl) H
      have HF := H
      exact Or.inr (Or.inl ⟨h2, h4, b1, b3, HF⟩)
    · rw [if_neg h4] at H
      have H : Ev none e 198 4 [some (.ref 633), some (.int c), some (.int (nn + 0)), some (.int (k + 1))] [] M v M' 0 0 := Ev.back 5 (fun n => rfl) H
      have HF := H
      exact Or.inr (Or.inr (⟨h2, h4, b1, b3, HF⟩))
theorem rse_0 {e : Nat} {M M' : Mem} {v : Option Value} {c d : Int32} (hS : SQ M) (H : Ev none e 199 0 [some (.ref 633), some (.int c), some (.int d), none, none, none, none] [] M v M' 0 0) : (∃ e1 v1 M1, e = e1 + 1 ∧ Ev none e1 172 0 [some (.ref 633), some (.int (zI M 633 36)), some (.int 7), none] [] M v1 M1 0 0 ∧ Ev none e 199 10 [some (.ref 633), some (.int c), some (.int d), none, none, none, none] (v1.toList ++ []) M1 v M' 0 0) := by
  have H : Ev none e 199 2 [some (.ref 633), some (.int c), some (.int d), none, none, none, none] [.ref 633, .ref 633] M v M' 0 0 := Ev.back 2 (fun n => rfl) H
  have H : Ev none e 199 5 [some (.ref 633), some (.int c), some (.int d), none, none, none, none] [.int (zI M 633 36), .ref 633] M v M' 0 0 := Ev.back 1 (gs_3 rfl rfl (gf_i hS.1 qa_633 qi_61_36 rfl)) H
  have H : Ev none e 199 7 [some (.ref 633), some (.int c), some (.int d), none, none, none, none] [.int 7, .int (zI M 633 36), .ref 633] M v M' 0 0 := Ev.back 1 (fun n => rfl) H
  obtain ⟨e1, rfl⟩ := Ev.dpos rfl rfl H
  obtain ⟨vK1, MK1, K1, H⟩ := Ev.callb (fun n_ => gs_7 rfl rfl (show gCal (.invokevirtual 227) 11 (.int 7 :: .int (zI M 633 36) :: .ref 633 :: []) M = some (.inr (172, [some (.ref 633), some (.int (zI M 633 36)), some (.int 7), none], [])) from by show @cond (Option ((List Value × Mem) ⊕ (Nat × Lo × List Value))) (true && gRecv M (.ref 633) 11 && gRoom [] && true) (some (.inr (172, [some (.ref 633), some (.int (zI M 633 36)), some (.int 7), none], []))) none = _; rw [recv_s hS.1 qa_633 qo_61]; rfl)) H
  have K1 : Ev none e1 172 0 [some (.ref 633), some (.int (zI M 633 36)), some (.int 7), none] [] M vK1 MK1 0 0 := K1
  have HF := H
  exact ⟨e1, vK1, MK1, rfl, K1, HF⟩
theorem rse_10 {e : Nat} {M M' : Mem} {v : Option Value} {c d y : Int32} (hS : SQ M) (H : Ev none e 199 10 [some (.ref 633), some (.int c), some (.int d), none, none, none, none] [.int y] M v M' 0 0) : (0 ≤ y ∧ (0 ≤ y.toInt ∧ y.toInt < 128) ∧ Ev none e 199 33 [some (.ref 633), some (.int c), some (.int d), some (.int y), some (.int (rI M 642 y)), some (.int 0), some (.int c)] [] M v M' 0 0) ∨ (¬ (0 ≤ y) ∧ Ev none e 199 33 [some (.ref 633), some (.int c), some (.int d), some (.int y), some (.int 3), some (.int 0), some (.int c)] [] M v M' 0 0) := by
  have H : Ev none e 199 (if 0 ≤ y then 19 else 15) [some (.ref 633), some (.int c), some (.int d), some (.int y), none, none, none] [] M v M' 0 0 := Ev.back 3 (fun n => rfl) H
  by_cases h1 : 0 ≤ y
  · rw [if_pos h1] at H
    have H : Ev none e 199 20 [some (.ref 633), some (.int c), some (.int d), some (.int y), none, none, none] [.ref 633] M v M' 0 0 := Ev.back 1 (fun n => rfl) H
    have H : Ev none e 199 23 [some (.ref 633), some (.int c), some (.int d), some (.int y), none, none, none] [.ref 642] M v M' 0 0 := Ev.back 1 (gs_3 rfl rfl (gf_u hS.1 qa_633 qr_61_12 qu_70 rfl)) H
    have H : Ev none e 199 24 [some (.ref 633), some (.int c), some (.int d), some (.int y), none, none, none] [.int y, .ref 642] M v M' 0 0 := Ev.back 1 (fun n => rfl) H
    obtain ⟨b2, H⟩ := Ev.ial rfl rfl hS.1 qa_642 qw_70 H
    have H : Ev none e 199 25 [some (.ref 633), some (.int c), some (.int d), some (.int y), none, none, none] [.int (rI M 642 y)] M v M' 0 0 := H
    have H : Ev none e 199 33 [some (.ref 633), some (.int c), some (.int d), some (.int y), some (.int (rI M 642 y)), some (.int 0), some (.int c)] [] M v M' 0 0 := Ev.back 5 (fun n => rfl) H
    have HF := H
    exact Or.inl ⟨h1, b2, HF⟩
  · rw [if_neg h1] at H
    have H : Ev none e 199 33 [some (.ref 633), some (.int c), some (.int d), some (.int y), some (.int 3), some (.int 0), some (.int c)] [] M v M' 0 0 := Ev.back 7 (fun n => rfl) H
    have HF := H
    exact Or.inr (⟨h1, HF⟩)
theorem rse_33 {e : Nat} {M M' : Mem} {v : Option Value} {c d fa le nn vv : Int32} (hS : SQ M) (H : Ev none e 199 33 [some (.ref 633), some (.int c), some (.int d), some (.int fa), some (.int le), some (.int nn), some (.int vv)] [] M v M' 0 0) : (le ≤ 0 ∧ v = some (.int nn) ∧ M' = M) ∨ (¬ (le ≤ 0) ∧ vv < 0 ∧ v = some (.int nn) ∧ M' = M) ∨ (¬ (le ≤ 0) ∧ ¬ (vv < 0) ∧ (G_148 M vv) = 0 ∧ v = some (.int nn) ∧ M' = M) ∨ (¬ (le ≤ 0) ∧ ¬ (vv < 0) ∧ ¬ ((G_148 M vv) = 0) ∧ (G_150 M vv) = 0 ∧ Ev none e 199 33 [some (.ref 633), some (.int c), some (.int d), some (.int fa), some (.int (le + Int32.ofInt (-1))), some (.int (nn + 0)), some (.int (G_194 M vv d))] [] M v M' 0 0) ∨ (¬ (le ≤ 0) ∧ ¬ (vv < 0) ∧ ¬ ((G_148 M vv) = 0) ∧ ¬ ((G_150 M vv) = 0) ∧ Ev none e 199 33 [some (.ref 633), some (.int c), some (.int d), some (.int fa), some (.int (le + Int32.ofInt (-1))), some (.int (nn + 1)), some (.int (G_194 M vv d))] [] M v M' 0 0) := by
  have H : Ev none e 199 (if le ≤ 0 then 86 else 38) [some (.ref 633), some (.int c), some (.int d), some (.int fa), some (.int le), some (.int nn), some (.int vv)] [] M v M' 0 0 := Ev.back 2 (fun n => rfl) H
  by_cases h1 : le ≤ 0
  · rw [if_pos h1] at H
    have H : Ev none e 199 88 [some (.ref 633), some (.int c), some (.int d), some (.int fa), some (.int le), some (.int nn), some (.int vv)] [.int nn] M v M' 0 0 := Ev.back 1 (fun n => rfl) H
    obtain ⟨z1, z2⟩ := Ev.retz rfl rfl H
    exact Or.inl ⟨h1, z1, z2⟩
  · rw [if_neg h1] at H
    have H : Ev none e 199 (if vv < 0 then 86 else 43) [some (.ref 633), some (.int c), some (.int d), some (.int fa), some (.int le), some (.int nn), some (.int vv)] [] M v M' 0 0 := Ev.back 2 (fun n => rfl) H
    by_cases h2 : vv < 0
    · rw [if_pos h2] at H
      have H : Ev none e 199 88 [some (.ref 633), some (.int c), some (.int d), some (.int fa), some (.int le), some (.int nn), some (.int vv)] [.int nn] M v M' 0 0 := Ev.back 1 (fun n => rfl) H
      obtain ⟨z1, z2⟩ := Ev.retz rfl rfl H
      exact Or.inr (Or.inl ⟨h1, h2, z1, z2⟩)
    · rw [if_neg h2] at H
      have H : Ev none e 199 46 [some (.ref 633), some (.int c), some (.int d), some (.int fa), some (.int le), some (.int nn), some (.int vv)] [.int vv, .ref 633] M v M' 0 0 := Ev.back 2 (fun n => rfl) H
      obtain ⟨e1, rfl⟩ := Ev.dpos rfl rfl H
      obtain ⟨vK3, MK3, K3, H⟩ := Ev.callb (fun n_ => gs_7 rfl rfl (show gCal (.invokevirtual 158) 11 (.int vv :: .ref 633 :: []) M = some (.inr (148, [some (.ref 633), some (.int vv)], [])) from by show @cond (Option ((List Value × Mem) ⊕ (Nat × Lo × List Value))) (true && gRecv M (.ref 633) 11 && gRoom [] && true) (some (.inr (148, [some (.ref 633), some (.int vv)], []))) none = _; rw [recv_s hS.1 qa_633 qo_61]; rfl)) H
      obtain ⟨pK3, qK3⟩ := g_148 hS K3
      rw [pK3, qK3] at H
      have H : Ev none (e1 + 1) 199 49 [some (.ref 633), some (.int c), some (.int d), some (.int fa), some (.int le), some (.int nn), some (.int vv)] [.int (G_148 M vv)] M v M' 0 0 := H
      have H : Ev none (e1 + 1) 199 (if (G_148 M vv) = 0 then 86 else 52) [some (.ref 633), some (.int c), some (.int d), some (.int fa), some (.int le), some (.int nn), some (.int vv)] [] M v M' 0 0 := Ev.back 1 (fun n => rfl) H
      by_cases h4 : (G_148 M vv) = 0
      · rw [if_pos h4] at H
        have H : Ev none (e1 + 1) 199 88 [some (.ref 633), some (.int c), some (.int d), some (.int fa), some (.int le), some (.int nn), some (.int vv)] [.int nn] M v M' 0 0 := Ev.back 1 (fun n => rfl) H
        obtain ⟨z1, z2⟩ := Ev.retz rfl rfl H
        exact Or.inr (Or.inr (Or.inl ⟨h1, h2, h4, z1, z2⟩))
      · rw [if_neg h4] at H
        have H : Ev none (e1 + 1) 199 57 [some (.ref 633), some (.int c), some (.int d), some (.int fa), some (.int le), some (.int nn), some (.int vv)] [.int vv, .ref 633, .int nn] M v M' 0 0 := Ev.back 3 (fun n => rfl) H
        obtain ⟨vK5, MK5, K5, H⟩ := Ev.callb (fun n_ => gs_7 rfl rfl (show gCal (.invokevirtual 140) 11 (.int vv :: .ref 633 :: [.int nn]) M = some (.inr (150, [some (.ref 633), some (.int vv)], [.int nn])) from by show @cond (Option ((List Value × Mem) ⊕ (Nat × Lo × List Value))) (true && gRecv M (.ref 633) 11 && gRoom [.int nn] && true) (some (.inr (150, [some (.ref 633), some (.int vv)], [.int nn]))) none = _; rw [recv_s hS.1 qa_633 qo_61]; rfl)) H
        obtain ⟨pK5, qK5⟩ := g_150 hS K5
        rw [pK5, qK5] at H
        have H : Ev none (e1 + 1) 199 60 [some (.ref 633), some (.int c), some (.int d), some (.int fa), some (.int le), some (.int nn), some (.int vv)] [.int (G_150 M vv), .int nn] M v M' 0 0 := H
        have H : Ev none (e1 + 1) 199 (if (G_150 M vv) = 0 then 67 else 63) [some (.ref 633), some (.int c), some (.int d), some (.int fa), some (.int le), some (.int nn), some (.int vv)] [.int nn] M v M' 0 0 := Ev.back 1 (fun n => rfl) H
        by_cases h6 : (G_150 M vv) = 0
        · rw [if_pos h6] at H
          have H : Ev none (e1 + 1) 199 75 [some (.ref 633), some (.int c), some (.int d), some (.int fa), some (.int le), some (.int (nn + 0)), some (.int vv)] [.int d, .int vv, .ref 633] M v M' 0 0 := Ev.back 6 (fun n => rfl) H
          obtain ⟨vK7, MK7, K7, H⟩ := Ev.callb (fun n_ => gs_7 rfl rfl (show gCal (.invokevirtual 380) 11 (.int d :: .int vv :: .ref 633 :: []) M = some (.inr (194, [some (.ref 633), some (.int vv), some (.int d), none, none], [])) from by show @cond (Option ((List Value × Mem) ⊕ (Nat × Lo × List Value))) (true && gRecv M (.ref 633) 11 && gRoom [] && true) (some (.inr (194, [some (.ref 633), some (.int vv), some (.int d), none, none], []))) none = _; rw [recv_s hS.1 qa_633 qo_61]; rfl)) H
          obtain ⟨pK7, qK7⟩ := g_194 hS K7
          rw [pK7, qK7] at H
          have H : Ev none (e1 + 1) 199 78 [some (.ref 633), some (.int c), some (.int d), some (.int fa), some (.int le), some (.int (nn + 0)), some (.int vv)] [.int (G_194 M vv d)] M v M' 0 0 := H
          have H : Ev none (e1 + 1) 199 80 [some (.ref 633), some (.int c), some (.int d), some (.int fa), some (.int le), some (.int (nn + 0)), some (.int (G_194 M vv d))] [] M v M' 0 0 := Ev.back 1 (fun n => rfl) H
          have H : Ev none (e1 + 1) 199 83 [some (.ref 633), some (.int c), some (.int d), some (.int fa), some (.int (le + Int32.ofInt (-1))), some (.int (nn + 0)), some (.int (G_194 M vv d))] [] M v M' 0 0 := Ev.back 1 (gs_1 (i := .iinc 4 (-1)) rfl rfl rfl) H
          have H : Ev none (e1 + 1) 199 33 [some (.ref 633), some (.int c), some (.int d), some (.int fa), some (.int (le + Int32.ofInt (-1))), some (.int (nn + 0)), some (.int (G_194 M vv d))] [] M v M' 0 0 := Ev.back 1 (fun n => rfl) H
          have HF := H
          exact Or.inr (Or.inr (Or.inr (Or.inl ⟨h1, h2, h4, h6, HF⟩)))
        · rw [if_neg h6] at H
          have H : Ev none (e1 + 1) 199 75 [some (.ref 633), some (.int c), some (.int d), some (.int fa), some (.int le), some (.int (nn + 1)), some (.int vv)] [.int d, .int vv, .ref 633] M v M' 0 0 := Ev.back 7 (fun n => rfl) H
          obtain ⟨vK8, MK8, K8, H⟩ := Ev.callb (fun n_ => gs_7 rfl rfl (show gCal (.invokevirtual 380) 11 (.int d :: .int vv :: .ref 633 :: []) M = some (.inr (194, [some (.ref 633), some (.int vv), some (.int d), none, none], [])) from by show @cond (Option ((List Value × Mem) ⊕ (Nat × Lo × List Value))) (true && gRecv M (.ref 633) 11 && gRoom [] && true) (some (.inr (194, [some (.ref 633), some (.int vv), some (.int d), none, none], []))) none = _; rw [recv_s hS.1 qa_633 qo_61]; rfl)) H
          obtain ⟨pK8, qK8⟩ := g_194 hS K8
          rw [pK8, qK8] at H
          have H : Ev none (e1 + 1) 199 78 [some (.ref 633), some (.int c), some (.int d), some (.int fa), some (.int le), some (.int (nn + 1)), some (.int vv)] [.int (G_194 M vv d)] M v M' 0 0 := H
          have H : Ev none (e1 + 1) 199 80 [some (.ref 633), some (.int c), some (.int d), some (.int fa), some (.int le), some (.int (nn + 1)), some (.int (G_194 M vv d))] [] M v M' 0 0 := Ev.back 1 (fun n => rfl) H
          have H : Ev none (e1 + 1) 199 83 [some (.ref 633), some (.int c), some (.int d), some (.int fa), some (.int (le + Int32.ofInt (-1))), some (.int (nn + 1)), some (.int (G_194 M vv d))] [] M v M' 0 0 := Ev.back 1 (gs_1 (i := .iinc 4 (-1)) rfl rfl rfl) H
          have H : Ev none (e1 + 1) 199 33 [some (.ref 633), some (.int c), some (.int d), some (.int fa), some (.int (le + Int32.ofInt (-1))), some (.int (nn + 1)), some (.int (G_194 M vv d))] [] M v M' 0 0 := Ev.back 1 (fun n => rfl) H
          have HF := H
          exact Or.inr (Or.inr (Or.inr (Or.inr (⟨h1, h2, h4, h6, HF⟩))))
theorem rwe_0 {e : Nat} {M M' : Mem} {v : Option Value} {c d : Int32} (hS : SQ M) (H : Ev none e 200 0 [some (.ref 633), some (.int c), some (.int d), none, none, none, none, none] [] M v M' 0 0) : ((G_195 M c (zI M 633 35)) ≤ (G_196 M c (zI M 633 35)) ∧ Ev none e 200 59 [some (.ref 633), some (.int c), some (.int d), some (.int (G_195 M c (zI M 633 35))), some (.int (G_196 M c (zI M 633 35))), some (.int ((10 * (G_196 M c (zI M 633 35))) + (4 * (G_195 M c (zI M 633 35))))), some (.int (16 * (zI M 633 36))), none] [] M v M' 0 0) ∨ (¬ ((G_195 M c (zI M 633 35)) ≤ (G_196 M c (zI M 633 35))) ∧ Ev none e 200 59 [some (.ref 633), some (.int c), some (.int d), some (.int (G_195 M c (zI M 633 35))), some (.int (G_196 M c (zI M 633 35))), some (.int ((10 * (G_195 M c (zI M 633 35))) + (4 * (G_196 M c (zI M 633 35))))), some (.int (16 * (zI M 633 36))), none] [] M v M' 0 0) := by
  have H : Ev none e 200 3 [some (.ref 633), some (.int c), some (.int d), none, none, none, none, none] [.ref 633, .int c, .ref 633] M v M' 0 0 := Ev.back 3 (fun n => rfl) H
  have H : Ev none e 200 6 [some (.ref 633), some (.int c), some (.int d), none, none, none, none, none] [.int (zI M 633 35), .int c, .ref 633] M v M' 0 0 := Ev.back 1 (gs_3 rfl rfl (gf_i hS.1 qa_633 qi_61_35 rfl)) H
  obtain ⟨e1, rfl⟩ := Ev.dpos rfl rfl H
  obtain ⟨vK1, MK1, K1, H⟩ := Ev.callb (fun n_ => gs_7 rfl rfl (show gCal (.invokevirtual 386) 11 (.int (zI M 633 35) :: .int c :: .ref 633 :: []) M = some (.inr (195, [some (.ref 633), some (.int c), some (.int (zI M 633 35))], [])) from by show @cond (Option ((List Value × Mem) ⊕ (Nat × Lo × List Value))) (true && gRecv M (.ref 633) 11 && gRoom [] && true) (some (.inr (195, [some (.ref 633), some (.int c), some (.int (zI M 633 35))], []))) none = _; rw [recv_s hS.1 qa_633 qo_61]; rfl)) H
  obtain ⟨pK1, qK1⟩ := g_195 hS K1
  rw [pK1, qK1] at H
  have H : Ev none (e1 + 1) 200 9 [some (.ref 633), some (.int c), some (.int d), none, none, none, none, none] [.int (G_195 M c (zI M 633 35))] M v M' 0 0 := H
  have H : Ev none (e1 + 1) 200 13 [some (.ref 633), some (.int c), some (.int d), some (.int (G_195 M c (zI M 633 35))), none, none, none, none] [.ref 633, .int c, .ref 633] M v M' 0 0 := Ev.back 4 (fun n => rfl) H
  have H : Ev none (e1 + 1) 200 16 [some (.ref 633), some (.int c), some (.int d), some (.int (G_195 M c (zI M 633 35))), none, none, none, none] [.int (zI M 633 35), .int c, .ref 633] M v M' 0 0 := Ev.back 1 (gs_3 rfl rfl (gf_i hS.1 qa_633 qi_61_35 rfl)) H
  obtain ⟨vK2, MK2, K2, H⟩ := Ev.callb (fun n_ => gs_7 rfl rfl (show gCal (.invokevirtual 389) 11 (.int (zI M 633 35) :: .int c :: .ref 633 :: []) M = some (.inr (196, [some (.ref 633), some (.int c), some (.int (zI M 633 35))], [])) from by show @cond (Option ((List Value × Mem) ⊕ (Nat × Lo × List Value))) (true && gRecv M (.ref 633) 11 && gRoom [] && true) (some (.inr (196, [some (.ref 633), some (.int c), some (.int (zI M 633 35))], []))) none = _; rw [recv_s hS.1 qa_633 qo_61]; rfl)) H
  obtain ⟨pK2, qK2⟩ := g_196 hS K2
  rw [pK2, qK2] at H
  have H : Ev none (e1 + 1) 200 19 [some (.ref 633), some (.int c), some (.int d), some (.int (G_195 M c (zI M 633 35))), none, none, none, none] [.int (G_196 M c (zI M 633 35))] M v M' 0 0 := H
  have H : Ev none (e1 + 1) 200 (if (G_195 M c (zI M 633 35)) ≤ (G_196 M c (zI M 633 35)) then 39 else 27) [some (.ref 633), some (.int c), some (.int d), some (.int (G_195 M c (zI M 633 35))), some (.int (G_196 M c (zI M 633 35))), none, none, none] [] M v M' 0 0 := Ev.back 4 (fun n => rfl) H
  by_cases h3 : (G_195 M c (zI M 633 35)) ≤ (G_196 M c (zI M 633 35))
  · rw [if_pos h3] at H
    have H : Ev none (e1 + 1) 200 53 [some (.ref 633), some (.int c), some (.int d), some (.int (G_195 M c (zI M 633 35))), some (.int (G_196 M c (zI M 633 35))), some (.int ((10 * (G_196 M c (zI M 633 35))) + (4 * (G_195 M c (zI M 633 35))))), none, none] [.ref 633, .int 16] M v M' 0 0 := Ev.back 10 (fun n => rfl) H
    have H : Ev none (e1 + 1) 200 56 [some (.ref 633), some (.int c), some (.int d), some (.int (G_195 M c (zI M 633 35))), some (.int (G_196 M c (zI M 633 35))), some (.int ((10 * (G_196 M c (zI M 633 35))) + (4 * (G_195 M c (zI M 633 35))))), none, none] [.int (zI M 633 36), .int 16] M v M' 0 0 := Ev.back 1 (gs_3 rfl rfl (gf_i hS.1 qa_633 qi_61_36 rfl)) H
    have H : Ev none (e1 + 1) 200 59 [some (.ref 633), some (.int c), some (.int d), some (.int (G_195 M c (zI M 633 35))), some (.int (G_196 M c (zI M 633 35))), some (.int ((10 * (G_196 M c (zI M 633 35))) + (4 * (G_195 M c (zI M 633 35))))), some (.int (16 * (zI M 633 36))), none] [] M v M' 0 0 := Ev.back 2 (fun n => rfl) H
    have HF := H
    exact Or.inl ⟨h3, HF⟩
  · rw [if_neg h3] at H
    have H : Ev none (e1 + 1) 200 53 [some (.ref 633), some (.int c), some (.int d), some (.int (G_195 M c (zI M 633 35))), some (.int (G_196 M c (zI M 633 35))), some (.int ((10 * (G_195 M c (zI M 633 35))) + (4 * (G_196 M c (zI M 633 35))))), none, none] [.ref 633, .int 16] M v M' 0 0 := Ev.back 11 (fun n => rfl) H
    have H : Ev none (e1 + 1) 200 56 [some (.ref 633), some (.int c), some (.int d), some (.int (G_195 M c (zI M 633 35))), some (.int (G_196 M c (zI M 633 35))), some (.int ((10 * (G_195 M c (zI M 633 35))) + (4 * (G_196 M c (zI M 633 35))))), none, none] [.int (zI M 633 36), .int 16] M v M' 0 0 := Ev.back 1 (gs_3 rfl rfl (gf_i hS.1 qa_633 qi_61_36 rfl)) H
    have H : Ev none (e1 + 1) 200 59 [some (.ref 633), some (.int c), some (.int d), some (.int (G_195 M c (zI M 633 35))), some (.int (G_196 M c (zI M 633 35))), some (.int ((10 * (G_195 M c (zI M 633 35))) + (4 * (G_196 M c (zI M 633 35))))), some (.int (16 * (zI M 633 36))), none] [] M v M' 0 0 := Ev.back 2 (fun n => rfl) H
    have HF := H
    exact Or.inr (⟨h3, HF⟩)
theorem rwe_59 {e : Nat} {M M' : Mem} {v : Option Value} {c d x y vv k : Int32} {c7 : Option Value} (hS : SQ M) (H : Ev none e 200 59 [some (.ref 633), some (.int c), some (.int d), some (.int x), some (.int y), some (.int vv), some (.int k), c7] [] M v M' 0 0) : (((16 * (zI M 633 36)) + (rI M 639 (zI M 633 36))) ≤ k ∧ (0 ≤ (zI M 633 36).toInt ∧ (zI M 633 36).toInt < 8) ∧ v = some (.int vv) ∧ M' = M) ∨ (¬ (((16 * (zI M 633 36)) + (rI M 639 (zI M 633 36))) ≤ k) ∧ (rI M 640 k) = 5 ∧ (0 ≤ (zI M 633 36).toInt ∧ (zI M 633 36).toInt < 8) ∧ (0 ≤ k.toInt ∧ k.toInt < 128) ∧ (∃ e1 v1 M1, e = e1 + 1 ∧ Ev none e1 187 0 [some (.ref 633), some (.int k), some (.int c), none, none, none, none, none] [] M v1 M1 0 0 ∧ Ev none e 200 99 [some (.ref 633), some (.int c), some (.int d), some (.int x), some (.int y), some (.int vv), some (.int k), c7] (v1.toList ++ []) M1 v M' 0 0)) ∨ (¬ (((16 * (zI M 633 36)) + (rI M 639 (zI M 633 36))) ≤ k) ∧ ¬ ((rI M 640 k) = 5) ∧ (0 ≤ (zI M 633 36).toInt ∧ (zI M 633 36).toInt < 8) ∧ (0 ≤ k.toInt ∧ k.toInt < 128) ∧ Ev none e 200 59 [some (.ref 633), some (.int c), some (.int d), some (.int x), some (.int y), some (.int vv), some (.int (k + 1)), c7] [] M v M' 0 0) := by
  have H : Ev none e 200 64 [some (.ref 633), some (.int c), some (.int d), some (.int x), some (.int y), some (.int vv), some (.int k), c7] [.ref 633, .int 16, .int k] M v M' 0 0 := Ev.back 3 (fun n => rfl) H
  have H : Ev none e 200 67 [some (.ref 633), some (.int c), some (.int d), some (.int x), some (.int y), some (.int vv), some (.int k), c7] [.int (zI M 633 36), .int 16, .int k] M v M' 0 0 := Ev.back 1 (gs_3 rfl rfl (gf_i hS.1 qa_633 qi_61_36 rfl)) H
  have H : Ev none e 200 69 [some (.ref 633), some (.int c), some (.int d), some (.int x), some (.int y), some (.int vv), some (.int k), c7] [.ref 633, .int (16 * (zI M 633 36)), .int k] M v M' 0 0 := Ev.back 2 (fun n => rfl) H
  have H : Ev none e 200 72 [some (.ref 633), some (.int c), some (.int d), some (.int x), some (.int y), some (.int vv), some (.int k), c7] [.ref 639, .int (16 * (zI M 633 36)), .int k] M v M' 0 0 := Ev.back 1 (gs_3 rfl rfl (gf_u hS.1 qa_633 qr_61_9 qu_67 rfl)) H
  have H : Ev none e 200 73 [some (.ref 633), some (.int c), some (.int d), some (.int x), some (.int y), some (.int vv), some (.int k), c7] [.ref 633, .ref 639, .int (16 * (zI M 633 36)), .int k] M v M' 0 0 := Ev.back 1 (fun n => rfl) H
  have H : Ev none e 200 76 [some (.ref 633), some (.int c), some (.int d), some (.int x), some (.int y), some (.int vv), some (.int k), c7] [.int (zI M 633 36), .ref 639, .int (16 * (zI M 633 36)), .int k] M v M' 0 0 := Ev.back 1 (gs_3 rfl rfl (gf_i hS.1 qa_633 qi_61_36 rfl)) H
  obtain ⟨b1, H⟩ := Ev.ial rfl rfl hS.1 qa_639 qw_67 H
  have H : Ev none e 200 77 [some (.ref 633), some (.int c), some (.int d), some (.int x), some (.int y), some (.int vv), some (.int k), c7] [.int (rI M 639 (zI M 633 36)), .int (16 * (zI M 633 36)), .int k] M v M' 0 0 := H
  have H : Ev none e 200 (if ((16 * (zI M 633 36)) + (rI M 639 (zI M 633 36))) ≤ k then 159 else 81) [some (.ref 633), some (.int c), some (.int d), some (.int x), some (.int y), some (.int vv), some (.int k), c7] [] M v M' 0 0 := Ev.back 2 (fun n => rfl) H
  by_cases h2 : ((16 * (zI M 633 36)) + (rI M 639 (zI M 633 36))) ≤ k
  · rw [if_pos h2] at H
    have H : Ev none e 200 161 [some (.ref 633), some (.int c), some (.int d), some (.int x), some (.int y), some (.int vv), some (.int k), c7] [.int vv] M v M' 0 0 := Ev.back 1 (fun n => rfl) H
    obtain ⟨z1, z2⟩ := Ev.retz rfl rfl H
    exact Or.inl ⟨h2, b1, z1, z2⟩
  · rw [if_neg h2] at H
    have H : Ev none e 200 82 [some (.ref 633), some (.int c), some (.int d), some (.int x), some (.int y), some (.int vv), some (.int k), c7] [.ref 633] M v M' 0 0 := Ev.back 1 (fun n => rfl) H
    have H : Ev none e 200 85 [some (.ref 633), some (.int c), some (.int d), some (.int x), some (.int y), some (.int vv), some (.int k), c7] [.ref 640] M v M' 0 0 := Ev.back 1 (gs_3 rfl rfl (gf_u hS.1 qa_633 qr_61_10 qu_68 rfl)) H
    have H : Ev none e 200 87 [some (.ref 633), some (.int c), some (.int d), some (.int x), some (.int y), some (.int vv), some (.int k), c7] [.int k, .ref 640] M v M' 0 0 := Ev.back 1 (fun n => rfl) H
    obtain ⟨b3, H⟩ := Ev.ial rfl rfl hS.1 qa_640 qw_68 H
    have H : Ev none e 200 88 [some (.ref 633), some (.int c), some (.int d), some (.int x), some (.int y), some (.int vv), some (.int k), c7] [.int (rI M 640 k)] M v M' 0 0 := H
    have H : Ev none e 200 (if (rI M 640 k) = 5 then 92 else 153) [some (.ref 633), some (.int c), some (.int d), some (.int x), some (.int y), some (.int vv), some (.int k), c7] [] M v M' 0 0 := Ev.back 2 (fun n => rfl) H
    by_cases h4 : (rI M 640 k) = 5
    · rw [if_pos h4] at H
      have H : Ev none e 200 96 [some (.ref 633), some (.int c), some (.int d), some (.int x), some (.int y), some (.int vv), some (.int k), c7] [.int c, .int k, .ref 633] M v M' 0 0 := Ev.back 3 (fun n => rfl) H
      obtain ⟨e1, rfl⟩ := Ev.dpos rfl rfl H
      obtain ⟨vK5, MK5, K5, H⟩ := Ev.callb (fun n_ => gs_7 rfl rfl (show gCal (.invokevirtual 337) 11 (.int c :: .int k :: .ref 633 :: []) M = some (.inr (187, [some (.ref 633), some (.int k), some (.int c), none, none, none, none, none], [])) from by show @cond (Option ((List Value × Mem) ⊕ (Nat × Lo × List Value))) (true && gRecv M (.ref 633) 11 && gRoom [] && true) (some (.inr (187, [some (.ref 633), some (.int k), some (.int c), none, none, none, none, none], []))) none = _; rw [recv_s hS.1 qa_633 qo_61]; rfl)) H
      have K5 : Ev none e1 187 0 [some (.ref 633), some (.int k), some (.int c), none, none, none, none, none] [] M vK5 MK5 0 0 := K5
      have HF := H
      exact Or.inr (Or.inl ⟨h2, h4, b1, b3, ⟨e1, vK5, MK5, rfl, K5, HF⟩⟩)
    · rw [if_neg h4] at H
      have H : Ev none e 200 59 [some (.ref 633), some (.int c), some (.int d), some (.int x), some (.int y), some (.int vv), some (.int (k + 1)), c7] [] M v M' 0 0 := Ev.back 2 (fun n => rfl) H
      have HF := H
      exact Or.inr (Or.inr (⟨h2, h4, b1, b3, HF⟩))
theorem rwe_99 {e : Nat} {M M' : Mem} {v : Option Value} {c d x y vv k z : Int32} {c7 : Option Value} (hS : SQ M) (H : Ev none e 200 99 [some (.ref 633), some (.int c), some (.int d), some (.int x), some (.int y), some (.int vv), some (.int k), c7] [.int z] M v M' 0 0) : (z = 0 ∧ Ev none e 200 59 [some (.ref 633), some (.int c), some (.int d), some (.int x), some (.int y), some (.int vv), some (.int (k + 1)), c7] [] M v M' 0 0) ∨ (¬ (z = 0) ∧ (0 ≤ k.toInt ∧ k.toInt < 128) ∧ (0 ≤ k.toInt ∧ k.toInt < 128) ∧ (∃ e1 v1 M1, e = e1 + 1 ∧ Ev none e1 197 0 [some (.ref 633), some (.int c), some (.int d), some (.int (rI M 641 k))] [] M v1 M1 0 0 ∧ Ev none e 200 125 [some (.ref 633), some (.int c), some (.int d), some (.int x), some (.int y), some (.int vv), some (.int k), c7] (v1.toList ++ [.int (rI M 642 k)]) M1 v M' 0 0)) := by
  have H : Ev none e 200 (if z = 0 then 102 else 105) [some (.ref 633), some (.int c), some (.int d), some (.int x), some (.int y), some (.int vv), some (.int k), c7] [] M v M' 0 0 := Ev.back 1 (fun n => rfl) H
  by_cases h1 : z = 0
  · rw [if_pos h1] at H
    have H : Ev none e 200 59 [some (.ref 633), some (.int c), some (.int d), some (.int x), some (.int y), some (.int vv), some (.int (k + 1)), c7] [] M v M' 0 0 := Ev.back 3 (fun n => rfl) H
    have HF := H
    exact Or.inl ⟨h1, HF⟩
  · rw [if_neg h1] at H
    have H : Ev none e 200 106 [some (.ref 633), some (.int c), some (.int d), some (.int x), some (.int y), some (.int vv), some (.int k), c7] [.ref 633] M v M' 0 0 := Ev.back 1 (fun n => rfl) H
    have H : Ev none e 200 109 [some (.ref 633), some (.int c), some (.int d), some (.int x), some (.int y), some (.int vv), some (.int k), c7] [.ref 642] M v M' 0 0 := Ev.back 1 (gs_3 rfl rfl (gf_u hS.1 qa_633 qr_61_12 qu_70 rfl)) H
    have H : Ev none e 200 111 [some (.ref 633), some (.int c), some (.int d), some (.int x), some (.int y), some (.int vv), some (.int k), c7] [.int k, .ref 642] M v M' 0 0 := Ev.back 1 (fun n => rfl) H
    obtain ⟨b2, H⟩ := Ev.ial rfl rfl hS.1 qa_642 qw_70 H
    have H : Ev none e 200 112 [some (.ref 633), some (.int c), some (.int d), some (.int x), some (.int y), some (.int vv), some (.int k), c7] [.int (rI M 642 k)] M v M' 0 0 := H
    have H : Ev none e 200 116 [some (.ref 633), some (.int c), some (.int d), some (.int x), some (.int y), some (.int vv), some (.int k), c7] [.ref 633, .int d, .int c, .ref 633, .int (rI M 642 k)] M v M' 0 0 := Ev.back 4 (fun n => rfl) H
    have H : Ev none e 200 119 [some (.ref 633), some (.int c), some (.int d), some (.int x), some (.int y), some (.int vv), some (.int k), c7] [.ref 641, .int d, .int c, .ref 633, .int (rI M 642 k)] M v M' 0 0 := Ev.back 1 (gs_3 rfl rfl (gf_u hS.1 qa_633 qr_61_11 qu_69 rfl)) H
    have H : Ev none e 200 121 [some (.ref 633), some (.int c), some (.int d), some (.int x), some (.int y), some (.int vv), some (.int k), c7] [.int k, .ref 641, .int d, .int c, .ref 633, .int (rI M 642 k)] M v M' 0 0 := Ev.back 1 (fun n => rfl) H
    obtain ⟨b3, H⟩ := Ev.ial rfl rfl hS.1 qa_641 qw_69 H
    have H : Ev none e 200 122 [some (.ref 633), some (.int c), some (.int d), some (.int x), some (.int y), some (.int vv), some (.int k), c7] [.int (rI M 641 k), .int d, .int c, .ref 633, .int (rI M 642 k)] M v M' 0 0 := H
    obtain ⟨e1, rfl⟩ := Ev.dpos rfl rfl H
    obtain ⟨vK4, MK4, K4, H⟩ := Ev.callb (fun n_ => gs_7 rfl rfl (show gCal (.invokevirtual 392) 11 (.int (rI M 641 k) :: .int d :: .int c :: .ref 633 :: [.int (rI M 642 k)]) M = some (.inr (197, [some (.ref 633), some (.int c), some (.int d), some (.int (rI M 641 k))], [.int (rI M 642 k)])) from by show @cond (Option ((List Value × Mem) ⊕ (Nat × Lo × List Value))) (true && gRecv M (.ref 633) 11 && gRoom [.int (rI M 642 k)] && true) (some (.inr (197, [some (.ref 633), some (.int c), some (.int d), some (.int (rI M 641 k))], [.int (rI M 642 k)]))) none = _; rw [recv_s hS.1 qa_633 qo_61]; rfl)) H
    have K4 : Ev none e1 197 0 [some (.ref 633), some (.int c), some (.int d), some (.int (rI M 641 k))] [] M vK4 MK4 0 0 := K4
    have HF := H
    exact Or.inr (⟨h1, b2, b3, ⟨e1, vK4, MK4, rfl, K4, HF⟩⟩)
theorem rwe_125 {e : Nat} {M M' : Mem} {v : Option Value} {c d x y vv k z nu : Int32} {c7 : Option Value} (hS : SQ M) (H : Ev none e 200 125 [some (.ref 633), some (.int c), some (.int d), some (.int x), some (.int y), some (.int vv), some (.int k), c7] [.int z, .int nu] M v M' 0 0) : ((rI M 641 k) = 6 ∧ (0 ≤ k.toInt ∧ k.toInt < 128) ∧ Ev none e 200 59 [some (.ref 633), some (.int c), some (.int d), some (.int x), some (.int y), some (.int (vv + (-(nu * z)))), some (.int (k + 1)), some (.int (nu * z))] [] M v M' 0 0) ∨ (¬ ((rI M 641 k) = 6) ∧ (0 ≤ k.toInt ∧ k.toInt < 128) ∧ Ev none e 200 59 [some (.ref 633), some (.int c), some (.int d), some (.int x), some (.int y), some (.int (vv + (nu * z))), some (.int (k + 1)), some (.int (nu * z))] [] M v M' 0 0) := by
  have H : Ev none e 200 131 [some (.ref 633), some (.int c), some (.int d), some (.int x), some (.int y), some (.int vv), some (.int k), some (.int (nu * z))] [.ref 633, .int vv] M v M' 0 0 := Ev.back 4 (fun n => rfl) H
  have H : Ev none e 200 134 [some (.ref 633), some (.int c), some (.int d), some (.int x), some (.int y), some (.int vv), some (.int k), some (.int (nu * z))] [.ref 641, .int vv] M v M' 0 0 := Ev.back 1 (gs_3 rfl rfl (gf_u hS.1 qa_633 qr_61_11 qu_69 rfl)) H
  have H : Ev none e 200 136 [some (.ref 633), some (.int c), some (.int d), some (.int x), some (.int y), some (.int vv), some (.int k), some (.int (nu * z))] [.int k, .ref 641, .int vv] M v M' 0 0 := Ev.back 1 (fun n => rfl) H
  obtain ⟨b1, H⟩ := Ev.ial rfl rfl hS.1 qa_641 qw_69 H
  have H : Ev none e 200 137 [some (.ref 633), some (.int c), some (.int d), some (.int x), some (.int y), some (.int vv), some (.int k), some (.int (nu * z))] [.int (rI M 641 k), .int vv] M v M' 0 0 := H
  have H : Ev none e 200 (if (rI M 641 k) = 6 then 142 else 148) [some (.ref 633), some (.int c), some (.int d), some (.int x), some (.int y), some (.int vv), some (.int k), some (.int (nu * z))] [.int vv] M v M' 0 0 := Ev.back 2 (fun n => rfl) H
  by_cases h2 : (rI M 641 k) = 6
  · rw [if_pos h2] at H
    have H : Ev none e 200 59 [some (.ref 633), some (.int c), some (.int d), some (.int x), some (.int y), some (.int (vv + (-(nu * z)))), some (.int (k + 1)), some (.int (nu * z))] [] M v M' 0 0 := Ev.back 7 (fun n => rfl) H
    have HF := H
    exact Or.inl ⟨h2, b1, HF⟩
  · rw [if_neg h2] at H
    have H : Ev none e 200 59 [some (.ref 633), some (.int c), some (.int d), some (.int x), some (.int y), some (.int (vv + (nu * z))), some (.int (k + 1)), some (.int (nu * z))] [] M v M' 0 0 := Ev.back 5 (fun n => rfl) H
    have HF := H
    exact Or.inr (⟨h2, b1, HF⟩)
theorem rma_0 {e : Nat} {M M' : Mem} {v : Option Value} {c : Int32} (hS : SQ M) (H : Ev none e 201 0 [some (.ref 633), some (.int c), none] [] M v M' 0 0) : Ev none e 201 8 [some (.ref 633), some (.int c), some (.int (16 * (zI M 633 36)))] [] M v M' 0 0 := by
  have H : Ev none e 201 3 [some (.ref 633), some (.int c), none] [.ref 633, .int 16] M v M' 0 0 := Ev.back 2 (fun n => rfl) H
  have H : Ev none e 201 6 [some (.ref 633), some (.int c), none] [.int (zI M 633 36), .int 16] M v M' 0 0 := Ev.back 1 (gs_3 rfl rfl (gf_i hS.1 qa_633 qi_61_36 rfl)) H
  have H : Ev none e 201 8 [some (.ref 633), some (.int c), some (.int (16 * (zI M 633 36)))] [] M v M' 0 0 := Ev.back 2 (fun n => rfl) H
  have HF := H
  exact HF
theorem rma_8 {e : Nat} {M M' : Mem} {v : Option Value} {c k : Int32} (hS : SQ M) (H : Ev none e 201 8 [some (.ref 633), some (.int c), some (.int k)] [] M v M' 0 0) : (((16 * (zI M 633 36)) + (rI M 639 (zI M 633 36))) ≤ k ∧ (0 ≤ (zI M 633 36).toInt ∧ (zI M 633 36).toInt < 8) ∧ v = some (.int 0) ∧ M' = M) ∨ (¬ (((16 * (zI M 633 36)) + (rI M 639 (zI M 633 36))) ≤ k) ∧ (rI M 640 k) = 6 ∧ (0 ≤ (zI M 633 36).toInt ∧ (zI M 633 36).toInt < 8) ∧ (0 ≤ k.toInt ∧ k.toInt < 128) ∧ (∃ e1 v1 M1, e = e1 + 1 ∧ Ev none e1 187 0 [some (.ref 633), some (.int k), some (.int c), none, none, none, none, none] [] M v1 M1 0 0 ∧ Ev none e 201 46 [some (.ref 633), some (.int c), some (.int k)] (v1.toList ++ []) M1 v M' 0 0)) ∨ (¬ (((16 * (zI M 633 36)) + (rI M 639 (zI M 633 36))) ≤ k) ∧ ¬ ((rI M 640 k) = 6) ∧ (0 ≤ (zI M 633 36).toInt ∧ (zI M 633 36).toInt < 8) ∧ (0 ≤ k.toInt ∧ k.toInt < 128) ∧ Ev none e 201 8 [some (.ref 633), some (.int c), some (.int (k + 1))] [] M v M' 0 0) := by
  have H : Ev none e 201 12 [some (.ref 633), some (.int c), some (.int k)] [.ref 633, .int 16, .int k] M v M' 0 0 := Ev.back 3 (fun n => rfl) H
  have H : Ev none e 201 15 [some (.ref 633), some (.int c), some (.int k)] [.int (zI M 633 36), .int 16, .int k] M v M' 0 0 := Ev.back 1 (gs_3 rfl rfl (gf_i hS.1 qa_633 qi_61_36 rfl)) H
  have H : Ev none e 201 17 [some (.ref 633), some (.int c), some (.int k)] [.ref 633, .int (16 * (zI M 633 36)), .int k] M v M' 0 0 := Ev.back 2 (fun n => rfl) H
  have H : Ev none e 201 20 [some (.ref 633), some (.int c), some (.int k)] [.ref 639, .int (16 * (zI M 633 36)), .int k] M v M' 0 0 := Ev.back 1 (gs_3 rfl rfl (gf_u hS.1 qa_633 qr_61_9 qu_67 rfl)) H
  have H : Ev none e 201 21 [some (.ref 633), some (.int c), some (.int k)] [.ref 633, .ref 639, .int (16 * (zI M 633 36)), .int k] M v M' 0 0 := Ev.back 1 (fun n => rfl) H
  have H : Ev none e 201 24 [some (.ref 633), some (.int c), some (.int k)] [.int (zI M 633 36), .ref 639, .int (16 * (zI M 633 36)), .int k] M v M' 0 0 := Ev.back 1 (gs_3 rfl rfl (gf_i hS.1 qa_633 qi_61_36 rfl)) H
  obtain ⟨b1, H⟩ := Ev.ial rfl rfl hS.1 qa_639 qw_67 H
  have H : Ev none e 201 25 [some (.ref 633), some (.int c), some (.int k)] [.int (rI M 639 (zI M 633 36)), .int (16 * (zI M 633 36)), .int k] M v M' 0 0 := H
  have H : Ev none e 201 (if ((16 * (zI M 633 36)) + (rI M 639 (zI M 633 36))) ≤ k then 57 else 29) [some (.ref 633), some (.int c), some (.int k)] [] M v M' 0 0 := Ev.back 2 (fun n => rfl) H
  by_cases h2 : ((16 * (zI M 633 36)) + (rI M 639 (zI M 633 36))) ≤ k
  · rw [if_pos h2] at H
    have H : Ev none e 201 58 [some (.ref 633), some (.int c), some (.int k)] [.int 0] M v M' 0 0 := Ev.back 1 (fun n => rfl) H
    obtain ⟨z1, z2⟩ := Ev.retz rfl rfl H
    exact Or.inl ⟨h2, b1, z1, z2⟩
  · rw [if_neg h2] at H
    have H : Ev none e 201 30 [some (.ref 633), some (.int c), some (.int k)] [.ref 633] M v M' 0 0 := Ev.back 1 (fun n => rfl) H
    have H : Ev none e 201 33 [some (.ref 633), some (.int c), some (.int k)] [.ref 640] M v M' 0 0 := Ev.back 1 (gs_3 rfl rfl (gf_u hS.1 qa_633 qr_61_10 qu_68 rfl)) H
    have H : Ev none e 201 34 [some (.ref 633), some (.int c), some (.int k)] [.int k, .ref 640] M v M' 0 0 := Ev.back 1 (fun n => rfl) H
    obtain ⟨b3, H⟩ := Ev.ial rfl rfl hS.1 qa_640 qw_68 H
    have H : Ev none e 201 35 [some (.ref 633), some (.int c), some (.int k)] [.int (rI M 640 k)] M v M' 0 0 := H
    have H : Ev none e 201 (if (rI M 640 k) = 6 then 40 else 51) [some (.ref 633), some (.int c), some (.int k)] [] M v M' 0 0 := Ev.back 2 (fun n => rfl) H
    by_cases h4 : (rI M 640 k) = 6
    · rw [if_pos h4] at H
      have H : Ev none e 201 43 [some (.ref 633), some (.int c), some (.int k)] [.int c, .int k, .ref 633] M v M' 0 0 := Ev.back 3 (fun n => rfl) H
      obtain ⟨e1, rfl⟩ := Ev.dpos rfl rfl H
      obtain ⟨vK5, MK5, K5, H⟩ := Ev.callb (fun n_ => gs_7 rfl rfl (show gCal (.invokevirtual 337) 11 (.int c :: .int k :: .ref 633 :: []) M = some (.inr (187, [some (.ref 633), some (.int k), some (.int c), none, none, none, none, none], [])) from by show @cond (Option ((List Value × Mem) ⊕ (Nat × Lo × List Value))) (true && gRecv M (.ref 633) 11 && gRoom [] && true) (some (.inr (187, [some (.ref 633), some (.int k), some (.int c), none, none, none, none, none], []))) none = _; rw [recv_s hS.1 qa_633 qo_61]; rfl)) H
      have K5 : Ev none e1 187 0 [some (.ref 633), some (.int k), some (.int c), none, none, none, none, none] [] M vK5 MK5 0 0 := K5
      have HF := H
      exact Or.inr (Or.inl ⟨h2, h4, b1, b3, ⟨e1, vK5, MK5, rfl, K5, HF⟩⟩)
    · rw [if_neg h4] at H
      have H : Ev none e 201 8 [some (.ref 633), some (.int c), some (.int (k + 1))] [] M v M' 0 0 := Ev.back 2 (fun n => rfl) H
      have HF := H
      exact Or.inr (Or.inr (⟨h2, h4, b1, b3, HF⟩))
theorem rma_46 {e : Nat} {M M' : Mem} {v : Option Value} {c k y : Int32} (hS : SQ M) (H : Ev none e 201 46 [some (.ref 633), some (.int c), some (.int k)] [.int y] M v M' 0 0) : (y = 0 ∧ Ev none e 201 8 [some (.ref 633), some (.int c), some (.int (k + 1))] [] M v M' 0 0) ∨ (¬ (y = 0) ∧ v = some (.int 1) ∧ M' = M) := by
  have H : Ev none e 201 (if y = 0 then 51 else 49) [some (.ref 633), some (.int c), some (.int k)] [] M v M' 0 0 := Ev.back 1 (fun n => rfl) H
  by_cases h1 : y = 0
  · rw [if_pos h1] at H
    have H : Ev none e 201 8 [some (.ref 633), some (.int c), some (.int (k + 1))] [] M v M' 0 0 := Ev.back 2 (fun n => rfl) H
    have HF := H
    exact Or.inl ⟨h1, HF⟩
  · rw [if_neg h1] at H
    have H : Ev none e 201 50 [some (.ref 633), some (.int c), some (.int k)] [.int 1] M v M' 0 0 := Ev.back 1 (fun n => rfl) H
    obtain ⟨z1, z2⟩ := Ev.retz rfl rfl H
    exact Or.inr (⟨h1, z1, z2⟩)
theorem rch_0 {e : Nat} {M M' : Mem} {v : Option Value} (hS : SQ M) (H : Ev none e 202 0 [some (.ref 633), none, none, none, none, none] [] M v M' 0 0) : (2 ≤ (G_195 M (zI M 633 34) (zI M 633 35)) ∧ Ev none e 202 70 [some (.ref 633), some (.int (-1)), some (.int 0), some (.int 0), none, none] [] M v M' 0 0) ∨ (¬ (2 ≤ (G_195 M (zI M 633 34) (zI M 633 35))) ∧ 2 ≤ (G_196 M (zI M 633 34) (zI M 633 35)) ∧ Ev none e 202 70 [some (.ref 633), some (.int (-1)), some (.int 0), some (.int 0), none, none] [] M v M' 0 0) ∨ (¬ (2 ≤ (G_195 M (zI M 633 34) (zI M 633 35))) ∧ ¬ (2 ≤ (G_196 M (zI M 633 34) (zI M 633 35))) ∧ Ev none e 202 34 [some (.ref 633), some (.int 0), none, none, none, none] [] M v M' 0 0) := by
  have H : Ev none e 202 2 [some (.ref 633), none, none, none, none, none] [.ref 633, .ref 633] M v M' 0 0 := Ev.back 2 (fun n => rfl) H
  have H : Ev none e 202 5 [some (.ref 633), none, none, none, none, none] [.int (zI M 633 34), .ref 633] M v M' 0 0 := Ev.back 1 (gs_3 rfl rfl (gf_i hS.1 qa_633 qi_61_34 rfl)) H
  have H : Ev none e 202 6 [some (.ref 633), none, none, none, none, none] [.ref 633, .int (zI M 633 34), .ref 633] M v M' 0 0 := Ev.back 1 (fun n => rfl) H
  have H : Ev none e 202 9 [some (.ref 633), none, none, none, none, none] [.int (zI M 633 35), .int (zI M 633 34), .ref 633] M v M' 0 0 := Ev.back 1 (gs_3 rfl rfl (gf_i hS.1 qa_633 qi_61_35 rfl)) H
  obtain ⟨e1, rfl⟩ := Ev.dpos rfl rfl H
  obtain ⟨vK1, MK1, K1, H⟩ := Ev.callb (fun n_ => gs_7 rfl rfl (show gCal (.invokevirtual 386) 11 (.int (zI M 633 35) :: .int (zI M 633 34) :: .ref 633 :: []) M = some (.inr (195, [some (.ref 633), some (.int (zI M 633 34)), some (.int (zI M 633 35))], [])) from by show @cond (Option ((List Value × Mem) ⊕ (Nat × Lo × List Value))) (true && gRecv M (.ref 633) 11 && gRoom [] && true) (some (.inr (195, [some (.ref 633), some (.int (zI M 633 34)), some (.int (zI M 633 35))], []))) none = _; rw [recv_s hS.1 qa_633 qo_61]; rfl)) H
  obtain ⟨pK1, qK1⟩ := g_195 hS K1
  rw [pK1, qK1] at H
  have H : Ev none (e1 + 1) 202 12 [some (.ref 633), none, none, none, none, none] [.int (G_195 M (zI M 633 34) (zI M 633 35))] M v M' 0 0 := H
  have H : Ev none (e1 + 1) 202 (if 2 ≤ (G_195 M (zI M 633 34) (zI M 633 35)) then 64 else 16) [some (.ref 633), none, none, none, none, none] [] M v M' 0 0 := Ev.back 2 (fun n => rfl) H
  by_cases h2 : 2 ≤ (G_195 M (zI M 633 34) (zI M 633 35))
  · rw [if_pos h2] at H
    have H : Ev none (e1 + 1) 202 70 [some (.ref 633), some (.int (-1)), some (.int 0), some (.int 0), none, none] [] M v M' 0 0 := Ev.back 6 (fun n => rfl) H
    have HF := H
    exact Or.inl ⟨h2, HF⟩
  · rw [if_neg h2] at H
    have H : Ev none (e1 + 1) 202 18 [some (.ref 633), none, none, none, none, none] [.ref 633, .ref 633] M v M' 0 0 := Ev.back 2 (fun n => rfl) H
    have H : Ev none (e1 + 1) 202 21 [some (.ref 633), none, none, none, none, none] [.int (zI M 633 34), .ref 633] M v M' 0 0 := Ev.back 1 (gs_3 rfl rfl (gf_i hS.1 qa_633 qi_61_34 rfl)) H
    have H : Ev none (e1 + 1) 202 22 [some (.ref 633), none, none, none, none, none] [.ref 633, .int (zI M 633 34), .ref 633] M v M' 0 0 := Ev.back 1 (fun n => rfl) H
    have H : Ev none (e1 + 1) 202 25 [some (.ref 633), none, none, none, none, none] [.int (zI M 633 35), .int (zI M 633 34), .ref 633] M v M' 0 0 := Ev.back 1 (gs_3 rfl rfl (gf_i hS.1 qa_633 qi_61_35 rfl)) H
    obtain ⟨vK3, MK3, K3, H⟩ := Ev.callb (fun n_ => gs_7 rfl rfl (show gCal (.invokevirtual 389) 11 (.int (zI M 633 35) :: .int (zI M 633 34) :: .ref 633 :: []) M = some (.inr (196, [some (.ref 633), some (.int (zI M 633 34)), some (.int (zI M 633 35))], [])) from by show @cond (Option ((List Value × Mem) ⊕ (Nat × Lo × List Value))) (true && gRecv M (.ref 633) 11 && gRoom [] && true) (some (.inr (196, [some (.ref 633), some (.int (zI M 633 34)), some (.int (zI M 633 35))], []))) none = _; rw [recv_s hS.1 qa_633 qo_61]; rfl)) H
    obtain ⟨pK3, qK3⟩ := g_196 hS K3
    rw [pK3, qK3] at H
    have H : Ev none (e1 + 1) 202 28 [some (.ref 633), none, none, none, none, none] [.int (G_196 M (zI M 633 34) (zI M 633 35))] M v M' 0 0 := H
    have H : Ev none (e1 + 1) 202 (if 2 ≤ (G_196 M (zI M 633 34) (zI M 633 35)) then 64 else 32) [some (.ref 633), none, none, none, none, none] [] M v M' 0 0 := Ev.back 2 (fun n => rfl) H
    by_cases h4 : 2 ≤ (G_196 M (zI M 633 34) (zI M 633 35))
    · rw [if_pos h4] at H
      have H : Ev none (e1 + 1) 202 70 [some (.ref 633), some (.int (-1)), some (.int 0), some (.int 0), none, none] [] M v M' 0 0 := Ev.back 6 (fun n => rfl) H
      have HF := H
      exact Or.inr (Or.inl ⟨h2, h4, HF⟩)
    · rw [if_neg h4] at H
      have H : Ev none (e1 + 1) 202 34 [some (.ref 633), some (.int 0), none, none, none, none] [] M v M' 0 0 := Ev.back 2 (fun n => rfl) H
      have HF := H
      exact Or.inr (Or.inr (⟨h2, h4, HF⟩))
theorem rch_34 {e : Nat} {M M' : Mem} {v : Option Value} {d : Int32} (hS : SQ M) (H : Ev none e 202 34 [some (.ref 633), some (.int d), none, none, none, none] [] M v M' 0 0) : (8 ≤ d ∧ Ev none e 202 70 [some (.ref 633), some (.int (-1)), some (.int 0), some (.int 0), none, none] [] M v M' 0 0) ∨ (¬ (8 ≤ d) ∧ (G_194 M (zI M 633 34) d) = (zI M 633 35) ∧ v = some (.int d) ∧ M' = M) ∨ (¬ (8 ≤ d) ∧ ¬ ((G_194 M (zI M 633 34) d) = (zI M 633 35)) ∧ Ev none e 202 34 [some (.ref 633), some (.int (d + 1)), none, none, none, none] [] M v M' 0 0) := by
  have H : Ev none e 202 (if 8 ≤ d then 64 else 40) [some (.ref 633), some (.int d), none, none, none, none] [] M v M' 0 0 := Ev.back 3 (fun n => rfl) H
  by_cases h1 : 8 ≤ d
  · rw [if_pos h1] at H
    have H : Ev none e 202 70 [some (.ref 633), some (.int (-1)), some (.int 0), some (.int 0), none, none] [] M v M' 0 0 := Ev.back 6 (fun n => rfl) H
    have HF := H
    exact Or.inl ⟨h1, HF⟩
  · rw [if_neg h1] at H
    have H : Ev none e 202 42 [some (.ref 633), some (.int d), none, none, none, none] [.ref 633, .ref 633] M v M' 0 0 := Ev.back 2 (fun n => rfl) H
    have H : Ev none e 202 45 [some (.ref 633), some (.int d), none, none, none, none] [.int (zI M 633 34), .ref 633] M v M' 0 0 := Ev.back 1 (gs_3 rfl rfl (gf_i hS.1 qa_633 qi_61_34 rfl)) H
    have H : Ev none e 202 46 [some (.ref 633), some (.int d), none, none, none, none] [.int d, .int (zI M 633 34), .ref 633] M v M' 0 0 := Ev.back 1 (fun n => rfl) H
    obtain ⟨e1, rfl⟩ := Ev.dpos rfl rfl H
    obtain ⟨vK2, MK2, K2, H⟩ := Ev.callb (fun n_ => gs_7 rfl rfl (show gCal (.invokevirtual 380) 11 (.int d :: .int (zI M 633 34) :: .ref 633 :: []) M = some (.inr (194, [some (.ref 633), some (.int (zI M 633 34)), some (.int d), none, none], [])) from by show @cond (Option ((List Value × Mem) ⊕ (Nat × Lo × List Value))) (true && gRecv M (.ref 633) 11 && gRoom [] && true) (some (.inr (194, [some (.ref 633), some (.int (zI M 633 34)), some (.int d), none, none], []))) none = _; rw [recv_s hS.1 qa_633 qo_61]; rfl)) H
    obtain ⟨pK2, qK2⟩ := g_194 hS K2
    rw [pK2, qK2] at H
    have H : Ev none (e1 + 1) 202 49 [some (.ref 633), some (.int d), none, none, none, none] [.int (G_194 M (zI M 633 34) d)] M v M' 0 0 := H
    have H : Ev none (e1 + 1) 202 50 [some (.ref 633), some (.int d), none, none, none, none] [.ref 633, .int (G_194 M (zI M 633 34) d)] M v M' 0 0 := Ev.back 1 (fun n => rfl) H
    have H : Ev none (e1 + 1) 202 53 [some (.ref 633), some (.int d), none, none, none, none] [.int (zI M 633 35), .int (G_194 M (zI M 633 34) d)] M v M' 0 0 := Ev.back 1 (gs_3 rfl rfl (gf_i hS.1 qa_633 qi_61_35 rfl)) H
    have H : Ev none (e1 + 1) 202 (if (G_194 M (zI M 633 34) d) = (zI M 633 35) then 56 else 58) [some (.ref 633), some (.int d), none, none, none, none] [] M v M' 0 0 := Ev.back 1 (fun n => rfl) H
    by_cases h3 : (G_194 M (zI M 633 34) d) = (zI M 633 35)
    · rw [if_pos h3] at H
      have H : Ev none (e1 + 1) 202 57 [some (.ref 633), some (.int d), none, none, none, none] [.int d] M v M' 0 0 := Ev.back 1 (fun n => rfl) H
      obtain ⟨z1, z2⟩ := Ev.retz rfl rfl H
      exact Or.inr (Or.inl ⟨h1, h3, z1, z2⟩)
    · rw [if_neg h3] at H
      have H : Ev none (e1 + 1) 202 34 [some (.ref 633), some (.int (d + 1)), none, none, none, none] [] M v M' 0 0 := Ev.back 2 (fun n => rfl) H
      have HF := H
      exact Or.inr (Or.inr (⟨h1, h3, HF⟩))
theorem rch_70 {e : Nat} {M M' : Mem} {v : Option Value} {be le d : Int32} {c4 c5 : Option Value} (hS : SQ M) (H : Ev none e 202 70 [some (.ref 633), some (.int be), some (.int le), some (.int d), c4, c5] [] M v M' 0 0) : (8 ≤ d ∧ v = some (.int be) ∧ M' = M) ∨ (¬ (8 ≤ d) ∧ (G_194 M (zI M 633 34) d) < 0 ∧ Ev none e 202 70 [some (.ref 633), some (.int be), some (.int le), some (.int (d + 1)), some (.int (G_194 M (zI M 633 34) d)), c5] [] M v M' 0 0) ∨ (¬ (8 ≤ d) ∧ ¬ ((G_194 M (zI M 633 34) d) < 0) ∧ (G_148 M (G_194 M (zI M 633 34) d)) = 0 ∧ Ev none e 202 70 [some (.ref 633), some (.int be), some (.int le), some (.int (d + 1)), some (.int (G_194 M (zI M 633 34) d)), c5] [] M v M' 0 0) ∨ (¬ (8 ≤ d) ∧ ¬ ((G_194 M (zI M 633 34) d) < 0) ∧ ¬ ((G_148 M (G_194 M (zI M 633 34) d)) = 0) ∧ (∃ e1 v1 M1, e = e1 + 1 ∧ Ev none e1 201 0 [some (.ref 633), some (.int (G_194 M (zI M 633 34) d)), none] [] M v1 M1 0 0 ∧ Ev none e 202 107 [some (.ref 633), some (.int be), some (.int le), some (.int d), some (.int (G_194 M (zI M 633 34) d)), c5] (v1.toList ++ []) M1 v M' 0 0)) := by
  have H : Ev none e 202 (if 8 ≤ d then 146 else 76) [some (.ref 633), some (.int be), some (.int le), some (.int d), c4, c5] [] M v M' 0 0 := Ev.back 3 (fun n => rfl) H
  by_cases h1 : 8 ≤ d
  · rw [if_pos h1] at H
    have H : Ev none e 202 147 [some (.ref 633), some (.int be), some (.int le), some (.int d), c4, c5] [.int be] M v M' 0 0 := Ev.back 1 (fun n => rfl) H
    obtain ⟨z1, z2⟩ := Ev.retz rfl rfl H
    exact Or.inl ⟨h1, z1, z2⟩
  · rw [if_neg h1] at H
    have H : Ev none e 202 78 [some (.ref 633), some (.int be), some (.int le), some (.int d), c4, c5] [.ref 633, .ref 633] M v M' 0 0 := Ev.back 2 (fun n => rfl) H
    have H : Ev none e 202 81 [some (.ref 633), some (.int be), some (.int le), some (.int d), c4, c5] [.int (zI M 633 34), .ref 633] M v M' 0 0 := Ev.back 1 (gs_3 rfl rfl (gf_i hS.1 qa_633 qi_61_34 rfl)) H
    have H : Ev none e 202 82 [some (.ref 633), some (.int be), some (.int le), some (.int d), c4, c5] [.int d, .int (zI M 633 34), .ref 633] M v M' 0 0 := Ev.back 1 (fun n => rfl) H
    obtain ⟨e1, rfl⟩ := Ev.dpos rfl rfl H
    obtain ⟨vK2, MK2, K2, H⟩ := Ev.callb (fun n_ => gs_7 rfl rfl (show gCal (.invokevirtual 380) 11 (.int d :: .int (zI M 633 34) :: .ref 633 :: []) M = some (.inr (194, [some (.ref 633), some (.int (zI M 633 34)), some (.int d), none, none], [])) from by show @cond (Option ((List Value × Mem) ⊕ (Nat × Lo × List Value))) (true && gRecv M (.ref 633) 11 && gRoom [] && true) (some (.inr (194, [some (.ref 633), some (.int (zI M 633 34)), some (.int d), none, none], []))) none = _; rw [recv_s hS.1 qa_633 qo_61]; rfl)) H
    obtain ⟨pK2, qK2⟩ := g_194 hS K2
    rw [pK2, qK2] at H
    have H : Ev none (e1 + 1) 202 85 [some (.ref 633), some (.int be), some (.int le), some (.int d), c4, c5] [.int (G_194 M (zI M 633 34) d)] M v M' 0 0 := H
    have H : Ev none (e1 + 1) 202 (if (G_194 M (zI M 633 34) d) < 0 then 140 else 92) [some (.ref 633), some (.int be), some (.int le), some (.int d), some (.int (G_194 M (zI M 633 34) d)), c5] [] M v M' 0 0 := Ev.back 3 (fun n => rfl) H
    by_cases h3 : (G_194 M (zI M 633 34) d) < 0
    · rw [if_pos h3] at H
      have H : Ev none (e1 + 1) 202 70 [some (.ref 633), some (.int be), some (.int le), some (.int (d + 1)), some (.int (G_194 M (zI M 633 34) d)), c5] [] M v M' 0 0 := Ev.back 2 (fun n => rfl) H
      have HF := H
      exact Or.inr (Or.inl ⟨h1, h3, HF⟩)
    · rw [if_neg h3] at H
      have H : Ev none (e1 + 1) 202 95 [some (.ref 633), some (.int be), some (.int le), some (.int d), some (.int (G_194 M (zI M 633 34) d)), c5] [.int (G_194 M (zI M 633 34) d), .ref 633] M v M' 0 0 := Ev.back 2 (fun n => rfl) H
      obtain ⟨vK4, MK4, K4, H⟩ := Ev.callb (fun n_ => gs_7 rfl rfl (show gCal (.invokevirtual 158) 11 (.int (G_194 M (zI M 633 34) d) :: .ref 633 :: []) M = some (.inr (148, [some (.ref 633), some (.int (G_194 M (zI M 633 34) d))], [])) from by show @cond (Option ((List Value × Mem) ⊕ (Nat × Lo × List Value))) (true && gRecv M (.ref 633) 11 && gRoom [] && true) (some (.inr (148, [some (.ref 633), some (.int (G_194 M (zI M 633 34) d))], []))) none = _; rw [recv_s hS.1 qa_633 qo_61]; rfl)) H
      obtain ⟨pK4, qK4⟩ := g_148 hS K4
      rw [pK4, qK4] at H
      have H : Ev none (e1 + 1) 202 98 [some (.ref 633), some (.int be), some (.int le), some (.int d), some (.int (G_194 M (zI M 633 34) d)), c5] [.int (G_148 M (G_194 M (zI M 633 34) d))] M v M' 0 0 := H
      have H : Ev none (e1 + 1) 202 (if (G_148 M (G_194 M (zI M 633 34) d)) = 0 then 140 else 101) [some (.ref 633), some (.int be), some (.int le), some (.int d), some (.int (G_194 M (zI M 633 34) d)), c5] [] M v M' 0 0 := Ev.back 1 (fun n => rfl) H
      by_cases h5 : (G_148 M (G_194 M (zI M 633 34) d)) = 0
      · rw [if_pos h5] at H
        have H : Ev none (e1 + 1) 202 70 [some (.ref 633), some (.int be), some (.int le), some (.int (d + 1)), some (.int (G_194 M (zI M 633 34) d)), c5] [] M v M' 0 0 := Ev.back 2 (fun n => rfl) H
        have HF := H
        exact Or.inr (Or.inr (Or.inl ⟨h1, h3, h5, HF⟩))
      · rw [if_neg h5] at H
        have H : Ev none (e1 + 1) 202 104 [some (.ref 633), some (.int be), some (.int le), some (.int d), some (.int (G_194 M (zI M 633 34) d)), c5] [.int (G_194 M (zI M 633 34) d), .ref 633] M v M' 0 0 := Ev.back 2 (fun n => rfl) H
        obtain ⟨vK6, MK6, K6, H⟩ := Ev.callb (fun n_ => gs_7 rfl rfl (show gCal (.invokevirtual 396) 11 (.int (G_194 M (zI M 633 34) d) :: .ref 633 :: []) M = some (.inr (201, [some (.ref 633), some (.int (G_194 M (zI M 633 34) d)), none], [])) from by show @cond (Option ((List Value × Mem) ⊕ (Nat × Lo × List Value))) (true && gRecv M (.ref 633) 11 && gRoom [] && true) (some (.inr (201, [some (.ref 633), some (.int (G_194 M (zI M 633 34) d)), none], []))) none = _; rw [recv_s hS.1 qa_633 qo_61]; rfl)) H
        have K6 : Ev none e1 201 0 [some (.ref 633), some (.int (G_194 M (zI M 633 34) d)), none] [] M vK6 MK6 0 0 := K6
        have HF := H
        exact Or.inr (Or.inr (Or.inr (⟨h1, h3, h5, ⟨e1, vK6, MK6, rfl, K6, HF⟩⟩)))
theorem rch_107 {e : Nat} {M M' : Mem} {v : Option Value} {be le d c y : Int32} {c5 : Option Value} (hS : SQ M) (H : Ev none e 202 107 [some (.ref 633), some (.int be), some (.int le), some (.int d), some (.int c), c5] [.int y] M v M' 0 0) : (y = 0 ∧ (∃ e1 v1 M1, e = e1 + 1 ∧ Ev none e1 200 0 [some (.ref 633), some (.int c), some (.int d), none, none, none, none, none] [] M v1 M1 0 0 ∧ Ev none e 202 120 [some (.ref 633), some (.int be), some (.int le), some (.int d), some (.int c), c5] (v1.toList ++ []) M1 v M' 0 0)) ∨ (¬ (y = 0) ∧ Ev none e 202 70 [some (.ref 633), some (.int be), some (.int le), some (.int (d + 1)), some (.int c), c5] [] M v M' 0 0) := by
  have H : Ev none e 202 (if y = 0 then 113 else 110) [some (.ref 633), some (.int be), some (.int le), some (.int d), some (.int c), c5] [] M v M' 0 0 := Ev.back 1 (fun n => rfl) H
  by_cases h1 : y = 0
  · rw [if_pos h1] at H
    have H : Ev none e 202 117 [some (.ref 633), some (.int be), some (.int le), some (.int d), some (.int c), c5] [.int d, .int c, .ref 633] M v M' 0 0 := Ev.back 3 (fun n => rfl) H
    obtain ⟨e1, rfl⟩ := Ev.dpos rfl rfl H
    obtain ⟨vK2, MK2, K2, H⟩ := Ev.callb (fun n_ => gs_7 rfl rfl (show gCal (.invokevirtual 399) 11 (.int d :: .int c :: .ref 633 :: []) M = some (.inr (200, [some (.ref 633), some (.int c), some (.int d), none, none, none, none, none], [])) from by show @cond (Option ((List Value × Mem) ⊕ (Nat × Lo × List Value))) (true && gRecv M (.ref 633) 11 && gRoom [] && true) (some (.inr (200, [some (.ref 633), some (.int c), some (.int d), none, none, none, none, none], []))) none = _; rw [recv_s hS.1 qa_633 qo_61]; rfl)) H
    have K2 : Ev none e1 200 0 [some (.ref 633), some (.int c), some (.int d), none, none, none, none, none] [] M vK2 MK2 0 0 := K2
    have HF := H
    exact Or.inl ⟨h1, ⟨e1, vK2, MK2, rfl, K2, HF⟩⟩
  · rw [if_neg h1] at H
    have H : Ev none e 202 70 [some (.ref 633), some (.int be), some (.int le), some (.int (d + 1)), some (.int c), c5] [] M v M' 0 0 := Ev.back 3 (fun n => rfl) H
    have HF := H
    exact Or.inr (⟨h1, HF⟩)
theorem rch_120 {e : Nat} {M M' : Mem} {v : Option Value} {be le d c y : Int32} {c5 : Option Value} (hS : SQ M) (H : Ev none e 202 120 [some (.ref 633), some (.int be), some (.int le), some (.int d), some (.int c), c5] [.int y] M v M' 0 0) : (be < 0 ∧ Ev none e 202 70 [some (.ref 633), some (.int d), some (.int y), some (.int (d + 1)), some (.int c), some (.int y)] [] M v M' 0 0) ∨ (¬ (be < 0) ∧ y < le ∧ Ev none e 202 70 [some (.ref 633), some (.int d), some (.int y), some (.int (d + 1)), some (.int c), some (.int y)] [] M v M' 0 0) ∨ (¬ (be < 0) ∧ ¬ (y < le) ∧ Ev none e 202 70 [some (.ref 633), some (.int be), some (.int le), some (.int (d + 1)), some (.int c), some (.int y)] [] M v M' 0 0) := by
  have H : Ev none e 202 (if be < 0 then 135 else 126) [some (.ref 633), some (.int be), some (.int le), some (.int d), some (.int c), some (.int y)] [] M v M' 0 0 := Ev.back 3 (fun n => rfl) H
  by_cases h1 : be < 0
  · rw [if_pos h1] at H
    have H : Ev none e 202 70 [some (.ref 633), some (.int d), some (.int y), some (.int (d + 1)), some (.int c), some (.int y)] [] M v M' 0 0 := Ev.back 6 (fun n => rfl) H
    have HF := H
    exact Or.inl ⟨h1, HF⟩
  · rw [if_neg h1] at H
    have H : Ev none e 202 (if y < le then 135 else 132) [some (.ref 633), some (.int be), some (.int le), some (.int d), some (.int c), some (.int y)] [] M v M' 0 0 := Ev.back 3 (fun n => rfl) H
    by_cases h2 : y < le
    · rw [if_pos h2] at H
      have H : Ev none e 202 70 [some (.ref 633), some (.int d), some (.int y), some (.int (d + 1)), some (.int c), some (.int y)] [] M v M' 0 0 := Ev.back 6 (fun n => rfl) H
      have HF := H
      exact Or.inr (Or.inl ⟨h1, h2, HF⟩)
    · rw [if_neg h2] at H
      have H : Ev none e 202 70 [some (.ref 633), some (.int be), some (.int le), some (.int (d + 1)), some (.int c), some (.int y)] [] M v M' 0 0 := Ev.back 3 (fun n => rfl) H
      have HF := H
      exact Or.inr (Or.inr (⟨h1, h2, HF⟩))
