/-! THE CLASS'S park, image, restore -/
def parT (a b z : Int32) (o : Nat → Int32) : Prop := inX a 4 16 ∧ inX b 4 16 ∧ z = a * b ∧ ∀ k, k < a.toInt.toNat * b.toInt.toNat → ¬ byI (o k) 0 = 7
section CPAR
variable {e B L : Nat} {T : TS} {P P' Q : PK} {PI : Nat → PK} {M M1 M' : Mem} {v : Option Value} {c k d x a b t y : Int32} {n i j : Nat}
theorem ttp_l (hS : SQ M) (hn : (zI M 1 1).toInt = (n : Int)) (hb : ∀ k, k < n → 0 ≤ (rN M 2 k).toInt ∧ (rN M 2 k).toInt < 256) : ∀ (r k : Nat) (kz : Int32), kz.toInt = (k : Int) → k + r = n → (∀ i, i < k → ¬ byI (rN M 2 i) 0 = 7) → Ev none e 83 37 [some (.ref 0), some (.int a), some (.int b), some (.int kz)] [] M v M' 0 0 → M' = M ∧ ((v = some (.int 1) ∧ ∀ i, i < n → ¬ byI (rN M 2 i) 0 = 7) ∨ (v = some (.int 0) ∧ ∃ i, i < n ∧ byI (rN M 2 i) 0 = 7)) := by
  have t6 : (6 : Int32).toInt = 6 := rfl
  have t7 : (7 : Int32).toInt = 7 := rfl
  intro r
  induction r with
  | zero =>
    intro k kz hk hkr hg H
    rcases ttp_37 hS H with ⟨_, r1, r2⟩ | ⟨a1, _⟩ | ⟨a1, _⟩
    · exact ⟨r2, Or.inl ⟨r1, fun i hi => hg i (by omega)⟩⟩
    all_goals exact absurd (Int32.le_iff_toInt_le.mpr (by omega)) a1
  | succ r ih =>
    intro k kz hk hkr hg H
    have hbk := hb k (by omega)
    have hbb := (by_bits hbk).1
    have hbr := (by_rng hbk).1
    have er : rI M 2 kz = rN M 2 k := rI_n hk
    have hz := (i32_lt (zI M 1 1)).2
    rcases ttp_37 hS H with ⟨a1, _⟩ | ⟨_, a2, _, H⟩ | ⟨_, a2, _, r1, r2⟩
    · have := Int32.le_iff_toInt_le.mp a1
      omega
    · rw [er, hbb] at a2
      have a2 := Int32.le_iff_toInt_le.mp a2
      refine ih (k + 1) (kz + 1) (by rw [i32_p1 (by omega)]; omega) (by omega) (fun i hi => ?_) H
      by_cases hik : i = k
      · rw [hik]
        intro q
        rw [q] at a2
        omega
      · exact hg i (by omega)
    · rw [er, hbb] at a2
      have a2' : ¬ (byI (rN M 2 k) 0).toInt ≤ (6 : Int32).toInt := fun s => a2 (Int32.le_iff_toInt_le.mpr s)
      exact ⟨r2, Or.inr ⟨r1, k, by omega, Int32.toInt_inj.mp (by omega)⟩⟩
theorem ttp_ok (hS : SQ M) (hb : ∀ k, k < (zI M 1 1).toInt.toNat → 0 ≤ (rN M 2 k).toInt ∧ (rN M 2 k).toInt < 256) (H : Ev none e 83 0 [some (.ref 0), some (.int a), some (.int b), none] [] M v M' 0 0) : M' = M ∧ ((parT a b (zI M 1 1) (rN M 2) ∧ v = some (.int 1)) ∨ (¬ parT a b (zI M 1 1) (rN M 2) ∧ v = some (.int 0))) := by
  have t4 : (4 : Int32).toInt = 4 := rfl
  have t16 : (16 : Int32).toInt = 16 := rfl
  unfold parT
  rcases ttp_0 hS H with ⟨a1, r1, r2⟩ | ⟨_, a1, r1, r2⟩ | ⟨a1, a2, a3, H⟩ | ⟨a1, a2, a3, r1, r2⟩
  · rw [g126_R] at a1
    exact ⟨r2, Or.inr ⟨fun q => a1 q.1, r1⟩⟩
  · rw [g126_R] at a1
    exact ⟨r2, Or.inr ⟨fun q => a1 q.2.1, r1⟩⟩
  · rw [g126_R, Classical.not_not] at a1 a2
    have w1 : 4 ≤ a.toInt ∧ a.toInt ≤ 16 := by unfold inX at a1; omega
    have w2 : 4 ≤ b.toInt ∧ b.toInt ≤ 16 := by unfold inX at a2; omega
    obtain ⟨c1, c2, _⟩ := cls_int (parP_wh (o := rN M 2) w1 w2)
    have cw : clsP (parP a b (rN M 2)) = a.toInt.toNat * b.toInt.toNat := rfl
    rw [cw] at c1 c2
    rw [parP_0, parP_1] at c1
    have hn : (zI M 1 1).toInt = ((a.toInt.toNat * b.toInt.toNat : Nat) : Int) := by rw [a3, i32_mul (by omega) (by omega)]; exact c1.symm
    obtain ⟨rm, rv⟩ := ttp_l hS hn (fun k hk => hb k (by omega)) (a.toInt.toNat * b.toInt.toNat) 0 0 rfl (by omega) (fun i hi => absurd hi (Nat.not_lt_zero _)) H
    rcases rv with ⟨rv, g⟩ | ⟨rv, i, i1, i2⟩
    · exact ⟨rm, Or.inl ⟨⟨a1, a2, a3, g⟩, rv⟩⟩
    · exact ⟨rm, Or.inr ⟨fun q => q.2.2.2 i i1 i2, rv⟩⟩
  · exact ⟨r2, Or.inr ⟨fun q => a3 q.2.2.1, r1⟩⟩
/-- the tape's length is no part of the state -/
theorem CST.tp (h : CST T P PI M) : CST T P PI (wF M 1 1 y) := by
  have hF : FZ (fun a k => a = 1 ∧ k = 1) noO noO M (wF M 1 1 y) := FZ.wF ⟨rfl, rfl⟩
  refine h.scr h.sq.kf hF ⟨by omega, by omega, by omega⟩ (fun L hL _ => ⟨fun a k q1 q2 q => ?_, fun a _ _ q => q⟩) (fun t ht => ⟨fun k q => ?_, fun k _ _ q => q⟩) ⟨fun q => q, fun q => q, fun q => q⟩ (fun _ _ _ q => q) (fun L hL => ⟨fun k hk => (hF.on (fun q => q)).trans ((h.2.2.2.2.2.1 L hL).1 k hk), (h.2.2.2.2.2.1 L hL).2.on (fun j => hF.on (fun q => q))⟩) (h.2.2.2.2.1.fz hF (by omega) (by omega) (fun _ _ _ q => q)) (fun q => q)
  · have := ld_cases hL
    have := q.1
    omega
  · have := tx_cases ht
    have := q.1
    omega
theorem park_ok (h : CST T P PI M) (hb : ∀ k, k < (zI M 1 1).toInt.toNat → 0 ≤ (rN M 2 k).toInt ∧ (rN M 2 k).toInt < 256) (H : Ev none e 82 0 [some (.ref 0), some (.int a), some (.int b), none] [] M v M' 0 0) : (¬ parT a b (zI M 1 1) (rN M 2) ∧ v = some (.int 0) ∧ CST T P PI M') ∨ (parT a b (zI M 1 1) (rN M 2) ∧ v = some (.int 1) ∧ CST T (parP a b (rN M 2)) PI M') := by
  have hS := h.sq
  obtain ⟨e1, v1, M1, _, H1, H⟩ := prk_0 hS H
  obtain ⟨rm, rv⟩ := ttp_ok hS hb H1
  rw [rm] at H
  rcases rv with ⟨hp, rv⟩ | ⟨hp, rv⟩
  · rw [rv] at H
    have t4 : (4 : Int32).toInt = 4 := rfl
    have t16 : (16 : Int32).toInt = 16 := rfl
    obtain ⟨p1, p2, p3, p4⟩ := hp
    have w1 : 4 ≤ a.toInt ∧ a.toInt ≤ 16 := by unfold inX at p1; omega
    have w2 : 4 ≤ b.toInt ∧ b.toInt ≤ 16 := by unfold inX at p2; omega
    obtain ⟨c1, c2, _⟩ := cls_int (parP_wh (o := rN M 2) w1 w2)
    have cw : clsP (parP a b (rN M 2)) = a.toInt.toNat * b.toInt.toNat := rfl
    rw [cw] at c1 c2
    rw [parP_0, parP_1] at c1
    have hn : (zI M 1 1).toInt = ((a.toInt.toNat * b.toInt.toNat : Nat) : Int) := by rw [p3, i32_mul (by omega) (by omega)]; exact c1.symm
    rcases prk_6 hS h.ld H with ⟨q, _⟩ | ⟨_, e2, v2, M2, _, H2, H⟩
    · exact absurd q (by decide)
    · obtain ⟨rv2, s1, s2, s3⟩ := renew_ok hS lnd_8 w1 w2 (fun k hk => hb k (by omega)) H2
      rw [rv2] at H
      obtain ⟨u1, u2⟩ := prk_24 s1 H
      obtain ⟨d1, d2⟩ := parP_D (o := rN M 2) w1 w2
      have z518 : parP a b (rN M 2) 518 = 0 := parP_z (by decide) (by decide)
      have ok : okA (parP a b (rN M 2)) := ⟨d1, d2, by rw [z518]; decide, parP_E (fun k hk => ⟨hb k (by omega), p4 k hk⟩)⟩
      refine Or.inr ⟨⟨p1, p2, p3, p4⟩, u1, ?_⟩
      rw [u2]
      exact (h.live s1 (s2.more (fun a k q => ⟨Nat.le_of_eq q.1.symm, by have := q.1; omega⟩) (fun _ q => q) (fun _ q => q)) ok s3).tp
  · rw [rv] at H
    rcases prk_6 hS h.ld H with ⟨_, r1, r2⟩ | ⟨q, _⟩
    · refine Or.inl ⟨hp, r1, ?_⟩
      rw [r2]
      exact h.tp
    · exact absurd rfl q
end CPAR
