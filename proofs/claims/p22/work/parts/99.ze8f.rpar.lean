/-! THE REFERENCE'S park -/
/-- the first n CELLS of a new PARK are told -/
noncomputable def pkS (a b : Int32) (o : Nat → Int32) (n : Nat) : PK := fun j => if j = 0 then a else if j = 1 then b else if 522 ≤ j ∧ (j - 522) / 7 < n then byI (o ((j - 522) / 7)) ((j - 522) % 7) else 0
section RPAR
variable {e B : Nat} {T : TS} {P P' Q : PK} {PI : Nat → PK} {M M0 M1 M' : Mem} {v : Option Value} {c k d x a b y : Int32} {n i j : Nat} {o : Nat → Int32}
theorem pkS_s {c : Int32} (hc : c.toInt = (n : Int)) (j : Nat) : uPk (uPk (uPk (pkS a b o n) (cX 0 c) (byI (o n) 0)) (cX 1 c) (byI (o n) 1)) (cX 2 c) (byI (o n) 2) j = pkS a b o (n + 1) j := by
  have e : ∀ f, cX f c = 522 + 7 * n + f := fun f => by unfold cX; omega
  rw [e, e, e]
  by_cases h2 : j = 522 + 7 * n + 2
  · rw [h2, up_eq]
    unfold pkS
    rw [if_neg (by omega), if_neg (by omega), if_pos (by omega), show (522 + 7 * n + 2 - 522) / 7 = n by omega, show (522 + 7 * n + 2 - 522) % 7 = 2 by omega]
  · rw [up_ne h2]
    by_cases h1 : j = 522 + 7 * n + 1
    · rw [h1, up_eq]
      unfold pkS
      rw [if_neg (by omega), if_neg (by omega), if_pos (by omega), show (522 + 7 * n + 1 - 522) / 7 = n by omega, show (522 + 7 * n + 1 - 522) % 7 = 1 by omega]
    · rw [up_ne h1]
      by_cases h0 : j = 522 + 7 * n + 0
      · rw [h0, up_eq]
        unfold pkS
        rw [if_neg (by omega), if_neg (by omega), if_pos (by omega), show (522 + 7 * n + 0 - 522) / 7 = n by omega, show (522 + 7 * n + 0 - 522) % 7 = 0 by omega]
      · rw [up_ne h0]
        unfold pkS
        by_cases j0 : j = 0
        · rw [if_pos j0, if_pos j0]
        · rw [if_neg j0, if_neg j0]
          by_cases j1 : j = 1
          · rw [if_pos j1, if_pos j1]
          · rw [if_neg j1, if_neg j1]
            by_cases hq : 522 ≤ j ∧ (j - 522) / 7 < n
            · rw [if_pos hq, if_pos (by omega)]
            · rw [if_neg hq]
              by_cases hr : 522 ≤ j ∧ (j - 522) / 7 < n + 1
              · rw [if_pos hr]
                unfold byI
                rw [if_neg (by omega), if_neg (by omega), if_neg (by omega)]
              · rw [if_neg hr]
theorem rpk_c (hS : SQ M) (hz : (zI M 633 3).toInt = (n : Int)) (ho : ∀ k, k < n → rN M 634 k &&& 255 = o k) : ∀ (r k : Nat) (kz : Int32), kz.toInt = (k : Int) → k + r = n → (∀ i, i < k → ¬ byI (o i) 0 = 7) → Ev none e 155 43 [some (.ref 633), some (.int a), some (.int b), some (.int kz)] [] M v M' 0 0 → (v = some (.int 0) ∧ M' = M ∧ ∃ i, i < n ∧ byI (o i) 0 = 7) ∨ ((∀ i, i < n → ¬ byI (o i) 0 = 7) ∧ Ev none e 155 74 [some (.ref 633), some (.int a), some (.int b), some (.int 0)] [] M v M' 0 0) := by
  intro r
  induction r with
  | zero =>
    intro k kz hk hn hg H
    rcases rpk_43 hS H with ⟨_, H⟩ | ⟨a1, _⟩ | ⟨a1, _⟩
    · exact Or.inr ⟨fun i hi => hg i (by omega), H⟩
    all_goals exact absurd (Int32.le_iff_toInt_le.mpr (by omega)) a1
  | succ r ih =>
    intro k kz hk hn hg H
    have hb := (i32_any (zI M 633 3)).2
    have er : G_142 M kz = o k := by
      unfold G_142
      rw [rI_n hk]
      exact ho k (by omega)
    rcases rpk_43 hS H with ⟨a1, _⟩ | ⟨_, a2, r1, r2⟩ | ⟨_, a2, H⟩
    · have := Int32.le_iff_toInt_le.mp a1
      omega
    · rw [er] at a2
      exact Or.inl ⟨r1, r2, k, by omega, a2⟩
    · rw [er] at a2
      refine ih (k + 1) (kz + 1) (by rw [i32_p1 (by omega)]; omega) (by omega) (fun i hi => ?_) H
      by_cases hik : i = k
      · rw [hik]
        exact a2
      · exact hg i (by omega)
theorem rpk_z : ∀ (r i : Nat) (iz : Int32) (P : PK) (M : Mem), RST T P M → iz.toInt = (i : Int) → i + r = 2314 → (∀ j, j < i → P j = 0) → Ev none e 155 74 [some (.ref 633), some (.int a), some (.int b), some (.int iz)] [] M v M' 0 0 → ∃ M1 kz, RST T (fun _ => 0) M1 ∧ FZ noF (fun a => a = 635) noO M M1 ∧ Ev none e 155 94 [some (.ref 633), some (.int a), some (.int b), some (.int kz)] [] M1 v M' 0 0 := by
  have t2314 : (2314 : Int32).toInt = 2314 := rfl
  intro r
  induction r with
  | zero =>
    intro i iz P M hR hi hn h1 H
    rcases rpk_74 hR.1 H with ⟨_, H⟩ | ⟨a1, _⟩
    · exact ⟨M, _, hR.eq (fun j hj => (h1 j (by omega)).symm), FZ.refl _, H⟩
    · exact absurd (Int32.le_iff_toInt_le.mpr (by omega)) a1
  | succ r ih =>
    intro i iz P M hR hi hn h1 H
    rcases rpk_74 hR.1 H with ⟨a1, _⟩ | ⟨_, _, H⟩
    · have := Int32.le_iff_toInt_le.mp a1
      omega
    · rw [cl_n hi] at H
      obtain ⟨M1, kz, r1, r2, r3⟩ := ih (i + 1) (iz + 1) _ _ (hR.up (i := i) (by omega) (x := 0)) (by rw [i32_p1 (by omega)]; omega) (by omega) (fun j hj => by
        by_cases hji : j = i
        · rw [hji]; exact up_eq
        · rw [up_ne hji]; exact h1 j (by omega)) H
      exact ⟨M1, kz, r1, (FZ.wI (W := fun a => a = 635) rfl).trans r2, r3⟩
theorem rpk_s (wa : 4 ≤ a.toInt ∧ a.toInt ≤ 16) (wb : 4 ≤ b.toInt ∧ b.toInt ≤ 16) (hn : n = a.toInt.toNat * b.toInt.toNat) : ∀ (r k : Nat) (kz : Int32) (M : Mem), RST T (pkS a b o k) M → (zI M 633 3).toInt = (n : Int) → (∀ k, k < n → rN M 634 k &&& 255 = o k) → kz.toInt = (k : Int) → k + r = n → Ev none e 155 110 [some (.ref 633), some (.int a), some (.int b), some (.int kz)] [] M v M' 0 0 → v = some (.int 1) ∧ RST T (pkS a b o n) M' := by
  have n256 : n ≤ 256 := by
    have h1 : a.toInt.toNat ≤ 16 := by omega
    have h2 : b.toInt.toNat ≤ 16 := by omega
    rw [hn]
    exact Nat.mul_le_mul h1 h2
  intro r
  induction r with
  | zero =>
    intro k kz M hR hz ho hk hkn H
    rcases rpk_110 hR.1 H with ⟨_, r1, r2⟩ | ⟨a1, _⟩
    · have e : k = n := by omega
      rw [r2, ← e]
      exact ⟨r1, hR⟩
    · exact absurd (Int32.le_iff_toInt_le.mpr (by omega)) a1
  | succ r ih =>
    intro k kz M hR hz ho hk hkn H
    rcases rpk_110 hR.1 H with ⟨a1, _⟩ | ⟨_, H⟩
    · have := Int32.le_iff_toInt_le.mp a1
      omega
    · have hw : wh4 (pkS a b o k) := ⟨wa.1, wa.2, wb.1, wb.2⟩
      have hc : inC (pkS a b o k) kz := ⟨by omega, by
        show kz.toInt.toNat < a.toInt.toNat * b.toInt.toNat
        omega⟩
      have hs : ∀ (f : Nat) (Q : PK) (y : Int32), (∀ j, j < 522 → Q j = pkS a b o k j) → ∀ j, j < 522 → uPk Q (cX f kz) y j = pkS a b o k j := fun f Q y h j hj => (up_ne (by have := cX_ge (f := f) (c := kz); omega)).trans (h j hj)
      have h0 : ∀ j, j < 522 → pkS a b o k j = pkS a b o k j := fun _ _ => rfl
      have er : ∀ N, (∀ j, rN N 634 j = rN M 634 j) → G_142 N kz = o k := fun N hN => by
        unfold G_142
        rw [rI_n hk, hN]
        exact ho k (by omega)
      have w5 : ∀ (N : Mem) (j : Nat) (y : Int32), (∀ i, rN N 634 i = rN M 634 i) → ∀ i, rN (wI N 635 j y) 634 i = rN M 634 i := fun N j y h i => (rN_wI_ne (by omega)).trans (h i)
      have g0 : ∀ i, rN M 634 i = rN M 634 i := fun _ => rfl
      rw [x147_ok hR hw hc (fn := 0) rfl (by decide), er M g0] at H
      have u1 := hR.up (cX_lt hw hc (f := 0) (by decide)) (x := o k - o k / 8 * 8)
      have s1 := hs 0 (pkS a b o k) (o k - o k / 8 * 8) h0
      have hw1 := hw.eq (s1 0 (by decide)) (s1 1 (by decide))
      have hc1 := (inC.eq (c := kz) (s1 0 (by decide)) (s1 1 (by decide))).mpr hc
      rw [x147_ok u1 hw1 hc1 (fn := 1) rfl (by decide), er _ (w5 M _ _ g0)] at H
      have u2 := u1.up (cX_lt hw1 hc1 (f := 1) (by decide)) (x := o k / 8 - o k / 8 / 2 * 2)
      have s2 := hs 1 _ (o k / 8 - o k / 8 / 2 * 2) s1
      have hw2 := hw.eq (s2 0 (by decide)) (s2 1 (by decide))
      have hc2 := (inC.eq (c := kz) (s2 0 (by decide)) (s2 1 (by decide))).mpr hc
      rw [x147_ok u2 hw2 hc2 (fn := 2) rfl (by decide), er _ (w5 _ _ _ (w5 M _ _ g0))] at H
      have u3 := u2.up (cX_lt hw2 hc2 (f := 2) (by decide)) (x := o k / 16)
      exact ih (k + 1) (kz + 1) _ (u3.eq (fun j _ => (pkS_s (o := o) (a := a) (b := b) hk j).symm)) (by rw [fI_wI, fI_wI, fI_wI]; exact hz) (fun i hi => by rw [w5 _ _ _ (w5 _ _ _ (w5 M _ _ g0))]; exact ho i hi) (by rw [i32_p1 (by omega)]; omega) (by omega) H
theorem rpark_ok (hR : RST T P M) (hz : (zI M 633 2).toInt = (n : Int)) (ho : ∀ k, k < n → rN M 634 k &&& 255 = o k) (H : Ev none e 155 0 [some (.ref 633), some (.int a), some (.int b), none] [] M v M' 0 0) : (¬ parT a b (zI M 633 2) o ∧ v = some (.int 0) ∧ RST T P M') ∨ (parT a b (zI M 633 2) o ∧ v = some (.int 1) ∧ RST T (parP a b o) M') := by
  have t4 : (4 : Int32).toInt = 4 := rfl
  have t16 : (16 : Int32).toInt = 16 := rfl
  have h0 : RST T P (X_139 (wF M 633 0 0)) := by
    unfold X_139
    exact (((hR.w0 0 (by decide) 0).w0 3 (by decide) _).w0 2 (by decide) 0).w0 4 (by decide) 0
  have z3 : zI (X_139 (wF M 633 0 0)) 633 3 = zI M 633 2 := by
    unfold X_139
    rw [fI_wF_ne (by decide), fI_wF_ne (by decide), fI_wF_eq hR.1.kf.1 qa_633 qi_61_3, fI_wF_ne (by decide)]
  have r634 : ∀ j, rN (X_139 (wF M 633 0 0)) 634 j = rN M 634 j := fun j => by
    unfold X_139
    rw [rN_wF, rN_wF, rN_wF, rN_wF]
  obtain ⟨N, eN⟩ : ∃ N, N = X_139 (wF M 633 0 0) := ⟨_, rfl⟩
  have H9 := rpk_0 hR.1 H
  rw [← eN] at h0 z3 r634 H9
  unfold parT
  rcases H9 with ⟨a1, r1, r2⟩ | ⟨_, a1, r1, r2⟩ | ⟨a1, a2, a3, H⟩ | ⟨a1, a2, a3, r1, r2⟩
  · rw [g140_R] at a1
    exact Or.inl ⟨fun q => a1 q.1, r1, r2 ▸ h0⟩
  · rw [g140_R] at a1
    exact Or.inl ⟨fun q => a1 q.2.1, r1, r2 ▸ h0⟩
  · rw [g140_R, Classical.not_not] at a1 a2
    rw [z3] at a3
    have w1 : 4 ≤ a.toInt ∧ a.toInt ≤ 16 := by unfold inX at a1; omega
    have w2 : 4 ≤ b.toInt ∧ b.toInt ≤ 16 := by unfold inX at a2; omega
    obtain ⟨c1, c2, _⟩ := cls_int (parP_wh (o := o) w1 w2)
    have cw : clsP (parP a b o) = a.toInt.toNat * b.toInt.toNat := rfl
    rw [cw] at c1 c2
    rw [parP_0, parP_1] at c1
    have hn : n = a.toInt.toNat * b.toInt.toNat := by
      have q : (zI M 633 2).toInt = a.toInt * b.toInt := by rw [a3, i32_mul (by omega) (by omega)]
      omega
    have z3i : (zI N 633 3).toInt = (n : Int) := by rw [z3]; exact hz
    rcases rpk_c (o := o) h0.1 z3i (fun k hk => by rw [r634]; exact ho k hk) n 0 0 rfl (by omega) (fun i hi => absurd hi (Nat.not_lt_zero _)) H with ⟨r1, r2, i, i1, i2⟩ | ⟨g, H⟩
    · exact Or.inl ⟨fun q => q.2.2.2 i (by omega) i2, r1, r2 ▸ h0⟩
    · obtain ⟨M1, kz, s1, s2, H⟩ := rpk_z 2314 0 0 P N h0 rfl rfl (fun j hj => absurd hj (Nat.not_lt_zero _)) H
      obtain ⟨_, _, H⟩ := rpk_94 s1.1 H
      have i0 : (0 : Int32).toNatClampNeg = 0 := rfl
      have i1 : (1 : Int32).toNatClampNeg = 1 := rfl
      rw [i0, i1] at H
      have u2 := (s1.up (i := 0) (by decide) (x := a)).up (i := 1) (by decide) (x := b)
      have u3 : RST T (pkS a b o 0) (wI (wI M1 635 0 a) 635 1 b) := u2.eq (fun j _ => by
        unfold pkS uPk
        by_cases j0 : j = 0
        · rw [if_pos j0, if_neg (by omega), if_pos j0]
        · rw [if_neg j0]
          by_cases j1 : j = 1
          · rw [if_pos j1, if_pos j1]
          · rw [if_neg j1, if_neg j1, if_neg j0, if_neg (by omega)])
      have z3m : zI M1 633 3 = zI N 633 3 := s2.fi (fun q => q)
      have r4m : ∀ j, rN M1 634 j = rN N 634 j := fun j => s2.rn (by decide)
      obtain ⟨v1, v2⟩ := rpk_s w1 w2 hn n 0 0 _ u3 (by rw [fI_wI, fI_wI, z3m]; exact z3i) (fun k hk => by rw [rN_wI_ne (by omega), rN_wI_ne (by omega), r4m, r634]; exact ho k hk) rfl (by omega) H
      refine Or.inr ⟨⟨a1, a2, a3, fun k hk => g k (by omega)⟩, v1, ?_⟩
      have : parP a b o = pkS a b o n := by rw [hn]; rfl
      rw [this]
      exact v2
  · rw [z3] at a3
    exact Or.inl ⟨fun q => a3 q.2.2.1, r1, r2 ▸ h0⟩
end RPAR
