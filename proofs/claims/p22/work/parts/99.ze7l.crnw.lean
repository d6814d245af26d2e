/-! THE CLASS'S renew: a new park -/
def byI (b : Int32) (f : Nat) : Int32 := if f = 0 then b - b / 8 * 8 else if f = 1 then b / 8 - b / 8 / 2 * 2 else if f = 2 then b / 16 else 0
/-- the PARK that the tape told -/
noncomputable def parP (wi de : Int32) (o : Nat → Int32) : PK := fun j => if j = 0 then wi else if j = 1 then de else if 522 ≤ j ∧ (j - 522) / 7 < wi.toInt.toNat * de.toInt.toNat then byI (o ((j - 522) / 7)) ((j - 522) % 7) else 0
theorem by_all : (List.range 256).all (fun n => decide ((nI n &&& 7) = byI (nI n) 0 ∧ ((nI n >>> ((3 : Int32) &&& 31)) &&& 1) = byI (nI n) 1 ∧ (nI n >>> ((4 : Int32) &&& 31)) = byI (nI n) 2)) = true := by decide +kernel
theorem by_bits {b : Int32} (h : 0 ≤ b.toInt ∧ b.toInt < 256) : (b &&& 7) = byI b 0 ∧ ((b >>> ((3 : Int32) &&& 31)) &&& 1) = byI b 1 ∧ (b >>> ((4 : Int32) &&& 31)) = byI b 2 := by
  have hb : b = nI b.toInt.toNat := Int32.toInt_inj.mp (by rw [nI_toInt (by omega)]; omega)
  have q := of_decide_eq_true (List.all_eq_true.mp by_all b.toInt.toNat (List.mem_range.mpr (by omega)))
  rw [← hb] at q
  exact q
def rnW (L a : Nat) : Prop := L + 1 ≤ a ∧ a ≤ L + 3
def rn2 (L a : Nat) : Prop := L + 4 ≤ a ∧ a ≤ L + 8
def rnF (L a k : Nat) : Prop := a = L ∧ (k ≤ 1 ∨ 11 ≤ k)
section RNW
variable {e L : Nat} {P : PK} {M M1 M' N : Mem} {v : Option Value} {n i k b B : Nat} {wi de : Int32}
theorem rnw_lp (hL : gNth sT L = some 8) (hn : n ≤ 256) : ∀ (r k : Nat) (kz : Int32) (c5 : Option Value) (N : Mem), SQ N → (zI N L 0 * zI N L 1).toInt = (n : Int) → kz.toInt = (k : Int) → k + r = n → Ev none e 12 13 [some (.ref L), some (.int wi), some (.int de), some (.ref 1), some (.int kz), c5] [] N v M' 0 0 → ∃ N1 jz c6, SQ N1 ∧ FZ noF (rnW L) noO N N1 ∧ (∀ j, k ≤ j → j < n → rN N1 (L + 1) j = rN N 2 j &&& 7 ∧ rN N1 (L + 2) j = (rN N 2 j >>> ((3 : Int32) &&& 31)) &&& 1 ∧ rN N1 (L + 3) j = rN N 2 j >>> ((4 : Int32) &&& 31)) ∧ (∀ f j, j < k → rN N1 (L + f) j = rN N (L + f) j) ∧ Ev none e 12 86 [some (.ref L), some (.int wi), some (.int de), some (.ref 1), some (.int jz), c6] [] N1 v M' 0 0 := by
  have h1 := ld_cases hL
  intro r
  induction r with
  | zero =>
    intro k kz c5 N hS hm hk hkr H
    rcases rnw_13 hS hL H with ⟨_, H⟩ | ⟨a1, _⟩ | ⟨a1, _⟩
    · exact ⟨N, _, _, hS, FZ.refl _, fun j h3 h4 => by omega, fun _ _ _ => rfl, H⟩
    · exact absurd (Int32.le_iff_toInt_le.mpr (by omega)) a1
    · exact absurd (Int32.le_iff_toInt_le.mpr (by omega)) a1
  | succ r ih =>
    intro k kz c5 N hS hm hk hkr H
    have t256 : (256 : Int32).toInt = 256 := rfl
    rcases rnw_13 hS hL H with ⟨a1, _⟩ | ⟨_, a1, _⟩ | ⟨_, _, _, _, _, _, H⟩
    · have := Int32.le_iff_toInt_le.mp a1
      omega
    · have := Int32.le_iff_toInt_le.mp a1
      omega
    · rw [cl_n hk] at H
      have e2 : rI N 2 kz = rN N 2 k := rI_n hk
      rw [e2] at H
      obtain ⟨N1, eN⟩ : ∃ N1, N1 = wI (wI (wI N (L + 1) k (rN N 2 k &&& 7)) (L + 2) k ((rN N 2 k >>> ((3 : Int32) &&& 31)) &&& 1)) (L + 3) k (rN N 2 k >>> ((4 : Int32) &&& 31)) := ⟨_, rfl⟩
      rw [← eN] at H
      have hS1 : SQ N1 := by rw [eN]; exact hS.ki.ki.ki
      have hF : FZ noF (rnW L) noO N N1 := by
        rw [eN]
        exact ((FZ.wI (W := rnW L) ⟨by omega, by omega⟩).trans (FZ.wI ⟨by omega, by omega⟩)).trans (FZ.wI ⟨by omega, by omega⟩)
      have l1 : k < (zrw N (L + 1)).length := by rw [(hS.1.row (fx_h2 hL) qw_9).2]; omega
      have l2 : k < (zrw (wI N (L + 1) k (rN N 2 k &&& 7)) (L + 2)).length := by rw [(hS.ki.1.row (fx_h3 hL) qw_10).2]; omega
      have l3 : k < (zrw (wI (wI N (L + 1) k (rN N 2 k &&& 7)) (L + 2) k ((rN N 2 k >>> ((3 : Int32) &&& 31)) &&& 1)) (L + 3)).length := by rw [(hS.ki.ki.1.row (fx_h4 hL) qw_11).2]; omega
      have y1 : rN N1 (L + 1) k = rN N 2 k &&& 7 := by rw [eN, rN_wI_ne (by omega), rN_wI_ne (by omega)]; exact rN_wI_eq l1
      have y2 : rN N1 (L + 2) k = (rN N 2 k >>> ((3 : Int32) &&& 31)) &&& 1 := by rw [eN, rN_wI_ne (by omega)]; exact rN_wI_eq l2
      have y3 : rN N1 (L + 3) k = rN N 2 k >>> ((4 : Int32) &&& 31) := by rw [eN]; exact rN_wI_eq l3
      have yo : ∀ f j, j ≠ k → rN N1 (L + f) j = rN N (L + f) j := fun f j hj => by rw [eN, rN_wI_ne (by omega), rN_wI_ne (by omega), rN_wI_ne (by omega)]
      have b2 : ∀ j, rN N1 2 j = rN N 2 j := fun j => hF.rn (by unfold rnW; omega)
      obtain ⟨N2, jz, c6, r1, r2, r3, r4, r5⟩ := ih (k + 1) (kz + 1) _ N1 hS1 (by rw [hF.fi (fun q => q), hF.fi (fun q => q)]; exact hm) (by rw [i32_p1 (by omega)]; omega) (by omega) H
      refine ⟨N2, jz, c6, r1, hF.trans r2, fun j h3 h4 => ?_, fun f j h3 => ?_, r5⟩
      · by_cases hjk : j = k
        · subst hjk
          rw [r4 1 j (by omega), r4 2 j (by omega), r4 3 j (by omega)]
          exact ⟨y1, y2, y3⟩
        · have q := r3 j (by omega) h4
          rw [b2] at q
          exact q
      · rw [r4 f j (by omega)]
        exact yo f j (by omega)
theorem parP_c {o : Nat → Int32} {k f : Nat} (hk : k < wi.toInt.toNat * de.toInt.toNat) (hf : f < 7) : parP wi de o (522 + 7 * k + f) = byI (o k) f := by
  have h1 : (522 + 7 * k + f - 522) / 7 = k := by omega
  have h2 : (522 + 7 * k + f - 522) % 7 = f := by omega
  unfold parP
  rw [if_neg (by omega), if_neg (by omega), h1, h2, if_pos ⟨by omega, hk⟩]
theorem parP_z {o : Nat → Int32} {j : Nat} (h2 : 2 ≤ j) (h5 : j < 522) : parP wi de o j = 0 := by
  unfold parP
  rw [if_neg (by omega), if_neg (by omega), if_neg (by omega)]
theorem parP_cong {o o' : Nat → Int32} (h : ∀ k, k < wi.toInt.toNat * de.toInt.toNat → o k = o' k) : parP wi de o = parP wi de o' := by
  funext j
  unfold parP
  by_cases h0 : j = 0
  · rw [if_pos h0, if_pos h0]
  · rw [if_neg h0, if_neg h0]
    by_cases h1 : j = 1
    · rw [if_pos h1, if_pos h1]
    · rw [if_neg h1, if_neg h1]
      by_cases h2 : 522 ≤ j ∧ (j - 522) / 7 < wi.toInt.toNat * de.toInt.toNat
      · rw [if_pos h2, if_pos h2, h _ h2.2]
      · rw [if_neg h2, if_neg h2]
theorem parP_0 {o : Nat → Int32} : parP wi de o 0 = wi := rfl
theorem parP_1 {o : Nat → Int32} : parP wi de o 1 = de := rfl
theorem parP_wh {o : Nat → Int32} (hw : 4 ≤ wi.toInt ∧ wi.toInt ≤ 16) (hd : 4 ≤ de.toInt ∧ de.toInt ≤ 16) : wh4 (parP wi de o) := ⟨hw.1, hw.2, hd.1, hd.2⟩
theorem parP_D {o : Nat → Int32} (hw : 4 ≤ wi.toInt ∧ wi.toInt ≤ 16) (hd : 4 ≤ de.toInt ∧ de.toInt ≤ 16) : okD (parP wi de o) ∧ okK (parP wi de o) := by
  have z2 : parP wi de o 2 = 0 := parP_z (by decide) (by decide)
  have z12 : parP wi de o 12 = 0 := parP_z (by decide) (by decide)
  have z157 : parP wi de o 157 = 0 := parP_z (by decide) (by decide)
  have z0 : (0 : Int32).toInt = 0 := rfl
  refine ⟨⟨parP_wh hw hd, ⟨by rw [z2]; decide, by rw [z2]; decide, fun d hd => ?_⟩, by rw [z12]; decide, by rw [z12]; decide, fun k hk => ?_⟩, by rw [z157]; decide, by rw [z157]; decide, fun k hk => ?_⟩
  · rw [z2, z0] at hd
    exact absurd hd (Nat.not_lt_zero _)
  · rw [z12, z0] at hk
    exact absurd hk (Nat.not_lt_zero _)
  · rw [z157, z0] at hk
    exact absurd hk (Nat.not_lt_zero _)
theorem by_rng {b : Int32} (h : 0 ≤ b.toInt ∧ b.toInt < 256) : (0 ≤ (byI b 0).toInt ∧ (byI b 0).toInt ≤ 7) ∧ 0 ≤ (byI b 1).toInt ∧ (byI b 1).toInt ≤ 1 ∧ 0 ≤ (byI b 2).toInt ∧ (byI b 2).toInt ≤ 15 := by
  have hb : b = nI b.toInt.toNat := Int32.toInt_inj.mp (by rw [nI_toInt (by omega)]; omega)
  have q : (List.range 256).all (fun n => decide ((0 ≤ (byI (nI n) 0).toInt ∧ (byI (nI n) 0).toInt ≤ 7) ∧ 0 ≤ (byI (nI n) 1).toInt ∧ (byI (nI n) 1).toInt ≤ 1 ∧ 0 ≤ (byI (nI n) 2).toInt ∧ (byI (nI n) 2).toInt ≤ 15)) = true := by decide +kernel
  have q := of_decide_eq_true (List.all_eq_true.mp q b.toInt.toNat (List.mem_range.mpr (by omega)))
  rw [← hb] at q
  exact q
theorem parP_E {o : Nat → Int32} (ho : ∀ k, k < wi.toInt.toNat * de.toInt.toNat → (0 ≤ (o k).toInt ∧ (o k).toInt < 256) ∧ ¬ byI (o k) 0 = 7) : okE B (parP wi de o) := by
  intro c hc
  have e : ∀ f, f < 7 → cE (parP wi de o) f c = byI (o c.toInt.toNat) f := fun f hf => parP_c hc.2 hf
  obtain ⟨h1, h2⟩ := ho _ hc.2
  obtain ⟨⟨r1, r2⟩, r3, r4, r5, r6⟩ := by_rng h1
  have t7 : (7 : Int32).toInt = 7 := rfl
  have n7 : (byI (o c.toInt.toNat) 0).toInt ≠ 7 := fun q => h2 (Int32.toInt_inj.mp (q.trans t7.symm))
  have z : ∀ f, 3 ≤ f → byI (o c.toInt.toNat) f = 0 := fun f hf => by
    unfold byI
    rw [if_neg (by omega), if_neg (by omega), if_neg (by omega)]
  have z0 : (0 : Int32).toInt = 0 := rfl
  unfold okC1
  rw [e 0 (by decide), e 2 (by decide), e 3 (by decide), e 4 (by decide), e 5 (by decide), e 6 (by decide), z 3 (by decide), z 4 (by decide), z 5 (by decide), z 6 (by decide), z0]
  omega
theorem renew_ok (hS : SQ M) (hL : gNth sT L = some 8) (hw : 4 ≤ wi.toInt ∧ wi.toInt ≤ 16) (hd : 4 ≤ de.toInt ∧ de.toInt ≤ 16) (ho : ∀ k, k < wi.toInt.toNat * de.toInt.toNat → 0 ≤ (rN M 2 k).toInt ∧ (rN M 2 k).toInt < 256) (H : Ev none e 12 0 [some (.ref L), some (.int wi), some (.int de), some (.ref 1), none, none] [] M v M' 0 0) : v = none ∧ SQ M' ∧ FZ (rnF L) (cpW L) noO M M' ∧ LAN L (parP wi de (rN M 2)) M' := by
  have h1 := ld_cases hL
  obtain ⟨w, ew⟩ : ∃ w, w = wi.toInt.toNat := ⟨_, rfl⟩
  obtain ⟨dd, ed⟩ : ∃ dd, dd = de.toInt.toNat := ⟨_, rfl⟩
  have hwd : w * dd ≤ 16 * 16 := Nat.mul_le_mul (by omega) (by omega)
  have H := rnw_0 hS hL H
  obtain ⟨N, eN⟩ : ∃ N, N = wF (wF M L 0 wi) L 1 de := ⟨_, rfl⟩
  have F0 : FZ (fun a k => a = L ∧ k ≤ 1) noO noO M N := by
    rw [eN]
    exact (FZ.wF (F := fun a k => a = L ∧ k ≤ 1) ⟨rfl, by decide⟩).trans (FZ.wF ⟨rfl, by decide⟩)
  have S0 : SQ N := by rw [eN]; exact hS.kf.kf
  have z0 : zI N L 0 = wi := by rw [eN, fI_wF_ne (by omega)]; exact fI_wF_eq hS.1 hL qi_8_0
  have z1 : zI N L 1 = de := by rw [eN]; exact fI_wF_eq hS.kf.1 hL qi_8_1
  rw [← eN] at H
  obtain ⟨c1, c2, _⟩ := cls_int (parP_wh (o := rN M 2) hw hd)
  have cw : clsP (parP wi de (rN M 2)) = w * dd := by rw [ew, ed]; rfl
  rw [cw] at c1
  rw [parP_0, parP_1] at c1
  have mm : (zI N L 0 * zI N L 1).toInt = ((w * dd : Nat) : Int) := by
    rw [z0, z1, i32_mul (by omega) (by omega)]
    exact c1.symm
  obtain ⟨N1, jz, c6, S1, F1, g1, _, H⟩ := rnw_lp hL (n := w * dd) (by omega) (w * dd) 0 0 none N S0 mm rfl (by omega) H
  obtain ⟨hv, eM⟩ := rnw_86 S1 hL H
  obtain ⟨X, eX⟩ : ∃ X, X = wA (wA (wA (wA (wA N1 (L + 4) 0) (L + 5) 0) (L + 6) 0) (L + 7) 0) (L + 8) 0 := ⟨_, rfl⟩
  have SX : SQ X := by rw [eX]; exact S1.ka.ka.ka.ka.ka
  have FX : FZ noF (rn2 L) noO N1 X := by
    rw [eX]
    exact ((((FZ.wA (W := rn2 L) ⟨by omega, by omega⟩).trans (FZ.wA ⟨by omega, by omega⟩)).trans (FZ.wA ⟨by omega, by omega⟩)).trans (FZ.wA ⟨by omega, by omega⟩)).trans (FZ.wA ⟨by omega, by omega⟩)
  have x4 : ∀ j, j < 256 → rN X (L + 4) j = 0 := fun j hj => by
    rw [eX, rN_wA_ne (by omega), rN_wA_ne (by omega), rN_wA_ne (by omega), rN_wA_ne (by omega)]
    exact rN_wA_eq S1.1 (fx_h5 hL) qw_12 hj
  have x5 : ∀ j, j < 256 → rN X (L + 5) j = 0 := fun j hj => by
    rw [eX, rN_wA_ne (by omega), rN_wA_ne (by omega), rN_wA_ne (by omega)]
    exact rN_wA_eq S1.ka.1 (fx_h6 hL) qw_13 hj
  have x6 : ∀ j, j < 256 → rN X (L + 6) j = 0 := fun j hj => by
    rw [eX, rN_wA_ne (by omega), rN_wA_ne (by omega)]
    exact rN_wA_eq S1.ka.ka.1 (fx_h7 hL) qw_14 hj
  have x7 : ∀ j, j < 256 → rN X (L + 7) j = 0 := fun j hj => by
    rw [eX, rN_wA_ne (by omega)]
    exact rN_wA_eq S1.ka.ka.ka.1 (fx_h8 hL) qw_15 hj
  have x8 : ∀ j, j < 256 → rN X (L + 8) j = 0 := fun j hj => by
    rw [eX]
    exact rN_wA_eq S1.ka.ka.ka.ka.1 (fx_h9 hL) qw_16 hj
  rw [← eX] at eM
  have S7 : SQ M' := by rw [eM]; exact SX.kf.kf.kf.kf.kf.kf.kf
  have F7 : FZ (fun a k => a = L ∧ 11 ≤ k) noO noO X M' := by
    rw [eM]
    exact ((((((FZ.wF (F := fun a k => a = L ∧ 11 ≤ k) ⟨rfl, by decide⟩).trans (FZ.wF ⟨rfl, by decide⟩)).trans (FZ.wF ⟨rfl, by decide⟩)).trans (FZ.wF ⟨rfl, by decide⟩)).trans (FZ.wF ⟨rfl, by decide⟩)).trans (FZ.wF ⟨rfl, by decide⟩)).trans (FZ.wF ⟨rfl, by decide⟩)
  have y11 : zI M' L 11 = 0 := by
    rw [eM, fI_wF_ne (by omega), fI_wF_ne (by omega), fI_wF_ne (by omega), fI_wF_ne (by omega), fI_wF_ne (by omega), fI_wF_ne (by omega)]
    exact fI_wF_eq SX.1 hL qi_8_11
  have y13 : zI M' L 13 = 0 := by
    rw [eM, fI_wF_ne (by omega), fI_wF_ne (by omega), fI_wF_ne (by omega), fI_wF_ne (by omega), fI_wF_ne (by omega)]
    exact fI_wF_eq SX.kf.1 hL qi_8_13
  have y15 : zI M' L 15 = 0 := by
    rw [eM, fI_wF_ne (by omega), fI_wF_ne (by omega), fI_wF_ne (by omega), fI_wF_ne (by omega)]
    exact fI_wF_eq SX.kf.kf.1 hL qi_8_15
  have y16 : zI M' L 16 = 0 := by
    rw [eM, fI_wF_ne (by omega), fI_wF_ne (by omega), fI_wF_ne (by omega)]
    exact fI_wF_eq SX.kf.kf.kf.1 hL qi_8_16
  have y17 : zI M' L 17 = 0 := by
    rw [eM, fI_wF_ne (by omega), fI_wF_ne (by omega)]
    exact fI_wF_eq SX.kf.kf.kf.kf.1 hL qi_8_17
  have y18 : zI M' L 18 = 0 := by
    rw [eM, fI_wF_ne (by omega)]
    exact fI_wF_eq SX.kf.kf.kf.kf.kf.1 hL qi_8_18
  have y19 : zI M' L 19 = 0 := by
    rw [eM]
    exact fI_wF_eq SX.kf.kf.kf.kf.kf.kf.1 hL qi_8_19
  have zz : ∀ j, 2 ≤ j → j < 522 → parP wi de (rN M 2) j = 0 := fun j h2 h5 => parP_z h2 h5
  have i0 : (0 : Int32).toInt = 0 := rfl
  refine ⟨hv, S7, (F0.more (fun a k q => ⟨q.1, Or.inl q.2⟩) (fun _ q => q.elim) (fun _ q => q)).trans ((F1.more (fun _ _ q => q.elim) (fun a q => ⟨q.1, Nat.le_trans q.2 (by omega)⟩) (fun _ q => q)).trans ((FX.more (fun _ _ q => q.elim) (fun a q => ⟨Nat.le_trans (by omega) q.1, Nat.le_trans q.2 (by omega)⟩) (fun _ q => q)).trans (F7.more (fun a k q => ⟨q.1, Or.inr q.2⟩) (fun _ q => q.elim) (fun _ q => q)))), ⟨?_, ?_, ⟨by rw [y11, zz 2 (by decide) (by decide)], fun d hd => ?_⟩, by rw [y13, zz 12 (by decide) (by decide)], fun k hk => ?_⟩, ⟨by rw [y16, zz 518 (by decide) (by decide)], by rw [y17, zz 519 (by decide) (by decide)], by rw [y18, zz 520 (by decide) (by decide)], by rw [y19, zz 521 (by decide) (by decide)]⟩, fun k f hk hf => ?_, ⟨by rw [y15, zz 157 (by decide) (by decide)], fun k hk => ?_⟩, fun c hc => ?_⟩
  · exact (F7.fi (by omega)).trans ((FX.fi (fun q => q)).trans ((F1.fi (fun q => q)).trans z0))
  · exact (F7.fi (by omega)).trans ((FX.fi (fun q => q)).trans ((F1.fi (fun q => q)).trans z1))
  · rw [zz 2 (by decide) (by decide), i0] at hd
    exact absurd hd (Nat.not_lt_zero _)
  · rw [zz 12 (by decide) (by decide), i0] at hk
    exact absurd hk (Nat.not_lt_zero _)
  · have hk2 : k < wi.toInt.toNat * de.toInt.toNat := hk
    rw [parP_c hk2 hf]
    obtain ⟨q1, q2, q3⟩ := g1 k (Nat.zero_le _) (by rw [ew, ed]; exact hk2)
    have e2 : rN N 2 k = rN M 2 k := F0.rn (fun q => q)
    rw [e2] at q1 q2 q3
    obtain ⟨u1, u2, u3⟩ := by_bits (ho k hk2)
    have k256 : k < 256 := by rw [cw] at hk c2; omega
    match f, hf with
    | 0, _ => exact (F7.rn (fun q => q)).trans ((FX.rn (by unfold rn2; omega)).trans (q1.trans u1))
    | 1, _ => exact (F7.rn (fun q => q)).trans ((FX.rn (by unfold rn2; omega)).trans (q2.trans u2))
    | 2, _ => exact (F7.rn (fun q => q)).trans ((FX.rn (by unfold rn2; omega)).trans (q3.trans u3))
    | 3, _ => exact (F7.rn (fun q => q)).trans (x4 k k256)
    | 4, _ => exact (F7.rn (fun q => q)).trans (x5 k k256)
    | 5, _ => exact (F7.rn (fun q => q)).trans (x6 k k256)
    | 6, _ => exact (F7.rn (fun q => q)).trans (x7 k k256)
  · rw [zz 157 (by decide) (by decide), i0] at hk
    exact absurd hk (Nat.not_lt_zero _)
  · rw [zz 157 (by decide) (by decide), i0]
    have hc2 := hc.2
    have hc0 := hc.1
    rw [cw] at hc2 c2
    have e : rI M' (L + 8) c = rN M' (L + 8) c.toInt.toNat := rI_n (by omega)
    rw [e]
    exact (F7.rn (fun q => q)).trans (x8 _ (by omega))
end RNW
