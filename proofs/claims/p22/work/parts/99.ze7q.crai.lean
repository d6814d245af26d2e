/-! THE CLASS'S rain, snow, lay, park, image, restore -/
section CRAI
variable {e B L : Nat} {T : TS} {P P' Q : PK} {PI : Nat → PK} {M M0 M1 M' : Mem} {v : Option Value} {c k d x a b t : Int32} {n i j : Nat} {F : Nat → Nat → Prop} {W O : Nat → Prop}
/-- a land whose cells alone change -/
theorem LAN.hi (hA : LAN L P M) (hF : FZ noF W noO M M') (hs : hiS P Q) (fw : ∀ a, W a → L + 1 ≤ a ∧ a ≤ L + 7) (hl : LCel L Q M') (hD : okD P) (k60 : (P 157).toInt ≤ 60) : LAN L Q M' := by
  have d9 := hD.2.1.2.1
  have d24 := hD.2.2.2.1
  obtain ⟨⟨a0, a1, ⟨a2, a3⟩, a4, a5⟩, ⟨b1, b2, b3, b4⟩, hC, ⟨l1, l2⟩, hcr⟩ := hA
  have zL : ∀ a k, zI M' a k = zI M a k := fun a k => hF.fi (fun q => q)
  have e157 := hs 157 (by decide)
  have e0 := hs 0 (by decide)
  have e1 := hs 1 (by decide)
  have w8 : ¬ W (L + 8) := fun q => by have := fw _ q; omega
  have w9 : ¬ W (L + 9) := fun q => by have := fw _ q; omega
  refine ⟨⟨(zL _ _).trans (a0.trans e0.symm), (zL _ _).trans (a1.trans e1.symm), ⟨(zL _ _).trans (a2.trans (hs 2 (by decide)).symm), fun d hd => ?_⟩, (zL _ _).trans (a4.trans (hs 12 (by decide)).symm), fun k hk f hf => ?_⟩, ⟨(zL _ _).trans (b1.trans (hs _ (by decide)).symm), (zL _ _).trans (b2.trans (hs _ (by decide)).symm), (zL _ _).trans (b3.trans (hs _ (by decide)).symm), (zL _ _).trans (b4.trans (hs _ (by decide)).symm)⟩, hl, ⟨(zL _ _).trans (l1.trans e157.symm), fun k hkk => ?_⟩, fun c hc => ?_⟩
  · rw [hs 2 (by decide)] at hd
    rw [hF.rn w9, a3 d hd]
    exact (hs _ (by omega)).symm
  · rw [hs 12 (by decide)] at hk
    rw [zL, a5 k hk f hf]
    exact (hs _ (by omega)).symm
  · rw [e157] at hkk
    rw [hF.on (fun q => q)]
    exact (l2 k hkk).eq (fun f _ => zL _ _) (fun j hj => hs _ (by omega))
  · rw [inC.eq e0 e1] at hc
    have q : rI M' (L + 8) c = rI M (L + 8) c := hF.rn w8
    rw [q, e157, hcr c hc]
    exact (crd_congr _ (fun k hk => hs _ (by omega))).symm
theorem okA.hi (h : okA P) (hs : hiS P Q) (hE : okE (60 * (P 518).toInt.toNat) Q) : okA Q := by
  obtain ⟨a1, a2, a3, a4⟩ := h
  have e := hs 518 (by decide)
  exact ⟨hs.D a1, hs.K a2, by rw [e]; exact a3, by rw [e]; exact hE⟩
theorem CST.hi (h : CST T P PI M) (hS : SQ M') (hF : FZ noF W noO M M') (fw : ∀ a, W a → 9 ≤ a ∧ a ≤ 15) (hs : hiS P Q) (hl : LCel 8 Q M') (hE : okE (60 * (P 518).toInt.toNat) Q) : CST T Q PI M' := h.live hS (hF.more (fun _ _ q => q.elim) (fun a q => by have := fw a q; unfold cpW; omega) (fun _ q => q)) (h.ok.hi hs hE) (h.lan.hi hF hs (fun a q => by have := fw a q; omega) hl h.ok.1 h.ok.k60)
theorem rai_l (hw : wh4 P) (hx : inX x 1 200) (M0 : Mem) : ∀ (n : Nat) (c : Int32) (Q : PK) (M : Mem) (c3 : Option Value), SQ M → fR M 0 2 = 8 → zI M 8 0 = P 0 → zI M 8 1 = P 1 → LCel 8 Q M → hiS P Q → okE B Q → FZ noF (fun a => a = 13) noO M0 M → 0 ≤ c.toInt → c.toInt + (n : Int) = (clsP P : Int) → Ev none e 93 15 [some (.ref 0), some (.int x), some (.int c), c3] [] M v M' 0 0 → v = some (.int 1) ∧ SQ M' ∧ LCel 8 (raiP x n c Q) M' ∧ hiS P (raiP x n c Q) ∧ okE B (raiP x n c Q) ∧ FZ noF (fun a => a = 13) noO M0 M' := by
  obtain ⟨_, c256, _⟩ := cls_int hw
  intro n
  induction n with
  | zero =>
    intro c Q M c3 hS hL z0 z1 hC hs hE hF hc hn H
    have hg := g6_ok hw z0 z1
    rcases rai_15 hS hL H with ⟨_, r1, r2⟩ | ⟨a1, _⟩ | ⟨a1, _⟩ | ⟨a1, _⟩ | ⟨a1, _⟩
    · exact ⟨r1, r2 ▸ hS, r2 ▸ hC, hs, hE, r2 ▸ hF⟩
    all_goals exact absurd (Int32.le_iff_toInt_le.mpr (by omega)) a1
  | succ n ih =>
    intro c Q M c3 hS hL z0 z1 hC hs hE hF hc hn H
    have hg := g6_ok hw z0 z1
    have hcP : inC P c := ⟨hc, by omega⟩
    have hcQ : inC Q c := (inC.hi hs).mpr hcP
    have hwQ : wh4 Q := hw.eq (hs 0 (by decide)) (hs 1 (by decide))
    have e1 : (c + 1).toInt = c.toInt + 1 := i32_p1 (by omega)
    have k0 : rI M (8 + 1) c = cE Q 0 c := hC.at hcQ (f := 0) (by decide)
    have k4 : rI M (8 + 5) c = cE Q 4 c := hC.at hcQ (f := 4) (by decide)
    obtain ⟨⟨u0, u6⟩, _⟩ := hE c hcQ
    have t3 : (3 : Int32).toInt = 3 := rfl
    have yes : cE Q 0 c < 3 → Ev none e 93 15 [some (.ref 0), some (.int x), some (.int (c + 1)), some (.int (rI M (8 + 1) c))] [] (wI M (8 + 5) c.toNatClampNeg (if rI M (8 + 5) c + x < 200 then rI M (8 + 5) c + x else 200)) v M' 0 0 → v = some (.int 1) ∧ SQ M' ∧ LCel 8 (raiP x (n + 1) c Q) M' ∧ hiS P (raiP x (n + 1) c Q) ∧ okE B (raiP x (n + 1) c Q) ∧ FZ noF (fun a => a = 13) noO M0 M' := fun h3 H => by
      rw [k4] at H
      have hr : ra1P Q x c = uPk Q (cX 4 c) (if cE Q 4 c + x < 200 then cE Q 4 c + x else 200) := by unfold ra1P; rw [if_pos h3]
      have hu : LCel 8 (ra1P Q x c) (wI M (8 + 5) c.toNatClampNeg (if cE Q 4 c + x < 200 then cE Q 4 c + x else 200)) := by
        rw [hr]
        exact hC.up hS lnd_8 hwQ hcQ (f := 4) (by decide)
      have hF' : FZ noF (fun a => a = 13) noO M (wI M (8 + 5) c.toNatClampNeg (if cE Q 4 c + x < 200 then cE Q 4 c + x else 200)) := FZ.wI rfl
      exact ih (c + 1) (ra1P Q x c) _ _ hS.ki ((hF'.fr (fun q => q)).trans hL) ((hF'.fi (fun q => q)).trans z0) ((hF'.fi (fun q => q)).trans z1) hu (fun j hj => (ra1_hi j hj).trans (hs j hj)) (hE.ra1 hcQ hx) (hF.trans hF') (by omega) (by omega) H
    have lt3 : ∀ y : Int32, y.toInt < 3 → cE Q 0 c = y → cE Q 0 c < 3 := fun y hy q => Int32.lt_iff_toInt_lt.mpr (by rw [q]; omega)
    rcases rai_15 hS hL H with ⟨a1, _⟩ | ⟨_, a2, _, _, _, H⟩ | ⟨_, _, a2, _, _, _, H⟩ | ⟨_, _, _, a2, _, _, _, H⟩ | ⟨_, a2, a3, a4, _, H⟩
    · have := Int32.le_iff_toInt_le.mp a1
      omega
    · rw [k0] at a2
      exact yes (lt3 0 (by decide) a2) H
    · rw [k0] at a2
      exact yes (lt3 2 (by decide) a2) H
    · rw [k0] at a2
      exact yes (lt3 1 (by decide) a2) H
    · rw [k0] at a2 a3 a4
      have n3 : ¬ cE Q 0 c < 3 := fun q => by
        have q := Int32.lt_iff_toInt_lt.mp q
        have i0 : (0 : Int32).toInt = 0 := rfl
        have i1 : (1 : Int32).toInt = 1 := rfl
        have i2 : (2 : Int32).toInt = 2 := rfl
        have m0 : (cE Q 0 c).toInt ≠ 0 := fun r => a2 (Int32.toInt_inj.mp (r.trans i0.symm))
        have m1 : (cE Q 0 c).toInt ≠ 1 := fun r => a4 (Int32.toInt_inj.mp (r.trans i1.symm))
        have m2 : (cE Q 0 c).toInt ≠ 2 := fun r => a3 (Int32.toInt_inj.mp (r.trans i2.symm))
        omega
      have hr : ra1P Q x c = Q := by unfold ra1P; rw [if_neg n3]
      have q := ih (c + 1) Q M _ hS hL z0 z1 hC hs hE hF (by omega) (by omega) H
      have hun : raiP x (n + 1) c Q = raiP x n (c + 1) Q := by
        show raiP x n (c + 1) (ra1P Q x c) = _
        rw [hr]
      rw [hun]
      exact q
theorem rain_ok (h : CST T P PI M) (H : Ev none e 93 0 [some (.ref 0), some (.int x), none, none] [] M v M' 0 0) : (¬ inX x 1 200 ∧ v = some (.int 0) ∧ M' = M) ∨ (inX x 1 200 ∧ v = some (.int 1) ∧ CST T (raiP x (clsP P) 0 P) PI M') := by
  have hA := h.lan
  rcases rai_0 h.sq h.ld H with ⟨a1, r1, r2⟩ | ⟨a1, H⟩
  · rw [g126_R] at a1
    exact Or.inl ⟨a1, r1, r2⟩
  · rw [g126_R, Classical.not_not] at a1
    have t0 : (0 : Int32).toInt = 0 := rfl
    obtain ⟨r1, r2, r3, r4, r5, r6⟩ := rai_l h.ok.1.1 a1 M (clsP P) 0 P M none h.sq h.ld hA.1.1 hA.1.2.1 hA.2.2.1 (fun _ _ => rfl) h.ok.2.2.2 (FZ.refl _) (by decide) (by omega) H
    exact Or.inr ⟨a1, r1, h.hi r2 r6 (fun a q => by omega) r4 r3 r5⟩
theorem okE.zer {f : Nat} (hf : f = 5 ∨ f = 6) (hw : wh4 P) (hE : okE B P) : okE B (zerP f (clsP P) 0 P) := fun c hc => by
  obtain ⟨_, c256, _⟩ := cls_int hw
  have t0 : (0 : Int32).toInt = 0 := rfl
  obtain ⟨zE, zL⟩ := zer_E (f := f) (by omega) (clsP P) 0 P (by decide) (by omega)
  have hs : hiS P (zerP f (clsP P) 0 P) := zL
  have hc := (inC.hi hs).mp hc
  obtain ⟨a1, a2, a3, a4, a5, a6, a7⟩ := hE c hc
  unfold okC1
  rw [zE 0 c (by decide) hc.1, zE 2 c (by decide) hc.1, zE 3 c (by decide) hc.1, zE 4 c (by decide) hc.1, zE 5 c (by decide) hc.1, zE 6 c (by decide) hc.1, if_neg (fun q => by omega), if_neg (fun q => by omega), if_neg (fun q => by omega), if_neg (fun q => by omega)]
  refine ⟨a1, a2, a3, a4, ?_, ?_⟩
  · split
    · rw [t0]; omega
    · exact a5
  · split
    · rw [t0]; omega
    · exact ⟨a6, a7⟩
theorem snow_ok (h : CST T P PI M) (H : Ev none e 94 0 [some (.ref 0)] [] M v M' 0 0) : v = none ∧ CST T (zerP 6 (clsP P) 0 P) PI M' := by
  have hw := h.ok.1.1
  obtain ⟨_, c256, _⟩ := cls_int hw
  have t0 : (0 : Int32).toInt = 0 := rfl
  obtain ⟨zE, zL⟩ := zer_E (f := 6) (by decide) (clsP P) 0 P (by decide) (by omega)
  have hs : hiS P (zerP 6 (clsP P) 0 P) := zL
  obtain ⟨r1, r2⟩ := sno_0 h.sq h.ld H
  have S' : SQ M' := by rw [r2]; exact h.sq.ka
  have hF : FZ noF (fun a => a = 15) noO M M' := by rw [r2]; exact FZ.wA (W := fun a => a = 15) rfl
  refine ⟨r1, h.hi S' hF (fun a q => by omega) hs (fun k f hk hf => ?_) (h.ok.2.2.2.zer (Or.inr rfl) hw)⟩
  rw [cls_eq (hs 0 (by decide)) (hs 1 (by decide))] at hk
  rw [cE_nat hw hk (zerP 6 (clsP P) 0 P) f, zE f (nI k) hf (by rw [nI_toInt (by omega)]; omega)]
  by_cases hf6 : f = 6
  · subst hf6
    rw [if_pos ⟨rfl, by rw [nI_toInt (by omega)]; omega, by rw [nI_toInt (by omega)]; omega⟩, r2]
    exact rN_wA_eq h.sq.1 (fx_h8 lnd_8) qw_15 (by omega)
  · rw [if_neg (fun q => hf6 q.1), ← cE_nat hw hk P f]
    rw [hF.rn (by omega)]
    exact h.lan.2.2.1 k f hk hf
theorem g8L (hC : LCel L P M) (hc : inC P c) : G_8 M L c = bI (grnB P c) := by
  have e : rI M (L + 1) c = cE P 0 c := hC.at hc (f := 0) (by decide)
  unfold G_8 grnB
  rw [e]
  by_cases h3 : cE P 0 c = 0
  · rw [if_pos h3, decide_eq_true h3]; rfl
  · rw [if_neg h3, decide_eq_false h3]
    by_cases h6 : cE P 0 c = 2
    · rw [if_pos h6, decide_eq_true h6]; rfl
    · rw [if_neg h6, decide_eq_false h6]; rfl
theorem x10_ok (hS : SQ M) (hL : gNth sT L = some 8) (hC : LCel L P M) (hw : wh4 P) (hc : inC P c) : SQ (X_10 M L c k) ∧ LCel L (layP P c k) (X_10 M L c k) ∧ FZ noF (fun a => a = L + 1 ∨ a = L + 4) noO M (X_10 M L c k) := by
  have u1 : LCel L (uPk P (cX 0 c) k) (wI M (L + 1) c.toNatClampNeg k) := hC.up hS hL hw hc (f := 0) (by decide)
  have hs : hiS P (uPk P (cX 0 c) k) := fun j hj => up_ne (by have := cX_ge (f := 0) (c := c); omega)
  have hc1 : inC (uPk P (cX 0 c) k) c := (inC.hi hs).mpr hc
  have hw1 : wh4 (uPk P (cX 0 c) k) := hw.eq (hs 0 (by decide)) (hs 1 (by decide))
  have e0 : cE (uPk P (cX 0 c) k) 0 c = k := up_eq
  have hg := g8L u1 hc1
  have hF : FZ noF (fun a => a = L + 1 ∨ a = L + 4) noO M (wI M (L + 1) c.toNatClampNeg k) := FZ.wI (Or.inl rfl)
  unfold X_10 layP
  rw [hg]
  unfold grnB
  rw [e0]
  by_cases hk : k = 0 ∨ k = 2
  · rw [if_pos hk, if_neg (fun q => by rw [bI_0] at q; rcases hk with r | r <;> simp [r] at q)]
    exact ⟨hS.ki, u1, hF⟩
  · have n0 : ¬ k = 0 := fun q => hk (Or.inl q)
    have n2 : ¬ k = 2 := fun q => hk (Or.inr q)
    rw [if_neg hk, decide_eq_false n0, decide_eq_false n2, if_pos (show bI (false || false) = 0 from rfl)]
    exact ⟨hS.ki.ki, u1.up hS.ki hL hw1 hc1 (f := 3) (by decide), hF.trans (FZ.wI (Or.inr rfl))⟩
end CRAI
