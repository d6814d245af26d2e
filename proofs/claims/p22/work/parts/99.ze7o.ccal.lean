/-! THE CLASS'S state between calls -/
def imgA (k : Nat) : Nat := 345 + 96 * k
def GFX (M : Mem) : Prop := fR M 0 2 = 8 ∧ fR M 0 6 = 243 ∧ ∀ k, k < 3 → oN M 339 k = imgA k
def okA (P : PK) : Prop := okD P ∧ okK P ∧ (0 ≤ (P 518).toInt ∧ (P 518).toInt ≤ 60000) ∧ okE (60 * (P 518).toInt.toNat) P
def CST (T : TS) (P : PK) (PI : Nat → PK) (M : Mem) : Prop := SQ M ∧ GFX M ∧ TXc T M ∧ SXc M ∧ GRI M ∧ (∀ L, gNth sT L = some 8 → WXr L M ∧ WKs L M) ∧ (okA P ∧ LAN 8 P M) ∧ ∀ k, k < 3 → ¬ rN M 340 k = 0 → okA (PI k) ∧ LAN (imgA k) (PI k) M
theorem lnd_8 : gNth sT 8 = some 8 := by decide +kernel
theorem lnd_tr : gNth sT 243 = some 8 := by decide +kernel
theorem lnd_im : ∀ k, k < 3 → gNth sT (imgA k) = some 8 := by decide +kernel
section CCAL
variable {e B L : Nat} {T : TS} {P P' Q : PK} {PI : Nat → PK} {M M1 M' : Mem} {v : Option Value} {c k d x a b h ev fi t : Int32} {n i j : Nat} {F : Nat → Nat → Prop} {W O : Nat → Prop}
theorem okA.n24 (h : okA P) : (P 12).toInt ≤ 24 := h.1.2.2.2.1
theorem okA.k60 (h : okA P) : (P 157).toInt ≤ 60 := h.2.1.2.1
theorem TXc.fz (h : TXc T M) (hS : SH M) (hF : FZ F W O M M') (f2 : ¬ F 104 2) (ft : ∀ t, gNth sT t = some 28 → (∀ k, ¬ F t k) ∧ ∀ k, 1 ≤ k → k ≤ 8 → ¬ W (t + k)) (o : ¬ O 109) : TXc T M' := by
  obtain ⟨⟨t1, t2⟩, t3⟩ := h
  have e2 : fR M' 104 2 = fR M 104 2 := hF.fr f2
  refine ⟨⟨?_, t2⟩, fun h hh => ?_⟩
  · have q := ft _ (law_t hS)
    rw [e2]
    exact t1.fz hF q.1 q.2
  · have q := ft _ (hab_t hS hh)
    rw [hF.on o]
    exact ⟨(t3 h hh).1.fz hF q.1 q.2, (t3 h hh).2⟩
/-- what leaves the whole state alone -/
theorem CST.scr (h : CST T P PI M) (hS : SQ M') (hF : FZ F W O M M') (f0 : ¬ F 0 2 ∧ ¬ F 0 6 ∧ ¬ F 104 2) (fl : ∀ L, gNth sT L = some 8 → ¬ L = 243 → (∀ a k, L ≤ a → a < L + 96 → ¬ F a k) ∧ ∀ a, L + 1 ≤ a → a ≤ L + 9 → ¬ W a) (ft : ∀ t, gNth sT t = some 28 → (∀ k, ¬ F t k) ∧ ∀ k, 1 ≤ k → k ≤ 8 → ¬ W (t + k)) (o : ¬ O 109 ∧ ¬ O 129 ∧ ¬ O 339) (ol : ∀ L, gNth sT L = some 8 → ¬ L = 243 → ¬ O (L + 11)) (hX : ∀ L, gNth sT L = some 8 → WXr L M' ∧ WKs L M') (hG : GRI M') (w : ¬ W 340) : CST T P PI M' := by
  obtain ⟨a1, ⟨a2, a3, a4⟩, a5, a6, a7, a8, ⟨a9, a10⟩, a11⟩ := h
  have n8 : ¬ (8 : Nat) = 243 := by decide
  refine ⟨hS, ⟨(hF.fr f0.1).trans a2, (hF.fr f0.2.1).trans a3, fun k hk => (hF.on o.2.2).trans (a4 k hk)⟩, a5.fz a1.1 hF f0.2.2 ft o.1, fun m hm => (hF.on o.2.1).trans (a6 m hm), hG, hX, ⟨a9, a10.fz hF (fl 8 lnd_8 n8).1 (fl 8 lnd_8 n8).2 (ol 8 lnd_8 n8) (a8 8 lnd_8).2 a9.n24 a9.k60⟩, fun k hk hr => ?_⟩
  have er : rN M' 340 k = rN M 340 k := hF.rn w
  rw [er] at hr
  obtain ⟨b1, b2⟩ := a11 k hk hr
  have hi := lnd_im k hk
  have ni : ¬ imgA k = 243 := by unfold imgA; omega
  exact ⟨b1, b2.fz hF (fl _ hi ni).1 (fl _ hi ni).2 (ol _ hi ni) (a8 _ hi).2 b1.n24 b1.k60⟩
/-- a change of the live land -/
theorem CST.live (h : CST T P PI M) (hS : SQ M') (hF : FZ (cpF 8) (cpW 8) noO M M') (ok : okA Q) (hA : LAN 8 Q M') : CST T Q PI M' := by
  obtain ⟨a1, ⟨a2, a3, a4⟩, a5, a6, a7, a8, ⟨a9, a10⟩, a11⟩ := h
  refine ⟨hS, ⟨(hF.fr (by unfold cpF; omega)).trans a2, (hF.fr (by unfold cpF; omega)).trans a3, fun k hk => (hF.on (fun q => q)).trans (a4 k hk)⟩, a5.fz a1.1 hF (by unfold cpF; omega) (fun t ht => ?_) (fun q => q), fun m hm => (hF.on (fun q => q)).trans (a6 m hm), a7.fz hF (by unfold cpF; omega) (by unfold cpF; omega) (fun a _ _ => by unfold cpW; omega), fun L hL => ⟨fun k hk => (hF.on (fun q => q)).trans ((a8 L hL).1 k hk), (a8 L hL).2.on (fun j => hF.on (fun q => q))⟩, ⟨ok, hA⟩, fun k hk hr => ?_⟩
  · have := tx_cases ht
    exact ⟨fun k => by unfold cpF; omega, fun k k1 k8 => by unfold cpW; omega⟩
  · have er : rN M' 340 k = rN M 340 k := hF.rn (by unfold cpW; omega)
    rw [er] at hr
    obtain ⟨b1, b2⟩ := a11 k hk hr
    have hi := lnd_im k hk
    exact ⟨b1, b2.fz hF (fun a k q1 q2 => by unfold imgA at q1; unfold cpF; omega) (fun a q1 q2 => by unfold imgA at q1; unfold cpW; omega) (fun q => q) (a8 _ hi).2 b1.n24 b1.k60⟩
theorem g7L (hC : LCel L P M) (hc : inC P c) : G_7 M L c = bI (opnB P c) := by
  have e : rI M (L + 1) c = cE P 0 c := hC.at hc (f := 0) (by decide)
  unfold G_7 opnB
  rw [e]
  by_cases h3 : cE P 0 c = 3
  · rw [if_pos h3, decide_eq_true h3]; rfl
  · rw [if_neg h3, decide_eq_false h3]
    by_cases h6 : cE P 0 c = 6
    · rw [if_pos h6, decide_eq_true h6]; rfl
    · rw [if_neg h6, decide_eq_false h6]; rfl
theorem g126_R {lo hi : Int32} : G_126 M x lo hi = 0 ↔ ¬ inX x lo hi := by
  unfold G_126 inX
  by_cases h1 : x < lo
  · rw [if_pos h1]
    exact ⟨fun _ r => by have := Int32.lt_iff_toInt_lt.mp h1; omega, fun _ => rfl⟩
  · rw [if_neg h1]
    by_cases h2 : hi < x
    · rw [if_pos h2]
      exact ⟨fun _ r => by have := Int32.lt_iff_toInt_lt.mp h2; omega, fun _ => rfl⟩
    · rw [if_neg h2]
      have n1 : ¬ x.toInt < lo.toInt := fun q => h1 (Int32.lt_iff_toInt_lt.mpr q)
      have n2 : ¬ hi.toInt < x.toInt := fun q => h2 (Int32.lt_iff_toInt_lt.mpr q)
      exact ⟨fun q => absurd q (by decide), fun q => absurd ⟨by omega, by omega⟩ q⟩
theorem isc_ok (hA : LAN 8 P M) (hw : wh4 P) : G_126 M c 0 (G_6 M 8 - 1) = 0 ↔ ¬ inC P c := by
  obtain ⟨_, c256, c16⟩ := cls_int hw
  have hg := g6_ok hw hA.1.1 hA.1.2.1
  have e1 : (G_6 M 8 - 1).toInt = (clsP P : Int) - 1 := by rw [i32_m1 (by omega)]; omega
  rw [g126_R]
  unfold inX inC
  have t0 : (0 : Int32).toInt = 0 := rfl
  rw [e1, t0]
  constructor
  · exact fun q r => q ⟨r.1, by omega⟩
  · exact fun q r => q ⟨r.1, by omega⟩
theorem hsd_l (hS : SQ M) (hL : gNth sT L = some 8) (hA : LAN L P M) (n9 : (P 2).toInt ≤ 9) : ∀ (n k : Nat) (kz : Int32), kz.toInt = (k : Int) → (k : Int) + (n : Int) = (P 2).toInt → Ev none e 9 2 [some (.ref L), some (.int c), some (.int kz)] [] M v M' 0 0 → M' = M ∧ v = some (.int (bI (hdP P c n k))) := by
  have e2 : zI M L 11 = P 2 := hA.1.2.2.1.1
  intro n
  induction n with
  | zero =>
    intro k kz hk hn H
    rcases hsd_2 hS hL H with ⟨_, r1, r2⟩ | ⟨a1, _⟩ | ⟨a1, _⟩
    · exact ⟨r2, r1⟩
    all_goals exact absurd (Int32.le_iff_toInt_le.mpr (by rw [e2]; omega)) a1
  | succ n ih =>
    intro k kz hk hn H
    have er : rI M (L + 9) kz = P (3 + k) := (rI_n hk).trans (hA.1.2.2.1.2 k (by omega))
    unfold hdP
    rcases hsd_2 hS hL H with ⟨a1, _⟩ | ⟨_, a2, _, r1, r2⟩ | ⟨_, a2, _, H⟩
    · have := Int32.le_iff_toInt_le.mp a1
      rw [e2] at this
      omega
    · rw [er] at a2
      rw [if_pos a2]
      exact ⟨r2, r1⟩
    · rw [er] at a2
      rw [if_neg a2]
      exact ih (k + 1) (kz + 1) (by rw [i32_p1 (by omega)]; omega) (by omega) H
theorem hsd_ok (hS : SQ M) (hL : gNth sT L = some 8) (hA : LAN L P M) (hD : okD P) (H : Ev none e 9 0 [some (.ref L), some (.int c), none] [] M v M' 0 0) : M' = M ∧ v = some (.int (bI (hasP P c))) := hsd_l hS hL hA hD.2.1.2.1 (P 2).toInt.toNat 0 0 rfl (by have := hD.2.1.1; omega) (hsd_0 hS hL H)
theorem okA.lo (h : okA P) (hD : okD Q) (hK : okK Q) (h0 : Q 0 = P 0) (h1 : Q 1 = P 1) (hs : ∀ j, 518 ≤ j → Q j = P j) : okA Q := by
  obtain ⟨a1, a2, a3, a4⟩ := h
  have e := hs 518 (by decide)
  refine ⟨hD, hK, by rw [e]; exact a3, ?_⟩
  rw [e]
  exact a4.sb h0 h1 (fun j hj => hs j (by omega))
/-- a land: what changed is told -/
theorem LAN.lo (hA : LAN L P M) (hF : FZ F W O M M') (h0 : Q 0 = P 0) (h1 : Q 1 = P 1) (hs : ∀ j, 157 ≤ j → Q j = P j) (fp : ∀ a k, L ≤ a → a < L + 96 → F a k → (a = L ∧ (k = 11 ∨ k = 13)) ∨ (L + 12 ≤ a ∧ a < L + 36)) (fw : ∀ a, W a → a = L + 9 ∨ a < L + 1 ∨ L + 9 < a) (o0 : ¬ O (L + 11)) (hk : WKs L M) (k60 : (P 157).toInt ≤ 60) (hd : zI M' L 11 = Q 2 ∧ ∀ d, d < (Q 2).toInt.toNat → rN M' (L + 9) d = Q (3 + d)) (hw : zI M' L 13 = Q 12 ∧ ∀ k, k < (Q 12).toInt.toNat → ∀ f, f < 6 → zI M' (L + 12 + k) f = Q (13 + 6 * k + f)) : LAN L Q M' := by
  obtain ⟨⟨a0, a1, _, _, _⟩, ⟨b1, b2, b3, b4⟩, hC, ⟨l1, l2⟩, hcr⟩ := hA
  have zL : ∀ k, k ≠ 11 → k ≠ 13 → zI M' L k = zI M L k := fun k n1 n3 => hF.fi (fun q => by have := fp L k (by omega) (by omega) q; omega)
  have rr : ∀ f, 1 ≤ f → f ≤ 8 → ∀ j, rN M' (L + f) j = rN M (L + f) j := fun f f1 f8 j => hF.rn (fun q => by have := fw _ q; omega)
  have e157 := hs 157 (by decide)
  refine ⟨⟨(zL 0 (by decide) (by decide)).trans (a0.trans h0.symm), (zL 1 (by decide) (by decide)).trans (a1.trans h1.symm), hd, hw.1, hw.2⟩, ⟨(zL 16 (by decide) (by decide)).trans (b1.trans (hs _ (by decide)).symm), (zL 17 (by decide) (by decide)).trans (b2.trans (hs _ (by decide)).symm), (zL 18 (by decide) (by decide)).trans (b3.trans (hs _ (by decide)).symm), (zL 19 (by decide) (by decide)).trans (b4.trans (hs _ (by decide)).symm)⟩, fun k f hk hf => ?_, ⟨(zL 15 (by decide) (by decide)).trans (l1.trans e157.symm), fun k hkk => ?_⟩, fun c hc => ?_⟩
  · rw [cls_eq h0 h1] at hk
    have q := rr (1 + f) (by omega) (by omega) k
    rw [← Nat.add_assoc] at q
    exact q.trans ((hC k f hk hf).trans (hs _ (by omega)).symm)
  · rw [e157] at hkk
    have bq := hk.2 k (by omega)
    rw [hF.on o0]
    exact (l2 k hkk).eq (fun f _ => hF.fi (fun q => by have := fp _ _ (by omega) (by omega) q; omega)) (fun j hj => hs _ (by omega))
  · rw [inC.eq h0 h1] at hc
    have q : rI M' (L + 8) c = rI M (L + 8) c := rr 8 (by decide) (by decide) _
    rw [q, e157, hcr c hc]
    exact (crd_congr _ (fun k hk => hs _ (by omega))).symm
end CCAL
