/-! THE CLASS'S tread -/
section TRE
variable {e L : Nat} {T : TS} {g q : TQ} {P P' : PK} {M M1 M' : Mem} {v : Option Value} {c d : Int32}
theorem tr_cong (h : ∀ f, f < 7 → cE P' f c = cE P f c) (k : Cdq) : trP g P' c k = trP g P c k := by
  unfold trP
  rw [h 0 (by decide), h 1 (by decide), h 2 (by decide), h 3 (by decide), h 4 (by decide), h 5 (by decide)]
theorem ev_cong {tr tr' : Cdq → Bool} (h : ∀ k, tr' k = tr k) (cs : List Cdq) (st : List Bool) : evC tr' cs st = evC tr cs st := by
  have : tr' = tr := funext h
  rw [this]
theorem hld_cong (h : ∀ f, f < 7 → cE P' f c = cE P f c) (l : Lnq) : hldP g P' q l c = hldP g P q l c := by
  unfold hldP
  rw [ev_cong (tr_cong h)]
theorem nev_cong (h : ∀ f, f < 7 → cE P' f c = cE P f c) : ∀ ls, nevL g P' q c ls = nevL g P q c ls := by
  intro ls
  induction ls with
  | nil => rfl
  | cons l r ih =>
    unfold nevL
    rw [hld_cong h, ih]
theorem sum_cong (h : ∀ f, f < 7 → cE P' f c = cE P f c) {m : Int32} : ∀ ls s, sumL g P' q c m ls s = sumL g P q c m ls s := by
  intro ls
  induction ls with
  | nil => intro s; rfl
  | cons l r ih =>
    intro s
    unfold sumL
    rw [hld_cong h]
    exact ih _
theorem fst_cong (h : ∀ f, f < 7 → cE P' f c = cE P f c) {k d : Int32} : ∀ ls, fstL g P' k c d ls = fstL g P k c d ls := by
  intro ls
  induction ls with
  | nil => rfl
  | cons l r ih =>
    unfold fstL
    rw [hld_cong h, ih]
theorem OKv.cong {h : Nat} (hh : ∀ f, f < 7 → cE P' f c = cE P f c) (hK : OKv T P M h c) : OKv T P' M h c := by
  refine ⟨?_, fun m hm => ?_⟩
  · rw [nev_cong hh]
    exact hK.1
  · rw [sum_cong hh]
    exact hK.2 m hm
def trF (a k : Nat) : Prop := a = 104 ∧ k = 10
def trW (L a : Nat) : Prop := a = L + 4 ∨ a = L + 6 ∨ a = L + 7 ∨ a = 128
theorem tre_l (hc : inC P c) (hw : wh4 P) : ∀ (n kk : Nat) (k : Int32) (M : Mem), SQ M → k.toInt = (kk : Int) → kk + n = 6 → Ev none e 62 73 [some (.ref 104), some (.int c), some (.int k)] [] M v M' 0 0 → v = none ∧ SQ M' ∧ FZ trF (fun a => a = 128) noO M M' ∧ (∀ h, kk ≤ h → h < 6 → rN M' 128 (ixA h c) = -1) ∧ (∀ j, (∀ h, kk ≤ h → h < 6 → j ≠ ixA h c) → rN M' 128 j = rN M 128 j) ∧ zI M' 104 10 = if c = zI M 104 9 then 1 else zI M 104 10 := by
  obtain ⟨c0, _, c2⟩ := hc.lt hw
  have e6 : (6 : Int32).toInt = 6 := rfl
  have e256 : (256 : Int32).toInt = 256 := rfl
  intro n
  induction n with
  | zero =>
    intro kk k M hS hk hn H
    rcases tre_73 hS H with ⟨_, a2, h1, h2⟩ | ⟨_, a2, h1, h2⟩ | ⟨a1, _⟩
    · subst h2
      refine ⟨h1, hS.kf, FZ.wF ⟨rfl, rfl⟩, fun h h3 h4 => absurd h4 (by omega), fun j _ => rN_wF, ?_⟩
      rw [if_pos a2]
      exact fI_wF_eq hS.1 qa_104 qi_22_10
    · subst h2
      refine ⟨h1, hS, FZ.refl _, fun h h3 h4 => absurd h4 (by omega), fun j _ => rfl, ?_⟩
      rw [if_neg a2]
    · exact absurd (Int32.le_iff_toInt_le.mpr (by omega)) a1
  | succ n ih =>
    intro kk k M hS hk hn H
    rcases tre_73 hS H with ⟨a1, _⟩ | ⟨a1, _⟩ | ⟨_, _, H⟩
    · have := Int32.le_iff_toInt_le.mp a1
      omega
    · have := Int32.le_iff_toInt_le.mp a1
      omega
    · have hx : ((256 * k) + c).toNatClampNeg = ixA kk c := cl_n (ix_av hw hc hk (by omega)).1
      rw [hx] at H
      obtain ⟨r1, r2, r3, r4, r5, r6⟩ := ih (kk + 1) (k + 1) _ hS.ki (by rw [i32_p1 (by omega)]; omega) (by omega) H
      have hlt : ixA kk c < (zrw M 128).length := by
        rw [row128 hS.1]
        unfold ixA
        omega
      have hFw : FZ trF (fun a => a = 128) noO M (wI M 128 (ixA kk c) (-1)) := FZ.wI (W := fun a => a = 128) rfl
      refine ⟨r1, r2, hFw.trans r3, fun h h3 h4 => ?_, fun j hj => ?_, ?_⟩
      · by_cases hh : h = kk
        · subst hh
          rw [r5 _ (fun h5 h6 h7 q => by unfold ixA at q; omega)]
          exact rN_wI_eq hlt
        · exact r4 h (by omega) h4
      · rw [r5 j (fun h h3 h4 => hj h (by omega) h4)]
        exact rN_wI_ne (fun q => hj kk (by omega) (by omega) q.2)
      · rw [r6, fI_wI, fI_wI]
theorem ld_rw8 (hS : SH M) (hL : gNth sT L = some 8) : ∀ f, f < 8 → (zrw M (L + 1 + f)).length = 256 := by
  intro f hf
  match f, hf with
  | 0, _ => exact (hS.row (fx_h2 hL) qw_9).2
  | 1, _ => exact (hS.row (fx_h3 hL) qw_10).2
  | 2, _ => exact (hS.row (fx_h4 hL) qw_11).2
  | 3, _ => exact (hS.row (fx_h5 hL) qw_12).2
  | 4, _ => exact (hS.row (fx_h6 hL) qw_13).2
  | 5, _ => exact (hS.row (fx_h7 hL) qw_14).2
  | 6, _ => exact (hS.row (fx_h8 hL) qw_15).2
  | 7, _ => exact (hS.row (fx_h9 hL) qw_16).2
theorem ld_rw7 (hS : SH M) (hL : gNth sT L = some 8) {f : Nat} (hf : f < 7) : (zrw M (L + 1 + f)).length = 256 := ld_rw8 hS hL f (by omega)
theorem LCel.up {f : Nat} {x : Int32} (hS : SQ M) (hL : gNth sT L = some 8) (h : LCel L P M) (hw : wh4 P) (hc : inC P c) (hf : f < 7) : LCel L (uPk P (cX f c) x) (wI M (L + 1 + f) c.toNatClampNeg x) := by
  obtain ⟨_, c256, _⟩ := cls_int hw
  intro k f' hk hf'
  have e0 : uPk P (cX f c) x 0 = P 0 := up_ne (by have := cX_ge (f := f) (c := c); omega)
  have e1 : uPk P (cX f c) x 1 = P 1 := up_ne (by have := cX_ge (f := f) (c := c); omega)
  rw [cls_eq e0 e1] at hk
  have ec : c.toNatClampNeg = c.toInt.toNat := rfl
  rw [ec]
  by_cases hx : f' = f ∧ k = c.toInt.toNat
  · obtain ⟨rfl, rfl⟩ := hx
    rw [rN_wI_eq (by rw [ld_rw7 hS.1 hL hf]; have := hc.2; omega)]
    exact up_eq.symm
  · rw [rN_wI_ne (fun q => hx ⟨by omega, q.2⟩), up_ne (fun q => hx (by unfold cX at q; omega))]
    exact h k f' hk hf'
theorem tread_ok (hX : CTX L T P M) (hV : VC T P M) (hc : inC P c) (H : Ev none e 62 0 [some (.ref 104), some (.int c), none] [] M v M' 0 0) : v = none ∧ SQ M' ∧ FZ trF (trW L) noO M M' ∧ LCel L (trdP (T 0) P c) M' ∧ VC T (trdP (T 0) P c) M' ∧ zI M' 104 10 = if c = zI M 104 9 then 1 else zI M 104 10 := by
  have hS := hX.1.1
  have hL := hX.1.2.1
  have hT := hX.1.2.2.1
  have hC := hX.1.2.2.2.2.2.2
  have hw := hX.2.1
  have st : ∃ M1, SQ M1 ∧ FZ trF (trW L) noO M M1 ∧ (∀ j, rN M1 128 j = rN M 128 j) ∧ LCel L (weaP (T 0) P c) M1 ∧ (∀ k, zI M1 104 k = zI M 104 k) ∧ ∃ c2, Ev none e 62 45 [some (.ref 104), some (.int c), c2] [] M1 v M' 0 0 ∨ (M1 = M ∧ Ev none e 62 73 [some (.ref 104), some (.int c), some (.int 0)] [] (wI (wI M (fR M 104 7 + 6) c.toNatClampNeg ((rI M (fR M 104 7 + 6) c) + 1)) (fR M 104 7 + 7) c.toNatClampNeg ((rI M (fR M 104 7 + 7) c) + 1)) v M' 0 0) := by
    rcases tre_0 hS H with ⟨a1, _, _, _, _, H⟩ | ⟨a1, e1, v1, M1, rfl, H1, H⟩
    · rw [hL, g8_ok hX.1 hc, bI_0] at a1
      refine ⟨M, hS, FZ.refl _, fun _ => rfl, ?_, fun _ => rfl, none, Or.inr ⟨rfl, H⟩⟩
      unfold weaP
      rw [if_neg (by rw [a1]; decide)]
      exact hC
    · rw [hL, g8_ok hX.1 hc, bI_0, Bool.not_eq_false] at a1
      obtain ⟨rfl, rfl⟩ := fnb_ok hX hc H1
      obtain ⟨_, _, H⟩ := tre_18 hS H
      rw [hL] at H
      have r3 : rI M1 (L + 4) c = cE P 3 c := hC.at hc (f := 3) (by decide)
      refine ⟨_, hS.ki, FZ.wI (Or.inl rfl), fun j => rN_wI_ne (fun q => lk_ld hT 4 (by decide) (Or.inl q.1.symm)), ?_, fun k => fI_wI, _, Or.inl H⟩
      unfold weaP
      rw [if_pos a1, r3]
      have hx : (if ((cE P 3 c) + fstL (T 0) P 0 c 5 (T 0).2) < 999 then ((cE P 3 c) + fstL (T 0) P 0 c 5 (T 0).2) else 999) = (if 999 < cE P 3 c + fstL (T 0) P 0 c 5 (T 0).2 then 999 else cE P 3 c + fstL (T 0) P 0 c 5 (T 0).2) := by
        obtain ⟨z, ez⟩ : ∃ z, z = cE P 3 c + fstL (T 0) P 0 c 5 (T 0).2 := ⟨_, rfl⟩
        rw [← ez]
        by_cases h1 : z < 999
        · rw [if_pos h1, if_neg (fun q => by rw [Int32.lt_iff_toInt_lt] at h1 q; omega)]
        · rw [if_neg h1]
          by_cases h2 : 999 < z
          · rw [if_pos h2]
          · rw [if_neg h2]
            exact Int32.toInt_inj.mp (by rw [Int32.lt_iff_toInt_lt] at h1 h2; omega)
      rw [hx]
      exact LCel.up hS hT hC hw hc (f := 3) (by decide)
  obtain ⟨M1, s1, s2, s3, s4, s5, c2, H⟩ := st
  have hL1 : fR M1 104 7 = L := by rw [s2.fr (fun q => by have := q.2; omega)]; exact hL
  have H : Ev none e 62 73 [some (.ref 104), some (.int c), some (.int 0)] [] (wI (wI M1 (L + 6) c.toNatClampNeg ((rI M1 (L + 6) c) + 1)) (L + 7) c.toNatClampNeg ((rI M1 (L + 7) c) + 1)) v M' 0 0 := by
    rcases H with H | ⟨rfl, H⟩
    · obtain ⟨_, _, _, _, H⟩ := tre_45 s1 H
      rw [hL1] at H
      exact H
    · rw [hL] at H
      exact H
  have w0 : weaP (T 0) P c 0 = P 0 := by
    unfold weaP
    split
    · exact up_ne (by have := cX_ge (f := 3) (c := c); omega)
    · rfl
  have w1 : weaP (T 0) P c 1 = P 1 := by
    unfold weaP
    split
    · exact up_ne (by have := cX_ge (f := 3) (c := c); omega)
    · rfl
  have hwW : wh4 (weaP (T 0) P c) := hw.eq w0 w1
  have hcW : inC (weaP (T 0) P c) c := (inC.eq w0 w1).mpr hc
  have r5 : rI M1 (L + 6) c = cE (weaP (T 0) P c) 5 c := s4.at hcW (f := 5) (by decide)
  have r6 : rI M1 (L + 7) c = cE (weaP (T 0) P c) 6 c := s4.at hcW (f := 6) (by decide)
  have t5 := LCel.up (x := cE (weaP (T 0) P c) 5 c + 1) s1 hT s4 hwW hcW (f := 5) (by decide)
  have x0 : uPk (weaP (T 0) P c) (cX 5 c) (cE (weaP (T 0) P c) 5 c + 1) 0 = weaP (T 0) P c 0 := up_ne (by have := cX_ge (f := 5) (c := c); omega)
  have x1 : uPk (weaP (T 0) P c) (cX 5 c) (cE (weaP (T 0) P c) 5 c + 1) 1 = weaP (T 0) P c 1 := up_ne (by have := cX_ge (f := 5) (c := c); omega)
  have e6 : cE (uPk (weaP (T 0) P c) (cX 5 c) (cE (weaP (T 0) P c) 5 c + 1)) 6 c = cE (weaP (T 0) P c) 6 c := by
    rw [cE_up (by decide) (by decide) hc.1 hc.1, if_neg (fun q => absurd q.1 (by decide))]
  have t6 := LCel.up (x := cE (weaP (T 0) P c) 6 c + 1) s1.ki hT t5 (hwW.eq x0 x1) ((inC.eq x0 x1).mpr hcW) (f := 6) (by decide)
  have hP : trdP (T 0) P c = uPk (uPk (weaP (T 0) P c) (cX 5 c) (cE (weaP (T 0) P c) 5 c + 1)) (cX 6 c) (cE (weaP (T 0) P c) 6 c + 1) := by
    unfold trdP
    rw [e6]
  rw [← hP] at t6
  rw [r5, r6] at H
  have hF2 : FZ trF (trW L) noO M1 (wI (wI M1 (L + 6) c.toNatClampNeg (cE (weaP (T 0) P c) 5 c + 1)) (L + 7) c.toNatClampNeg (cE (weaP (T 0) P c) 6 c + 1)) := (FZ.wI (Or.inr (Or.inl rfl))).trans (FZ.wI (Or.inr (Or.inr (Or.inl rfl))))
  have n6 : (128 : Nat) ≠ L + 6 := fun q => lk_ld hT 6 (by decide) (Or.inl q.symm)
  have n7 : (128 : Nat) ≠ L + 7 := fun q => lk_ld hT 7 (by decide) (Or.inl q.symm)
  obtain ⟨r1, r2, r3, r4, r5', r6'⟩ := tre_l hc hw 6 0 0 _ s1.ki.ki rfl rfl H
  have hF3 := (s2.trans hF2).trans (r3.more (fun _ _ q => q) (fun _ q => Or.inr (Or.inr (Or.inr q))) (fun _ q => q))
  refine ⟨r1, r2, hF3, fun k f hk hf => ?_, fun h c' hh hc' => ?_, ?_⟩
  · rw [show L + 1 + f = L + (1 + f) from by omega, r3.rn (fun q => lk_ld hT (1 + f) (by omega) (Or.inl q)), ← show L + 1 + f = L + (1 + f) from by omega]
    exact t6 k f hk hf
  · have p0 : trdP (T 0) P c 0 = P 0 := trd_lo (by decide)
    have p1 : trdP (T 0) P c 1 = P 1 := trd_lo (by decide)
    have hc2 : inC P c' := (inC.eq p0 p1).mp hc'
    obtain ⟨_, c256, _⟩ := cls_int hw
    have b1 := hc.2
    have b2 := hc2.2
    by_cases hcc : c' = c
    · subst hcc
      exact Or.inl (r4 h (Nat.zero_le _) hh)
    · have hj : ∀ h2, 0 ≤ h2 → h2 < 6 → ixA h c' ≠ ixA h2 c := fun h2 _ h3 q => hcc (by
        unfold ixA at q
        refine Int32.toInt_inj.mp ?_
        have := Int.toNat_of_nonneg hc.1
        have := Int.toNat_of_nonneg hc2.1
        omega)
      have hsame : ∀ f, f < 7 → cE (trdP (T 0) P c) f c' = cE P f c' := fun f hf => by
        rw [trd_E hc.1 hc2.1 hf, if_neg (fun q => hcc q.2), if_neg (fun q => hcc q.2), wea_E hc.1 hc2.1 hf, if_neg (fun q => hcc q.2.1)]
      have hv : rN M' 128 (ixA h c') = rN M 128 (ixA h c') := by
        rw [r5' _ hj, rN_wI_ne (fun q => n7 q.1), rN_wI_ne (fun q => n6 q.1), s3]
      have hs : ∀ m, m < 7 → rN M' (130 + m) (ixA h c') = rN M (130 + m) (ixA h c') := fun m hm => by
        have n8 : ¬ trW L (130 + m) := fun q => by
          rcases q with q | q | q | q
          · exact lk_ld hT 4 (by decide) (Or.inr ⟨by omega, by omega⟩)
          · exact lk_ld hT 6 (by decide) (Or.inr ⟨by omega, by omega⟩)
          · exact lk_ld hT 7 (by decide) (Or.inr ⟨by omega, by omega⟩)
          · omega
        exact hF3.rn n8
      rcases hV h c' hh hc2 with q | q
      · exact Or.inl (hv.trans q)
      · refine Or.inr (OKv.cong hsame ⟨hv.trans q.1, fun m hm => (hs m hm).trans (q.2 m hm)⟩)
  · rw [r6', fI_wI, fI_wI, fI_wI, fI_wI, s5, s5]
end TRE
