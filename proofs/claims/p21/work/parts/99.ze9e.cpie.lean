/-! THE CLASS'S pieces -/
noncomputable def prW (g : TQ) (P : PK) : ROW := fun c => if wrnB g P (nI c) = true then 0 else 1000000
def ed0 (g : TQ) (P : PK) : EDG := edC P (prW g P) 0 0
noncomputable def set0 (f : ROW) (c : Nat) : ROW := fun x => if x = c then 0 else f x
/-- how many PIECES: r -/
def pieR (g : TQ) (P : PK) : Nat → Nat → ROW → Int32 → Int32 → Prop
  | 0, _, _, k, r => r = k
  | q + 1, c, f, k, r => ((wrnB g P (nI c) = true ∧ ¬ f c = 0) ∧ ∃ h, GfE (ed0 g P) (clsP P) (set0 f c) h ∧ pieR g P q (c + 1) h (k + 1) r) ∨ (¬ (wrnB g P (nI c) = true ∧ ¬ f c = 0) ∧ pieR g P q (c + 1) f k r)
section CPIE
variable {e a b cn n k r L : Nat} {T : TS} {g : TQ} {P : PK} {PI : Nat → PK} {pr v0 w0 f0 f f2 h : ROW} {M M0 M1 M' : Mem} {v : Option Value} {E : EDG}
theorem GfE.congr (h : GfE E n v0 f) (e : ∀ c, c < n → v0 c = w0 c) : GfE E n w0 f := ⟨⟨fun c hc => by rw [← e c hc]; exact h.1.1 c hc, fun u h1 h2 => h.1.2 u h1 (fun c hc => by rw [e c hc]; exact h2 c hc)⟩, h.2⟩
theorem pieR_uniq : ∀ (q c : Nat) (f f2 : ROW) (k r r2 : Int32), c + q = clsP P → (∀ x, x < clsP P → f x = f2 x) → pieR g P q c f k r → pieR g P q c f2 k r2 → r = r2 := by
  intro q
  induction q with
  | zero =>
    intro c f f2 k r r2 _ _ h1 h2
    exact (show r = k from h1).trans (show r2 = k from h2).symm
  | succ q ih =>
    intro c f f2 k r r2 hc hf h1 h2
    have e := hf c (by omega)
    rcases h1 with ⟨a1, h, h3, h4⟩ | ⟨a1, h4⟩ <;> rcases h2 with ⟨b1, h', h5, h6⟩ | ⟨b1, h6⟩
    · refine ih (c + 1) h h' (k + 1) r r2 (by omega) ((h3.congr (fun x hx => ?_)).uniq h5) h4 h6
      unfold set0
      rw [hf x hx]
    · rw [e] at a1
      exact absurd a1 b1
    · rw [e] at a1
      exact absurd b1 a1
    · exact ih (c + 1) f f2 k r r2 (by omega) hf h4 h6
theorem ed0_w {o : Nat} {c : Nat} {w : Int} (h : ed0 g P c o w) : w = 0 ∧ wrnB g P (nI c) = true := by
  obtain ⟨h1, d, _, _, h4⟩ := h
  unfold prW at h1 h4
  by_cases q : wrnB g P (nI c) = true
  · rw [if_pos q] at h4
    refine ⟨?_, q⟩
    rw [h4]
    split <;> rfl
  · rw [if_neg q] at h1
    exact absurd h1 (by decide)
theorem g43 (h : gNth sT a = some 43) : 193 ≤ a ∧ a < 243 := by
  have hl := gNth_lt _ _ _ h
  rw [st_len] at hl
  obtain ⟨x, h1, h2⟩ := net_g hl
  rw [h] at h1
  cases h1
  exact h2 (by decide)
theorem aw_nt (h : gNth sT a = some 43) (hF : FZ noF (aW a) noO M M') : FZ netF netW netW M M' := hF.more (fun _ _ q => q.elim) (fun x q => by
  have := g43 h
  have q : x = a := q
  unfold netW
  omega) (fun _ q => q.elim)
theorem pw_eq (hS : SQ M) (hc : cn < 256) (x : Int32) : rwI (wI M 195 cn x) 195 cn = x.toInt := by
  unfold rwI
  rw [rN_wI_eq (by rw [(hS.1.row qa_195 qw_44).2]; exact hc)]
theorem pn_ne {x : Int32} (h : ¬ b = a) : rwI (wI M a cn x) b k = rwI M b k := by
  unfold rwI
  rw [rN_wI_ne (fun q => h q.1)]
/-- the prices, the row -/
theorem prt_a (hD : okD P) (a_a : gNth sT a = some 43) {fz : Int32} : ∀ (r cn : Nat) (M : Mem), cn + r = clsP P → STA 8 T P M → fR M 192 1 = a → (∀ c, c < cn → rwI M 195 c = prW (T 0) P c ∧ rwI M a c = 1000000) → Ev none e 18 15 [some (.ref 192), some (.int (nI (clsP P))), some (.int fz), some (.int (nI cn))] [] M v M' 0 0 → ∃ M2, STA 8 T P M2 ∧ fR M2 192 1 = a ∧ FZ netF netW netW M M2 ∧ (∀ c, c < clsP P → rwI M2 195 c = prW (T 0) P c ∧ rwI M2 a c = 1000000) ∧ Ev none e 18 59 [some (.ref 192), some (.int (nI (clsP P))), some (.int fz), some (.int 0)] [] M2 v M' 0 0 := by
  have hw := hD.1
  obtain ⟨_, c256, _⟩ := cls_int hw
  have tn : (nI (clsP P)).toInt = (clsP P : Int) := nI_toInt (by omega)
  have na : ¬ a = 195 := fun q => ne_43 a_a qa_195 (by decide) q.symm
  intro r
  induction r with
  | zero =>
    intro cn M hr hX ha hp H
    have ec : cn = clsP P := by omega
    rcases prt_15 hX.1.1.1 H with ⟨_, H⟩ | ⟨a1, _⟩ | ⟨a1, _⟩
    · exact ⟨M, hX, ha, FZ.refl _, fun c hc => hp c (by omega), H⟩
    all_goals exact absurd (Int32.le_iff_toInt_le.mpr (by rw [tn, nI_toInt (by omega)]; omega)) a1
  | succ r ih =>
    intro cn M hr hX ha hp H
    obtain ⟨ic, tc, c2⟩ := nIin hw (show cn < clsP P by omega)
    have ew : G_56 M (nI cn) = bI (wrnB (T 0) P (nI cn)) := g56_ok hX.1.1 ic
    have hS := hX.1.1.1
    have nx : ∀ (x : Int32), x.toInt = prW (T 0) P cn → Ev none e 18 15 [some (.ref 192), some (.int (nI (clsP P))), some (.int fz), some (.int (nI cn + 1))] [] (wI (wI M 195 (nI cn).toNatClampNeg x) (fR M 192 1) (nI cn).toNatClampNeg 1000000) v M' 0 0 → ∃ M2, STA 8 T P M2 ∧ fR M2 192 1 = a ∧ FZ netF netW netW M M2 ∧ (∀ c, c < clsP P → rwI M2 195 c = prW (T 0) P c ∧ rwI M2 a c = 1000000) ∧ Ev none e 18 59 [some (.ref 192), some (.int (nI (clsP P))), some (.int fz), some (.int 0)] [] M2 v M' 0 0 := fun x hx H => by
      rw [cl_n tc, ha, nI_p1 (by omega)] at H
      have g := g43 a_a
      have F1 : FZ netF netW netW M (wI M 195 cn x) := FZ.wI (by unfold netW; omega)
      have F2 : FZ netF netW netW (wI M 195 cn x) (wI (wI M 195 cn x) a cn 1000000) := FZ.wI (by unfold netW; omega)
      have F := F1.trans F2
      have S1 : SQ (wI M 195 cn x) := hS.ki
      obtain ⟨M2, q1, q2, q3, q4, q5⟩ := ih (cn + 1) _ (by omega) (hX.nt hD S1.ki F) ((F.fr (by unfold netF; omega)).trans ha) (fun c hc => by
        by_cases q : c = cn
        · rw [q, rw_eq S1 a_a c2, pn_ne (fun q => na q.symm), pw_eq hS c2]
          exact ⟨hx, rfl⟩
        · rw [rw_ne q, pn_ne (fun q => na q.symm), rw_ne q, pn_ne na]
          exact hp c (by omega)) H
      exact ⟨M2, q1, q2, F.trans q3, q4, q5⟩
    rcases prt_15 hS H with ⟨a1, _⟩ | ⟨_, a2, _, _, H⟩ | ⟨_, a2, _, _, H⟩
    · have := Int32.le_iff_toInt_le.mp a1
      rw [tn, tc] at this
      omega
    · rw [ew, bI_0] at a2
      exact nx 1000000 (by unfold prW; rw [a2, if_neg (by decide)]; rfl) H
    · rw [ew, bI_0, Bool.not_eq_false] at a2
      exact nx 0 (by unfold prW; rw [if_pos a2]; rfl) H
/-- piece by piece -/
theorem prt_l (hD : okD P) (a_a : gNth sT a = some 43) : ∀ (q cn : Nat) (M : Mem) (kz : Int32), cn + q = clsP P → STA 8 T P M → fR M 192 1 = a → NB P (prW (T 0) P) M → (∀ c, c < clsP P → rwI M a c = 0 ∨ rwI M a c = 1000000) → Ev none e 18 59 [some (.ref 192), some (.int (nI (clsP P))), some (.int kz), some (.int (nI cn))] [] M v M' 0 0 → ∃ r, v = some (.int r) ∧ pieR (T 0) P q cn (rwI M a) kz r := by
  have hw := hD.1
  obtain ⟨_, c256, _⟩ := cls_int hw
  have tn : (nI (clsP P)).toInt = (clsP P : Int) := nI_toInt (by omega)
  have tF : (1000000 : Int32).toInt = 1000000 := rfl
  have na : ¬ a = 195 := fun q => ne_43 a_a qa_195 (by decide) q.symm
  intro q
  induction q with
  | zero =>
    intro cn M kz hr hX ha hN h2 H
    rcases prt_59 hX.1.1.1 H with ⟨_, r1, r2⟩ | ⟨a1, _⟩ | ⟨a1, _⟩ | ⟨a1, _⟩
    · exact ⟨kz, r1, rfl⟩
    all_goals exact absurd (Int32.le_iff_toInt_le.mpr (by rw [tn, nI_toInt (by omega)]; omega)) a1
  | succ q ih =>
    intro cn M kz hr hX ha hN h2 H
    have hc : cn < clsP P := by omega
    obtain ⟨ic, tc, c2⟩ := nIin hw hc
    have hS := hX.1.1.1
    have ep : (rI M 195 (nI cn)).toInt = prW (T 0) P cn := by
      rw [rI_n tc]
      exact (hN.2.2 cn hc).1
    have er : (rI M a (nI cn)).toInt = rwI M a cn := by
      rw [rI_n tc]
      rfl
    have wp : 1000000 ≤ prW (T 0) P cn ↔ ¬ wrnB (T 0) P (nI cn) = true := by
      unfold prW
      by_cases z : wrnB (T 0) P (nI cn) = true
      · rw [if_pos z]
        exact ⟨fun y => absurd y (by decide), fun y => absurd z y⟩
      · rw [if_neg z]
        exact ⟨fun _ => z, fun _ => Int.le_refl _⟩
    rcases prt_59 hS H with ⟨a1, _⟩ | ⟨_, a2, _, H⟩ | ⟨_, a2, a3, _, _, _, e1, v1, M1, _, H1, H⟩ | ⟨_, a2, a3, _, _, H⟩
    · have := Int32.le_iff_toInt_le.mp a1
      rw [tn, tc] at this
      omega
    · have a2 := Int32.le_iff_toInt_le.mp a2
      rw [tF, ep, wp] at a2
      rw [nI_p1 (by omega)] at H
      obtain ⟨r, r1, r2⟩ := ih (cn + 1) M kz (by omega) hX ha hN h2 H
      exact ⟨r, r1, Or.inr ⟨fun z => a2 z.1, r2⟩⟩
    · rw [Int32.le_iff_toInt_le, tF, ep, wp, Classical.not_not] at a2
      rw [ha] at a3 H1
      have fz : ¬ rwI M a cn = 0 := fun z => by
        rw [a3, tF, z] at er
        exact absurd er (by decide)
      rw [cl_n tc] at H1
      have S1 : SQ (wI M a cn 0) := hS.ki
      have F1 : FZ noF (aW a) noO M (wI M a cn 0) := FZ.wI rfl
      have N1 := hN.fz S1 a_a F1
      have X1 := hX.nt hD S1 (aw_nt a_a F1)
      have hg : G_6 (wI M a cn 0) (fR (wI M a cn 0) 104 7) = nI (clsP P) := by
        rw [X1.1.1.2.1]
        exact Int32.toInt_inj.mp (by rw [g6_ok hw X1.2.2.1.1 X1.2.2.1.2.1, tn])
      have e0 : ∀ x, x < clsP P → rwI (wI M a cn 0) a x = set0 (rwI M a) cn x := fun x hx => by
        unfold set0
        by_cases z : x = cn
        · rw [if_pos z, z, rw_eq hS a_a c2]
          rfl
        · rw [if_neg z, rw_ne z]
      have t2 : ∀ x, x < clsP P → rwI (wI M a cn 0) a x = 0 ∨ rwI (wI M a cn 0) a x = 1000000 := fun x hx => by
        rw [e0 x hx]
        unfold set0
        by_cases z : x = cn
        · rw [if_pos z]
          exact Or.inl rfl
        · rw [if_neg z]
          exact h2 x hx
      have zw : ∀ c o w, c < clsP P → o < clsP P → edC P (prW (T 0) P) (0 : Int32).toInt (0 : Int32).toInt c o w → w = 0 := fun c o w _ _ he => (ed0_w (g := T 0) (P := P) he).1
      obtain ⟨rv, N2, B2, F2, G2, Q2⟩ := spr_ok (v := v1) hw N1 hg a_a ⟨by decide, by decide⟩ ⟨by decide, by decide⟩ (fun x hx => by rcases t2 x hx with z | z <;> rw [z] <;> decide) (fun r f => (∀ c, c < clsP P → f c = 0 ∨ f c = 1000000) ∧ r ≤ ctN (fun c => decide (f c = 0)) (clsP P)) (fun r f g _ hJ hp => by
        obtain ⟨j1, j2⟩ := two_more (F := 1000000) (by decide) hJ.1 zw hp
        exact ⟨j1, by have := hJ.2; omega⟩) (fun f hJ => by
        have h1 := hJ.2
        have h3 := ctN_le (p := fun c => decide (f c = 0)) (clsP P)
        omega) ⟨t2, Nat.zero_le _⟩ H1
      rw [rv] at H
      have H := prt_106 N2.1 H
      rw [nI_p1 (by omega)] at H
      have F3 := aw_nt a_a (F1.trans F2)
      obtain ⟨r, r1, r2⟩ := ih (cn + 1) M1 (kz + 1) (by omega) (hX.nt hD N2.1 F3) ((F3.fr (by unfold netF; omega)).trans ha) N2 (Q2 (fun x => x = 0 ∨ x = 1000000) (fun c o w x hc ho he hx => by rw [zw c o w hc ho he, Int.add_zero]; exact hx) t2) H
      exact ⟨r, r1, Or.inl ⟨⟨a2, fz⟩, rwI M1 a, GfE.congr G2 e0, r2⟩⟩
    · rw [Int32.le_iff_toInt_le, tF, ep, wp, Classical.not_not] at a2
      rw [ha] at a3
      have fz : rwI M a cn = 0 := by
        rcases h2 cn hc with z | z
        · exact z
        · exact absurd (Int32.toInt_inj.mp (by rw [er, z]; rfl)) a3
      rw [nI_p1 (by omega)] at H
      obtain ⟨r, r1, r2⟩ := ih (cn + 1) M kz (by omega) hX ha hN h2 H
      exact ⟨r, r1, Or.inr ⟨fun z => z.2 fz, r2⟩⟩
theorem parts_ok (hD : okD P) (hX : STA 8 T P M) (H : Ev none e 18 0 [some (.ref 192), none, none, none] [] M v M' 0 0) : ∃ r, v = some (.int r) ∧ pieR (T 0) P (clsP P) 0 (fun _ => 1000000) 0 r := by
  have hw := hD.1
  obtain ⟨_, c256, _⟩ := cls_int hw
  have tn : (nI (clsP P)).toInt = (clsP P : Int) := nI_toInt (by omega)
  have hS := hX.1.1.1
  have a_a : gNth sT (fR M 192 1) = some 43 := (hS.1.fr qa_192 qr_41_1).2
  have hg : G_6 M (fR M 104 7) = nI (clsP P) := by
    rw [hX.1.1.2.1]
    exact Int32.toInt_inj.mp (by rw [g6_ok hw hX.2.2.1.1 hX.2.2.1.2.1, tn])
  have H := prt_0 hS H
  rw [hg] at H
  obtain ⟨M2, q1, q2, q3, q4, H⟩ := prt_a hD a_a (clsP P) 0 M (by omega) hX rfl (fun c hc => absurd hc (Nat.not_lt_zero c)) H
  obtain ⟨r, r1, r2⟩ := prt_l hD a_a (clsP P) 0 M2 0 (by omega) q1 q2 ⟨q1.1.1.1, q1.1.2.2.2.2.1, fun c hc => ⟨(q4 c hc).1, by unfold prW; split <;> decide⟩⟩ (fun c hc => Or.inr (q4 c hc).2) H
  refine ⟨r, r1, ?_⟩
  have cg : ∀ (q c : Nat) (f f2 : ROW) (k r : Int32), c + q = clsP P → (∀ x, x < clsP P → f x = f2 x) → pieR (T 0) P q c f k r → pieR (T 0) P q c f2 k r := by
    intro q
    induction q with
    | zero => intro c f f2 k r _ _ h; exact h
    | succ q ih =>
      intro c f f2 k r hc hf h
      have e := hf c (by omega)
      rcases h with ⟨a1, h, h3, h4⟩ | ⟨a1, h4⟩
      · rw [e] at a1
        refine Or.inl ⟨a1, h, h3.congr (fun x hx => ?_), h4⟩
        unfold set0
        rw [hf x hx]
      · rw [e] at a1
        exact Or.inr ⟨a1, ih (c + 1) f f2 k r (by omega) hf h4⟩
  exact cg (clsP P) 0 _ _ 0 r (by omega) (fun x hx => (q4 x hx).2) r2
theorem pieces_ok (h : CST T P PI M) (hI : INV M) (he : 5 ≤ e) (H : Ev none e 98 0 [some (.ref 0)] [] M v M' 0 0) : ∃ r, v = some (.int r) ∧ pieR (T 0) P (clsP P) 0 (fun _ => 1000000) 0 r := by
  obtain ⟨e1, v1, M1, he1, H1, H⟩ := pcs_0 h.sq h.ld H
  obtain ⟨rv1, c1, x1, I1, _⟩ := h.ent hI (by omega) H1
  rw [rv1] at H
  obtain ⟨e2, v2, M2, he2, H2, H⟩ := pcs_11 c1.sq H
  obtain ⟨I2, S2, F2, q4⟩ := net_call (cn := kX2_parts) (mx := 4) (wsv := [.ref 192]) kX2_parts_ok (by decide +kernel) mx_all.2.2.2.1 (by show 3 ≤ e2; omega) (Two.mk rfl trivial) I1 c1.sq.2 H2
  obtain ⟨r, r1, r2⟩ := parts_ok h.ok.1 x1 H2
  rw [r1] at H
  obtain ⟨p1, _⟩ := pcs_18 S2 H
  exact ⟨r, p1, r2⟩
end CPIE
