/-! THE CLASS'S longer -/
/-- steps onto the cells of ok: 10, aslant 14 -/
def edK (P : PK) (ok : Nat → Prop) : EDG := fun c o w => ok c ∧ ∃ d : Nat, d < 8 ∧ besP P (nI c) (nI d) = nI o ∧ w = if d % 2 = 0 then 10 else 14
noncomputable def vsF (F : Int) (xn : Nat) : ROW := fun c => if c = xn then 0 else F
def frmP (g : TQ) (P : PK) (xn yn : Nat) (c : Nat) : Prop := wrnB g P (nI c) = true ∨ cE P 0 (nI c) = 1 ∨ cE P 0 (nI c) = 4 ∨ cE P 0 (nI c) = 5 ∨ c = xn ∨ c = yn
def opcP (P : PK) (c : Nat) : Prop := opnB P (nI c) = true
section CLNO
variable {e a cn n k xn yn L : Nat} {T : TS} {g : TQ} {P : PK} {PI : Nat → PK} {ok : Nat → Prop} {pr v0 f u : ROW} {M M0 M1 M' : Mem} {v : Option Value} {x y al : Int32} {E : EDG}
theorem edK_w {c o : Nat} {w : Int} (h : edK P ok c o w) : 10 ≤ w ∧ w ≤ 14 := by
  obtain ⟨_, d, _, _, h⟩ := h
  rw [h]
  split <;> decide
/-- the costs of 1 at least: 257 rounds are enough -/
theorem FxE.congr (h : FxE E n u) (e : ∀ c, c < n → f c = u c) : FxE E n f := fun c o w hc ho he => by
  rw [e c hc, e o ho]
  exact h c o w hc ho he
theorem spr_w (hw : wh4 P) (hN : NB P pr M) (hg : G_6 M (fR M 104 7) = nI (clsP P)) (a_a : gNth sT a = some 43) (hs : 0 ≤ x.toInt ∧ x.toInt ≤ 14) (ht : 0 ≤ y.toInt ∧ y.toInt ≤ 14) (hf : bnR (clsP P) (rwI M a)) (h1 : ∀ c o w, c < clsP P → o < clsP P → edC P pr x.toInt y.toInt c o w → 1 ≤ w) (H : Ev none e 23 0 [some (.ref 192), some (.ref a), some (.int x), some (.int y), none, none, none, none] [] M v M' 0 0) : v = none ∧ NB P pr M' ∧ bnR (clsP P) (rwI M' a) ∧ FZ noF (aW a) noO M M' ∧ GfE (edC P pr x.toInt y.toInt) (clsP P) (rwI M a) (rwI M' a) := by
  obtain ⟨_, c256, _⟩ := cls_int hw
  obtain ⟨u, hu, _⟩ := GfE.has (E := edC P pr x.toInt y.toInt) (n := clsP P) (v := rwI M a) (fun c o w hc ho he => by have := h1 c o w hc ho he; omega) (fun c hc => (hf c hc).1)
  obtain ⟨w1, w2, w3, w4, w5, _⟩ := spr_ok hw hN hg a_a hs ht hf (fun r f => (∀ c, c < clsP P → f c = u c) ∨ r ≤ ctN (fun c => decide (f c = u c)) (clsP P)) (fun r f g hL hJ hp => by
    rcases set_more hu h1 hL hp (fun c hc => hc) with q | q
    · exact Or.inl q
    · rcases hJ with j | j
      · refine Or.inl (fun c hc => ?_)
        have l1 := hp.1 c hc
        have l2 := (hL.ps hp).2 u hu.2 hu.1.1 c hc
        have := j c hc
        omega
      · exact Or.inr (by omega)) (fun f hJ => by
    rcases hJ with j | j
    · exact hu.2.congr j
    · have := ctN_le (p := fun c => decide (f c = u c)) (clsP P)
      omega) (Or.inr (Nat.zero_le _)) H
  exact ⟨w1, w2, w3, w4, w5⟩
theorem nt_bas (hF : FZ netF netW netW M M') : fR M' 192 1 = fR M 192 1 ∧ fR M' 104 7 = fR M 104 7 ∧ (∀ k, zI M' 8 k = zI M 8 k) := ⟨hF.fr (by unfold netF; omega), hF.fr (by unfold netF; omega), fun k => hF.fi (by unfold netF; omega)⟩
theorem shq_ok (hD : okD P) (hX : STA 8 T P M) (hN : NB P pr M) (hp : ∀ c, c < clsP P → (ok c ∧ pr c = 0) ∨ (¬ ok c ∧ pr c = 1000000)) (hx : xn < clsP P) (hy : yn < clsP P) (H : Ev none e 20 0 [some (.ref 192), some (.int (nI xn)), some (.int (nI yn))] [] M v M' 0 0) : ∃ (u : ROW) (r : Int32), v = some (.int r) ∧ r.toInt = u yn ∧ 0 ≤ u yn ∧ GfE (edK P ok) (clsP P) (vsF 1000000 xn) u ∧ STA 8 T P M' ∧ NB P pr M' ∧ FZ netF netW netW M M' := by
  have hw := hD.1
  obtain ⟨_, c256, _⟩ := cls_int hw
  have hS := hX.1.1.1
  obtain ⟨ix, tx, x2⟩ := nIin hw hx
  obtain ⟨iy, ty, y2⟩ := nIin hw hy
  have tn : (nI (clsP P)).toInt = (clsP P : Int) := nI_toInt (by omega)
  obtain ⟨a, ea⟩ : ∃ a, a = fR M 192 1 := ⟨_, rfl⟩
  have a_a : gNth sT a = some 43 := by
    rw [ea]
    exact (hS.1.fr qa_192 qr_41_1).2
  obtain ⟨_, e1, v1, M1, _, H1, H⟩ := shq_0 hS H
  rw [← ea, cl_n tx] at H1
  have g := g43 a_a
  have F1 : FZ noF (aW a) noO M (wA M a 1000000) := FZ.wA rfl
  have S1 : SQ (wA M a 1000000) := hS.ka
  have F2 : FZ noF (aW a) noO (wA M a 1000000) (wI (wA M a 1000000) a xn 0) := FZ.wI rfl
  have F3 := F1.trans F2
  have S2 : SQ (wI (wA M a 1000000) a xn 0) := S1.ki
  have N2 := hN.fz S2 a_a F3
  have X2 := hX.nt hD S2 (aw_nt a_a F3)
  have row : ∀ c, c < clsP P → rwI (wI (wA M a 1000000) a xn 0) a c = vsF 1000000 xn c := fun c hc => by
    unfold vsF
    by_cases q : c = xn
    · rw [if_pos q, q, rw_eq S1 a_a x2]
      rfl
    · rw [if_neg q, rw_ne q]
      unfold rwI
      rw [rN_wA_eq hS.1 a_a qw_43 (by omega)]
      rfl
  have hg : G_6 (wI (wA M a 1000000) a xn 0) (fR (wI (wA M a 1000000) a xn 0) 104 7) = nI (clsP P) := by
    rw [X2.1.1.2.1]
    exact Int32.toInt_inj.mp (by rw [g6_ok hw X2.2.2.1.1 X2.2.2.1.2.1, tn])
  have t10 : (10 : Int32).toInt = 10 := rfl
  have t14 : (14 : Int32).toInt = 14 := rfl
  have alike : ∀ c o w, c < clsP P → o < clsP P → (edC P pr (10 : Int32).toInt (14 : Int32).toInt c o w ↔ edK P ok c o w) := fun c o w hc _ => by
    rcases hp c hc with ⟨q1, q2⟩ | ⟨q1, q2⟩
    · constructor
      · rintro ⟨_, d, d8, d1, d2⟩
        refine ⟨q1, d, d8, d1, ?_⟩
        rw [d2, q2, Int.add_zero]
        rfl
      · rintro ⟨_, d, d8, d1, d2⟩
        refine ⟨by rw [q2]; decide, d, d8, d1, ?_⟩
        rw [d2, q2, Int.add_zero]
        rfl
    · constructor
      · rintro ⟨q3, _⟩
        rw [q2] at q3
        exact absurd q3 (by decide)
      · rintro ⟨q3, _⟩
        exact absurd q3 q1
  obtain ⟨rv, N3, B3, F4, G3⟩ := spr_w hw N2 hg a_a ⟨by decide, by decide⟩ ⟨by decide, by decide⟩ (fun c hc => by
    rw [row c hc]
    unfold vsF
    split <;> decide) (fun c o w hc ho he => by have := edK_w ((alike c o w hc ho).mp he); omega) H1
  rw [rv] at H
  have F5 := aw_nt a_a (F3.trans F4)
  have ea2 : fR M1 192 1 = a := (nt_bas F5).1.trans ea.symm
  obtain ⟨_, r1, r2⟩ := shq_28 N3.1 H
  rw [ea2, rI_n ty] at r1
  rw [r2]
  exact ⟨rwI M1 a, rN M1 a yn, r1, rfl, (B3 yn hy).1, (G3.congr row).alike alike, hX.nt hD N3.1 F5, N3, F5⟩
theorem frm_of (hw : wh4 P) (hc : cn < clsP P) (hx : xn < clsP P) : (nI cn = nI xn) ↔ cn = xn := by
  obtain ⟨_, t1, _⟩ := nIin hw hc
  obtain ⟨_, t2, _⟩ := nIin hw hx
  constructor
  · intro q
    rw [q] at t1
    omega
  · intro q
    rw [q]
/-- the prices for the firm ground -/
theorem hdr_a (hD : okD P) (hx : xn < clsP P) (hy : yn < clsP P) : ∀ (r cn : Nat) (M : Mem) (o5 o6 : Option Value), cn + r = clsP P → STA 8 T P M → (∀ c, c < cn → (frmP (T 0) P xn yn c ∧ rwI M 195 c = 0) ∨ (¬ frmP (T 0) P xn yn c ∧ rwI M 195 c = 1000000)) → Ev none e 19 11 [some (.ref 192), some (.int (nI xn)), some (.int (nI yn)), some (.ref 8), some (.int (nI cn)), o5, o6] [] M v M' 0 0 → ∃ M2 c2 o5 o6, STA 8 T P M2 ∧ FZ netF netW netW M M2 ∧ (∀ c, c < clsP P → (frmP (T 0) P xn yn c ∧ rwI M2 195 c = 0) ∨ (¬ frmP (T 0) P xn yn c ∧ rwI M2 195 c = 1000000)) ∧ Ev none e 19 102 [some (.ref 192), some (.int (nI xn)), some (.int (nI yn)), some (.ref 8), some (.int c2), o5, o6] [] M2 v M' 0 0 := by
  have hw := hD.1
  obtain ⟨_, c256, _⟩ := cls_int hw
  intro r
  induction r with
  | zero =>
    intro cn M o5 o6 hr hX hp H
    have hg := g6_ok hw hX.2.2.1.1 hX.2.2.1.2.1
    have ec : cn = clsP P := by omega
    rcases hdr_11 hX.1.1.1 H with ⟨_, H⟩ | ⟨a1, _⟩ | ⟨a1, _⟩ | ⟨a1, _⟩ | ⟨a1, _⟩ | ⟨a1, _⟩ | ⟨a1, _⟩ | ⟨a1, _⟩
    · exact ⟨M, nI cn, o5, o6, hX, FZ.refl _, fun c hc => hp c (by omega), H⟩
    all_goals exact absurd (Int32.le_iff_toInt_le.mpr (by rw [hg, nI_toInt (by omega)]; omega)) a1
  | succ r ih =>
    intro cn M o5 o6 hr hX hp H
    have hg := g6_ok hw hX.2.2.1.1 hX.2.2.1.2.1
    have hc : cn < clsP P := by omega
    obtain ⟨ic, tc, c2⟩ := nIin hw hc
    have ew : G_56 M (nI cn) = bI (wrnB (T 0) P (nI cn)) := g56_ok hX.1.1 ic
    have ek : rI M (8 + 1) (nI cn) = cE P 0 (nI cn) := hX.cel.at ic (f := 0) (by decide)
    have hS := hX.1.1.1
    have nx : ∀ (z : Int32) (o5 o6 : Option Value), ((frmP (T 0) P xn yn cn ∧ z.toInt = 0) ∨ (¬ frmP (T 0) P xn yn cn ∧ z.toInt = 1000000)) → Ev none e 19 11 [some (.ref 192), some (.int (nI xn)), some (.int (nI yn)), some (.ref 8), some (.int (nI cn + 1)), o5, o6] [] (wI M 195 (nI cn).toNatClampNeg z) v M' 0 0 → ∃ M2 c2 o5 o6, STA 8 T P M2 ∧ FZ netF netW netW M M2 ∧ (∀ c, c < clsP P → (frmP (T 0) P xn yn c ∧ rwI M2 195 c = 0) ∨ (¬ frmP (T 0) P xn yn c ∧ rwI M2 195 c = 1000000)) ∧ Ev none e 19 102 [some (.ref 192), some (.int (nI xn)), some (.int (nI yn)), some (.ref 8), some (.int c2), o5, o6] [] M2 v M' 0 0 := fun z o5 o6 hz H => by
      rw [cl_n tc, nI_p1 (by omega)] at H
      have F : FZ netF netW netW M (wI M 195 cn z) := FZ.wI (by unfold netW; omega)
      obtain ⟨M2, c3, p5, p6, q1, q2, q3, q4⟩ := ih (cn + 1) _ o5 o6 (by omega) (hX.nt hD hS.ki F) (fun c hc => by
        by_cases q : c = cn
        · rw [q, pw_eq hS c2]
          exact hz
        · have e : rwI (wI M 195 cn z) 195 c = rwI M 195 c := by
            unfold rwI
            rw [rN_wI_ne (fun y => q y.2)]
          rw [e]
          exact hp c (by omega)) H
      exact ⟨M2, c3, p5, p6, q1, F.trans q2, q3, q4⟩
    have fx := frm_of hw hc hx
    have fy := frm_of hw hc hy
    rcases hdr_11 hS H with ⟨a1, _⟩ | ⟨_, a2, a3, _, _, H⟩ | ⟨_, a2, a3, a4, _, _, H⟩ | ⟨_, a2, a3, a4, a5, _, _, H⟩ | ⟨_, a2, a3, a4, a5, a6, _, _, H⟩ | ⟨_, a2, a3, a4, a5, a6, a7, _, _, H⟩ | ⟨_, a2, a3, a4, a5, a6, a7, _, _, H⟩ | ⟨_, a2, _, _, H⟩
    · have := Int32.le_iff_toInt_le.mp a1
      rw [hg, tc] at this
      omega
    · rw [ek] at a3
      exact nx 0 _ _ (Or.inl ⟨Or.inr (Or.inl a3), rfl⟩) H
    · rw [ek] at a4
      exact nx 0 _ _ (Or.inl ⟨Or.inr (Or.inr (Or.inl a4)), rfl⟩) H
    · rw [ek] at a5
      exact nx 0 _ _ (Or.inl ⟨Or.inr (Or.inr (Or.inr (Or.inl a5))), rfl⟩) H
    · exact nx 0 _ _ (Or.inl ⟨Or.inr (Or.inr (Or.inr (Or.inr (Or.inl (fx.mp a6))))), rfl⟩) H
    · exact nx 0 _ _ (Or.inl ⟨Or.inr (Or.inr (Or.inr (Or.inr (Or.inr (fy.mp a7))))), rfl⟩) H
    · rw [ew, bI_0] at a2
      rw [ek] at a3 a4 a5
      refine nx 1000000 _ _ (Or.inr ⟨?_, rfl⟩) H
      rintro (q | q | q | q | q | q)
      · rw [a2] at q
        cases q
      · exact a3 q
      · exact a4 q
      · exact a5 q
      · exact a6 (fx.mpr q)
      · exact a7 (fy.mpr q)
    · rw [ew, bI_0, Bool.not_eq_false] at a2
      exact nx 0 _ _ (Or.inl ⟨Or.inl a2, rfl⟩) H
/-- the prices for all ground -/
theorem hdr_b (hD : okD P) : ∀ (r cn : Nat) (M : Mem) (o6 : Option Value), cn + r = clsP P → STA 8 T P M → (∀ c, c < cn → (opcP P c ∧ rwI M 195 c = 0) ∨ (¬ opcP P c ∧ rwI M 195 c = 1000000)) → Ev none e 19 113 [some (.ref 192), some (.int x), some (.int y), some (.ref 8), some (.int al), some (.int (nI cn)), o6] [] M v M' 0 0 → ∃ M2 c2 o6 e1 v1 M1, STA 8 T P M2 ∧ (∀ c, c < clsP P → (opcP P c ∧ rwI M2 195 c = 0) ∨ (¬ opcP P c ∧ rwI M2 195 c = 1000000)) ∧ Ev none e1 20 0 [some (.ref 192), some (.int x), some (.int y)] [] M2 v1 M1 0 0 ∧ Ev none e 19 156 [some (.ref 192), some (.int x), some (.int y), some (.ref 8), some (.int al), some (.int c2), o6] (v1.toList ++ []) M1 v M' 0 0 := by
  have hw := hD.1
  obtain ⟨_, c256, _⟩ := cls_int hw
  intro r
  induction r with
  | zero =>
    intro cn M o6 hr hX hp H
    have hg := g6_ok hw hX.2.2.1.1 hX.2.2.1.2.1
    have ec : cn = clsP P := by omega
    rcases hdr_113 hX.1.1.1 H with ⟨_, e1, v1, M1, _, H1, H⟩ | ⟨a1, _⟩ | ⟨a1, _⟩
    · exact ⟨M, nI cn, o6, e1, v1, M1, hX, fun c hc => hp c (by omega), H1, H⟩
    all_goals exact absurd (Int32.le_iff_toInt_le.mpr (by rw [hg, nI_toInt (by omega)]; omega)) a1
  | succ r ih =>
    intro cn M o6 hr hX hp H
    have hg := g6_ok hw hX.2.2.1.1 hX.2.2.1.2.1
    have hc : cn < clsP P := by omega
    obtain ⟨ic, tc, c2⟩ := nIin hw hc
    have eo : G_7 M 8 (nI cn) = bI (opnB P (nI cn)) := g7L hX.cel ic
    have hS := hX.1.1.1
    have nx : ∀ (z : Int32), ((opcP P cn ∧ z.toInt = 0) ∨ (¬ opcP P cn ∧ z.toInt = 1000000)) → Ev none e 19 113 [some (.ref 192), some (.int x), some (.int y), some (.ref 8), some (.int al), some (.int (nI cn + 1)), o6] [] (wI M 195 (nI cn).toNatClampNeg z) v M' 0 0 → ∃ M2 c2 o6 e1 v1 M1, STA 8 T P M2 ∧ (∀ c, c < clsP P → (opcP P c ∧ rwI M2 195 c = 0) ∨ (¬ opcP P c ∧ rwI M2 195 c = 1000000)) ∧ Ev none e1 20 0 [some (.ref 192), some (.int x), some (.int y)] [] M2 v1 M1 0 0 ∧ Ev none e 19 156 [some (.ref 192), some (.int x), some (.int y), some (.ref 8), some (.int al), some (.int c2), o6] (v1.toList ++ []) M1 v M' 0 0 := fun z hz H => by
      rw [cl_n tc, nI_p1 (by omega)] at H
      have F : FZ netF netW netW M (wI M 195 cn z) := FZ.wI (by unfold netW; omega)
      exact ih (cn + 1) _ o6 (by omega) (hX.nt hD hS.ki F) (fun c hc => by
        by_cases q : c = cn
        · rw [q, pw_eq hS c2]
          exact hz
        · have e : rwI (wI M 195 cn z) 195 c = rwI M 195 c := by
            unfold rwI
            rw [rN_wI_ne (fun y => q y.2)]
          rw [e]
          exact hp c (by omega)) H
    rcases hdr_113 hS H with ⟨a1, _⟩ | ⟨_, a2, _, H⟩ | ⟨_, a2, _, H⟩
    · have := Int32.le_iff_toInt_le.mp a1
      rw [hg, tc] at this
      omega
    · rw [eo, bI_0] at a2
      exact nx 1000000 (Or.inr ⟨(fun q => by unfold opcP at q; rw [a2] at q; cases q), rfl⟩) H
    · rw [eo, bI_0, Bool.not_eq_false] at a2
      exact nx 0 (Or.inl ⟨a2, rfl⟩) H
theorem nb_of (hX : STA 8 T P M) (hp : ∀ c, c < clsP P → (ok c ∧ rwI M 195 c = 0) ∨ (¬ ok c ∧ rwI M 195 c = 1000000)) : NB P (rwI M 195) M := ⟨hX.1.1.1, hX.1.2.2.2.2.1, fun c hc => ⟨rfl, by rcases hp c hc with ⟨_, q⟩ | ⟨_, q⟩ <;> rw [q] <;> decide⟩⟩
/-- what the class answers: out of the costs over the firm ground (al), over all ground (st) -/
theorem hdr_ok (hD : okD P) (hX : STA 8 T P M) (hx : xn < clsP P) (hy : yn < clsP P) (H : Ev none e 19 0 [some (.ref 192), some (.int (nI xn)), some (.int (nI yn)), none, none, none, none] [] M v M' 0 0) : ∃ (u1 u2 : ROW) (al st : Int32), GfE (edK P (frmP (T 0) P xn yn)) (clsP P) (vsF 1000000 xn) u1 ∧ GfE (edK P (opcP P)) (clsP P) (vsF 1000000 xn) u2 ∧ al.toInt = u1 yn ∧ st.toInt = u2 yn ∧ v = some (.int (if 1000000 ≤ al then -1 else if 0 < st then (100 * al) / st else -1)) := by
  obtain ⟨M1, c1, p5, p6, X1, F1, k1, H⟩ := hdr_a hD hx hy (clsP P) 0 M none none (by omega) hX (fun c hc => absurd hc (Nat.not_lt_zero c)) (hdr_0 hX.1.1.1 hX.1.1.2.1 H)
  obtain ⟨e1, v1, M2, _, H1, H⟩ := hdr_102 X1.1.1.1 H
  obtain ⟨u1, al, r1, r2, _, G1, X2, _, _⟩ := shq_ok hD X1 (nb_of X1 k1) k1 hx hy H1
  rw [r1] at H
  obtain ⟨M3, c3, p7, e2, v2, M4, X3, k3, H2, H⟩ := hdr_b hD (clsP P) 0 M2 _ (by omega) X2 (fun c hc => absurd hc (Nat.not_lt_zero c)) (hdr_108 X2.1.1.1 H)
  obtain ⟨u2, st, s1, s2, _, G2, X4, _, _⟩ := shq_ok hD X3 (nb_of X3 k3) k3 hx hy H2
  rw [s1] at H
  refine ⟨u1, u2, al, st, G1, G2, r2, s2, ?_⟩
  rcases hdr_156 X4.1.1.1 H with ⟨a1, q, _⟩ | ⟨a1, a2, _, q, _⟩ | ⟨a1, a2, q, _⟩
  · rw [q, if_pos a1]
  · rw [q, if_neg a1, if_pos a2]
  · rw [q, if_neg a1, if_neg a2]
end CLNO
