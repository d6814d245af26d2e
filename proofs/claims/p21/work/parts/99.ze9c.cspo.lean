/-! THE CLASS'S spread -/
def edC (P : PK) (pr : ROW) (s t : Int) : EDG := fun c o w => pr c < 1000000 ∧ ∃ d : Nat, d < 8 ∧ besP P (nI c) (nI d) = nI o ∧ w = (if d % 2 = 0 then s else t) + pr c
noncomputable def rwI (M : Mem) (a : Nat) : ROW := fun c => (rN M a c).toInt
/-- what the spread rests on: the GRID, the prices -/
def NB (P : PK) (pr : ROW) (M : Mem) : Prop := SQ M ∧ GRD P M ∧ ∀ c, c < clsP P → rwI M 195 c = pr c ∧ 0 ≤ pr c ∧ pr c ≤ 1000000
def aW (a b : Nat) : Prop := b = a
def bnR (n : Nat) (f : ROW) : Prop := ∀ c, c < n → 0 ≤ f c ∧ f c ≤ 1000000
section CSPO
variable {e a cn n k r L : Nat} {T : TS} {P : PK} {pr v0 f0 f g : ROW} {M M0 M1 M' : Mem} {v : Option Value} {s t le y z : Int32} {b b2 : Bool} {D : Nat → Prop}
theorem ne_43 {x g0 : Nat} (a_a : gNth sT a = some 43) (hx : gNth sT x = some g0) (hg : g0 ≠ 43) : ¬ x = a := fun q => by
  rw [q, a_a] at hx
  cases hx
  exact hg rfl
theorem nI_par : ∀ k, k < 8 → (((nI k) &&& 1 = 0) ↔ k % 2 = 0) := by decide +kernel
theorem nIin (hw : wh4 P) (hc : cn < clsP P) : inC P (nI cn) ∧ (nI cn).toInt = (cn : Int) ∧ cn < 256 := by
  obtain ⟨_, c256, _⟩ := cls_int hw
  have tc : (nI cn).toInt = (cn : Int) := nI_toInt (by omega)
  exact ⟨⟨by omega, by omega⟩, tc, by omega⟩
theorem NB.fz (h : NB P pr M) (hS : SQ M') (a_a : gNth sT a = some 43) (hF : FZ noF (aW a) noO M M') : NB P pr M' := by
  obtain ⟨_, h2, h3⟩ := h
  have r6 : ∀ j, rI M' 106 j = rI M 106 j := fun j => hF.rn (ne_43 a_a qa_106 (by decide))
  have r7 : ∀ j, rI M' 107 j = rI M 107 j := fun j => hF.rn (ne_43 a_a qa_107 (by decide))
  have r8 : ∀ j, rI M' 108 j = rI M 108 j := fun j => hF.rn (ne_43 a_a qa_108 (by decide))
  have r9 : ∀ j, rN M' 195 j = rN M 195 j := fun j => hF.rn (ne_43 a_a qa_195 (by decide))
  refine ⟨hS, fun c hc => ?_, fun c hc => ?_⟩
  · obtain ⟨g1, g2, g3⟩ := h2 c hc
    exact ⟨(r6 _).trans g1, (r7 _).trans g2, fun d d0 d8 => (r8 _).trans (g3 d d0 d8)⟩
  · unfold rwI
    rw [r9]
    exact h3 c hc
theorem row_len (hS : SQ M) (a_a : gNth sT a = some 43) : (zrw M a).length = 256 := (hS.1.row a_a qw_43).2
/-- the least of what comes from beside -/
theorem chp_l (hw : wh4 P) (hN : NB P pr M) (a_a : gNth sT a = some 43) (hc : cn < clsP P) (hp : pr cn < 1000000) (hf : bnR (clsP P) (rwI M a)) (hs : 0 ≤ s.toInt ∧ s.toInt ≤ 14) (ht : 0 ≤ t.toInt ∧ t.toInt ≤ 14) : ∀ (r k : Nat) (le : Int32) (o7 o8 : Option Value), k + r = 8 → 0 ≤ le.toInt → le.toInt ≤ rwI M a cn → (le.toInt = rwI M a cn ∨ ∃ o w, o < clsP P ∧ edC P pr s.toInt t.toInt cn o w ∧ le.toInt = rwI M a o + w) → (∀ d o, d < k → o < clsP P → besP P (nI cn) (nI d) = nI o → le.toInt ≤ rwI M a o + ((if d % 2 = 0 then s.toInt else t.toInt) + pr cn)) → Ev none e 24 21 [some (.ref 192), some (.ref a), some (.int (nI cn)), some (.int s), some (.int t), some (.int le), some (.int (nI k)), o7, o8] [] M v M' 0 0 → ∃ l2 : Int32, v = some (.int (bI (decide (l2.toInt < rwI M a cn)))) ∧ M' = wI M a cn l2 ∧ 0 ≤ l2.toInt ∧ l2.toInt ≤ rwI M a cn ∧ (l2.toInt = rwI M a cn ∨ ∃ o w, o < clsP P ∧ edC P pr s.toInt t.toInt cn o w ∧ l2.toInt = rwI M a o + w) ∧ (∀ d o, d < 8 → o < clsP P → besP P (nI cn) (nI d) = nI o → l2.toInt ≤ rwI M a o + ((if d % 2 = 0 then s.toInt else t.toInt) + pr cn)) := by
  obtain ⟨hS, hG, hP⟩ := hN
  obtain ⟨ic, tc, c256⟩ := nIin hw hc
  obtain ⟨_, cl256, _⟩ := cls_int hw
  have t8 : (8 : Int32).toInt = 8 := rfl
  have eR : rwI M a cn = (rN M a cn).toInt := rfl
  have er : rI M a (nI cn) = rN M a cn := rI_n tc
  have ecl : (nI cn).toNatClampNeg = cn := cl_n tc
  have ep : (rI M 195 (nI cn)).toInt = pr cn := by
    rw [rI_n tc]
    exact (hP cn hc).1
  obtain ⟨p0, p1⟩ := (hP cn hc).2
  intro r
  induction r with
  | zero =>
    intro k le o7 o8 hk l0 l1 l2 l3 H
    have ek : k = 8 := by omega
    subst ek
    rcases chp_21 hS a_a H with ⟨_, b1, _, _, r1, r2⟩ | ⟨_, b1, _, _, r1, r2⟩ | ⟨b1, _⟩ | ⟨b1, _⟩ | ⟨b1, _⟩
    · rw [er] at b1
      rw [ecl] at r2
      have b2 := Int32.le_iff_toInt_le.mp b1
      refine ⟨le, ?_, r2, l0, l1, l2, l3⟩
      rw [r1, decide_eq_false (show ¬ le.toInt < rwI M a cn by omega)]
      rfl
    · rw [er, Int32.le_iff_toInt_le] at b1
      rw [ecl] at r2
      refine ⟨le, ?_, r2, l0, l1, l2, l3⟩
      rw [r1, decide_eq_true (show le.toInt < rwI M a cn by omega)]
      rfl
    all_goals exact absurd (by decide) b1
  | succ r ih =>
    intro k le o7 o8 hk l0 l1 l2 l3 H
    have k8 : k < 8 := by omega
    have tk : (nI k).toInt = (k : Int) := nI_toInt (by omega)
    have ed : rI M 108 (8 * nI cn + nI k) = besP P (nI cn) (nI k) := (hG (nI cn) ic).2.2 (nI k) (by omega) (by omega)
    have nx : nI k + 1 = nI (k + 1) := nI_p1 (by omega)
    -- a cell beside: the next least
    have go1 : ∀ (w0 : Int32), ¬ besP P (nI cn) (nI k) = -1 → w0.toInt = (if k % 2 = 0 then s.toInt else t.toInt) → ∀ o8, Ev none e 24 21 [some (.ref 192), some (.ref a), some (.int (nI cn)), some (.int s), some (.int t), some (.int (if rI M a (besP P (nI cn) (nI k)) + w0 + rI M 195 (nI cn) < le then rI M a (besP P (nI cn) (nI k)) + w0 + rI M 195 (nI cn) else le)), some (.int (nI (k + 1))), some (.int (besP P (nI cn) (nI k))), o8] [] M v M' 0 0 → ∃ l2 : Int32, v = some (.int (bI (decide (l2.toInt < rwI M a cn)))) ∧ M' = wI M a cn l2 ∧ 0 ≤ l2.toInt ∧ l2.toInt ≤ rwI M a cn ∧ (l2.toInt = rwI M a cn ∨ ∃ o w, o < clsP P ∧ edC P pr s.toInt t.toInt cn o w ∧ l2.toInt = rwI M a o + w) ∧ (∀ d o, d < 8 → o < clsP P → besP P (nI cn) (nI d) = nI o → l2.toInt ≤ rwI M a o + ((if d % 2 = 0 then s.toInt else t.toInt) + pr cn)) := fun w0 hb hw0 o8 H => by
      rcases besP_in (d := nI k) hw ic with q | q
      · exact absurd q hb
      obtain ⟨o, eo⟩ : ∃ o : Nat, o = (besP P (nI cn) (nI k)).toInt.toNat := ⟨_, rfl⟩
      have q0 := q.1
      have o1 : o < clsP P := by
        rw [eo]
        exact q.2
      have o2 : besP P (nI cn) (nI k) = nI o := Int32.toInt_inj.mp (by rw [nI_toInt (by omega)]; omega)
      have o3 : rI M a (besP P (nI cn) (nI k)) = rN M a o := by
        rw [o2]
        exact rI_n (nI_toInt (by omega))
      have fo : 0 ≤ (rN M a o).toInt ∧ (rN M a o).toInt ≤ 1000000 := hf o o1
      have w1 : 0 ≤ w0.toInt ∧ w0.toInt ≤ 14 := by
        rw [hw0]
        split
        · exact hs
        · exact ht
      have s1 : (rN M a o + w0).toInt = (rN M a o).toInt + w0.toInt := i32_add (by omega) (by omega)
      have s2 : (rN M a o + w0 + rI M 195 (nI cn)).toInt = (rN M a o).toInt + w0.toInt + pr cn := by rw [i32_add (by omega) (by omega), s1, ep]
      rw [o3] at H
      have hE : edC P pr s.toInt t.toInt cn o (w0.toInt + pr cn) := ⟨hp, k, k8, o2, by rw [hw0]⟩
      have uniq : ∀ d2 : Nat, besP P (nI cn) (nI k) = nI d2 → d2 < clsP P → d2 = o := fun d2 h1 h2 => by
        have h3 : (nI d2).toInt = (d2 : Int) := nI_toInt (by omega)
        rw [h1] at eo
        omega
      by_cases hl : rN M a o + w0 + rI M 195 (nI cn) < le
      · rw [if_pos hl] at H
        have hl := Int32.lt_iff_toInt_lt.mp hl
        refine ih (k + 1) _ _ _ (by omega) (by omega) (by omega) (Or.inr ⟨o, w0.toInt + pr cn, o1, hE, ?_⟩) (fun d o' hd ho' hbo => ?_) H
        · rw [s2]
          show _ = (rN M a o).toInt + _
          omega
        · by_cases qd : d = k
          · rw [qd] at hbo
            have := uniq o' hbo ho'
            rw [this, qd, ← hw0, s2]
            show _ ≤ (rN M a o).toInt + _
            omega
          · have := l3 d o' (by omega) ho' hbo
            omega
      · rw [if_neg hl] at H
        rw [Int32.lt_iff_toInt_lt] at hl
        refine ih (k + 1) _ _ _ (by omega) l0 l1 l2 (fun d o' hd ho' hbo => ?_) H
        by_cases qd : d = k
        · rw [qd] at hbo
          have := uniq o' hbo ho'
          rw [this, qd, ← hw0]
          show _ ≤ (rN M a o).toInt + _
          omega
        · exact l3 d o' (by omega) ho' hbo
    rcases chp_21 hS a_a H with ⟨b1, _⟩ | ⟨b1, _⟩ | ⟨_, b2, _, H⟩ | ⟨_, b2, b3, _, _, _, H⟩ | ⟨_, b2, b3, _, _, _, H⟩
    · have := Int32.le_iff_toInt_le.mp b1
      omega
    · have := Int32.le_iff_toInt_le.mp b1
      omega
    · rw [ed] at b2
      rw [nx] at H
      refine ih (k + 1) _ _ _ (by omega) l0 l1 l2 (fun d o' hd ho' hbo => ?_) H
      by_cases qd : d = k
      · rw [qd, b2] at hbo
        have h3 : (nI o').toInt = (o' : Int) := nI_toInt (by have := cls_int hw; omega)
        rw [← hbo] at h3
        have : (-1 : Int32).toInt = -1 := rfl
        omega
      · exact l3 d o' (by omega) ho' hbo
    · rw [ed] at b2 H
      rw [nx] at H
      exact go1 s b2 (by rw [if_pos ((nI_par k k8).mp b3)]) _ H
    · rw [ed] at b2 H
      rw [nx] at H
      exact go1 t b2 (by rw [if_neg (fun q => b3 ((nI_par k k8).mpr q))]) _ H
theorem rw_eq (hS : SQ M) (a_a : gNth sT a = some 43) (hc : cn < 256) (x : Int32) : rwI (wI M a cn x) a cn = x.toInt := by
  unfold rwI
  rw [rN_wI_eq (by rw [row_len hS a_a]; exact hc)]
theorem rw_ne {x : Int32} (h : ¬ k = cn) : rwI (wI M a cn x) a k = rwI M a k := by
  unfold rwI
  rw [rN_wI_ne (fun q => h q.2)]
theorem chp_ok (hw : wh4 P) (hN : NB P pr M) (a_a : gNth sT a = some 43) (hc : cn < clsP P) (hf : bnR (clsP P) (rwI M a)) (hs : 0 ≤ s.toInt ∧ s.toInt ≤ 14) (ht : 0 ≤ t.toInt ∧ t.toInt ≤ 14) (H : Ev none e 24 0 [some (.ref 192), some (.ref a), some (.int (nI cn)), some (.int s), some (.int t), none, none, none, none] [] M v M' 0 0) : v = some (.int (bI (decide (rwI M' a cn < rwI M a cn)))) ∧ SQ M' ∧ FZ noF (aW a) noO M M' ∧ StE (edC P pr s.toInt t.toInt) (clsP P) cn (rwI M a) (rwI M' a) ∧ bnR (clsP P) (rwI M' a) := by
  obtain ⟨ic, tc, c256⟩ := nIin hw hc
  have tF : (1000000 : Int32).toInt = 1000000 := rfl
  have er : rI M a (nI cn) = rN M a cn := rI_n tc
  have ep : (rI M 195 (nI cn)).toInt = pr cn := by
    rw [rI_n tc]
    exact (hN.2.2 cn hc).1
  obtain ⟨f0, f1⟩ := hf cn hc
  rcases chp_0 hN.1 a_a H with ⟨b1, _, _, H⟩ | ⟨b1, _, r1, r2⟩
  · have b1 := Int32.lt_iff_toInt_lt.mp b1
    rw [er] at H
    obtain ⟨l2, r1, r2, g0, g1, g2, g3⟩ := chp_l hw hN a_a hc (by omega) hf hs ht 8 0 (rN M a cn) none none rfl f0 (Int.le_refl _) (Or.inl rfl) (fun d o hd => absurd hd (Nat.not_lt_zero d)) H
    have e1 : rwI (wI M a cn l2) a cn = l2.toInt := rw_eq hN.1 a_a c256 l2
    rw [r2]
    refine ⟨by rw [r1, e1], hN.1.ki, FZ.wI rfl, ⟨fun x hx hne => rw_ne hne, ?_, fun o w ho he => ?_, ?_⟩, fun x hx => ?_⟩
    · rw [e1]
      exact g1
    · obtain ⟨_, d, d8, d1, d2⟩ := he
      rw [e1, d2]
      exact g3 d o d8 ho d1
    · rw [e1]
      exact g2
    · by_cases q : x = cn
      · rw [q, e1]
        omega
      · rw [rw_ne q]
        exact hf x hx
  · rw [Int32.lt_iff_toInt_lt] at b1
    rw [r2]
    refine ⟨?_, hN.1, FZ.refl _, ⟨fun _ _ _ => rfl, Int.le_refl _, fun o w ho he => ?_, Or.inl rfl⟩, hf⟩
    · rw [r1, decide_eq_false (fun q => Int.lt_irrefl _ q)]
      rfl
    · have := he.1
      omega
/-! over the cells, forth and back -/
theorem bI_or : ∀ x y : Bool, (bI x ||| bI y) = bI (x || y) := by decide
theorem spr_up (hw : wh4 P) (a_a : gNth sT a = some 43) (hs : 0 ≤ s.toInt ∧ s.toInt ≤ 14) (ht : 0 ≤ t.toInt ∧ t.toInt ≤ 14) {rz : Int32} : ∀ (r cn : Nat) (b : Bool) (M : Mem), cn + r = clsP P → NB P pr M → bnR (clsP P) (rwI M a) → PsE (edC P pr s.toInt t.toInt) (clsP P) (fun x => x < cn) f0 (rwI M a) b → Ev none e 23 37 [some (.ref 192), some (.ref a), some (.int s), some (.int t), some (.int (nI (clsP P))), some (.int (bI b)), some (.int rz), some (.int (nI cn))] [] M v M' 0 0 → ∃ M2 b2, NB P pr M2 ∧ bnR (clsP P) (rwI M2 a) ∧ FZ noF (aW a) noO M M2 ∧ PsE (edC P pr s.toInt t.toInt) (clsP P) (fun x => x < clsP P) f0 (rwI M2 a) b2 ∧ Ev none e 23 70 [some (.ref 192), some (.ref a), some (.int s), some (.int t), some (.int (nI (clsP P))), some (.int (bI b2)), some (.int rz), some (.int (nI (clsP P) - 1))] [] M2 v M' 0 0 := by
  obtain ⟨_, c256, _⟩ := cls_int hw
  have tn : (nI (clsP P)).toInt = (clsP P : Int) := nI_toInt (by omega)
  intro r
  induction r with
  | zero =>
    intro cn b M hr hN hf hp H
    have ec : cn = clsP P := by omega
    rcases spr_37 hN.1 a_a H with ⟨_, H⟩ | ⟨a1, _⟩
    · exact ⟨M, b, hN, hf, FZ.refl _, hp.more (fun c hc _ => by omega), H⟩
    · exact absurd (Int32.le_iff_toInt_le.mpr (by rw [tn, nI_toInt (by omega)]; omega)) a1
  | succ r ih =>
    intro cn b M hr hN hf hp H
    have hc : cn < clsP P := by omega
    rcases spr_37 hN.1 a_a H with ⟨a1, _⟩ | ⟨_, e1, v1, M1, _, H1, H⟩
    · have := Int32.le_iff_toInt_le.mp a1
      rw [tn, nI_toInt (by omega)] at this
      omega
    · obtain ⟨r1, S1, F1, st, hf1⟩ := chp_ok hw hN a_a hc hf hs ht H1
      rw [r1] at H
      have H := spr_55 S1 a_a H
      rw [bI_or, nI_p1 (by omega)] at H
      obtain ⟨M2, b2, q1, q2, q3, q4, q5⟩ := ih (cn + 1) _ M1 (by omega) (hN.fz S1 a_a F1) hf1 ((hp.step hc st).more (fun c _ hx => by
        by_cases q : c = cn
        · exact Or.inl q
        · exact Or.inr (by omega))) H
      exact ⟨M2, b2, q1, q2, F1.trans q3, q4, q5⟩
theorem spr_dn (hw : wh4 P) (a_a : gNth sT a = some 43) (hs : 0 ≤ s.toInt ∧ s.toInt ≤ 14) (ht : 0 ≤ t.toInt ∧ t.toInt ≤ 14) {rz : Int32} : ∀ (cn : Nat) (b : Bool) (M : Mem) (cz : Int32), cn ≤ clsP P → cz.toInt = (cn : Int) - 1 → NB P pr M → bnR (clsP P) (rwI M a) → PsE (edC P pr s.toInt t.toInt) (clsP P) (fun x => x < clsP P) f0 (rwI M a) b → Ev none e 23 70 [some (.ref 192), some (.ref a), some (.int s), some (.int t), some (.int (nI (clsP P))), some (.int (bI b)), some (.int rz), some (.int cz)] [] M v M' 0 0 → ∃ M2 b2 cz2, NB P pr M2 ∧ bnR (clsP P) (rwI M2 a) ∧ FZ noF (aW a) noO M M2 ∧ PsE (edC P pr s.toInt t.toInt) (clsP P) (fun x => x < clsP P) f0 (rwI M2 a) b2 ∧ Ev none e 23 18 [some (.ref 192), some (.ref a), some (.int s), some (.int t), some (.int (nI (clsP P))), some (.int (bI b2)), some (.int (rz + 1)), some (.int cz2)] [] M2 v M' 0 0 := by
  obtain ⟨_, c256, _⟩ := cls_int hw
  have t0 : (0 : Int32).toInt = 0 := rfl
  intro cn
  induction cn with
  | zero =>
    intro b M cz hr hz hN hf hp H
    rcases spr_70 hN.1 a_a H with ⟨_, H⟩ | ⟨a1, _⟩
    · exact ⟨M, b, cz, hN, hf, FZ.refl _, hp, H⟩
    · exact absurd (Int32.lt_iff_toInt_lt.mpr (by omega)) a1
  | succ cn ih =>
    intro b M cz hr hz hN hf hp H
    have hc : cn < clsP P := by omega
    have ez : cz = nI cn := Int32.toInt_inj.mp (by rw [nI_toInt (by omega)]; omega)
    subst ez
    rcases spr_70 hN.1 a_a H with ⟨a1, _⟩ | ⟨_, e1, v1, M1, _, H1, H⟩
    · have := Int32.lt_iff_toInt_lt.mp a1
      omega
    · obtain ⟨r1, S1, F1, st, hf1⟩ := chp_ok hw hN a_a hc hf hs ht H1
      rw [r1] at H
      have H := spr_86 S1 a_a H
      rw [bI_or] at H
      obtain ⟨M2, b2, cz2, q1, q2, q3, q4, q5⟩ := ih _ M1 _ (by omega) (by rw [i32_m1e (by omega)]; omega) (hN.fz S1 a_a F1) hf1 ((hp.step hc st).more (fun c _ hx => Or.inr hx)) H
      exact ⟨M2, b2, cz2, q1, q2, F1.trans q3, q4, q5⟩
/-- round by round; J: what says that 257 rounds are enough -/
theorem spr_l (hw : wh4 P) (a_a : gNth sT a = some 43) (hs : 0 ≤ s.toInt ∧ s.toInt ≤ 14) (ht : 0 ≤ t.toInt ∧ t.toInt ≤ 14) (J : Nat → ROW → Prop) (hJ : ∀ r f g, LwE (edC P pr s.toInt t.toInt) (clsP P) v0 f → J r f → PsE (edC P pr s.toInt t.toInt) (clsP P) (fun x => x < clsP P) f g true → J (r + 1) g) (hE : ∀ f, J 257 f → FxE (edC P pr s.toInt t.toInt) (clsP P) f) : ∀ (q r : Nat) (b : Bool) (M : Mem) (rz : Int32) (o7 : Option Value), r + q = 257 → rz.toInt = (r : Int) → NB P pr M → bnR (clsP P) (rwI M a) → LwE (edC P pr s.toInt t.toInt) (clsP P) v0 (rwI M a) → (b = true → J r (rwI M a)) → (b = false → FxE (edC P pr s.toInt t.toInt) (clsP P) (rwI M a)) → Ev none e 23 18 [some (.ref 192), some (.ref a), some (.int s), some (.int t), some (.int (nI (clsP P))), some (.int (bI b)), some (.int rz), o7] [] M v M' 0 0 → v = none ∧ NB P pr M' ∧ bnR (clsP P) (rwI M' a) ∧ FZ noF (aW a) noO M M' ∧ GfE (edC P pr s.toInt t.toInt) (clsP P) v0 (rwI M' a) ∧ ∀ Q : Int → Prop, (∀ c o w x, c < clsP P → o < clsP P → edC P pr s.toInt t.toInt c o w → Q x → Q (x + w)) → (∀ c, c < clsP P → Q (rwI M a c)) → ∀ c, c < clsP P → Q (rwI M' a c) := by
  obtain ⟨_, c256, _⟩ := cls_int hw
  have tn : (nI (clsP P)).toInt = (clsP P : Int) := nI_toInt (by omega)
  have t256 : (256 : Int32).toInt = 256 := rfl
  have m1 : (nI (clsP P) - 1).toInt = (clsP P : Int) - 1 := by rw [i32_m1 (by omega), tn]
  intro q
  induction q with
  | zero =>
    intro r b M rz o7 hr hz hN hf hL h1 h2 H
    have er : r = 257 := by omega
    subst er
    have fx : FxE (edC P pr s.toInt t.toInt) (clsP P) (rwI M a) := by
      cases b with
      | true => exact hE _ (h1 rfl)
      | false => exact h2 rfl
    rcases spr_18 hN.1 a_a H with ⟨_, r1, r2⟩ | ⟨a1, _⟩ | ⟨a1, _⟩
    · rw [r2]
      exact ⟨r1, hN, hf, FZ.refl _, ⟨hL, fx⟩, fun _ _ h => h⟩
    all_goals exact absurd (Int32.lt_iff_toInt_lt.mpr (by omega)) a1
  | succ q ih =>
    intro r b M rz o7 hr hz hN hf hL h1 h2 H
    rcases spr_18 hN.1 a_a H with ⟨a1, _⟩ | ⟨_, a2, r1, r2⟩ | ⟨_, a2, H⟩
    · have := Int32.lt_iff_toInt_lt.mp a1
      omega
    · rw [bI_0] at a2
      rw [r2]
      exact ⟨r1, hN, hf, FZ.refl _, ⟨hL, h2 a2⟩, fun _ _ h => h⟩
    · rw [bI_0, Bool.not_eq_false] at a2
      obtain ⟨M1, b1, n1, f1, F1, p1, H⟩ := spr_up (f0 := rwI M a) hw a_a hs ht (clsP P) 0 false M (by omega) hN hf (PsE.refl (fun c => Nat.not_lt_zero c)) H
      obtain ⟨M2, b2, cz2, n2, f2, F2, p2, H⟩ := spr_dn hw a_a hs ht (clsP P) b1 M1 _ (Nat.le_refl _) m1 n1 f1 p1 H
      obtain ⟨w1, w2, w3, w4, w5, w6⟩ := ih (r + 1) b2 M2 (rz + 1) _ (by omega) (by rw [i32_p1 (by omega)]; omega) n2 f2 (hL.ps p2) (fun hb => hJ r _ _ hL (h1 a2) (by rw [hb] at p2; exact p2)) (fun hb => by
        rw [hb] at p2
        exact p2.fix (fun c hc => hc)) H
      exact ⟨w1, w2, w3, (F1.trans F2).trans w4, w5, fun Q q1 q2 => w6 Q q1 (p2.2.2.2.2.2 Q q1 q2)⟩
theorem spr_ok (hw : wh4 P) (hN : NB P pr M) (hg : G_6 M (fR M 104 7) = nI (clsP P)) (a_a : gNth sT a = some 43) (hs : 0 ≤ s.toInt ∧ s.toInt ≤ 14) (ht : 0 ≤ t.toInt ∧ t.toInt ≤ 14) (hf : bnR (clsP P) (rwI M a)) (J : Nat → ROW → Prop) (hJ : ∀ r f g, LwE (edC P pr s.toInt t.toInt) (clsP P) (rwI M a) f → J r f → PsE (edC P pr s.toInt t.toInt) (clsP P) (fun x => x < clsP P) f g true → J (r + 1) g) (hE : ∀ f, J 257 f → FxE (edC P pr s.toInt t.toInt) (clsP P) f) (h0 : J 0 (rwI M a)) (H : Ev none e 23 0 [some (.ref 192), some (.ref a), some (.int s), some (.int t), none, none, none, none] [] M v M' 0 0) : v = none ∧ NB P pr M' ∧ bnR (clsP P) (rwI M' a) ∧ FZ noF (aW a) noO M M' ∧ GfE (edC P pr s.toInt t.toInt) (clsP P) (rwI M a) (rwI M' a) ∧ ∀ Q : Int → Prop, (∀ c o w x, c < clsP P → o < clsP P → edC P pr s.toInt t.toInt c o w → Q x → Q (x + w)) → (∀ c, c < clsP P → Q (rwI M a c)) → ∀ c, c < clsP P → Q (rwI M' a c) := by
  have H := spr_0 hN.1 a_a H
  rw [hg] at H
  exact spr_l hw a_a hs ht J hJ hE 257 0 true M 0 none rfl rfl hN hf LwE.refl (fun _ => h0) (fun q => by cases q) H
end CSPO
