/-! THE REFERENCE'S least -/
noncomputable def coR (M : Mem) : Nat → ROW := fun s c => (rN M 654 (256 * s + c)).toInt
def cqW (b : Nat) : Prop := b = 654
def b7R (N : Nat) (f : ROW) : Prop := ∀ c, c < N → 0 ≤ f c ∧ f c ≤ 10000000
section RLES
variable {e n m s p i k r cn : Nat} {T : TS} {P : PK} {t : Nat → Nat} {C : Nat → ROW} {M M0 M1 M' : Mem} {v : Option Value} {o : Nat → Int32} {v0 f0 : ROW} {nz az : Int32} {b mb : Bool}
theorem RST.cq (h : RST T P M) (hS : SQ M') (hF : FZ noF cqW noO M M') : RST T P M' := h.fz hS hF (fun _ _ _ q => q) (fun a ha q => by
  have q : a = 654 := q
  omega)
theorem co_len (hS : SQ M) : (zrw M 654).length = 16384 := (hS.1.row qa_654 qw_82).2
theorem co_eq (hS : SQ M) (hs : s < 64) (hc : cn < 256) (z : Int32) : coR (wI M 654 (256 * s + cn) z) s cn = z.toInt := by
  unfold coR
  rw [rN_wI_eq (by rw [co_len hS]; omega)]
theorem co_ne {x : Nat} {z : Int32} (hx : x < 256) (hc : cn < 256) (h : ¬ (p = s ∧ x = cn)) : coR (wI M 654 (256 * s + cn) z) p x = coR M p x := by
  unfold coR
  rw [rN_wI_ne (fun q => h (by omega))]
theorem ix654 (hs : s < 64) (hc : cn < 256) : (256 * nI s + nI cn).toInt = ((256 * s + cn : Nat) : Int) := by
  have ti : (nI s).toInt = (s : Int) := nI_toInt (by omega)
  have tc : (nI cn).toInt = (cn : Int) := nI_toInt (by omega)
  have t256 : (256 : Int32).toInt = 256 := rfl
  have q : (256 * nI s).toInt = 256 * (s : Int) := by rw [i32_mul (by rw [t256, ti]; omega) (by rw [t256, ti]; omega), t256, ti]
  rw [i32_add (by omega) (by omega), q, tc]
  omega
theorem rI_co (hs : s < 64) (hc : cn < 256) : (rI M 654 (256 * nI s + nI cn)).toInt = coR M s cn := by
  rw [rI_n (ix654 hs hc)]
  rfl
theorem g224_ok (hR : RST T P M) (hw : wh4 P) (hc : cn < clsP P) : (G_224 M (nI cn)).toInt = prL P cn := by
  obtain ⟨ic, _, _⟩ := nIin hw hc
  have eg : G_149 M (nI cn) = bI (grnB P (nI cn)) := g149_ok hR hw ic
  unfold G_224 prL
  rw [eg]
  by_cases q : grnB P (nI cn) = true
  · rw [q, if_pos rfl, if_neg (by decide)]
    rfl
  · rw [Bool.eq_false_iff.mpr q]
    rfl
/-- the cells beside one -/
theorem wid_d (hw : wh4 P) (hs : s < 64) (hc : cn < clsP P) (hok : opnB P (nI cn) = true) (hB : b7R (clsP P) (coR M0 s)) : ∀ (q k : Nat) (M : Mem) (b : Bool) (o6 : Option Value), k + q = 8 → RST T P M → FZ noF cqW noO M0 M → (∀ x c, c < 256 → ¬ (x = s ∧ c = cn) → coR M x c = coR M0 x c) → 0 ≤ coR M s cn → coR M s cn ≤ coR M0 s cn → (coR M s cn = coR M0 s cn ∨ ∃ o w, o < clsP P ∧ edL P cn o w ∧ coR M s cn = coR M0 s o + w) → (∀ d o, d < k → o < clsP P → opnB P (nI o) = true → besP P (nI cn) (nI d) = nI o → coR M s cn ≤ coR M0 s o + prL P cn) → b = (mb || decide (coR M s cn < coR M0 s cn)) → Ev none e 226 20 [some (.ref 633), some (.int (256 * nI s)), some (.int nz), some (.int (bI b)), some (.int (nI cn)), some (.int (nI k)), o6] [] M v M' 0 0 → ∃ M2 o5 o6, RST T P M2 ∧ FZ noF cqW noO M0 M2 ∧ (∀ x c, c < 256 → ¬ (x = s ∧ c = cn) → coR M2 x c = coR M0 x c) ∧ StE (edL P) (clsP P) cn (coR M0 s) (coR M2 s) ∧ b7R (clsP P) (coR M2 s) ∧ Ev none e 226 11 [some (.ref 633), some (.int (256 * nI s)), some (.int nz), some (.int (bI (mb || decide (coR M2 s cn < coR M0 s cn)))), some (.int (nI (cn + 1))), o5, o6] [] M2 v M' 0 0 := by
  obtain ⟨_, c256, _⟩ := cls_int hw
  obtain ⟨ic, tc, c2⟩ := nIin hw hc
  have t8 : (8 : Int32).toInt = 8 := rfl
  have t0 : (0 : Int32).toInt = 0 := rfl
  have hpr := prL_r (P := P) cn
  intro q
  induction q with
  | zero =>
    intro k M b o6 hk hR hF hx l0 l1 l2 l3 hb H
    have ek : k = 8 := by omega
    subst ek
    rcases wid_20 hR.1 H with ⟨_, H⟩ | ⟨b1, _⟩ | ⟨b1, _⟩ | ⟨b1, _⟩ | ⟨b1, _⟩ | ⟨b1, _⟩
    · rw [nI_p1 (by omega), hb] at H
      refine ⟨M, _, o6, hR, hF, hx, ⟨fun c hcc hne => hx s c (by omega) (fun q => hne q.2), l1, fun o w ho he => ?_, l2⟩, fun c hcc => ?_, H⟩
      · obtain ⟨_, oo, ⟨d, d8, d1⟩, d2⟩ := he
        rw [d2]
        exact l3 d o d8 ho oo d1
      · by_cases z : c = cn
        · rw [z]
          have := (hB cn hc).2
          omega
        · rw [hx s c (by omega) (fun q => z q.2)]
          exact hB c hcc
    all_goals exact absurd (by decide) b1
  | succ q ih =>
    intro k M b o6 hk hR hF hx l0 l1 l2 l3 hb H
    have k8 : k < 8 := by omega
    have tk : (nI k).toInt = (k : Int) := nI_toInt (by omega)
    have nx : nI k + 1 = nI (k + 1) := nI_p1 (by omega)
    have eb : G_194 M (nI cn) (nI k) = besP P (nI cn) (nI k) := g194_ok hR
    have er := rI_co (M := M) hs c2
    have fB := hB cn hc
    have S := hR.1
    have ep := g224_ok hR hw hc
    have ecn : G_148 M (nI cn) = bI (opnB P (nI cn)) := g148_ok hR hw ic
    -- a cell beside: its row, its number
    have inn : ¬ besP P (nI cn) (nI k) < 0 → ∃ o, o < clsP P ∧ besP P (nI cn) (nI k) = nI o := fun h => by
      rcases besP_in (d := nI k) hw ic with q | q
      · rw [q] at h
        exact absurd (by decide) h
      · have q0 := q.1
        have q1 := q.2
        exact ⟨_, q1, Int32.toInt_inj.mp (by rw [nI_toInt (by omega)]; omega)⟩
    have uniq : ∀ o o' : Nat, o < clsP P → o' < clsP P → nI o = nI o' → o = o' := fun o o' h1 h2 h => by
      have a1 : (nI o).toInt = (o : Int) := nI_toInt (by omega)
      have a2 : (nI o').toInt = (o' : Int) := nI_toInt (by omega)
      rw [h] at a1
      omega
    have olo : ∀ o, o < clsP P → coR M s o ≤ coR M0 s o ∧ 0 ≤ coR M s o ∧ coR M s o ≤ 10000000 := fun o ho => by
      have := hB o ho
      by_cases z : o = cn
      · rw [z]
        omega
      · rw [hx s o (by omega) (fun q => z q.2)]
        omega
    -- no less
    have stay : ∀ (o6 : Option Value), (∀ o, o < clsP P → opnB P (nI o) = true → besP P (nI cn) (nI k) = nI o → coR M s cn ≤ coR M0 s o + prL P cn) → Ev none e 226 20 [some (.ref 633), some (.int (256 * nI s)), some (.int nz), some (.int (bI b)), some (.int (nI cn)), some (.int (nI k + 1)), o6] [] M v M' 0 0 → ∃ M2 o5 o6, RST T P M2 ∧ FZ noF cqW noO M0 M2 ∧ (∀ x c, c < 256 → ¬ (x = s ∧ c = cn) → coR M2 x c = coR M0 x c) ∧ StE (edL P) (clsP P) cn (coR M0 s) (coR M2 s) ∧ b7R (clsP P) (coR M2 s) ∧ Ev none e 226 11 [some (.ref 633), some (.int (256 * nI s)), some (.int nz), some (.int (bI (mb || decide (coR M2 s cn < coR M0 s cn)))), some (.int (nI (cn + 1))), o5, o6] [] M2 v M' 0 0 := fun o6 hn H => by
      rw [nx] at H
      refine ih (k + 1) M b o6 (by omega) hR hF hx l0 l1 l2 (fun d o hd ho hoo hbo => ?_) hb H
      by_cases z : d = k
      · rw [z] at hbo
        exact hn o ho hoo hbo
      · exact l3 d o (by omega) ho hoo hbo
    rcases wid_20 S H with ⟨b1, _⟩ | ⟨_, b2, _⟩ | ⟨_, _, b3, H⟩ | ⟨_, _, b3, b4, H⟩ | ⟨_, _, b3, b4, b5, _, _, _, _, H⟩ | ⟨_, _, b3, b4, b5, _, _, H⟩
    · have := Int32.le_iff_toInt_le.mp b1
      omega
    · rw [ecn, bI_0, hok] at b2
      cases b2
    · rw [eb] at b3
      refine stay _ (fun o' ho' _ hbo' => ?_) H
      rw [hbo', Int32.lt_iff_toInt_lt, nI_toInt (by omega)] at b3
      omega
    · rw [eb] at b3 b4
      obtain ⟨o, o1, o2⟩ := inn b3
      obtain ⟨io, _, _⟩ := nIin hw o1
      rw [o2, g148_ok hR hw io, bI_0] at b4
      refine stay _ (fun o' ho' hoo hbo' => ?_) H
      rw [uniq o' o ho' o1 (by rw [← hbo', o2]), b4] at hoo
      cases hoo
    · rw [eb] at b3 b4 b5 H
      obtain ⟨o, o1, o2⟩ := inn b3
      obtain ⟨io, _, _⟩ := nIin hw o1
      rw [o2, g148_ok hR hw io, bI_0, Bool.not_eq_false] at b4
      rw [o2] at b5 H
      have ob := olo o o1
      have ro := rI_co (M := M) (s := s) (cn := o) hs (by omega)
      have sm : (rI M 654 (256 * nI s + nI o) + G_224 M (nI cn)).toInt = coR M s o + prL P cn := by rw [i32_add (by omega) (by omega), ro, ep]
      have b5 := Int32.lt_iff_toInt_lt.mp b5
      rw [sm, er] at b5
      have hne : ¬ o = cn := fun q => by
        rw [q] at b5
        omega
      have ho3 := hx s o (by omega) (fun q => hne q.2)
      obtain ⟨z, ez⟩ : ∃ z, z = rI M 654 (256 * nI s + nI o) + G_224 M (nI cn) := ⟨_, rfl⟩
      rw [← ez] at sm H
      rw [cl_n (ix654 hs c2), nx] at H
      have F1 : FZ noF cqW noO M (wI M 654 (256 * s + cn) z) := FZ.wI rfl
      have e1 : coR (wI M 654 (256 * s + cn) z) s cn = z.toInt := co_eq S hs c2 z
      refine ih (k + 1) _ true _ (by omega) (hR.cq S.ki F1) (hF.trans F1) (fun x c hc9 hcn => (co_ne hc9 c2 hcn).trans (hx x c hc9 hcn)) (by rw [e1]; omega) (by rw [e1]; omega) (Or.inr ⟨o, prL P cn, o1, ⟨hok, b4, ⟨k, k8, o2⟩, rfl⟩, by rw [e1]; omega⟩) (fun d o' hd ho' hoo hbo' => ?_) ?_ H
      · rw [e1]
        by_cases y : d = k
        · rw [y] at hbo'
          have := uniq o' o ho' o1 (by rw [← hbo', o2])
          rw [this]
          omega
        · have := l3 d o' (by omega) ho' hoo hbo'
          omega
      · rw [e1, decide_eq_true (show z.toInt < coR M0 s cn by omega), Bool.or_true]
    · rw [eb] at b3 b4 b5
      obtain ⟨o, o1, o2⟩ := inn b3
      rw [o2] at b5
      have ob := olo o o1
      have ro := rI_co (M := M) (s := s) (cn := o) hs (by omega)
      have sm : (rI M 654 (256 * nI s + nI o) + G_224 M (nI cn)).toInt = coR M s o + prL P cn := by rw [i32_add (by omega) (by omega), ro, ep]
      rw [Int32.lt_iff_toInt_lt, sm, er] at b5
      refine stay _ (fun o' ho' hoo hbo' => ?_) H
      rw [uniq o' o ho' o1 (by rw [← hbo', o2])]
      omega
/-- a round -/
theorem wid_up (hw : wh4 P) (hs : s < 64) : ∀ (q cn : Nat) (b : Bool) (M : Mem) (o5 o6 : Option Value), cn + q = clsP P → RST T P M → FZ noF cqW noO M0 M → (∀ x c, c < 256 → ¬ x = s → coR M x c = coR M0 x c) → b7R (clsP P) (coR M s) → PsE (edL P) (clsP P) (fun c => c < cn) f0 (coR M s) b → Ev none e 226 11 [some (.ref 633), some (.int (256 * nI s)), some (.int (nI (clsP P))), some (.int (bI b)), some (.int (nI cn)), o5, o6] [] M v M' 0 0 → ∃ M2 b2 c2 o5 o6, RST T P M2 ∧ FZ noF cqW noO M0 M2 ∧ (∀ x c, c < 256 → ¬ x = s → coR M2 x c = coR M0 x c) ∧ b7R (clsP P) (coR M2 s) ∧ PsE (edL P) (clsP P) (fun c => c < clsP P) f0 (coR M2 s) b2 ∧ Ev none e 226 2 [some (.ref 633), some (.int (256 * nI s)), some (.int (nI (clsP P))), some (.int (bI b2)), some (.int c2), o5, o6] [] M2 v M' 0 0 := by
  obtain ⟨_, c256, _⟩ := cls_int hw
  have tn : (nI (clsP P)).toInt = (clsP P : Int) := nI_toInt (by omega)
  intro q
  induction q with
  | zero =>
    intro cn b M o5 o6 hr hR hF hx hB hp H
    have ec : cn = clsP P := by omega
    rcases wid_11 hR.1 H with ⟨_, H⟩ | ⟨a1, _⟩
    · exact ⟨M, b, nI cn, o5, o6, hR, hF, hx, hB, hp.more (fun c hc _ => by omega), H⟩
    · exact absurd (Int32.le_iff_toInt_le.mpr (by rw [tn, nI_toInt (by omega)]; omega)) a1
  | succ q ih =>
    intro cn b M o5 o6 hr hR hF hx hB hp H
    have hc : cn < clsP P := by omega
    obtain ⟨ic, tc, c2⟩ := nIin hw hc
    have eo : G_148 M (nI cn) = bI (opnB P (nI cn)) := g148_ok hR hw ic
    rcases wid_11 hR.1 H with ⟨a1, _⟩ | ⟨_, H⟩
    · have := Int32.le_iff_toInt_le.mp a1
      omega
    · by_cases ho : opnB P (nI cn) = true
      · obtain ⟨M1, p5, p6, R1, F1, x1, st, B1, H⟩ := wid_d (mb := b) hw hs hc ho hB 8 0 M b o6 rfl hR (FZ.refl _) (fun _ _ _ _ => rfl) (hB cn hc).1 (Int.le_refl _) (Or.inl rfl) (fun d o hd => absurd hd (Nat.not_lt_zero d)) (by rw [decide_eq_false (Int.lt_irrefl _), Bool.or_false]) H
        exact ih (cn + 1) _ M1 p5 p6 (by omega) R1 (hF.trans F1) (fun x c h9 hne => (x1 x c h9 (fun q => hne q.1)).trans (hx x c h9 hne)) B1 ((hp.step hc st).more (fun c _ hx => by
          by_cases z : c = cn
          · exact Or.inl z
          · exact Or.inr (by omega))) H
      · have ho := Bool.eq_false_iff.mpr ho
        rcases wid_20 hR.1 H with ⟨a1, _⟩ | ⟨_, _, H⟩ | ⟨_, a2, _⟩ | ⟨_, a2, _⟩ | ⟨_, a2, _⟩ | ⟨_, a2, _⟩
        · exact absurd a1 (by decide)
        · rw [nI_p1 (by omega)] at H
          have st : StE (edL P) (clsP P) cn (coR M s) (coR M s) := ⟨fun _ _ _ => rfl, Int.le_refl _, fun o w _ he => absurd he.1 (by rw [ho]; decide), Or.inl rfl⟩
          have p2 := hp.step hc st
          rw [decide_eq_false (Int.lt_irrefl _), Bool.or_false] at p2
          exact ih (cn + 1) b M _ o6 (by omega) hR hF hx hB (p2.more (fun c _ hx => by
            by_cases z : c = cn
            · exact Or.inl z
            · exact Or.inr (by omega))) H
        all_goals exact absurd (by rw [eo, ho]; rfl) a2
/-- the costs of a set are spread -/
theorem wid_l (hw : wh4 P) (hs : s < 64) : ∀ (q : Nat) (M : Mem) (o4 o5 o6 : Option Value), smR (coR M s) (clsP P) ≤ (q : Int) → RST T P M → FZ noF cqW noO M0 M → (∀ x c, c < 256 → ¬ x = s → coR M x c = coR M0 x c) → b7R (clsP P) (coR M s) → LwE (edL P) (clsP P) v0 (coR M s) → Ev none e 226 2 [some (.ref 633), some (.int (256 * nI s)), some (.int (nI (clsP P))), some (.int 1), o4, o5, o6] [] M v M' 0 0 → v = none ∧ RST T P M' ∧ FZ noF cqW noO M0 M' ∧ (∀ x c, c < 256 → ¬ x = s → coR M' x c = coR M0 x c) ∧ GfE (edL P) (clsP P) v0 (coR M' s) := by
  have rnd : ∀ (M : Mem) (o4 o5 o6 : Option Value), RST T P M → FZ noF cqW noO M0 M → (∀ x c, c < 256 → ¬ x = s → coR M x c = coR M0 x c) → b7R (clsP P) (coR M s) → LwE (edL P) (clsP P) v0 (coR M s) → Ev none e 226 2 [some (.ref 633), some (.int (256 * nI s)), some (.int (nI (clsP P))), some (.int 1), o4, o5, o6] [] M v M' 0 0 → (v = none ∧ RST T P M' ∧ FZ noF cqW noO M0 M' ∧ (∀ x c, c < 256 → ¬ x = s → coR M' x c = coR M0 x c) ∧ GfE (edL P) (clsP P) v0 (coR M' s)) ∨ ∃ M2 o4 o5 o6, smR (coR M2 s) (clsP P) < smR (coR M s) (clsP P) ∧ RST T P M2 ∧ FZ noF cqW noO M0 M2 ∧ (∀ x c, c < 256 → ¬ x = s → coR M2 x c = coR M0 x c) ∧ b7R (clsP P) (coR M2 s) ∧ LwE (edL P) (clsP P) v0 (coR M2 s) ∧ Ev none e 226 2 [some (.ref 633), some (.int (256 * nI s)), some (.int (nI (clsP P))), some (.int 1), o4, o5, o6] [] M2 v M' 0 0 := fun M o4 o5 o6 hR hF hx hB hL H => by
    rcases wid_2 hR.1 H with ⟨a1, _⟩ | ⟨_, H⟩
    · exact absurd a1 (by decide)
    obtain ⟨M2, b2, c2, p5, p6, R2, F2, x2, B2, p2, H⟩ := wid_up (f0 := coR M s) hw hs (clsP P) 0 false M o5 o6 (by omega) hR hF hx hB (PsE.refl (fun c => Nat.not_lt_zero c)) H
    cases b2 with
    | false =>
      rcases wid_2 R2.1 H with ⟨_, r1, r2⟩ | ⟨a1, _⟩
      · rw [r2]
        exact Or.inl ⟨r1, R2, F2, x2, hL.ps p2, p2.fix (fun c hc => hc)⟩
      · exact absurd rfl a1
    | true => exact Or.inr ⟨M2, some (.int c2), p5, p6, smR_lt _ p2.1 (p2.2.2.2.1 rfl), R2, F2, x2, B2, hL.ps p2, H⟩
  intro q
  induction q with
  | zero =>
    intro M o4 o5 o6 hq hR hF hx hB hL H
    rcases rnd M o4 o5 o6 hR hF hx hB hL H with h | ⟨M2, p4, p5, p6, h1, _, _, _, B2, _⟩
    · exact h
    · have := smR_ge (clsP P) (fun c hc => (B2 c hc).1)
      omega
  | succ q ih =>
    intro M o4 o5 o6 hq hR hF hx hB hL H
    rcases rnd M o4 o5 o6 hR hF hx hB hL H with h | ⟨M2, p4, p5, p6, h1, R2, F2, x2, B2, L2, H⟩
    · exact h
    · exact ih M2 p4 p5 p6 (by omega) R2 F2 x2 B2 L2 H
theorem wid_ok (hw : wh4 P) (hR : RST T P M) (hs : s < 64) (hB : b7R (clsP P) (coR M s)) (H : Ev none e 226 0 [some (.ref 633), some (.int (256 * nI s)), some (.int (nI (clsP P))), none, none, none, none] [] M v M' 0 0) : v = none ∧ RST T P M' ∧ FZ noF cqW noO M M' ∧ (∀ x c, c < 256 → ¬ x = s → coR M' x c = coR M x c) ∧ GfE (edL P) (clsP P) (coR M s) (coR M' s) := wid_l hw hs (smR (coR M s) (clsP P)).toNat M none none none (by have := smR_ge (clsP P) (fun c hc => (hB c hc).1); omega) hR (FZ.refl _) (fun _ _ _ _ => rfl) hB LwE.refl (wid_0 hR.1 H)
/-! the sets -/
def RLq (T : TS) (P : PK) (m : Nat) (t : Nat → Nat) (M : Mem) : Prop := RST T P M ∧ zI M 633 3 = nI m ∧ ∀ i, i < m → (3 + G_142 M (nI i)).toInt.toNat < 2314 ∧ 0 ≤ (3 + G_142 M (nI i)).toInt ∧ rI M 635 (3 + G_142 M (nI i)) = nI (t i) ∧ t i < clsP P ∧ opnB P (nI (t i)) = true
theorem RLq.cq (h : RLq T P m t M) (hS : SQ M') (hF : FZ noF cqW noO M M') : RLq T P m t M' := by
  obtain ⟨h1, h2, h3⟩ := h
  have e : ∀ i, G_142 M' i = G_142 M i := fun i => by
    unfold G_142 rI
    rw [hF.rn (by unfold cqW; omega)]
  refine ⟨h1.cq hS hF, (hF.fi (fun q => q)).trans h2, fun i hi => ?_⟩
  rw [e]
  obtain ⟨a1, a2, a3, a4⟩ := h3 i hi
  refine ⟨a1, a2, ?_, a4⟩
  have q : rI M' 635 (3 + G_142 M (nI i)) = rI M 635 (3 + G_142 M (nI i)) := hF.rn (by unfold cqW; omega)
  exact q.trans a3
/-- the parts of s at one CELL: what is told when p is next -/
def PSv (m : Nat) (pr : ROW) (t : Nat → Nat) (C : Nat → ROW) (s p c : Nat) (x : Int) : Prop := (0 ≤ x ∧ x ≤ 10000000) ∧ (∀ i, i < m → s = 2 ^ i → c = t i → x ≤ pr c) ∧ (∀ p' q', Spl s p' q' → p < p' → x ≤ C p' c + C q' c - pr c) ∧ (x = 10000000 ∨ (∃ i, i < m ∧ s = 2 ^ i ∧ c = t i ∧ x = pr c) ∨ ∃ p' q', Spl s p' q' ∧ x = C p' c + C q' c - pr c)
theorem lsr_p (hw : wh4 P) (hs : s < 64) (hc : cn < clsP P) (hK : RLq T P m t M) (hb : ∀ p, 0 < p → p < s → 0 ≤ coR M p cn ∧ coR M p cn ≤ 10000000 ∧ prL P cn ≤ coR M p cn) : ∀ (p : Nat) (u : Int32) (o7 : Option Value), p &&& s = p → p < s → PSv m (prL P) t (coR M) s p cn u.toInt → Ev none e 225 179 [some (.ref 633), some (.int nz), some (.int az), some (.int (nI s)), some (.int (nI cn)), some (.int u), some (.int (nI p)), o7] [] M v M' 0 0 → ∃ (x : Int32) (pz : Int32) (o7 : Option Value), PSv m (prL P) t (coR M) s 0 cn x.toInt ∧ Ev none e 225 109 [some (.ref 633), some (.int nz), some (.int az), some (.int (nI s)), some (.int (nI (cn + 1))), some (.int x), some (.int pz), o7] [] (wI M 654 (256 * s + cn) x) v M' 0 0 := by
  obtain ⟨_, c256, _⟩ := cls_int hw
  have t0 : (0 : Int32).toInt = 0 := rfl
  have hpr := prL_r (P := P) cn
  intro p
  induction p using Nat.strongRecOn with
  | ind p ih =>
    intro u o7 hps hlt hP H
    have tp : (nI p).toInt = (p : Int) := nI_toInt (by omega)
    have H := lsr_179 hK.1.1 H
    by_cases p0 : p = 0
    · rcases H with ⟨_, _, H⟩ | ⟨a1, _⟩ | ⟨a1, _⟩
      · rw [cl_n (ix654 hs (by omega)), nI_p1 (by omega)] at H
        rw [p0] at hP
        exact ⟨u, _, o7, hP, H⟩
      all_goals exact absurd (Int32.le_iff_toInt_le.mpr (by omega)) a1
    · have hsp := sub_spl hs hps (by omega) hlt
      obtain ⟨⟨u1, u2⟩, _, u3⟩ := sub_ok hs hps
      have u2 := u2 (by omega)
      have b1 := hb p (by omega) hlt
      have b2 := hb (s - p) (by omega) (by omega)
      have ep := g224_ok hK.1 hw hc
      have q1 := rI_co (M := M) (s := p) (cn := cn) (by omega) (by omega)
      have q2 := rI_co (M := M) (s := s - p) (cn := cn) (by omega) (by omega)
      have sm : (rI M 654 (256 * nI p + nI cn) + rI M 654 (256 * nI (s - p) + nI cn) - G_224 M (nI cn)).toInt = coR M p cn + coR M (s - p) cn - prL P cn := by
        have q : (rI M 654 (256 * nI p + nI cn) + rI M 654 (256 * nI (s - p) + nI cn)).toInt = coR M p cn + coR M (s - p) cn := by rw [i32_add (by omega) (by omega), q1, q2]
        rw [i32_sub (by omega) (by omega), q, ep]
      rw [not_n s hs p (by omega) hps, nI_m1 (by omega) (by omega), and_n (p - 1) (by omega) s hs] at H
      obtain ⟨g1, g2, g3, g4⟩ := hP
      rcases H with ⟨a1, _⟩ | ⟨_, a2, _, _, H⟩ | ⟨_, a2, _, _, H⟩
      · have := Int32.le_iff_toInt_le.mp a1
        omega
      · have a2 := Int32.le_iff_toInt_le.mp a2
        rw [sm] at a2
        refine ih _ u2 u _ u1 (by omega) ⟨g1, g2, fun p' q' hs' hl => ?_, g4⟩ H
        obtain ⟨x1, x2, x3⟩ := spl_sub hs hs'
        by_cases y : p' = p
        · rw [x3, y]
          exact a2
        · have := u3 p' x1
          exact g3 p' q' hs' (by omega)
      · rw [Int32.le_iff_toInt_le, sm] at a2
        refine ih _ u2 _ _ u1 (by omega) ?_ H
        rw [sm]
        refine ⟨by omega, fun i hi i1 i2 => by have := g2 i hi i1 i2; omega, fun p' q' hs' hl => ?_, Or.inr (Or.inr ⟨p, s - p, hsp, rfl⟩)⟩
        obtain ⟨x1, x2, x3⟩ := spl_sub hs hs'
        by_cases y : p' = p
        · rw [x3, y]
          exact Int.le_refl _
        · have := u3 p' x1
          have := g3 p' q' hs' (by omega)
          omega
theorem lsr_i (hw : wh4 P) (hm : m ≤ 6) (hs : s < 2 ^ m) (s0 : 0 < s) (hc : cn < clsP P) (hK : RLq T P m t M) (hb : ∀ p, 0 < p → p < s → 0 ≤ coR M p cn ∧ coR M p cn ≤ 10000000 ∧ prL P cn ≤ coR M p cn) : ∀ (r i : Nat) (u : Int32) (o7 : Option Value), i + r = m → (0 ≤ u.toInt ∧ u.toInt ≤ 10000000) → (∀ j, j < i → s = 2 ^ j → cn = t j → u.toInt ≤ prL P cn) → (u.toInt = 10000000 ∨ ∃ j, j < m ∧ s = 2 ^ j ∧ cn = t j ∧ u.toInt = prL P cn) → Ev none e 225 123 [some (.ref 633), some (.int nz), some (.int az), some (.int (nI s)), some (.int (nI cn)), some (.int u), some (.int (nI i)), o7] [] M v M' 0 0 → ∃ (x : Int32) (pz : Int32) (o7 : Option Value), PSv m (prL P) t (coR M) s 0 cn x.toInt ∧ Ev none e 225 109 [some (.ref 633), some (.int nz), some (.int az), some (.int (nI s)), some (.int (nI (cn + 1))), some (.int x), some (.int pz), o7] [] (wI M 654 (256 * s + cn) x) v M' 0 0 := by
  obtain ⟨_, c256, _⟩ := cls_int hw
  have k64 : 2 ^ m ≤ 64 := by
    have := Nat.pow_le_pow_right (n := 2) (by decide) hm
    omega
  have tm : (nI m).toInt = (m : Int) := nI_toInt (by omega)
  have hpr := prL_r (P := P) cn
  have ep := g224_ok hK.1 hw hc
  intro r
  induction r with
  | zero =>
    intro i u o7 hi h1 h2 h3 H
    have ti : (nI i).toInt = (i : Int) := nI_toInt (by omega)
    have H := lsr_123 hK.1.1 H
    rw [hK.2.1] at H
    rcases H with ⟨_, H⟩ | ⟨a1, _⟩ | ⟨a1, _⟩ | ⟨a1, _⟩
    · rw [nI_m1 s0 (by omega), and_n (s - 1) (by omega) s (by omega)] at H
      have sss : s &&& s = s := Nat.and_self s
      obtain ⟨⟨u1, u2⟩, _, u3⟩ := sub_ok (show s < 64 by omega) sss
      refine lsr_p hw (by omega) hc hK hb _ u o7 u1 (u2 s0) ⟨h1, fun j hj => h2 j (by omega), fun p' q' hs' hl => ?_, ?_⟩ H
      · obtain ⟨x1, x2, _⟩ := spl_sub (by omega) hs'
        have := u3 p' x1 x2
        omega
      · rcases h3 with h3 | h3
        · exact Or.inl h3
        · exact Or.inr (Or.inl h3)
    all_goals exact absurd (Int32.le_iff_toInt_le.mpr (by omega)) a1
  | succ r ih =>
    intro i u o7 hi h1 h2 h3 H
    have ti : (nI i).toInt = (i : Int) := nI_toInt (by omega)
    obtain ⟨d1, d2, d3, d4, d5⟩ := hK.2.2 i (by omega)
    have H := lsr_123 hK.1.1 H
    rw [hK.2.1, shl_n i (by omega), d3] at H
    have hl : 2 ^ i < 2 ^ m := Nat.pow_lt_pow_right (by decide) (by omega)
    have eqs : nI s = nI (2 ^ i) → s = 2 ^ i := fun q => by
      have q := congrArg Int32.toInt q
      rw [nI_toInt (by omega), nI_toInt (by omega)] at q
      omega
    have eqc : nI (t i) = nI cn → cn = t i := fun q => by
      have q := congrArg Int32.toInt q
      rw [nI_toInt (by omega), nI_toInt (by omega)] at q
      omega
    rcases H with ⟨a1, _⟩ | ⟨_, a2, a3, _, H⟩ | ⟨_, a2, a3, _, H⟩ | ⟨_, a2, H⟩
    · have := Int32.le_iff_toInt_le.mp a1
      omega
    · rw [nI_p1 (by omega)] at H
      exact ih (i + 1) _ o7 (by omega) (by rw [ep]; omega) (fun _ _ _ _ => by rw [ep]; exact Int.le_refl _) (Or.inr ⟨i, by omega, eqs a2, eqc a3, ep⟩) H
    · rw [nI_p1 (by omega)] at H
      refine ih (i + 1) u o7 (by omega) h1 (fun j hj j1 j2 => ?_) h3 H
      by_cases z : j = i
      · rw [z] at j2
        exact absurd (by rw [j2]) a3
      · exact h2 j (by omega) j1 j2
    · rw [nI_p1 (by omega)] at H
      refine ih (i + 1) u o7 (by omega) h1 (fun j hj j1 j2 => ?_) h3 H
      by_cases z : j = i
      · rw [z] at j1
        exact absurd (by rw [j1]) a2
      · exact h2 j (by omega) j1 j2
theorem lsr_c (hw : wh4 P) (hm : m ≤ 6) (hs : s < 2 ^ m) (s0 : 0 < s) (hb : ∀ p, 0 < p → p < s → ∀ c, c < clsP P → 0 ≤ coR M0 p c ∧ coR M0 p c ≤ 10000000 ∧ prL P c ≤ coR M0 p c) : ∀ (r cn : Nat) (M : Mem) (o5 o6 o7 : Option Value), cn + r = clsP P → RLq T P m t M → FZ noF cqW noO M0 M → (∀ x c, c < 256 → ¬ x = s → coR M x c = coR M0 x c) → (∀ c, c < cn → PSv m (prL P) t (coR M0) s 0 c (coR M s c)) → Ev none e 225 109 [some (.ref 633), some (.int (nI (clsP P))), some (.int az), some (.int (nI s)), some (.int (nI cn)), o5, o6, o7] [] M v M' 0 0 → ∃ M2 o4 o5 o6 o7, RLq T P m t M2 ∧ (∀ x c, c < 256 → ¬ x = s → coR M2 x c = coR M0 x c) ∧ (∃ st, (∀ c, c < clsP P → PSv m (prL P) t (coR M0) s 0 c (st c)) ∧ GfE (edL P) (clsP P) st (coR M2 s)) ∧ Ev none e 225 101 [some (.ref 633), some (.int (nI (clsP P))), some (.int az), some (.int (nI (s + 1))), o4, o5, o6, o7] [] M2 v M' 0 0 := by
  obtain ⟨_, c256, _⟩ := cls_int hw
  have k64 : 2 ^ m ≤ 64 := by
    have := Nat.pow_le_pow_right (n := 2) (by decide) hm
    omega
  have tn : (nI (clsP P)).toInt = (clsP P : Int) := nI_toInt (by omega)
  intro r
  induction r with
  | zero =>
    intro cn M o5 o6 o7 hr hK hF hx hP H
    have tc : (nI cn).toInt = (cn : Int) := nI_toInt (by omega)
    rcases lsr_109 hK.1.1 H with ⟨_, e1, v1, M1, _, H1, H⟩ | ⟨a1, _⟩
    · obtain ⟨q1, q2, q3, q4, q5⟩ := wid_ok hw hK.1 (by omega) (fun c hc => (hP c (by omega)).1) H1
      rw [q1] at H
      have H := lsr_284 q2.1 H
      rw [nI_p1 (by omega)] at H
      exact ⟨M1, _, _, _, _, hK.cq q2.1 q3, fun x c h9 hne => (q4 x c h9 hne).trans (hx x c h9 hne), ⟨coR M s, fun c hc => hP c (by omega), q5⟩, H⟩
    · exact absurd (Int32.le_iff_toInt_le.mpr (by omega)) a1
  | succ r ih =>
    intro cn M o5 o6 o7 hr hK hF hx hP H
    have hc : cn < clsP P := by omega
    have tc : (nI cn).toInt = (cn : Int) := nI_toInt (by omega)
    rcases lsr_109 hK.1.1 H with ⟨a1, _⟩ | ⟨_, H⟩
    · have := Int32.le_iff_toInt_le.mp a1
      omega
    · have ex : ∀ p, p < s → coR M p cn = coR M0 p cn := fun p hp => hx p cn (by omega) (by omega)
      obtain ⟨x, pz, o7', g, H⟩ := lsr_i hw hm hs s0 hc hK (fun p p0 ps => by rw [ex p ps]; exact hb p p0 ps cn hc) m 0 10000000 o7 (by omega) (by decide) (fun j hj => absurd hj (Nat.not_lt_zero j)) (Or.inl rfl) H
      have S := hK.1.1
      have F1 : FZ noF cqW noO M (wI M 654 (256 * s + cn) x) := FZ.wI rfl
      refine ih (cn + 1) _ _ _ _ (by omega) (hK.cq S.ki F1) (hF.trans F1) (fun y c h9 hne => (co_ne h9 (by omega) (fun q => hne q.1)).trans (hx y c h9 hne)) (fun c hcc => ?_) H
      by_cases z : c = cn
      · rw [z, co_eq S (by omega) (by omega)]
        obtain ⟨g1, g2, g3, g4⟩ := g
        refine ⟨g1, g2, fun p' q' hs' hl => ?_, ?_⟩
        · have := hs'.1
          have := hs'.2.1
          have := hs'.2.2.2
          rw [← ex p' (by omega), ← ex q' (by omega)]
          exact g3 p' q' hs' hl
        · rcases g4 with g4 | g4 | ⟨p', q', hs', g4⟩
          · exact Or.inl g4
          · exact Or.inr (Or.inl g4)
          · have := hs'.1
            have := hs'.2.1
            have := hs'.2.2.2
            exact Or.inr (Or.inr ⟨p', q', hs', by rw [← ex p' (by omega), ← ex q' (by omega)]; exact g4⟩)
      · rw [co_ne (by omega) (by omega) (fun q => z q.2)]
        exact hP c (by omega)
theorem lsr_s (hw : wh4 P) (hm : m ≤ 6) (ht : ∀ i, i < m → opnB P (nI (t i)) = true) : ∀ (r s : Nat) (M : Mem) (o4 o5 o6 o7 : Option Value), s + r = 2 ^ m → 0 < s → RLq T P m t M → SyC (edL P) (clsP P) m 10000000 (prL P) t (coR M) s → Ev none e 225 101 [some (.ref 633), some (.int (nI (clsP P))), some (.int (nI (2 ^ m - 1))), some (.int (nI s)), o4, o5, o6, o7] [] M v M' 0 0 → ∃ M2 o5 o6 o7, SQ M2 ∧ SyC (edL P) (clsP P) m 10000000 (prL P) t (coR M2) (2 ^ m) ∧ Ev none e 225 297 [some (.ref 633), some (.int (nI (clsP P))), some (.int (nI (2 ^ m - 1))), some (.int 10000000), some (.int 0), o5, o6, o7] [] M2 v M' 0 0 := by
  obtain ⟨_, c256, _⟩ := cls_int hw
  have k64 : 2 ^ m ≤ 64 := by
    have := Nat.pow_le_pow_right (n := 2) (by decide) hm
    omega
  have p0 := Nat.two_pow_pos m
  have ta : (nI (2 ^ m - 1)).toInt = ((2 ^ m - 1 : Nat) : Int) := nI_toInt (by omega)
  have hE : ∀ c o w, c < clsP P → o < clsP P → edL P c o w → w = prL P c := fun c o w _ _ h => edL_w h
  have hp : ∀ c, c < clsP P → 1 ≤ prL P c ∧ prL P c ≤ 21 := fun c _ => prL_r c
  intro r
  induction r with
  | zero =>
    intro s M o4 o5 o6 o7 hr hs hK hy H
    have ts : (nI s).toInt = (s : Int) := nI_toInt (by omega)
    rcases lsr_101 hK.1.1 H with ⟨_, H⟩ | ⟨a1, _⟩
    · exact ⟨M, o5, o6, o7, hK.1.1, by rw [← show s = 2 ^ m by omega]; exact hy, H⟩
    · exact absurd (Int32.lt_iff_toInt_lt.mpr (by omega)) a1
  | succ r ih =>
    intro s M o4 o5 o6 o7 hr hs hK hy H
    have ts : (nI s).toInt = (s : Int) := nI_toInt (by omega)
    rcases lsr_101 hK.1.1 H with ⟨a1, _⟩ | ⟨_, H⟩
    · have := Int32.lt_iff_toInt_lt.mp a1
      omega
    · have low := sy_low hE hp (by decide) hy
      obtain ⟨M2, p4, p5, p6, p7, K2, x2, ⟨st, g1, g2⟩, H⟩ := lsr_c (M0 := M) hw hm (by omega) hs (fun p p0 ps c hc => by
        have a := low p p0 ps c hc
        have b := sy_hi hy p0 ps hc
        have := hp c hc
        omega) (clsP P) 0 M o5 o6 o7 (by omega) hK (FZ.refl _) (fun _ _ _ _ => rfl) (fun c hc => absurd hc (Nat.not_lt_zero c)) H
      refine ih (s + 1) M2 _ _ _ _ (by omega) (by omega) K2 (fun x x0 xs => ?_) H
      have sc : StC (clsP P) m 10000000 (prL P) t (coR M) s st := fun c hc => by
        obtain ⟨a1, a2, a3, a4⟩ := g1 c hc
        exact ⟨a1.2, a2, fun p q hs => a3 p q hs hs.1, a4⟩
      have hy2 : SyC (edL P) (clsP P) m 10000000 (prL P) t (coR M2) s := hy.congr (fun p hp c hc => x2 p c (by omega) (by omega))
      by_cases y : x = s
      · rw [y]
        exact ⟨st, sc.congr (fun p hp c hc => x2 p c (by omega) (by omega)), g2⟩
      · exact hy2 x x0 (by omega)
/-- the least of a row -/
theorem lsr_b (hw : wh4 P) (hS : SQ M) (hs : s < 64) (hB : b7R (clsP P) (coR M s)) : ∀ (r cn : Nat) (be : Int32) (o5 o6 o7 : Option Value), cn + r = clsP P → (0 ≤ be.toInt ∧ be.toInt ≤ 10000000) → (∀ c, c < cn → be.toInt ≤ coR M s c) → (be.toInt = 10000000 ∨ ∃ c, c < clsP P ∧ be.toInt = coR M s c) → Ev none e 225 297 [some (.ref 633), some (.int (nI (clsP P))), some (.int (nI s)), some (.int be), some (.int (nI cn)), o5, o6, o7] [] M v M' 0 0 → ∃ x : Int, (∀ c, c < clsP P → x ≤ coR M s c) ∧ (x = 10000000 ∨ ∃ c, c < clsP P ∧ x = coR M s c) ∧ x ≤ 10000000 ∧ ∃ y : Int32, v = some (.int y) ∧ ((x < 10000000 ∧ y.toInt = x) ∨ (¬ x < 10000000 ∧ y = -1)) := by
  obtain ⟨_, c256, _⟩ := cls_int hw
  have tn : (nI (clsP P)).toInt = (clsP P : Int) := nI_toInt (by omega)
  have tF : (10000000 : Int32).toInt = 10000000 := rfl
  intro r
  induction r with
  | zero =>
    intro cn be o5 o6 o7 hr h1 h2 h3 H
    have tc : (nI cn).toInt = (cn : Int) := nI_toInt (by omega)
    rcases lsr_297 hS H with ⟨_, a2, r1, _⟩ | ⟨_, a2, r1, _⟩ | ⟨a1, _⟩ | ⟨a1, _⟩
    · have a2 := Int32.lt_iff_toInt_lt.mp a2
      exact ⟨be.toInt, fun c hc => h2 c (by omega), h3, h1.2, be, r1, Or.inl ⟨by omega, rfl⟩⟩
    · rw [Int32.lt_iff_toInt_lt] at a2
      exact ⟨be.toInt, fun c hc => h2 c (by omega), h3, h1.2, -1, r1, Or.inr ⟨by omega, rfl⟩⟩
    all_goals exact absurd (Int32.le_iff_toInt_le.mpr (by omega)) a1
  | succ r ih =>
    intro cn be o5 o6 o7 hr h1 h2 h3 H
    have hc : cn < clsP P := by omega
    have tc : (nI cn).toInt = (cn : Int) := nI_toInt (by omega)
    have er := rI_co (M := M) (s := s) (cn := cn) hs (by omega)
    have bB := hB cn hc
    rcases lsr_297 hS H with ⟨a1, _⟩ | ⟨a1, _⟩ | ⟨_, a2, _, H⟩ | ⟨_, a2, _, _, H⟩
    · have := Int32.le_iff_toInt_le.mp a1
      omega
    · have := Int32.le_iff_toInt_le.mp a1
      omega
    · have a2 := Int32.le_iff_toInt_le.mp a2
      rw [er] at a2
      rw [nI_p1 (by omega)] at H
      refine ih (cn + 1) be _ _ _ (by omega) h1 (fun c hcc => ?_) h3 H
      by_cases z : c = cn
      · rw [z]
        exact a2
      · exact h2 c (by omega)
    · rw [Int32.le_iff_toInt_le, er] at a2
      rw [nI_p1 (by omega)] at H
      refine ih (cn + 1) _ _ _ _ (by omega) (by rw [er]; exact bB) (fun c hcc => ?_) (Or.inr ⟨cn, hc, er⟩) H
      rw [er]
      by_cases z : c = cn
      · rw [z]
        exact Int.le_refl _
      · have := h2 c (by omega)
        omega
end RLES
