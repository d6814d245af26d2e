/-! THE REFERENCE'S longer -/
noncomputable def wyR (M : Mem) : ROW := fun c => (rN M 655 c).toInt
def okqP (g : TQ) (P : PK) (fm : Bool) (xn yn : Nat) (c : Nat) : Prop := opnB P (nI c) = true ∧ (fm = false ∨ c = xn ∨ c = yn ∨ grnB P (nI c) = false ∨ wrnB g P (nI c) = true)
def wqW (b : Nat) : Prop := b = 655
def wyB7 (n : Nat) (f : ROW) : Prop := ∀ c, c < n → 0 ≤ f c ∧ f c ≤ 10000000
section RLNO
variable {e a cn n k r o xn yn : Nat} {T : TS} {g : TQ} {P : PK} {ok : Nat → Prop} {v0 f0 f : ROW} {M M0 M1 M2 M' : Mem} {v : Option Value} {x y fz : Int32} {fm b : Bool} {w : Int}
theorem RST.wy (h : RST T P M) (hS : SQ M') (hF : FZ noF wqW noO M M') : RST T P M' := h.fz hS hF (fun _ _ _ q => q) (fun a ha q => by
  have q : a = 655 := q
  omega)
theorem wy_len (hS : SQ M) : (zrw M 655).length = 256 := (hS.1.row qa_655 qw_83).2
theorem wy_eq (hS : SQ M) (hc : cn < 256) (z : Int32) : wyR (wI M 655 cn z) cn = z.toInt := by
  unfold wyR
  rw [rN_wI_eq (by rw [wy_len hS]; exact hc)]
theorem wy_ne {z : Int32} (h : ¬ k = cn) : wyR (wI M 655 cn z) k = wyR M k := by
  unfold wyR
  rw [rN_wI_ne (fun q => h q.2)]
theorem nI_rem : ∀ k, k < 8 → ((nI k - nI k / 2 * 2 = 0) ↔ k % 2 = 0) := by decide +kernel
/-- the cells beside one -/
theorem rsh_d (hw : wh4 P) (hc : cn < clsP P) (hok : ok cn) (hB : wyB7 (clsP P) (wyR M0)) : ∀ (q k : Nat) (M : Mem) (b : Bool) (o7 o8 : Option Value), k + q = 8 → RST T P M → FZ noF wqW noO M0 M → (∀ c, ¬ c = cn → wyR M c = wyR M0 c) → 0 ≤ wyR M cn → wyR M cn ≤ wyR M0 cn → (wyR M cn = wyR M0 cn ∨ ∃ o w, o < clsP P ∧ edK P ok cn o w ∧ wyR M cn = wyR M0 o + w) → (∀ d o, d < k → o < clsP P → besP P (nI cn) (nI d) = nI o → wyR M cn ≤ wyR M0 o + (if d % 2 = 0 then 10 else 14)) → b = (fm || decide (wyR M cn < wyR M0 cn)) → Ev none e 227 107 [some (.ref 633), some (.int x), some (.int y), some (.int fz), some (.int (bI b)), some (.int (nI cn)), some (.int (nI k)), o7, o8] [] M v M' 0 0 → ∃ M2 o6 o7 o8, RST T P M2 ∧ FZ noF wqW noO M0 M2 ∧ StE (edK P ok) (clsP P) cn (wyR M0) (wyR M2) ∧ wyB7 (clsP P) (wyR M2) ∧ Ev none e 227 49 [some (.ref 633), some (.int x), some (.int y), some (.int fz), some (.int (bI (fm || decide (wyR M2 cn < wyR M0 cn)))), some (.int (nI (cn + 1))), o6, o7, o8] [] M2 v M' 0 0 := by
  obtain ⟨_, c256, _⟩ := cls_int hw
  obtain ⟨ic, tc, c2⟩ := nIin hw hc
  have t8 : (8 : Int32).toInt = 8 := rfl
  have t0 : (0 : Int32).toInt = 0 := rfl
  have t10 : (10 : Int32).toInt = 10 := rfl
  have t14 : (14 : Int32).toInt = 14 := rfl
  have tF : (10000000 : Int32).toInt = 10000000 := rfl
  intro q
  induction q with
  | zero =>
    intro k M b o7 o8 hk hR hF hx l0 l1 l2 l3 hb H
    have ek : k = 8 := by omega
    subst ek
    rcases rsh_107 hR.1 H with ⟨_, H⟩ | ⟨b1, _⟩ | ⟨b1, _⟩ | ⟨b1, _⟩ | ⟨b1, _⟩ | ⟨b1, _⟩ | ⟨b1, _⟩
    · rw [nI_p1 (by omega), hb] at H
      refine ⟨M, _, o7, o8, hR, hF, ⟨fun c _ hne => hx c hne, l1, fun o w ho he => ?_, l2⟩, fun c hcc => ?_, H⟩
      · obtain ⟨_, d, d8, d1, d2⟩ := he
        rw [d2]
        exact l3 d o d8 ho d1
      · by_cases z : c = cn
        · rw [z]
          have := (hB cn hc).2
          omega
        · rw [hx c z]
          exact hB c hcc
    all_goals exact absurd (by decide) b1
  | succ q ih =>
    intro k M b o7 o8 hk hR hF hx l0 l1 l2 l3 hb H
    have k8 : k < 8 := by omega
    have tk : (nI k).toInt = (k : Int) := nI_toInt (by omega)
    have nx : nI k + 1 = nI (k + 1) := nI_p1 (by omega)
    have eb : G_194 M (nI cn) (nI k) = besP P (nI cn) (nI k) := g194_ok hR
    have er : (rI M 655 (nI cn)).toInt = wyR M cn := by
      rw [rI_n tc]
      rfl
    have fB := hB cn hc
    have S := hR.1
    -- a cell beside: its row, its number
    have inn : 0 ≤ besP P (nI cn) (nI k) → ∃ o, o < clsP P ∧ besP P (nI cn) (nI k) = nI o ∧ (rI M 655 (besP P (nI cn) (nI k))).toInt = wyR M o := fun h => by
      rcases besP_in (d := nI k) hw ic with q | q
      · rw [q] at h
        exact absurd h (by decide)
      · have q0 := q.1
        have q1 := q.2
        have o2 : besP P (nI cn) (nI k) = nI (besP P (nI cn) (nI k)).toInt.toNat := Int32.toInt_inj.mp (by rw [nI_toInt (by omega)]; omega)
        refine ⟨_, q1, o2, ?_⟩
        rw [rI_n (p := (besP P (nI cn) (nI k)).toInt.toNat) (by omega)]
        rfl
    have uniq : ∀ o o' : Nat, o < clsP P → o' < clsP P → nI o = nI o' → o = o' := fun o o' h1 h2 h => by
      have a1 : (nI o).toInt = (o : Int) := nI_toInt (by omega)
      have a2 : (nI o').toInt = (o' : Int) := nI_toInt (by omega)
      rw [h] at a1
      omega
    -- the row of a cell beside, as it was
    have olo : ∀ o, o < clsP P → wyR M o ≤ wyR M0 o ∧ 0 ≤ wyR M o ∧ wyR M o ≤ 10000000 := fun o ho => by
      have := hB o ho
      by_cases z : o = cn
      · rw [z]
        omega
      · rw [hx o z]
        omega
    -- no less
    have stay : ∀ (o7 o8 : Option Value), (∀ o, o < clsP P → besP P (nI cn) (nI k) = nI o → wyR M cn ≤ wyR M0 o + (if k % 2 = 0 then 10 else 14)) → Ev none e 227 107 [some (.ref 633), some (.int x), some (.int y), some (.int fz), some (.int (bI b)), some (.int (nI cn)), some (.int (nI k + 1)), o7, o8] [] M v M' 0 0 → ∃ M2 o6 o7 o8, RST T P M2 ∧ FZ noF wqW noO M0 M2 ∧ StE (edK P ok) (clsP P) cn (wyR M0) (wyR M2) ∧ wyB7 (clsP P) (wyR M2) ∧ Ev none e 227 49 [some (.ref 633), some (.int x), some (.int y), some (.int fz), some (.int (bI (fm || decide (wyR M2 cn < wyR M0 cn)))), some (.int (nI (cn + 1))), o6, o7, o8] [] M2 v M' 0 0 := fun o7 o8 hn H => by
      rw [nx] at H
      refine ih (k + 1) M b o7 o8 (by omega) hR hF hx l0 l1 l2 (fun d o hd ho hbo => ?_) hb H
      by_cases z : d = k
      · rw [z] at hbo ⊢
        exact hn o ho hbo
      · exact l3 d o (by omega) ho hbo
    -- less
    have less : ∀ (z : Int32) (wn : Int) (o : Nat) (o7 o8 : Option Value), wn = (if k % 2 = 0 then 10 else 14) → o < clsP P → besP P (nI cn) (nI k) = nI o → z.toInt = wyR M o + wn → z.toInt < wyR M cn → Ev none e 227 107 [some (.ref 633), some (.int x), some (.int y), some (.int fz), some (.int 1), some (.int (nI cn)), some (.int (nI k + 1)), o7, o8] [] (wI M 655 (nI cn).toNatClampNeg z) v M' 0 0 → ∃ M2 o6 o7 o8, RST T P M2 ∧ FZ noF wqW noO M0 M2 ∧ StE (edK P ok) (clsP P) cn (wyR M0) (wyR M2) ∧ wyB7 (clsP P) (wyR M2) ∧ Ev none e 227 49 [some (.ref 633), some (.int x), some (.int y), some (.int fz), some (.int (bI (fm || decide (wyR M2 cn < wyR M0 cn)))), some (.int (nI (cn + 1))), o6, o7, o8] [] M2 v M' 0 0 := fun z wn o o7 o8 hwn ho hbo hz hlt H => by
      rw [cl_n tc, nx] at H
      have wp : 10 ≤ wn := by
        rw [hwn]
        split <;> decide
      have hne : ¬ o = cn := fun q => by
        rw [q] at hz
        omega
      have F1 : FZ noF wqW noO M (wI M 655 cn z) := FZ.wI rfl
      have e1 : wyR (wI M 655 cn z) cn = z.toInt := wy_eq S c2 z
      have ho2 := olo o ho
      have ho3 := hx o hne
      refine ih (k + 1) _ true o7 o8 (by omega) (hR.wy S.ki F1) (hF.trans F1) (fun c hcn => (wy_ne hcn).trans (hx c hcn)) (by rw [e1]; omega) (by rw [e1]; omega) (Or.inr ⟨o, wn, ho, ⟨hok, k, k8, hbo, hwn⟩, by rw [e1]; omega⟩) (fun d o' hd ho' hbo' => ?_) ?_ H
      · rw [e1]
        by_cases y : d = k
        · rw [y] at hbo' ⊢
          have := uniq o' o ho' ho (by rw [← hbo', hbo])
          rw [this, ← hwn]
          omega
        · have := l3 d o' (by omega) ho' hbo'
          omega
      · rw [e1, decide_eq_true (show z.toInt < wyR M0 cn by omega), Bool.or_true]
    have par := nI_rem k k8
    rcases rsh_107 S H with ⟨b1, _⟩ | ⟨_, b2, b3, b4, _, _, _, H⟩ | ⟨_, b2, b3, b4, _, _, H⟩ | ⟨_, b2, b3, b4, _, _, _, H⟩ | ⟨_, b2, b3, b4, _, _, H⟩ | ⟨_, b2, b3, _, _, H⟩ | ⟨_, b2, b3, _, H⟩
    · have := Int32.le_iff_toInt_le.mp b1
      omega
    · rw [eb] at b2 b4 H
      obtain ⟨o, o1, o2, o3⟩ := inn b2
      have ob := olo o o1
      have s1 : (rI M 655 (besP P (nI cn) (nI k)) + 10).toInt = wyR M o + 10 := by rw [i32_add (by omega) (by omega), o3, t10]
      have b4 := Int32.lt_iff_toInt_lt.mp b4
      rw [s1, er] at b4
      exact less _ 10 o _ _ (by rw [if_pos (par.mp b3)]) o1 o2 s1 (by omega) H
    · rw [eb] at b2 b4 H
      obtain ⟨o, o1, o2, o3⟩ := inn b2
      have ob := olo o o1
      have s1 : (rI M 655 (besP P (nI cn) (nI k)) + 10).toInt = wyR M o + 10 := by rw [i32_add (by omega) (by omega), o3, t10]
      rw [Int32.lt_iff_toInt_lt, s1, er] at b4
      refine stay _ _ (fun o' ho' hbo' => ?_) H
      rw [uniq o' o ho' o1 (by rw [← hbo', o2]), if_pos (par.mp b3)]
      omega
    · rw [eb] at b2 b4 H
      obtain ⟨o, o1, o2, o3⟩ := inn b2
      have ob := olo o o1
      have s1 : (rI M 655 (besP P (nI cn) (nI k)) + 14).toInt = wyR M o + 14 := by rw [i32_add (by omega) (by omega), o3, t14]
      have b4 := Int32.lt_iff_toInt_lt.mp b4
      rw [s1, er] at b4
      exact less _ 14 o _ _ (by rw [if_neg (fun q => b3 (par.mpr q))]) o1 o2 s1 (by omega) H
    · rw [eb] at b2 b4 H
      obtain ⟨o, o1, o2, o3⟩ := inn b2
      have ob := olo o o1
      have s1 : (rI M 655 (besP P (nI cn) (nI k)) + 14).toInt = wyR M o + 14 := by rw [i32_add (by omega) (by omega), o3, t14]
      rw [Int32.lt_iff_toInt_lt, s1, er] at b4
      refine stay _ _ (fun o' ho' hbo' => ?_) H
      rw [uniq o' o ho' o1 (by rw [← hbo', o2]), if_neg (fun q => b3 (par.mpr q))]
      omega
    · have b3 := Int32.lt_iff_toInt_lt.mp b3
      rw [er, tF] at b3
      omega
    · rw [eb] at b2
      refine stay _ _ (fun o' ho' hbo' => ?_) H
      rw [hbo'] at b2
      exact absurd (Int32.le_iff_toInt_le.mpr (by rw [nI_toInt (by omega)]; omega)) b2
/-- a round -/
theorem rsh_up (hw : wh4 P) (hx : xn < clsP P) (hy : yn < clsP P) : ∀ (q cn : Nat) (b : Bool) (M : Mem) (o6 o7 o8 : Option Value), cn + q = clsP P → RST T P M → wyB7 (clsP P) (wyR M) → PsE (edK P (okqP (T 0) P fm xn yn)) (clsP P) (fun c => c < cn) f0 (wyR M) b → Ev none e 227 49 [some (.ref 633), some (.int (nI xn)), some (.int (nI yn)), some (.int (bI fm)), some (.int (bI b)), some (.int (nI cn)), o6, o7, o8] [] M v M' 0 0 → ∃ M2 b2 c2 o6 o7 o8, RST T P M2 ∧ wyB7 (clsP P) (wyR M2) ∧ FZ noF wqW noO M M2 ∧ PsE (edK P (okqP (T 0) P fm xn yn)) (clsP P) (fun c => c < clsP P) f0 (wyR M2) b2 ∧ Ev none e 227 38 [some (.ref 633), some (.int (nI xn)), some (.int (nI yn)), some (.int (bI fm)), some (.int (bI b2)), some (.int c2), o6, o7, o8] [] M2 v M' 0 0 := by
  obtain ⟨_, c256, _⟩ := cls_int hw
  intro q
  induction q with
  | zero =>
    intro cn b M o6 o7 o8 hr hR hB hp H
    have hg := g144_ok hR hw
    have ec : cn = clsP P := by omega
    rcases rsh_49 hR.1 H with ⟨_, H⟩ | ⟨a1, _⟩ | ⟨a1, _⟩ | ⟨a1, _⟩ | ⟨a1, _⟩ | ⟨a1, _⟩ | ⟨a1, _⟩ | ⟨a1, _⟩
    · exact ⟨M, b, nI cn, o6, o7, o8, hR, hB, FZ.refl _, hp.more (fun c hc _ => by omega), H⟩
    all_goals exact absurd (Int32.le_iff_toInt_le.mpr (by rw [hg, nI_toInt (by omega)]; omega)) a1
  | succ q ih =>
    intro cn b M o6 o7 o8 hr hR hB hp H
    have hg := g144_ok hR hw
    have hc : cn < clsP P := by omega
    obtain ⟨ic, tc, c2⟩ := nIin hw hc
    have n1 : nI cn + 1 = nI (cn + 1) := nI_p1 (by omega)
    have eo : G_148 M (nI cn) = bI (opnB P (nI cn)) := g148_ok hR hw ic
    have eg : G_149 M (nI cn) = bI (grnB P (nI cn)) := g149_ok hR hw ic
    have ew : G_150 M (nI cn) = bI (wrnB (T 0) P (nI cn)) := g150_ok hR hw ic
    have fx := frm_of hw hc hx
    have fy := frm_of hw hc hy
    have skip : ¬ okqP (T 0) P fm xn yn cn → Ev none e 227 49 [some (.ref 633), some (.int (nI xn)), some (.int (nI yn)), some (.int (bI fm)), some (.int (bI b)), some (.int (nI cn + 1)), o6, o7, o8] [] M v M' 0 0 → ∃ M2 b2 c2 o6 o7 o8, RST T P M2 ∧ wyB7 (clsP P) (wyR M2) ∧ FZ noF wqW noO M M2 ∧ PsE (edK P (okqP (T 0) P fm xn yn)) (clsP P) (fun c => c < clsP P) f0 (wyR M2) b2 ∧ Ev none e 227 38 [some (.ref 633), some (.int (nI xn)), some (.int (nI yn)), some (.int (bI fm)), some (.int (bI b2)), some (.int c2), o6, o7, o8] [] M2 v M' 0 0 := fun hn H => by
      rw [n1] at H
      have st : StE (edK P (okqP (T 0) P fm xn yn)) (clsP P) cn (wyR M) (wyR M) := ⟨fun _ _ _ => rfl, Int.le_refl _, fun o w ho he => absurd he.1 hn, Or.inl rfl⟩
      have p2 := hp.step hc st
      rw [decide_eq_false (Int.lt_irrefl _), Bool.or_false] at p2
      exact ih (cn + 1) b M o6 o7 o8 (by omega) hR hB (p2.more (fun c _ hx => by
        by_cases z : c = cn
        · exact Or.inl z
        · exact Or.inr (by omega))) H
    have goes : okqP (T 0) P fm xn yn cn → Ev none e 227 107 [some (.ref 633), some (.int (nI xn)), some (.int (nI yn)), some (.int (bI fm)), some (.int (bI b)), some (.int (nI cn)), some (.int 0), o7, o8] [] M v M' 0 0 → ∃ M2 b2 c2 o6 o7 o8, RST T P M2 ∧ wyB7 (clsP P) (wyR M2) ∧ FZ noF wqW noO M M2 ∧ PsE (edK P (okqP (T 0) P fm xn yn)) (clsP P) (fun c => c < clsP P) f0 (wyR M2) b2 ∧ Ev none e 227 38 [some (.ref 633), some (.int (nI xn)), some (.int (nI yn)), some (.int (bI fm)), some (.int (bI b2)), some (.int c2), o6, o7, o8] [] M2 v M' 0 0 := fun hk H => by
      obtain ⟨M1, p6, p7, p8, R1, F1, st, B1, H⟩ := rsh_d (fm := b) (ok := okqP (T 0) P fm xn yn) hw hc hk hB 8 0 M b o7 o8 rfl hR (FZ.refl _) (fun _ _ => rfl) (hB cn hc).1 (Int.le_refl _) (Or.inl rfl) (fun d o hd => absurd hd (Nat.not_lt_zero d)) (by rw [decide_eq_false (Int.lt_irrefl _), Bool.or_false]) H
      obtain ⟨M2, b2, c3, r6, r7, r8, q1, q2, q3, q4, q5⟩ := ih (cn + 1) _ M1 p6 p7 p8 (by omega) R1 B1 ((hp.step hc st).more (fun c _ hx => by
        by_cases z : c = cn
        · exact Or.inl z
        · exact Or.inr (by omega))) H
      exact ⟨M2, b2, c3, r6, r7, r8, q1, q2, F1.trans q3, q4, q5⟩
    rcases rsh_49 hR.1 H with ⟨a1, _⟩ | ⟨_, a2, H⟩ | ⟨_, a2, a3, H⟩ | ⟨_, a2, a3, a4, H⟩ | ⟨_, a2, a3, a4, a5, H⟩ | ⟨_, a2, a3, a4, a5, a6, H⟩ | ⟨_, a2, a3, a4, a5, a6, a7, H⟩ | ⟨_, a2, a3, a4, a5, a6, a7, H⟩
    · have := Int32.le_iff_toInt_le.mp a1
      rw [hg, tc] at this
      omega
    · rw [eo, bI_0] at a2
      refine skip (fun q => ?_) H
      have := q.1
      rw [a2] at this
      cases this
    · rw [eo, bI_0, Bool.not_eq_false] at a2
      rw [bI_0] at a3
      exact goes ⟨a2, Or.inl a3⟩ H
    · rw [eo, bI_0, Bool.not_eq_false] at a2
      exact goes ⟨a2, Or.inr (Or.inl (fx.mp a4))⟩ H
    · rw [eo, bI_0, Bool.not_eq_false] at a2
      exact goes ⟨a2, Or.inr (Or.inr (Or.inl (fy.mp a5)))⟩ H
    · rw [eo, bI_0, Bool.not_eq_false] at a2
      rw [eg, bI_0] at a6
      exact goes ⟨a2, Or.inr (Or.inr (Or.inr (Or.inl a6)))⟩ H
    · rw [bI_0, Bool.not_eq_false] at a3
      rw [eg, bI_0, Bool.not_eq_false] at a6
      rw [ew, bI_0] at a7
      refine skip (fun q => ?_) H
      rcases q.2 with z | z | z | z | z
      · rw [a3] at z
        cases z
      · exact a4 (fx.mpr z)
      · exact a5 (fy.mpr z)
      · rw [a6] at z
        cases z
      · rw [a7] at z
        cases z
    · rw [eo, bI_0, Bool.not_eq_false] at a2
      rw [ew, bI_0, Bool.not_eq_false] at a7
      exact goes ⟨a2, Or.inr (Or.inr (Or.inr (Or.inr a7)))⟩ H
theorem rsh_l (hw : wh4 P) (hx : xn < clsP P) (hy : yn < clsP P) : ∀ (q : Nat) (M : Mem) (o5 o6 o7 o8 : Option Value), smR (wyR M) (clsP P) ≤ (q : Int) → RST T P M → wyB7 (clsP P) (wyR M) → LwE (edK P (okqP (T 0) P fm xn yn)) (clsP P) v0 (wyR M) → Ev none e 227 38 [some (.ref 633), some (.int (nI xn)), some (.int (nI yn)), some (.int (bI fm)), some (.int 1), o5, o6, o7, o8] [] M v M' 0 0 → ∃ (u : ROW) (r : Int32), v = some (.int r) ∧ r.toInt = u yn ∧ 0 ≤ u yn ∧ RST T P M' ∧ GfE (edK P (okqP (T 0) P fm xn yn)) (clsP P) v0 u := by
  obtain ⟨iy, ty, y2⟩ := nIin hw hy
  have rnd : ∀ (M : Mem) (o5 o6 o7 o8 : Option Value), RST T P M → wyB7 (clsP P) (wyR M) → LwE (edK P (okqP (T 0) P fm xn yn)) (clsP P) v0 (wyR M) → Ev none e 227 38 [some (.ref 633), some (.int (nI xn)), some (.int (nI yn)), some (.int (bI fm)), some (.int 1), o5, o6, o7, o8] [] M v M' 0 0 → (∃ (u : ROW) (r : Int32), v = some (.int r) ∧ r.toInt = u yn ∧ 0 ≤ u yn ∧ RST T P M' ∧ GfE (edK P (okqP (T 0) P fm xn yn)) (clsP P) v0 u) ∨ ∃ M2 o5 o6 o7 o8, smR (wyR M2) (clsP P) < smR (wyR M) (clsP P) ∧ RST T P M2 ∧ wyB7 (clsP P) (wyR M2) ∧ LwE (edK P (okqP (T 0) P fm xn yn)) (clsP P) v0 (wyR M2) ∧ Ev none e 227 38 [some (.ref 633), some (.int (nI xn)), some (.int (nI yn)), some (.int (bI fm)), some (.int 1), o5, o6, o7, o8] [] M2 v M' 0 0 := fun M o5 o6 o7 o8 hR hB hL H => by
    rcases rsh_38 hR.1 H with ⟨a1, _⟩ | ⟨_, H⟩
    · exact absurd a1 (by decide)
    obtain ⟨M2, b2, c2, p6, p7, p8, R2, B2, F2, p2, H⟩ := rsh_up (f0 := wyR M) hw hx hy (clsP P) 0 false M o6 o7 o8 (by omega) hR hB (PsE.refl (fun c => Nat.not_lt_zero c)) H
    cases b2 with
    | false =>
      rcases rsh_38 R2.1 H with ⟨_, _, r1, r2⟩ | ⟨a1, _⟩
      · rw [rI_n ty] at r1
        rw [r2]
        exact Or.inl ⟨wyR M2, _, r1, rfl, (B2 yn hy).1, R2, hL.ps p2, p2.fix (fun c hc => hc)⟩
      · exact absurd rfl a1
    | true => exact Or.inr ⟨M2, some (.int c2), p6, p7, p8, smR_lt _ p2.1 (p2.2.2.2.1 rfl), R2, B2, hL.ps p2, H⟩
  intro q
  induction q with
  | zero =>
    intro M o5 o6 o7 o8 hq hR hB hL H
    rcases rnd M o5 o6 o7 o8 hR hB hL H with h | ⟨M2, p5, p6, p7, p8, h1, _, B2, _⟩
    · exact h
    · have := smR_ge (clsP P) (fun c hc => (B2 c hc).1)
      omega
  | succ q ih =>
    intro M o5 o6 o7 o8 hq hR hB hL H
    rcases rnd M o5 o6 o7 o8 hR hB hL H with h | ⟨M2, p5, p6, p7, p8, h1, R2, B2, L2, H⟩
    · exact h
    · exact ih M2 p5 p6 p7 p8 (by omega) R2 B2 L2 H
theorem rsh_a (hw : wh4 P) (hx : xn < clsP P) : ∀ (q cn : Nat) (M : Mem), cn + q = clsP P → RST T P M → (∀ c, c < cn → wyR M c = 10000000) → Ev none e 227 3 [some (.ref 633), some (.int (nI xn)), some (.int y), some (.int fz), some (.int (nI cn)), none, none, none, none] [] M v M' 0 0 → ∃ M2, RST T P M2 ∧ (∀ c, c < clsP P → wyR M2 c = vsF 10000000 xn c) ∧ Ev none e 227 38 [some (.ref 633), some (.int (nI xn)), some (.int y), some (.int fz), some (.int 1), none, none, none, none] [] M2 v M' 0 0 := by
  obtain ⟨_, c256, _⟩ := cls_int hw
  obtain ⟨ix, tx, x2⟩ := nIin hw hx
  intro q
  induction q with
  | zero =>
    intro cn M hr hR hz H
    have hg := g144_ok hR hw
    rcases rsh_3 hR.1 H with ⟨_, _, H⟩ | ⟨a1, _⟩
    · rw [cl_n tx] at H
      refine ⟨_, hR.wy hR.1.ki (FZ.wI rfl), fun c hc => ?_, H⟩
      unfold vsF
      by_cases z : c = xn
      · rw [if_pos z, z, wy_eq hR.1 x2]
        rfl
      · rw [if_neg z, wy_ne z]
        exact hz c (by omega)
    · exact absurd (Int32.le_iff_toInt_le.mpr (by rw [hg, nI_toInt (by omega)]; omega)) a1
  | succ q ih =>
    intro cn M hr hR hz H
    have hg := g144_ok hR hw
    obtain ⟨ic, tc, c2⟩ := nIin hw (show cn < clsP P by omega)
    rcases rsh_3 hR.1 H with ⟨a1, _⟩ | ⟨_, _, H⟩
    · have := Int32.le_iff_toInt_le.mp a1
      rw [hg, tc] at this
      omega
    · rw [cl_n tc, nI_p1 (by omega)] at H
      exact ih (cn + 1) _ (by omega) (hR.wy hR.1.ki (FZ.wI rfl)) (fun c hc => by
        by_cases z : c = cn
        · rw [z, wy_eq hR.1 c2]
          rfl
        · rw [wy_ne z]
          exact hz c (by omega)) H
theorem rsh_ok (hw : wh4 P) (hR : RST T P M) (hx : xn < clsP P) (hy : yn < clsP P) (H : Ev none e 227 0 [some (.ref 633), some (.int (nI xn)), some (.int (nI yn)), some (.int (bI fm)), none, none, none, none, none] [] M v M' 0 0) : ∃ (u : ROW) (r : Int32), v = some (.int r) ∧ r.toInt = u yn ∧ 0 ≤ u yn ∧ RST T P M' ∧ GfE (edK P (okqP (T 0) P fm xn yn)) (clsP P) (vsF 10000000 xn) u := by
  obtain ⟨M2, R2, hv, H⟩ := rsh_a hw hx (clsP P) 0 M (by omega) hR (fun c hc => absurd hc (Nat.not_lt_zero c)) (rsh_0 hR.1 H)
  have hB : wyB7 (clsP P) (wyR M2) := fun c hc => by
    rw [hv c hc]
    unfold vsF
    split <;> decide
  have hL : LwE (edK P (okqP (T 0) P fm xn yn)) (clsP P) (vsF 10000000 xn) (wyR M2) := ⟨fun c hc => by rw [hv c hc]; exact Int.le_refl _, fun u h1 h2 c hc => by rw [hv c hc]; exact h2 c hc⟩
  exact rsh_l hw hx hy (smR (wyR M2) (clsP P)).toNat M2 none none none none (by have := smR_ge (clsP P) (fun c hc => (hB c hc).1); omega) R2 hB hL H
end RLNO
