/-! FENCES: the reference's -/
section RFEN
variable {e B L : Nat} {T T' : TS} {P P' P0 Q : PK} {M M0 M1 M' : Mem} {v : Option Value} {c k d x a b t y ws z f : Int32} {n i j tt : Nat} {o : Nat → Int32}
theorem rfn_t (h : RST T P M) (hD : okD P) (hK : okK P) (hz : (zI M 633 3).toInt = (n : Int)) (ho : ∀ i, i < n → rN M 634 i &&& 255 = o i) : ∀ (r i : Nat) (iz : Int32), iz.toInt = (i : Int) → i + r = n → (∀ j, j < i → fok P (o j)) → Ev none e 235 45 [some (.ref 633), some (.int c), some (.int t), some (.int iz), none, none] [] M v M' 0 0 → (v = some (.int (-2)) ∧ M' = M ∧ ∃ j, j < n ∧ ¬ fok P (o j)) ∨ ((∀ j, j < n → fok P (o j)) ∧ ∃ jz, Ev none e 235 110 [some (.ref 633), some (.int c), some (.int t), some (.int jz), none, none] [] M v M' 0 0) := by
  have ub := i32_any (zI M 633 3)
  intro r
  induction r with
  | zero =>
    intro i iz hi hn hg H
    rcases rfn_45 h.1 H with ⟨_, H⟩ | ⟨a1, _⟩ | ⟨a1, _⟩ | ⟨a1, _⟩
    · exact Or.inr ⟨fun j hj => hg j (by omega), _, H⟩
    all_goals exact absurd (Int32.le_iff_toInt_le.mpr (by omega)) a1
  | succ r ih =>
    intro i iz hi hn hg H
    have er : G_142 M iz = o i := by
      unfold G_142
      rw [rI_n hi]
      exact ho i (by omega)
    rcases rfn_45 h.1 H with ⟨a1, _⟩ | ⟨_, a1, r1, r2⟩ | ⟨_, a1, a2, r1, r2⟩ | ⟨_, a1, a2, e1, v1, M1, _, H1, H⟩
    · have := Int32.le_iff_toInt_le.mp a1
      omega
    · rw [er, g145_ok h hD.1] at a1
      exact Or.inl ⟨r1, r2, i, by omega, fun q => a1 q.1⟩
    · rw [er, g145_ok h hD.1, Classical.not_not] at a1
      rw [er, g148_ok h hD.1 a1, bI_0] at a2
      exact Or.inl ⟨r1, r2, i, by omega, fun q => by have zq := q.2.1; rw [a2] at zq; cases zq⟩
    · rw [er, g145_ok h hD.1, Classical.not_not] at a1
      rw [er, g148_ok h hD.1 a1, bI_0, Bool.not_eq_false] at a2
      rw [er] at H1
      obtain ⟨rm, rv⟩ := rda_ok h hD H1
      rw [rv, rm] at H
      rcases rfn_86 h.1 H with ⟨b1, e2, v2, M2, _, H2, H⟩ | ⟨b1, r1, r2⟩
      · rw [bI_0] at b1
        rw [er] at H2
        obtain ⟨rm2, rv2⟩ := rwa_ok h hK H2
        rw [rv2, rm2] at H
        rcases rfn_98 h.1 H with ⟨b2, H⟩ | ⟨b2, r1, r2⟩
        · rw [bI_0] at b2
          refine ih (i + 1) (iz + 1) (by rw [i32_p1 (by omega)]; omega) (by omega) (fun j hj => ?_) H
          by_cases hji : j = i
          · rw [hji]
            exact ⟨a1, a2, b1, b2⟩
          · exact hg j (by omega)
        · rw [bI_0, Bool.not_eq_false] at b2
          exact Or.inl ⟨r1, r2, i, by omega, fun q => by have zq := q.2.2.2; rw [b2] at zq; cases zq⟩
      · rw [bI_0, Bool.not_eq_false] at b1
        exact Or.inl ⟨r1, r2, i, by omega, fun q => by have zq := q.2.2.1; rw [b1] at zq; cases zq⟩
def RIV (T : TS) (P : PK) (c z : Int32) (n : Nat) (o : Nat → Int32) (M0 M : Mem) : Prop := RST T P M ∧ (∃ b, zI M 633 42 = bI b) ∧ zI M 633 40 = c ∧ zI M 633 3 = z ∧ (∀ i, i < n → rN M 634 i &&& 255 = o i) ∧ zI M 633 53 = zI M0 633 53 ∧ ∀ j, rN M 656 j = rN M0 656 j
theorem RIV.it (h : RIV T P c z n o M0 M) (hR : RST T P M') (hb : ∃ b, zI M' 633 42 = bI b) (h40 : zI M' 633 40 = zI M 633 40) (hF : FZ rkF ritW noO M M') : RIV T P c z n o M0 M' := ⟨hR, hb, h40.trans h.2.2.1, (hF.fi (by unfold rkF; omega)).trans h.2.2.2.1, fun i hi => by rw [hF.rn (by unfold ritW; decide)]; exact h.2.2.2.2.1 i hi, (hF.fi (by unfold rkF; omega)).trans h.2.2.2.2.2.1, fun j => (hF.rn (by unfold ritW; decide)).trans (h.2.2.2.2.2.2 j)⟩
theorem RIV.oc (h : RIV T P c z n o M0 M) {iz : Int32} (hi : iz.toInt = (i : Int)) (hin : i < n) : G_142 M iz = o i := by
  unfold G_142
  rw [rI_n hi]
  exact h.2.2.2.2.1 i hin
/-- what fences tells in the end -/
def FRE (T : TS) (P : PK) (z : Int32) (M0 : Mem) (r : Option (Int32 × Int32 × Int32)) (v : Option Value) (M' : Mem) : Prop := v = some (.int (fenR r)) ∧ RST T P M' ∧ (∀ q, r = some q → FNr q M') ∧ (r = none → zI M' 633 53 = zI M0 633 53 ∧ ∀ j, rN M' 656 j = rN M0 656 j)
theorem x234_ok {n9 : Int32} (h : RST T P M) : RST T P (X_234 M n9 a b) ∧ FNr (n9, a, b) (X_234 M n9 a b) ∧ zI (X_234 M n9 a b) 633 3 = zI M 633 3 := by
  have i0 : (0 : Int32).toNatClampNeg = 0 := rfl
  have i1 : (1 : Int32).toNatClampNeg = 1 := rfl
  unfold X_234
  rw [i0, i1]
  have hF : FZ (fun a k => a = 633 ∧ k = 53) (fun a => a = 656) noO M (wI (wI (wF M 633 53 n9) 656 0 a) 656 1 b) := ((FZ.wF (F := fun a k => a = 633 ∧ k = 53) ⟨rfl, rfl⟩).trans (FZ.wI (W := fun a => a = 656) rfl)).trans (FZ.wI rfl)
  have l1 : (zrw (wF M 633 53 n9) 656).length = 2 := (h.1.kf.1.row qa_656 qw_84).2
  have l2 : (zrw (wI (wF M 633 53 n9) 656 0 a) 656).length = 2 := (h.1.kf.ki.1.row qa_656 qw_84).2
  refine ⟨h.fz h.1.kf.ki.ki hF (fun k h1 h2 q => by omega) (fun a ha q => by omega), ⟨?_, ?_, ?_⟩, hF.fi (by omega)⟩
  · rw [fI_wI, fI_wI]
    exact fI_wF_eq h.1.1 qa_633 qi_61_53
  · rw [rN_wI_ne (by omega)]
    exact rN_wI_eq (by omega)
  · exact rN_wI_eq (by omega)
/-- found: nothing more is tried -/
theorem rfn_o190 {i5 : Int32} {c5 : Option Value} (h : RST T P M) (hf : 0 ≤ f) (hq : FNr (f, a, b) M) (H : Ev none e 235 190 [some (.ref 633), some (.int c), some (.int t), some (.int f), some (.int i5), c5] [] M v M' 0 0) : FRE T P z M0 (some (f, a, b)) v M' := by
  have g : ∀ r2 : M' = wF M 633 40 (-1), v = some (.int f) → FRE T P z M0 (some (f, a, b)) v M' := fun r2 r1 => by
    refine ⟨r1, r2 ▸ h.w0 40 (by decide) _, fun q hq' => ?_, fun q => by cases q⟩
    cases hq'
    rw [r2]
    exact ⟨(fI_wF_ne (by decide)).trans hq.1, rN_wF.trans hq.2.1, rN_wF.trans hq.2.2⟩
  rcases rfn_190 h.1 H with ⟨_, r1, r2⟩ | ⟨_, _, r1, r2⟩ | ⟨_, a1, _⟩
  · exact g r2 r1
  · exact g r2 r1
  · exact absurd hf a1
theorem rfn_o140 {i5 : Int32} {c5 : Option Value} (h : RST T P M) (hf : 0 ≤ f) (hq : FNr (f, a, b) M) (H : Ev none e 235 140 [some (.ref 633), some (.int c), some (.int t), some (.int f), some (.int i5), c5] [] M v M' 0 0) : FRE T P z M0 (some (f, a, b)) v M' := by
  rcases rfn_140 h.1 H with ⟨_, H⟩ | ⟨_, _, H⟩ | ⟨_, a1, _⟩
  · exact rfn_o190 h hf hq H
  · exact rfn_o190 h hf hq H
  · exact absurd hf a1
theorem rfn_o209 {i5 j5 : Int32} (h : RST T P M) (hf : 0 ≤ f) (hq : FNr (f, a, b) M) (H : Ev none e 235 209 [some (.ref 633), some (.int c), some (.int t), some (.int f), some (.int i5), some (.int j5)] [] M v M' 0 0) : FRE T P z M0 (some (f, a, b)) v M' := by
  rcases rfn_209 h.1 H with ⟨_, H⟩ | ⟨_, _, H⟩ | ⟨_, a1, _⟩
  · exact rfn_o190 h hf hq H
  · exact rfn_o190 h hf hq H
  · exact absurd hf a1
theorem nf1 : ¬ (0 : Int32) ≤ -1 := by decide
theorem rfn2j_l (hD : okD P) (hK : okK P) (ht : t.toInt = (tt : Int)) (hz : z.toInt = (n : Int)) (hok : ∀ i, i < n → fok P (o i)) {i : Nat} {iz : Int32} (hi : iz.toInt = (i : Int)) (hin : i < n) : ∀ (r j : Nat) (jz : Int32) (M : Mem), RIV T P c z n o M0 M → jz.toInt = (j : Int) → j + r = n → Ev none e 235 209 [some (.ref 633), some (.int c), some (.int t), some (.int (-1)), some (.int iz), some (.int jz)] [] M v M' 0 0 → (∃ q, fe2j T P c tt o i r j = some q ∧ FRE T P z M0 (some q) v M') ∨ (fe2j T P c tt o i r j = none ∧ ∃ M1, RIV T P c z n o M0 M1 ∧ ∃ c5, Ev none e 235 190 [some (.ref 633), some (.int c), some (.int t), some (.int (-1)), some (.int (iz + 1)), c5] [] M1 v M' 0 0) := by
  have ub := i32_any z
  intro r
  induction r with
  | zero =>
    intro j jz M h hj hn H
    rcases rfn_209 h.1.1 H with ⟨_, H⟩ | ⟨a1, _⟩ | ⟨a1, _⟩
    · exact Or.inr ⟨rfl, M, h, _, H⟩
    all_goals exact absurd (Int32.le_iff_toInt_le.mpr (by rw [h.2.2.2.1]; omega)) a1
  | succ r ih =>
    intro j jz M h hj hn H
    rcases rfn_209 h.1.1 H with ⟨a1, _⟩ | ⟨_, a1, _⟩ | ⟨_, _, e1, v1, M1, _, H1, H⟩
    · rw [h.2.2.2.1] at a1
      have := Int32.le_iff_toInt_le.mp a1
      omega
    · exact absurd a1 nf1
    · rw [h.oc hi hin, h.oc hj (by omega)] at H1
      obtain ⟨rv, q1, q2, q3, q4⟩ := ritro_ok h.1 hD hK h.2.1 (Or.inr (hok i hin).1) (Or.inr (hok j (by omega)).1) ht H1
      rw [h.2.2.1] at rv
      rw [rv] at H
      have h1 := h.it q1 q3 q2 q4
      unfold fe2j
      rcases rfn_239 h1.1.1 H with ⟨a1, H⟩ | ⟨a1, H⟩
      · rw [bI_0] at a1
        rw [if_pos a1]
        rw [h1.oc hi hin, h1.oc hj (by omega)] at H
        obtain ⟨u1, u2, _⟩ := x234_ok (n9 := 2) (a := o i) (b := o j) h1.1
        exact Or.inl ⟨_, rfl, rfn_o209 u1 (by decide) u2 H⟩
      · rw [bI_0, Bool.not_eq_false] at a1
        rw [if_neg (by rw [a1]; decide)]
        exact ih (j + 1) (jz + 1) M1 h1 (by rw [i32_p1 (by omega)]; omega) (by omega) H
theorem rfn2_l (hD : okD P) (hK : okK P) (ht : t.toInt = (tt : Int)) (hz : z.toInt = (n : Int)) (hok : ∀ i, i < n → fok P (o i)) : ∀ (r i : Nat) (iz : Int32) (c5 : Option Value) (M : Mem), RIV T P c z n o M0 M → iz.toInt = (i : Int) → i + r = n → Ev none e 235 190 [some (.ref 633), some (.int c), some (.int t), some (.int (-1)), some (.int iz), c5] [] M v M' 0 0 → FRE T P z M0 (fe2 T P c tt o r i) v M' := by
  have ub := i32_any z
  intro r
  induction r with
  | zero =>
    intro i iz c5 M h hi hn H
    rcases rfn_190 h.1.1 H with ⟨_, r1, r2⟩ | ⟨a1, _⟩ | ⟨a1, _⟩
    · refine ⟨r1, r2 ▸ h.1.w0 40 (by decide) _, (fun q hq => by cases hq), fun _ => ?_⟩
      rw [r2]
      exact ⟨(fI_wF_ne (by decide)).trans h.2.2.2.2.2.1, fun j => rN_wF.trans (h.2.2.2.2.2.2 j)⟩
    all_goals exact absurd (Int32.le_iff_toInt_le.mpr (by rw [h.2.2.2.1]; omega)) a1
  | succ r ih =>
    intro i iz c5 M h hi hn H
    rcases rfn_190 h.1.1 H with ⟨a1, _⟩ | ⟨_, a1, _⟩ | ⟨_, _, H⟩
    · rw [h.2.2.2.1] at a1
      have := Int32.le_iff_toInt_le.mp a1
      omega
    · exact absurd a1 nf1
    · have e1 : (iz + 1).toInt = ((i + 1 : Nat) : Int) := by rw [i32_p1 (by omega)]; omega
      unfold fe2
      rcases rfn2j_l hD hK ht hz hok hi (by omega) r (i + 1) (iz + 1) M h e1 (by omega) H with ⟨q, q1, q2⟩ | ⟨q1, M1, q2, c6, H⟩
      · rw [q1]
        exact q2
      · rw [q1]
        exact ih (i + 1) (iz + 1) c6 M1 q2 e1 (by omega) H
theorem rfn1_l (hD : okD P) (hK : okK P) (ht : t.toInt = (tt : Int)) (hz : z.toInt = (n : Int)) (hok : ∀ i, i < n → fok P (o i)) : ∀ (r i : Nat) (iz : Int32) (c5 : Option Value) (M : Mem), RIV T P c z n o M0 M → iz.toInt = (i : Int) → i + r = n → Ev none e 235 140 [some (.ref 633), some (.int c), some (.int t), some (.int (-1)), some (.int iz), c5] [] M v M' 0 0 → FRE T P z M0 (orE (fe1 T P c tt o r i) (fe2 T P c tt o n 0)) v M' := by
  have ub := i32_any z
  intro r
  induction r with
  | zero =>
    intro i iz c5 M h hi hn H
    rcases rfn_140 h.1.1 H with ⟨_, H⟩ | ⟨a1, _⟩ | ⟨a1, _⟩
    · exact rfn2_l hD hK ht hz hok n 0 0 c5 M h rfl (by omega) H
    all_goals exact absurd (Int32.le_iff_toInt_le.mpr (by rw [h.2.2.2.1]; omega)) a1
  | succ r ih =>
    intro i iz c5 M h hi hn H
    rcases rfn_140 h.1.1 H with ⟨a1, _⟩ | ⟨_, a1, _⟩ | ⟨_, _, e1, v1, M1, _, H1, H⟩
    · rw [h.2.2.2.1] at a1
      have := Int32.le_iff_toInt_le.mp a1
      omega
    · exact absurd a1 nf1
    · rw [h.oc hi (by omega)] at H1
      obtain ⟨rv, q1, q2, q3, q4⟩ := ritro_ok h.1 hD hK h.2.1 (Or.inr (hok i (by omega)).1) (Or.inl rfl) ht H1
      rw [h.2.2.1] at rv
      rw [rv] at H
      have h1 := h.it q1 q3 q2 q4
      unfold fe1
      rcases rfn_165 h1.1.1 H with ⟨a1, H⟩ | ⟨a1, H⟩
      · rw [bI_0] at a1
        rw [if_pos a1]
        rw [h1.oc hi (by omega)] at H
        obtain ⟨u1, u2, _⟩ := x234_ok (n9 := 1) (a := o i) (b := -1) h1.1
        exact rfn_o140 u1 (by decide) u2 H
      · rw [bI_0, Bool.not_eq_false] at a1
        rw [if_neg (by rw [a1]; decide)]
        exact ih (i + 1) (iz + 1) c5 M1 h1 (by rw [i32_p1 (by omega)]; omega) (by omega) H
theorem rfences_ok (hR : RST T P M) (hD : okD P) (hK : okK P) (hb : ∃ b, zI M 633 42 = bI b) (hz : (zI M 633 2).toInt = (n : Int)) (ho : ∀ k, k < n → rN M 634 k &&& 255 = o k) (H : Ev none e 235 0 [some (.ref 633), some (.int c), some (.int t), none, none, none] [] M v M' 0 0) : (fenN P c t (zI M 633 2) o n ∧ v = some (.int (-2)) ∧ RST T P M' ∧ zI M' 633 53 = zI M 633 53 ∧ ∀ j, rN M' 656 j = rN M 656 j) ∨ (¬ fenN P c t (zI M 633 2) o n ∧ FRE T P (zI M 633 2) M (fenA T P c t.toInt.toNat o n) v M') := by
  have h0 : RST T P (X_139 (wF M 633 0 0)) := by
    unfold X_139
    exact (((hR.w0 0 (by decide) 0).w0 3 (by decide) _).w0 2 (by decide) 0).w0 4 (by decide) 0
  have z3 : zI (X_139 (wF M 633 0 0)) 633 3 = zI M 633 2 := by
    unfold X_139
    rw [fI_wF_ne (by decide), fI_wF_ne (by decide), fI_wF_eq hR.1.kf.1 qa_633 qi_61_3, fI_wF_ne (by decide)]
  have zo : ∀ k, k ≠ 0 → k ≠ 2 → k ≠ 3 → k ≠ 4 → zI (X_139 (wF M 633 0 0)) 633 k = zI M 633 k := fun k h1 h2 h3 h4 => by
    unfold X_139
    rw [fI_wF_ne (by omega), fI_wF_ne (by omega), fI_wF_ne (by omega), fI_wF_ne (by omega)]
  have rr : ∀ a j, rN (X_139 (wF M 633 0 0)) a j = rN M a j := fun a j => by
    unfold X_139
    rw [rN_wF, rN_wF, rN_wF, rN_wF]
  obtain ⟨N, eN⟩ : ∃ N, N = X_139 (wF M 633 0 0) := ⟨_, rfl⟩
  have H9 := rfn_0 hR.1 H
  rw [← eN] at h0 z3 zo rr H9
  have no : RST T P N ∧ zI N 633 53 = zI M 633 53 ∧ ∀ j, rN N 656 j = rN M 656 j := ⟨h0, zo 53 (by decide) (by decide) (by decide) (by decide), fun j => rr 656 j⟩
  unfold fenN
  rcases H9 with ⟨a1, r1, r2⟩ | ⟨_, a1, r1, r2⟩ | ⟨_, _, a1, r1, r2⟩ | ⟨a1, a2, a3, H⟩
  · rw [g145_ok h0 hD.1] at a1
    exact Or.inl ⟨Or.inl a1, r1, r2 ▸ no⟩
  · rw [g140_R] at a1
    exact Or.inl ⟨Or.inr (Or.inl a1), r1, r2 ▸ no⟩
  · rw [g140_R, z3] at a1
    exact Or.inl ⟨Or.inr (Or.inr (Or.inl a1)), r1, r2 ▸ no⟩
  · rw [g145_ok h0 hD.1, Classical.not_not] at a1
    rw [g140_R, Classical.not_not] at a2 a3
    rw [z3] at a3
    have t1 : 1 ≤ t.toInt := a2.1
    rcases rfn_t (o := o) h0 hD hK (by rw [z3]; exact hz) (fun i hi => by rw [rr]; exact ho i hi) n 0 0 rfl (by omega) (fun j hj => absurd hj (Nat.not_lt_zero _)) H with ⟨r1, r2, i, i1, i2⟩ | ⟨hok, jz, H⟩
    · exact Or.inl ⟨Or.inr (Or.inr (Or.inr ⟨i, i1, i2⟩)), r1, r2 ▸ no⟩
    · refine Or.inr ⟨fun q => ?_, ?_⟩
      · rcases q with q | q | q | ⟨i, i1, i2⟩
        · exact q a1
        · exact q a2
        · exact q a3
        · exact i2 (hok i i1)
      · obtain ⟨e1, v1, M1, _, H1, H⟩ := rfn_110 h0.1 H
        have ht2 : t.toInt = (t.toInt.toNat : Int) := by omega
        have u0 := h0.w0 40 (by decide) c
        have iv : RIV T P c (zI M 633 2) n o M (wF N 633 40 c) := ⟨u0, by obtain ⟨b, hb⟩ := hb; exact ⟨b, by rw [fI_wF_ne (by decide), zo 42 (by decide) (by decide) (by decide) (by decide)]; exact hb⟩, fI_wF_eq h0.1.1 qa_633 qi_61_40, by rw [fI_wF_ne (by decide)]; exact z3, fun i hi => by rw [rN_wF, rr]; exact ho i hi, by rw [fI_wF_ne (by decide)]; exact no.2.1, fun j => rN_wF.trans (no.2.2 j)⟩
        obtain ⟨rv, q1, q2, q3, q4⟩ := ritro_ok u0 hD hK iv.2.1 (Or.inl rfl) (Or.inl rfl) ht2 H1
        rw [iv.2.2.1] at rv
        rw [rv] at H
        have h1 := iv.it q1 q3 q2 q4
        unfold fenA
        rcases rfn_122 h1.1.1 H with ⟨b1, H⟩ | ⟨b1, H⟩
        · rw [bI_0] at b1
          rw [if_pos b1]
          obtain ⟨w1, w2, _⟩ := x234_ok (n9 := 0) (a := -1) (b := -1) h1.1
          exact rfn_o140 w1 (by decide) w2 H
        · rw [bI_0, Bool.not_eq_false] at b1
          rw [if_neg (by rw [b1]; decide)]
          exact rfn1_l hD hK ht2 hz hok n 0 0 none M1 h1 rfl (by omega) H
end RFEN
