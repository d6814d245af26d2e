/-! FENCES: both sides -/
noncomputable def fe1 (T : TS) (P : PK) (c : Int32) (t : Nat) (o : Nat → Int32) : Nat → Nat → Option (Int32 × Int32 × Int32)
  | 0, _ => none
  | r + 1, i => if trodB T P c t (o i) (-1) = false then some (1, o i, -1) else fe1 T P c t o r (i + 1)
noncomputable def fe2j (T : TS) (P : PK) (c : Int32) (t : Nat) (o : Nat → Int32) (i : Nat) : Nat → Nat → Option (Int32 × Int32 × Int32)
  | 0, _ => none
  | r + 1, j => if trodB T P c t (o i) (o j) = false then some (2, o i, o j) else fe2j T P c t o i r (j + 1)
noncomputable def orE (a b : Option (Int32 × Int32 × Int32)) : Option (Int32 × Int32 × Int32) := match a with
  | some q => some q
  | none => b
noncomputable def fe2 (T : TS) (P : PK) (c : Int32) (t : Nat) (o : Nat → Int32) : Nat → Nat → Option (Int32 × Int32 × Int32)
  | 0, _ => none
  | r + 1, i => orE (fe2j T P c t o i r (i + 1)) (fe2 T P c t o r (i + 1))
noncomputable def fenA (T : TS) (P : PK) (c : Int32) (t : Nat) (o : Nat → Int32) (n : Nat) : Option (Int32 × Int32 × Int32) :=
  if trodB T P c t (-1) (-1) = false then some (0, -1, -1) else orE (fe1 T P c t o n 0) (fe2 T P c t o n 0)
noncomputable def fenR (a : Option (Int32 × Int32 × Int32)) : Int32 := match a with
  | some q => q.1
  | none => -1
def fok (P : PK) (x : Int32) : Prop := inC P x ∧ opnB P x = true ∧ hasP P x = false ∧ wthP P x = false
def fenN (P : PK) (c t z : Int32) (o : Nat → Int32) (n : Nat) : Prop := ¬ inC P c ∨ ¬ inX t 1 100 ∨ ¬ inX z 1 12 ∨ ∃ i, i < n ∧ ¬ fok P (o i)
/-- what the latest fences told, on the class's side and on the reference's -/
def FNc (q : Int32 × Int32 × Int32) (M : Mem) : Prop := zI M 0 14 = q.1 ∧ rN M 343 0 = q.2.1 ∧ rN M 343 1 = q.2.2
def FNr (q : Int32 × Int32 × Int32) (M : Mem) : Prop := zI M 633 53 = q.1 ∧ rN M 656 0 = q.2.1 ∧ rN M 656 1 = q.2.2
section FENC
variable {e B L : Nat} {T T' : TS} {P P' P0 Q : PK} {PI : Nat → PK} {M M0 M1 M' : Mem} {v : Option Value} {c k d x a b t y ws z : Int32} {n i j tt : Nat} {o : Nat → Int32}
theorem fto_l (h : CST T P PI M) (hz : (zI M 1 1).toInt = (n : Int)) (ho : ∀ i, i < n → rN M 2 i = o i) : ∀ (r i : Nat) (iz : Int32) (c4 : Option Value), iz.toInt = (i : Int) → i + r = n → (∀ j, j < i → fok P (o j)) → Ev none e 109 38 [some (.ref 0), some (.int c), some (.int t), some (.int iz), c4] [] M v M' 0 0 → M' = M ∧ ((v = some (.int 1) ∧ ∀ j, j < n → fok P (o j)) ∨ (v = some (.int 0) ∧ ∃ j, j < n ∧ ¬ fok P (o j))) := by
  have ub := i32_any (zI M 1 1)
  have hD := h.ok.1
  intro r
  induction r with
  | zero =>
    intro i iz c4 hi hn hg H
    rcases fto_38 h.sq H with ⟨_, r1, r2⟩ | ⟨a1, _⟩
    · exact ⟨r2, Or.inl ⟨r1, fun j hj => hg j (by omega)⟩⟩
    · exact absurd (Int32.le_iff_toInt_le.mpr (by omega)) a1
  | succ r ih =>
    intro i iz c4 hi hn hg H
    have er : rI M 2 iz = o i := (rI_n hi).trans (ho i (by omega))
    have z0 : (0 : Int32).toInt = 0 := rfl
    rcases fto_38 h.sq H with ⟨a1, _⟩ | ⟨_, _, e1, v1, M1, _, H1, H⟩
    · have := Int32.le_iff_toInt_le.mp a1
      omega
    · rw [er] at H1 H
      obtain ⟨rv1, rm1⟩ := isc_0 h.sq h.ld H1
      rw [rv1, rm1] at H
      rcases fto_66 h.sq h.ld H with ⟨a1, r1, r2⟩ | ⟨a1, a2, r1, r2⟩ | ⟨a1, a2, e2, v2, M2, _, H2, H⟩
      · rw [isc_ok h.lan hD.1] at a1
        exact ⟨r2, Or.inr ⟨r1, i, by omega, fun q => a1 q.1⟩⟩
      · rw [isc_ok h.lan hD.1, Classical.not_not] at a1
        rw [g7L h.lan.2.2.1 a1, bI_0] at a2
        exact ⟨r2, Or.inr ⟨r1, i, by omega, fun q => by have zq := q.2.1; rw [a2] at zq; cases zq⟩⟩
      · rw [isc_ok h.lan hD.1, Classical.not_not] at a1
        rw [g7L h.lan.2.2.1 a1, bI_0, Bool.not_eq_false] at a2
        obtain ⟨rm2, rv2⟩ := hsd_ok h.sq lnd_8 h.lan hD H2
        rw [rv2, rm2] at H
        have hcr : rI M (8 + 8) (o i) = crdP P (o i) (P 157).toInt.toNat := h.lan.2.2.2.2 _ a1
        rcases fto_90 h.sq h.ld H with ⟨b1, b2, _, H⟩ | ⟨b1, b2, _, r1, r2⟩ | ⟨b1, r1, r2⟩
        · rw [bI_0] at b1
          rw [hcr] at b2
          have b2 := Int32.le_iff_toInt_le.mp b2
          have hw : wthP P (o i) = false := by
            rw [Bool.eq_false_iff]
            intro q
            rw [← wth_crd h.ok.k60] at q
            have := Int32.lt_iff_toInt_lt.mp q
            omega
          refine ih (i + 1) (iz + 1) _ (by rw [i32_p1 (by omega)]; omega) (by omega) (fun j hj => ?_) H
          by_cases hji : j = i
          · rw [hji]
            exact ⟨a1, a2, b1, hw⟩
          · exact hg j (by omega)
        · rw [hcr] at b2
          have b2' : ¬ (crdP P (o i) (P 157).toInt.toNat).toInt ≤ (0 : Int32).toInt := fun s => b2 (Int32.le_iff_toInt_le.mpr s)
          have hp : 0 < crdP P (o i) (P 157).toInt.toNat := Int32.lt_iff_toInt_lt.mpr (by omega)
          exact ⟨r2, Or.inr ⟨r1, i, by omega, fun q => by have zq := q.2.2.2; rw [(wth_crd h.ok.k60).mp hp] at zq; cases zq⟩⟩
        · rw [bI_0, Bool.not_eq_false] at b1
          exact ⟨r2, Or.inr ⟨r1, i, by omega, fun q => by have zq := q.2.2.1; rw [b1] at zq; cases zq⟩⟩
theorem fto_ok (h : CST T P PI M) (hz : (zI M 1 1).toInt = (n : Int)) (ho : ∀ i, i < n → rN M 2 i = o i) (H : Ev none e 109 0 [some (.ref 0), some (.int c), some (.int t), none, none] [] M v M' 0 0) : M' = M ∧ ((¬ fenN P c t (zI M 1 1) o n ∧ v = some (.int 1)) ∨ (fenN P c t (zI M 1 1) o n ∧ v = some (.int 0))) := by
  have hD := h.ok.1
  unfold fenN
  obtain ⟨e1, v1, M1, _, H1, H⟩ := fto_0 h.sq H
  obtain ⟨rv1, rm1⟩ := isc_0 h.sq h.ld H1
  rw [rv1, rm1] at H
  rcases fto_5 h.sq H with ⟨a1, r1, r2⟩ | ⟨_, a1, r1, r2⟩ | ⟨_, _, a1, r1, r2⟩ | ⟨a1, a2, a3, H⟩
  · rw [isc_ok h.lan hD.1] at a1
    exact ⟨r2, Or.inr ⟨Or.inl a1, r1⟩⟩
  · rw [g126_R] at a1
    exact ⟨r2, Or.inr ⟨Or.inr (Or.inl a1), r1⟩⟩
  · rw [g126_R] at a1
    exact ⟨r2, Or.inr ⟨Or.inr (Or.inr (Or.inl a1)), r1⟩⟩
  · rw [isc_ok h.lan hD.1, Classical.not_not] at a1
    rw [g126_R, Classical.not_not] at a2 a3
    obtain ⟨rm, rv⟩ := fto_l h hz ho n 0 0 none rfl (by omega) (fun j hj => absurd hj (Nat.not_lt_zero _)) H
    rcases rv with ⟨rv, g⟩ | ⟨rv, i, i1, i2⟩
    · refine ⟨rm, Or.inl ⟨fun q => ?_, rv⟩⟩
      rcases q with q | q | q | ⟨i, i1, i2⟩
      · exact q a1
      · exact q a2
      · exact q a3
      · exact i2 (g i i1)
    · exact ⟨rm, Or.inr ⟨Or.inr (Or.inr (Or.inr ⟨i, i1, i2⟩)), rv⟩⟩
/-- between the trials of fences -/
def FIV (T : TS) (P : PK) (PI : Nat → PK) (z : Int32) (n : Nat) (o : Nat → Int32) (M0 M : Mem) : Prop := CST T P PI M ∧ zI M 1 1 = z ∧ (∀ i, i < n → rN M 2 i = o i) ∧ zI M 0 14 = zI M0 0 14 ∧ ∀ j, rN M 343 j = rN M0 343 j
theorem FIV.tri (h : FIV T P PI z n o M0 M) (hC : CST T P PI M') (hF : FZ triF triW triO M M') : FIV T P PI z n o M0 M' := ⟨hC, (hF.fi (by unfold triF; omega)).trans h.2.1, fun i hi => (hF.rn (by unfold triW; omega)).trans (h.2.2.1 i hi), (hF.fi (by unfold triF; omega)).trans h.2.2.2.1, fun j => (hF.rn (by unfold triW; omega)).trans (h.2.2.2.2 j)⟩
theorem x112_ok {n9 : Int32} (h : CST T P PI M) : CST T P PI (X_112 M n9 a b) ∧ FNc (n9, a, b) (X_112 M n9 a b) := by
  have i0 : (0 : Int32).toNatClampNeg = 0 := rfl
  have i1 : (1 : Int32).toNatClampNeg = 1 := rfl
  unfold X_112
  rw [i0, i1]
  have hF : FZ (fun a k => a = 0 ∧ k = 14) (fun a => a = 343) noO M (wI (wI (wF M 0 14 n9) 343 0 a) 343 1 b) := ((FZ.wF (F := fun a k => a = 0 ∧ k = 14) ⟨rfl, rfl⟩).trans (FZ.wI (W := fun a => a = 343) rfl)).trans (FZ.wI rfl)
  have l1 : (zrw (wF M 0 14 n9) 343).length = 2 := (h.sq.kf.1.row qa_343 qw_59).2
  have l2 : (zrw (wI (wF M 0 14 n9) 343 0 a) 343).length = 2 := (h.sq.kf.ki.1.row qa_343 qw_59).2
  refine ⟨h.scr h.sq.kf.ki.ki hF ⟨by omega, by omega, by omega⟩ (fun L hL _ => ⟨fun a k q1 q2 q => ?_, fun a q1 q2 => ?_⟩) (fun t ht => ⟨fun k q => ?_, fun k k1 k8 => ?_⟩) ⟨fun q => q, fun q => q, fun q => q⟩ (fun _ _ _ q => q) (fun L hL => ⟨fun k hk => (hF.on (fun q => q)).trans ((h.2.2.2.2.2.1 L hL).1 k hk), (h.2.2.2.2.2.1 L hL).2.on (fun j => hF.on (fun q => q))⟩) (h.2.2.2.2.1.fz hF (by omega) (by omega) (fun a _ _ => by omega)) (by omega), ?_, ?_, ?_⟩
  · have := ld_cases hL
    have := q.1
    omega
  · have := ld_cases hL
    omega
  · have := tx_cases ht
    have := q.1
    omega
  · have := tx_cases ht
    omega
  · rw [fI_wI, fI_wI]
    exact fI_wF_eq h.sq.1 qa_0 qi_0_14
  · rw [rN_wI_ne (by omega)]
    exact rN_wI_eq (by omega)
  · exact rN_wI_eq (by omega)
theorem ffe1_l (ht : t.toInt = (tt : Int)) (ht1 : tt ≤ 100) (hz : z.toInt = (n : Int)) (hok : ∀ i, i < n → fok P (o i)) : ∀ (r i : Nat) (iz : Int32) (c4 : Option Value) (M : Mem), FIV T P PI z n o M0 M → iz.toInt = (i : Int) → i + r = n → Ev none e 110 21 [some (.ref 0), some (.int c), some (.int t), some (.int iz), c4] [] M v M' 0 0 → (∃ q, fe1 T P c tt o r i = some q ∧ v = some (.int q.1) ∧ CST T P PI M' ∧ FNc q M') ∨ (fe1 T P c tt o r i = none ∧ ∃ M1, FIV T P PI z n o M0 M1 ∧ ∃ c4, Ev none e 110 75 [some (.ref 0), some (.int c), some (.int t), some (.int 0), c4] [] M1 v M' 0 0) := by
  have ub := i32_any z
  intro r
  induction r with
  | zero =>
    intro i iz c4 M h hi hn H
    rcases ffe_21 h.1.sq H with ⟨_, H⟩ | ⟨a1, _⟩
    · exact Or.inr ⟨rfl, M, h, _, H⟩
    · exact absurd (Int32.le_iff_toInt_le.mpr (by rw [h.2.1]; omega)) a1
  | succ r ih =>
    intro i iz c4 M h hi hn H
    rcases ffe_21 h.1.sq H with ⟨a1, _⟩ | ⟨_, _, e1, v1, M1, _, H1, H⟩
    · rw [h.2.1] at a1
      have := Int32.le_iff_toInt_le.mp a1
      omega
    · have er : rI M 2 iz = o i := (rI_n hi).trans (h.2.2.1 i (by omega))
      rw [er] at H1
      obtain ⟨rv, q1, q2⟩ := nbs_ok h.1 (Or.inr (hok i (by omega)).1) (Or.inl rfl) ht ht1 H1
      rw [rv] at H
      have h1 := h.tri q1 q2
      unfold fe1
      rcases ffe_48 q1.sq H with ⟨a1, H⟩ | ⟨a1, _, r1, r2⟩
      · rw [bI_0, Bool.not_eq_false'] at a1
        rw [if_neg (by rw [a1]; decide)]
        exact ih (i + 1) (iz + 1) c4 M1 h1 (by rw [i32_p1 (by omega)]; omega) (by omega) H
      · rw [bI_0, Bool.not_eq_false'] at a1
        rw [Bool.not_eq_true] at a1
        have er1 : rI M1 2 iz = o i := (rI_n hi).trans (h1.2.2.1 i (by omega))
        rw [er1] at r1 r2
        obtain ⟨u1, u2⟩ := x112_ok (n9 := 1) (a := o i) (b := -1) q1
        rw [if_pos a1]
        exact Or.inl ⟨_, rfl, r1, r2 ▸ u1, r2 ▸ u2⟩
theorem ffe2j_l (ht : t.toInt = (tt : Int)) (ht1 : tt ≤ 100) (hz : z.toInt = (n : Int)) (hok : ∀ i, i < n → fok P (o i)) {i : Nat} {iz : Int32} (hi : iz.toInt = (i : Int)) (hin : i < n) : ∀ (r j : Nat) (jz : Int32) (M : Mem), FIV T P PI z n o M0 M → jz.toInt = (j : Int) → j + r = n → Ev none e 110 91 [some (.ref 0), some (.int c), some (.int t), some (.int iz), some (.int jz)] [] M v M' 0 0 → (∃ q, fe2j T P c tt o i r j = some q ∧ v = some (.int q.1) ∧ CST T P PI M' ∧ FNc q M') ∨ (fe2j T P c tt o i r j = none ∧ ∃ M1, FIV T P PI z n o M0 M1 ∧ ∃ c4, Ev none e 110 75 [some (.ref 0), some (.int c), some (.int t), some (.int (iz + 1)), c4] [] M1 v M' 0 0) := by
  have ub := i32_any z
  intro r
  induction r with
  | zero =>
    intro j jz M h hj hn H
    rcases ffe_91 h.1.sq H with ⟨_, H⟩ | ⟨a1, _⟩
    · exact Or.inr ⟨rfl, M, h, _, H⟩
    · exact absurd (Int32.le_iff_toInt_le.mpr (by rw [h.2.1]; omega)) a1
  | succ r ih =>
    intro j jz M h hj hn H
    rcases ffe_91 h.1.sq H with ⟨a1, _⟩ | ⟨_, _, _, e1, v1, M1, _, H1, H⟩
    · rw [h.2.1] at a1
      have := Int32.le_iff_toInt_le.mp a1
      omega
    · have er : rI M 2 iz = o i := (rI_n hi).trans (h.2.2.1 i hin)
      have es : rI M 2 jz = o j := (rI_n hj).trans (h.2.2.1 j (by omega))
      rw [er, es] at H1
      obtain ⟨rv, q1, q2⟩ := nbs_ok h.1 (Or.inr (hok i hin).1) (Or.inr (hok j (by omega)).1) ht ht1 H1
      rw [rv] at H
      have h1 := h.tri q1 q2
      unfold fe2j
      rcases ffe_128 q1.sq H with ⟨a1, H⟩ | ⟨a1, _, _, r1, r2⟩
      · rw [bI_0, Bool.not_eq_false'] at a1
        rw [if_neg (by rw [a1]; decide)]
        exact ih (j + 1) (jz + 1) M1 h1 (by rw [i32_p1 (by omega)]; omega) (by omega) H
      · rw [bI_0, Bool.not_eq_false'] at a1
        rw [Bool.not_eq_true] at a1
        have er1 : rI M1 2 iz = o i := (rI_n hi).trans (h1.2.2.1 i hin)
        have es1 : rI M1 2 jz = o j := (rI_n hj).trans (h1.2.2.1 j (by omega))
        rw [er1, es1] at r1 r2
        obtain ⟨u1, u2⟩ := x112_ok (n9 := 2) (a := o i) (b := o j) q1
        rw [if_pos a1]
        exact Or.inl ⟨_, rfl, r1, r2 ▸ u1, r2 ▸ u2⟩
theorem ffe2_l (ht : t.toInt = (tt : Int)) (ht1 : tt ≤ 100) (hz : z.toInt = (n : Int)) (hok : ∀ i, i < n → fok P (o i)) : ∀ (r i : Nat) (iz : Int32) (c4 : Option Value) (M : Mem), FIV T P PI z n o M0 M → iz.toInt = (i : Int) → i + r = n → Ev none e 110 75 [some (.ref 0), some (.int c), some (.int t), some (.int iz), c4] [] M v M' 0 0 → (∃ q, fe2 T P c tt o r i = some q ∧ v = some (.int q.1) ∧ CST T P PI M' ∧ FNc q M') ∨ (fe2 T P c tt o r i = none ∧ v = some (.int (-1)) ∧ FIV T P PI z n o M0 M') := by
  have ub := i32_any z
  intro r
  induction r with
  | zero =>
    intro i iz c4 M h hi hn H
    rcases ffe_75 h.1.sq H with ⟨_, r1, r2⟩ | ⟨a1, _⟩
    · exact Or.inr ⟨rfl, r1, r2 ▸ h⟩
    · exact absurd (Int32.le_iff_toInt_le.mpr (by rw [h.2.1]; omega)) a1
  | succ r ih =>
    intro i iz c4 M h hi hn H
    rcases ffe_75 h.1.sq H with ⟨a1, _⟩ | ⟨_, H⟩
    · rw [h.2.1] at a1
      have := Int32.le_iff_toInt_le.mp a1
      omega
    · have e1 : (iz + 1).toInt = ((i + 1 : Nat) : Int) := by rw [i32_p1 (by omega)]; omega
      unfold fe2
      rcases ffe2j_l ht ht1 hz hok hi (by omega) r (i + 1) (iz + 1) M h e1 (by omega) H with ⟨q, q1, q2, q3, q4⟩ | ⟨q1, M1, q2, c5, H⟩
      · rw [q1]
        exact Or.inl ⟨q, rfl, q2, q3, q4⟩
      · rw [q1]
        exact ih (i + 1) (iz + 1) c5 M1 q2 e1 (by omega) H
theorem fences_ok (h : CST T P PI M) (hz : (zI M 1 1).toInt = (n : Int)) (ho : ∀ i, i < n → rN M 2 i = o i) (H : Ev none e 108 0 [some (.ref 0), some (.int c), some (.int t), none] [] M v M' 0 0) : CST T P PI M' ∧ ((fenN P c t (zI M 1 1) o n ∧ v = some (.int (-2)) ∧ M' = wF M 1 1 0) ∨ (¬ fenN P c t (zI M 1 1) o n ∧ v = some (.int (fenR (fenA T P c t.toInt.toNat o n))) ∧ (∀ q, fenA T P c t.toInt.toNat o n = some q → FNc q M') ∧ (fenA T P c t.toInt.toNat o n = none → zI M' 0 14 = zI M 0 14 ∧ ∀ j, rN M' 343 j = rN M 343 j))) := by
  obtain ⟨e1, v1, M1, _, H1, H⟩ := fnc_0 h.sq H
  obtain ⟨rm, rv⟩ := fto_ok h hz ho H1
  rw [rm] at H
  have o1 : ¬ ((1 : Int32) = 0) := by decide
  rcases rv with ⟨hN, rv⟩ | ⟨hN, rv⟩
  · rw [rv] at H
    rcases fnc_6 h.sq H with ⟨q, _⟩ | ⟨_, e2, v2, M2, _, H2, H⟩
    · exact absurd q o1
    · have hok : ∀ i, i < n → fok P (o i) := fun i hi => Classical.not_not.mp (fun q => hN (Or.inr (Or.inr (Or.inr ⟨i, hi, q⟩))))
      have ht : inX t 1 100 := Classical.not_not.mp (fun q => hN (Or.inr (Or.inl q)))
      have t1 : 1 ≤ t.toInt := ht.1
      have t100 : t.toInt ≤ 100 := ht.2
      have ht2 : t.toInt = (t.toInt.toNat : Int) := by omega
      have iv0 : FIV T P PI (zI M 1 1) n o M M := ⟨h, rfl, ho, rfl, fun _ => rfl⟩
      have fin : (∃ q, fenA T P c t.toInt.toNat o n = some q ∧ v2 = some (.int q.1) ∧ CST T P PI M2 ∧ FNc q M2) ∨ (fenA T P c t.toInt.toNat o n = none ∧ v2 = some (.int (-1)) ∧ FIV T P PI (zI M 1 1) n o M M2) := by
        obtain ⟨e3, v3, M3, _, H3, H2⟩ := ffe_0 h.sq H2
        obtain ⟨rv3, q1, q2⟩ := nbs_ok h (Or.inl rfl) (Or.inl rfl) ht2 (by omega) H3
        rw [rv3] at H2
        have h1 := iv0.tri q1 q2
        unfold fenA
        rcases ffe_8 q1.sq H2 with ⟨a1, H2⟩ | ⟨a1, r1, r2⟩
        · rw [bI_0, Bool.not_eq_false'] at a1
          rw [if_neg (by rw [a1]; decide)]
          rcases ffe1_l ht2 (by omega) hz hok n 0 0 none M3 h1 rfl (by omega) H2 with ⟨q, s1, s2, s3, s4⟩ | ⟨s1, M4, s2, c5, H2⟩
          · rw [s1]
            exact Or.inl ⟨q, rfl, s2, s3, s4⟩
          · rw [s1]
            exact ffe2_l ht2 (by omega) hz hok n 0 0 c5 M4 s2 rfl (by omega) H2
        · rw [bI_0, Bool.not_eq_false'] at a1
          rw [Bool.not_eq_true] at a1
          obtain ⟨u1, u2⟩ := x112_ok (n9 := 0) (a := -1) (b := -1) q1
          rw [if_pos a1]
          exact Or.inl ⟨_, rfl, r1, r2 ▸ u1, r2 ▸ u2⟩
      have f14 : ∀ N : Mem, zI (wF N 1 1 0) 0 14 = zI N 0 14 := fun N => fI_wF_ne (by decide)
      rcases fin with ⟨q, s1, s2, s3, s4⟩ | ⟨s1, s2, s3⟩
      · rw [s2] at H
        obtain ⟨r1, r2⟩ := fnc_15 s3.sq H
        rw [s1]
        refine ⟨r2 ▸ s3.tp, Or.inr ⟨hN, r1, fun q' hq => ?_, fun hq => by cases hq⟩⟩
        cases hq
        rw [r2]
        exact ⟨(f14 _).trans s4.1, rN_wF.trans s4.2.1, rN_wF.trans s4.2.2⟩
      · rw [s2] at H
        obtain ⟨r1, r2⟩ := fnc_15 s3.1.sq H
        rw [s1]
        refine ⟨r2 ▸ s3.1.tp, Or.inr ⟨hN, r1, (fun q' hq => by cases hq), fun _ => ?_⟩⟩
        rw [r2]
        exact ⟨(f14 _).trans s3.2.2.2.1, fun j => rN_wF.trans (s3.2.2.2.2 j)⟩
  · rw [rv] at H
    rcases fnc_6 h.sq H with ⟨_, r1, r2⟩ | ⟨a1, _⟩
    · exact ⟨r2 ▸ h.tp, Or.inl ⟨hN, r1, r2⟩⟩
    · exact absurd rfl a1
end FENC
