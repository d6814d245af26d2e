/-! THE REFERENCE'S reading of the SNOW, whole -/
section RREX
variable {e k i j m n r c : Nat} {W : Nat → List Nat} {L : ROWq} {T : TS} {P : PK} {M M0 M1 M' : Mem} {v : Option Value} {a b h s az mz xz lz A D : Int32} {o : Nat → Int32} {x y : Nat} {t : Nat → Nat} {S U : (Nat → Nat) → Prop} {z : Int}
theorem nI_q1 (h : n < 2000000000) : nI n + 1 = nI (n + 1) := Int32.toInt_inj.mp (by rw [i32_p1 (by rw [nI_toInt (by omega)]; omega), nI_toInt (by omega), nI_toInt (by omega)]; omega)
theorem isMn.congr (h : isMn S j z) (hU : ∀ t, U t ↔ S t) : isMn U j z := by
  obtain ⟨⟨t, h1, h2⟩, h3⟩ := h
  exact ⟨⟨t, (hU t).mpr h1, h2⟩, fun t ht => h3 t ((hU t).mp ht)⟩
theorem isMx.congr (h : isMx S j z) (hU : ∀ t, U t ↔ S t) : isMx U j z := by
  obtain ⟨⟨t, h1, h2⟩, h3⟩ := h
  exact ⟨⟨t, (hU t).mpr h1, h2⟩, fun t ht => h3 t ((hU t).mp ht)⟩
theorem gd_go (h : ∀ j, j < n → t j = dgX x j) : gdTl W n 0 L t ↔ goX W n 0 L x = true := gd_dg n 0 L x t (fun j hj => by rw [Nat.zero_add]; exact h j hj)
theorem cnX_s : cnX W n L (x + 1) = cnX W n L x + (if goX W n 0 L x = true then 1 else 0) := rfl
theorem cnX_le : cnX W n L x ≤ x := by
  have h := suN_le (f := fun y => if goX W n 0 L y = true then 1 else 0) x 1 (fun y _ => by
    show (if goX W n 0 L y = true then 1 else 0) ≤ 1
    split <;> omega)
  unfold cnX
  omega
theorem cnX_0 : ∀ x, cnX W n L x = 0 → ∀ y, y < x → goX W n 0 L y = false := by
  intro x
  induction x with
  | zero => intro _ y hy; exact absurd hy (Nat.not_lt_zero y)
  | succ x ih =>
    intro h y hy
    rw [cnX_s] at h
    by_cases q : y = x
    · rw [q]
      cases g : goX W n 0 L x with
      | false => rfl
      | true => rw [g, if_pos rfl] at h; omega
    · exact ih (by omega) y (by omega)
theorem sx_0 (h : cnX W n L x = 0) : ¬ SXq W n L x t := by
  rintro ⟨h1, y, h2, h3⟩
  have := cnX_0 x h y h2
  rw [gd_go h3, this] at h1
  cases h1
theorem sx_no (h : goX W n 0 L x = false) : SXq W n L (x + 1) t ↔ SXq W n L x t := by
  constructor
  · rintro ⟨h1, y, h2, h3⟩
    refine ⟨h1, y, ?_, h3⟩
    by_cases q : y = x
    · rw [gd_go h3, q, h] at h1
      cases h1
    · omega
  · rintro ⟨h1, y, h2, h3⟩
    exact ⟨h1, y, by omega, h3⟩
theorem sx_yes (h : goX W n 0 L x = true) : SXq W n L (x + 1) t ↔ SXq W n L x t ∨ ∀ j, j < n → t j = dgX x j := by
  constructor
  · rintro ⟨h1, y, h2, h3⟩
    by_cases q : y = x
    · rw [q] at h3
      exact Or.inr h3
    · exact Or.inl ⟨h1, y, by omega, h3⟩
  · rintro (⟨h1, y, h2, h3⟩ | h3)
    · exact ⟨h1, y, by omega, h3⟩
    · exact ⟨(gd_go h3).mpr h, x, by omega, h3⟩
theorem sx_all : SXq W n L (10 ^ n) t ↔ gdTl W n 0 L t := by
  constructor
  · exact fun h => h.1
  · intro h
    obtain ⟨x, x1, x2⟩ := dg_ex n t (fun j hj => gd_9 n 0 L t h j (Nat.zero_le _) (by omega))
    exact ⟨h, x, x1, x2⟩
theorem mnq_1 (h : goX W n 0 L x = true) (h0 : cnX W n L x = 0) (hj : j < n) : isMn (SXq W n L (x + 1)) j (dgX x j : Int) ∧ isMx (SXq W n L (x + 1)) j (dgX x j : Int) := by
  have q : SXq W n L (x + 1) (dgX x) := (sx_yes h).mpr (Or.inr (fun _ _ => rfl))
  have al : ∀ t, SXq W n L (x + 1) t → t j = dgX x j := fun t ht => by
    rcases (sx_yes h).mp ht with w | w
    · exact absurd w (sx_0 h0)
    · exact w j hj
  exact ⟨⟨⟨_, q, rfl⟩, fun t ht => by rw [al t ht]; exact Int.le_refl _⟩, ⟨⟨_, q, rfl⟩, fun t ht => by rw [al t ht]; exact Int.le_refl _⟩⟩
theorem mnq_2 (h : goX W n 0 L x = true) (hj : j < n) (hA : isMn (SXq W n L x) j A.toInt) (hD : D.toInt = (dgX x j : Int)) : isMn (SXq W n L (x + 1)) j (if A ≤ D then A else D).toInt := by
  have q : SXq W n L (x + 1) (dgX x) := (sx_yes h).mpr (Or.inr (fun _ _ => rfl))
  obtain ⟨⟨t0, a1, a2⟩, a3⟩ := hA
  by_cases c : A ≤ D
  · rw [if_pos c]
    have c := Int32.le_iff_toInt_le.mp c
    refine ⟨⟨t0, (sx_yes h).mpr (Or.inl a1), a2⟩, fun t ht => ?_⟩
    rcases (sx_yes h).mp ht with w | w
    · exact a3 t w
    · rw [w j hj]
      omega
  · rw [if_neg c]
    rw [Int32.le_iff_toInt_le] at c
    refine ⟨⟨_, q, hD⟩, fun t ht => ?_⟩
    rcases (sx_yes h).mp ht with w | w
    · have := a3 t w
      omega
    · rw [w j hj]
      omega
theorem mxq_2 (h : goX W n 0 L x = true) (hj : j < n) (hA : isMx (SXq W n L x) j A.toInt) (hD : D.toInt = (dgX x j : Int)) : isMx (SXq W n L (x + 1)) j (if D ≤ A then A else D).toInt := by
  have q : SXq W n L (x + 1) (dgX x) := (sx_yes h).mpr (Or.inr (fun _ _ => rfl))
  obtain ⟨⟨t0, a1, a2⟩, a3⟩ := hA
  by_cases c : D ≤ A
  · rw [if_pos c]
    have c := Int32.le_iff_toInt_le.mp c
    refine ⟨⟨t0, (sx_yes h).mpr (Or.inl a1), a2⟩, fun t ht => ?_⟩
    rcases (sx_yes h).mp ht with w | w
    · exact a3 t w
    · rw [w j hj]
      omega
  · rw [if_neg c]
    rw [Int32.le_iff_toInt_le] at c
    refine ⟨⟨_, q, hD⟩, fun t ht => ?_⟩
    rcases (sx_yes h).mp ht with w | w
    · have := a3 t w
      omega
    · rw [w j hj]
      omega
theorem TRD.fz {F : Nat → Nat → Prop} {V O : Nat → Prop} (h : TRD W n M) (hF : FZ F V O M M') (w : ¬ V 659) : TRD W n M' := fun q hq c hc => (hF.rn w).trans (h q hq c hc)
/-- all the numbers, one by one -/
theorem rx_l (hP : okA P) (n5 : n ≤ 5) (hW : ∀ q, q < n → (W q).length ≤ 200 ∧ ∀ y, y ∈ W q → y < clsP P) (haz : az.toInt = ((10 ^ n : Nat) : Int)) : ∀ (r x : Nat) (mz : Int32) (o5 o6 : Option Value) (M : Mem), x + r = 10 ^ n → RST T P M → TRD W n M → mz.toInt = (cnX W n (snL P) x : Int) → (cnX W n (snL P) x = 0 → KEPR M0 M) → (cnX W n (snL P) x ≠ 0 → zI M 633 62 = nI n ∧ ∀ j, j < n → isMn (SXq W n (snL P) x) j (rN M 660 j).toInt ∧ isMx (SXq W n (snL P) x) j (rN M 661 j).toInt) → Ev none e 242 205 [some (.ref 633), some (.int (nI n)), some (.int az), some (.int mz), some (.int (nI x)), o5, o6] [] M v M' 0 0 → ∃ f : Int32, v = some (.int f) ∧ f.toInt = (ndN W n 0 (snL P) : Int) ∧ ((f.toInt = 0 ∧ KEPR M0 M') ∨ (f.toInt ≠ 0 ∧ zI M' 633 62 = nI n ∧ ∀ j, j < n → isMn (gdTl W n 0 (snL P)) j (rN M' 660 j).toInt ∧ isMx (gdTl W n 0 (snL P)) j (rN M' 661 j).toInt)) := by
  have tn : (nI n).toInt = (n : Int) := nI_toInt (by omega)
  have hp : 10 ^ n ≤ 10 ^ 5 := Nat.pow_le_pow_right (by decide) n5
  have h5 : (10 : Nat) ^ 5 = 100000 := rfl
  have end_ : ∀ (x : Nat) (mz : Int32) (M : Mem), x = 10 ^ n → mz.toInt = (cnX W n (snL P) x : Int) → (cnX W n (snL P) x = 0 → KEPR M0 M) → (cnX W n (snL P) x ≠ 0 → zI M 633 62 = nI n ∧ ∀ j, j < n → isMn (SXq W n (snL P) x) j (rN M 660 j).toInt ∧ isMx (SXq W n (snL P) x) j (rN M 661 j).toInt) → v = some (.int mz) → M' = M → ∃ f : Int32, v = some (.int f) ∧ f.toInt = (ndN W n 0 (snL P) : Int) ∧ ((f.toInt = 0 ∧ KEPR M0 M') ∨ (f.toInt ≠ 0 ∧ zI M' 633 62 = nI n ∧ ∀ j, j < n → isMn (gdTl W n 0 (snL P)) j (rN M' 660 j).toInt ∧ isMx (gdTl W n 0 (snL P)) j (rN M' 661 j).toInt)) := fun x mz M hx hm h0 h1 r1 r2 => by
    have ec : cnX W n (snL P) x = ndN W n 0 (snL P) := by rw [nd_cnt, hx]; rfl
    refine ⟨mz, r1, by rw [hm, ec], ?_⟩
    rw [r2]
    by_cases q : cnX W n (snL P) x = 0
    · exact Or.inl ⟨by rw [hm, q]; rfl, h0 q⟩
    · obtain ⟨g1, g2⟩ := h1 q
      refine Or.inr ⟨by omega, g1, fun j hj => ?_⟩
      obtain ⟨g3, g4⟩ := g2 j hj
      rw [hx] at g3 g4
      exact ⟨g3.congr (fun t => sx_all.symm), g4.congr (fun t => sx_all.symm)⟩
  intro r
  induction r with
  | zero =>
    intro x mz o5 o6 M hx hR hT hm h0 h1 H
    have tx : (nI x).toInt = (x : Int) := nI_toInt (by omega)
    rcases rrd_205 hR.1 H with ⟨_, r1, r2⟩ | ⟨a1, _⟩
    · exact end_ x mz M (by omega) hm h0 h1 r1 r2
    · exact absurd (Int32.le_iff_toInt_le.mpr (by omega)) a1
  | succ r ih =>
    intro x mz o5 o6 M hx hR hT hm h0 h1 H
    have tx : (nI x).toInt = (x : Int) := nI_toInt (by omega)
    rcases rrd_205 hR.1 H with ⟨a1, _⟩ | ⟨_, H⟩
    · have := Int32.le_iff_toInt_le.mp a1
      omega
    · obtain ⟨lz, M1, S1, F1, hd, e1, v1, M2, _, H1, H⟩ := rdg_l (x := x) n5 (by omega) n 0 (nI x) M (by omega) hR.1 tx (fun q hq => absurd hq (Nat.not_lt_zero q)) H
      have R1 := hR.rx S1 (F1.more (fun _ _ q => q.elim) (fun a q => by have q : a = 662 := q; unfold rxW; omega) (fun _ q => q))
      have T1 := hT.fz F1 (by omega)
      obtain ⟨rv, rm⟩ := isn_l R1 hP n5 T1 hd hW (clsP P) 0 none none (by omega) (fun d hd2 => absurd hd2 (Nat.not_lt_zero d)) (isn_0 S1 H1)
      rw [rv, rm] at H
      have k1 : KEPR M M1 := KEPR.fz F1 (fun q => q) (by omega) (by omega)
      have hle := cnX_le (W := W) (n := n) (L := snL P) (x := x)
      have found : ∀ (N : Mem) (mb : Bool), SQ N → RST T P N → TRD W n N → zI N 633 62 = nI n → (∀ j, rN N 660 j = rN M 660 j ∧ rN N 661 j = rN M 661 j) → (∀ q, q < n → rN N 662 q = nI (dgX x q)) → (mz = 0 ↔ mb = true) → goX W n 0 (snL P) x = true → Ev none e 242 272 [some (.ref 633), some (.int (nI n)), some (.int az), some (.int mz), some (.int (nI x)), some (.int lz), some (.int 0)] [] N v M' 0 0 → ∃ f : Int32, v = some (.int f) ∧ f.toInt = (ndN W n 0 (snL P) : Int) ∧ ((f.toInt = 0 ∧ KEPR M0 M') ∨ (f.toInt ≠ 0 ∧ zI M' 633 62 = nI n ∧ ∀ j, j < n → isMn (gdTl W n 0 (snL P)) j (rN M' 660 j).toInt ∧ isMx (gdTl W n 0 (snL P)) j (rN M' 661 j).toInt)) := fun N mb SN RN TN hz hrow hdN hmb hg H => by
        obtain ⟨M3, S3, F3, w, H⟩ := rmx_l n5 mb hmb n 0 N (by omega) SN (FZ.refl _) (fun q hq => absurd hq (Nat.not_lt_zero q)) (fun q _ => ⟨rfl, rfl⟩) H
        rw [nI_q1 (by omega)] at H
        have R3 := RN.rx S3 (F3.more (fun _ _ q => q.elim) (fun a q => by have q : a = 660 ∨ a = 661 := q; unfold rxW; omega) (fun _ q => q))
        have T3 := TN.fz F3 (by omega)
        have c1 : cnX W n (snL P) (x + 1) = cnX W n (snL P) x + 1 := by rw [cnX_s, if_pos hg]
        refine ih (x + 1) (mz + 1) _ _ M3 (by omega) R3 T3 (by rw [i32_p1 (by omega), hm, c1]; omega) (fun q => by omega) (fun _ => ⟨(F3.fi (fun q => q)).trans hz, fun j hj => ?_⟩) H
        obtain ⟨w1, w2⟩ := w j hj
        have dj : (nI (dgX x j)).toInt = (dgX x j : Int) := nI_toInt (by have := dgX_9 (x := x) (j := j); omega)
        rw [w1, w2, hdN j hj]
        cases mb with
        | true =>
          have m0 := hmb.mpr rfl
          have t0 : (0 : Int32).toInt = 0 := rfl
          rw [if_pos rfl, if_pos rfl, dj]
          exact mnq_1 hg (by rw [m0] at hm; omega) hj
        | false =>
          have ft : ¬ (false = true) := by decide
          rw [if_neg ft, if_neg ft]
          have hne : cnX W n (snL P) x ≠ 0 := fun q => by
            have : mz = 0 := Int32.toInt_inj.mp (by rw [hm, q]; rfl)
            exact absurd (hmb.mp this) (by decide)
          obtain ⟨_, g2⟩ := h1 hne
          obtain ⟨g3, g4⟩ := g2 j hj
          rw [(hrow j).1, (hrow j).2]
          exact ⟨mnq_2 hg hj g3 dj, mxq_2 hg hj g4 dj⟩
      rcases rrd_254 S1 H with ⟨y0, H⟩ | ⟨y1, m0, H⟩ | ⟨y1, m1, H⟩
      · rw [bI_0] at y0
        rw [nI_q1 (by omega)] at H
        have c1 : cnX W n (snL P) (x + 1) = cnX W n (snL P) x := by rw [cnX_s, y0]; rfl
        refine ih (x + 1) mz _ _ M1 (by omega) R1 T1 (by rw [c1]; exact hm) (fun q => (h0 (by rw [← c1]; exact q)).trans k1) (fun q => ?_) H
        obtain ⟨g1, g2⟩ := h1 (by rw [← c1]; exact q)
        refine ⟨k1.1.trans g1, fun j hj => ?_⟩
        obtain ⟨g3, g4⟩ := g2 j hj
        rw [(k1.2 j).1, (k1.2 j).2]
        exact ⟨g3.congr (fun t => sx_no y0), g4.congr (fun t => sx_no y0)⟩
      · rw [bI_0, Bool.not_eq_false] at y1
        have F2 : FZ rxF rxW noO M1 (wF M1 633 62 (nI n)) := FZ.wF ⟨rfl, rfl⟩
        exact found _ true S1.kf (R1.rx S1.kf F2) (T1.fz F2 (by unfold rxW; omega)) (fI_wF_eq S1.1 qa_633 qi_61_62) (fun j => by rw [rN_wF, rN_wF]; exact k1.2 j) (fun q hq => by rw [rN_wF]; exact hd q hq) ⟨fun _ => rfl, fun _ => m0⟩ y1 H
      · rw [bI_0, Bool.not_eq_false] at y1
        have hne : cnX W n (snL P) x ≠ 0 := fun q => m1 (Int32.toInt_inj.mp (by rw [hm, q]; rfl))
        exact found _ false S1 R1 T1 (k1.1.trans (h1 hne).1) (fun j => k1.2 j) hd ⟨fun q => absurd q m1, fun q => by cases q⟩ y1 H
theorem sub_0 {p q : Int32} : p - q = 0 ↔ p = q := by
  constructor
  · intro h
    have e : p - q + q = 0 + q := by rw [h]
    rw [Int32.sub_add_cancel, Int32.zero_add] at e
    exact e
  · intro h
    rw [h, Int32.sub_self]
/-- read, the reference's -/
theorem rread_ok (hR : RST T P M) (hP : okA P) (hu : unD P) (ht : ∀ j : Nat, (j : Int) < (zI M 633 2).toInt → rN M 634 j &&& 255 = o j) (hn : n = (zI M 633 2 / 3).toInt.toNat) (H : Ev none e 242 0 [some (.ref 633), none, none, none, none, none, none] [] M v M' 0 0) : (¬ rdT T P (zI M 633 2) o ∧ v = some (.int (-1)) ∧ KEPR M M') ∨ (rdT T P (zI M 633 2) o ∧ ∃ f : Int32, v = some (.int f) ∧ f.toInt = (ndN (wsW T P o) n 0 (snL P) : Int) ∧ ((f.toInt = 0 ∧ KEPR M M') ∨ (f.toInt ≠ 0 ∧ zI M' 633 62 = nI n ∧ ∀ j, j < n → isMn (gdTl (wsW T P o) n 0 (snL P)) j (rN M' 660 j).toInt ∧ isMx (gdTl (wsW T P o) n 0 (snL P)) j (rN M' 661 j).toInt))) := by
  have S0 : SQ (wF M 633 0 0) := hR.1.kf
  obtain ⟨N, eN⟩ : ∃ N, N = X_139 (wF M 633 0 0) := ⟨_, rfl⟩
  have SN : SQ N := by rw [eN]; exact X_139_sx S0
  have FN : FZ rqF rqW noO M N := by
    rw [eN]
    unfold X_139
    exact (((FZ.wF (F := rqF) (W := rqW) (O := noO) ⟨rfl, Or.inl (by decide)⟩).trans (FZ.wF ⟨rfl, Or.inl (by decide)⟩)).trans (FZ.wF ⟨rfl, Or.inl (by decide)⟩)).trans (FZ.wF ⟨rfl, Or.inl (by decide)⟩)
  have e3 : zI N 633 3 = zI M 633 2 := by
    rw [eN]
    unfold X_139
    rw [fI_wF_ne (by decide), fI_wF_ne (by decide), fI_wF_eq S0.1 qa_633 qi_61_3, fI_wF_ne (by decide)]
  have RN := hR.rq SN FN
  have kN : KEPR M N := KEPR.fz FN (by unfold rqF; omega) (by unfold rqW; omega) (by unfold rqW; omega)
  have hz : ∀ z : Int32, z - z / 3 * 3 = 0 ↔ z = 3 * (z / 3) := fun z => by rw [sub_0, Int32.mul_comm]
  have H := rrd_0 hR.1 H
  rw [← eN, e3, hz, g140_R] at H
  have t3 : (3 : Int32).toInt = 3 := rfl
  rcases H with ⟨_, a2, r1, r2⟩ | ⟨a1, a2, H⟩ | ⟨a1, r1, r2⟩
  · exact Or.inl ⟨fun q => a2 q.1, r1, by rw [r2]; exact kN⟩
  · rw [Classical.not_not] at a2
    have n1 : 1 ≤ (zI M 633 2 / 3).toInt := a2.1
    have n5 : (zI M 633 2 / 3).toInt ≤ 5 := a2.2
    have ez : zI M 633 2 / 3 = nI n := nI_iq (by omega) (by omega)
    have z3 : (zI M 633 2).toInt = ((3 * n : Nat) : Int) := by
      have q : (3 * (zI M 633 2 / 3)).toInt = 3 * (zI M 633 2 / 3).toInt := by rw [i32_mul (by rw [t3]; omega) (by rw [t3]; omega), t3]
      rw [← a1] at q
      omega
    rw [ez] at H
    have en : (zI M 633 2 / 3).toInt.toNat = n := hn.symm
    rcases rrd_l hP.1 hP.2.1 hu (n := n) (o := o) (by omega) n 0 none N (by omega) RN (fun q hq => absurd hq (Nat.not_lt_zero q)) (fun q hq => absurd hq (Nat.not_lt_zero q)) (fun j hj => by
      rw [FN.rn (by unfold rqW; omega)]
      exact ht j (by omega)) H with ⟨u1, u2, u3⟩ | ⟨u1, M1, R1, T1, F1, H⟩
    · exact Or.inl ⟨fun q => u1 (by rw [← en]; exact q.2.2), u2, kN.trans (KEPR.fz u3 (by unfold rqF; omega) (by unfold rqW; omega) (by unfold rqW; omega))⟩
    · obtain ⟨az, haz, H⟩ := rp_l (by omega) R1.1 n 0 1 (by omega) rfl H
      have k1 : KEPR M M1 := kN.trans (KEPR.fz F1 (by unfold rqF; omega) (by unfold rqW; omega) (by unfold rqW; omega))
      have u := rx_l (M0 := M) (W := wsW T P o) hP (by omega) (fun q hq => by
        refine ⟨snW_200, fun y hy => ?_⟩
        obtain ⟨m, hm⟩ := List.getElem?_of_mem hy
        obtain ⟨ia, ib, _⟩ := wN_of (u1 q hq).1
        obtain ⟨_, _, _, g3, _⟩ := snW_c hP.1 ia ib hm
        exact g3) haz (10 ^ n) 0 0 none none M1 (by omega) R1 T1 rfl (fun _ => k1) (fun q => absurd rfl q) H
      exact Or.inr ⟨⟨a2, a1, by rw [en]; exact u1⟩, u⟩
  · exact Or.inl ⟨fun q => a1 q.2.1, r1, by rw [r2]; exact kN⟩
end RREX
