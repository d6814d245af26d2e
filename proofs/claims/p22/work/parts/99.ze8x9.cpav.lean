/-! THE CLASS'S paved, wait -/
section CPAV
variable {e B n tt wn xn yn : Nat} {T : TS} {P P0 Q : PK} {PI : Nat → PK} {md : Md} {M M1 M' : Mem} {v : Option Value} {x y t w ws wh be le : Int32} {f g : Nat → Bool}
set_option maxRecDepth 200000 in
theorem bits_p : gpB 193 [42] = true := by decide +kernel
theorem lrw_frm (hS : SH M) (hF : Frm sT md M M') (hB : mdC md [1042] = true) : lrw M' 193 = lrw M 193 := by
  obtain ⟨h1, _⟩ := hS.lrow qa_193' bits_g
  obtain ⟨x', h2, h3⟩ := hF.2.2 193 2 _ h1
  have w : ¬ mW md 193 := gpB_W bits_p hB
  have h4 := h3 (fun g hg q => w (Or.inr ⟨g, hg, q⟩))
  show (match gNth M' 193 with
    | some (.inl (_, .inr (.inl l))) => l
    | _ => []) = _
  rw [h2, h4]
theorem KW.eq (h : KW M xn f) (e : ∀ j, j < 4 → lJ M' 193 (4 * xn + j) = lJ M 193 (4 * xn + j)) : KW M' xn f := fun j b hj hb => by rw [e j hj]; exact h j b hj hb
theorem onkJ (hI : INV M) (he : 7 ≤ e) (H : Ev none e 134 0 [some (.ref 0), some (.int t)] [] M v M' 0 0) : INV M' ∧ ∀ i, lJ M' 193 i = lJ M 193 i := by
  obtain ⟨h1, h2, _⟩ := inv_d (c := kX10_oneWeek) (k := 2) (ws := [.ref 0, .int t]) kX10_oneWeek_ok (by decide +kernel) mx_all.2.2.2.2.2.2.2 he (Two.mk rfl (Two.mk ⟨t, rfl, i32_any t⟩ trivial)) hI H
  have q := lrw_frm hI.1.sh h2 (by decide +kernel)
  exact ⟨h1, fun i => by unfold lJ; rw [q]⟩
theorem nt_no (h : FZ noF noO noO M M') : FZ netF netW netW M M' := h.more (fun _ _ q => q.elim) (fun _ q => q.elim) (fun _ q => q.elim)
/-- one more week kept -/
theorem keepX (h : TRI T P0 PI B w [] Q M) (hI : INV M) (he : 1 ≤ e) (hx : x.toInt = (xn : Int)) (x20 : xn ≤ 20) (H : Ev none e 15 0 [some (.ref 192), some (.int x), none] [] M v M' 0 0) : v = none ∧ INV M' ∧ TRI T P0 PI B w [] Q M' ∧ KW M' xn (nwB T Q) ∧ ∀ i, ¬ (4 * xn ≤ i ∧ i < 4 * xn + 4) → lJ M' 193 i = lJ M 193 i := by
  obtain ⟨_, I1, S1, _⟩ := keepC hI h.2.1.sq.2 he H
  obtain ⟨r1, _, F1, k1, k2⟩ := keep_ok h.2.2.2.1.1 h.2.1.1 h.2.1.2.2.1.1 h.2.1.2.2.1.2.1 hx x20 H
  exact ⟨r1, I1, h.nt S1 (nt_no F1), k1, k2⟩
theorem kwx_l (ht : t.toInt = (tt : Int)) (t200 : tt ≤ 200) (he : 8 ≤ e) (hws : ws.toInt = (wn : Int)) (w20 : wn ≤ 20) : ∀ (r k : Nat) (nz : Int32) (B : Nat) (M : Mem), TRI T P0 PI B (-1) [] (wkN T tt k P0) M → INV M → (∀ w, 1 ≤ w → w ≤ k → KW M w (nwB T (wkN T tt w P0))) → nz.toInt = ((k + 1 : Nat) : Int) → k + r = wn → B + 60 * tt * r ≤ 100000000 → Ev none e 107 6 [some (.ref 0), some (.int ws), some (.int t), some (.int nz)] [] M v M' 0 0 → v = none ∧ CST T P0 PI M' ∧ INV M' ∧ ∀ w, 1 ≤ w → w ≤ wn → KW M' w (nwB T (wkN T tt w P0)) := by
  intro r
  induction r with
  | zero =>
    intro k nz B M h hI hk hz hr hB H
    rcases kwk_6 h.2.1.sq H with ⟨_, r1, r2⟩ | ⟨a1, _⟩
    · rw [r2]
      exact ⟨r1, h.1, hI, fun w h1 h2 => hk w h1 (by omega)⟩
    · exact absurd (Int32.lt_iff_toInt_lt.mpr (by omega)) a1
  | succ r ih =>
    intro k nz B M h hI hk hz hr hB H
    rcases kwk_6 h.2.1.sq H with ⟨a1, _⟩ | ⟨_, e1, v1, M1, he1, H1, H⟩
    · have := Int32.lt_iff_toInt_lt.mp a1
      omega
    · have hm : 60 * tt * (r + 1) = 60 * tt * r + 60 * tt := by rw [Nat.mul_add, Nat.mul_one]
      obtain ⟨I1, j1⟩ := onkJ hI (by omega) H1
      obtain ⟨rv, q1, _⟩ := onk_ok h (n := tt) (by omega) ht H1
      rw [rv] at H
      rw [← wkN_s] at q1
      obtain ⟨e2, v2, M2, he2, H2, H⟩ := kwk_16 q1.2.1.sq H
      obtain ⟨rv2, I2, q2, k2, k3⟩ := keepX q1 I1 (by omega) hz (by omega) H2
      rw [rv2] at H
      exact ih (k + 1) (nz + 1) (B + 60 * tt) M2 q2 I2 (fun w h1 h2 => by
        by_cases q : w = k + 1
        · rw [q]; exact k2
        · exact ((hk w h1 (by omega)).eq (fun j hj => j1 _)).eq (fun j hj => k3 _ (by omega))) (by rw [i32_p1 (by omega)]; omega) (by omega) (by omega) (kwk_24 q2.2.1.sq H)
theorem kwkX (h : CST T P PI M) (hI : INV M) (he : 9 ≤ e) (i20 : inX ws 1 20) (i200 : inX t 1 200) (H : Ev none e 107 0 [some (.ref 0), some (.int ws), some (.int t), none] [] M v M' 0 0) : v = none ∧ CST T P PI M' ∧ INV M' ∧ ∀ w, 1 ≤ w → w ≤ ws.toInt.toNat → KW M' w (nwB T (wkN T t.toInt.toNat w P)) := by
  obtain ⟨e1, v1, M1, he1, H1, H⟩ := kwk_0 h.sq H
  obtain ⟨rv, q1, _⟩ := opcT_ok h H1
  have I1 := opcI hI (by omega) H1
  rw [rv] at H
  have w1 : 1 ≤ ws.toInt := i20.1
  have w20 : ws.toInt ≤ 20 := i20.2
  have t1 : 1 ≤ t.toInt := i200.1
  have t200 : t.toInt ≤ 200 := i200.2
  have hb := h.ok.bud
  have hm : 60 * t.toInt.toNat * ws.toInt.toNat ≤ 60 * 200 * 20 := Nat.mul_le_mul (Nat.mul_le_mul_left _ (by omega)) (by omega)
  exact kwx_l (T := T) (tt := t.toInt.toNat) (wn := ws.toInt.toNat) (by omega) (by omega) (by omega) (by omega) (by omega) ws.toInt.toNat 0 1 _ M1 q1 I1 (fun w h1 h2 => by omega) rfl (by omega) (by omega) (kwk_4 q1.2.1.sq H)
theorem pavA_0 (hD : okD P) (hK : okK P) : (pavA T P w ws t 0).toInt = ((ctW (nwB T (wkN T t.toInt.toNat w.toInt.toNat P)) 256 0 : Nat) : Int) := by
  obtain ⟨d1, k1⟩ := (wkN_0 (T := T) (n := t.toInt.toNat) w.toInt.toNat P hD hK).1
  obtain ⟨_, c256, _⟩ := cls_int d1.1
  unfold pavA
  rw [if_pos rfl]
  exact nwP_ct c256
theorem wkN_cl (hD : okD P) (hK : okK P) (a b : Nat) : clsP (wkN T n a P) = clsP (wkN T n b P) := by
  have q1 := (wkN_0 (T := T) (n := n) a P hD hK).2
  have q2 := (wkN_0 (T := T) (n := n) b P hD hK).2
  exact cls_eq ((q1 0 (by decide)).trans (q2 0 (by decide)).symm) ((q1 1 (by decide)).trans (q2 1 (by decide)).symm)
theorem pavA_1 (hD : okD P) (hK : okK P) : (pavA T P w ws t 1).toInt = ((ctW (fun c => nwB T (wkN T t.toInt.toNat w.toInt.toNat P) c && !nwB T (wkN T t.toInt.toNat ws.toInt.toNat P) c) 256 0 : Nat) : Int) := by
  obtain ⟨d1, k1⟩ := (wkN_0 (T := T) (n := t.toInt.toNat) w.toInt.toNat P hD hK).1
  obtain ⟨_, c256, _⟩ := cls_int d1.1
  have e1 : ¬ (1 : Int32) = 0 := by decide
  unfold pavA
  rw [if_neg e1, if_pos rfl]
  rw [show clsP P = clsP (wkN T t.toInt.toNat w.toInt.toNat P) from wkN_cl (n := t.toInt.toNat) hD hK 0 w.toInt.toNat]
  exact aloP_ct c256 (wkN_cl hD hK _ _)
theorem pavA_2 (hD : okD P) (hK : okK P) (h0 : ¬ wh = 0) (h1 : ¬ wh = 1) : (pavA T P w ws t wh).toInt = ((ctW (fun c => nwB T (wkN T t.toInt.toNat ws.toInt.toNat P) c && !nwB T (wkN T t.toInt.toNat w.toInt.toNat P) c) 256 0 : Nat) : Int) := by
  obtain ⟨d1, k1⟩ := (wkN_0 (T := T) (n := t.toInt.toNat) ws.toInt.toNat P hD hK).1
  obtain ⟨_, c256, _⟩ := cls_int d1.1
  unfold pavA
  rw [if_neg h0, if_neg h1]
  rw [show clsP P = clsP (wkN T t.toInt.toNat ws.toInt.toNat P) from wkN_cl (n := t.toInt.toNat) hD hK 0 ws.toInt.toNat]
  exact aloP_ct c256 (wkN_cl hD hK _ _)
theorem paved_ok (h : CST T P PI M) (hI : INV M) (he : 10 ≤ e) (H : Ev none e 104 0 [some (.ref 0), some (.int w), some (.int ws), some (.int t), some (.int wh)] [] M v M' 0 0) : CST T P PI M' ∧ ((pavN w ws t wh ∧ v = some (.int (-1))) ∨ (¬ pavN w ws t wh ∧ v = some (.int (pavA T P w ws t wh)))) := by
  have hD := h.ok.1
  have hK := h.ok.2.1
  unfold pavN
  rcases pvd_0 h.sq H with ⟨a1, r1, r2⟩ | ⟨_, a1, r1, r2⟩ | ⟨_, _, a1, r1, r2⟩ | ⟨a1, a2, a3, e1, v1, M1, he1, H1, H⟩
  · rw [r2]
    rw [g106_R] at a1
    refine ⟨h, Or.inl ⟨?_, r1⟩⟩
    by_cases q : inX ws 1 20
    · exact Or.inr (Or.inr (Or.inl (fun q2 => a1 ⟨q, q2⟩)))
    · exact Or.inl q
  · rw [r2]
    rw [g126_R] at a1
    exact ⟨h, Or.inl ⟨Or.inr (Or.inl a1), r1⟩⟩
  · rw [r2]
    rw [g126_R] at a1
    exact ⟨h, Or.inl ⟨Or.inr (Or.inr (Or.inr a1)), r1⟩⟩
  · rw [g106_R, Classical.not_not] at a1
    rw [g126_R, Classical.not_not] at a2 a3
    have ng : ¬ (¬ inX ws 1 20 ∨ ¬ inX w 1 ws ∨ ¬ inX t 1 200 ∨ ¬ inX wh 0 2) := fun q => by
      rcases q with q | q | q | q
      · exact q a1.1
      · exact q a2
      · exact q a1.2
      · exact q a3
    have w1 : 1 ≤ ws.toInt := a1.1.1
    have w20 : ws.toInt ≤ 20 := a1.1.2
    have b1 : 1 ≤ w.toInt := a2.1
    have b2 : w.toInt ≤ ws.toInt := a2.2
    obtain ⟨rv, q1, I1, kw⟩ := kwkX h hI (by omega) a1.1 a1.2 H1
    rw [rv] at H
    have kA := kw w.toInt.toNat (by omega) (by omega)
    have kZ := kw ws.toInt.toNat (by omega) (by omega)
    rcases pvd_36 q1.sq H with ⟨z0, e2, v2, M2, he2, H2, H⟩ | ⟨_, z1, e2, v2, M2, he2, H2, H⟩ | ⟨z0, z1, e2, v2, M2, he2, H2, H⟩
    · obtain ⟨rm, y, rv2, hy⟩ := size_ok q1.sq (xn := w.toInt.toNat) (by omega) (by omega) kA H2
      rw [rm, rv2] at H
      obtain ⟨r1, r2⟩ := pvd_72 q1.sq H
      rw [r2]
      refine ⟨q1, Or.inr ⟨ng, ?_⟩⟩
      rw [r1, z0]
      exact congrArg (fun q => some (Value.int q)) (Int32.toInt_inj.mp (hy.trans (pavA_0 hD hK).symm))
    · obtain ⟨rm, y, rv2, hy⟩ := alone_ok q1.sq (xn := w.toInt.toNat) (yn := ws.toInt.toNat) (by omega) (by omega) kA (by omega) (by omega) kZ H2
      rw [rm, rv2] at H
      obtain ⟨r1, r2⟩ := pvd_82 q1.sq H
      rw [r2]
      refine ⟨q1, Or.inr ⟨ng, ?_⟩⟩
      rw [r1, z1]
      exact congrArg (fun q => some (Value.int q)) (Int32.toInt_inj.mp (hy.trans (pavA_1 hD hK).symm))
    · obtain ⟨rm, y, rv2, hy⟩ := alone_ok q1.sq (xn := ws.toInt.toNat) (yn := w.toInt.toNat) (by omega) (by omega) kZ (by omega) (by omega) kA H2
      rw [rm, rv2] at H
      obtain ⟨r1, r2⟩ := pvd_92 q1.sq H
      rw [r2]
      refine ⟨q1, Or.inr ⟨ng, ?_⟩⟩
      rw [r1]
      exact congrArg (fun q => some (Value.int q)) (Int32.toInt_inj.mp (hy.trans (pavA_2 hD hK z0 z1).symm))
/-! wait -/
theorem ctW_2 : ∀ (r i : Nat), (∀ c, (f c && g c) = false) → ctW f r i + ctW g r i ≤ r := by
  intro r
  induction r with
  | zero => intro i _; exact Nat.le_refl _
  | succ r ih =>
    intro i h
    have q := ih (i + 1) h
    have hi := h i
    unfold ctW
    cases hf : f i <;> cases hg : g i <;> rw [hf, hg] at hi <;> simp at hi ⊢ <;> omega
theorem waiS_lt (hD : okD P) (hK : okK P) (w1 : 1 ≤ w.toInt) (w20 : w.toInt ≤ 20) : (waiS T P ws t w).toInt = (pavA T P w ws t 1).toInt + (pavA T P w ws t 2).toInt + w.toInt ∧ 0 ≤ (pavA T P w ws t 1).toInt ∧ 0 ≤ (pavA T P w ws t 2).toInt ∧ (pavA T P w ws t 1).toInt + (pavA T P w ws t 2).toInt ≤ 256 := by
  have h1 := pavA_1 (T := T) (w := w) (ws := ws) (t := t) hD hK
  have h2 := pavA_2 (T := T) (w := w) (ws := ws) (t := t) (wh := 2) hD hK (by decide) (by decide)
  have h3 := ctW_2 (f := fun c => nwB T (wkN T t.toInt.toNat w.toInt.toNat P) c && !nwB T (wkN T t.toInt.toNat ws.toInt.toNat P) c) (g := fun c => nwB T (wkN T t.toInt.toNat ws.toInt.toNat P) c && !nwB T (wkN T t.toInt.toNat w.toInt.toNat P) c) 256 0 (fun c => by
    cases nwB T (wkN T t.toInt.toNat w.toInt.toNat P) c <;> cases nwB T (wkN T t.toInt.toNat ws.toInt.toNat P) c <;> rfl)
  refine ⟨?_, by omega, by omega, by omega⟩
  unfold waiS
  have s1 : (pavA T P w ws t 1 + pavA T P w ws t 2).toInt = (pavA T P w ws t 1).toInt + (pavA T P w ws t 2).toInt := i32_add (by omega) (by omega)
  rw [i32_add (by omega) (by omega), s1]
theorem waix_l (h : CST T P PI M) (i20 : inX ws 1 20) (kw : ∀ w, 1 ≤ w → w ≤ ws.toInt.toNat → KW M w (nwB T (wkN T t.toInt.toNat w P))) : ∀ (r : Nat) (wz be le : Int32) (c6 : Option Value), wz.toInt + (r : Int) = ws.toInt + 1 → 1 ≤ wz.toInt → (0 ≤ be.toInt ∨ r = 0) → Ev none e 105 27 [some (.ref 0), some (.int ws), some (.int t), some (.int be), some (.int le), some (.int wz), c6] [] M v M' 0 0 → M' = M ∧ v = some (.int (waiL T P ws t r wz be le)) := by
  have hD := h.ok.1
  have hK := h.ok.2.1
  have w20 : ws.toInt ≤ 20 := i20.2
  intro r
  induction r with
  | zero =>
    intro wz be le c6 hw h1 hbe H
    rcases wai_27 h.sq H with ⟨_, r1, r2⟩ | ⟨a1, _⟩
    · exact ⟨r2, r1⟩
    · exact absurd (Int32.lt_iff_toInt_lt.mpr (by omega)) a1
  | succ r ih =>
    intro wz be le c6 hw h1 hbe H
    have b0 : 0 ≤ be.toInt := hbe.resolve_right (by omega)
    rcases wai_27 h.sq H with ⟨a1, _⟩ | ⟨_, e1, v1, M1, he1, H1, H⟩
    · have := Int32.lt_iff_toInt_lt.mp a1
      omega
    · have kA := kw wz.toInt.toNat (by omega) (by omega)
      have kZ := kw ws.toInt.toNat (by omega) (by omega)
      obtain ⟨rm, p, rv, hp⟩ := alone_ok h.sq (xn := wz.toInt.toNat) (yn := ws.toInt.toNat) (by omega) (by omega) kA (by omega) (by omega) kZ H1
      rw [rm, rv] at H
      obtain ⟨e2, v2, M2, he2, H2, H⟩ := wai_43 h.sq H
      obtain ⟨rm2, q, rv2, hq⟩ := alone_ok h.sq (xn := ws.toInt.toNat) (yn := wz.toInt.toNat) (by omega) (by omega) kZ (by omega) (by omega) kA H2
      rw [rm2, rv2] at H
      have ep : p = pavA T P wz ws t 1 := Int32.toInt_inj.mp (hp.trans (pavA_1 hD hK).symm)
      have eq : q = pavA T P wz ws t 2 := Int32.toInt_inj.mp (hq.trans (pavA_2 hD hK (by decide) (by decide)).symm)
      have es : p + q + wz = waiS T P ws t wz := by rw [ep, eq]; rfl
      have H := wai_53 h.sq H
      rw [es] at H
      have z1 : (wz + 1).toInt = wz.toInt + 1 := i32_p1 (by omega)
      have nb : ¬ be < 0 := fun q => by
        have := Int32.lt_iff_toInt_lt.mp q
        have t0 : (0 : Int32).toInt = 0 := rfl
        omega
      unfold waiL
      rcases H with ⟨b1, H⟩ | ⟨b1, H⟩
      · have b1 := Int32.le_iff_toInt_le.mp b1
        rw [if_neg (fun q => q.elim nb (fun q => by
          have := Int32.lt_iff_toInt_lt.mp q
          omega))]
        exact ih _ _ _ _ (by omega) (by omega) (Or.inl b0) H
      · have b2 : ¬ le.toInt ≤ (waiS T P ws t wz).toInt := fun q => b1 (Int32.le_iff_toInt_le.mpr q)
        rw [if_pos (Or.inr (Int32.lt_iff_toInt_lt.mpr (by omega)))]
        exact ih _ _ _ _ (by omega) (by omega) (Or.inl (by omega)) H
theorem wait_ok (h : CST T P PI M) (hI : INV M) (he : 10 ≤ e) (H : Ev none e 105 0 [some (.ref 0), some (.int ws), some (.int t), none, none, none, none] [] M v M' 0 0) : CST T P PI M' ∧ ((waiN ws t ∧ v = some (.int (-1))) ∨ (¬ waiN ws t ∧ v = some (.int (waiL T P ws t ws.toInt.toNat 1 (-1) 0)))) := by
  have hD := h.ok.1
  have hK := h.ok.2.1
  unfold waiN
  rcases wai_0 h.sq H with ⟨a1, r1, r2⟩ | ⟨a1, e1, v1, M1, he1, H1, H⟩
  · rw [r2]
    rw [g106_R] at a1
    refine ⟨h, Or.inl ⟨?_, r1⟩⟩
    by_cases q : inX ws 1 20
    · exact Or.inr (fun q2 => a1 ⟨q, q2⟩)
    · exact Or.inl q
  · rw [g106_R, Classical.not_not] at a1
    have w1 : 1 ≤ ws.toInt := a1.1.1
    obtain ⟨rv, q1, I1, kw⟩ := kwkX h hI (by omega) a1.1 a1.2 H1
    rw [rv] at H
    have t1 : (1 : Int32).toInt = 1 := rfl
    obtain ⟨rm, rv2⟩ := waix_l q1 a1.1 kw ws.toInt.toNat 1 1 276 none (by omega) (by decide) (Or.inl (by decide)) (wai_17 q1.sq H)
    rw [rm]
    refine ⟨q1, Or.inr ⟨fun q => q.elim (fun q => q a1.1) (fun q => q a1.2), ?_⟩⟩
    rw [rv2]
    obtain ⟨k, hk⟩ : ∃ k, ws.toInt.toNat = k + 1 := ⟨ws.toInt.toNat - 1, by omega⟩
    rw [hk]
    unfold waiL
    obtain ⟨s1, s2, s3, s4⟩ := waiS_lt (T := T) (ws := ws) (t := t) (w := 1) hD hK (by decide) (by decide)
    have t276 : (276 : Int32).toInt = 276 := rfl
    rw [if_pos (Or.inr (Int32.lt_iff_toInt_lt.mpr (by rw [s1, t276]; omega))), if_pos (Or.inl (by decide))]
end CPAV
