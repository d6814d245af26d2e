/-! A WAY: the class's -/
/-- a WALKER alone: how its way goes on from a place, the CELLS so far; and where it ends -/
noncomputable def wlS (T : TS) (P : PK) (hb : Nat) (goal : Int32) : Nat → Int32 × Int32 × Int32 → List Int32 → List Int32 × Int32
  | 0, s, l => (l, s.1)
  | n + 1, s, l => if s.1 = goal then (l, s.1) else if choP (T 0) P (T hb) (s.1, goal, s.2.1, s.2.2, true) < 0 then (l, s.1) else wlS T P hb goal n (besP P s.1 (choP (T 0) P (T hb) (s.1, goal, s.2.1, s.2.2, true)), choP (T 0) P (T hb) (s.1, goal, s.2.1, s.2.2, true), s.1) (l ++ [besP P s.1 (choP (T 0) P (T hb) (s.1, goal, s.2.1, s.2.2, true))])
/-- the way from a DOOR to another one by a HABIT -/
noncomputable def wayL (T : TS) (P : PK) (a b h : Int32) : List Int32 × Int32 := wlS T P (h.toInt.toNat + 1) (P (3 + b.toInt.toNat)) 200 (P (3 + a.toInt.toNat), -1, -1) [P (3 + a.toInt.toNat)]
noncomputable def wayB (T : TS) (P : PK) (a b h : Int32) : Bool := decide ((wayL T P a b h).2 = P (3 + b.toInt.toNat))
def wyF (a k : Nat) : Prop := a = 137 ∨ (a = 104 ∧ (k = 8 ∨ k = 11))
def wyW (r a : Nat) : Prop := lkW a ∨ a = r
section CWAY
variable {e B L rw : Nat} {T T' : TS} {P P' P0 Q : PK} {PI : Nat → PK} {M M0 M1 M' : Mem} {v : Option Value} {c k d x a b h t y fr to hb go : Int32} {n i j hn : Nat} {l : List Int32} {F : Nat → Nat → Prop} {W O : Nat → Prop}
set_option maxRecDepth 200000 in
theorem rw_all : ((List.range 664).all (fun a => match gNth sT a with
  | some g => !(Nat.beq g 58) || (Nat.beq a 341 || Nat.beq a 342)
  | none => false)) = true := by decide +kernel
theorem rw_c (h : gNth sT rw = some 58) : rw = 341 ∨ rw = 342 := by
  have hl : rw < 664 := by
    have := gNth_lt _ _ _ h
    have e : sT.length = 664 := by decide +kernel
    omega
  have q := List.all_eq_true.mp rw_all rw (List.mem_range.mpr hl)
  rw [h] at q
  have q : (!(Nat.beq 58 58) || (Nat.beq rw 341 || Nat.beq rw 342)) = true := q
  have q : (Nat.beq rw 341 || Nat.beq rw 342) = true := q
  rw [Bool.or_eq_true] at q
  rcases q with q | q
  · exact Or.inl (Nat.eq_of_beq_eq_true q)
  · exact Or.inr (Nat.eq_of_beq_eq_true q)
theorem okF.wy (hr : gNth sT rw = some 58) : okF 8 wyF (wyW rw) noO := by
  have hc := rw_c hr
  refine ⟨⟨by unfold wyF; omega, by unfold wyF; omega⟩, fun t ht => ?_, ⟨fun q => q, fun q => q⟩, by unfold wyW lkW; omega, by unfold wyW lkW; omega, by unfold wyW lkW; omega⟩
  have := tx_cases ht
  refine ⟨fun k => by unfold wyF; omega, fun k k1 k8 q => ?_⟩
  rcases q with q | q
  · exact lk_tx ht k k1 k8 q
  · omega
/-- what stands while one goes alone -/
def AST (T : TS) (P : PK) (M : Mem) : Prop := CTX 8 T P M ∧ VC T P M ∧ zI M 104 8 = 1
theorem CTX.wy (h : CTX 8 T P M) (hr : gNth sT rw = some 58) (hS : SQ M') (hF : FZ wyF (wyW rw) noO M M') : CTX 8 T P M' := by
  have hc := rw_c hr
  refine h.mv hS hF (okF.wy hr) (fun k f hk hf => ?_) rfl rfl h.2.2.1 (fun c hc2 => ?_)
  · exact (hF.rn (by unfold wyW lkW; omega)).trans (h.1.2.2.2.2.2.2 k f hk hf)
  · have q : rI M' (8 + 8) c = rI M (8 + 8) c := hF.rn (by unfold wyW lkW; omega)
    exact q.trans (h.2.2.2.2.2.2.2 c hc2)
theorem CST.wy (h : CST T P PI M) (hr : gNth sT rw = some 58) (hS : SQ M') (hF : FZ wyF (wyW rw) noO M M') : CST T P PI M' := by
  have hc := rw_c hr
  refine h.scr hS hF ⟨by unfold wyF; omega, by unfold wyF; omega, by unfold wyF; omega⟩ (fun L hL _ => ⟨fun a k q1 q2 => ?_, fun a q1 q2 => ?_⟩) (fun t ht => ⟨fun k => ?_, fun k k1 k8 q => ?_⟩) ⟨fun q => q, fun q => q, fun q => q⟩ (fun _ _ _ q => q) (fun L hL => ⟨fun k hk => (hF.on (fun q => q)).trans ((h.2.2.2.2.2.1 L hL).1 k hk), (h.2.2.2.2.2.1 L hL).2.on (fun j => hF.on (fun q => q))⟩) (h.2.2.2.2.1.fz hF (by unfold wyF; omega) (by unfold wyF; omega) (fun a _ _ => by unfold wyW lkW; omega)) (by unfold wyW lkW; omega)
  · have := ld_cases hL
    unfold wyF
    omega
  · have := ld_cases hL
    unfold wyW lkW
    omega
  · have := tx_cases ht
    unfold wyF
    omega
  · have := tx_cases ht
    rcases q with q | q
    · exact lk_tx ht k k1 k8 q
    · omega
theorem arv_e (hr : gNth sT rw = some 58) {g0 : Bool} (hA : CTX 8 T P M) (hV : VC T P M) {c7 : Option Value} {here : Int32} (h0 : zI M 137 0 = here) (H : Ev none e 65 154 [some (.ref 104), some (.int fr), some (.int to), some (.int hb), some (.ref rw), some (.int go), some (.int t), c7] [] M v M' 0 0) : v = some (.int (bI (decide (here = go)))) ∧ M' = wF M 104 8 0 := by
  rcases arv_154 hA.1.1 hr H with ⟨a1, r1, r2⟩ | ⟨a1, r1, r2⟩
  · rw [h0] at a1
    rw [decide_eq_true a1]
    exact ⟨r1, r2⟩
  · rw [h0] at a1
    rw [decide_eq_false a1]
    exact ⟨r1, r2⟩
theorem arv_l (hr : gNth sT rw = some 58) (hh : hb.toInt = (hn : Int)) (h6 : hn < 6) (hgo : inC P go) : ∀ (r k : Nat) (nz : Int32) (here w cf : Int32) (l : List Int32) (c7 : Option Value) (M : Mem), CTX 8 T P M → VC T P M → zI M 104 8 = 1 → inC P here → -1 ≤ w.toInt → zI M 137 0 = here → zI M 137 4 = w → zI M 137 3 = cf → nz.toInt = (k : Int) → k + r = 200 → (zI M 104 11).toInt = (k : Int) → l.length = k + 1 → (∀ j y, l[j]? = some y → rN M rw j = y) → Ev none e 65 52 [some (.ref 104), some (.int fr), some (.int to), some (.int hb), some (.ref rw), some (.int go), some (.int nz), c7] [] M v M' 0 0 → v = some (.int (bI (decide ((wlS T P (hn + 1) go r (here, w, cf) l).2 = go)))) ∧ SQ M' ∧ FZ wyF (wyW rw) noO M M' ∧ CTX 8 T P M' ∧ VC T P M' ∧ zI M' 104 8 = 0 ∧ (zI M' 104 11).toInt + 1 = ((wlS T P (hn + 1) go r (here, w, cf) l).1.length : Int) ∧ (∀ j y, (wlS T P (hn + 1) go r (here, w, cf) l).1[j]? = some y → rN M' rw j = y) := by
  have hrc := rw_c hr
  have z200 : (200 : Int32).toInt = 200 := rfl
  have fin : ∀ (M : Mem) (here : Int32) (l : List Int32) (nz : Int32) (c7 : Option Value) (k : Nat), CTX 8 T P M → VC T P M → zI M 137 0 = here → (zI M 104 11).toInt = (k : Int) → l.length = k + 1 → (∀ j y, l[j]? = some y → rN M rw j = y) → Ev none e 65 154 [some (.ref 104), some (.int fr), some (.int to), some (.int hb), some (.ref rw), some (.int go), some (.int nz), c7] [] M v M' 0 0 → v = some (.int (bI (decide (here = go)))) ∧ SQ M' ∧ FZ wyF (wyW rw) noO M M' ∧ CTX 8 T P M' ∧ VC T P M' ∧ zI M' 104 8 = 0 ∧ (zI M' 104 11).toInt + 1 = (l.length : Int) ∧ (∀ j y, l[j]? = some y → rN M' rw j = y) := fun M here l nz c7 k hX hV h0 hs hl hrow H => by
    obtain ⟨r1, r2⟩ := arv_e (g0 := true) hr hX hV h0 H
    have hF : FZ wyF (wyW rw) noO M M' := by rw [r2]; exact FZ.wF (Or.inr ⟨rfl, Or.inl rfl⟩)
    have hS : SQ M' := by rw [r2]; exact hX.1.1.kf
    refine ⟨r1, hS, hF, hX.wy hr hS hF, ?_, by rw [r2]; exact fI_wF_eq hX.1.1.1 qa_104 qi_22_8, ?_, fun j y hj => ?_⟩
    · rw [r2]
      exact hV.mv rfl rfl (fun _ _ => rfl) (fun b j _ => rN_wF)
    · rw [r2, fI_wF_ne (by decide)]
      omega
    · rw [r2, rN_wF]
      exact hrow j y hj
  intro r
  induction r with
  | zero =>
    intro k nz here w cf l c7 M hX hV ha hin hw h0 h4 h3 hk hkr hs hl hrow H
    rcases arv_52 hX.1.1 hr H with ⟨_, H⟩ | ⟨a1, _⟩ | ⟨a1, _⟩
    · exact fin M here l nz c7 k hX hV h0 hs hl hrow H
    all_goals exact absurd (Int32.le_iff_toInt_le.mpr (by omega)) a1
  | succ r ih =>
    intro k nz here w cf l c7 M hX hV ha hin hw h0 h4 h3 hk hkr hs hl hrow H
    unfold wlS
    rcases arv_52 hX.1.1 hr H with ⟨a1, _⟩ | ⟨_, a1, H⟩ | ⟨_, a1, e1, v1, M1, _, H1, H⟩
    · have := Int32.le_iff_toInt_le.mp a1
      omega
    · rw [h0] at a1
      rw [if_pos a1]
      exact fin M here l nz c7 k hX hV h0 hs hl hrow H
    · rw [h0] at a1
      dsimp only
      rw [if_neg a1]
      obtain ⟨rv, S1, F1, V1⟩ := chos_ok (al := true) hX hV hh h6 hgo (by rw [h0]; exact hin) ha (by rw [h4]; exact hw) H1
      rw [h0, h4, h3] at rv
      obtain ⟨dd, edd⟩ : ∃ dd, dd = choP (T 0) P (T (hn + 1)) (here, go, w, cf, true) := ⟨_, rfl⟩
      rw [← edd] at rv ⊢
      rw [rv] at H
      have X1 : CTX 8 T P M1 := hX.lk S1 F1
      have lk : ∀ b, ¬ lkW b → ∀ j, rN M1 b j = rN M b j := fun b hb j => F1.rn hb
      have zs : ∀ a k, zI M1 a k = zI M a k := fun a k => F1.fi (fun q => q)
      have nrw : ¬ lkW rw := by unfold lkW; omega
      have tm : (-1 : Int32).toInt = -1 := rfl
      have z0 : (0 : Int32).toInt = 0 := rfl
      have hcr := cho_rng (g := T 0) (P := P) (q := T (hn + 1)) (w := (here, go, w, cf, true)) hgo.1
      rw [← edd] at hcr
      have F1w : FZ wyF (wyW rw) noO M M1 := F1.more (fun _ _ q => q.elim) (fun _ q => Or.inl q) (fun _ q => q)
      rcases arv_83 S1 hr H with ⟨b1, H⟩ | ⟨b1, _, _, H⟩
      · have hlt : dd < 0 := by rw [b1]; decide
        rw [if_pos hlt]
        obtain ⟨u1, u2, u3, u4, u5, u6, u7, u8⟩ := fin M1 here l nz _ k X1 V1 ((zs _ _).trans h0) (by rw [zs]; exact hs) hl (fun j y hj => (lk rw nrw j).trans (hrow j y hj)) H
        exact ⟨u1, u2, F1w.trans u3, u4, u5, u6, u7, u8⟩
      · have hd : 0 ≤ dd.toInt ∧ dd.toInt < 8 ∧ ¬ besP P here dd < 0 := hcr.resolve_left b1
        have hnl : ¬ dd < 0 := fun q => by
          have := Int32.lt_iff_toInt_lt.mp q
          omega
        rw [if_neg hnl]
        have hbe : inC P (besP P here dd) := (besP_in hX.2.1 hin).resolve_left (fun q => hd.2.2 (by rw [q]; decide))
        have er : rI M1 108 (8 * zI M1 137 0 + dd) = besP P here dd := by
          rw [zs, h0]
          exact (X1.2.2.2.2.1 here hin).2.2 dd hd.1 hd.2.1
        rw [er] at H
        obtain ⟨N, eN⟩ : ∃ N, N = X_74s M1 (besP P here dd) dd := ⟨_, rfl⟩
        rw [← eN] at H
        have SN : SQ N := by rw [eN]; exact X_74s_sx S1
        have q137 : gNth sT 137 = some 40 := qa_137
        have n0 : zI N 137 0 = besP P here dd := by
          rw [eN]
          unfold X_74s
          rw [fI_wF_ne (by decide)]
          exact fI_wF_eq S1.kf.1 q137 qi_40_0
        have n4 : zI N 137 4 = dd := by
          rw [eN]
          unfold X_74s
          exact fI_wF_eq S1.kf.kf.1 q137 qi_40_4
        have n3 : zI N 137 3 = here := by
          rw [eN]
          unfold X_74s
          rw [fI_wF_ne (by decide), fI_wF_ne (by decide), fI_wF_eq S1.1 q137 qi_40_3, zs, h0]
        have FN : FZ wyF (wyW rw) noO M1 N := by
          rw [eN]
          unfold X_74s
          exact ((FZ.wF (F := wyF) (Or.inl rfl)).trans (FZ.wF (Or.inl rfl))).trans (FZ.wF (Or.inl rfl))
        have n11 : zI N 104 11 = zI M 104 11 := by
          rw [eN]
          unfold X_74s
          rw [fI_wF_ne (by decide), fI_wF_ne (by decide), fI_wF_ne (by decide), zs]
        have n8 : zI N 104 8 = 1 := by
          rw [eN]
          unfold X_74s
          rw [fI_wF_ne (by decide), fI_wF_ne (by decide), fI_wF_ne (by decide), zs]
          exact ha
        rw [n0, n11] at H
        have k1 : (zI M 104 11 + 1).toInt = ((k + 1 : Nat) : Int) := by rw [i32_p1 (by omega)]; omega
        rw [cl_n k1] at H
        obtain ⟨N2, eN2⟩ : ∃ N2, N2 = wI (wF N 104 11 (zI M 104 11 + 1)) rw (k + 1) (besP P here dd) := ⟨_, rfl⟩
        rw [← eN2] at H
        have S2 : SQ N2 := by rw [eN2]; exact SN.kf.ki
        have F2 : FZ wyF (wyW rw) noO N N2 := by
          rw [eN2]
          exact (FZ.wF (F := wyF) (Or.inr ⟨rfl, Or.inr rfl⟩)).trans (FZ.wI (Or.inr rfl))
        have FF : FZ wyF (wyW rw) noO M N2 := (F1w.trans FN).trans F2
        have z2 : ∀ k, k ≠ 11 → zI N2 104 k = zI N 104 k := fun k hk => by rw [eN2, fI_wI, fI_wF_ne (fun q => hk q.2)]
        have z3 : ∀ k, zI N2 137 k = zI N 137 k := fun k => by rw [eN2, fI_wI, fI_wF_ne (fun q => absurd q.1 (by decide))]
        have rN2 : ∀ b j, ¬ (b = rw ∧ j = k + 1) → rN N2 b j = rN M1 b j := fun b j hb => by
          rw [eN2, rN_wI_ne hb, rN_wF, eN]
          unfold X_74s
          rw [rN_wF, rN_wF, rN_wF]
        have len : (zrw (wF N 104 11 (zI M 104 11 + 1)) rw).length = 201 := (SN.kf.1.row hr qw_58).2
        have V2 : VC T P N2 := V1.mv rfl rfl (fun _ _ => rfl) (fun b j hb => rN2 b j (fun q => nrw (q.1 ▸ hb)))
        obtain ⟨u1, u2, u3, u4, u5, u6, u7, u8⟩ := ih (k + 1) (nz + 1) (besP P here dd) dd here (l ++ [besP P here dd]) _ N2 (hX.wy hr S2 FF) V2 ((z2 8 (by decide)).trans n8) hbe (by omega) ((z3 0).trans n0) ((z3 4).trans n4) ((z3 3).trans n3) (by rw [i32_p1 (by omega)]; omega) (by omega) (by rw [eN2, fI_wI, fI_wF_eq SN.1 qa_104 qi_22_11]; exact k1) (by rw [List.length_append]; simp; omega) (fun j y hj => by
          rcases Nat.lt_or_ge j l.length with hlt | hge
          · rw [List.getElem?_append_left hlt] at hj
            rw [rN2 rw j (fun q => by omega), lk rw nrw]
            exact hrow j y hj
          · rw [List.getElem?_append_right hge] at hj
            have hj0 : j - l.length = 0 := by
              rcases Nat.eq_zero_or_pos (j - l.length) with q | q
              · exact q
              · rw [List.getElem?_eq_none (by simp; omega)] at hj
                cases hj
            have ejk : j = k + 1 := by omega
            rw [hj0] at hj
            cases hj
            rw [ejk, eN2]
            exact rN_wI_eq (by omega)) H
        exact ⟨u1, u2, FF.trans u3, u4, u5, u6, u7, u8⟩
/-- a way, from DOOR to DOOR -/
theorem arv_ok (hC : CST T P PI M) (hX : STA 8 T P M) (hr : gNth sT rw = some 58) (hh : inX hb 0 5) (ha : inD P fr) (hb2 : inD P to) (H : Ev none e 65 0 [some (.ref 104), some (.int fr), some (.int to), some (.int hb), some (.ref rw), none, none, none] [] M v M' 0 0) : v = some (.int (bI (wayB T P fr to hb))) ∧ CST T P PI M' ∧ STA 8 T P M' ∧ FZ wyF (wyW rw) noO M M' ∧ (zI M' 104 11).toInt + 1 = ((wayL T P fr to hb).1.length : Int) ∧ ∀ j y, (wayL T P fr to hb).1[j]? = some y → rN M' rw j = y := by
  have hrc := rw_c hr
  have hD := hC.ok.1
  have hA := hC.lan
  have f0 := ha.1
  have f1 := ha.2
  have t0 := hb2.1
  have t1 := hb2.2
  have hb0 : 0 ≤ hb.toInt := hh.1
  have hb5 : hb.toInt ≤ 5 := hh.2
  obtain ⟨_, _, _, H⟩ := arv_0 hX.sq hr hX.lw H
  have dr : ∀ z : Int32, inD P z → rI M (8 + 9) z = P (3 + z.toInt.toNat) ∧ inC P (P (3 + z.toInt.toNat)) := fun z hz => by
    have h1 := hz.1
    have h2 := hz.2
    exact ⟨(rI_n (p := z.toInt.toNat) (by omega)).trans (hA.1.2.2.1.2 z.toInt.toNat (by omega)), hD.2.1.2.2 z.toInt.toNat (by omega)⟩
  obtain ⟨er, ir⟩ := dr fr ha
  obtain ⟨et, it⟩ := dr to hb2
  rw [er, et] at H
  obtain ⟨N, eN⟩ : ∃ N, N = X_73s (wF (wF M 104 8 1) 104 11 0) (P (3 + fr.toInt.toNat)) (-1) := ⟨_, rfl⟩
  rw [← eN] at H
  have SN : SQ N := by rw [eN]; exact X_73s_sx hX.sq.kf.kf
  have S0 := hX.sq.kf (a := 104) (k := 8) (x := 1)
  have S1 := S0.kf (a := 104) (k := 11) (x := 0)
  have q137 : gNth sT 137 = some 40 := qa_137
  have n0 : zI N 137 0 = P (3 + fr.toInt.toNat) := by
    rw [eN]
    unfold X_73s
    rw [fI_wF_ne (by decide), fI_wF_ne (by decide), fI_wF_ne (by decide), fI_wF_ne (by decide)]
    exact fI_wF_eq S1.1 q137 qi_40_0
  have n3 : zI N 137 3 = -1 := by
    rw [eN]
    unfold X_73s
    rw [fI_wF_ne (by decide)]
    exact fI_wF_eq S1.kf.kf.kf.1 q137 qi_40_3
  have n4 : zI N 137 4 = -1 := by
    rw [eN]
    unfold X_73s
    exact fI_wF_eq S1.kf.kf.kf.kf.1 q137 qi_40_4
  have n11 : zI N 104 11 = 0 := by
    rw [eN]
    unfold X_73s
    rw [fI_wF_ne (by decide), fI_wF_ne (by decide), fI_wF_ne (by decide), fI_wF_ne (by decide), fI_wF_ne (by decide)]
    exact fI_wF_eq S0.1 qa_104 qi_22_11
  have n8 : zI N 104 8 = 1 := by
    rw [eN]
    unfold X_73s
    rw [fI_wF_ne (by decide), fI_wF_ne (by decide), fI_wF_ne (by decide), fI_wF_ne (by decide), fI_wF_ne (by decide), fI_wF_ne (by decide)]
    exact fI_wF_eq hX.sq.1 qa_104 qi_22_8
  have FN : FZ wyF (wyW rw) noO M N := by
    rw [eN]
    unfold X_73s
    exact ((((((FZ.wF (F := wyF) (Or.inr ⟨rfl, Or.inl rfl⟩)).trans (FZ.wF (Or.inr ⟨rfl, Or.inr rfl⟩))).trans (FZ.wF (Or.inl rfl))).trans (FZ.wF (Or.inl rfl))).trans (FZ.wF (Or.inl rfl))).trans (FZ.wF (Or.inl rfl))).trans (FZ.wF (Or.inl rfl))
  rw [n0] at H
  have i0 : (0 : Int32).toNatClampNeg = 0 := rfl
  rw [i0] at H
  obtain ⟨N2, eN2⟩ : ∃ N2, N2 = wI N rw 0 (P (3 + fr.toInt.toNat)) := ⟨_, rfl⟩
  rw [← eN2] at H
  have S2 : SQ N2 := by rw [eN2]; exact SN.ki
  have F2 : FZ wyF (wyW rw) noO N N2 := by rw [eN2]; exact FZ.wI (Or.inr rfl)
  have FF := FN.trans F2
  have z2 : ∀ a k, zI N2 a k = zI N a k := fun a k => by rw [eN2, fI_wI]
  have rN2 : ∀ b j, b ≠ rw → rN N2 b j = rN M b j := fun b j hb => by
    rw [eN2, rN_wI_ne (fun q => hb q.1), eN]
    unfold X_73s
    rw [rN_wF, rN_wF, rN_wF, rN_wF, rN_wF, rN_wF, rN_wF]
  have len : (zrw N rw).length = 201 := (SN.1.row hr qw_58).2
  have nrw : ¬ lkW rw := by unfold lkW; omega
  have X2 := hX.1.wy hr S2 FF
  have V2 : VC T P N2 := hX.2.1.mv rfl rfl (fun _ _ => rfl) (fun b j hb => rN2 b j (fun q => nrw (q ▸ hb)))
  obtain ⟨u1, u2, u3, u4, u5, u6, u7, u8⟩ := arv_l hr (hn := hb.toInt.toNat) (by omega) (by omega) it 200 0 0 (P (3 + fr.toInt.toNat)) (-1) (-1) [P (3 + fr.toInt.toNat)] none N2 X2 V2 ((z2 _ _).trans n8) ir (by decide) ((z2 _ _).trans n0) ((z2 _ _).trans n4) ((z2 _ _).trans n3) rfl rfl (by rw [z2, n11]; rfl) rfl (fun j y hj => by
    cases j with
    | zero =>
      cases hj
      rw [eN2]
      exact rN_wI_eq (by omega)
    | succ j => cases hj) H
  have F9 := FF.trans u3
  have hl := ld_cases hX.ld
  refine ⟨u1, hC.wy hr u2 F9, ⟨u4, u5, ?_, ?_, fun k hk => (F9.on (fun q => q)).trans (hX.2.2.2.2.1 k hk), hX.2.2.2.2.2.1.on (fun j => F9.on (fun q => q)), u6⟩, F9, u7, u8⟩
  · exact hX.2.2.1.mv F9 (by unfold wyF; omega) (by unfold wyF; omega) (by unfold wyF; omega) (by unfold wyF; omega) (fun k f _ => by unfold wyF; omega) (by unfold wyW lkW; omega) (fun _ _ => rfl) hD.2.1.2.1 hD.2.2.2.1
  · have q := hX.2.2.2.1
    exact ⟨(F9.fi (by unfold wyF; omega)).trans q.1, (F9.fi (by unfold wyF; omega)).trans q.2.1, (F9.fi (by unfold wyF; omega)).trans q.2.2.1, (F9.fi (by unfold wyF; omega)).trans q.2.2.2⟩
end CWAY
