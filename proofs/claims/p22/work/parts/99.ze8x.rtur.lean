/-! THE REFERENCE'S turns, paved, wait -/
def pavN (w ws t wh : Int32) : Prop := ¬ inX ws 1 20 ∨ ¬ inX w 1 ws ∨ ¬ inX t 1 200 ∨ ¬ inX wh 0 2
noncomputable def pavA (T : TS) (P : PK) (w ws t wh : Int32) : Int32 := if wh = 0 then nwP (T 0) (wkN T t.toInt.toNat w.toInt.toNat P) else if wh = 1 then aloP2 (T 0) (wkN T t.toInt.toNat w.toInt.toNat P) (wkN T t.toInt.toNat ws.toInt.toNat P) (clsP P) 0 0 else aloP2 (T 0) (wkN T t.toInt.toNat ws.toInt.toNat P) (wkN T t.toInt.toNat w.toInt.toNat P) (clsP P) 0 0
def waiN (ws t : Int32) : Prop := ¬ inX ws 1 20 ∨ ¬ inX t 1 200
noncomputable def waiS (T : TS) (P : PK) (ws t w : Int32) : Int32 := pavA T P w ws t 1 + pavA T P w ws t 2 + w
noncomputable def waiL (T : TS) (P : PK) (ws t : Int32) : Nat → Int32 → Int32 → Int32 → Int32
  | 0, _, be, _ => be
  | r + 1, w, be, le => if be < 0 ∨ waiS T P ws t w < le then waiL T P ws t r (w + 1) w (waiS T P ws t w) else waiL T P ws t r (w + 1) be le
section RTUR
variable {e B L i j n tn wn hn : Nat} {T T' : TS} {P P' P0 Q A Z : PK} {PI : Nat → PK} {M M0 M1 M' : Mem} {v : Option Value} {x y k d h w ws t m wh : Int32} {q : TQ} {l : Lnq} {ls : List Lnq}
theorem RST.num (h : RST T P M) (n1 : 1 ≤ n) (n7 : n < 7) (hi : (T n).2[i]? = some l) (h5 : l.1 = 5) (h0 : 0 ≤ x.toInt) (h9 : x.toInt ≤ 99) : RST (setT T n i x) P (wI M 642 (16 * n + i) x) := by
  obtain ⟨a1, a2, a3, a4⟩ := h
  have len : (zrw M 642).length = 128 := (a1.1.row qa_642 qw_70).2
  refine ⟨a1.ki, fun j hj => (rN_wI_ne (by omega)).trans (a2 j hj), ?_, fun s hs => ?_⟩
  · rw [fI_wI, fI_wI, fI_wI, setT_o (by omega)]
    exact a3
  · obtain ⟨⟨⟨⟨b1, b2, b3⟩, b4⟩, b5⟩, b6⟩ := a4 s hs
    by_cases hsn : s = n
    · subst hsn
      rw [setT_h]
      have hi16 : i < 16 := by
        have := (List.getElem?_eq_some_iff.mp hi).1
        omega
      refine ⟨⟨⟨⟨by rw [rN_wI_ne (by omega), lnN_len]; exact b1, by rw [lnN_len]; exact b2, fun j b hj => ?_⟩, fun j c hj hc => ?_⟩, lnN_lw b5 hi h5 h0 h9⟩, b6⟩
      · obtain ⟨l0, e0, e1⟩ := lnN_of hj
        obtain ⟨d1, d2, d3, d4, d5⟩ := b3 j l0 e0
        rw [rN_wI_ne (by omega), rN_wI_ne (by omega), rN_wI_ne (a := 642) (b := 643) (by omega), rN_wI_ne (a := 642) (b := 644) (by omega)]
        rw [e1]
        by_cases hij : i = j
        · rw [if_pos hij, ← hij, rN_wI_eq (by omega)]
          rw [← hij] at d1 d2 d4 d5
          exact ⟨d1, d2, rfl, d4, d5⟩
        · rw [if_neg hij, rN_wI_ne (by omega)]
          exact ⟨d1, d2, d3, d4, d5⟩
      · rw [rN_wI_ne (by omega), rN_wI_ne (by omega), rN_wI_ne (by omega)]
        exact b4 j c hj hc
    · rw [setT_o hsn]
      have hi16 : i < 16 := by
        have h1 := (List.getElem?_eq_some_iff.mp hi).1
        have h2 := (a4 n n7).1.1.1.2.1
        omega
      refine ⟨⟨⟨⟨by rw [rN_wI_ne (by omega)]; exact b1, b2, fun j b hj => ?_⟩, fun j c hj hc => ?_⟩, b5⟩, b6⟩
      · have hj16 : j < 16 := by
          have := (List.getElem?_eq_some_iff.mp hj).1
          omega
        rw [rN_wI_ne (by omega), rN_wI_ne (by omega), rN_wI_ne (by omega), rN_wI_ne (by omega), rN_wI_ne (by omega)]
        exact b3 j b hj
      · rw [rN_wI_ne (by omega), rN_wI_ne (by omega), rN_wI_ne (by omega)]
        exact b4 j c hj hc
theorem trq_f (hR : RST T P M) (hh : h.toInt = (hn : Int)) (hn6 : hn < 6) : ∀ (r k : Nat) (kz : Int32), kz.toInt = ((16 * (hn + 1) + k : Nat) : Int) → k + r = (T (hn + 1)).2.length → Ev none e 229 47 [some (.ref 633), some (.int h), some (.int w), some (.int t), some (.int m), some (.int (-1)), some (.int kz), none, none, none] [] M v M' 0 0 → (fwR (T (hn + 1)).2 r k = none ∧ v = some (.int (-1)) ∧ M' = M) ∨ ∃ i, fwR (T (hn + 1)).2 r k = some i ∧ ∃ y : Int32, y.toInt = ((16 * (hn + 1) + i : Nat) : Int) ∧ Ev none e 229 127 [some (.ref 633), some (.int h), some (.int w), some (.int t), some (.int m), some (.int y), some (.int (rI M 642 y)), some (.int (-1)), some (.int 0), none] [] M v M' 0 0 := by
  obtain ⟨⟨⟨⟨b1, b2, b3⟩, b4⟩, b5⟩, b6⟩ := hR.2.2.2 (hn + 1) (by omega)
  have z1 : (1 : Int32).toInt = 1 := rfl
  have z16 : (16 : Int32).toInt = 16 := rfl
  have h1 : (1 + h).toInt = ((hn + 1 : Nat) : Int) := by rw [i32_add (by omega) (by omega)]; omega
  have m16 : (16 * (1 + h)).toInt = 16 * (1 + h).toInt := i32_mul (by rw [z16]; omega) (by rw [z16]; omega)
  have er : (rI M 639 (1 + h)).toInt = ((T (hn + 1)).2.length : Int) := by rw [rI_n h1]; exact b1
  have eb : (16 * (1 + h) + rI M 639 (1 + h)).toInt = 16 * (hn + 1 : Nat) + ((T (hn + 1)).2.length : Int) := by rw [i32_add (by omega) (by omega)]; omega
  have t1 : (-1 : Int32).toInt = -1 := rfl
  have no : ¬ (0 : Int32) ≤ -1 := by decide
  intro r
  induction r with
  | zero =>
    intro k kz hz hk H
    have nb : (16 * (1 + h) + rI M 639 (1 + h)) ≤ kz := Int32.le_iff_toInt_le.mpr (by omega)
    rcases trq_47 hR.1 H with ⟨_, _, H⟩ | ⟨a1, _⟩ | ⟨a1, _⟩ | ⟨a1, _⟩ | ⟨a1, _⟩
    · rcases trq_105 hR.1 H with ⟨q, _⟩ | ⟨_, r1, r2⟩
      · exact absurd q no
      · exact Or.inl ⟨rfl, r1, r2⟩
    all_goals exact absurd nb a1
  | succ r ih =>
    intro k kz hz hk H
    obtain ⟨l, hl⟩ : ∃ l, (T (hn + 1)).2[k]? = some l := ⟨_, List.getElem?_eq_getElem (by omega)⟩
    obtain ⟨d1, d2, _⟩ := b3 k l hl
    have e1 : rI M 640 kz = l.1 := (rI_n hz).trans d1
    have e2 : rI M 641 kz = l.2.1 := (rI_n hz).trans d2
    have zk : (kz + 1).toInt = ((16 * (hn + 1) + (k + 1) : Nat) : Int) := by rw [i32_p1 (by omega)]; omega
    unfold fwR
    rw [hl]
    dsimp only
    rcases trq_47 hR.1 H with ⟨c, _⟩ | ⟨_, c, _⟩ | ⟨_, _, c1, c2, _, _, _, H⟩ | ⟨_, _, c1, c2, _, _, _, H⟩ | ⟨_, _, c1, _, _, H⟩
    · have := Int32.le_iff_toInt_le.mp c
      omega
    · exact absurd c no
    · rw [e1] at c1
      rw [e2] at c2
      rw [if_pos c1, if_pos c2]
      have pos : (0 : Int32) ≤ kz := Int32.le_iff_toInt_le.mpr (by have z0 : (0 : Int32).toInt = 0 := rfl; omega)
      have fi : Ev none e 229 105 [some (.ref 633), some (.int h), some (.int w), some (.int t), some (.int m), some (.int kz), some (.int (kz + 1)), none, none, none] [] M v M' 0 0 → Ev none e 229 127 [some (.ref 633), some (.int h), some (.int w), some (.int t), some (.int m), some (.int kz), some (.int (rI M 642 kz)), some (.int (-1)), some (.int 0), none] [] M v M' 0 0 := fun H => by
        rcases trq_105 hR.1 H with ⟨_, _, H⟩ | ⟨q, _⟩
        · exact H
        · exact absurd pos q
      refine Or.inr ⟨k, rfl, kz, hz, ?_⟩
      rcases trq_47 hR.1 H with ⟨_, _, H⟩ | ⟨_, _, _, H⟩ | ⟨_, q, _⟩ | ⟨_, q, _⟩ | ⟨_, q, _⟩
      · exact fi H
      · exact fi H
      all_goals exact absurd pos q
    · rw [e1] at c1
      rw [e2] at c2
      rw [if_pos c1, if_neg c2]
      exact ih (k + 1) (kz + 1) zk (by omega) H
    · rw [e1] at c1
      rw [if_neg c1]
      exact ih (k + 1) (kz + 1) zk (by omega) H
theorem trq_w (hw : w.toInt = (wn : Int)) (ht : t.toInt = (tn : Int)) {xx was f nz : Int32} : ∀ (s : Nat) (jz : Int32) (Q : PK) (M : Mem), RTR T' Q P0 M → 0 ≤ jz.toInt → jz.toInt + (s : Int) = (wn : Int) → Ev none e 229 155 [some (.ref 633), some (.int h), some (.int w), some (.int t), some (.int m), some (.int xx), some (.int was), some (.int f), some (.int nz), some (.int jz)] [] M v M' 0 0 → ∃ M2 jz2, RTR T' (wkN T' tn s Q) P0 M2 ∧ Ev none e 229 176 [some (.ref 633), some (.int h), some (.int w), some (.int t), some (.int m), some (.int xx), some (.int was), some (.int f), some (.int nz), some (.int jz2)] [.int (nwP (T' 0) (wkN T' tn s Q))] M2 v M' 0 0 := by
  intro s
  induction s with
  | zero =>
    intro jz Q M hR h0 hk H
    rcases trq_155 hR.1.1 H with ⟨_, e1, v1, M1, _, H1, H⟩ | ⟨a1, _⟩
    · obtain ⟨rm, rv⟩ := rwmn_ok hR.1 hR.2.1.1 H1
      rw [rm, rv] at H
      exact ⟨M, jz, hR, H⟩
    · exact absurd (Int32.le_iff_toInt_le.mpr (by omega)) a1
  | succ s ih =>
    intro jz Q M hR h0 hk H
    have ub := i32_any w
    rcases trq_155 hR.1.1 H with ⟨a1, _⟩ | ⟨_, e1, v1, M1, _, H1, H⟩
    · have := Int32.le_iff_toInt_le.mp a1
      omega
    · obtain ⟨rv, q1, _⟩ := rgo_ok hR ht H1
      rw [rv] at H
      exact ih (jz + 1) _ M1 q1 (by rw [i32_p1 (by omega)]; omega) (by rw [i32_p1 (by omega)]; omega) (trq_166 q1.1.1 H)
theorem trq_l (hw : w.toInt = (wn : Int)) (ht : t.toInt = (tn : Int)) (hn6 : hn < 6) (hD : okD P) (hK : okK P) {xx : Int32} (hi : (T (hn + 1)).2[i]? = some l) (h5 : l.1 = 5) (hx : xx.toInt = ((16 * (hn + 1) + i : Nat) : Int)) (hLW : LW (T (hn + 1))) : ∀ (r : Nat) (nz y : Int32) (c9 : Option Value) (M : Mem), RST (setT T (hn + 1) i y) P M → (∃ b, zI M 633 42 = bI b) → 0 ≤ nz.toInt → nz.toInt + (r : Int) = 10 → Ev none e 229 127 [some (.ref 633), some (.int h), some (.int w), some (.int t), some (.int m), some (.int xx), some (.int l.2.2.1), some (.int (-1)), some (.int nz), c9] [] M v M' 0 0 → v = some (.int (turL T (hn + 1) i tn wn m P r nz)) ∧ RST T P M' := by
  have z10 : (10 : Int32).toInt = 10 := rfl
  have nl := (hLW l (List.mem_of_getElem? hi)).1
  have fin : ∀ (y : Int32) (M : Mem), RST (setT T (hn + 1) i y) P M → M' = wI M 642 xx.toNatClampNeg l.2.2.1 → RST T P M' := fun y M hC eM => by
    have q := hC.num (n := hn + 1) (x := l.2.2.1) (by omega) (by omega) (by rw [setT_h]; exact lnN_at hi) (by rw [if_pos rfl]; exact h5) nl.1 (nl.2.2.1 h5).1
    rw [setT_2, setT_self hi] at q
    rw [eM, cl_n hx]
    exact q
  intro r
  induction r with
  | zero =>
    intro nz y c9 M hC hb h0 hr H
    rcases trq_127 hC.1 H with ⟨_, _, r1, r2⟩ | ⟨a1, _⟩ | ⟨a1, _⟩
    · exact ⟨r1, fin y M hC r2⟩
    all_goals exact absurd (Int32.le_iff_toInt_le.mpr (by omega)) a1
  | succ r ih =>
    intro nz y c9 M hC hb h0 hr H
    rcases trq_127 hC.1 H with ⟨a1, _⟩ | ⟨_, a1, _⟩ | ⟨_, _, _, e1, v1, M1, _, H1, H⟩
    · have := Int32.le_iff_toInt_le.mp a1
      omega
    · exact absurd a1 (by decide)
    · rw [cl_n hx] at H1
      have C1 := hC.num (n := hn + 1) (x := nz) (by omega) (by omega) (by rw [setT_h]; exact lnN_at hi) (by rw [if_pos rfl]; exact h5) h0 (by omega)
      rw [setT_2] at C1
      obtain ⟨rv, q1, _⟩ := RTR.mk0 C1 hD hK (by obtain ⟨b, hb⟩ := hb; exact ⟨b, by rw [fI_wI]; exact hb⟩) H1
      rw [rv] at H
      obtain ⟨M2, jz2, q2, H⟩ := trq_w hw ht wn 0 P M1 q1 (by decide) (by have z0 : (0 : Int32).toInt = 0 := rfl; omega) (trq_152 q1.1.1 H)
      rw [setT_o (by omega)] at H
      obtain ⟨b2, hb2⟩ := q2.2.2.2.1
      unfold turL
      rcases trq_176 q2.1.1 H with ⟨b1, e3, v3, M3, _, H3, H⟩ | ⟨b1, e3, v3, M3, _, H3, H⟩
      · rw [if_neg (fun q => by
          have := Int32.le_iff_toInt_le.mp q
          have := Int32.lt_iff_toInt_lt.mp b1
          omega)]
        obtain ⟨rv3, q3, F3⟩ := q2.bk H3
        rw [rv3] at H
        exact ih (nz + 1) nz _ M3 q3 ⟨b2, (F3.fi (fun q => q)).trans hb2⟩ (by rw [i32_p1 (by omega)]; omega) (by rw [i32_p1 (by omega)]; omega) (trq_189 q3.1 H)
      · rw [if_pos (Int32.le_iff_toInt_le.mpr (by
          have : ¬ m.toInt < (nwP (T 0) (wkN (setT T (hn + 1) i nz) tn wn P)).toInt := fun q => b1 (Int32.lt_iff_toInt_lt.mpr q)
          omega))]
        obtain ⟨rv3, q3, F3⟩ := q2.bk H3
        rw [rv3] at H
        have pos : (0 : Int32) ≤ nz := Int32.le_iff_toInt_le.mpr (by have z0 : (0 : Int32).toInt = 0 := rfl; omega)
        rcases trq_127 q3.1 (trq_189 q3.1 H) with ⟨_, _, r1, r2⟩ | ⟨_, _, _, r1, r2⟩ | ⟨_, q, _⟩
        · exact ⟨r1, fin nz M3 q3 r2⟩
        · exact ⟨r1, fin nz M3 q3 r2⟩
        · exact absurd pos q
theorem rturns_ok (hR : RST T P M) (hD : okD P) (hK : okK P) (hb : ∃ b, zI M 633 42 = bI b) (H : Ev none e 229 0 [some (.ref 633), some (.int h), some (.int w), some (.int t), some (.int m), none, none, none, none, none] [] M v M' 0 0) : RST T P M' ∧ ((turN h w t ∧ v = some (.int (-2))) ∨ (¬ turN h w t ∧ v = some (.int (turA T P h w t m)))) := by
  have h0 := hR.w0 0 (by decide) 0
  have hb0 : ∃ b, zI (wF M 633 0 0) 633 42 = bI b := by
    obtain ⟨b, hb⟩ := hb
    exact ⟨b, by rw [fI_wF_ne (by decide)]; exact hb⟩
  unfold turN
  rcases trq_0 hR.1 H with ⟨a1, r1, r2⟩ | ⟨_, a1, r1, r2⟩ | ⟨_, _, a1, r1, r2⟩ | ⟨a1, a2, a3, H⟩
  · rw [g140_R] at a1
    exact ⟨r2 ▸ h0, Or.inl ⟨Or.inl a1, r1⟩⟩
  · rw [g140_R] at a1
    exact ⟨r2 ▸ h0, Or.inl ⟨Or.inr (Or.inl a1), r1⟩⟩
  · rw [g140_R] at a1
    exact ⟨r2 ▸ h0, Or.inl ⟨Or.inr (Or.inr a1), r1⟩⟩
  · rw [g140_R, Classical.not_not] at a1 a2 a3
    have g0 : 0 ≤ h.toInt := a1.1
    have g5 : h.toInt ≤ 5 := a1.2
    have w1 : 1 ≤ w.toInt := a2.1
    have t1 : 1 ≤ t.toInt := a3.1
    have ng : ¬ (¬ inX h 0 5 ∨ ¬ inX w 1 4 ∨ ¬ inX t 1 100) := fun q => by
      rcases q with q | q | q
      · exact q a1
      · exact q a2
      · exact q a3
    have z1 : (1 : Int32).toInt = 1 := rfl
    have z16 : (16 : Int32).toInt = 16 := rfl
    have h1 : (1 + h).toInt = 1 + h.toInt := i32_add (by omega) (by omega)
    have m16 : (16 * (1 + h)).toInt = 16 * (1 + h).toInt := i32_mul (by rw [z16]; omega) (by rw [z16]; omega)
    have hT := (h0.2.2.2 (h.toInt.toNat + 1) (by omega)).1
    unfold turA fwK
    rcases trq_f h0 (hn := h.toInt.toNat) (by omega) (by omega) (T (h.toInt.toNat + 1)).2.length 0 (16 * (1 + h)) (by omega) (by omega) H with ⟨b1, r1, r2⟩ | ⟨i, b1, y, hy, H⟩
    · rw [b1]
      exact ⟨r2 ▸ h0, Or.inr ⟨ng, r1⟩⟩
    · rw [b1]
      obtain ⟨l, hl, h5⟩ := fwR_is _ 0 b1
      have et : rI (wF M 633 0 0) 642 y = l.2.2.1 := (rI_n hy).trans (hT.1.1.2.2 i l hl).2.2.1
      rw [et] at H
      obtain ⟨r1, r2⟩ := trq_l (T := T) (tn := t.toInt.toNat) (wn := w.toInt.toNat) (by omega) (by omega) (by omega) hD hK hl h5 hy hT.2 10 0 l.2.2.1 none _ (by rw [setT_self hl]; exact h0) hb0 (by decide) rfl H
      exact ⟨r2, Or.inr ⟨ng, r1⟩⟩
/-! paved -/
theorem wkN_s : ∀ (r : Nat) (P : PK), wkN T n (r + 1) P = wksP T n (wkN T n r P) := by
  intro r
  induction r with
  | zero => intro P; rfl
  | succ r ih => intro P; exact ih (wksP T n P)
theorem RTR.w0 (h : RTR T Q P M) (j : Nat) (hj : 43 ≤ j) : RTR T Q P (wF M 633 j y) := ⟨h.1.w0 j (by omega) y, h.2.1, h.2.2.1, by obtain ⟨b, hb⟩ := h.2.2.2.1; exact ⟨b, by rw [fI_wF_ne (by omega)]; exact hb⟩, fun j hj => by rw [rN_wF]; exact h.2.2.2.2 j hj⟩
theorem wkN_0 : ∀ (r : Nat) (P : PK), okD P → okK P → (okD (wkN T n r P) ∧ okK (wkN T n r P)) ∧ ∀ j, j < 157 → wkN T n r P j = P j := by
  intro r
  induction r with
  | zero => intro P h1 h2; exact ⟨⟨h1, h2⟩, fun _ _ => rfl⟩
  | succ r ih =>
    intro P h1 h2
    obtain ⟨d1, k1⟩ := wks_K (T := T) (t := n) h1 h2
    obtain ⟨q1, q2⟩ := ih (wksP T n P) d1 k1
    exact ⟨q1, fun j hj => (q2 j hj).trans (wks_0 h1 h2 j hj)⟩
theorem rpv_c (hw : wh4 P) (hc : clsP Z = clsP P) (hi : ∀ x, inC P x → inC Z x) : ∀ (r : Nat) (c a b d : Int32) (M : Mem), RTR T Z P M → (∀ x, inC P x → rI M 653 x = bI (wrnB (T 0) A x)) → (∀ x, inC P x → rI M 652 x = bI (wrnB (T 0) Z x)) → zI M 633 49 = a → zI M 633 50 = b → zI M 633 51 = d → 0 ≤ c.toInt → c.toInt + (r : Int) = (clsP P : Int) → Ev none e 230 64 [some (.ref 633), some (.int w), some (.int ws), some (.int t), some (.int c)] [] M v M' 0 0 → v = none ∧ RST T P M' ∧ (∃ b, zI M' 633 42 = bI b) ∧ zI M' 633 49 = netP (T 0) A r c a ∧ zI M' 633 50 = aloP2 (T 0) A Z r c b ∧ zI M' 633 51 = aloP2 (T 0) Z A r c d := by
  obtain ⟨_, c256, _⟩ := cls_int hw
  intro r
  induction r with
  | zero =>
    intro c a b d M hR h3 h2 ea eb ed h0 hk H
    have hg := g144_ok hR.1 hR.2.1.1
    rw [hc] at hg
    rcases rpv_64 hR.1.1 H with ⟨_, e1, v1, M1, _, H1, H⟩ | ⟨a1, _⟩ | ⟨a1, _⟩ | ⟨a1, _⟩ | ⟨a1, _⟩
    · obtain ⟨rv, q1, F1⟩ := hR.bk H1
      rw [rv] at H
      obtain ⟨r1, r2⟩ := rpv_175 q1.1 H
      rw [r2]
      have zz : ∀ k, zI M1 633 k = zI M 633 k := fun k => F1.fi (fun q => q)
      obtain ⟨b4, hb4⟩ := hR.2.2.2.1
      exact ⟨r1, q1, ⟨b4, (zz 42).trans hb4⟩, (zz 49).trans ea, (zz 50).trans eb, (zz 51).trans ed⟩
    all_goals exact absurd (Int32.le_iff_toInt_le.mpr (by omega)) a1
  | succ r ih =>
    intro c a b d M hR h3 h2 ea eb ed h0 hk H
    have hg := g144_ok hR.1 hR.2.1.1
    rw [hc] at hg
    have ic : inC P c := ⟨h0, by omega⟩
    have e3 := h3 c ic
    have e2 := h2 c ic
    have z1 : (c + 1).toInt = c.toInt + 1 := i32_p1 (by omega)
    have q633 := qa_633
    have nx : ∀ a2 b2 d2, Ev none e 230 64 [some (.ref 633), some (.int w), some (.int ws), some (.int t), some (.int (c + 1))] [] (wF (wF (wF M 633 49 a2) 633 50 b2) 633 51 d2) v M' 0 0 → v = none ∧ RST T P M' ∧ (∃ b, zI M' 633 42 = bI b) ∧ zI M' 633 49 = netP (T 0) A r (c + 1) a2 ∧ zI M' 633 50 = aloP2 (T 0) A Z r (c + 1) b2 ∧ zI M' 633 51 = aloP2 (T 0) Z A r (c + 1) d2 := fun a2 b2 d2 H => by
      have S := hR.1.1
      refine ih (c + 1) a2 b2 d2 _ (((hR.w0 49 (by decide)).w0 50 (by decide)).w0 51 (by decide)) (fun x hx => ?_) (fun x hx => ?_) ?_ ?_ ?_ (by omega) (by omega) H
      · show rN _ 653 _ = _
        rw [rN_wF, rN_wF, rN_wF]
        exact h3 x hx
      · show rN _ 652 _ = _
        rw [rN_wF, rN_wF, rN_wF]
        exact h2 x hx
      · rw [fI_wF_ne (by decide), fI_wF_ne (by decide)]
        exact fI_wF_eq S.1 qa_633 qi_61_49
      · rw [fI_wF_ne (by decide)]
        exact fI_wF_eq S.kf.1 qa_633 qi_61_50
      · exact fI_wF_eq S.kf.kf.1 qa_633 qi_61_51
    unfold netP aloP2
    rcases rpv_64 hR.1.1 H with ⟨a1, _⟩ | ⟨_, b1, b2, _, _, _, H⟩ | ⟨_, b1, b2, _, _, _, _, H⟩ | ⟨_, b1, b2, _, _, _, _, H⟩ | ⟨_, b1, b2, _, _, _, _, _, H⟩
    · have := Int32.le_iff_toInt_le.mp a1
      omega
    all_goals
      rw [e3] at b1
      rw [e2] at b2
      rw [ea, eb, ed] at H
      have H := nx _ _ _ H
      cases hA : wrnB (T 0) A c <;> cases hZ : wrnB (T 0) Z c <;> rw [hA] at b1 <;> rw [hZ] at b2
    all_goals first
      | exact absurd b1 (by decide)
      | exact absurd b2 (by decide)
      | exact absurd rfl b1
      | exact absurd rfl b2
      | (simpa using H)
theorem rpv_l (hw : w.toInt = (wn : Int)) (ht : t.toInt = (tn : Int)) (w1 : 1 ≤ wn) (hws : ws.toInt = (n : Int)) (n20 : n ≤ 20) (wle : wn ≤ n) (hD : okD P) (hK : okK P) : ∀ (r k : Nat) (kz : Int32) (M : Mem), RTR T (wkN T tn k P) P M → (wn ≤ k → ∀ x, inC P x → rI M 653 x = bI (wrnB (T 0) (wkN T tn wn P) x)) → kz.toInt = ((k + 1 : Nat) : Int) → k + r = n → Ev none e 230 7 [some (.ref 633), some (.int w), some (.int ws), some (.int t), some (.int kz)] [] M v M' 0 0 → v = none ∧ RST T P M' ∧ (∃ b, zI M' 633 42 = bI b) ∧ zI M' 633 49 = netP (T 0) (wkN T tn wn P) (clsP P) 0 0 ∧ zI M' 633 50 = aloP2 (T 0) (wkN T tn wn P) (wkN T tn n P) (clsP P) 0 0 ∧ zI M' 633 51 = aloP2 (T 0) (wkN T tn n P) (wkN T tn wn P) (clsP P) 0 0 := by
  have iC : ∀ k x, inC P x ↔ inC (wkN T tn k P) x := fun k x => by
    have q := (wkN_0 (T := T) (n := tn) k P hD hK).2
    rw [inC.eq (q 0 (by decide)) (q 1 (by decide))]
  have cC : ∀ k, clsP (wkN T tn k P) = clsP P := fun k => by
    have q := (wkN_0 (T := T) (n := tn) k P hD hK).2
    exact cls_eq (q 0 (by decide)) (q 1 (by decide))
  intro r
  induction r with
  | zero =>
    intro k kz M hR h3 hz hk H
    rcases rpv_7 hR.1.1 H with ⟨_, e1, v1, M1, _, H1, H⟩ | ⟨a1, _⟩
    · obtain ⟨rv, q1, F1, h2⟩ := ntd_ok hR H1
      rw [rv] at H
      have ek : k = n := by omega
      subst ek
      have H := rpv_46 q1.1.1 H
      have S := q1.1.1
      refine rpv_c hD.1 (cC k) (fun x hx => (iC k x).mp hx) (clsP P) 0 0 0 0 _ (((q1.w0 49 (by decide)).w0 50 (by decide)).w0 51 (by decide)) (fun x hx => ?_) (fun x hx => ?_) ?_ ?_ ?_ (by decide) (by have z0 : (0 : Int32).toInt = 0 := rfl; omega) H
      · show rN _ 653 _ = _
        rw [rN_wF, rN_wF, rN_wF]
        exact (F1.rn (by decide)).trans (h3 wle x hx)
      · show rN _ 652 _ = _
        rw [rN_wF, rN_wF, rN_wF]
        exact h2 x ((iC k x).mp hx)
      · rw [fI_wF_ne (by decide), fI_wF_ne (by decide)]
        exact fI_wF_eq S.1 qa_633 qi_61_49
      · rw [fI_wF_ne (by decide)]
        exact fI_wF_eq S.kf.1 qa_633 qi_61_50
      · exact fI_wF_eq S.kf.kf.1 qa_633 qi_61_51
    · exact absurd (Int32.lt_iff_toInt_lt.mpr (by omega)) a1
  | succ r ih =>
    intro k kz M hR h3 hz hk H
    rcases rpv_7 hR.1.1 H with ⟨a1, _⟩ | ⟨_, e1, v1, M1, _, H1, H⟩
    · have := Int32.lt_iff_toInt_lt.mp a1
      omega
    · obtain ⟨rv, q1, F1⟩ := rgo_ok hR ht H1
      rw [rv] at H
      rw [← wkN_s] at q1
      have z1 : (kz + 1).toInt = ((k + 1 + 1 : Nat) : Int) := by rw [i32_p1 (by omega)]; omega
      rcases rpv_18 q1.1.1 H with ⟨b1, e2, v2, M2, _, H2, H⟩ | ⟨b1, H⟩
      · obtain ⟨rv2, q2, F2, h2⟩ := nte_ok q1 H2
        rw [rv2] at H
        have ek : k + 1 = wn := by rw [b1] at hz; omega
        refine ih (k + 1) (kz + 1) M2 q2 (fun _ x hx => ?_) z1 (by omega) (rpv_32 q2.1.1 H)
        rw [← ek]
        exact h2 x ((iC _ x).mp hx)
      · refine ih (k + 1) (kz + 1) M1 q1 (fun hle x hx => ?_) z1 (by omega) H
        have hne : k + 1 ≠ wn := fun q => b1 (Int32.toInt_inj.mp (by omega))
        exact (F1.rn (by unfold rkW; decide)).trans (h3 (by omega) x hx)
theorem rpv_ok (hR : RST T P M) (hD : okD P) (hK : okK P) (hb : ∃ b, zI M 633 42 = bI b) (iw : inX w 1 ws) (i20 : ws.toInt ≤ 20) (t1 : 1 ≤ t.toInt) (H : Ev none e 230 0 [some (.ref 633), some (.int w), some (.int ws), some (.int t), none] [] M v M' 0 0) : v = none ∧ RST T P M' ∧ (∃ b, zI M' 633 42 = bI b) ∧ zI M' 633 49 = pavA T P w ws t 0 ∧ zI M' 633 50 = pavA T P w ws t 1 ∧ zI M' 633 51 = pavA T P w ws t 2 := by
  obtain ⟨e1, v1, M1, _, H1, H⟩ := rpv_0 hR.1 H
  obtain ⟨rv, q1, _⟩ := RTR.mk0 hR hD hK hb H1
  rw [rv] at H
  have w1 : 1 ≤ w.toInt := iw.1
  have w2 : w.toInt ≤ ws.toInt := iw.2
  have q := rpv_l (T := T) (wn := w.toInt.toNat) (tn := t.toInt.toNat) (n := ws.toInt.toNat) (by omega) (by omega) (by omega) (by omega) (by omega) (by omega) hD hK ws.toInt.toNat 0 1 M1 q1 (fun h => by omega) rfl (by omega) (rpv_4 q1.1.1 H)
  have e1 : ¬ (1 : Int32) = 0 := by decide
  have e2 : ¬ (2 : Int32) = 0 := by decide
  have e3 : ¬ (2 : Int32) = 1 := by decide
  have cA : clsP (wkN T t.toInt.toNat w.toInt.toNat P) = clsP P := by
    have q := (wkN_0 (T := T) (n := t.toInt.toNat) w.toInt.toNat P hD hK).2
    exact cls_eq (q 0 (by decide)) (q 1 (by decide))
  unfold pavA nwP
  rw [if_pos rfl, if_neg e1, if_pos rfl, if_neg e2, if_neg e3, cA]
  exact q
theorem rpaved_ok (hR : RST T P M) (hD : okD P) (hK : okK P) (hb : ∃ b, zI M 633 42 = bI b) (H : Ev none e 231 0 [some (.ref 633), some (.int w), some (.int ws), some (.int t), some (.int wh)] [] M v M' 0 0) : RST T P M' ∧ ((pavN w ws t wh ∧ v = some (.int (-1))) ∨ (¬ pavN w ws t wh ∧ v = some (.int (pavA T P w ws t wh)))) := by
  have h0 := hR.w0 0 (by decide) 0
  have hb0 : ∃ b, zI (wF M 633 0 0) 633 42 = bI b := by
    obtain ⟨b, hb⟩ := hb
    exact ⟨b, by rw [fI_wF_ne (by decide)]; exact hb⟩
  unfold pavN
  rcases rpd_0 hR.1 H with ⟨a1, r1, r2⟩ | ⟨_, a1, r1, r2⟩ | ⟨_, _, a1, r1, r2⟩ | ⟨_, _, _, a1, r1, r2⟩ | ⟨a1, a2, a3, a4, e1, v1, M1, _, H1, H⟩
  · rw [g140_R] at a1
    exact ⟨r2 ▸ h0, Or.inl ⟨Or.inl a1, r1⟩⟩
  · rw [g140_R] at a1
    exact ⟨r2 ▸ h0, Or.inl ⟨Or.inr (Or.inl a1), r1⟩⟩
  · rw [g140_R] at a1
    exact ⟨r2 ▸ h0, Or.inl ⟨Or.inr (Or.inr (Or.inl a1)), r1⟩⟩
  · rw [g140_R] at a1
    exact ⟨r2 ▸ h0, Or.inl ⟨Or.inr (Or.inr (Or.inr a1)), r1⟩⟩
  · rw [g140_R, Classical.not_not] at a1 a2 a3 a4
    have ng : ¬ (¬ inX ws 1 20 ∨ ¬ inX w 1 ws ∨ ¬ inX t 1 200 ∨ ¬ inX wh 0 2) := fun q => by
      rcases q with q | q | q | q
      · exact q a1
      · exact q a2
      · exact q a3
      · exact q a4
    obtain ⟨rv, q1, _, f1, f2, f3⟩ := rpv_ok h0 hD hK hb0 a2 a1.2 a3.1 H1
    rw [rv] at H
    rcases rpd_54 q1.1 H with ⟨b1, r1, r2⟩ | ⟨b1, b2, r1, r2⟩ | ⟨b1, b2, r1, r2⟩
    · rw [r2, r1, f1, b1]
      exact ⟨q1, Or.inr ⟨by rw [b1] at ng; exact ng, rfl⟩⟩
    · rw [r2, r1, f2, b2]
      exact ⟨q1, Or.inr ⟨by rw [b2] at ng; exact ng, rfl⟩⟩
    · rw [r2, r1, f3]
      refine ⟨q1, Or.inr ⟨ng, ?_⟩⟩
      have e2 : ¬ (2 : Int32) = 0 := by decide
      have e3 : ¬ (2 : Int32) = 1 := by decide
      unfold pavA
      rw [if_neg e2, if_neg e3, if_neg b1, if_neg b2]
theorem rwt_l (hD : okD P) (hK : okK P) (i20 : ws.toInt ≤ 20) (t1 : 1 ≤ t.toInt) : ∀ (r : Nat) (wz be le : Int32) (c6 : Option Value) (M : Mem), RST T P M → (∃ b, zI M 633 42 = bI b) → wz.toInt + (r : Int) = ws.toInt + 1 → 1 ≤ wz.toInt → Ev none e 232 36 [some (.ref 633), some (.int ws), some (.int t), some (.int be), some (.int le), some (.int wz), c6] [] M v M' 0 0 → v = some (.int (waiL T P ws t r wz be le)) ∧ RST T P M' := by
  intro r
  induction r with
  | zero =>
    intro wz be le c6 M hR hb hw h1 H
    rcases rwt_36 hR.1 H with ⟨_, r1, r2⟩ | ⟨a1, _⟩
    · rw [r2]; exact ⟨r1, hR⟩
    · exact absurd (Int32.lt_iff_toInt_lt.mpr (by omega)) a1
  | succ r ih =>
    intro wz be le c6 M hR hb hw h1 H
    rcases rwt_36 hR.1 H with ⟨a1, _⟩ | ⟨_, e1, v1, M1, _, H1, H⟩
    · have := Int32.lt_iff_toInt_lt.mp a1
      omega
    · obtain ⟨rv, q1, hb1, f1, f2, f3⟩ := rpv_ok hR hD hK hb ⟨h1, by omega⟩ i20 t1 H1
      rw [rv] at H
      have z1 : (wz + 1).toInt = wz.toInt + 1 := i32_p1 (by omega)
      have H := rwt_50 q1.1 H
      rw [f2, f3] at H
      have es : pavA T P wz ws t 1 + pavA T P wz ws t 2 + wz = waiS T P ws t wz := rfl
      rw [es] at H
      unfold waiL
      rcases H with ⟨b1, H⟩ | ⟨b1, b2, H⟩ | ⟨b1, b2, H⟩
      · rw [if_pos (Or.inl b1)]
        exact ih _ _ _ _ M1 q1 hb1 (by omega) (by omega) H
      · rw [if_pos (Or.inr b2)]
        exact ih _ _ _ _ M1 q1 hb1 (by omega) (by omega) H
      · rw [if_neg (fun q => q.elim b1 b2)]
        exact ih _ _ _ _ M1 q1 hb1 (by omega) (by omega) H
theorem rwait_ok (hR : RST T P M) (hD : okD P) (hK : okK P) (hb : ∃ b, zI M 633 42 = bI b) (H : Ev none e 232 0 [some (.ref 633), some (.int ws), some (.int t), none, none, none, none] [] M v M' 0 0) : RST T P M' ∧ ((waiN ws t ∧ v = some (.int (-1))) ∨ (¬ waiN ws t ∧ v = some (.int (waiL T P ws t ws.toInt.toNat 1 (-1) 0)))) := by
  have h0 := hR.w0 0 (by decide) 0
  have hb0 : ∃ b, zI (wF M 633 0 0) 633 42 = bI b := by
    obtain ⟨b, hb⟩ := hb
    exact ⟨b, by rw [fI_wF_ne (by decide)]; exact hb⟩
  unfold waiN
  rcases rwt_0 hR.1 H with ⟨a1, r1, r2⟩ | ⟨_, a1, r1, r2⟩ | ⟨a1, a2, H⟩
  · rw [g140_R] at a1
    exact ⟨r2 ▸ h0, Or.inl ⟨Or.inl a1, r1⟩⟩
  · rw [g140_R] at a1
    exact ⟨r2 ▸ h0, Or.inl ⟨Or.inr a1, r1⟩⟩
  · rw [g140_R, Classical.not_not] at a1 a2
    have w1 : 1 ≤ ws.toInt := a1.1
    obtain ⟨r1, r2⟩ := rwt_l (T := T) hD hK a1.2 a2.1 ws.toInt.toNat 1 (-1) 0 none _ h0 hb0 (by have z1 : (1 : Int32).toInt = 1 := rfl; omega) (by decide) H
    exact ⟨r2, Or.inr ⟨fun q => q.elim (fun q => q a1) (fun q => q a2), r1⟩⟩
end RTUR
