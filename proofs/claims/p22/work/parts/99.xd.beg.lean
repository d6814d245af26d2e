/-! BY HAND, the class: begin, sweep, go -/
theorem cal_due {M : Mem} {vs : List Value} {a : Nat} {a0 : Int32} {rest : List Value} (hM : gNth M a = some (.inr (9, vs))) (hr : gRoom rest = true) : gCal (.invokevirtual 164) 7 (.int a0 :: .ref a :: rest) M = some (.inr (78, [some (.ref a), some (.int a0)], rest)) := by
  show @cond (Option ((List Value × Mem) ⊕ (Nat × Lo × List Value))) (true && gRecv M (.ref a) 9 && gRoom rest && true) (some (.inr (78, [some (.ref a), some (.int a0)], rest))) none = _
  rw [recv_c hM, hr]
  rfl
theorem cal_wb {M : Mem} {vs : List Value} {a : Nat} {a0 : Int32} {a1 : Int32} {rest : List Value} (hM : gNth M a = some (.inr (8, vs))) (hr : gRoom rest = true) : gCal (.invokevirtual 173) 7 (.int a1 :: .int a0 :: .ref a :: rest) M = some (.inr (73, [some (.ref a), some (.int a0), some (.int a1)], rest)) := by
  show @cond (Option ((List Value × Mem) ⊕ (Nat × Lo × List Value))) (true && gRecv M (.ref a) 8 && gRoom rest && true) (some (.inr (73, [some (.ref a), some (.int a0), some (.int a1)], rest))) none = _
  rw [recv_c hM, hr]
  rfl
theorem cal_bg {M : Mem} {vs : List Value} {a : Nat} {rest : List Value} (hM : gNth M a = some (.inr (7, vs))) (hr : gRoom rest = true) : gCal (.invokevirtual 101) 7 (.ref a :: rest) M = some (.inr (59, [some (.ref a), none, none, none], rest)) := by
  show @cond (Option ((List Value × Mem) ⊕ (Nat × Lo × List Value))) (true && gRecv M (.ref a) 7 && gRoom rest && true) (some (.inr (59, [some (.ref a), none, none, none], rest))) none = _
  rw [recv_c hM, hr]
  rfl
theorem cal_ch {M : Mem} {vs : List Value} {a : Nat} {a0 : Nat} {a1 : Int32} {a2 : Int32} {rest : List Value} (hM : gNth M a = some (.inr (7, vs))) (hr : gRoom rest = true) : gCal (.invokevirtual 128) 7 (.int a2 :: .int a1 :: .ref a0 :: .ref a :: rest) M = some (.inr (66, [some (.ref a), some (.ref a0), some (.int a1), some (.int a2), none, none, none, none, none, none], rest)) := by
  show @cond (Option ((List Value × Mem) ⊕ (Nat × Lo × List Value))) (true && gRecv M (.ref a) 7 && gRoom rest && true) (some (.inr (66, [some (.ref a), some (.ref a0), some (.int a1), some (.int a2), none, none, none, none, none, none], rest))) none = _
  rw [recv_c hM, hr]
  rfl
theorem cal_st {M : Mem} {vs : List Value} {a : Nat} {a0 : Int32} {a1 : Int32} {rest : List Value} (hM : gNth M a = some (.inr (8, vs))) (hr : gRoom rest = true) : gCal (.invokevirtual 141) 7 (.int a1 :: .int a0 :: .ref a :: rest) M = some (.inr (74, [some (.ref a), some (.int a0), some (.int a1)], rest)) := by
  show @cond (Option ((List Value × Mem) ⊕ (Nat × Lo × List Value))) (true && gRecv M (.ref a) 8 && gRoom rest && true) (some (.inr (74, [some (.ref a), some (.int a0), some (.int a1)], rest))) none = _
  rw [recv_c hM, hr]
  rfl
theorem cal_tr {M : Mem} {vs : List Value} {a : Nat} {a0 : Int32} {rest : List Value} (hM : gNth M a = some (.inr (7, vs))) (hr : gRoom rest = true) : gCal (.invokevirtual 144) 7 (.int a0 :: .ref a :: rest) M = some (.inr (62, [some (.ref a), some (.int a0), none], rest)) := by
  show @cond (Option ((List Value × Mem) ⊕ (Nat × Lo × List Value))) (true && gRecv M (.ref a) 7 && gRoom rest && true) (some (.inr (62, [some (.ref a), some (.int a0), none], rest))) none = _
  rw [recv_c hM, hr]
  rfl
theorem cal_lv {M : Mem} {vs : List Value} {a : Nat} {a0 : Nat} {a1 : Int32} {rest : List Value} (hM : gNth M a = some (.inr (7, vs))) (hr : gRoom rest = true) : gCal (.invokevirtual 151) 7 (.int a1 :: .ref a0 :: .ref a :: rest) M = some (.inr (60, [some (.ref a), some (.ref a0), some (.int a1), none], rest)) := by
  show @cond (Option ((List Value × Mem) ⊕ (Nat × Lo × List Value))) (true && gRecv M (.ref a) 7 && gRoom rest && true) (some (.inr (60, [some (.ref a), some (.ref a0), some (.int a1), none], rest))) none = _
  rw [recv_c hM, hr]
  rfl
theorem cal_sw {M : Mem} {vs : List Value} {a : Nat} {rest : List Value} (hM : gNth M a = some (.inr (7, vs))) (hr : gRoom rest = true) : gCal (.invokevirtual 155) 7 (.ref a :: rest) M = some (.inr (61, [some (.ref a), none, none, none], rest)) := by
  show @cond (Option ((List Value × Mem) ⊕ (Nat × Lo × List Value))) (true && gRecv M (.ref a) 7 && gRoom rest && true) (some (.inr (61, [some (.ref a), none, none, none], rest))) none = _
  rw [recv_c hM, hr]
  rfl
def mdBe : Md := [(1, 15), (1, 19), (8, 0), (8, 1), (8, 2), (8, 3), (8, 4), (1016, 0)]
set_option maxRecDepth 100000 in
theorem sT_108 : gNth sT 108 = some 26 := by decide +kernel
/-- a field of the land that is kept -/
theorem fk {ld k : Nat} {md : Md} {M M' : Mem} {vl : List Value} {v : Value} (hF : Frm sT md M M') (hm : (1, k) ∉ md) (h1 : gNth M ld = some (.inr (1, vl))) (h2 : gNth vl k = some v) : ∃ vl', gNth M' ld = some (.inr (1, vl')) ∧ gNth vl' k = some v := by
  obtain ⟨vl', f1, _, f3⟩ := hF.2.1 _ _ _ h1
  exact ⟨vl', f1, (f3 k hm).trans h2⟩
section BEG
variable {ld e : Nat}
set_option maxHeartbeats 1000000 in
theorem bg_loop (hld : ld ∈ [8, 243, 345, 441, 537]) {nw : Int32} {nn : Nat} (hn : nw.toInt = (nn : Int)) (h24 : nn ≤ 24) : ∀ (j kn : Nat) (k : Int32) (M : Mem) (x2 x3 : Option Value), kn + j = nn → k.toInt = (kn : Int) → TM sT sG M → LD ld M → P34 M → (∃ vl, gNth M ld = some (.inr (1, vl)) ∧ gNth vl 13 = some (.int nw)) → ∃ M', Ev none (e + 2) 59 2 [some (.ref 104), some (.int k), x2, x3] [] M none M' 0 0 ∧ TM sT sG M' ∧ Frm sT mdBe M M' ∧ LD ld M' ∧ P34 M' := by
  intro j
  induction j with
  | zero =>
    rintro kn k M x2 x3 hj hk hT hL hP ⟨vl, m1, m2⟩
    obtain ⟨vw, vl', w1, w2, w3⟩ := hL.obj hT
    cases w3.symm.trans m1
    exact ⟨M, bg_2 w1 w2 w3 m2 (by rw [if_pos (by rw [Int32.le_iff_toInt_le]; omega)]; exact bg_133), hT, Frm.refl _, hL, hP⟩
  | succ j ih =>
    rintro kn k M x2 x3 hj hk hT hL hP ⟨vl, m1, m2⟩
    obtain ⟨vw, vl', w1, w2, w3⟩ := hL.obj hT
    cases w3.symm.trans m1
    have hlt : ¬ nw ≤ k := by rw [Int32.le_iff_toInt_le]; omega
    have ek : (k + 1).toInt = k.toInt + 1 := i32_p1 (by omega)
    obtain ⟨ra, rl, b, r1, r2, r3, r4, r5, r6⟩ := hL.rrow hT w3 ly_wish ly_wishr hk (by omega)
    obtain ⟨v16, t16, f1, f2, _⟩ := hT.fnum (hL.grp hT) ly_tick
    cases f1.symm.trans w3
    obtain ⟨vb0, y0, hb0, _⟩ := hT.fnum r6 ly_from
    obtain ⟨r, M1, d1, d2, d3⟩ := ev_due (e := e) (t := t16) hT r6
    have hL1 := hL.frm d3 (by decide)
    have K1 : KP (fun _ => False) mdBg ld M M1 := KP.call d2 d3 rfl (by decide) (by decide) hL
    have hP1 := hP.kp K1 (by decide) (by decide) (by decide)
    have go_on : ∀ (M2 : Mem) (x3' : Option Value), TM sT sG M2 → Frm sT mdBe M M2 → LD ld M2 → P34 M2 → (∀ v MF, Ev none (e + 2) 59 2 [some (.ref 104), some (.int (k + 1)), some (.ref b), x3'] [] M2 v MF 0 0 → Ev none (e + 2) 59 34 [some (.ref 104), some (.int k), some (.ref b), x3] [.int r] M1 v MF 0 0) → ∃ M', Ev none (e + 2) 59 2 [some (.ref 104), some (.int k), x2, x3] [] M none M' 0 0 ∧ TM sT sG M' ∧ Frm sT mdBe M M' ∧ LD ld M' ∧ P34 M' := by
      intro M2 x3' t2 f2' l2 p2 hE
      obtain ⟨MF, q1, q2, q3, q4, q5⟩ := ih (kn + 1) (k + 1) M2 (some (.ref b)) x3' (by omega) (by omega) t2 l2 p2 (fk f2' (by decide) m1 m2)
      exact ⟨MF, bg_2 w1 w2 w3 m2 (by rw [if_neg hlt]; exact bg_13 w1 w2 w3 r1 r3 r4 f2 (Ev.call0 (fun n => gs_7 rfl rfl (cal_due hb0 rfl)) d1 (hE _ _ q1))), q2, f2'.trans q3, q4, q5⟩
    have F1 : Frm sT mdBe M M1 := d3.more (mdSub_mem rfl)
    by_cases hr : r = 0
    · exact go_on M1 x3 d2 F1 hL1 hP1 (fun v MF h => bg_34 (by rw [if_pos hr]; exact bg_37 h))
    · obtain ⟨vw1, vl1, u1, u2, u3⟩ := hL1.obj d2
      obtain ⟨vl1', n1, f3, f4, f5, f6, f7, _⟩ := d2.fnum (hL1.grp d2) ly_walkers
      cases f3.symm.trans u3
      by_cases h60 : n1 < 60
      rotate_left
      · obtain ⟨vl2, t2, g1, g2, g3, _⟩ := d2.fnum (hL1.grp d2) ly_turn
        cases g1.symm.trans u3
        have K2 : KP (fun _ => False) mdBg ld M1 (gPut M1 ld (.inr (1, gPut vl1 19 (.int (t2 + 1))))) := KP.fld d2 hL1 (hL1.grp d2) ly_turn u3 (by decide) (i32_lt _).1 (i32_lt _).2 (by decide) (Or.inl (by decide))
        exact go_on _ x3 K2.1 (F1.trans (K2.2.1.more (mdSub_mem rfl))) K2.2.2.1 (hP1.kp K2 (by decide) (by decide) (by decide)) (fun v MF h => bg_34 (by rw [if_neg hr]; exact bg_40 u1 u2 u3 f4 (by rw [if_neg h60]; exact bg_52 u1 u2 u3 g2 g3 h)))
      · have n60 : n1.toInt < 60 := by rw [Int32.lt_iff_toInt_lt] at h60; exact h60
        obtain ⟨nn1, hnn1⟩ : ∃ nn1 : Nat, n1.toInt = (nn1 : Int) := ⟨n1.toInt.toNat, by omega⟩
        obtain ⟨vb1, fr, b1, b2, b3, b4, b5, _⟩ := d2.fnum r6 ly_from
        obtain ⟨frn, hfr⟩ : ∃ frn : Nat, fr.toInt = (frn : Int) := ⟨fr.toInt.toNat, by omega⟩
        obtain ⟨da, dl, ct, e1, e2, e3, e4, e5, e6⟩ := hL1.irow d2 u3 ly_door ly_doorr hfr (by omega)
        obtain ⟨wa, wl, o, p1, p2, p3, p4, p5, p6⟩ := hL1.rrow d2 u3 ly_wk ly_wkr hnn1 (by omega)
        obtain ⟨vo0, yo0, ho0, _⟩ := d2.fnum p6 ly_cell
        obtain ⟨M2, s1, K2, s3⟩ := ev_wbegin (S := fun _ => False) (e := e + 1) (c := ct) (k := k) d2 hL1 p6 e5 e6 (by omega) (by omega)
        have hP2 := hP1.kp K2 (by decide) (by decide) (by decide)
        obtain ⟨vw2, vl2, u21, u22, u23⟩ := K2.2.2.1.obj K2.1
        obtain ⟨vl2', i1, i2⟩ := fk K2.2.1 (by decide) u3 f4
        cases i1.symm.trans u23
        obtain ⟨vlp, lp, np, P1, P2, P3, P4, P5, P6, P7⟩ := hP1 ld hld
        cases P1.symm.trans u3
        cases p1.symm.trans P2
        have row2 := row_frm K2.2.1 (ld_row hld) (by decide) p3
        obtain ⟨vlq, nq, j1, j2, j3, j4, j5, j6⟩ := K2.1.fnum (K2.2.2.1.grp K2.1) ly_walkers
        cases j1.symm.trans u23
        cases j2.symm.trans i2
        have en : (n1 + 1).toInt = n1.toInt + 1 := i32_p1 (by omega)
        have hP3 := P34.more hld hP2 u23 i2 hnn1 (by omega) row2 p5 s3
        have T3 := j6 (n1 + 1) (by omega) (by omega)
        obtain ⟨M3, m3⟩ : ∃ N, N = gPut M2 ld (.inr (1, gPut vl2 15 (.int (n1 + 1)))) := ⟨_, rfl⟩
        have F3 : Frm sT [(1, 15)] M2 M3 := by rw [m3]; exact Frm.fld u23 List.mem_cons_self
        rw [← m3] at hP3 T3
        have L3 := K2.2.2.1.frm F3 (by decide)
        obtain ⟨vw3, vl3, u31, u32, u33⟩ := L3.obj T3
        obtain ⟨cn, hcn⟩ : ∃ cn : Nat, ct.toInt = (cn : Int) := ⟨ct.toInt.toNat, by omega⟩
        obtain ⟨ca, cl, cy, c1, c2, c3, c4, _⟩ := L3.irow T3 u33 ly_crowd ly_crowdr hcn (by omega)
        obtain ⟨M4, m4⟩ : ∃ N, N = gPut M3 ca (.inl (1, .inl (gPut cl ct.toNatClampNeg (cy + 1)))) := ⟨_, rfl⟩
        have K4 : KP (fun _ => False) mdBg ld M3 M4 := by rw [m4]; exact KP.row T3 L3 c2 ly_crowdr c3 (by decide) (i32_lt _).1 (i32_lt _).2
        refine go_on M4 (some (.int ct)) K4.1 (F1.trans ((K2.2.1.more (mdSub_mem rfl)).trans ((F3.more (mdSub_mem rfl)).trans (K4.2.1.more (mdSub_mem rfl))))) K4.2.2.1 (hP3.kp K4 (by decide) (by decide) (by decide)) (fun v MF h => bg_34 ?_)
        rw [if_neg hr]
        refine bg_40 u1 u2 u3 f4 ?_
        rw [if_pos h60]
        refine bg_68 u1 u2 u3 e1 b1 b2 e3 e4 p1 f4 p3 p4 (Ev.call0 (fun n => gs_7 rfl rfl (cal_wb ho0 rfl)) s1 (bg_101 u21 u22 u23 i2 j3 ?_))
        rw [← m3]
        refine bg_114 u31 u32 u33 c1 c3 c4 ?_
        rw [← m4]
        exact h
theorem ev_begin {M : Mem} {x1 x2 x3 : Option Value} (hld : ld ∈ [8, 243, 345, 441, 537]) (hT : TM sT sG M) (hL : LD ld M) (hP : P34 M) : ∃ M', Ev none (e + 2) 59 0 [some (.ref 104), x1, x2, x3] [] M none M' 0 0 ∧ TM sT sG M' ∧ Frm sT mdBe M M' ∧ LD ld M' ∧ P34 M' := by
  obtain ⟨vs, y, a1, a2, _, a4, a5, _⟩ := hT.fnum (hL.grp hT) ly_wishes
  obtain ⟨M', h1, h2⟩ := bg_loop (e := e) hld (nw := y) (nn := y.toInt.toNat) (by omega) (by omega) y.toInt.toNat 0 0 M x2 x3 (by omega) rfl hT hL hP ⟨vs, a1, a2⟩
  exact ⟨M', bg_0 h1, h2⟩
theorem ev_sweep {nn : Nat} {M : Mem} {y : Int32} {x1 x2 x3 : Option Value} (hld : ld ∈ [8, 243, 345, 441, 537]) (hT : TM sT sG M) (hL : LD ld M) (hP : PG ld nn M) (hn : ∃ vl, gNth M ld = some (.inr (1, vl)) ∧ gNth vl 15 = some (.int y)) (hy : y.toInt = (nn : Int)) (h60 : nn ≤ 60) : ∃ M', Ev none e 61 0 [some (.ref 104), x1, x2, x3] [] M none M' 0 0 ∧ TM sT sG M' ∧ Frm sT [(1, 15), (1019, 0)] M M' ∧ LD ld M' ∧ P34 M' := by
  obtain ⟨vl, m1, m2⟩ := hn
  have hW := hP ld hld
  obtain ⟨vlp, lp, np, P1, P2, P3, P4, P5, P6, P7⟩ := hW
  cases P1.symm.trans m1
  cases P3.symm.trans m2
  obtain ⟨vw, w1, w2⟩ := hL
  have hg := LD.grp hT ⟨vw, w1, w2⟩
  obtain ⟨MF, lF, sF, zF, q1, q2, q3, q4, q5, q6, q7, q8, q9, q10, q11⟩ := sw_loop (e := e) hg (ld_row hld) w2 P2 P3 hy h60 nn 0 0 0 0 M lp x3 hT (Frm.refl _) w1 P1 P4 P5 (fun b => Iff.rfl) (Nat.le_refl _) rfl rfl (by omega) (fun k hk => absurd hk (Nat.not_lt_zero _))
  refine ⟨MF, sw_0 q1, q2, q3, LD.frm q3 (by decide) ⟨vw, w1, w2⟩, fun a ha => ?_⟩
  by_cases hal : a = ld
  · subst hal
    refine ⟨_, lF, zF, q7, by rw [nth_put, if_neg (by omega)]; exact P2, by rw [nth_put, if_pos ⟨rfl, gNth_lt _ _ _ P3⟩], q4, q5, fun k b hb => ?_, fun k hk => q10 k (by omega)⟩
    obtain ⟨k2, hk2⟩ := (q6 b).mp ⟨k, hb⟩
    exact P6 k2 b hk2
  · have hW := hP a ha
    rw [if_neg hal] at hW
    obtain ⟨vl2, l2, n2, e1, e2, e3, e4, e5, e6, e7⟩ := hW
    have i1 := ld_all ha
    have i2 := ld_all hld
    refine ⟨vl2, l2, n2, (q11 a hal (by omega)).trans e1, e2, e3, (q11 (a + 11) (by omega) (by omega)).trans e4, e5, e6, fun k hk => ?_⟩
    obtain ⟨b, g1, us, x, g2, g3, g4⟩ := e7 k (Nat.zero_le _) hk
    have i3 := e6 k b g1
    exact ⟨b, g1, us, x, (q11 b (by omega) (by omega)).trans g2, g3, g4⟩
end BEG
