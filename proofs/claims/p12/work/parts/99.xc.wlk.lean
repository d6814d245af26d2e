/-! BY HAND, the class: step, Walker.begin, leaveIfDone, choose, tread, due, as the loops of go ask for them -/
def mdBd : Md := [(1, 17), (1, 18), (7, 10), (8, 0), (8, 1), (8, 2), (8, 3), (8, 4), (1012, 0), (1014, 0), (1015, 0), (1016, 0), (1037, 0), (1039, 0)]
def mdBg : Md := [(1, 19), (8, 0), (8, 1), (8, 2), (8, 3), (8, 4), (1016, 0)]
set_option maxRecDepth 100000 in
theorem ly_land : fdB 22 7 7 8 = true := by decide +kernel
set_option maxRecDepth 100000 in
theorem ly_grid : fdB 22 7 0 23 = true := by decide +kernel
set_option maxRecDepth 100000 in
theorem ly_bes : fdB 23 0 2 26 = true := by decide +kernel
set_option maxRecDepth 100000 in
theorem ly_crowd : fdB 8 1 9 16 = true := by decide +kernel
set_option maxRecDepth 100000 in
theorem ly_crowdr : irB 16 256 (-2147483648) 2147483647 = true := by decide +kernel
set_option maxRecDepth 100000 in
theorem ly_door : fdB 8 1 10 17 = true := by decide +kernel
set_option maxRecDepth 100000 in
theorem ly_doorr : irB 17 9 0 255 = true := by decide +kernel
set_option maxRecDepth 100000 in
theorem ly_wish : fdB 8 1 12 18 = true := by decide +kernel
set_option maxRecDepth 100000 in
theorem ly_wishr : rrB 18 7 24 20 = true := by decide +kernel
set_option maxRecDepth 100000 in
theorem ly_wk : fdB 8 1 14 19 = true := by decide +kernel
set_option maxRecDepth 100000 in
theorem ly_wkr : rrB 19 6 60 21 = true := by decide +kernel
set_option maxRecDepth 100000 in
theorem ly_wishes : fiB 8 1 13 0 24 = true := by decide +kernel
set_option maxRecDepth 100000 in
theorem ly_walkers : fiB 8 1 15 0 60 = true := by decide +kernel
set_option maxRecDepth 100000 in
theorem ly_tick : fiB 8 1 16 (-2147483648) 2147483647 = true := by decide +kernel
set_option maxRecDepth 100000 in
theorem ly_arr : fiB 8 1 17 (-2147483648) 2147483647 = true := by decide +kernel
set_option maxRecDepth 100000 in
theorem ly_lost : fiB 8 1 18 (-2147483648) 2147483647 = true := by decide +kernel
set_option maxRecDepth 100000 in
theorem ly_turn : fiB 8 1 19 (-2147483648) 2147483647 = true := by decide +kernel
set_option maxRecDepth 100000 in
theorem ly_from : fiB 20 9 0 0 8 = true := by decide +kernel
set_option maxRecDepth 100000 in
theorem ly_to : fiB 20 9 1 0 8 = true := by decide +kernel
set_option maxRecDepth 100000 in
theorem ly_habit : fiB 20 9 2 0 5 = true := by decide +kernel
set_option maxRecDepth 100000 in
theorem ly_cell : fiB 21 8 0 (-1) 255 = true := by decide +kernel
set_option maxRecDepth 100000 in
theorem ly_wwish : fiB 21 8 1 0 23 = true := by decide +kernel
set_option maxRecDepth 100000 in
theorem ly_age : fiB 21 8 2 (-2147483648) 2147483647 = true := by decide +kernel
set_option maxRecDepth 100000 in
theorem ly_came : fiB 21 8 3 (-2147483648) 2147483647 = true := by decide +kernel
set_option maxRecDepth 100000 in
theorem ly_way : fiB 21 8 4 (-2147483648) 2147483647 = true := by decide +kernel
set_option maxRecDepth 100000 in
theorem ly_trodw : fiB 22 7 10 0 1 = true := by decide +kernel
set_option maxRecDepth 100000 in
theorem sU_26 : gNth sU 26 = some (some 108) := by decide +kernel
set_option maxRecDepth 100000 in
theorem sG_26 : gNth sG 26 = some (.inr (1, 2048, .inl [(0, 1024, 1, [(.negSucc 0, .ofNat 255)]), (1024, 2048, 1, [(.negSucc 0, .ofNat 255)])])) := by rfl
section WLK
variable {S : Nat → Prop} {ld e : Nat} {M : Mem}
theorem LD.obj (hT : TM sT sG M) (hL : LD ld M) : ∃ vw vl, gNth M 104 = some (.inr (7, vw)) ∧ gNth vw 7 = some (.ref ld) ∧ gNth M ld = some (.inr (1, vl)) := by
  obtain ⟨vw, e1, e2⟩ := hL
  obtain ⟨vs, y, f1, _⟩ := hT.fnum (LD.grp hT ⟨vw, e1, e2⟩) ly_tick
  exact ⟨vw, vs, e1, e2, f1⟩
/-- a place of the land's row of ints -/
theorem LD.irow {k g n j : Nat} {lo hi : Int} {vl : List Value} {x : Int32} (hT : TM sT sG M) (hL : LD ld M) (hM : gNth M ld = some (.inr (1, vl))) (h1 : fdB 8 1 k g = true) (h2 : irB g n lo hi = true) (hx : x.toInt = (j : Int)) (hj : j < n) : ∃ a l y, gNth vl k = some (.ref a) ∧ gNth sT a = some g ∧ gNth M a = some (.inl (1, .inl l)) ∧ gAt l x = some y ∧ lo ≤ y.toInt ∧ y.toInt ≤ hi := by
  obtain ⟨vs, b, f1, f2, f3⟩ := hT.fref (hL.grp hT) h1
  cases f1.symm.trans hM
  obtain ⟨l, g1, g2, g3, _⟩ := hT.irow f3 h2
  obtain ⟨y, i1, i2⟩ := at_c (l := l) hx (by omega)
  exact ⟨b, l, y, f2, f3, g1, i1, g3 j y i2⟩
/-- a place of the land's row of objects -/
theorem LD.rrow {k g kd n g2 j : Nat} {vl : List Value} {x : Int32} (hT : TM sT sG M) (hL : LD ld M) (hM : gNth M ld = some (.inr (1, vl))) (h1 : fdB 8 1 k g = true) (h2 : rrB g kd n g2 = true) (hx : x.toInt = (j : Int)) (hj : j < n) : ∃ a l b, gNth vl k = some (.ref a) ∧ gNth sT a = some g ∧ gNth M a = some (.inl (kd, .inr (.inr l))) ∧ gAt l x = some (some b) ∧ gNth l j = some (some b) ∧ gNth sT b = some g2 := by
  obtain ⟨vs, b, f1, f2, f3⟩ := hT.fref (hL.grp hT) h1
  cases f1.symm.trans hM
  obtain ⟨l, g1, g4, g3, _⟩ := hT.rref f3 h2
  obtain ⟨y, i1, i2⟩ := at_c (l := l) hx (by omega)
  obtain ⟨c, rfl, hc⟩ := g3 j y i2
  exact ⟨b, l, c, f2, f3, g1, i1, i2, hc⟩
theorem ev_step {o : Nat} {c d : Int32} {M0 : Mem} (T0 : TM sT sG M0) (L0 : LD ld M0) (ho : gNth sT o = some 21) (hS : S o ∨ 0 ≤ c.toInt) (z1 : -1 ≤ c.toInt) (z2 : c.toInt ≤ 255) : ∃ M', Ev none e 74 0 [some (.ref o), some (.int c), some (.int d)] [] M0 none M' 0 0 ∧ KP S mdBd ld M0 M' ∧ ∃ vo, gNth M' o = some (.inr (8, vo)) ∧ gNth vo 0 = some (.int c) := by
  obtain ⟨w0, x0, p0, q0, _⟩ := T0.fnum ho ly_cell
  obtain ⟨v0, y0, a0, b0, c0, _, _, _⟩ := T0.fnum ho ly_came
  obtain ⟨M1, m1⟩ : ∃ N, N = gPut M0 o (.inr (8, gPut v0 3 (.int (x0)))) := ⟨_, rfl⟩
  have K1 : KP S mdBd ld M0 M1 := by rw [m1]; exact KP.fld T0 L0 ho ly_came a0 (by decide) (i32_lt _).1 (i32_lt _).2 (by decide) (Or.inl (by decide))
  have T1 := K1.1
  have L1 := K1.2.2.1
  obtain ⟨v1, y1, a1, b1, c1, _, _, _⟩ := T1.fnum ho ly_cell
  obtain ⟨M2, m2⟩ : ∃ N, N = gPut M1 o (.inr (8, gPut v1 0 (.int (c)))) := ⟨_, rfl⟩
  have K2 : KP S mdBd ld M1 M2 := by rw [m2]; exact KP.fld T1 L1 ho ly_cell a1 (by decide) z1 z2 (by decide) (Or.inr hS)
  have T2 := K2.1
  have L2 := K2.2.2.1
  obtain ⟨v2, y2, a2, b2, c2, _, _, _⟩ := T2.fnum ho ly_way
  obtain ⟨M3, m3⟩ : ∃ N, N = gPut M2 o (.inr (8, gPut v2 4 (.int (d)))) := ⟨_, rfl⟩
  have K3 : KP S mdBd ld M2 M3 := by rw [m3]; exact KP.fld T2 L2 ho ly_way a2 (by decide) (i32_lt _).1 (i32_lt _).2 (by decide) (Or.inl (by decide))
  have T3 := K3.1
  have L3 := K3.2.2.1
  cases a0.symm.trans p0
  refine ⟨M3, ?_, K1.trans (K2.trans K3), gPut v2 4 (.int d), by rw [m3, nth_put, if_pos ⟨rfl, gNth_lt _ _ _ a2⟩], ?_⟩
  · refine st_0 a0 q0 c0 ?_
    rw [← m1]
    refine st_8 a1 c1 ?_
    rw [← m2, m3]
    exact st_13 a2 c2
  · have a2' := a2
    rw [m2, nth_put, if_pos ⟨rfl, gNth_lt _ _ _ a1⟩] at a2'
    cases a2'
    rw [nth_put, if_neg (by omega), nth_put, if_pos ⟨rfl, c1⟩]
theorem ev_wbegin {o : Nat} {c k : Int32} {M0 : Mem} (T0 : TM sT sG M0) (L0 : LD ld M0) (ho : gNth sT o = some 21) (z1 : 0 ≤ c.toInt) (z2 : c.toInt ≤ 255) (k1 : 0 ≤ k.toInt) (k2 : k.toInt ≤ 23) : ∃ M', Ev none e 73 0 [some (.ref o), some (.int c), some (.int k)] [] M0 none M' 0 0 ∧ KP S mdBg ld M0 M' ∧ cge M' o := by
  obtain ⟨v0, y0, a0, b0, c0, _, _, _⟩ := T0.fnum ho ly_cell
  obtain ⟨M1, m1⟩ : ∃ N, N = gPut M0 o (.inr (8, gPut v0 0 (.int (c)))) := ⟨_, rfl⟩
  have K1 : KP S mdBg ld M0 M1 := by rw [m1]; exact KP.fld T0 L0 ho ly_cell a0 (by decide) (by omega) z2 (by decide) (Or.inr (Or.inr z1))
  have T1 := K1.1
  have L1 := K1.2.2.1
  obtain ⟨v1, y1, a1, b1, c1, _, _, _⟩ := T1.fnum ho ly_wwish
  obtain ⟨M2, m2⟩ : ∃ N, N = gPut M1 o (.inr (8, gPut v1 1 (.int (k)))) := ⟨_, rfl⟩
  have K2 : KP S mdBg ld M1 M2 := by rw [m2]; exact KP.fld T1 L1 ho ly_wwish a1 (by decide) k1 k2 (by decide) (Or.inl (by decide))
  have T2 := K2.1
  have L2 := K2.2.2.1
  obtain ⟨v2, y2, a2, b2, c2, _, _, _⟩ := T2.fnum ho ly_age
  obtain ⟨M3, m3⟩ : ∃ N, N = gPut M2 o (.inr (8, gPut v2 2 (.int (0)))) := ⟨_, rfl⟩
  have K3 : KP S mdBg ld M2 M3 := by rw [m3]; exact KP.fld T2 L2 ho ly_age a2 (by decide) (i32_lt _).1 (i32_lt _).2 (by decide) (Or.inl (by decide))
  have T3 := K3.1
  have L3 := K3.2.2.1
  obtain ⟨v3, y3, a3, b3, c3, _, _, _⟩ := T3.fnum ho ly_came
  obtain ⟨M4, m4⟩ : ∃ N, N = gPut M3 o (.inr (8, gPut v3 3 (.int (-1)))) := ⟨_, rfl⟩
  have K4 : KP S mdBg ld M3 M4 := by rw [m4]; exact KP.fld T3 L3 ho ly_came a3 (by decide) (i32_lt _).1 (i32_lt _).2 (by decide) (Or.inl (by decide))
  have T4 := K4.1
  have L4 := K4.2.2.1
  obtain ⟨v4, y4, a4, b4, c4, _, _, _⟩ := T4.fnum ho ly_way
  obtain ⟨M5, m5⟩ : ∃ N, N = gPut M4 o (.inr (8, gPut v4 4 (.int (-1)))) := ⟨_, rfl⟩
  have K5 : KP S mdBg ld M4 M5 := by rw [m5]; exact KP.fld T4 L4 ho ly_way a4 (by decide) (i32_lt _).1 (i32_lt _).2 (by decide) (Or.inl (by decide))
  have T5 := K5.1
  have L5 := K5.2.2.1
  have hc : cge M1 o := ⟨_, c, by rw [m1, nth_put, if_pos ⟨rfl, gNth_lt _ _ _ a0⟩], by rw [nth_put, if_pos ⟨rfl, c0⟩], z1⟩
  have keep : ∀ {N N' : Mem} {vs : List Value} {kk : Nat} {z : Value}, gNth N o = some (.inr (8, vs)) → N' = gPut N o (.inr (8, gPut vs kk z)) → kk ≠ 0 → cge N o → cge N' o := by
    rintro N N' vs kk z h1 rfl hk ⟨us, x, g2, g3, g4⟩
    cases g2.symm.trans h1
    exact ⟨_, x, by rw [nth_put, if_pos ⟨rfl, gNth_lt _ _ _ h1⟩], by rw [nth_put, if_neg (fun q => hk q.1.symm)]; exact g3, g4⟩
  refine ⟨M5, ?_, K1.trans (K2.trans (K3.trans (K4.trans K5))), keep a4 m5 (by decide) (keep a3 m4 (by decide) (keep a2 m3 (by decide) (keep a1 m2 (by decide) hc)))⟩
  refine wb_0 a0 c0 ?_
  rw [← m1]
  refine wb_5 a1 c1 ?_
  rw [← m2]
  refine wb_10 a2 c2 ?_
  rw [← m3]
  refine wb_15 a3 c3 ?_
  rw [← m4, m5]
  exact wb_20 a4 c4
theorem ev_leave {o cn : Nat} {gl x : Int32} {vo : List Value} {M0 : Mem} (T0 : TM sT sG M0) (L0 : LD ld M0) (ho : gNth sT o = some 21) (hM : gNth M0 o = some (.inr (8, vo))) (hx : gNth vo 0 = some (.int x)) (hc : x.toInt = (cn : Int)) (hc2 : cn ≤ 255) : ∃ M', Ev none e 60 0 [some (.ref 104), some (.ref o), some (.int gl), none] [] M0 none M' 0 0 ∧ KP (fun b => b = o) mdBd ld M0 M' := by
  have gone : ∀ (ar : Int32), ∃ M', Ev none e 60 29 [some (.ref 104), some (.ref o), some (.int gl), some (.int ar)] [] M0 none M' 0 0 ∧ KP (fun b => b = o) mdBd ld M0 M' := by
    intro ar
    obtain ⟨vw, vl, w1, w2, w3⟩ := L0.obj T0
    obtain ⟨v0, y0, a0, b0, c0, _, _, _⟩ := T0.fnum (L0.grp T0) ly_arr
    cases w3.symm.trans a0
    have st : ∀ (z1 z2 : Int32), ∃ M1 M2, M1 = gPut M0 ld (.inr (1, gPut vl 17 (.int z1))) ∧ KP (fun b => b = o) mdBd ld M0 M1 ∧ ∃ vl1 y1, gNth M1 ld = some (.inr (1, vl1)) ∧ gNth vl1 18 = some (.int y1) ∧ 18 < vl1.length ∧ M2 = gPut M1 ld (.inr (1, gPut vl1 18 (.int (y1 + z2)))) ∧ KP (fun b => b = o) mdBd ld M1 M2 := by
      intro z1 z2
      have K1 : KP (fun b => b = o) mdBd ld M0 (gPut M0 ld (.inr (1, gPut vl 17 (.int z1)))) := KP.fld T0 L0 (L0.grp T0) ly_arr w3 (by decide) (i32_lt _).1 (i32_lt _).2 (by decide) (Or.inl (by decide))
      obtain ⟨v1, y1, a1, b1, c1, _, _, _⟩ := K1.1.fnum (K1.2.2.1.grp K1.1) ly_lost
      exact ⟨_, _, rfl, K1, v1, y1, a1, b1, c1, rfl, KP.fld K1.1 K1.2.2.1 (K1.2.2.1.grp K1.1) ly_lost a1 (by decide) (i32_lt _).1 (i32_lt _).2 (by decide) (Or.inl (by decide))⟩
    have fin : ∀ M2, KP (fun b => b = o) mdBd ld M0 M2 → gNth M2 o = some (.inr (8, vo)) → ∃ M', Ev none e 60 71 [some (.ref 104), some (.ref o), some (.int gl), some (.int ar)] [] M2 none M' 0 0 ∧ KP (fun b => b = o) mdBd ld M0 M' := by
      intro M2 K2 ho2
      have T2 := K2.1
      have L2 := K2.2.2.1
      obtain ⟨vw, vl, w1, w2, w3⟩ := L2.obj T2
      obtain ⟨a, l, y, r1, r2, r3, r4, _⟩ := L2.irow T2 w3 ly_crowd ly_crowdr hc (by omega)
      obtain ⟨M3, m3⟩ : ∃ N, N = gPut M2 a (.inl (1, .inl (gPut l x.toNatClampNeg (y - 1)))) := ⟨_, rfl⟩
      have K3 : KP (fun b => b = o) mdBd ld M2 M3 := by rw [m3]; exact KP.row T2 L2 r2 ly_crowdr r3 (by decide) (i32_lt _).1 (i32_lt _).2
      have ho3 : gNth M3 o = some (.inr (8, vo)) := by rw [m3, nth_put, if_neg (fun q => by rw [q.1, r3] at ho2; cases ho2)]; exact ho2
      obtain ⟨v4, y4, a4, b4, c4, _, _, _⟩ := K3.1.fnum ho ly_cell
      cases a4.symm.trans ho3
      refine ⟨gPut M3 o (.inr (8, gPut vo 0 (.int (-1)))), ld_71 w1 w2 w3 r1 ho2 hx r3 r4 (by rw [← m3]; exact ld_87 ho3 c4), K2.trans (K3.trans (KP.fld K3.1 K3.2.2.1 ho ly_cell ho3 (by decide) (z := -1) (by decide) (by decide) (by decide) (Or.inr (Or.inl rfl))))⟩
    have obj : ∀ {N : Mem} {vs : List Value} {k : Nat} {z : Value}, gNth N ld = some (.inr (1, vs)) → gNth N o = some (.inr (8, vo)) → gNth (gPut N ld (.inr (1, gPut vs k z))) o = some (.inr (8, vo)) := by
      intro N vs k z h1 h2
      rw [nth_put, if_neg (fun q => by rw [q.1, h1] at h2; cases h2)]
      exact h2
    by_cases ha : ar = 0
    · obtain ⟨M1, M2, m1, K1, vl1, y1, n1, n2, n3, m2, K2⟩ := st (y0 + 0) 1
      obtain ⟨MF, f1, f2⟩ := fin M2 (K1.trans K2) (by rw [m2]; exact obj n1 (by rw [m1]; exact obj w3 hM))
      obtain ⟨vw1, vl9, u1, u2, u3⟩ := K1.2.2.1.obj K1.1
      cases u3.symm.trans n1
      refine ⟨MF, ld_29 w1 w2 w3 b0 ?_, f2⟩
      rw [if_pos ha]
      refine ld_45 w3 c0 ?_
      rw [← m1]
      refine ld_50 u1 u2 n1 n2 ?_
      rw [if_pos ha]
      refine ld_66 n1 n3 ?_
      rw [← m2]
      exact f1
    · obtain ⟨M1, M2, m1, K1, vl1, y1, n1, n2, n3, m2, K2⟩ := st (y0 + 1) 0
      obtain ⟨MF, f1, f2⟩ := fin M2 (K1.trans K2) (by rw [m2]; exact obj n1 (by rw [m1]; exact obj w3 hM))
      obtain ⟨vw1, vl9, u1, u2, u3⟩ := K1.2.2.1.obj K1.1
      cases u3.symm.trans n1
      refine ⟨MF, ld_29 w1 w2 w3 b0 ?_, f2⟩
      rw [if_neg ha]
      refine ld_41 w3 c0 ?_
      rw [← m1]
      refine ld_50 u1 u2 n1 n2 ?_
      rw [if_neg ha]
      refine ld_62 n1 n3 ?_
      rw [← m2]
      exact f1
  by_cases h : x = gl
  · obtain ⟨MF, f1, f2⟩ := gone 1
    exact ⟨MF, ld_0 hM hx (by rw [if_pos h]; exact ld_8 (by rw [if_neg (by decide)]; exact f1)), f2⟩
  · obtain ⟨v2, y2, a2, b2, c2, _⟩ := T0.fnum ho ly_age
    cases a2.symm.trans hM
    by_cases h2 : 200 ≤ y2
    · obtain ⟨MF, f1, f2⟩ := gone 0
      exact ⟨MF, ld_0 hM hx (by rw [if_neg h]; exact ld_12 (by rw [if_pos rfl]; exact ld_18 hM b2 (by rw [if_pos h2]; exact f1))), f2⟩
    · exact ⟨M0, ld_0 hM hx (by rw [if_neg h]; exact ld_12 (by rw [if_pos rfl]; exact ld_18 hM b2 (by rw [if_neg h2]; exact ld_28))), KP.refl T0 L0⟩
set_option maxRecDepth 100000 in
theorem mRg : (gNth mRs 66).map (fun q => q.2.2.2.1) = some 10 ∧ (gNth mRs 62).map (fun q => q.2.2.2.1) = some 3 ∧ (gNth mRs 78).map (fun q => q.2.2.2.1) = some 2 := by refine ⟨?_, ?_, ?_⟩ <;> decide +kernel
theorem ev_due {b : Nat} {t : Int32} (hT : TM sT sG M) (hb : gNth sT b = some 20) : ∃ r M', Ev none (e + 1) 78 0 [some (.ref b), some (.int t)] [] M (some (.int r)) M' 0 0 ∧ TM sT sG M' ∧ Frm sT [] M M' := by
  obtain ⟨v, M', e1, e2, e3, s, e4, e5⟩ := use_cn (c := kX9_due) (ws := [.ref b, .int t]) kX9_due_ok mRg.2.2 rfl rfl (d := e + 1) (Nat.zero_le _) ⟨⟨b, rfl, hb⟩, ⟨t, rfl, i32_lt t⟩, trivial⟩ hT
  cases List.mem_singleton.mp e4
  cases v with
  | none => exact e5.elim
  | some w =>
    obtain ⟨r, rfl, _⟩ := e5
    exact ⟨r, M', e1, e2, e3⟩
theorem ev_tread {c : Int32} (hT : TM sT sG M) (hL : LD ld M) (c1 : 0 ≤ c.toInt) (c2 : c.toInt ≤ 255) : ∃ M', Ev none (e + 3) 62 0 [some (.ref 104), some (.int c), none] [] M none M' 0 0 ∧ KP S mdBd ld M M' ∧ Frm sT [(7, 10), (1012, 0), (1014, 0), (1015, 0), (1037, 0)] M M' := by
  obtain ⟨v, M', e1, e2, e3, s, e4, e5⟩ := use_cn (c := kX7_tread) (ws := [.ref 104, .int c]) kX7_tread_ok mRg.2.1 rfl rfl (d := e + 3) (Nat.le_add_left _ _) ⟨rfl, ⟨c, rfl, c1, c2⟩, trivial⟩ hT
  cases List.mem_singleton.mp e4
  cases v with
  | none => exact ⟨M', e1, KP.call e2 e3 (by decide +kernel) (by decide) (by decide) hL, e3⟩
  | some w => exact e5.elim
theorem ev_choose {o : Nat} {vo : List Value} {x gl hb : Int32} (hT : TM sT sG M) (hL : LD ld M) (ho : gNth sT o = some 21) (hM : gNth M o = some (.inr (8, vo))) (hx : gNth vo 0 = some (.int x)) (x1 : 0 ≤ x.toInt) (x2 : x.toInt ≤ 255) (g1 : 0 ≤ gl.toInt) (g2 : gl.toInt ≤ 255) (h1 : 0 ≤ hb.toInt) (h2 : hb.toInt ≤ 5) : ∃ r M', Ev none (e + 3) 66 0 [some (.ref 104), some (.ref o), some (.int gl), some (.int hb), none, none, none, none, none, none] [] M (some (.int r)) M' 0 0 ∧ KP S mdBd ld M M' ∧ (∃ vo', gNth M' o = some (.inr (8, vo')) ∧ gNth vo' 0 = some (.int x)) ∧ (r = -1 ∨ ∃ l y, gNth M' 108 = some (.inl (1, .inl l)) ∧ gAt l (8 * x + r) = some y ∧ 0 ≤ y.toInt ∧ y.toInt ≤ 255) := by
  cases hq : gNth mRs 66 with
  | none => have := mRg.1; rw [hq] at this; cases this
  | some q =>
    have hm := mRg.1
    rw [hq] at hm
    have hm : q.2.2.2.1 = 10 := Option.some.inj hm
    obtain ⟨v, M', e1, e2, e3, s, e4, ⟨e5, _, hv, e6, _, e7⟩, _⟩ := kX7_choose_ok (e + 3) M [.ref 104, .ref o, .int gl, .int hb] q (Nat.le_add_left _ _) hq ⟨rfl, ⟨o, rfl, ho⟩, ⟨gl, rfl, g1, g2⟩, ⟨hb, rfl, h1, h2⟩, trivial⟩ ⟨[.int x], ⟨⟨o, vo, rfl, hM, hx, x, rfl, x1, x2⟩, trivial⟩, fun f hf => by cases hf⟩ hT
    rw [hm] at e1
    have hF : Frm sT [(1037, 0), (1039, 0)] M M' := e3
    obtain ⟨vo', i1, i2, i3⟩ := hF.2.1 _ _ _ hM
    have hx' : gNth vo' 0 = some (.int x) := (i3 0 (by decide)).trans hx
    have hK : KP S mdBd ld M M' := KP.call e2 hF (by decide +kernel) (by decide) (by decide) hL
    have e4 : s ∈ [((some (.inl (.negSucc 0, .negSucc 0)) : Option TA), ([] : List (Nat × Iv)), ([] : List HT), ([] : List FP), ([] : List EL)), (some (.inl (.ofNat 0, .ofNat 7)), [], [(.inr 1, 8, 0, .inl (.ofNat 0, .ofNat 255))], [], [(108, [(0, .ofNat 1), (5, .ofNat 8)], .ofNat 0, (.ofNat 0, .ofNat 255))])] := e4
    rcases List.mem_cons.mp e4 with rfl | e4
    · cases v with
      | none => exact e5.elim
      | some w =>
        obtain ⟨r, rfl, r1, r2⟩ := e5
        refine ⟨r, M', e1, hK, ⟨vo', i1, hx'⟩, Or.inl (Int32.toInt_inj.mp ?_)⟩
        have r1 : (-1 : Int) ≤ r.toInt := r1
        have r2 : r.toInt ≤ (-1 : Int) := r2
        show r.toInt = -1
        omega
    · cases List.mem_singleton.mp e4
      cases v with
      | none => exact e5.elim
      | some w =>
        obtain ⟨r, rfl, r1, r2⟩ := e5
        have r1 : (0 : Int) ≤ r.toInt := r1
        have r2 : r.toInt ≤ (7 : Int) := r2
        rcases hv with _ | ⟨hv, _ | ⟨_, _⟩⟩
        · exact e6.elim
        rotate_left
        · exact e6.2.elim
        obtain ⟨⟨o9, vs9, k1, k2, k3, x9, rfl, _⟩, _⟩ := e6
        cases (show some (Value.ref o) = some (.ref o9) from k1)
        cases k2.symm.trans i1
        cases k3.symm.trans hx'
        obtain ⟨i, y, t, l, z, f1, f2, f3, f4, f5, f6⟩ := e7 _ (List.mem_singleton.mpr rfl)
        have f1 : some (1 * r.toInt + (8 * x.toInt + 0)) = some y := f1
        have f1 := Option.some.inj f1
        have f2 : y + 0 = (i : Int) := f2
        obtain ⟨vs, b, w1, w2, w3⟩ := e2.fref sT_104 ly_grid
        obtain ⟨vs2, b2, w4, w5, w6⟩ := e2.fref w3 ly_bes
        have hb2 : b2 = 108 := sU_ok _ _ _ w6 sU_26
        subst hb2
        obtain ⟨ee, q1, q2⟩ := e2.at w6 sG_26
        have f3 : gNth M' 108 = some (.inl (t, .inl l)) := f3
        have ht : t = 1 := by
          cases q1.symm.trans f3
          obtain ⟨l9, q3, _⟩ := ct_int (by decide) q2
          cases q3
          rfl
        subst ht
        have hm8 : (8 * x).toInt = 8 * x.toInt := by
          have o8 : (8 : Int32).toInt = 8 := rfl
          rw [i32_mul (by rw [o8]; omega) (by rw [o8]; omega), o8]
        have hj : (8 * x + r).toInt = (i : Int) := by
          rw [i32_add (by rw [hm8]; omega) (by rw [hm8]; omega), hm8]
          omega
        obtain ⟨z2, z3, z4⟩ := at_c (l := l) hj (gNth_lt _ _ _ f4)
        cases z4.symm.trans f4
        exact ⟨r, M', e1, hK, ⟨vo', i1, hx'⟩, Or.inr ⟨l, z, f3, z3, f5, f6⟩⟩
end WLK
/-! BY HAND, the class: begin, sweep, go -/
theorem cal_due {M : Mem} {vs : List Value} {a : Nat} {a0 : Int32} {rest : List Value} (hM : gNth M a = some (.inr (9, vs))) (hr : gRoom rest = true) : gCal (.invokevirtual 164) 7 (.int a0 :: .ref a :: rest) M = some (.inr (78, [some (.ref a), some (.int a0)], rest)) := by
  show @cond (Option ((List Value × Mem) ⊕ (Nat × Lo × List Value))) (true && gRecv M (.ref a) 9 && gRoom rest && true) (some (.inr (78, [some (.ref a), some (.int a0)], rest))) none = _
  rw [recv_c hM, hr]
  rfl
theorem cal_wb {M : Mem} {vs : List Value} {a : Nat} {a0 : Int32} {a1 : Int32} {rest : List Value} (hM : gNth M a = some (.inr (8, vs))) (hr : gRoom rest = true) : gCal (.invokevirtual 173) 7 (.int a1 :: .int a0 :: .ref a :: rest) M = some (.inr (73, [some (.ref a), some (.int a0), some (.int a1)], rest)) := by
  show @cond (Option ((List Value × Mem) ⊕ (Nat × Lo × List Value))) (true && gRecv M (.ref a) 8 && gRoom rest && true) (some (.inr (73, [some (.ref a), some (.int a0), some (.int a1)], rest))) none = _
  rw [recv_c hM, hr]
  rfl
theorem cal_bg {M : Mem} {vs : List Value} {a : Nat} {rest : List Value} (hM : gNth M a = some (.inr (7, vs))) (hr : gRoom rest = true) : gCal (.invokevirtual 101) 7 (.ref a :: rest) M = some (.inr (59, [some (.ref a), none, none, none], rest)) := by
  show @cond (Option ((List Value × Mem) ⊕ (Nat × Lo × List Value))) (true && gRecv M (.ref a) 7 && gRoom rest && true) (some (.inr (59, [some (.ref a), none, none, none], rest))) none = _
  rw [recv_c hM, hr]
  rfl
theorem cal_ch {M : Mem} {vs : List Value} {a : Nat} {a0 : Nat} {a1 : Int32} {a2 : Int32} {rest : List Value} (hM : gNth M a = some (.inr (7, vs))) (hr : gRoom rest = true) : gCal (.invokevirtual 128) 7 (.int a2 :: .int a1 :: .ref a0 :: .ref a :: rest) M = some (.inr (66, [some (.ref a), some (.ref a0), some (.int a1), some (.int a2), none, none, none, none, none, none], rest)) := by
  show @cond (Option ((List Value × Mem) ⊕ (Nat × Lo × List Value))) (true && gRecv M (.ref a) 7 && gRoom rest && true) (some (.inr (66, [some (.ref a), some (.ref a0), some (.int a1), some (.int a2), none, none, none, none, none, none], rest))) none = _
  rw [recv_c hM, hr]
  rfl
theorem cal_st {M : Mem} {vs : List Value} {a : Nat} {a0 : Int32} {a1 : Int32} {rest : List Value} (hM : gNth M a = some (.inr (8, vs))) (hr : gRoom rest = true) : gCal (.invokevirtual 141) 7 (.int a1 :: .int a0 :: .ref a :: rest) M = some (.inr (74, [some (.ref a), some (.int a0), some (.int a1)], rest)) := by
  show @cond (Option ((List Value × Mem) ⊕ (Nat × Lo × List Value))) (true && gRecv M (.ref a) 8 && gRoom rest && true) (some (.inr (74, [some (.ref a), some (.int a0), some (.int a1)], rest))) none = _
  rw [recv_c hM, hr]
  rfl
theorem cal_tr {M : Mem} {vs : List Value} {a : Nat} {a0 : Int32} {rest : List Value} (hM : gNth M a = some (.inr (7, vs))) (hr : gRoom rest = true) : gCal (.invokevirtual 144) 7 (.int a0 :: .ref a :: rest) M = some (.inr (62, [some (.ref a), some (.int a0), none], rest)) := by
  show @cond (Option ((List Value × Mem) ⊕ (Nat × Lo × List Value))) (true && gRecv M (.ref a) 7 && gRoom rest && true) (some (.inr (62, [some (.ref a), some (.int a0), none], rest))) none = _
  rw [recv_c hM, hr]
  rfl
theorem cal_lv {M : Mem} {vs : List Value} {a : Nat} {a0 : Nat} {a1 : Int32} {rest : List Value} (hM : gNth M a = some (.inr (7, vs))) (hr : gRoom rest = true) : gCal (.invokevirtual 151) 7 (.int a1 :: .ref a0 :: .ref a :: rest) M = some (.inr (60, [some (.ref a), some (.ref a0), some (.int a1), none], rest)) := by
  show @cond (Option ((List Value × Mem) ⊕ (Nat × Lo × List Value))) (true && gRecv M (.ref a) 7 && gRoom rest && true) (some (.inr (60, [some (.ref a), some (.ref a0), some (.int a1), none], rest))) none = _
  rw [recv_c hM, hr]
  rfl
theorem cal_sw {M : Mem} {vs : List Value} {a : Nat} {rest : List Value} (hM : gNth M a = some (.inr (7, vs))) (hr : gRoom rest = true) : gCal (.invokevirtual 155) 7 (.ref a :: rest) M = some (.inr (61, [some (.ref a), none, none, none], rest)) := by
  show @cond (Option ((List Value × Mem) ⊕ (Nat × Lo × List Value))) (true && gRecv M (.ref a) 7 && gRoom rest && true) (some (.inr (61, [some (.ref a), none, none, none], rest))) none = _
  rw [recv_c hM, hr]
  rfl
def mdBe : Md := [(1, 15), (1, 19), (8, 0), (8, 1), (8, 2), (8, 3), (8, 4), (1016, 0)]
set_option maxRecDepth 100000 in
theorem sT_108 : gNth sT 108 = some 26 := by decide +kernel
/-- a field of the land that is kept -/
theorem fk {ld k : Nat} {md : Md} {M M' : Mem} {vl : List Value} {v : Value} (hF : Frm sT md M M') (hm : (1, k) ∉ md) (h1 : gNth M ld = some (.inr (1, vl))) (h2 : gNth vl k = some v) : ∃ vl', gNth M' ld = some (.inr (1, vl')) ∧ gNth vl' k = some v := by
  obtain ⟨vl', f1, _, f3⟩ := hF.2.1 _ _ _ h1
  exact ⟨vl', f1, (f3 k hm).trans h2⟩
section BEG
variable {ld e : Nat}
set_option maxHeartbeats 1000000 in
theorem bg_loop (hld : ld ∈ [8, 243, 345, 441, 537]) {nw : Int32} {nn : Nat} (hn : nw.toInt = (nn : Int)) (h24 : nn ≤ 24) : ∀ (j kn : Nat) (k : Int32) (M : Mem) (x2 x3 : Option Value), kn + j = nn → k.toInt = (kn : Int) → TM sT sG M → LD ld M → P34 M → (∃ vl, gNth M ld = some (.inr (1, vl)) ∧ gNth vl 13 = some (.int nw)) → ∃ M', Ev none (e + 2) 59 2 [some (.ref 104), some (.int k), x2, x3] [] M none M' 0 0 ∧ TM sT sG M' ∧ Frm sT mdBe M M' ∧ LD ld M' ∧ P34 M' := by
  intro j
  induction j with
  | zero =>
    rintro kn k M x2 x3 hj hk hT hL hP ⟨vl, m1, m2⟩
    obtain ⟨vw, vl', w1, w2, w3⟩ := hL.obj hT
    cases w3.symm.trans m1
    exact ⟨M, bg_2 w1 w2 w3 m2 (by rw [if_pos (by rw [Int32.le_iff_toInt_le]; omega)]; exact bg_133), hT, Frm.refl _, hL, hP⟩
  | succ j ih =>
    rintro kn k M x2 x3 hj hk hT hL hP ⟨vl, m1, m2⟩
    obtain ⟨vw, vl', w1, w2, w3⟩ := hL.obj hT
    cases w3.symm.trans m1
    have hlt : ¬ nw ≤ k := by rw [Int32.le_iff_toInt_le]; omega
    have ek : (k + 1).toInt = k.toInt + 1 := i32_p1 (by omega)
    obtain ⟨ra, rl, b, r1, r2, r3, r4, r5, r6⟩ := hL.rrow hT w3 ly_wish ly_wishr hk (by omega)
    obtain ⟨v16, t16, f1, f2, _⟩ := hT.fnum (hL.grp hT) ly_tick
    cases f1.symm.trans w3
    obtain ⟨vb0, y0, hb0, _⟩ := hT.fnum r6 ly_from
    obtain ⟨r, M1, d1, d2, d3⟩ := ev_due (e := e) (t := t16) hT r6
    have hL1 := hL.frm d3 (by decide)
    have K1 : KP (fun _ => False) mdBg ld M M1 := KP.call d2 d3 rfl (by decide) (by decide) hL
    have hP1 := hP.kp K1 (by decide) (by decide) (by decide)
    have go_on : ∀ (M2 : Mem) (x3' : Option Value), TM sT sG M2 → Frm sT mdBe M M2 → LD ld M2 → P34 M2 → (∀ v MF, Ev none (e + 2) 59 2 [some (.ref 104), some (.int (k + 1)), some (.ref b), x3'] [] M2 v MF 0 0 → Ev none (e + 2) 59 34 [some (.ref 104), some (.int k), some (.ref b), x3] [.int r] M1 v MF 0 0) → ∃ M', Ev none (e + 2) 59 2 [some (.ref 104), some (.int k), x2, x3] [] M none M' 0 0 ∧ TM sT sG M' ∧ Frm sT mdBe M M' ∧ LD ld M' ∧ P34 M' := by
      intro M2 x3' t2 f2' l2 p2 hE
      obtain ⟨MF, q1, q2, q3, q4, q5⟩ := ih (kn + 1) (k + 1) M2 (some (.ref b)) x3' (by omega) (by omega) t2 l2 p2 (fk f2' (by decide) m1 m2)
      exact ⟨MF, bg_2 w1 w2 w3 m2 (by rw [if_neg hlt]; exact bg_13 w1 w2 w3 r1 r3 r4 f2 (Ev.call0 (fun n => gs_7 rfl rfl (cal_due hb0 rfl)) d1 (hE _ _ q1))), q2, f2'.trans q3, q4, q5⟩
    have F1 : Frm sT mdBe M M1 := d3.more (mdSub_mem rfl)
    by_cases hr : r = 0
    · exact go_on M1 x3 d2 F1 hL1 hP1 (fun v MF h => bg_34 (by rw [if_pos hr]; exact bg_37 h))
    · obtain ⟨vw1, vl1, u1, u2, u3⟩ := hL1.obj d2
      obtain ⟨vl1', n1, f3, f4, f5, f6, f7, _⟩ := d2.fnum (hL1.grp d2) ly_walkers
      cases f3.symm.trans u3
      by_cases h60 : n1 < 60
      rotate_left
      · obtain ⟨vl2, t2, g1, g2, g3, _⟩ := d2.fnum (hL1.grp d2) ly_turn
        cases g1.symm.trans u3
        have K2 : KP (fun _ => False) mdBg ld M1 (gPut M1 ld (.inr (1, gPut vl1 19 (.int (t2 + 1))))) := KP.fld d2 hL1 (hL1.grp d2) ly_turn u3 (by decide) (i32_lt _).1 (i32_lt _).2 (by decide) (Or.inl (by decide))
        exact go_on _ x3 K2.1 (F1.trans (K2.2.1.more (mdSub_mem rfl))) K2.2.2.1 (hP1.kp K2 (by decide) (by decide) (by decide)) (fun v MF h => bg_34 (by rw [if_neg hr]; exact bg_40 u1 u2 u3 f4 (by rw [if_neg h60]; exact bg_52 u1 u2 u3 g2 g3 h)))
      · have n60 : n1.toInt < 60 := by rw [Int32.lt_iff_toInt_lt] at h60; exact h60
        obtain ⟨nn1, hnn1⟩ : ∃ nn1 : Nat, n1.toInt = (nn1 : Int) := ⟨n1.toInt.toNat, by omega⟩
        obtain ⟨vb1, fr, b1, b2, b3, b4, b5, _⟩ := d2.fnum r6 ly_from
        obtain ⟨frn, hfr⟩ : ∃ frn : Nat, fr.toInt = (frn : Int) := ⟨fr.toInt.toNat, by omega⟩
        obtain ⟨da, dl, ct, e1, e2, e3, e4, e5, e6⟩ := hL1.irow d2 u3 ly_door ly_doorr hfr (by omega)
        obtain ⟨wa, wl, o, p1, p2, p3, p4, p5, p6⟩ := hL1.rrow d2 u3 ly_wk ly_wkr hnn1 (by omega)
        obtain ⟨vo0, yo0, ho0, _⟩ := d2.fnum p6 ly_cell
        obtain ⟨M2, s1, K2, s3⟩ := ev_wbegin (S := fun _ => False) (e := e + 1) (c := ct) (k := k) d2 hL1 p6 e5 e6 (by omega) (by omega)
        have hP2 := hP1.kp K2 (by decide) (by decide) (by decide)
        obtain ⟨vw2, vl2, u21, u22, u23⟩ := K2.2.2.1.obj K2.1
        obtain ⟨vl2', i1, i2⟩ := fk K2.2.1 (by decide) u3 f4
        cases i1.symm.trans u23
        obtain ⟨vlp, lp, np, P1, P2, P3, P4, P5, P6, P7⟩ := hP1 ld hld
        cases P1.symm.trans u3
        cases p1.symm.trans P2
        have row2 := row_frm K2.2.1 (ld_row hld) (by decide) p3
        obtain ⟨vlq, nq, j1, j2, j3, j4, j5, j6⟩ := K2.1.fnum (K2.2.2.1.grp K2.1) ly_walkers
        cases j1.symm.trans u23
        cases j2.symm.trans i2
        have en : (n1 + 1).toInt = n1.toInt + 1 := i32_p1 (by omega)
        have hP3 := P34.more hld hP2 u23 i2 hnn1 (by omega) row2 p5 s3
        have T3 := j6 (n1 + 1) (by omega) (by omega)
        obtain ⟨M3, m3⟩ : ∃ N, N = gPut M2 ld (.inr (1, gPut vl2 15 (.int (n1 + 1)))) := ⟨_, rfl⟩
        have F3 : Frm sT [(1, 15)] M2 M3 := by rw [m3]; exact Frm.fld u23 List.mem_cons_self
        rw [← m3] at hP3 T3
        have L3 := K2.2.2.1.frm F3 (by decide)
        obtain ⟨vw3, vl3, u31, u32, u33⟩ := L3.obj T3
        obtain ⟨cn, hcn⟩ : ∃ cn : Nat, ct.toInt = (cn : Int) := ⟨ct.toInt.toNat, by omega⟩
        obtain ⟨ca, cl, cy, c1, c2, c3, c4, _⟩ := L3.irow T3 u33 ly_crowd ly_crowdr hcn (by omega)
        obtain ⟨M4, m4⟩ : ∃ N, N = gPut M3 ca (.inl (1, .inl (gPut cl ct.toNatClampNeg (cy + 1)))) := ⟨_, rfl⟩
        have K4 : KP (fun _ => False) mdBg ld M3 M4 := by rw [m4]; exact KP.row T3 L3 c2 ly_crowdr c3 (by decide) (i32_lt _).1 (i32_lt _).2
        refine go_on M4 (some (.int ct)) K4.1 (F1.trans ((K2.2.1.more (mdSub_mem rfl)).trans ((F3.more (mdSub_mem rfl)).trans (K4.2.1.more (mdSub_mem rfl))))) K4.2.2.1 (hP3.kp K4 (by decide) (by decide) (by decide)) (fun v MF h => bg_34 ?_)
        rw [if_neg hr]
        refine bg_40 u1 u2 u3 f4 ?_
        rw [if_pos h60]
        refine bg_68 u1 u2 u3 e1 b1 b2 e3 e4 p1 f4 p3 p4 (Ev.call0 (fun n => gs_7 rfl rfl (cal_wb ho0 rfl)) s1 (bg_101 u21 u22 u23 i2 j3 ?_))
        rw [← m3]
        refine bg_114 u31 u32 u33 c1 c3 c4 ?_
        rw [← m4]
        exact h
theorem ev_begin {M : Mem} {x1 x2 x3 : Option Value} (hld : ld ∈ [8, 243, 345, 441, 537]) (hT : TM sT sG M) (hL : LD ld M) (hP : P34 M) : ∃ M', Ev none (e + 2) 59 0 [some (.ref 104), x1, x2, x3] [] M none M' 0 0 ∧ TM sT sG M' ∧ Frm sT mdBe M M' ∧ LD ld M' ∧ P34 M' := by
  obtain ⟨vs, y, a1, a2, _, a4, a5, _⟩ := hT.fnum (hL.grp hT) ly_wishes
  obtain ⟨M', h1, h2⟩ := bg_loop (e := e) hld (nw := y) (nn := y.toInt.toNat) (by omega) (by omega) y.toInt.toNat 0 0 M x2 x3 (by omega) rfl hT hL hP ⟨vs, a1, a2⟩
  exact ⟨M', bg_0 h1, h2⟩
theorem ev_sweep {nn : Nat} {M : Mem} {y : Int32} {x1 x2 x3 : Option Value} (hld : ld ∈ [8, 243, 345, 441, 537]) (hT : TM sT sG M) (hL : LD ld M) (hP : PG ld nn M) (hn : ∃ vl, gNth M ld = some (.inr (1, vl)) ∧ gNth vl 15 = some (.int y)) (hy : y.toInt = (nn : Int)) (h60 : nn ≤ 60) : ∃ M', Ev none e 61 0 [some (.ref 104), x1, x2, x3] [] M none M' 0 0 ∧ TM sT sG M' ∧ Frm sT [(1, 15), (1019, 0)] M M' ∧ LD ld M' ∧ P34 M' := by
  obtain ⟨vl, m1, m2⟩ := hn
  have hW := hP ld hld
  obtain ⟨vlp, lp, np, P1, P2, P3, P4, P5, P6, P7⟩ := hW
  cases P1.symm.trans m1
  cases P3.symm.trans m2
  obtain ⟨vw, w1, w2⟩ := hL
  have hg := LD.grp hT ⟨vw, w1, w2⟩
  obtain ⟨MF, lF, sF, zF, q1, q2, q3, q4, q5, q6, q7, q8, q9, q10, q11⟩ := sw_loop (e := e) hg (ld_row hld) w2 P2 P3 hy h60 nn 0 0 0 0 M lp x3 hT (Frm.refl _) w1 P1 P4 P5 (fun b => Iff.rfl) (Nat.le_refl _) rfl rfl (by omega) (fun k hk => absurd hk (Nat.not_lt_zero _))
  refine ⟨MF, sw_0 q1, q2, q3, LD.frm q3 (by decide) ⟨vw, w1, w2⟩, fun a ha => ?_⟩
  by_cases hal : a = ld
  · subst hal
    refine ⟨_, lF, zF, q7, by rw [nth_put, if_neg (by omega)]; exact P2, by rw [nth_put, if_pos ⟨rfl, gNth_lt _ _ _ P3⟩], q4, q5, fun k b hb => ?_, fun k hk => q10 k (by omega)⟩
    obtain ⟨k2, hk2⟩ := (q6 b).mp ⟨k, hb⟩
    exact P6 k2 b hk2
  · have hW := hP a ha
    rw [if_neg hal] at hW
    obtain ⟨vl2, l2, n2, e1, e2, e3, e4, e5, e6, e7⟩ := hW
    have i1 := ld_all ha
    have i2 := ld_all hld
    refine ⟨vl2, l2, n2, (q11 a hal (by omega)).trans e1, e2, e3, (q11 (a + 11) (by omega) (by omega)).trans e4, e5, e6, fun k hk => ?_⟩
    obtain ⟨b, g1, us, x, g2, g3, g4⟩ := e7 k (Nat.zero_le _) hk
    have i3 := e6 k b g1
    exact ⟨b, g1, us, x, (q11 b (by omega) (by omega)).trans g2, g3, g4⟩
end BEG
/-! BY HAND, the class: go -/
section GO
variable {ld e : Nat}
set_option maxHeartbeats 2000000 in
theorem go_body {kn : Nat} {k n t bf y : Int32} {x5 x6 x7 x8 : Option Value} {M : Mem} (hld : ld ∈ [8, 243, 345, 441, 537]) (hT : TM sT sG M) (hL : LD ld M) (hP : PG ld kn M) (hk : k.toInt = (kn : Int)) (hn : ∃ vl, gNth M ld = some (.inr (1, vl)) ∧ gNth vl 15 = some (.int y)) (hky : k.toInt < y.toInt) (h60 : y.toInt ≤ 60) : ∃ M' x5' x6' x7' x8', TM sT sG M' ∧ Frm sT mdBd M M' ∧ LD ld M' ∧ PG ld (kn + 1) M' ∧ ∀ v MF, Ev none (e + 4) 58 29 [some (.ref 104), some (.int t), some (.int bf), some (.int n), some (.int (k + 1)), x5', x6', x7', x8'] [] M' v MF 0 0 → Ev none (e + 4) 58 41 [some (.ref 104), some (.int t), some (.int bf), some (.int n), some (.int k), x5, x6, x7, x8] [] M v MF 0 0 := by
  obtain ⟨vl0, m1, m2⟩ := hn
  obtain ⟨vw, vl, w1, w2, w3⟩ := hL.obj hT
  cases w3.symm.trans m1
  have hW := hP ld hld
  rw [if_pos rfl] at hW
  obtain ⟨vlp, lp, np, P1, P2, P3, P4, P5, P6, P7⟩ := hW
  cases P1.symm.trans w3
  cases P3.symm.trans m2
  obtain ⟨wa, wl, o, p1, p2, p3, p4, p5, p6⟩ := hL.rrow hT w3 ly_wk ly_wkr hk (by omega)
  cases p1.symm.trans P2
  cases p3.symm.trans P4
  obtain ⟨o', q1, us, x, c1, c2, c3⟩ := P7 kn (Nat.le_refl _) (by omega)
  cases q1.symm.trans p5
  obtain ⟨us', x', a1, a2, _, _, a5, _⟩ := hT.fnum p6 ly_cell
  cases a1.symm.trans c1
  cases a2.symm.trans c2
  obtain ⟨us', wi, b1, b2, _, b4, b5, _⟩ := hT.fnum p6 ly_wwish
  cases b1.symm.trans c1
  obtain ⟨win, hwi⟩ : ∃ win : Nat, wi.toInt = (win : Int) := ⟨wi.toInt.toNat, by omega⟩
  obtain ⟨xa, xl, ws, d1, d2, d3, d4, d5, d6⟩ := hL.rrow hT w3 ly_wish ly_wishr hwi (by omega)
  obtain ⟨vws, to, e1, e2, _, e4, e5, _⟩ := hT.fnum d6 ly_to
  obtain ⟨vws', hb, e6, e7, _, e9, e10, _⟩ := hT.fnum d6 ly_habit
  cases e6.symm.trans e1
  obtain ⟨ton, hto⟩ : ∃ ton : Nat, to.toInt = (ton : Int) := ⟨to.toInt.toNat, by omega⟩
  obtain ⟨da, dl, gl, f1, f2, f3, f4, f5, f6⟩ := hL.irow hT w3 ly_door ly_doorr hto (by omega)
  obtain ⟨r, M1, g1, K1, ⟨vo1, g2, g3⟩, g4⟩ := ev_choose (S := fun b => b = o) (e := e) hT hL p6 c1 c2 c3 a5 f5 f6 e9 e10
  have tail : ∀ (M2 : Mem) (x2 : Int32) (vo2 : List Value), KP (fun b => b = o) mdBd ld M M2 → gNth M2 o = some (.inr (8, vo2)) → gNth vo2 0 = some (.int x2) → 0 ≤ x2.toInt → x2.toInt ≤ 255 → ∃ M', TM sT sG M' ∧ Frm sT mdBd M M' ∧ LD ld M' ∧ PG ld (kn + 1) M' ∧ ∀ v MF, Ev none (e + 4) 58 29 [some (.ref 104), some (.int t), some (.int bf), some (.int n), some (.int (k + 1)), some (.ref o), some (.ref ws), some (.int gl), some (.int r)] [] M' v MF 0 0 → Ev none (e + 4) 58 173 [some (.ref 104), some (.int t), some (.int bf), some (.int n), some (.int k), some (.ref o), some (.ref ws), some (.int gl), some (.int r)] [] M2 v MF 0 0 := by
    intro M2 x2 vo2 K2 h1 h2 h3 h4
    obtain ⟨v3, ag, i1, i2, i3, _⟩ := K2.1.fnum p6 ly_age
    cases i1.symm.trans h1
    obtain ⟨M3, m3⟩ : ∃ N, N = gPut M2 o (.inr (8, gPut vo2 2 (.int (ag + 1)))) := ⟨_, rfl⟩
    have K3 : KP (fun b => b = o) mdBd ld M2 M3 := by rw [m3]; exact KP.fld K2.1 K2.2.2.1 p6 ly_age h1 (by decide) (i32_lt _).1 (i32_lt _).2 (by decide) (Or.inl (by decide))
    have j1 : gNth M3 o = some (.inr (8, gPut vo2 2 (.int (ag + 1)))) := by rw [m3, nth_put, if_pos ⟨rfl, gNth_lt _ _ _ h1⟩]
    have j2 : gNth (gPut vo2 2 (.int (ag + 1))) 0 = some (.int x2) := by rw [nth_put, if_neg (by omega)]; exact h2
    obtain ⟨cn, hcn⟩ : ∃ cn : Nat, x2.toInt = (cn : Int) := ⟨x2.toInt.toNat, by omega⟩
    obtain ⟨M4, s1, K4⟩ := ev_leave (e := e + 3) (gl := gl) K3.1 K3.2.2.1 p6 j1 j2 hcn (by omega)
    have K := K2.trans (K3.trans K4)
    obtain ⟨vw3, vl3, u1, _⟩ := K3.2.2.1.obj K3.1
    refine ⟨M4, K.1, K.2.1, K.2.2.1, hP.step hld K (by decide) (by decide) (by decide) P4 p5, fun v MF h => go_173 h1 i2 i3 ?_⟩
    rw [← m3]
    exact go_184 (Ev.call0 (fun n => gs_7 rfl rfl (cal_lv u1 rfl)) s1 (go_192 h))
  by_cases hr : r = -1
  · obtain ⟨M', t1, t2, t3, t4, t5⟩ := tail M1 x vo1 K1 g2 g3 c3 a5
    exact ⟨M', some (.ref o), some (.ref ws), some (.int gl), some (.int r), t1, t2, t3, t4, fun v MF h => go_41 w1 w2 w3 p1 p3 p4 d1 c1 b2 d3 d4 f1 e1 e2 f3 f4 e7 (Ev.call0 (fun n => gs_7 rfl rfl (cal_ch w1 rfl)) g1 (go_96 (by rw [if_pos hr]; exact t5 v MF h)))⟩
  · obtain ⟨bl, y, g5, g6, g7, g8⟩ := g4.resolve_left hr
    have T1 := K1.1
    have L1 := K1.2.2.1
    obtain ⟨vw1, vl1, u1, u2, u3⟩ := L1.obj T1
    obtain ⟨xn, hxn⟩ : ∃ xn : Nat, x.toInt = (xn : Int) := ⟨x.toInt.toNat, by omega⟩
    obtain ⟨ca, cl, cy, j1, j2, j3, j4, _⟩ := L1.irow T1 u3 ly_crowd ly_crowdr hxn (by omega)
    obtain ⟨M2, m2⟩ : ∃ N, N = gPut M1 ca (.inl (1, .inl (gPut cl x.toNatClampNeg (cy - 1)))) := ⟨_, rfl⟩
    have K2 : KP (fun b => b = o) mdBd ld M1 M2 := by rw [m2]; exact KP.row T1 L1 j2 ly_crowdr j3 (by decide) (i32_lt _).1 (i32_lt _).2
    have T2 := K2.1
    have L2 := K2.2.2.1
    have o2 : gNth M2 o = some (.inr (8, vo1)) := by rw [m2, nth_put, if_neg (fun q => by rw [q.1, j3] at g2; cases g2)]; exact g2
    have b8 : gNth M2 108 = some (.inl (1, .inl bl)) := by rw [m2, nth_put, if_neg (fun q => by rw [← q.1, sT_108] at j2; cases j2)]; exact g5
    obtain ⟨vw2, ga, h1, h2, h3⟩ := T2.fref sT_104 ly_grid
    obtain ⟨vg2, gb, h4, h5, h6⟩ := T2.fref h3 ly_bes
    cases sU_ok _ _ _ h6 sU_26
    obtain ⟨M3, s1, K3, vo3, s3, s4⟩ := ev_step (S := fun b => b = o) (e := e + 3) (o := o) (c := y) (d := r) T2 L2 p6 (Or.inl rfl) (by omega) g8
    have T3 := K3.1
    have L3 := K3.2.2.1
    obtain ⟨vw3, vl3, v1, v2, v3⟩ := L3.obj T3
    obtain ⟨yn, hyn⟩ : ∃ yn : Nat, y.toInt = (yn : Int) := ⟨y.toInt.toNat, by omega⟩
    obtain ⟨cb, cm, cz, l1, l2, l3, l4, _⟩ := L3.irow T3 v3 ly_crowd ly_crowdr hyn (by omega)
    obtain ⟨M4, m4⟩ : ∃ N, N = gPut M3 cb (.inl (1, .inl (gPut cm y.toNatClampNeg (cz + 1)))) := ⟨_, rfl⟩
    have K4 : KP (fun b => b = o) mdBd ld M3 M4 := by rw [m4]; exact KP.row T3 L3 l2 ly_crowdr l3 (by decide) (i32_lt _).1 (i32_lt _).2
    have o4 : gNth M4 o = some (.inr (8, vo3)) := by rw [m4, nth_put, if_neg (fun q => by rw [q.1, l3] at s3; cases s3)]; exact s3
    obtain ⟨vw4, vl4, z1, _⟩ := K4.2.2.1.obj K4.1
    obtain ⟨M5, r1, K5, r2⟩ := ev_tread (S := fun b => b = o) (e := e) K4.1 K4.2.2.1 g7 g8
    obtain ⟨vo5, o5, _, o6⟩ := r2.2.1 _ _ _ o4
    have o7 := (o6 0 (by decide)).trans s4
    obtain ⟨M', t1, t2, t3, t4, t5⟩ := tail M5 y vo5 (K1.trans (K2.trans (K3.trans (K4.trans K5)))) o5 o7 g7 g8
    refine ⟨M', some (.ref o), some (.ref ws), some (.int gl), some (.int r), t1, t2, t3, t4, fun v MF h => go_41 w1 w2 w3 p1 p3 p4 d1 c1 b2 d3 d4 f1 e1 e2 f3 f4 e7 (Ev.call0 (fun n => gs_7 rfl rfl (cal_ch w1 rfl)) g1 (go_96 ?_))⟩
    rw [if_neg hr]
    refine go_104 u1 u2 u3 j1 g2 g3 j3 j4 ?_
    rw [← m2]
    refine go_121 h1 h2 h4 h5 o2 g3 b8 g6 (Ev.call0 (fun n => gs_7 rfl rfl (cal_st o2 rfl)) s1 (go_147 v1 v2 v3 l1 s3 s4 l3 l4 ?_))
    rw [← m4]
    exact go_164 o4 s4 (Ev.call0 (fun n => gs_7 rfl rfl (cal_tr z1 rfl)) r1 (t5 v MF h))
theorem go_in {n t bf y : Int32} {nn : Nat} (hld : ld ∈ [8, 243, 345, 441, 537]) (hy : y.toInt = (nn : Int)) (h60 : nn ≤ 60) : ∀ (j kn : Nat) (k : Int32) (M : Mem) (x5 x6 x7 x8 : Option Value), kn + j = nn → k.toInt = (kn : Int) → TM sT sG M → LD ld M → PG ld kn M → (∃ vl, gNth M ld = some (.inr (1, vl)) ∧ gNth vl 15 = some (.int y)) → ∃ M' k' x5' x6' x7' x8', TM sT sG M' ∧ Frm sT mdBd M M' ∧ LD ld M' ∧ PG ld nn M' ∧ ∀ v MF, Ev none (e + 4) 58 198 [some (.ref 104), some (.int t), some (.int bf), some (.int n), some (.int k'), x5', x6', x7', x8'] [] M' v MF 0 0 → Ev none (e + 4) 58 29 [some (.ref 104), some (.int t), some (.int bf), some (.int n), some (.int k), x5, x6, x7, x8] [] M v MF 0 0 := by
  intro j
  induction j with
  | zero =>
    rintro kn k M x5 x6 x7 x8 hj hk hT hL hP ⟨vl, m1, m2⟩
    obtain ⟨vw, vl', w1, w2, w3⟩ := hL.obj hT
    cases w3.symm.trans m1
    have hkn : kn = nn := by omega
    subst hkn
    exact ⟨M, k, x5, x6, x7, x8, hT, Frm.refl _, hL, hP, fun v MF h => go_29 w1 w2 w3 m2 (by rw [if_pos (by rw [Int32.le_iff_toInt_le]; omega)]; exact h)⟩
  | succ j ih =>
    rintro kn k M x5 x6 x7 x8 hj hk hT hL hP ⟨vl, m1, m2⟩
    obtain ⟨vw, vl', w1, w2, w3⟩ := hL.obj hT
    cases w3.symm.trans m1
    have ek : (k + 1).toInt = k.toInt + 1 := i32_p1 (by omega)
    obtain ⟨M1, y5, y6, y7, y8, t1, t2, t3, t4, t5⟩ := go_body (e := e) (n := n) (t := t) (bf := bf) (x5 := x5) (x6 := x6) (x7 := x7) (x8 := x8) hld hT hL hP hk ⟨vl, m1, m2⟩ (by omega) (by omega)
    obtain ⟨M2, k', z5, z6, z7, z8, s1, s2, s3, s4, s5⟩ := ih (kn + 1) (k + 1) M1 y5 y6 y7 y8 (by omega) (by omega) t1 t3 t4 (fk t2 (by decide) m1 m2)
    exact ⟨M2, k', z5, z6, z7, z8, s1, t2.trans s2, s3, s4, fun v MF h => go_29 w1 w2 w3 m2 (by rw [if_neg (by rw [Int32.le_iff_toInt_le]; omega)]; exact t5 _ _ (s5 v MF h))⟩
def mdGo : Md := [(1, 15), (1, 16), (1, 17), (1, 18), (1, 19), (7, 10), (8, 0), (8, 1), (8, 2), (8, 3), (8, 4), (1012, 0), (1014, 0), (1015, 0), (1016, 0), (1019, 0), (1037, 0), (1039, 0)]
theorem go_out {t bf : Int32} (hld : ld ∈ [8, 243, 345, 441, 537]) : ∀ (j : Nat) (n : Int32) (M : Mem) (x4 x5 x6 x7 x8 : Option Value), t.toInt - n.toInt ≤ (j : Int) → TM sT sG M → LD ld M → P34 M → ∃ r M', Ev none (e + 4) 58 10 [some (.ref 104), some (.int t), some (.int bf), some (.int n), x4, x5, x6, x7, x8] [] M (some (.int r)) M' 0 0 ∧ TM sT sG M' ∧ Frm sT mdGo M M' ∧ P34 M' := by
  intro j
  have stop : ∀ (n : Int32) (M : Mem) (x4 x5 x6 x7 x8 : Option Value), TM sT sG M → LD ld M → ∃ r, Ev none (e + 4) 58 221 [some (.ref 104), some (.int t), some (.int bf), some (.int n), x4, x5, x6, x7, x8] [] M (some (.int r)) M 0 0 := by
    intro n M x4 x5 x6 x7 x8 hT hL
    obtain ⟨vw, vl, w1, w2, w3⟩ := hL.obj hT
    obtain ⟨v2, y2, a1, a2, _⟩ := hT.fnum (hL.grp hT) ly_arr
    exact ⟨_, go_221 w1 w2 a1 a2⟩
  induction j with
  | zero =>
    intro n M x4 x5 x6 x7 x8 hj hT hL hP
    obtain ⟨r, h⟩ := stop n M x4 x5 x6 x7 x8 hT hL
    exact ⟨r, M, go_10 (by rw [if_pos (by rw [Int32.le_iff_toInt_le]; omega)]; exact h), hT, Frm.refl _, hP⟩
  | succ j ih =>
    intro n M x4 x5 x6 x7 x8 hj hT hL hP
    obtain ⟨r, hst⟩ := stop n M x4 x5 x6 x7 x8 hT hL
    by_cases ht : t ≤ n
    · exact ⟨r, M, go_10 (by rw [if_pos ht]; exact hst), hT, Frm.refl _, hP⟩
    obtain ⟨v9, y9, a1, a2, _⟩ := hT.fnum sT_104 ly_trodw
    by_cases h9 : y9 = 0
    rotate_left
    · exact ⟨r, M, go_10 (by rw [if_neg ht]; exact go_15 a1 a2 (by rw [if_neg h9]; exact hst)), hT, Frm.refl _, hP⟩
    obtain ⟨M1, b1, b2, b3, b4, b5⟩ := ev_begin (e := e + 1) (x1 := none) (x2 := none) (x3 := none) hld hT hL hP
    obtain ⟨v1, y1, c1, c2, _, c4, c5, _⟩ := b2.fnum (b4.grp b2) ly_walkers
    obtain ⟨M2, k', z5, z6, z7, z8, s1, s2, s3, s4, s5⟩ := go_in (e := e) (n := n) (t := t) (bf := bf) (y := y1) (nn := y1.toInt.toNat) hld (by omega) (by omega) y1.toInt.toNat 0 0 M1 x5 x6 x7 x8 (by omega) rfl b2 b4 (PG.of b5) ⟨v1, c1, c2⟩
    obtain ⟨v2, d1, d2⟩ := fk s2 (by decide) c1 c2
    obtain ⟨M3, f1, f2, f3, f4, f5⟩ := ev_sweep (e := e + 3) (x1 := none) (x2 := none) (x3 := none) hld s1 s3 s4 ⟨v2, d1, d2⟩ (by omega) (by omega)
    obtain ⟨vw3, vl3, u1, u2, u3⟩ := f4.obj f2
    obtain ⟨v4, y4, g1, g2, g3, _⟩ := f2.fnum (f4.grp f2) ly_tick
    cases g1.symm.trans u3
    obtain ⟨M4, m4⟩ : ∃ N, N = gPut M3 ld (.inr (1, gPut vl3 16 (.int (y4 + 1)))) := ⟨_, rfl⟩
    have K4 : KP (fun _ => False) [(1, 16)] ld M3 M4 := by rw [m4]; exact KP.fld f2 f4 (f4.grp f2) ly_tick u3 (by decide) (i32_lt _).1 (i32_lt _).2 (by decide) (Or.inl (by decide))
    have en : (n + 1).toInt = n.toInt + 1 := by
      rw [Int32.le_iff_toInt_le] at ht
      have := i32_lt t
      exact i32_p1 (by omega)
    obtain ⟨r, MF, h1, h2, h3, h4⟩ := ih (n + 1) M4 (some (.int k')) z5 z6 z7 z8 (by omega) K4.1 K4.2.2.1 (f5.kp K4 (by decide) (by decide) (by decide))
    obtain ⟨vw2, vl2, w1, _⟩ := s3.obj s1
    obtain ⟨vw0, vl0, w0, _⟩ := hL.obj hT
    refine ⟨r, MF, go_10 ?_, h2, (b3.more (mdSub_mem rfl)).trans ((s2.more (mdSub_mem rfl)).trans ((f3.more (mdSub_mem rfl)).trans ((K4.2.1.more (mdSub_mem rfl)).trans h3))), h4⟩
    rw [if_neg ht]
    refine go_15 a1 a2 ?_
    rw [if_pos h9]
    refine go_22 (Ev.call0 (fun n => gs_7 rfl rfl (cal_bg w0 rfl)) b1 (go_26 (s5 _ _ (go_198 (Ev.call0 (fun n => gs_7 rfl rfl (cal_sw w1 rfl)) f1 (go_202 u1 u2 u3 g2 g3 ?_))))))
    rw [← m4]
    exact h1
end GO
set_option maxRecDepth 100000 in
theorem mR58 : (gNth mRs 58).map (fun q => q.2.2.2.1) = some 9 := by decide +kernel
def kX7_go : CN := (58, 6, [.inr 313, .inl (.negSucc 2147483647, .ofNat 2147483647)], [], [(34, [])], mdGo, [(some (.inl (.negSucc 2147483647, .ofNat 2147483647)), [], [], [(34, [])], [])])
theorem kX7_go_ok : cnOK sT sG FL0 kX7_go := by
  intro d M ws q hD hq hws hpre hT
  obtain ⟨hv, _, hfl⟩ := hpre
  obtain ⟨ys, _, hP⟩ := hfl _ (List.mem_singleton.mpr rfl)
  have hP : P34 M := fl0_34 hP
  rcases ws with _ | ⟨w0, _ | ⟨w1, _ | ⟨_, _⟩⟩⟩
  · exact hws.elim
  · exact hws.2.elim
  rotate_left
  · exact hws.2.2.elim
  obtain ⟨h0, ⟨t, rfl, _⟩, _⟩ := hws
  have h0 : w0 = .ref 104 := h0
  subst h0
  obtain ⟨e, rfl⟩ : ∃ e, d = e + 4 := ⟨d - 4, by have : 6 ≤ d := hD; omega⟩
  have hm := mR58
  rw [show gNth mRs 58 = some q from hq] at hm
  have hm : q.2.2.2.1 = 9 := Option.some.inj hm
  rw [hm]
  obtain ⟨vw, ld, a1, a2, a3⟩ := hT.fref sT_104 ly_land
  obtain ⟨vl, y, b1, b2, _⟩ := hT.fnum a3 ly_arr
  obtain ⟨r, M', h1, h2, h3, h4⟩ := go_out (e := e) (t := t) (bf := y) (ld_in a3) (t.toInt - 0).toNat 0 M none none none none none (by have : (0 : Int32).toInt = 0 := rfl; omega) hT ⟨vw, a1, a2⟩ hP
  exact ⟨_, M', go_0 a1 a2 b1 b2 h1, h2, h3, _, List.mem_singleton.mpr rfl, ⟨⟨r, rfl, i32_lt r⟩, fun q hq => (by cases hq), [], trivial, fun f hf => (by cases List.mem_singleton.mp hf; exact ⟨[], trivial, h4⟩), fun f hf => (by cases hf)⟩, cn_D rfl⟩
/-! BY HAND, the class: Land.copy from its walkers on -/
theorem wc_0 {e : Nat} {M : Mem} {M' : Mem} {v : Option Value} {vo vp : List Value} {y2 : Int32} {o p : Nat} (hp : gNth M p = some (.inr (8, vp))) (f1 : gNth vp 0 = some (.int y2)) (ho : gNth M o = some (.inr (8, vo))) (hlo : 0 < vo.length) (hz : Ev none e 75 8 [some (.ref o), some (.ref p)] [] (gPut M o (.inr (8, gPut vo 0 (.int y2)))) v M' 0 0) : Ev none e 75 0 [some (.ref o), some (.ref p)] [] M v M' 0 0 := by
  refine Ev.step (pc' := 2) (ls' := [some (.ref o), some (.ref p)]) (st' := [.ref p, .ref o]) (M1 := M) 2 (fun n => rfl) ?_
  refine Ev.step 1 (gs_3 rfl rfl (gf_c rfl hp f1)) ?_
  refine Ev.step 1 (gs_4 rfl rfl (pf_c rfl ho hlo rfl rfl)) ?_
  exact hz
theorem wc_8 {e : Nat} {M : Mem} {M' : Mem} {v : Option Value} {vo vp : List Value} {y2 : Int32} {o p : Nat} (hp : gNth M p = some (.inr (8, vp))) (f1 : gNth vp 1 = some (.int y2)) (ho : gNth M o = some (.inr (8, vo))) (hlo : 1 < vo.length) (hz : Ev none e 75 16 [some (.ref o), some (.ref p)] [] (gPut M o (.inr (8, gPut vo 1 (.int y2)))) v M' 0 0) : Ev none e 75 8 [some (.ref o), some (.ref p)] [] M v M' 0 0 := by
  refine Ev.step (pc' := 10) (ls' := [some (.ref o), some (.ref p)]) (st' := [.ref p, .ref o]) (M1 := M) 2 (fun n => rfl) ?_
  refine Ev.step 1 (gs_3 rfl rfl (gf_c rfl hp f1)) ?_
  refine Ev.step 1 (gs_4 rfl rfl (pf_c rfl ho hlo rfl rfl)) ?_
  exact hz
theorem wc_16 {e : Nat} {M : Mem} {M' : Mem} {v : Option Value} {vo vp : List Value} {y2 : Int32} {o p : Nat} (hp : gNth M p = some (.inr (8, vp))) (f1 : gNth vp 2 = some (.int y2)) (ho : gNth M o = some (.inr (8, vo))) (hlo : 2 < vo.length) (hz : Ev none e 75 24 [some (.ref o), some (.ref p)] [] (gPut M o (.inr (8, gPut vo 2 (.int y2)))) v M' 0 0) : Ev none e 75 16 [some (.ref o), some (.ref p)] [] M v M' 0 0 := by
  refine Ev.step (pc' := 18) (ls' := [some (.ref o), some (.ref p)]) (st' := [.ref p, .ref o]) (M1 := M) 2 (fun n => rfl) ?_
  refine Ev.step 1 (gs_3 rfl rfl (gf_c rfl hp f1)) ?_
  refine Ev.step 1 (gs_4 rfl rfl (pf_c rfl ho hlo rfl rfl)) ?_
  exact hz
theorem wc_24 {e : Nat} {M : Mem} {M' : Mem} {v : Option Value} {vo vp : List Value} {y2 : Int32} {o p : Nat} (hp : gNth M p = some (.inr (8, vp))) (f1 : gNth vp 3 = some (.int y2)) (ho : gNth M o = some (.inr (8, vo))) (hlo : 3 < vo.length) (hz : Ev none e 75 32 [some (.ref o), some (.ref p)] [] (gPut M o (.inr (8, gPut vo 3 (.int y2)))) v M' 0 0) : Ev none e 75 24 [some (.ref o), some (.ref p)] [] M v M' 0 0 := by
  refine Ev.step (pc' := 26) (ls' := [some (.ref o), some (.ref p)]) (st' := [.ref p, .ref o]) (M1 := M) 2 (fun n => rfl) ?_
  refine Ev.step 1 (gs_3 rfl rfl (gf_c rfl hp f1)) ?_
  refine Ev.step 1 (gs_4 rfl rfl (pf_c rfl ho hlo rfl rfl)) ?_
  exact hz
theorem wc_32 {e : Nat} {M : Mem} {vo vp : List Value} {y2 : Int32} {o p : Nat} (hp : gNth M p = some (.inr (8, vp))) (f1 : gNth vp 4 = some (.int y2)) (ho : gNth M o = some (.inr (8, vo))) (hlo : 4 < vo.length) : Ev none e 75 32 [some (.ref o), some (.ref p)] [] M none (gPut M o (.inr (8, gPut vo 4 (.int y2)))) 0 0 := by
  refine Ev.step (pc' := 34) (ls' := [some (.ref o), some (.ref p)]) (st' := [.ref p, .ref o]) (M1 := M) 2 (fun n => rfl) ?_
  refine Ev.step 1 (gs_3 rfl rfl (gf_c rfl hp f1)) ?_
  refine Ev.step 1 (gs_4 rfl rfl (pf_c rfl ho hlo rfl rfl)) ?_
  exact Ev.ret (fun n => rfl)
theorem cp_206 {e : Nat} {M : Mem} {M' : Mem} {v : Option Value} {va vb : List Value} {y2 : Int32} {a b : Nat} {x2 : Option Value} (hb : gNth M b = some (.inr (1, vb))) (f1 : gNth vb 15 = some (.int y2)) (ha : gNth M a = some (.inr (1, va))) (hla : 15 < va.length) (hz : Ev none e 13 216 [some (.ref a), some (.ref b), some (.int 0)] [] (gPut M a (.inr (1, gPut va 15 (.int y2)))) v M' 0 0) : Ev none e 13 206 [some (.ref a), some (.ref b), x2] [] M v M' 0 0 := by
  refine Ev.step (pc' := 208) (ls' := [some (.ref a), some (.ref b), x2]) (st' := [.ref b, .ref a]) (M1 := M) 2 (fun n => rfl) ?_
  refine Ev.step 1 (gs_3 rfl rfl (gf_c rfl hb f1)) ?_
  refine Ev.step 1 (gs_4 rfl rfl (pf_c rfl ha hla rfl rfl)) ?_
  refine Ev.step (pc' := 216) (ls' := [some (.ref a), some (.ref b), some (.int 0)]) (st' := []) (M1 := (gPut M a (.inr (1, gPut va 15 (.int y2))))) 2 (fun n => rfl) ?_
  exact hz
theorem cp_214 {e : Nat} {M : Mem} {M' : Mem} {v : Option Value} {k : Int32} {a b : Nat}  (hz : Ev none e 13 216 [some (.ref a), some (.ref b), some (.int 0)] [] M v M' 0 0) : Ev none e 13 214 [some (.ref a), some (.ref b), some (.int k)] [] M v M' 0 0 := by
  refine Ev.step (pc' := 216) (ls' := [some (.ref a), some (.ref b), some (.int 0)]) (st' := []) (M1 := M) 2 (fun n => rfl) ?_
  exact hz
theorem cp_216 {e : Nat} {M : Mem} {M' : Mem} {v : Option Value} {va : List Value} {k y2 : Int32} {a b : Nat} (ha : gNth M a = some (.inr (1, va))) (f1 : gNth va 15 = some (.int y2)) (hz : Ev none e 13 (if y2 ≤ k then 245 else 224) [some (.ref a), some (.ref b), some (.int k)] [] M v M' 0 0) : Ev none e 13 216 [some (.ref a), some (.ref b), some (.int k)] [] M v M' 0 0 := by
  refine Ev.step (pc' := 218) (ls' := [some (.ref a), some (.ref b), some (.int k)]) (st' := [.ref a, .int k]) (M1 := M) 2 (fun n => rfl) ?_
  refine Ev.step 1 (gs_3 rfl rfl (gf_c rfl ha f1)) ?_
  refine Ev.step (pc' := (if y2 ≤ k then 245 else 224)) (ls' := [some (.ref a), some (.ref b), some (.int k)]) (st' := []) (M1 := M) 1 (fun n => rfl) ?_
  exact hz
theorem cp_224 {e : Nat} {M : Mem} {M' : Mem} {v : Option Value} {va vb : List Value} {k : Int32} {a a2 a4 a6 a8 b : Nat} {la2 la6 : List (Option Nat)} (ha : gNth M a = some (.inr (1, va))) (f1 : gNth va 14 = some (.ref a2)) (ra2 : gNth M a2 = some (.inl (6, .inr (.inr la2)))) (g3 : gAt la2 k = some (some a4)) (hb : gNth M b = some (.inr (1, vb))) (f5 : gNth vb 14 = some (.ref a6)) (ra6 : gNth M a6 = some (.inl (6, .inr (.inr la6)))) (g7 : gAt la6 k = some (some a8)) (hz : Ev none e 13 236 [some (.ref a), some (.ref b), some (.int k)] [.ref a8, .ref a4] M v M' 0 0) : Ev none e 13 224 [some (.ref a), some (.ref b), some (.int k)] [] M v M' 0 0 := by
  refine Ev.step (pc' := 225) (ls' := [some (.ref a), some (.ref b), some (.int k)]) (st' := [.ref a]) (M1 := M) 1 (fun n => rfl) ?_
  refine Ev.step 1 (gs_3 rfl rfl (gf_c rfl ha f1)) ?_
  refine Ev.step (pc' := 229) (ls' := [some (.ref a), some (.ref b), some (.int k)]) (st' := [.int k, .ref a2]) (M1 := M) 1 (fun n => rfl) ?_
  refine Ev.step 1 (gs_3 rfl rfl (aa_c ra2 g3 rfl)) ?_
  refine Ev.step (pc' := 231) (ls' := [some (.ref a), some (.ref b), some (.int k)]) (st' := [.ref b, .ref a4]) (M1 := M) 1 (fun n => rfl) ?_
  refine Ev.step 1 (gs_3 rfl rfl (gf_c rfl hb f5)) ?_
  refine Ev.step (pc' := 235) (ls' := [some (.ref a), some (.ref b), some (.int k)]) (st' := [.int k, .ref a6, .ref a4]) (M1 := M) 1 (fun n => rfl) ?_
  refine Ev.step 1 (gs_3 rfl rfl (aa_c ra6 g7 rfl)) ?_
  exact hz
theorem cp_239 {e : Nat} {M : Mem} {M' : Mem} {v : Option Value} {k : Int32} {a b : Nat}  (hz : Ev none e 13 216 [some (.ref a), some (.ref b), some (.int (k + 1))] [] M v M' 0 0) : Ev none e 13 239 [some (.ref a), some (.ref b), some (.int k)] [] M v M' 0 0 := by
  refine Ev.step (pc' := 216) (ls' := [some (.ref a), some (.ref b), some (.int (k + 1))]) (st' := []) (M1 := M) 2 (fun n => rfl) ?_
  exact hz
theorem cp_245 {e : Nat} {M : Mem} {M' : Mem} {v : Option Value} {va vb : List Value} {k y2 : Int32} {a b : Nat} (hb : gNth M b = some (.inr (1, vb))) (f1 : gNth vb 16 = some (.int y2)) (ha : gNth M a = some (.inr (1, va))) (hla : 16 < va.length) (hz : Ev none e 13 253 [some (.ref a), some (.ref b), some (.int k)] [] (gPut M a (.inr (1, gPut va 16 (.int y2)))) v M' 0 0) : Ev none e 13 245 [some (.ref a), some (.ref b), some (.int k)] [] M v M' 0 0 := by
  refine Ev.step (pc' := 247) (ls' := [some (.ref a), some (.ref b), some (.int k)]) (st' := [.ref b, .ref a]) (M1 := M) 2 (fun n => rfl) ?_
  refine Ev.step 1 (gs_3 rfl rfl (gf_c rfl hb f1)) ?_
  refine Ev.step 1 (gs_4 rfl rfl (pf_c rfl ha hla rfl rfl)) ?_
  exact hz
theorem cp_253 {e : Nat} {M : Mem} {M' : Mem} {v : Option Value} {va vb : List Value} {k y2 : Int32} {a b : Nat} (hb : gNth M b = some (.inr (1, vb))) (f1 : gNth vb 17 = some (.int y2)) (ha : gNth M a = some (.inr (1, va))) (hla : 17 < va.length) (hz : Ev none e 13 261 [some (.ref a), some (.ref b), some (.int k)] [] (gPut M a (.inr (1, gPut va 17 (.int y2)))) v M' 0 0) : Ev none e 13 253 [some (.ref a), some (.ref b), some (.int k)] [] M v M' 0 0 := by
  refine Ev.step (pc' := 255) (ls' := [some (.ref a), some (.ref b), some (.int k)]) (st' := [.ref b, .ref a]) (M1 := M) 2 (fun n => rfl) ?_
  refine Ev.step 1 (gs_3 rfl rfl (gf_c rfl hb f1)) ?_
  refine Ev.step 1 (gs_4 rfl rfl (pf_c rfl ha hla rfl rfl)) ?_
  exact hz
theorem cp_261 {e : Nat} {M : Mem} {M' : Mem} {v : Option Value} {va vb : List Value} {k y2 : Int32} {a b : Nat} (hb : gNth M b = some (.inr (1, vb))) (f1 : gNth vb 18 = some (.int y2)) (ha : gNth M a = some (.inr (1, va))) (hla : 18 < va.length) (hz : Ev none e 13 269 [some (.ref a), some (.ref b), some (.int k)] [] (gPut M a (.inr (1, gPut va 18 (.int y2)))) v M' 0 0) : Ev none e 13 261 [some (.ref a), some (.ref b), some (.int k)] [] M v M' 0 0 := by
  refine Ev.step (pc' := 263) (ls' := [some (.ref a), some (.ref b), some (.int k)]) (st' := [.ref b, .ref a]) (M1 := M) 2 (fun n => rfl) ?_
  refine Ev.step 1 (gs_3 rfl rfl (gf_c rfl hb f1)) ?_
  refine Ev.step 1 (gs_4 rfl rfl (pf_c rfl ha hla rfl rfl)) ?_
  exact hz
theorem cp_269 {e : Nat} {M : Mem} {va vb : List Value} {k y2 : Int32} {a b : Nat} (hb : gNth M b = some (.inr (1, vb))) (f1 : gNth vb 19 = some (.int y2)) (ha : gNth M a = some (.inr (1, va))) (hla : 19 < va.length) : Ev none e 13 269 [some (.ref a), some (.ref b), some (.int k)] [] M none (gPut M a (.inr (1, gPut va 19 (.int y2)))) 0 0 := by
  refine Ev.step (pc' := 271) (ls' := [some (.ref a), some (.ref b), some (.int k)]) (st' := [.ref b, .ref a]) (M1 := M) 2 (fun n => rfl) ?_
  refine Ev.step 1 (gs_3 rfl rfl (gf_c rfl hb f1)) ?_
  refine Ev.step 1 (gs_4 rfl rfl (pf_c rfl ha hla rfl rfl)) ?_
  exact Ev.ret (fun n => rfl)
theorem cal_wc {M : Mem} {vs : List Value} {a : Nat} {a0 : Nat} {rest : List Value} (hM : gNth M a = some (.inr (8, vs))) (hr : gRoom rest = true) : gCal (.invokevirtual 110) 1 (.ref a0 :: .ref a :: rest) M = some (.inr (75, [some (.ref a), some (.ref a0)], rest)) := by
  show @cond (Option ((List Value × Mem) ⊕ (Nat × Lo × List Value))) (true && gRecv M (.ref a) 8 && gRoom rest && true) (some (.inr (75, [some (.ref a), some (.ref a0)], rest))) none = _
  rw [recv_c hM, hr]
  rfl
def mdCp : Md := [(8, 0), (8, 1), (8, 2), (8, 3), (8, 4)]
theorem lrow {M : Mem} {a k g kd n g2 j : Nat} {vl : List Value} {x : Int32} (hT : TM sT sG M) (hg : gNth sT a = some 8) (hM : gNth M a = some (.inr (1, vl))) (h1 : fdB 8 1 k g = true) (h2 : rrB g kd n g2 = true) (hx : x.toInt = (j : Int)) (hj : j < n) : ∃ r l b, gNth vl k = some (.ref r) ∧ gNth sT r = some g ∧ gNth M r = some (.inl (kd, .inr (.inr l))) ∧ gAt l x = some (some b) ∧ gNth l j = some (some b) ∧ gNth sT b = some g2 := by
  obtain ⟨vs, b, f1, f2, f3⟩ := hT.fref hg h1
  cases f1.symm.trans hM
  obtain ⟨l, g1, g4, g3, _⟩ := hT.rref f3 h2
  obtain ⟨y, i1, i2⟩ := at_c (l := l) hx (by omega)
  obtain ⟨c, rfl, hc⟩ := g3 j y i2
  exact ⟨b, l, c, f2, f3, g1, i1, i2, hc⟩
section CPY
variable {S : Nat → Prop} {ld e : Nat}
theorem cge_kp {md : Md} {M M' : Mem} {b : Nat} (h : KP (fun _ => False) md ld M M') (hc : cge M b) : cge M' b := h.2.2.2 b (fun q => q) hc
theorem ev_wcopy {o p : Nat} {M0 : Mem} (T0 : TM sT sG M0) (L0 : LD ld M0) (ho : gNth sT o = some 21) (hp : gNth sT p = some 21) (hc : cge M0 p) : ∃ M', Ev none e 75 0 [some (.ref o), some (.ref p)] [] M0 none M' 0 0 ∧ KP (fun _ => False) mdCp ld M0 M' ∧ cge M' o := by
  obtain ⟨q0, z0, s0, t0, _, u0, w0, _⟩ := T0.fnum hp ly_cell
  obtain ⟨us, x, g2, g3, g4⟩ := hc
  cases g2.symm.trans s0
  cases g3.symm.trans t0
  obtain ⟨v0, y0, a0, b0, c0, _, _, _⟩ := T0.fnum ho ly_cell
  obtain ⟨M1, m1⟩ : ∃ N, N = gPut M0 o (.inr (8, gPut v0 0 (.int z0))) := ⟨_, rfl⟩
  have K1 : KP (fun _ => False) mdCp ld M0 M1 := by rw [m1]; exact KP.fld T0 L0 ho ly_cell a0 (by decide) u0 w0 (by decide) (Or.inr (Or.inr g4))
  have T1 := K1.1
  have L1 := K1.2.2.1
  obtain ⟨q1, z1, s1, t1, _, u1, w1, _⟩ := T1.fnum hp ly_wwish
  obtain ⟨v1, y1, a1, b1, c1, _, _, _⟩ := T1.fnum ho ly_wwish
  obtain ⟨M2, m2⟩ : ∃ N, N = gPut M1 o (.inr (8, gPut v1 1 (.int z1))) := ⟨_, rfl⟩
  have K2 : KP (fun _ => False) mdCp ld M1 M2 := by rw [m2]; exact KP.fld T1 L1 ho ly_wwish a1 (by decide) u1 w1 (by decide) (Or.inl (by decide))
  have T2 := K2.1
  have L2 := K2.2.2.1
  obtain ⟨q2, z2, s2, t2, _, u2, w2, _⟩ := T2.fnum hp ly_age
  obtain ⟨v2, y2, a2, b2, c2, _, _, _⟩ := T2.fnum ho ly_age
  obtain ⟨M3, m3⟩ : ∃ N, N = gPut M2 o (.inr (8, gPut v2 2 (.int z2))) := ⟨_, rfl⟩
  have K3 : KP (fun _ => False) mdCp ld M2 M3 := by rw [m3]; exact KP.fld T2 L2 ho ly_age a2 (by decide) u2 w2 (by decide) (Or.inl (by decide))
  have T3 := K3.1
  have L3 := K3.2.2.1
  obtain ⟨q3, z3, s3, t3, _, u3, w3, _⟩ := T3.fnum hp ly_came
  obtain ⟨v3, y3, a3, b3, c3, _, _, _⟩ := T3.fnum ho ly_came
  obtain ⟨M4, m4⟩ : ∃ N, N = gPut M3 o (.inr (8, gPut v3 3 (.int z3))) := ⟨_, rfl⟩
  have K4 : KP (fun _ => False) mdCp ld M3 M4 := by rw [m4]; exact KP.fld T3 L3 ho ly_came a3 (by decide) u3 w3 (by decide) (Or.inl (by decide))
  have T4 := K4.1
  have L4 := K4.2.2.1
  obtain ⟨q4, z4, s4, t4, _, u4, w4, _⟩ := T4.fnum hp ly_way
  obtain ⟨v4, y4, a4, b4, c4, _, _, _⟩ := T4.fnum ho ly_way
  obtain ⟨M5, m5⟩ : ∃ N, N = gPut M4 o (.inr (8, gPut v4 4 (.int z4))) := ⟨_, rfl⟩
  have K5 : KP (fun _ => False) mdCp ld M4 M5 := by rw [m5]; exact KP.fld T4 L4 ho ly_way a4 (by decide) u4 w4 (by decide) (Or.inl (by decide))
  have T5 := K5.1
  have L5 := K5.2.2.1
  have hc : cge M1 o := ⟨_, z0, by rw [m1, nth_put, if_pos ⟨rfl, gNth_lt _ _ _ a0⟩], by rw [nth_put, if_pos ⟨rfl, c0⟩], g4⟩
  refine ⟨M5, ?_, K1.trans (K2.trans (K3.trans (K4.trans K5))), cge_kp K5 (cge_kp K4 (cge_kp K3 (cge_kp K2 hc)))⟩
  refine wc_0 s0 t0 a0 c0 ?_
  rw [← m1]
  refine wc_8 s1 t1 a1 c1 ?_
  rw [← m2]
  refine wc_16 s2 t2 a2 c2 ?_
  rw [← m3]
  refine wc_24 s3 t3 a3 c3 ?_
  rw [← m4, m5]
  exact wc_32 s4 t4 a4 c4
/-- the copy's walkers, so far -/
def CP (a b : Nat) (n : Int32) (nn i : Nat) (M : Mem) : Prop := (∀ c, c ∈ [8, 243, 345, 441, 537] → c ≠ a → WK c M) ∧ (∃ (vl : List Value) (l : List (Option Nat)), gNth M a = some (.inr (1, vl)) ∧ gNth vl 14 = some (.ref (a + 11)) ∧ gNth vl 15 = some (.int n) ∧ gNth M (a + 11) = some (.inl (6, .inr (.inr l))) ∧ unl l ∧ (∀ k b, gNth l k = some (some b) → a + 36 ≤ b ∧ b < a + 96) ∧ ∀ k, k < i → ∃ b, gNth l k = some (some b) ∧ cge M b) ∧ ∃ (vl : List Value) (l : List (Option Nat)), gNth M b = some (.inr (1, vl)) ∧ gNth vl 14 = some (.ref (b + 11)) ∧ gNth M (b + 11) = some (.inl (6, .inr (.inr l))) ∧ ∀ k, k < nn → ∃ c, gNth l k = some (some c) ∧ cge M c
theorem WK.kp {md : Md} {c : Nat} {M M' : Mem} (hc : c ∈ [8, 243, 345, 441, 537]) (h : WK c M) (hK : KP (fun _ => False) md ld M M') (m1 : (1, 14) ∉ md) (m2 : (1, 15) ∉ md) (m4 : (1019, 0) ∉ md) : WK c M' := by
  obtain ⟨vl, l, n, e1, e2, e3, e4, e5, e6, e7⟩ := h
  obtain ⟨vl', f1, f2, f3⟩ := hK.2.1.2.1 _ _ _ e1
  refine ⟨vl', l, n, f1, (f3 14 m1).trans e2, (f3 15 m2).trans e3, row_frm hK.2.1 (ld_row hc) m4 e4, e5, e6, fun k hk => ?_⟩
  obtain ⟨b, g1, g2⟩ := e7 k hk
  exact ⟨b, g1, cge_kp hK g2⟩
theorem CP.kp {md : Md} {a b i nn : Nat} {n : Int32} {M M' : Mem} (ha : a ∈ [8, 243, 345, 441, 537]) (hb : b ∈ [8, 243, 345, 441, 537]) (h : CP a b n nn i M) (hK : KP (fun _ => False) md ld M M') (m1 : (1, 14) ∉ md) (m2 : (1, 15) ∉ md) (m4 : (1019, 0) ∉ md) : CP a b n nn i M' := by
  obtain ⟨h1, ⟨vl, l, e1, e2, e3, e4, e5, e6, e7⟩, vb, lb, d1, d2, d3, d4⟩ := h
  obtain ⟨vl', f1, f2, f3⟩ := hK.2.1.2.1 _ _ _ e1
  obtain ⟨vb', f4, f5, f6⟩ := hK.2.1.2.1 _ _ _ d1
  refine ⟨fun c hc hca => WK.kp hc (h1 c hc hca) hK m1 m2 m4, ⟨vl', l, f1, (f3 14 m1).trans e2, (f3 15 m2).trans e3, row_frm hK.2.1 (ld_row ha) m4 e4, e5, e6, fun k hk => ?_⟩, vb', lb, f4, (f6 14 m1).trans d2, row_frm hK.2.1 (ld_row hb) m4 d3, fun k hk => ?_⟩
  · obtain ⟨c, g1, g2⟩ := e7 k hk
    exact ⟨c, g1, cge_kp hK g2⟩
  · obtain ⟨c, g1, g2⟩ := d4 k hk
    exact ⟨c, g1, cge_kp hK g2⟩
theorem cp_loop {a b nn : Nat} {n : Int32} (ga : gNth sT a = some 8) (gb : gNth sT b = some 8) (hn : n.toInt = (nn : Int)) (h60 : nn ≤ 60) : ∀ (j i : Nat) (k : Int32) (M : Mem), i + j = nn → k.toInt = (i : Int) → TM sT sG M → CP a b n nn i M → ∃ M' k', TM sT sG M' ∧ Frm sT mdCp M M' ∧ CP a b n nn nn M' ∧ ∀ v MF, Ev none (e + 1) 13 245 [some (.ref a), some (.ref b), some (.int k')] [] M' v MF 0 0 → Ev none (e + 1) 13 216 [some (.ref a), some (.ref b), some (.int k)] [] M v MF 0 0 := by
  intro j
  have ha := ld_in ga
  have hb := ld_in gb
  induction j with
  | zero =>
    intro i k M hj hk hT hC
    have hi : i = nn := by omega
    subst hi
    have hC2 := hC
    obtain ⟨_, ⟨vl, l, e1, e2, e3, _⟩, _⟩ := hC2
    exact ⟨M, k, hT, Frm.refl _, hC, fun v MF h => cp_216 e1 e3 (by rw [if_pos (by rw [Int32.le_iff_toInt_le]; omega)]; exact h)⟩
  | succ j ih =>
    intro i k M hj hk hT hC
    obtain ⟨h1, ⟨vl, l, e1, e2, e3, e4, e5, e6, e7⟩, vb, lb, d1, d2, d3, d4⟩ := hC
    obtain ⟨vw, ld, u1, u2, u3⟩ := hT.fref sT_104 ly_land
    obtain ⟨ra, l', o, p1, p2, p3, p4, p5, p6⟩ := lrow hT ga e1 ly_wk ly_wkr hk (by omega)
    cases p1.symm.trans e2
    cases p3.symm.trans e4
    obtain ⟨rb, lb', p, q1, q2, q3, q4, q5, q6⟩ := lrow hT gb d1 ly_wk ly_wkr hk (by omega)
    cases q1.symm.trans d2
    cases q3.symm.trans d3
    obtain ⟨p', r1, r2⟩ := d4 i (by omega)
    cases r1.symm.trans q5
    obtain ⟨M1, s1, K1, s3⟩ := ev_wcopy (e := e) hT ⟨vw, u1, u2⟩ p6 q6 r2
    obtain ⟨c1, ⟨vl2, l2, f1, f2, f3, f4, f5, f6, f7⟩, c3⟩ := CP.kp ha hb ⟨h1, ⟨vl, l, e1, e2, e3, e4, e5, e6, e7⟩, vb, lb, d1, d2, d3, d4⟩ K1 (by decide) (by decide) (by decide)
    have f4' := row_frm K1.2.1 (ld_row ha) (by decide) e4
    cases f4'.symm.trans f4
    have ek : (k + 1).toInt = k.toInt + 1 := i32_p1 (by omega)
    obtain ⟨MF, k', t1, t2, t3, t4⟩ := ih (i + 1) (k + 1) M1 (by omega) (by omega) K1.1 ⟨c1, ⟨vl2, l, f1, f2, f3, f4, f5, f6, fun m hm => by
      by_cases hmi : m = i
      · exact ⟨o, by rw [hmi]; exact p5, s3⟩
      · exact f7 m (by omega)⟩, c3⟩
    obtain ⟨vo, yo, ho, _⟩ := hT.fnum p6 ly_cell
    refine ⟨MF, k', t1, K1.2.1.trans t2, t3, fun v MF2 h => cp_216 e1 e3 ?_⟩
    rw [if_neg (by rw [Int32.le_iff_toInt_le]; omega)]
    exact cp_224 e1 e2 e4 p4 d1 d2 d3 q4 (Ev.call0 (fun n => gs_7 rfl rfl (cal_wc ho rfl)) s1 (cp_239 (t4 v MF2 h)))
theorem CP.end {a b nn : Nat} {n : Int32} {M : Mem} (hn : n.toInt = (nn : Int)) (h : CP a b n nn nn M) : P34 M := by
  intro c hc
  obtain ⟨h1, ⟨vl, l, e1, e2, e3, e4, e5, e6, e7⟩, _⟩ := h
  by_cases hca : c = a
  · subst hca
    exact ⟨vl, l, n, e1, e2, e3, e4, e5, e6, fun k hk => e7 k (by omega)⟩
  · exact h1 c hc hca
def mdCq : Md := [(1, 15), (1, 16), (1, 17), (1, 18), (1, 19), (8, 0), (8, 1), (8, 2), (8, 3), (8, 4)]
theorem cp_all {a b : Nat} {x2 : Option Value} {M : Mem} (ga : gNth sT a = some 8) (gb : gNth sT b = some 8) (hT : TM sT sG M) (hP : P34 M) : ∃ M', Ev none (e + 1) 13 206 [some (.ref a), some (.ref b), x2] [] M none M' 0 0 ∧ TM sT sG M' ∧ Frm sT mdCq M M' ∧ P34 M' := by
  have ha := ld_in ga
  have hb := ld_in gb
  obtain ⟨vl, l, n0, e1, e2, e3, e4, e5, e6, e7⟩ := hP a ha
  obtain ⟨vb, lb, n, d1, d2, d3, d4, d5, d6, d7⟩ := hP b hb
  obtain ⟨vb', n', f1, f2, f3, f4, f5, _⟩ := hT.fnum gb ly_walkers
  cases f1.symm.trans d1
  cases f2.symm.trans d3
  obtain ⟨vl', n'', g1, g2, g3, _, _, g6⟩ := hT.fnum ga ly_walkers
  cases g1.symm.trans e1
  obtain ⟨nn, hnn⟩ : ∃ nn : Nat, n.toInt = (nn : Int) := ⟨n.toInt.toNat, by omega⟩
  obtain ⟨M1, m1⟩ : ∃ N, N = gPut M a (.inr (1, gPut vl 15 (.int n))) := ⟨_, rfl⟩
  have T1 : TM sT sG M1 := by rw [m1]; exact g6 n f4 f5
  have F1 : Frm sT [(1, 15)] M M1 := by rw [m1]; exact Frm.fld e1 List.mem_cons_self
  have oth : ∀ c us, c ≠ a → gNth M c = some us → gNth M1 c = some us := by
    intro c us hca h
    rw [m1, nth_put, if_neg (fun q => hca q.1)]
    exact h
  have C1 : CP a b n nn 0 M1 := by
    refine ⟨fun c hc hca => ?_, ⟨gPut vl 15 (.int n), l, by rw [m1, nth_put, if_pos ⟨rfl, gNth_lt _ _ _ e1⟩], by rw [nth_put, if_neg (by omega)]; exact e2, by rw [nth_put, if_pos ⟨rfl, g3⟩], row_frm F1 (ld_row ha) (by decide) e4, e5, e6, fun k hk => absurd hk (Nat.not_lt_zero _)⟩, ?_⟩
    · obtain ⟨v9, l9, n9, i1, i2, i3, i4, i5, i6, i7⟩ := hP c hc
      refine ⟨v9, l9, n9, oth c _ hca i1, i2, i3, row_frm F1 (ld_row hc) (by decide) i4, i5, i6, fun k hk => ?_⟩
      obtain ⟨x, x1, x2⟩ := i7 k hk
      exact ⟨x, x1, cge_frm F1 (by decide) x2⟩
    · obtain ⟨v9, j1, j2⟩ := fk F1 (by decide) d1 d2
      refine ⟨v9, lb, j1, j2, row_frm F1 (ld_row hb) (by decide) d4, fun k hk => ?_⟩
      obtain ⟨x, x1, x2⟩ := d7 k (by omega)
      exact ⟨x, x1, cge_frm F1 (by decide) x2⟩
  obtain ⟨M2, k', t1, t2, t3, t4⟩ := cp_loop (e := e) ga gb hnn (by omega) nn 0 0 M1 (by omega) rfl T1 C1
  have P2 := t3.end hnn
  obtain ⟨vw, ld, u1, u2, u3⟩ := t1.fref sT_104 ly_land
  have L2 : LD ld M2 := ⟨vw, u1, u2⟩
  have T2 := t1
  obtain ⟨q2, z2, s2, r2, _⟩ := T2.fnum gb ly_tick
  obtain ⟨v2, y2, a2, b2, c2, _⟩ := T2.fnum ga ly_tick
  obtain ⟨M3, m3⟩ : ∃ N, N = gPut M2 a (.inr (1, gPut v2 16 (.int z2))) := ⟨_, rfl⟩
  have K3 : KP (fun _ => False) mdCq ld M2 M3 := by rw [m3]; exact KP.fld T2 L2 ga ly_tick a2 (by decide) (i32_lt _).1 (i32_lt _).2 (by decide) (Or.inl (by decide))
  have F3 : Frm sT [(1, 16)] M2 M3 := by rw [m3]; exact Frm.fld a2 List.mem_cons_self
  have T3 := K3.1
  have L3 := K3.2.2.1
  have P3 : P34 M3 := P2.frm F3 (by decide) (by decide) (by decide) (by decide)
  obtain ⟨q3, z3, s3, r3, _⟩ := T3.fnum gb ly_arr
  obtain ⟨v3, y3, a3, b3, c3, _⟩ := T3.fnum ga ly_arr
  obtain ⟨M4, m4⟩ : ∃ N, N = gPut M3 a (.inr (1, gPut v3 17 (.int z3))) := ⟨_, rfl⟩
  have K4 : KP (fun _ => False) mdCq ld M3 M4 := by rw [m4]; exact KP.fld T3 L3 ga ly_arr a3 (by decide) (i32_lt _).1 (i32_lt _).2 (by decide) (Or.inl (by decide))
  have F4 : Frm sT [(1, 17)] M3 M4 := by rw [m4]; exact Frm.fld a3 List.mem_cons_self
  have T4 := K4.1
  have L4 := K4.2.2.1
  have P4 : P34 M4 := P3.frm F4 (by decide) (by decide) (by decide) (by decide)
  obtain ⟨q4, z4, s4, r4, _⟩ := T4.fnum gb ly_lost
  obtain ⟨v4, y4, a4, b4, c4, _⟩ := T4.fnum ga ly_lost
  obtain ⟨M5, m5⟩ : ∃ N, N = gPut M4 a (.inr (1, gPut v4 18 (.int z4))) := ⟨_, rfl⟩
  have K5 : KP (fun _ => False) mdCq ld M4 M5 := by rw [m5]; exact KP.fld T4 L4 ga ly_lost a4 (by decide) (i32_lt _).1 (i32_lt _).2 (by decide) (Or.inl (by decide))
  have F5 : Frm sT [(1, 18)] M4 M5 := by rw [m5]; exact Frm.fld a4 List.mem_cons_self
  have T5 := K5.1
  have L5 := K5.2.2.1
  have P5 : P34 M5 := P4.frm F5 (by decide) (by decide) (by decide) (by decide)
  obtain ⟨q5, z5, s5, r5, _⟩ := T5.fnum gb ly_turn
  obtain ⟨v5, y5, a5, b5, c5, _⟩ := T5.fnum ga ly_turn
  obtain ⟨M6, m6⟩ : ∃ N, N = gPut M5 a (.inr (1, gPut v5 19 (.int z5))) := ⟨_, rfl⟩
  have K6 : KP (fun _ => False) mdCq ld M5 M6 := by rw [m6]; exact KP.fld T5 L5 ga ly_turn a5 (by decide) (i32_lt _).1 (i32_lt _).2 (by decide) (Or.inl (by decide))
  have F6 : Frm sT [(1, 19)] M5 M6 := by rw [m6]; exact Frm.fld a5 List.mem_cons_self
  have T6 := K6.1
  have L6 := K6.2.2.1
  have P6 : P34 M6 := P5.frm F6 (by decide) (by decide) (by decide) (by decide)
  refine ⟨M6, cp_206 d1 d3 e1 g3 ?_, T6, (F1.more (mdSub_mem rfl)).trans ((t2.more (mdSub_mem rfl)).trans (K3.2.1.trans (K4.2.1.trans (K5.2.1.trans K6.2.1)))), P6⟩
  rw [← m1]
  refine t4 _ _ (cp_245 s2 r2 a2 c2 ?_)
  rw [← m3]
  refine cp_253 s3 r3 a3 c3 ?_
  rw [← m4]
  refine cp_261 s4 r4 a4 c4 ?_
  rw [← m5]
  rw [m6]
  exact cp_269 s5 r5 a5 c5
end CPY
/-! BY HAND, the class: copy, put together; among -/
theorem kX1_copy_ok : cnOK sT sG FL0 kX1_copy := by
  refine ccX_V sU_ok dp0_ok ct0_ok kX1_copy_D_ok kX1_copy_chk (fun d M ws hD rB x hx cl M' hc => ?_)
  cases List.mem_singleton.mp hx
  obtain ⟨ρ, π, i0, i1, i2, hF⟩ := hc
  rcases cl with _ | ⟨c0, _ | ⟨c1, _ | ⟨c2, _ | ⟨c3, cl⟩⟩⟩⟩
  · exact i1.elim
  · exact i1.2.elim
  · exact i1.2.2.elim
  rotate_left
  · exact i1.2.2.2.elim
  obtain ⟨⟨x0, rfl, a, ra, rfl⟩, ⟨x1, rfl, b, rb, rfl⟩, h2, _⟩ := i1
  obtain ⟨a', pa, ga⟩ := i2.2.2.2.1.2 0 8 rfl
  obtain ⟨b', pb, gb⟩ := i2.2.2.2.1.2 1 8 rfl
  have ra : gNth π 0 = some a := ra
  have rb : gNth π 1 = some b := rb
  cases pa.symm.trans ra
  cases pb.symm.trans rb
  obtain ⟨vs, _, hP⟩ := i2.2.1 (34, []) (List.mem_singleton.mpr rfl)
  obtain ⟨e, rfl⟩ : ∃ e, d = e + 1 := ⟨d - 1, by have : 1 ≤ d := hD; omega⟩
  obtain ⟨MF, h1, h2, h3, h4⟩ := cp_all (e := e) (x2 := c2) ga gb i2.2.2.2.2.2 (fl0_34 hP)
  exact ⟨none, MF, h1, h2, hF.trans (h3.more (mdSub_mem rfl)), _, List.mem_singleton.mpr rfl, trivial, fun q hq => (by cases hq), [], trivial, fun f hf => (by cases List.mem_singleton.mp hf; exact ⟨[], trivial, h4⟩), fun f hf => (by cases hf)⟩
theorem am_0 {e : Nat} {M : Mem} {M' : Mem} {v : Option Value} {vw : List Value} {y2 : Int32} {tk w : Nat} {x2 x3 x4 x5 x6 x7 : Option Value} (hw : gNth M w = some (.inr (3, vw))) (f1 : gNth vw 7 = some (.int y2)) (hz : Ev none (e + 1) 32 (if y2 = 2 then 10 else 8) [some (.ref w), some (.retAddr (10 + tk)), x2, x3, x4, x5, x6, x7] [] M v M' 0 0) : Ev none (e + 1) 32 0 [some (.ref w), some (.retAddr (10 + tk)), x2, x3, x4, x5, x6, x7] [] M v M' 0 0 := by
  refine Ev.step (pc' := 1) (ls' := [some (.ref w), some (.retAddr (10 + tk)), x2, x3, x4, x5, x6, x7]) (st' := [.ref w]) (M1 := M) 1 (fun n => rfl) ?_
  refine Ev.step 1 (gs_3 rfl rfl (gf_c rfl hw f1)) ?_
  refine Ev.step (pc' := (if y2 = 2 then 10 else 8)) (ls' := [some (.ref w), some (.retAddr (10 + tk)), x2, x3, x4, x5, x6, x7]) (st' := []) (M1 := M) 2 (fun n => rfl) ?_
  exact hz
theorem am_8 {e : Nat} {M : Mem} {tk w : Nat} {x2 x3 x4 x5 x6 x7 : Option Value}  : Ev none (e + 1) 32 8 [some (.ref w), some (.retAddr (10 + tk)), x2, x3, x4, x5, x6, x7] [] M (some (.int (-1))) M 0 0 := by
  refine Ev.step (pc' := 9) (ls' := [some (.ref w), some (.retAddr (10 + tk)), x2, x3, x4, x5, x6, x7]) (st' := [.int (-1)]) (M1 := M) 1 (fun n => rfl) ?_
  exact Ev.ret (fun n => rfl)
theorem am_10 {e : Nat} {M : Mem} {M' : Mem} {v : Option Value} {vw : List Value} {y10 y4 y6 : Int32} {a2 a8 tk w : Nat} {la2 la8 : List Int32} {x2 x3 x4 x5 x6 x7 : Option Value} (hw : gNth M w = some (.inr (3, vw))) (f1 : gNth vw 2 = some (.ref a2)) (f3 : gNth vw 6 = some (.int y4)) (ra2 : gNth M a2 = some (.inl (1, .inl la2))) (g5 : gAt la2 y4 = some y6) (f7 : gNth vw 3 = some (.ref a8)) (ra8 : gNth M a8 = some (.inl (1, .inl la8))) (g9 : gAt la8 y4 = some y10) (hz : Ev none (e + 1) 32 44 [some (.ref w), some (.retAddr (10 + tk)), some (.int y6), some (.int (y10 - y6)), some (.int 0), some (.int 0), some (.int 1), some (.int 0)] [] M v M' 0 0) : Ev none (e + 1) 32 10 [some (.ref w), some (.retAddr (10 + tk)), x2, x3, x4, x5, x6, x7] [] M v M' 0 0 := by
  refine Ev.step (pc' := 11) (ls' := [some (.ref w), some (.retAddr (10 + tk)), x2, x3, x4, x5, x6, x7]) (st' := [.ref w]) (M1 := M) 1 (fun n => rfl) ?_
  refine Ev.step 1 (gs_3 rfl rfl (gf_c rfl hw f1)) ?_
  refine Ev.step (pc' := 15) (ls' := [some (.ref w), some (.retAddr (10 + tk)), x2, x3, x4, x5, x6, x7]) (st' := [.ref w, .ref a2]) (M1 := M) 1 (fun n => rfl) ?_
  refine Ev.step 1 (gs_3 rfl rfl (gf_c rfl hw f3)) ?_
  refine Ev.step 1 (gs_3 rfl rfl (ia_c ra2 g5)) ?_
  refine Ev.step (pc' := 21) (ls' := [some (.ref w), some (.retAddr (10 + tk)), some (.int y6), x3, x4, x5, x6, x7]) (st' := [.ref w]) (M1 := M) 2 (fun n => rfl) ?_
  refine Ev.step 1 (gs_3 rfl rfl (gf_c rfl hw f7)) ?_
  refine Ev.step (pc' := 25) (ls' := [some (.ref w), some (.retAddr (10 + tk)), some (.int y6), x3, x4, x5, x6, x7]) (st' := [.ref w, .ref a8]) (M1 := M) 1 (fun n => rfl) ?_
  refine Ev.step 1 (gs_3 rfl rfl (gf_c rfl hw f3)) ?_
  refine Ev.step 1 (gs_3 rfl rfl (ia_c ra8 g9)) ?_
  refine Ev.step (pc' := 44) (ls' := [some (.ref w), some (.retAddr (10 + tk)), some (.int y6), some (.int (y10 - y6)), some (.int 0), some (.int 0), some (.int 1), some (.int 0)]) (st' := []) (M1 := M) 11 (fun n => rfl) ?_
  exact hz
theorem am_44 {e : Nat} {M : Mem} {M' : Mem} {v : Option Value} {av ix k ln s sm : Int32} {tk w : Nat}  (hz : Ev none (e + 1) 32 47 [some (.ref w), some (.retAddr (10 + tk)), some (.int s), some (.int ln), some (.int ix), some (.int av), some (.int sm), some (.int k)] [.retAddr (10 + tk), .int k] M v M' 0 0) : Ev none (e + 1) 32 44 [some (.ref w), some (.retAddr (10 + tk)), some (.int s), some (.int ln), some (.int ix), some (.int av), some (.int sm), some (.int k)] [] M v M' 0 0 := by
  refine Ev.step (pc' := 47) (ls' := [some (.ref w), some (.retAddr (10 + tk)), some (.int s), some (.int ln), some (.int ix), some (.int av), some (.int sm), some (.int k)]) (st' := [.retAddr (10 + tk), .int k]) (M1 := M) 2 (fun n => rfl) ?_
  exact hz
theorem am_50 {e : Nat} {M : Mem} {M' : Mem} {v : Option Value} {av ix k ln s sm x y : Int32} {tk w : Nat}  (hz : Ev none (e + 1) 32 (if y < x then 156 else 53) [some (.ref w), some (.retAddr (10 + tk)), some (.int s), some (.int ln), some (.int ix), some (.int av), some (.int sm), some (.int k)] [] M v M' 0 0) : Ev none (e + 1) 32 50 [some (.ref w), some (.retAddr (10 + tk)), some (.int s), some (.int ln), some (.int ix), some (.int av), some (.int sm), some (.int k)] [.int y, .int x] M v M' 0 0 := by
  refine Ev.step (pc' := (if y < x then 156 else 53)) (ls' := [some (.ref w), some (.retAddr (10 + tk)), some (.int s), some (.int ln), some (.int ix), some (.int av), some (.int sm), some (.int k)]) (st' := []) (M1 := M) 1 (fun n => rfl) ?_
  exact hz
theorem am_53 {e : Nat} {M : Mem} {M' : Mem} {v : Option Value} {av ix k ln s sm : Int32} {tk w : Nat}  (hz : Ev none (e + 1) 32 56 [some (.ref w), some (.retAddr (10 + tk)), some (.int s), some (.int ln), some (.int ix), some (.int av), some (.int sm), some (.int k)] [.retAddr (10 + tk), .int k] M v M' 0 0) : Ev none (e + 1) 32 53 [some (.ref w), some (.retAddr (10 + tk)), some (.int s), some (.int ln), some (.int ix), some (.int av), some (.int sm), some (.int k)] [] M v M' 0 0 := by
  refine Ev.step (pc' := 56) (ls' := [some (.ref w), some (.retAddr (10 + tk)), some (.int s), some (.int ln), some (.int ix), some (.int av), some (.int sm), some (.int k)]) (st' := [.retAddr (10 + tk), .int k]) (M1 := M) 2 (fun n => rfl) ?_
  exact hz
theorem am_59 {e : Nat} {M : Mem} {M' : Mem} {v : Option Value} {av ix k ln s sm x y : Int32} {tk w : Nat}  (hz : Ev none (e + 1) 32 (if x = y then 73 else 62) [some (.ref w), some (.retAddr (10 + tk)), some (.int s), some (.int ln), some (.int ix), some (.int av), some (.int sm), some (.int k)] [] M v M' 0 0) : Ev none (e + 1) 32 59 [some (.ref w), some (.retAddr (10 + tk)), some (.int s), some (.int ln), some (.int ix), some (.int av), some (.int sm), some (.int k)] [.int y, .int x] M v M' 0 0 := by
  refine Ev.step (pc' := (if x = y then 73 else 62)) (ls' := [some (.ref w), some (.retAddr (10 + tk)), some (.int s), some (.int ln), some (.int ix), some (.int av), some (.int sm), some (.int k)]) (st' := []) (M1 := M) 1 (fun n => rfl) ?_
  exact hz
theorem am_62 {e : Nat} {M : Mem} {M' : Mem} {v : Option Value} {av ix k ln s sm : Int32} {tk w : Nat}  (hz : Ev none (e + 1) 32 65 [some (.ref w), some (.retAddr (10 + tk)), some (.int s), some (.int ln), some (.int ix), some (.int av), some (.int sm), some (.int k)] [.int k, .retAddr (10 + tk)] M v M' 0 0) : Ev none (e + 1) 32 62 [some (.ref w), some (.retAddr (10 + tk)), some (.int s), some (.int ln), some (.int ix), some (.int av), some (.int sm), some (.int k)] [] M v M' 0 0 := by
  refine Ev.step (pc' := 65) (ls' := [some (.ref w), some (.retAddr (10 + tk)), some (.int s), some (.int ln), some (.int ix), some (.int av), some (.int sm), some (.int k)]) (st' := [.int k, .retAddr (10 + tk)]) (M1 := M) 2 (fun n => rfl) ?_
  exact hz
theorem am_68 {e : Nat} {M : Mem} {M' : Mem} {v : Option Value} {av ix k ln s sm y : Int32} {tk w : Nat}  (hz : Ev none (e + 1) 32 (if y = 32 then 73 else 105) [some (.ref w), some (.retAddr (10 + tk)), some (.int s), some (.int ln), some (.int ix), some (.int av), some (.int sm), some (.int k)] [] M v M' 0 0) : Ev none (e + 1) 32 68 [some (.ref w), some (.retAddr (10 + tk)), some (.int s), some (.int ln), some (.int ix), some (.int av), some (.int sm), some (.int k)] [.int y] M v M' 0 0 := by
  refine Ev.step (pc' := (if y = 32 then 73 else 105)) (ls' := [some (.ref w), some (.retAddr (10 + tk)), some (.int s), some (.int ln), some (.int ix), some (.int av), some (.int sm), some (.int k)]) (st' := []) (M1 := M) 2 (fun n => rfl) ?_
  exact hz
theorem am_73 {e : Nat} {M : Mem} {M' : Mem} {v : Option Value} {av ix k ln s sm : Int32} {tk w : Nat}  (hz : Ev none (e + 1) 32 (if sm = 0 then 90 else 78) [some (.ref w), some (.retAddr (10 + tk)), some (.int s), some (.int ln), some (.int ix), some (.int av), some (.int sm), some (.int k)] [] M v M' 0 0) : Ev none (e + 1) 32 73 [some (.ref w), some (.retAddr (10 + tk)), some (.int s), some (.int ln), some (.int ix), some (.int av), some (.int sm), some (.int k)] [] M v M' 0 0 := by
  refine Ev.step (pc' := (if sm = 0 then 90 else 78)) (ls' := [some (.ref w), some (.retAddr (10 + tk)), some (.int s), some (.int ln), some (.int ix), some (.int av), some (.int sm), some (.int k)]) (st' := []) (M1 := M) 2 (fun n => rfl) ?_
  exact hz
theorem am_78 {e : Nat} {M : Mem} {M' : Mem} {v : Option Value} {av ix k ln s sm : Int32} {tk w : Nat}  (hz : Ev none (e + 1) 32 (if (k - av) = ln then 87 else 90) [some (.ref w), some (.retAddr (10 + tk)), some (.int s), some (.int ln), some (.int ix), some (.int av), some (.int sm), some (.int k)] [] M v M' 0 0) : Ev none (e + 1) 32 78 [some (.ref w), some (.retAddr (10 + tk)), some (.int s), some (.int ln), some (.int ix), some (.int av), some (.int sm), some (.int k)] [] M v M' 0 0 := by
  refine Ev.step (pc' := (if (k - av) = ln then 87 else 90)) (ls' := [some (.ref w), some (.retAddr (10 + tk)), some (.int s), some (.int ln), some (.int ix), some (.int av), some (.int sm), some (.int k)]) (st' := []) (M1 := M) 5 (fun n => rfl) ?_
  exact hz
theorem am_87 {e : Nat} {M : Mem} {av ix k ln s sm : Int32} {tk w : Nat}  : Ev none (e + 1) 32 87 [some (.ref w), some (.retAddr (10 + tk)), some (.int s), some (.int ln), some (.int ix), some (.int av), some (.int sm), some (.int k)] [] M (some (.int ix)) M 0 0 := by
  refine Ev.step (pc' := 89) (ls' := [some (.ref w), some (.retAddr (10 + tk)), some (.int s), some (.int ln), some (.int ix), some (.int av), some (.int sm), some (.int k)]) (st' := [.int ix]) (M1 := M) 1 (fun n => rfl) ?_
  exact Ev.ret (fun n => rfl)
theorem am_90 {e : Nat} {M : Mem} {M' : Mem} {v : Option Value} {av ix k ln s sm : Int32} {tk w : Nat}  (hz : Ev none (e + 1) 32 44 [some (.ref w), some (.retAddr (10 + tk)), some (.int s), some (.int ln), some (.int (ix + 1)), some (.int (k + 1)), some (.int 1), some (.int (k + 1))] [] M v M' 0 0) : Ev none (e + 1) 32 90 [some (.ref w), some (.retAddr (10 + tk)), some (.int s), some (.int ln), some (.int ix), some (.int av), some (.int sm), some (.int k)] [] M v M' 0 0 := by
  refine Ev.step (pc' := 44) (ls' := [some (.ref w), some (.retAddr (10 + tk)), some (.int s), some (.int ln), some (.int (ix + 1)), some (.int (k + 1)), some (.int 1), some (.int (k + 1))]) (st' := []) (M1 := M) 10 (fun n => rfl) ?_
  exact hz
theorem am_105 {e : Nat} {M : Mem} {M' : Mem} {v : Option Value} {av ix k ln s sm : Int32} {tk w : Nat}  (hz : Ev none (e + 1) 32 (if sm = 0 then 147 else 110) [some (.ref w), some (.retAddr (10 + tk)), some (.int s), some (.int ln), some (.int ix), some (.int av), some (.int sm), some (.int k)] [] M v M' 0 0) : Ev none (e + 1) 32 105 [some (.ref w), some (.retAddr (10 + tk)), some (.int s), some (.int ln), some (.int ix), some (.int av), some (.int sm), some (.int k)] [] M v M' 0 0 := by
  refine Ev.step (pc' := (if sm = 0 then 147 else 110)) (ls' := [some (.ref w), some (.retAddr (10 + tk)), some (.int s), some (.int ln), some (.int ix), some (.int av), some (.int sm), some (.int k)]) (st' := []) (M1 := M) 2 (fun n => rfl) ?_
  exact hz
theorem am_110 {e : Nat} {M : Mem} {M' : Mem} {v : Option Value} {av ix k ln s sm : Int32} {tk w : Nat}  (hz : Ev none (e + 1) 32 (if ln ≤ (k - av) then 147 else 119) [some (.ref w), some (.retAddr (10 + tk)), some (.int s), some (.int ln), some (.int ix), some (.int av), some (.int sm), some (.int k)] [] M v M' 0 0) : Ev none (e + 1) 32 110 [some (.ref w), some (.retAddr (10 + tk)), some (.int s), some (.int ln), some (.int ix), some (.int av), some (.int sm), some (.int k)] [] M v M' 0 0 := by
  refine Ev.step (pc' := (if ln ≤ (k - av) then 147 else 119)) (ls' := [some (.ref w), some (.retAddr (10 + tk)), some (.int s), some (.int ln), some (.int ix), some (.int av), some (.int sm), some (.int k)]) (st' := []) (M1 := M) 5 (fun n => rfl) ?_
  exact hz
theorem am_119 {e : Nat} {M : Mem} {M' : Mem} {v : Option Value} {av ix k ln s sm : Int32} {tk w : Nat}  (hz : Ev none (e + 1) 32 122 [some (.ref w), some (.retAddr (10 + tk)), some (.int s), some (.int ln), some (.int ix), some (.int av), some (.int sm), some (.int k)] [.int k, .retAddr (10 + tk)] M v M' 0 0) : Ev none (e + 1) 32 119 [some (.ref w), some (.retAddr (10 + tk)), some (.int s), some (.int ln), some (.int ix), some (.int av), some (.int sm), some (.int k)] [] M v M' 0 0 := by
  refine Ev.step (pc' := 122) (ls' := [some (.ref w), some (.retAddr (10 + tk)), some (.int s), some (.int ln), some (.int ix), some (.int av), some (.int sm), some (.int k)]) (st' := [.int k, .retAddr (10 + tk)]) (M1 := M) 2 (fun n => rfl) ?_
  exact hz
theorem am_125 {e : Nat} {M : Mem} {M' : Mem} {v : Option Value} {va2 vw : List Value} {av ix k ln s sm y y6 : Int32} {a2 a4 tk w : Nat} {la4 : List Int32} (hw : gNth M w = some (.inr (3, vw))) (f1 : gNth vw 0 = some (.ref a2)) (ha2 : gNth M a2 = some (.inr (5, va2))) (f3 : gNth va2 0 = some (.ref a4)) (ra4 : gNth M a4 = some (.inl (1, .inl la4))) (g5 : gAt la4 ((s + k) - av) = some y6) (hz : Ev none (e + 1) 32 (if y = y6 then 143 else 147) [some (.ref w), some (.retAddr (10 + tk)), some (.int s), some (.int ln), some (.int ix), some (.int av), some (.int sm), some (.int k)] [] M v M' 0 0) : Ev none (e + 1) 32 125 [some (.ref w), some (.retAddr (10 + tk)), some (.int s), some (.int ln), some (.int ix), some (.int av), some (.int sm), some (.int k)] [.int y] M v M' 0 0 := by
  refine Ev.step (pc' := 126) (ls' := [some (.ref w), some (.retAddr (10 + tk)), some (.int s), some (.int ln), some (.int ix), some (.int av), some (.int sm), some (.int k)]) (st' := [.ref w, .int y]) (M1 := M) 1 (fun n => rfl) ?_
  refine Ev.step 1 (gs_3 rfl rfl (gf_c rfl hw f1)) ?_
  refine Ev.step 1 (gs_3 rfl rfl (gf_c rfl ha2 f3)) ?_
  refine Ev.step (pc' := 139) (ls' := [some (.ref w), some (.retAddr (10 + tk)), some (.int s), some (.int ln), some (.int ix), some (.int av), some (.int sm), some (.int k)]) (st' := [.int ((s + k) - av), .ref a4, .int y]) (M1 := M) 5 (fun n => rfl) ?_
  refine Ev.step 1 (gs_3 rfl rfl (ia_c ra4 g5)) ?_
  refine Ev.step (pc' := (if y = y6 then 143 else 147)) (ls' := [some (.ref w), some (.retAddr (10 + tk)), some (.int s), some (.int ln), some (.int ix), some (.int av), some (.int sm), some (.int k)]) (st' := []) (M1 := M) 1 (fun n => rfl) ?_
  exact hz
theorem am_143 {e : Nat} {M : Mem} {M' : Mem} {v : Option Value} {av ix k ln s sm : Int32} {tk w : Nat}  (hz : Ev none (e + 1) 32 44 [some (.ref w), some (.retAddr (10 + tk)), some (.int s), some (.int ln), some (.int ix), some (.int av), some (.int 1), some (.int (k + 1))] [] M v M' 0 0) : Ev none (e + 1) 32 143 [some (.ref w), some (.retAddr (10 + tk)), some (.int s), some (.int ln), some (.int ix), some (.int av), some (.int sm), some (.int k)] [] M v M' 0 0 := by
  refine Ev.step (pc' := 44) (ls' := [some (.ref w), some (.retAddr (10 + tk)), some (.int s), some (.int ln), some (.int ix), some (.int av), some (.int 1), some (.int (k + 1))]) (st' := []) (M1 := M) 5 (fun n => rfl) ?_
  exact hz
theorem am_147 {e : Nat} {M : Mem} {M' : Mem} {v : Option Value} {av ix k ln s sm : Int32} {tk w : Nat}  (hz : Ev none (e + 1) 32 44 [some (.ref w), some (.retAddr (10 + tk)), some (.int s), some (.int ln), some (.int ix), some (.int av), some (.int 0), some (.int (k + 1))] [] M v M' 0 0) : Ev none (e + 1) 32 147 [some (.ref w), some (.retAddr (10 + tk)), some (.int s), some (.int ln), some (.int ix), some (.int av), some (.int sm), some (.int k)] [] M v M' 0 0 := by
  refine Ev.step (pc' := 44) (ls' := [some (.ref w), some (.retAddr (10 + tk)), some (.int s), some (.int ln), some (.int ix), some (.int av), some (.int 0), some (.int (k + 1))]) (st' := []) (M1 := M) 4 (fun n => rfl) ?_
  exact hz
theorem am_156 {e : Nat} {M : Mem} {av ix k ln s sm : Int32} {tk w : Nat}  : Ev none (e + 1) 32 156 [some (.ref w), some (.retAddr (10 + tk)), some (.int s), some (.int ln), some (.int ix), some (.int av), some (.int sm), some (.int k)] [] M (some (.int (-1))) M 0 0 := by
  refine Ev.step (pc' := 157) (ls' := [some (.ref w), some (.retAddr (10 + tk)), some (.int s), some (.int ln), some (.int ix), some (.int av), some (.int sm), some (.int k)]) (st' := [.int (-1)]) (M1 := M) 1 (fun n => rfl) ?_
  exact Ev.ret (fun n => rfl)
set_option maxRecDepth 100000 in
theorem ra_type : fiB 3 3 7 (-2147483648) 2147483647 = true := by decide +kernel
set_option maxRecDepth 100000 in
theorem ra_now : fiB 3 3 6 0 400 = true := by decide +kernel
set_option maxRecDepth 100000 in
theorem ra_st : fdB 3 3 2 5 = true := by decide +kernel
set_option maxRecDepth 100000 in
theorem ra_str : irB 5 401 0 440 = true := by decide +kernel
set_option maxRecDepth 100000 in
theorem ra_sp : fdB 3 3 3 6 = true := by decide +kernel
set_option maxRecDepth 100000 in
theorem ra_spr : irB 6 401 0 440 = true := by decide +kernel
set_option maxRecDepth 100000 in
theorem ra_tape : fdB 3 3 0 1 = true := by decide +kernel
set_option maxRecDepth 100000 in
theorem ra_by : fdB 1 5 0 2 = true := by decide +kernel
set_option maxRecDepth 100000 in
theorem ra_byr : irB 2 440 0 255 = true := by decide +kernel
set_option maxRecDepth 100000 in
theorem sT_a3 : gNth sT 3 = some 3 := by decide +kernel
theorem gc_len {k : Nat} (hk : k < 7) {rest : List Value} {M : Mem} (hr : gRoom (.int 0 :: rest) = true) : gCal (.invokevirtual 102) 3 (.retAddr (10 + k) :: rest) M = some (.inl (.int (nI (gTx k).length) :: rest, M)) := by
  have h : gCal (.invokevirtual 102) 3 (.retAddr (10 + k) :: rest) M = (match gNat 1006 (.retAddr (10 + k) :: rest) M with
    | some q => cond (true && gRoom q.1) (some (.inl q)) none
    | none => none) := rfl
  have h2 : gNat 1006 (.retAddr (10 + k) :: rest) M = cond (Nat.ble 10 (10 + k) && Nat.blt (10 + k) 17) (some (.int (Int32.ofNat (gLn (gTx (10 + k - 10)))) :: rest, M)) none := rfl
  have h3 : gRoom (.int (Int32.ofNat (gLn (gTx (10 + k - 10)))) :: rest) = true := hr
  have b1 : Nat.ble 10 (10 + k) = true := Nat.ble_eq_true_of_le (by omega)
  have b2 : Nat.blt (10 + k) 17 = true := blt_t (by omega)
  rw [h, h2, b1, b2]
  show cond (true && gRoom (.int (Int32.ofNat (gLn (gTx (10 + k - 10)))) :: rest)) _ none = _
  rw [h3, Nat.add_sub_cancel_left, ln_eq]
  rfl
theorem gc_chr {k : Nat} (hk : k < 7) {j x : Int32} (hj : gAt (gTx k) j = some x) {rest : List Value} {M : Mem} (hr : gRoom (.int 0 :: rest) = true) : gCal (.invokevirtual 107) 3 (.int j :: .retAddr (10 + k) :: rest) M = some (.inl (.int x :: rest, M)) := by
  have h : gCal (.invokevirtual 107) 3 (.int j :: .retAddr (10 + k) :: rest) M = (match gNat 1007 (.int j :: .retAddr (10 + k) :: rest) M with
    | some q => cond (true && gRoom q.1) (some (.inl q)) none
    | none => none) := rfl
  have h2 : gNat 1007 (.int j :: .retAddr (10 + k) :: rest) M = cond (Nat.ble 10 (10 + k) && Nat.blt (10 + k) 17) (match gAt (gTx (10 + k - 10)) j with
      | some x => some (.int x :: rest, M)
      | none => none) none := rfl
  have h3 : gRoom (.int x :: rest) = true := hr
  have b1 : Nat.ble 10 (10 + k) = true := Nat.ble_eq_true_of_le (by omega)
  have b2 : Nat.blt (10 + k) 17 = true := blt_t (by omega)
  rw [h, h2, b1, b2, Nat.add_sub_cancel_left, hj]
  show cond (true && gRoom (.int x :: rest)) _ none = _
  rw [h3]
  rfl
/-- how many words end from here on -/
def rmW : List Int32 → Nat
  | [] => 1
  | c :: r => (if c = 32 then 1 else 0) + rmW r
theorem rmW_pos : ∀ l, 1 ≤ rmW l := by
  intro l
  induction l with
  | nil => exact Nat.le_refl _
  | cons c r ih =>
    show 1 ≤ (if c = 32 then 1 else 0) + rmW r
    omega
theorem rm_le {k : Nat} (hk : k < 7) : rmW (gTx k) ≤ 100 := by
  match k, hk with
  | 0, _ => decide +kernel
  | 1, _ => decide +kernel
  | 2, _ => decide +kernel
  | 3, _ => decide +kernel
  | 4, _ => decide +kernel
  | 5, _ => decide +kernel
  | 6, _ => decide +kernel
  | n + 7, h => omega
section AMG
variable {e tk : Nat}
theorem am_loop (hk : tk < 7) {s ln : Int32} {M : Mem} (hT : TM sT sG M) (s0 : 0 ≤ s.toInt) (s1 : s.toInt ≤ 440) (l1 : s.toInt + ln.toInt ≤ 440) (l2 : -440 ≤ ln.toInt) : ∀ (j inn an : Nat) (ix av sm k : Int32), inn + j = (gTx tk).length → k.toInt = (inn : Int) → av.toInt = (an : Int) → an ≤ inn → 0 ≤ ix.toInt → ix.toInt + (rmW ((gTx tk).drop inn) : Int) = (rmW (gTx tk) : Int) → ∃ r : Int32, Ev none (e + 1) 32 44 [some (.ref 3), some (.retAddr (10 + tk)), some (.int s), some (.int ln), some (.int ix), some (.int av), some (.int sm), some (.int k)] [] M (some (.int r)) M 0 0 ∧ -1 ≤ r.toInt ∧ r.toInt ≤ (rmW (gTx tk) : Int) - 1 := by
  intro j
  have t3 := (tx_len hk).2.2
  have hl : (nI (gTx tk).length).toInt = ((gTx tk).length : Int) := nI_toInt (by omega)
  have hrm := rmW_pos (gTx tk)
  have hend : ∀ (ix av sm k : Int32), k.toInt = ((gTx tk).length : Int) + 1 → ∃ r : Int32, Ev none (e + 1) 32 44 [some (.ref 3), some (.retAddr (10 + tk)), some (.int s), some (.int ln), some (.int ix), some (.int av), some (.int sm), some (.int k)] [] M (some (.int r)) M 0 0 ∧ -1 ≤ r.toInt ∧ r.toInt ≤ (rmW (gTx tk) : Int) - 1 := by
    intro ix av sm k hk2
    refine ⟨-1, am_44 (Ev.step 1 (gs_7n rfl rfl (gc_len hk rfl)) (am_50 ?_)), by decide, by have : (-1 : Int32).toInt = -1 := rfl; omega⟩
    rw [if_pos (by rw [Int32.lt_iff_toInt_lt]; omega)]
    exact am_156
  have bound : ∀ (ix av sm k : Int32) (inn an : Nat), k.toInt = (inn : Int) → inn ≤ (gTx tk).length → 0 ≤ ix.toInt → ix.toInt + (rmW ((gTx tk).drop inn) : Int) = (rmW (gTx tk) : Int) → (∃ r : Int32, Ev none (e + 1) 32 44 [some (.ref 3), some (.retAddr (10 + tk)), some (.int s), some (.int ln), some (.int (ix + 1)), some (.int (k + 1)), some (.int 1), some (.int (k + 1))] [] M (some (.int r)) M 0 0 ∧ -1 ≤ r.toInt ∧ r.toInt ≤ (rmW (gTx tk) : Int) - 1) → ∃ r : Int32, Ev none (e + 1) 32 73 [some (.ref 3), some (.retAddr (10 + tk)), some (.int s), some (.int ln), some (.int ix), some (.int av), some (.int sm), some (.int k)] [] M (some (.int r)) M 0 0 ∧ -1 ≤ r.toInt ∧ r.toInt ≤ (rmW (gTx tk) : Int) - 1 := by
    intro ix av sm k inn an hk2 hin hix hsum hn
    obtain ⟨r, h1, h2, h3⟩ := hn
    have hp := rmW_pos ((gTx tk).drop inn)
    by_cases hs : sm = 0
    · exact ⟨r, am_73 (by rw [if_pos hs]; exact am_90 h1), h2, h3⟩
    · by_cases hq : k - av = ln
      · exact ⟨ix, am_73 (by rw [if_neg hs]; exact am_78 (by rw [if_pos hq]; exact am_87)), by omega, by omega⟩
      · exact ⟨r, am_73 (by rw [if_neg hs]; exact am_78 (by rw [if_neg hq]; exact am_90 h1)), h2, h3⟩
  induction j with
  | zero =>
    intro inn an ix av sm k hj hk2 hav han hix hsum
    have hin : inn = (gTx tk).length := by omega
    have ek : (k + 1).toInt = k.toInt + 1 := i32_p1 (by omega)
    have hkl : k = nI (gTx tk).length := Int32.toInt_inj.mp (by omega)
    obtain ⟨r, h1, h2⟩ := bound ix av sm k inn an hk2 (by omega) hix hsum (hend (ix + 1) (k + 1) 1 (k + 1) (by omega))
    refine ⟨r, am_44 (Ev.step 1 (gs_7n rfl rfl (gc_len hk rfl)) (am_50 ?_)), h2⟩
    rw [if_neg (by rw [Int32.lt_iff_toInt_lt]; omega)]
    refine am_53 (Ev.step 1 (gs_7n rfl rfl (gc_len hk rfl)) (am_59 ?_))
    rw [if_pos hkl]
    exact h1
  | succ j ih =>
    intro inn an ix av sm k hj hk2 hav han hix hsum
    have ek : (k + 1).toInt = k.toInt + 1 := i32_p1 (by omega)
    have hlt : inn < (gTx tk).length := by omega
    obtain ⟨c, c1, c2⟩ := at_c (l := gTx tk) hk2 hlt
    have hdrop : (gTx tk).drop inn = c :: (gTx tk).drop (inn + 1) := by
      rw [nth_eq] at c2
      obtain ⟨h, h9⟩ := List.getElem?_eq_some_iff.mp c2
      rw [List.drop_eq_getElem_cons h, h9]
    have hsum2 : ix.toInt + (((if c = 32 then 1 else 0) + rmW ((gTx tk).drop (inn + 1)) : Nat) : Int) = (rmW (gTx tk) : Int) := by
      rw [hdrop] at hsum
      exact hsum
    have hne : ¬ k = nI (gTx tk).length := fun q => by
      rw [q] at hk2
      omega
    have hix2 : ix.toInt ≤ 1000 := by
      have hb : rmW (gTx tk) ≤ 100 := rm_le hk
      omega
    have ex : (ix + 1).toInt = ix.toInt + 1 := i32_p1 (by omega)
    have pre : ∀ r : Int32, Ev none (e + 1) 32 (if c = 32 then 73 else 105) [some (.ref 3), some (.retAddr (10 + tk)), some (.int s), some (.int ln), some (.int ix), some (.int av), some (.int sm), some (.int k)] [] M (some (.int r)) M 0 0 → Ev none (e + 1) 32 44 [some (.ref 3), some (.retAddr (10 + tk)), some (.int s), some (.int ln), some (.int ix), some (.int av), some (.int sm), some (.int k)] [] M (some (.int r)) M 0 0 := by
      intro r h
      refine am_44 (Ev.step 1 (gs_7n rfl rfl (gc_len hk rfl)) (am_50 ?_))
      rw [if_neg (by rw [Int32.lt_iff_toInt_lt]; omega)]
      refine am_53 (Ev.step 1 (gs_7n rfl rfl (gc_len hk rfl)) (am_59 ?_))
      rw [if_neg hne]
      exact am_62 (Ev.step 1 (gs_7n rfl rfl (gc_chr hk c1 rfl)) (am_68 h))
    by_cases h32 : c = 32
    · rw [if_pos h32] at hsum2 pre
      obtain ⟨r, h1, h2⟩ := bound ix av sm k inn an hk2 (by omega) hix hsum (ih (inn + 1) (inn + 1) (ix + 1) (k + 1) 1 (k + 1) (by omega) (by omega) (by omega) (Nat.le_refl _) (by omega) (by omega))
      exact ⟨r, pre r h1, h2⟩
    · rw [if_neg h32] at hsum2 pre
      have on : ∀ z : Int32, ∃ r : Int32, Ev none (e + 1) 32 44 [some (.ref 3), some (.retAddr (10 + tk)), some (.int s), some (.int ln), some (.int ix), some (.int av), some (.int z), some (.int (k + 1))] [] M (some (.int r)) M 0 0 ∧ -1 ≤ r.toInt ∧ r.toInt ≤ (rmW (gTx tk) : Int) - 1 := fun z => ih (inn + 1) an ix av z (k + 1) (by omega) (by omega) hav (by omega) hix (by omega)
      obtain ⟨r0, g0, g1⟩ := on 0
      by_cases hs : sm = 0
      · exact ⟨r0, pre r0 (am_105 (by rw [if_pos hs]; exact am_147 g0)), g1⟩
      · have ed : (k - av).toInt = k.toInt - av.toInt := i32_sub (by omega) (by omega)
        by_cases hq : ln ≤ k - av
        · exact ⟨r0, pre r0 (am_105 (by rw [if_neg hs]; exact am_110 (by rw [if_pos hq]; exact am_147 g0))), g1⟩
        · have hq2 : k.toInt - av.toInt < ln.toInt := by rw [Int32.le_iff_toInt_le] at hq; omega
          obtain ⟨r1, g2, g3⟩ := on 1
          have es : (s + k).toInt = s.toInt + k.toInt := i32_add (by omega) (by omega)
          have ei : (s + k - av).toInt = s.toInt + k.toInt - av.toInt := by rw [i32_sub (by omega) (by omega), es]
          obtain ⟨vr, ta, w1, w2, w3⟩ := hT.fref sT_a3 ra_tape
          obtain ⟨vt, ba, w4, w5, w6⟩ := hT.fref w3 ra_by
          obtain ⟨bl, w7, w8, _⟩ := hT.irow w6 ra_byr
          obtain ⟨y, y1, y2⟩ := at_c (l := bl) (j := s + k - av) (kn := (s.toInt + k.toInt - av.toInt).toNat) (by omega) (by omega)
          by_cases hy : c = y
          · refine ⟨r1, pre r1 (am_105 ?_), g3⟩
            rw [if_neg hs]
            refine am_110 ?_
            rw [if_neg hq]
            refine am_119 (Ev.step 1 (gs_7n rfl rfl (gc_chr hk c1 rfl)) (am_125 w1 w2 w4 w5 w7 y1 ?_))
            rw [if_pos hy]
            exact am_143 g2
          · refine ⟨r0, pre r0 (am_105 ?_), g1⟩
            rw [if_neg hs]
            refine am_110 ?_
            rw [if_neg hq]
            refine am_119 (Ev.step 1 (gs_7n rfl rfl (gc_chr hk c1 rfl)) (am_125 w1 w2 w4 w5 w7 y1 ?_))
            rw [if_neg hy]
            exact am_147 g0
theorem ev_among (hk : tk < 7) {M : Mem} {x2 x3 x4 x5 x6 x7 : Option Value} (hT : TM sT sG M) : ∃ r : Int32, Ev none (e + 1) 32 0 [some (.ref 3), some (.retAddr (10 + tk)), x2, x3, x4, x5, x6, x7] [] M (some (.int r)) M 0 0 ∧ -1 ≤ r.toInt ∧ r.toInt ≤ (rmW (gTx tk) : Int) - 1 := by
  have hrm := rmW_pos (gTx tk)
  obtain ⟨vr, ty, a1, a2, _⟩ := hT.fnum sT_a3 ra_type
  by_cases h : ty = 2
  rotate_left
  · exact ⟨-1, am_0 a1 a2 (by rw [if_neg h]; exact am_8), by decide, by have : (-1 : Int32).toInt = -1 := rfl; omega⟩
  obtain ⟨vr1, nw, b1, b2, _, b4, b5, _⟩ := hT.fnum sT_a3 ra_now
  cases b1.symm.trans a1
  obtain ⟨vr2, sa, c1, c2, c3⟩ := hT.fref sT_a3 ra_st
  cases c1.symm.trans a1
  obtain ⟨sl, c4, c5, c6, _⟩ := hT.irow c3 ra_str
  obtain ⟨vr3, pa, d1, d2, d3⟩ := hT.fref sT_a3 ra_sp
  cases d1.symm.trans a1
  obtain ⟨pl, d4, d5, d6, _⟩ := hT.irow d3 ra_spr
  obtain ⟨nn, hnn⟩ : ∃ nn : Nat, nw.toInt = (nn : Int) := ⟨nw.toInt.toNat, by omega⟩
  obtain ⟨s, s1, s2⟩ := at_c (l := sl) hnn (by omega)
  obtain ⟨p, p1, p2⟩ := at_c (l := pl) hnn (by omega)
  have hs := c6 _ _ s2
  have hp := d6 _ _ p2
  have ed : (p - s).toInt = p.toInt - s.toInt := i32_sub (by omega) (by omega)
  obtain ⟨r, h1, h2⟩ := am_loop (e := e) hk (s := s) (ln := p - s) hT hs.1 hs.2 (by omega) (by omega) (gTx tk).length 0 0 0 0 1 0 (by omega) rfl rfl (Nat.le_refl _) (by decide) (by
    show (0 : Int32).toInt + (rmW (gTx tk) : Int) = _
    have : (0 : Int32).toInt = 0 := rfl
    omega)
  exact ⟨r, am_0 a1 a2 (by rw [if_pos h]; exact am_10 a1 c2 b2 c4 s1 d2 d4 p1 h1), h2⟩
end AMG
theorem am_ta {tk : Nat} {w : Value} (h : taOK sT (.inr (3 * (13 + tk) + 2)) w) : w = .retAddr (10 + tk) := by
  unfold taOK at h
  have h1 : (3 * (13 + tk) + 2) % 3 = 2 := by omega
  have h2 : (3 * (13 + tk) + 2) / 3 = (10 + tk) + 3 := by omega
  dsimp only at h
  rw [h1, h2] at h
  exact h
set_option maxRecDepth 100000 in
theorem mR32 : (gNth mRs 32).map (fun q => q.2.2.2.1) = some 8 := by decide +kernel
theorem am_cn {tk n : Nat} (hk : tk < 7) (hn : rmW (gTx tk) = n + 1) : cnOK sT sG FL0 (32, 1, [.inr 10, .inr (3 * (13 + tk) + 2)], [], [], [], [(some (.inl (.negSucc 0, .ofNat n)), [], [], [], [])]) := by
  intro d M ws q hD hq hws hpre hT
  rcases ws with _ | ⟨w0, _ | ⟨w1, _ | ⟨_, _⟩⟩⟩
  · exact hws.elim
  · exact hws.2.elim
  rotate_left
  · exact hws.2.2.elim
  obtain ⟨h0, h1, _⟩ := hws
  have h0 : w0 = .ref 3 := h0
  subst h0
  have h1 : w1 = .retAddr (10 + tk) := am_ta h1
  subst h1
  obtain ⟨e, rfl⟩ : ∃ e, d = e + 1 := ⟨d - 1, by have : 1 ≤ d := hD; omega⟩
  have hm := mR32
  rw [show gNth mRs 32 = some q from hq] at hm
  have hm : q.2.2.2.1 = 8 := Option.some.inj hm
  rw [hm]
  obtain ⟨r, h2, h3, h4⟩ := ev_among (e := e) hk (x2 := none) (x3 := none) (x4 := none) (x5 := none) (x6 := none) (x7 := none) hT
  exact ⟨_, M, h2, hT, Frm.refl _, _, List.mem_singleton.mpr rfl, ⟨⟨r, rfl, h3, by show r.toInt ≤ (n : Int); omega⟩, fun q hq => (by cases hq), [], trivial, fun f hf => (by cases hf), fun f hf => (by cases hf)⟩, cn_D rfl⟩
def kX3_among : CN := (32, 1, [.inr 10, .inr 41], [], [], [], [(some (.inl (.negSucc 0, .ofNat 4)), [], [], [], [])])
theorem kX3_among_ok : cnOK sT sG FL0 kX3_among := am_cn (tk := 0) (by decide) (by decide +kernel)
def kX3_among__1 : CN := (32, 1, [.inr 10, .inr 44], [], [], [], [(some (.inl (.negSucc 0, .ofNat 2)), [], [], [], [])])
theorem kX3_among__1_ok : cnOK sT sG FL0 kX3_among__1 := am_cn (tk := 1) (by decide) (by decide +kernel)
def kX3_among__2 : CN := (32, 1, [.inr 10, .inr 47], [], [], [], [(some (.inl (.negSucc 0, .ofNat 0)), [], [], [], [])])
theorem kX3_among__2_ok : cnOK sT sG FL0 kX3_among__2 := am_cn (tk := 2) (by decide) (by decide +kernel)
def kX3_among__3 : CN := (32, 1, [.inr 10, .inr 50], [], [], [], [(some (.inl (.negSucc 0, .ofNat 6)), [], [], [], [])])
theorem kX3_among__3_ok : cnOK sT sG FL0 kX3_among__3 := am_cn (tk := 3) (by decide) (by decide +kernel)
def kX3_among__4 : CN := (32, 1, [.inr 10, .inr 53], [], [], [], [(some (.inl (.negSucc 0, .ofNat 0)), [], [], [], [])])
theorem kX3_among__4_ok : cnOK sT sG FL0 kX3_among__4 := am_cn (tk := 4) (by decide) (by decide +kernel)
def kX3_among__5 : CN := (32, 1, [.inr 10, .inr 56], [], [], [], [(some (.inl (.negSucc 0, .ofNat 0)), [], [], [], [])])
theorem kX3_among__5_ok : cnOK sT sG FL0 kX3_among__5 := am_cn (tk := 5) (by decide) (by decide +kernel)
def kX3_among__6 : CN := (32, 1, [.inr 10, .inr 59], [], [], [], [(some (.inl (.negSucc 0, .ofNat 12)), [], [], [], [])])
theorem kX3_among__6_ok : cnOK sT sG FL0 kX3_among__6 := am_cn (tk := 6) (by decide) (by decide +kernel)
