/-! BY HAND, the class: step, Walker.begin, leaveIfDone, choose, tread, due, as the loops of go ask for them -/
def mdBd : Md := [(1, 17), (1, 18), (7, 10), (8, 0), (8, 1), (8, 2), (8, 3), (8, 4), (1012, 0), (1014, 0), (1015, 0), (1016, 0), (1037, 0), (1039, 0)]
def mdBg : Md := [(1, 19), (8, 0), (8, 1), (8, 2), (8, 3), (8, 4), (1016, 0)]
set_option maxRecDepth 100000 in
theorem ly_land : fdB 22 7 7 8 = true := by decide +kernel
set_option maxRecDepth 100000 in
theorem ly_grid : fdB 22 7 0 23 = true := by decide +kernel
set_option maxRecDepth 100000 in
theorem ly_bes : fdB 23 0 2 26 = true := by decide +kernel
set_option maxRecDepth 100000 in
theorem ly_crowd : fdB 8 1 9 16 = true := by decide +kernel
set_option maxRecDepth 100000 in
theorem ly_crowdr : irB 16 256 (-2147483648) 2147483647 = true := by decide +kernel
set_option maxRecDepth 100000 in
theorem ly_door : fdB 8 1 10 17 = true := by decide +kernel
set_option maxRecDepth 100000 in
theorem ly_doorr : irB 17 9 0 255 = true := by decide +kernel
set_option maxRecDepth 100000 in
theorem ly_wish : fdB 8 1 12 18 = true := by decide +kernel
set_option maxRecDepth 100000 in
theorem ly_wishr : rrB 18 7 24 20 = true := by decide +kernel
set_option maxRecDepth 100000 in
theorem ly_wk : fdB 8 1 14 19 = true := by decide +kernel
set_option maxRecDepth 100000 in
theorem ly_wkr : rrB 19 6 60 21 = true := by decide +kernel
set_option maxRecDepth 100000 in
theorem ly_wishes : fiB 8 1 13 0 24 = true := by decide +kernel
set_option maxRecDepth 100000 in
theorem ly_walkers : fiB 8 1 15 0 60 = true := by decide +kernel
set_option maxRecDepth 100000 in
theorem ly_tick : fiB 8 1 16 (-2147483648) 2147483647 = true := by decide +kernel
set_option maxRecDepth 100000 in
theorem ly_arr : fiB 8 1 17 (-2147483648) 2147483647 = true := by decide +kernel
set_option maxRecDepth 100000 in
theorem ly_lost : fiB 8 1 18 (-2147483648) 2147483647 = true := by decide +kernel
set_option maxRecDepth 100000 in
theorem ly_turn : fiB 8 1 19 (-2147483648) 2147483647 = true := by decide +kernel
set_option maxRecDepth 100000 in
theorem ly_from : fiB 20 9 0 0 8 = true := by decide +kernel
set_option maxRecDepth 100000 in
theorem ly_to : fiB 20 9 1 0 8 = true := by decide +kernel
set_option maxRecDepth 100000 in
theorem ly_habit : fiB 20 9 2 0 5 = true := by decide +kernel
set_option maxRecDepth 100000 in
theorem ly_cell : fiB 21 8 0 (-1) 255 = true := by decide +kernel
set_option maxRecDepth 100000 in
theorem ly_wwish : fiB 21 8 1 0 23 = true := by decide +kernel
set_option maxRecDepth 100000 in
theorem ly_age : fiB 21 8 2 (-2147483648) 2147483647 = true := by decide +kernel
set_option maxRecDepth 100000 in
theorem ly_came : fiB 21 8 3 (-2147483648) 2147483647 = true := by decide +kernel
set_option maxRecDepth 100000 in
theorem ly_way : fiB 21 8 4 (-2147483648) 2147483647 = true := by decide +kernel
set_option maxRecDepth 100000 in
theorem ly_trodw : fiB 22 7 10 0 1 = true := by decide +kernel
set_option maxRecDepth 100000 in
theorem sU_26 : gNth sU 26 = some (some 108) := by decide +kernel
set_option maxRecDepth 100000 in
theorem sG_26 : gNth sG 26 = some (.inr (1, 2048, .inl [(0, 1024, 1, [(.negSucc 0, .ofNat 255)]), (1024, 2048, 1, [(.negSucc 0, .ofNat 255)])])) := by rfl
section WLK
variable {S : Nat → Prop} {ld e : Nat} {M : Mem}
theorem LD.obj (hT : TM sT sG M) (hL : LD ld M) : ∃ vw vl, gNth M 104 = some (.inr (7, vw)) ∧ gNth vw 7 = some (.ref ld) ∧ gNth M ld = some (.inr (1, vl)) := by
  obtain ⟨vw, e1, e2⟩ := hL
  obtain ⟨vs, y, f1, _⟩ := hT.fnum (LD.grp hT ⟨vw, e1, e2⟩) ly_tick
  exact ⟨vw, vs, e1, e2, f1⟩
/-- a place of the land's row of ints -/
theorem LD.irow {k g n j : Nat} {lo hi : Int} {vl : List Value} {x : Int32} (hT : TM sT sG M) (hL : LD ld M) (hM : gNth M ld = some (.inr (1, vl))) (h1 : fdB 8 1 k g = true) (h2 : irB g n lo hi = true) (hx : x.toInt = (j : Int)) (hj : j < n) : ∃ a l y, gNth vl k = some (.ref a) ∧ gNth sT a = some g ∧ gNth M a = some (.inl (1, .inl l)) ∧ gAt l x = some y ∧ lo ≤ y.toInt ∧ y.toInt ≤ hi := by
  obtain ⟨vs, b, f1, f2, f3⟩ := hT.fref (hL.grp hT) h1
  cases f1.symm.trans hM
  obtain ⟨l, g1, g2, g3, _⟩ := hT.irow f3 h2
  obtain ⟨y, i1, i2⟩ := at_c (l := l) hx (by omega)
  exact ⟨b, l, y, f2, f3, g1, i1, g3 j y i2⟩
/-- a place of the land's row of objects -/
theorem LD.rrow {k g kd n g2 j : Nat} {vl : List Value} {x : Int32} (hT : TM sT sG M) (hL : LD ld M) (hM : gNth M ld = some (.inr (1, vl))) (h1 : fdB 8 1 k g = true) (h2 : rrB g kd n g2 = true) (hx : x.toInt = (j : Int)) (hj : j < n) : ∃ a l b, gNth vl k = some (.ref a) ∧ gNth sT a = some g ∧ gNth M a = some (.inl (kd, .inr (.inr l))) ∧ gAt l x = some (some b) ∧ gNth l j = some (some b) ∧ gNth sT b = some g2 := by
  obtain ⟨vs, b, f1, f2, f3⟩ := hT.fref (hL.grp hT) h1
  cases f1.symm.trans hM
  obtain ⟨l, g1, g4, g3, _⟩ := hT.rref f3 h2
  obtain ⟨y, i1, i2⟩ := at_c (l := l) hx (by omega)
  obtain ⟨c, rfl, hc⟩ := g3 j y i2
  exact ⟨b, l, c, f2, f3, g1, i1, i2, hc⟩
theorem ev_step {o : Nat} {c d : Int32} {M0 : Mem} (T0 : TM sT sG M0) (L0 : LD ld M0) (ho : gNth sT o = some 21) (hS : S o ∨ 0 ≤ c.toInt) (z1 : -1 ≤ c.toInt) (z2 : c.toInt ≤ 255) : ∃ M', Ev none e 74 0 [some (.ref o), some (.int c), some (.int d)] [] M0 none M' 0 0 ∧ KP S mdBd ld M0 M' ∧ ∃ vo, gNth M' o = some (.inr (8, vo)) ∧ gNth vo 0 = some (.int c) := by
  obtain ⟨w0, x0, p0, q0, _⟩ := T0.fnum ho ly_cell
  obtain ⟨v0, y0, a0, b0, c0, _, _, _⟩ := T0.fnum ho ly_came
  obtain ⟨M1, m1⟩ : ∃ N, N = gPut M0 o (.inr (8, gPut v0 3 (.int (x0)))) := ⟨_, rfl⟩
  have K1 : KP S mdBd ld M0 M1 := by rw [m1]; exact KP.fld T0 L0 ho ly_came a0 (by decide) (i32_lt _).1 (i32_lt _).2 (by decide) (Or.inl (by decide))
  have T1 := K1.1
  have L1 := K1.2.2.1
  obtain ⟨v1, y1, a1, b1, c1, _, _, _⟩ := T1.fnum ho ly_cell
  obtain ⟨M2, m2⟩ : ∃ N, N = gPut M1 o (.inr (8, gPut v1 0 (.int (c)))) := ⟨_, rfl⟩
  have K2 : KP S mdBd ld M1 M2 := by rw [m2]; exact KP.fld T1 L1 ho ly_cell a1 (by decide) z1 z2 (by decide) (Or.inr hS)
  have T2 := K2.1
  have L2 := K2.2.2.1
  obtain ⟨v2, y2, a2, b2, c2, _, _, _⟩ := T2.fnum ho ly_way
  obtain ⟨M3, m3⟩ : ∃ N, N = gPut M2 o (.inr (8, gPut v2 4 (.int (d)))) := ⟨_, rfl⟩
  have K3 : KP S mdBd ld M2 M3 := by rw [m3]; exact KP.fld T2 L2 ho ly_way a2 (by decide) (i32_lt _).1 (i32_lt _).2 (by decide) (Or.inl (by decide))
  have T3 := K3.1
  have L3 := K3.2.2.1
  cases a0.symm.trans p0
  refine ⟨M3, ?_, K1.trans (K2.trans K3), gPut v2 4 (.int d), by rw [m3, nth_put, if_pos ⟨rfl, gNth_lt _ _ _ a2⟩], ?_⟩
  · refine st_0 a0 q0 c0 ?_
    rw [← m1]
    refine st_8 a1 c1 ?_
    rw [← m2, m3]
    exact st_13 a2 c2
  · have a2' := a2
    rw [m2, nth_put, if_pos ⟨rfl, gNth_lt _ _ _ a1⟩] at a2'
    cases a2'
    rw [nth_put, if_neg (by omega), nth_put, if_pos ⟨rfl, c1⟩]
theorem ev_wbegin {o : Nat} {c k : Int32} {M0 : Mem} (T0 : TM sT sG M0) (L0 : LD ld M0) (ho : gNth sT o = some 21) (z1 : 0 ≤ c.toInt) (z2 : c.toInt ≤ 255) (k1 : 0 ≤ k.toInt) (k2 : k.toInt ≤ 23) : ∃ M', Ev none e 73 0 [some (.ref o), some (.int c), some (.int k)] [] M0 none M' 0 0 ∧ KP S mdBg ld M0 M' ∧ cge M' o := by
  obtain ⟨v0, y0, a0, b0, c0, _, _, _⟩ := T0.fnum ho ly_cell
  obtain ⟨M1, m1⟩ : ∃ N, N = gPut M0 o (.inr (8, gPut v0 0 (.int (c)))) := ⟨_, rfl⟩
  have K1 : KP S mdBg ld M0 M1 := by rw [m1]; exact KP.fld T0 L0 ho ly_cell a0 (by decide) (by omega) z2 (by decide) (Or.inr (Or.inr z1))
  have T1 := K1.1
  have L1 := K1.2.2.1
  obtain ⟨v1, y1, a1, b1, c1, _, _, _⟩ := T1.fnum ho ly_wwish
  obtain ⟨M2, m2⟩ : ∃ N, N = gPut M1 o (.inr (8, gPut v1 1 (.int (k)))) := ⟨_, rfl⟩
  have K2 : KP S mdBg ld M1 M2 := by rw [m2]; exact KP.fld T1 L1 ho ly_wwish a1 (by decide) k1 k2 (by decide) (Or.inl (by decide))
  have T2 := K2.1
  have L2 := K2.2.2.1
  obtain ⟨v2, y2, a2, b2, c2, _, _, _⟩ := T2.fnum ho ly_age
  obtain ⟨M3, m3⟩ : ∃ N, N = gPut M2 o (.inr (8, gPut v2 2 (.int (0)))) := ⟨_, rfl⟩
  have K3 : KP S mdBg ld M2 M3 := by rw [m3]; exact KP.fld T2 L2 ho ly_age a2 (by decide) (i32_lt _).1 (i32_lt _).2 (by decide) (Or.inl (by decide))
  have T3 := K3.1
  have L3 := K3.2.2.1
  obtain ⟨v3, y3, a3, b3, c3, _, _, _⟩ := T3.fnum ho ly_came
  obtain ⟨M4, m4⟩ : ∃ N, N = gPut M3 o (.inr (8, gPut v3 3 (.int (-1)))) := ⟨_, rfl⟩
  have K4 : KP S mdBg ld M3 M4 := by rw [m4]; exact KP.fld T3 L3 ho ly_came a3 (by decide) (i32_lt _).1 (i32_lt _).2 (by decide) (Or.inl (by decide))
  have T4 := K4.1
  have L4 := K4.2.2.1
  obtain ⟨v4, y4, a4, b4, c4, _, _, _⟩ := T4.fnum ho ly_way
  obtain ⟨M5, m5⟩ : ∃ N, N = gPut M4 o (.inr (8, gPut v4 4 (.int (-1)))) := ⟨_, rfl⟩
  have K5 : KP S mdBg ld M4 M5 := by rw [m5]; exact KP.fld T4 L4 ho ly_way a4 (by decide) (i32_lt _).1 (i32_lt _).2 (by decide) (Or.inl (by decide))
  have T5 := K5.1
  have L5 := K5.2.2.1
  have hc : cge M1 o := ⟨_, c, by rw [m1, nth_put, if_pos ⟨rfl, gNth_lt _ _ _ a0⟩], by rw [nth_put, if_pos ⟨rfl, c0⟩], z1⟩
  have keep : ∀ {N N' : Mem} {vs : List Value} {kk : Nat} {z : Value}, gNth N o = some (.inr (8, vs)) → N' = gPut N o (.inr (8, gPut vs kk z)) → kk ≠ 0 → cge N o → cge N' o := by
    rintro N N' vs kk z h1 rfl hk ⟨us, x, g2, g3, g4⟩
    cases g2.symm.trans h1
    exact ⟨_, x, by rw [nth_put, if_pos ⟨rfl, gNth_lt _ _ _ h1⟩], by rw [nth_put, if_neg (fun q => hk q.1.symm)]; exact g3, g4⟩
  refine ⟨M5, ?_, K1.trans (K2.trans (K3.trans (K4.trans K5))), keep a4 m5 (by decide) (keep a3 m4 (by decide) (keep a2 m3 (by decide) (keep a1 m2 (by decide) hc)))⟩
  refine wb_0 a0 c0 ?_
  rw [← m1]
  refine wb_5 a1 c1 ?_
  rw [← m2]
  refine wb_10 a2 c2 ?_
  rw [← m3]
  refine wb_15 a3 c3 ?_
  rw [← m4, m5]
  exact wb_20 a4 c4
theorem ev_leave {o cn : Nat} {gl x : Int32} {vo : List Value} {M0 : Mem} (T0 : TM sT sG M0) (L0 : LD ld M0) (ho : gNth sT o = some 21) (hM : gNth M0 o = some (.inr (8, vo))) (hx : gNth vo 0 = some (.int x)) (hc : x.toInt = (cn : Int)) (hc2 : cn ≤ 255) : ∃ M', Ev none e 60 0 [some (.ref 104), some (.ref o), some (.int gl), none] [] M0 none M' 0 0 ∧ KP (fun b => b = o) mdBd ld M0 M' := by
  have gone : ∀ (ar : Int32), ∃ M', Ev none e 60 29 [some (.ref 104), some (.ref o), some (.int gl), some (.int ar)] [] M0 none M' 0 0 ∧ KP (fun b => b = o) mdBd ld M0 M' := by
    intro ar
    obtain ⟨vw, vl, w1, w2, w3⟩ := L0.obj T0
    obtain ⟨v0, y0, a0, b0, c0, _, _, _⟩ := T0.fnum (L0.grp T0) ly_arr
    cases w3.symm.trans a0
    have st : ∀ (z1 z2 : Int32), ∃ M1 M2, M1 = gPut M0 ld (.inr (1, gPut vl 17 (.int z1))) ∧ KP (fun b => b = o) mdBd ld M0 M1 ∧ ∃ vl1 y1, gNth M1 ld = some (.inr (1, vl1)) ∧ gNth vl1 18 = some (.int y1) ∧ 18 < vl1.length ∧ M2 = gPut M1 ld (.inr (1, gPut vl1 18 (.int (y1 + z2)))) ∧ KP (fun b => b = o) mdBd ld M1 M2 := by
      intro z1 z2
      have K1 : KP (fun b => b = o) mdBd ld M0 (gPut M0 ld (.inr (1, gPut vl 17 (.int z1)))) := KP.fld T0 L0 (L0.grp T0) ly_arr w3 (by decide) (i32_lt _).1 (i32_lt _).2 (by decide) (Or.inl (by decide))
      obtain ⟨v1, y1, a1, b1, c1, _, _, _⟩ := K1.1.fnum (K1.2.2.1.grp K1.1) ly_lost
      exact ⟨_, _, rfl, K1, v1, y1, a1, b1, c1, rfl, KP.fld K1.1 K1.2.2.1 (K1.2.2.1.grp K1.1) ly_lost a1 (by decide) (i32_lt _).1 (i32_lt _).2 (by decide) (Or.inl (by decide))⟩
    have fin : ∀ M2, KP (fun b => b = o) mdBd ld M0 M2 → gNth M2 o = some (.inr (8, vo)) → ∃ M', Ev none e 60 71 [some (.ref 104), some (.ref o), some (.int gl), some (.int ar)] [] M2 none M' 0 0 ∧ KP (fun b => b = o) mdBd ld M0 M' := by
      intro M2 K2 ho2
      have T2 := K2.1
      have L2 := K2.2.2.1
      obtain ⟨vw, vl, w1, w2, w3⟩ := L2.obj T2
      obtain ⟨a, l, y, r1, r2, r3, r4, _⟩ := L2.irow T2 w3 ly_crowd ly_crowdr hc (by omega)
      obtain ⟨M3, m3⟩ : ∃ N, N = gPut M2 a (.inl (1, .inl (gPut l x.toNatClampNeg (y - 1)))) := ⟨_, rfl⟩
      have K3 : KP (fun b => b = o) mdBd ld M2 M3 := by rw [m3]; exact KP.row T2 L2 r2 ly_crowdr r3 (by decide) (i32_lt _).1 (i32_lt _).2
      have ho3 : gNth M3 o = some (.inr (8, vo)) := by rw [m3, nth_put, if_neg (fun q => by rw [q.1, r3] at ho2; cases ho2)]; exact ho2
      obtain ⟨v4, y4, a4, b4, c4, _, _, _⟩ := K3.1.fnum ho ly_cell
      cases a4.symm.trans ho3
      refine ⟨gPut M3 o (.inr (8, gPut vo 0 (.int (-1)))), ld_71 w1 w2 w3 r1 ho2 hx r3 r4 (by rw [← m3]; exact ld_87 ho3 c4), K2.trans (K3.trans (KP.fld K3.1 K3.2.2.1 ho ly_cell ho3 (by decide) (z := -1) (by decide) (by decide) (by decide) (Or.inr (Or.inl rfl))))⟩
    have obj : ∀ {N : Mem} {vs : List Value} {k : Nat} {z : Value}, gNth N ld = some (.inr (1, vs)) → gNth N o = some (.inr (8, vo)) → gNth (gPut N ld (.inr (1, gPut vs k z))) o = some (.inr (8, vo)) := by
      intro N vs k z h1 h2
      rw [nth_put, if_neg (fun q => by rw [q.1, h1] at h2; cases h2)]
      exact h2
    by_cases ha : ar = 0
    · obtain ⟨M1, M2, m1, K1, vl1, y1, n1, n2, n3, m2, K2⟩ := st (y0 + 0) 1
      obtain ⟨MF, f1, f2⟩ := fin M2 (K1.trans K2) (by rw [m2]; exact obj n1 (by rw [m1]; exact obj w3 hM))
      obtain ⟨vw1, vl9, u1, u2, u3⟩ := K1.2.2.1.obj K1.1
      cases u3.symm.trans n1
      refine ⟨MF, ld_29 w1 w2 w3 b0 ?_, f2⟩
      rw [if_pos ha]
      refine ld_45 w3 c0 ?_
      rw [← m1]
      refine ld_50 u1 u2 n1 n2 ?_
      rw [if_pos ha]
      refine ld_66 n1 n3 ?_
      rw [← m2]
      exact f1
    · obtain ⟨M1, M2, m1, K1, vl1, y1, n1, n2, n3, m2, K2⟩ := st (y0 + 1) 0
      obtain ⟨MF, f1, f2⟩ := fin M2 (K1.trans K2) (by rw [m2]; exact obj n1 (by rw [m1]; exact obj w3 hM))
      obtain ⟨vw1, vl9, u1, u2, u3⟩ := K1.2.2.1.obj K1.1
      cases u3.symm.trans n1
      refine ⟨MF, ld_29 w1 w2 w3 b0 ?_, f2⟩
      rw [if_neg ha]
      refine ld_41 w3 c0 ?_
      rw [← m1]
      refine ld_50 u1 u2 n1 n2 ?_
      rw [if_neg ha]
      refine ld_62 n1 n3 ?_
      rw [← m2]
      exact f1
  by_cases h : x = gl
  · obtain ⟨MF, f1, f2⟩ := gone 1
    exact ⟨MF, ld_0 hM hx (by rw [if_pos h]; exact ld_8 (by rw [if_neg (by decide)]; exact f1)), f2⟩
  · obtain ⟨v2, y2, a2, b2, c2, _⟩ := T0.fnum ho ly_age
    cases a2.symm.trans hM
    by_cases h2 : 200 ≤ y2
    · obtain ⟨MF, f1, f2⟩ := gone 0
      exact ⟨MF, ld_0 hM hx (by rw [if_neg h]; exact ld_12 (by rw [if_pos rfl]; exact ld_18 hM b2 (by rw [if_pos h2]; exact f1))), f2⟩
    · exact ⟨M0, ld_0 hM hx (by rw [if_neg h]; exact ld_12 (by rw [if_pos rfl]; exact ld_18 hM b2 (by rw [if_neg h2]; exact ld_28))), KP.refl T0 L0⟩
set_option maxRecDepth 100000 in
theorem mRg : (gNth mRs 66).map (fun q => q.2.2.2.1) = some 10 ∧ (gNth mRs 62).map (fun q => q.2.2.2.1) = some 3 ∧ (gNth mRs 78).map (fun q => q.2.2.2.1) = some 2 := by refine ⟨?_, ?_, ?_⟩ <;> decide +kernel
theorem ev_due {b : Nat} {t : Int32} (hT : TM sT sG M) (hb : gNth sT b = some 20) : ∃ r M', Ev none (e + 1) 78 0 [some (.ref b), some (.int t)] [] M (some (.int r)) M' 0 0 ∧ TM sT sG M' ∧ Frm sT [] M M' := by
  obtain ⟨v, M', e1, e2, e3, s, e4, e5⟩ := use_cn (c := kX9_due) (ws := [.ref b, .int t]) kX9_due_ok mRg.2.2 rfl rfl (d := e + 1) (Nat.zero_le _) ⟨⟨b, rfl, hb⟩, ⟨t, rfl, i32_lt t⟩, trivial⟩ hT
  cases List.mem_singleton.mp e4
  cases v with
  | none => exact e5.elim
  | some w =>
    obtain ⟨r, rfl, _⟩ := e5
    exact ⟨r, M', e1, e2, e3⟩
theorem ev_tread {c : Int32} (hT : TM sT sG M) (hL : LD ld M) (c1 : 0 ≤ c.toInt) (c2 : c.toInt ≤ 255) : ∃ M', Ev none (e + 3) 62 0 [some (.ref 104), some (.int c), none] [] M none M' 0 0 ∧ KP S mdBd ld M M' ∧ Frm sT [(7, 10), (1012, 0), (1014, 0), (1015, 0), (1037, 0)] M M' := by
  obtain ⟨v, M', e1, e2, e3, s, e4, e5⟩ := use_cn (c := kX7_tread) (ws := [.ref 104, .int c]) kX7_tread_ok mRg.2.1 rfl rfl (d := e + 3) (Nat.le_add_left _ _) ⟨rfl, ⟨c, rfl, c1, c2⟩, trivial⟩ hT
  cases List.mem_singleton.mp e4
  cases v with
  | none => exact ⟨M', e1, KP.call e2 e3 (by decide +kernel) (by decide) (by decide) hL, e3⟩
  | some w => exact e5.elim
theorem ev_choose {o : Nat} {vo : List Value} {x gl hb : Int32} (hT : TM sT sG M) (hL : LD ld M) (ho : gNth sT o = some 21) (hM : gNth M o = some (.inr (8, vo))) (hx : gNth vo 0 = some (.int x)) (x1 : 0 ≤ x.toInt) (x2 : x.toInt ≤ 255) (g1 : 0 ≤ gl.toInt) (g2 : gl.toInt ≤ 255) (h1 : 0 ≤ hb.toInt) (h2 : hb.toInt ≤ 5) : ∃ r M', Ev none (e + 3) 66 0 [some (.ref 104), some (.ref o), some (.int gl), some (.int hb), none, none, none, none, none, none] [] M (some (.int r)) M' 0 0 ∧ KP S mdBd ld M M' ∧ (∃ vo', gNth M' o = some (.inr (8, vo')) ∧ gNth vo' 0 = some (.int x)) ∧ (r = -1 ∨ ∃ l y, gNth M' 108 = some (.inl (1, .inl l)) ∧ gAt l (8 * x + r) = some y ∧ 0 ≤ y.toInt ∧ y.toInt ≤ 255) := by
  cases hq : gNth mRs 66 with
  | none => have := mRg.1; rw [hq] at this; cases this
  | some q =>
    have hm := mRg.1
    rw [hq] at hm
    have hm : q.2.2.2.1 = 10 := Option.some.inj hm
    obtain ⟨v, M', e1, e2, e3, s, e4, ⟨e5, _, hv, e6, _, e7⟩, _⟩ := kX7_choose_ok (e + 3) M [.ref 104, .ref o, .int gl, .int hb] q (Nat.le_add_left _ _) hq ⟨rfl, ⟨o, rfl, ho⟩, ⟨gl, rfl, g1, g2⟩, ⟨hb, rfl, h1, h2⟩, trivial⟩ ⟨[.int x], ⟨⟨o, vo, rfl, hM, hx, x, rfl, x1, x2⟩, trivial⟩, fun f hf => by cases hf⟩ hT
    rw [hm] at e1
    have hF : Frm sT [(1037, 0), (1039, 0)] M M' := e3
    obtain ⟨vo', i1, i2, i3⟩ := hF.2.1 _ _ _ hM
    have hx' : gNth vo' 0 = some (.int x) := (i3 0 (by decide)).trans hx
    have hK : KP S mdBd ld M M' := KP.call e2 hF (by decide +kernel) (by decide) (by decide) hL
    have e4 : s ∈ [((some (.inl (.negSucc 0, .negSucc 0)) : Option TA), ([] : List (Nat × Iv)), ([] : List HT), ([] : List FP), ([] : List EL)), (some (.inl (.ofNat 0, .ofNat 7)), [], [(.inr 1, 8, 0, .inl (.ofNat 0, .ofNat 255))], [], [(108, [(0, .ofNat 1), (5, .ofNat 8)], .ofNat 0, (.ofNat 0, .ofNat 255))])] := e4
    rcases List.mem_cons.mp e4 with rfl | e4
    · cases v with
      | none => exact e5.elim
      | some w =>
        obtain ⟨r, rfl, r1, r2⟩ := e5
        refine ⟨r, M', e1, hK, ⟨vo', i1, hx'⟩, Or.inl (Int32.toInt_inj.mp ?_)⟩
        have r1 : (-1 : Int) ≤ r.toInt := r1
        have r2 : r.toInt ≤ (-1 : Int) := r2
        show r.toInt = -1
        omega
    · cases List.mem_singleton.mp e4
      cases v with
      | none => exact e5.elim
      | some w =>
        obtain ⟨r, rfl, r1, r2⟩ := e5
        have r1 : (0 : Int) ≤ r.toInt := r1
        have r2 : r.toInt ≤ (7 : Int) := r2
        rcases hv with _ | ⟨hv, _ | ⟨_, _⟩⟩
        · exact e6.elim
        rotate_left
        · exact e6.2.elim
        obtain ⟨⟨o9, vs9, k1, k2, k3, x9, rfl, _⟩, _⟩ := e6
        cases (show some (Value.ref o) = some (.ref o9) from k1)
        cases k2.symm.trans i1
        cases k3.symm.trans hx'
        obtain ⟨i, y, t, l, z, f1, f2, f3, f4, f5, f6⟩ := e7 _ (List.mem_singleton.mpr rfl)
        have f1 : some (1 * r.toInt + (8 * x.toInt + 0)) = some y := f1
        have f1 := Option.some.inj f1
        have f2 : y + 0 = (i : Int) := f2
        obtain ⟨vs, b, w1, w2, w3⟩ := e2.fref sT_104 ly_grid
        obtain ⟨vs2, b2, w4, w5, w6⟩ := e2.fref w3 ly_bes
        have hb2 : b2 = 108 := sU_ok _ _ _ w6 sU_26
        subst hb2
        obtain ⟨ee, q1, q2⟩ := e2.at w6 sG_26
        have f3 : gNth M' 108 = some (.inl (t, .inl l)) := f3
        have ht : t = 1 := by
          cases q1.symm.trans f3
          obtain ⟨l9, q3, _⟩ := ct_int (by decide) q2
          cases q3
          rfl
        subst ht
        have hm8 : (8 * x).toInt = 8 * x.toInt := by
          have o8 : (8 : Int32).toInt = 8 := rfl
          rw [i32_mul (by rw [o8]; omega) (by rw [o8]; omega), o8]
        have hj : (8 * x + r).toInt = (i : Int) := by
          rw [i32_add (by rw [hm8]; omega) (by rw [hm8]; omega), hm8]
          omega
        obtain ⟨z2, z3, z4⟩ := at_c (l := l) hj (gNth_lt _ _ _ f4)
        cases z4.symm.trans f4
        exact ⟨r, M', e1, hK, ⟨vo', i1, hx'⟩, Or.inr ⟨l, z, f3, z3, f5, f6⟩⟩
end WLK
