/-! THE TAPES' BYTES, exactly -/
theorem b255 (a : Int32) : a &&& 255 = nI (a.toBitVec.toNat % 256) := pk_and a 8 (by decide)
theorem tn256 (a : Int32) : ((a.toBitVec.toNat % 256 : Nat) : Int) = a.toInt % 256 := by
  have h : a.toInt = a.toBitVec.toInt := rfl
  have hb := a.toBitVec.isLt
  rw [h, BitVec.toInt_eq_toNat_cond]
  split <;> omega
theorem bm256 (x : Int) : Int.bmod x 256 % 256 = x % 256 := by
  unfold Int.bmod
  dsimp only
  split <;> omega
theorem nar256 (y : Int32) : (vp_nar .byte y).toInt % 256 = y.toInt % 256 := by
  have h : vp_nar .byte y = y.toInt8.toInt32 := rfl
  rw [h, Int8.toInt_toInt32, Int32.toInt_toInt8]
  exact bm256 _
theorem i8_256 (y : Int32) : (y.toInt8.toInt32).toInt % 256 = y.toInt % 256 := nar256 y
/-- the reference's byte, read as the class holds it -/
theorem byt_r (x s : Int32) (n : Nat) (hs : (s.toBitVec.smod 32).toNat = n) : (vp_nar .byte ((x >>> s).toInt8.toInt32)) &&& 255 = nI (((x.toInt / (2 : Int) ^ n) % 256).toNat) := by
  rw [b255]
  congr 1
  have h1 := tn256 (vp_nar .byte ((x >>> s).toInt8.toInt32))
  rw [nar256, i8_256, pk_shr x s n hs, Int.shiftRight_eq_div_pow] at h1
  have h2 : ((2 ^ n : Nat) : Int) = (2 : Int) ^ n := by rw [Int.natCast_pow]; rfl
  rw [h2] at h1
  omega
theorem byt_u (x : Int32) (n : Nat) (s : Int32) (hs : ((s.toUInt32 &&& Int32.toUInt32 31).toBitVec % 32).toNat = n) : ((x.toUInt32 >>> (s.toUInt32 &&& Int32.toUInt32 31)).toInt32).toBitVec.toNat = x.toBitVec.toNat / 2 ^ n := pk_ushr x s n hs
theorem eq_nI (a : Int32) : a = nI a.toBitVec.toNat := Int32.toBitVec_inj.mp (by show _ = BitVec.ofNat 32 _; simp)
theorem by_0 (x : Int32) : (vp_nar .byte ((x >>> ((24 : Int32) &&& 31)).toInt8.toInt32)) &&& 255 = ((x.toUInt32 >>> ((24 : Int32).toUInt32 &&& Int32.toUInt32 31)).toInt32) := by
  rw [byt_r x (24 &&& 31) 24 (by decide), eq_nI ((x.toUInt32 >>> ((24 : Int32).toUInt32 &&& Int32.toUInt32 31)).toInt32), byt_u x 24 24 (by decide)]
  congr 1
  have h := tn256 x
  have hb := x.toBitVec.isLt
  have h2 : x.toInt = x.toBitVec.toInt := rfl
  rw [h2, BitVec.toInt_eq_toNat_cond]
  have e1 : (2 : Int) ^ 24 = 16777216 := by decide
  have e2 : (2 : Nat) ^ 24 = 16777216 := by decide
  rw [e1, e2]
  split <;> omega

theorem by_1 (x : Int32) : (vp_nar .byte ((x >>> ((24 + Int32.ofInt (-8) : Int32) &&& 31)).toInt8.toInt32)) &&& 255 = ((x.toUInt32 >>> ((16 : Int32).toUInt32 &&& Int32.toUInt32 31)).toInt32 &&& 255) := by
  rw [byt_r x ((24 + Int32.ofInt (-8)) &&& 31) 16 (by decide), b255, byt_u x 16 16 (by decide)]
  congr 1
  have hb := x.toBitVec.isLt
  have h2 : x.toInt = x.toBitVec.toInt := rfl
  rw [h2, BitVec.toInt_eq_toNat_cond]
  have e1 : (2 : Int) ^ 16 = 65536 := by decide
  have e2 : (2 : Nat) ^ 16 = 65536 := by decide
  rw [e1, e2]
  split <;> omega

theorem by_2 (x : Int32) : (vp_nar .byte ((x >>> ((24 + Int32.ofInt (-8) + Int32.ofInt (-8) : Int32) &&& 31)).toInt8.toInt32)) &&& 255 = ((x.toUInt32 >>> ((8 : Int32).toUInt32 &&& Int32.toUInt32 31)).toInt32 &&& 255) := by
  rw [byt_r x ((24 + Int32.ofInt (-8) + Int32.ofInt (-8)) &&& 31) 8 (by decide), b255, byt_u x 8 8 (by decide)]
  congr 1
  have hb := x.toBitVec.isLt
  have h2 : x.toInt = x.toBitVec.toInt := rfl
  rw [h2, BitVec.toInt_eq_toNat_cond]
  have e1 : (2 : Int) ^ 8 = 256 := by decide
  have e2 : (2 : Nat) ^ 8 = 256 := by decide
  rw [e1, e2]
  split <;> omega

theorem by_3 (x : Int32) : (vp_nar .byte ((x >>> ((24 + Int32.ofInt (-8) + Int32.ofInt (-8) + Int32.ofInt (-8) : Int32) &&& 31)).toInt8.toInt32)) &&& 255 = x &&& 255 := by
  rw [byt_r x ((24 + Int32.ofInt (-8) + Int32.ofInt (-8) + Int32.ofInt (-8)) &&& 31) 0 (by decide), b255]
  congr 1
  have h := tn256 x
  have e1 : (2 : Int) ^ 0 = 1 := by decide
  rw [e1, Int.ediv_one]
  omega

/-- the rows of the tapes -/
def BC (l : List Int32) (M : Mem) : Prop := gNth M 2 = some (.inl (1, .inl l))
def BR (l : List Int32) (M : Mem) : Prop := gNth M 634 = some (.inl (0, .inl l))
set_option maxRecDepth 100000 in
theorem tp_u2 : gNth sU 2 = some (some 2) ∧ gNth sT 2 = some 2 ∧ gNth sT 634 = some 62 := by refine ⟨?_, ?_, ?_⟩ <;> decide +kernel
theorem BC.frm {l : List Int32} {md : Md} {M M' : Mem} (h : BC l M) (hF : Frm sT md M M') (hm : (1002, 0) ∉ md) : BC l M' := by
  obtain ⟨x', h1, h2⟩ := hF.2.2 2 1 (.inl l) h
  rw [h2 (fun g hg => by rw [tp_u2.2.1] at hg; cases hg; exact hm)] at h1
  exact h1
theorem BR.frm {l : List Int32} {md : Md} {M M' : Mem} (h : BR l M) (hF : Frm sT md M M') (hm : (1062, 0) ∉ md) : BR l M' := by
  obtain ⟨x', h1, h2⟩ := hF.2.2 634 0 (.inl l) h
  rw [h2 (fun g hg => by rw [tp_u2.2.2] at hg; cases hg; exact hm)] at h1
  exact h1
noncomputable def pu4 (l : List Int32) (z x : Int32) : List Int32 := gPut (gPut (gPut (gPut l z.toNatClampNeg ((x.toUInt32 >>> ((24 : Int32).toUInt32 &&& Int32.toUInt32 31)).toInt32)) (z + 1).toNatClampNeg ((x.toUInt32 >>> ((16 : Int32).toUInt32 &&& Int32.toUInt32 31)).toInt32 &&& 255)) (z + 2).toNatClampNeg ((x.toUInt32 >>> ((8 : Int32).toUInt32 &&& Int32.toUInt32 31)).toInt32 &&& 255)) (z + 3).toNatClampNeg (x &&& 255)
noncomputable def fo1 (l : List Int32) (z x k : Int32) : List Int32 := gPut l z.toNatClampNeg (vp_nar .byte ((x >>> (k &&& 31)).toInt8.toInt32))
noncomputable def fo4 (l : List Int32) (z x : Int32) : List Int32 := fo1 (fo1 (fo1 (fo1 l z x (24)) (z + 1) x (24 + Int32.ofInt (-8))) (z + 1 + 1) x (24 + Int32.ofInt (-8) + Int32.ofInt (-8))) (z + 1 + 1 + 1) x (24 + Int32.ofInt (-8) + Int32.ofInt (-8) + Int32.ofInt (-8))
/-- as far as the tape is told, class and reference hold the same bytes -/
def BBp (n : Nat) (lb lt : List Int32) : Prop := ∀ k, k < n → ∃ y, gNth lt k = some y ∧ gNth lb k = some (y &&& 255)
theorem BBp.step {n : Nat} {lb lt : List Int32} {b c : Int32} (h : BBp n lb lt) (hb : c &&& 255 = b) (l1 : n < lb.length) (l2 : n < lt.length) : BBp (n + 1) (gPut lb n b) (gPut lt n c) := by
  intro k hk
  rw [nth_put, nth_put]
  by_cases hkn : k = n
  · rw [if_pos ⟨hkn, by omega⟩, if_pos ⟨hkn, by omega⟩]
    exact ⟨c, rfl, by rw [hb]⟩
  · rw [if_neg (fun q => hkn q.1), if_neg (fun q => hkn q.1)]
    exact h k (by omega)
theorem BBp.less {n m : Nat} {lb lt : List Int32} (h : BBp n lb lt) (hm : m ≤ n) : BBp m lb lt := fun k hk => h k (by omega)
theorem pu4_len {l : List Int32} {z x : Int32} : (pu4 l z x).length = l.length := by unfold pu4; rw [put_len, put_len, put_len, put_len]
theorem fo4_len {l : List Int32} {z x : Int32} : (fo4 l z x).length = l.length := by unfold fo4 fo1; rw [put_len, put_len, put_len, put_len]
theorem BBp.four {n : Nat} {lb lt : List Int32} {z x : Int32} (h : BBp n lb lt) (hz : z.toInt = (n : Int)) (l1 : n + 4 ≤ lb.length) (l2 : n + 4 ≤ lt.length) (hn : n ≤ 440) : BBp (n + 4) (pu4 lb z x) (fo4 lt z x) := by
  have o1 : (1 : Int32).toInt = 1 := rfl
  have o2 : (2 : Int32).toInt = 2 := rfl
  have o3 : (3 : Int32).toInt = 3 := rfl
  have e1 : (z + 1).toInt = ((n + 1 : Nat) : Int) := by rw [i32_add (by omega) (by omega)]; omega
  have e2 : (z + 2).toInt = ((n + 2 : Nat) : Int) := by rw [i32_add (by omega) (by omega)]; omega
  have e3 : (z + 3).toInt = ((n + 3 : Nat) : Int) := by rw [i32_add (by omega) (by omega)]; omega
  have f2 : (z + 1 + 1).toInt = ((n + 2 : Nat) : Int) := by rw [i32_add (by omega) (by omega)]; omega
  have f3 : (z + 1 + 1 + 1).toInt = ((n + 3 : Nat) : Int) := by rw [i32_add (by omega) (by omega)]; omega
  unfold pu4 fo4 fo1
  rw [cl_n hz, cl_n e1, cl_n e2, cl_n e3, cl_n f2, cl_n f3]
  refine BBp.step (n := n + 3) (BBp.step (n := n + 2) (BBp.step (n := n + 1) (BBp.step h (by_0 x) (by omega) (by omega)) (by_1 x) (by rw [put_len]; omega) (by rw [put_len]; omega)) (by_2 x) (by rw [put_len, put_len]; omega) (by rw [put_len, put_len]; omega)) (by_3 x) (by rw [put_len, put_len, put_len]; omega) (by rw [put_len, put_len, put_len]; omega)
theorem ev_put4 {e : Nat} {M : Mem} {z x : Int32} {lb : List Int32} (hT : TM sT sG M) (hz : LC z M) (hB : BC lb M) (z0 : 0 ≤ z.toInt) (z1 : z.toInt ≤ 436) : ∃ M', Ev none e 49 0 [some (.ref 1), some (.int x)] [] M none M' 0 0 ∧ TM sT sG M' ∧ Frm sT [(5, 1), (1002, 0)] M M' ∧ LC (z + 4) M' ∧ BC (pu4 lb z x) M' := by
  obtain ⟨vs, h1, h2⟩ := hz
  obtain ⟨vs', b, q1, q2, sb⟩ := hT.fref tp_1 tp_b.2.1
  cases h1.symm.trans q1
  obtain ⟨l, r1, r2, _⟩ := hT.irow sb tp_b.2.2.2
  have hb2 := sU_ok b 2 2 sb tp_u2.1
  subst hb2
  have hsl : l = lb := by cases hB.symm.trans r1; rfl
  subst hsl
  obtain ⟨n, hn⟩ : ∃ n : Nat, z.toInt = (n : Int) := ⟨z.toInt.toNat, by omega⟩
  have o1 : (1 : Int32).toInt = 1 := rfl
  have o2 : (2 : Int32).toInt = 2 := rfl
  have o3 : (3 : Int32).toInt = 3 := rfl
  have o4 : (4 : Int32).toInt = 4 := rfl
  have e1 : (z + 1).toInt = ((n + 1 : Nat) : Int) := by rw [i32_add (by omega) (by omega)]; omega
  have e2 : (z + 2).toInt = ((n + 2 : Nat) : Int) := by rw [i32_add (by omega) (by omega)]; omega
  have e3 : (z + 3).toInt = ((n + 3 : Nat) : Int) := by rw [i32_add (by omega) (by omega)]; omega
  have e4 : (z + 4).toInt = z.toInt + 4 := by rw [i32_add (by omega) (by omega)]; omega
  obtain ⟨y0, a0, _⟩ := at_c (l := l) hn (by omega)
  obtain ⟨t1, f1, g1, i1, n1⟩ := tp_st hT h1 r1 r2 sb z.toNatClampNeg (ush_b x)
  obtain ⟨y1, a1, _⟩ := at_c (l := gPut l z.toNatClampNeg ((x.toUInt32 >>> ((24 : Int32).toUInt32 &&& Int32.toUInt32 31)).toInt32)) e1 (by omega)
  obtain ⟨t2, f2, g2, i2, n2⟩ := tp_st t1 g1 i1 n1 sb (z + 1).toNatClampNeg (a255_b ((x.toUInt32 >>> ((16 : Int32).toUInt32 &&& Int32.toUInt32 31)).toInt32))
  obtain ⟨y2, a2, _⟩ := at_c (l := gPut (gPut l z.toNatClampNeg ((x.toUInt32 >>> ((24 : Int32).toUInt32 &&& Int32.toUInt32 31)).toInt32)) (z + 1).toNatClampNeg ((x.toUInt32 >>> ((16 : Int32).toUInt32 &&& Int32.toUInt32 31)).toInt32 &&& 255)) e2 (by omega)
  obtain ⟨t3, f3, g3, i3, n3⟩ := tp_st t2 g2 i2 n2 sb (z + 2).toNatClampNeg (a255_b ((x.toUInt32 >>> ((8 : Int32).toUInt32 &&& Int32.toUInt32 31)).toInt32))
  obtain ⟨y3, a3, _⟩ := at_c (l := gPut (gPut (gPut l z.toNatClampNeg ((x.toUInt32 >>> ((24 : Int32).toUInt32 &&& Int32.toUInt32 31)).toInt32)) (z + 1).toNatClampNeg ((x.toUInt32 >>> ((16 : Int32).toUInt32 &&& Int32.toUInt32 31)).toInt32 &&& 255)) (z + 2).toNatClampNeg ((x.toUInt32 >>> ((8 : Int32).toUInt32 &&& Int32.toUInt32 31)).toInt32 &&& 255)) e3 (by omega)
  obtain ⟨t4, f4, g4, i4, n4⟩ := tp_st t3 g3 i3 n3 sb (z + 3).toNatClampNeg (a255_b x)
  obtain ⟨u1, u2, u3, u4⟩ := LC.set (z := z) (w := z + 4) t4 g4 (by omega) (by omega)
  have f5 : Frm sT [(5, 1), (1002, 0)] _ _ := u2.more (md' := [(5, 1), (1002, 0)]) (fun q hq => by cases List.mem_singleton.mp hq; exact List.mem_cons_self)
  have hle : z ≤ 436 := Int32.le_iff_toInt_le.mpr z1
  exact ⟨_, pt_0 h1 h2 (by rw [if_pos hle]; exact pt_11 h1 q2 h2 r1 a0 (pt_24 g1 q2 h2 i1 a1 (pt_43 g2 q2 h2 i2 a2 (pt_62 g3 q2 h2 i3 a3 (pt_78 g4 h2 u4))))), u1, (((f1.trans f2).trans f3).trans f4).trans f5, u3, (show gNth _ 2 = _ by rw [nth_put, if_neg (fun q => absurd q.1 (by decide))]; exact i4)⟩
noncomputable def fdC (lb : List Int32) (z x1 x2 x3 x4 x5 : Int32) : List Int32 := if z + 20 ≤ 440 then (pu4 (pu4 (pu4 (pu4 (pu4 lb z x1) (z + 4) x2) (z + 4 + 4) x3) (z + 4 + 4 + 4) x4) (z + 4 + 4 + 4 + 4) x5) else lb
theorem ev_feedC4 {e : Nat} {M : Mem} {z x1 x2 x3 x4 x5 : Int32} {lb : List Int32} (hV : INV M) (hz : LC z M) (hB : BC lb M) : ∃ M', Ev none (e + 1) 80 0 [some (.ref 0), some (.int x1), some (.int x2), some (.int x3), some (.int x4), some (.int x5)] [] M (some (.int (feedA z))) M' 0 0 ∧ INV M' ∧ Frm sT [(5, 1), (1002, 0)] M M' ∧ LC (feedZ z) M' ∧ BC (fdC lb z x1 x2 x3 x4 x5) M' := by
  obtain ⟨vp, p1, p2⟩ := INV.tape hV.1
  obtain ⟨z0, z1⟩ := hz.rng hV.1
  have o20 : (20 : Int32).toInt = 20 := rfl
  have o44 : (440 : Int32).toInt = 440 := rfl
  have e20 : (z + 20).toInt = z.toInt + 20 := by rw [i32_add (by omega) (by omega)]; omega
  unfold feedA feedZ fdC
  by_cases hy : z + 20 ≤ 440
  rotate_left
  · rw [if_neg hy, if_neg hy, if_neg hy]
    obtain ⟨vs, h1, h2⟩ := id hz
    exact ⟨M, ff_0 p1 p2 h1 h2 (by rw [if_neg hy]; exact ff_16), hV, Frm.refl _, hz, hB⟩
  rw [if_pos hy, if_pos hy, if_pos hy]
  have hz2 : z.toInt ≤ 420 := by have := Int32.le_iff_toInt_le.mp hy; omega
  have o4 : (4 : Int32).toInt = 4 := rfl
  have e1 : (z + 4).toInt = z.toInt + 4 := by rw [i32_add (by omega) (by omega)]; omega
  have e2 : (z + 4 + 4).toInt = z.toInt + 8 := by rw [i32_add (by omega) (by omega)]; omega
  have e3 : (z + 4 + 4 + 4).toInt = z.toInt + 12 := by rw [i32_add (by omega) (by omega)]; omega
  have e4 : (z + 4 + 4 + 4 + 4).toInt = z.toInt + 16 := by rw [i32_add (by omega) (by omega)]; omega
  obtain ⟨M1, a1, T1, F1, L1, B1⟩ := ev_put4 (e := e) (x := x1) hV.1 hz hB z0 (by omega)
  obtain ⟨M2, a2, T2, F2, L2, B2⟩ := ev_put4 (e := e) (x := x2) T1 L1 B1 (by omega) (by omega)
  obtain ⟨M3, a3, T3, F3, L3, B3⟩ := ev_put4 (e := e) (x := x3) T2 L2 B2 (by omega) (by omega)
  obtain ⟨M4, a4, T4, F4, L4, B4⟩ := ev_put4 (e := e) (x := x4) T3 L3 B3 (by omega) (by omega)
  obtain ⟨M5, a5, T5, F5, L5, B5⟩ := ev_put4 (e := e) (x := x5) T4 L4 B4 (by omega) (by omega)
  have F9 := (((F1.trans F2).trans F3).trans F4).trans F5
  rw [feed_5 z0 hz2] at L5
  obtain ⟨v0, c0, d0⟩ := id hz
  obtain ⟨v1, c1, d1⟩ := L1
  obtain ⟨v2, c2, d2⟩ := L2
  obtain ⟨v3, c3, d3⟩ := L3
  obtain ⟨v4, c4, d4⟩ := L4
  obtain ⟨v5, c5, d5⟩ := id L5
  obtain ⟨w1, i1, j1⟩ := INV.tape T1
  obtain ⟨w2, i2, j2⟩ := INV.tape T2
  obtain ⟨w3, i3, j3⟩ := INV.tape T3
  obtain ⟨w4, i4, j4⟩ := INV.tape T4
  obtain ⟨w5, i5, j5⟩ := INV.tape T5
  refine ⟨M5, ff_0 p1 p2 c0 d0 ?_, hV.mv T5 F9 (by decide) (by decide) (by decide) (by decide), F9, L5, B5⟩
  rw [if_pos hy]
  refine ff_18 p1 p2 (Ev.call0 (fun n => gs_7 rfl rfl (cal_pu c0 rfl)) a1 ?_)
  refine ff_26 i1 j1 (Ev.call0 (fun n => gs_7 rfl rfl (cal_pu c1 rfl)) a2 ?_)
  refine ff_34 i2 j2 (Ev.call0 (fun n => gs_7 rfl rfl (cal_pu c2 rfl)) a3 ?_)
  refine ff_42 i3 j3 (Ev.call0 (fun n => gs_7 rfl rfl (cal_pu c3 rfl)) a4 ?_)
  refine ff_51 i4 j4 (Ev.call0 (fun n => gs_7 rfl rfl (cal_pu c4 rfl)) a5 ?_)
  exact ff_60 i5 j5 c5 d5
theorem fo_it4 {e : Nat} {M : Mem} {z x k : Int32} {lt : List Int32} (hT : TM sT sG M) (hz : LR z M) (hB : BR lt M) (z0 : 0 ≤ z.toInt) (z1 : z.toInt ≤ 439) (hk : ¬ k < 0) : ∃ M1, (∀ v M', Ev none e 137 3 [some (.ref 633), some (.int x), some (.int (k + Int32.ofInt (-8)))] [] M1 v M' 0 0 → Ev none e 137 3 [some (.ref 633), some (.int x), some (.int k)] [] M v M' 0 0) ∧ TM sT sG M1 ∧ Frm sT [(11, 2), (1062, 0)] M M1 ∧ LR (z + 1) M1 ∧ BR (fo1 lt z x k) M1 := by
  obtain ⟨vs, h1, h2⟩ := hz
  obtain ⟨vs', b, q1, q2, sb⟩ := hT.fref tp_633 tp_m.2.1
  cases h1.symm.trans q1
  obtain ⟨l, r1, r2, r3⟩ := hT.mrow sb tp_m.2.2
  have hb2 := sU_ok b 62 634 sb tp_u.2.1
  subst hb2
  have hsl : l = lt := by cases hB.symm.trans r1; rfl
  subst hsl
  obtain ⟨n, hn⟩ : ∃ n : Nat, z.toInt = (n : Int) := ⟨z.toInt.toNat, by omega⟩
  obtain ⟨y0, a0, _⟩ := at_c (l := l) hn (by omega)
  have o1 : (1 : Int32).toInt = 1 := rfl
  have e1 : (z + 1).toInt = z.toInt + 1 := by rw [i32_add (by omega) (by omega)]; omega
  have hb : (634 : Nat) ≠ 633 := by decide
  have t1 : TM sT sG (gPut M 634 (.inl (0, .inl (gPut l z.toNatClampNeg (vp_nar .byte ((x >>> (k &&& 31)).toInt8.toInt32)))))) := hT.putrow (n := 440) (lo := -128) (hi := 127) sb (by decide +kernel) (by rw [put_len]; exact r2) (fun j w hj => by
    rw [nth_put] at hj
    split at hj
    · cases hj; exact nar_b _
    · exact r3 j w hj)
  have f1 : Frm sT [(11, 2), (1062, 0)] M _ := Frm.row (y := .inl (gPut l z.toNatClampNeg (vp_nar .byte ((x >>> (k &&& 31)).toInt8.toInt32)))) r1 sb (by decide)
  have g1 : gNth (gPut M 634 (.inl (0, .inl (gPut l z.toNatClampNeg (vp_nar .byte ((x >>> (k &&& 31)).toInt8.toInt32)))))) 633 = some (.inr (11, vs)) := by
    rw [nth_put, if_neg (fun q => hb q.1.symm)]
    exact h1
  obtain ⟨u1, u2, u3, u4⟩ := LR.set (w := z + 1) t1 g1 (by omega) (by omega)
  exact ⟨_, fun v M' h => fo_3 (by rw [if_neg hk]; exact fo_7 h1 q2 h2 r1 a0 (fo_20 g1 h2 u4 h)), u1, f1.trans (u2.more (fun q hq => by cases List.mem_singleton.mp hq; exact List.mem_cons_self)), u3, (show gNth _ 634 = _ by rw [nth_put, if_neg (fun q => absurd q.1 (by decide)), nth_put, if_pos ⟨rfl, gNth_lt _ _ _ r1⟩]; rfl)⟩
theorem ev_four4 {e : Nat} {M : Mem} {z x : Int32} {w2 : Option Value} {lt : List Int32} (hT : TM sT sG M) (hz : LR z M) (hB : BR lt M) (z0 : 0 ≤ z.toInt) (z1 : z.toInt ≤ 436) : ∃ M', Ev none e 137 0 [some (.ref 633), some (.int x), w2] [] M none M' 0 0 ∧ TM sT sG M' ∧ Frm sT [(11, 2), (1062, 0)] M M' ∧ LR (z + 1 + 1 + 1 + 1) M' ∧ BR (fo4 lt z x) M' := by
  have o1 : (1 : Int32).toInt = 1 := rfl
  have e1 : (z + 1).toInt = z.toInt + 1 := by rw [i32_add (by omega) (by omega)]; omega
  have e2 : (z + 1 + 1).toInt = z.toInt + 2 := by rw [i32_add (by omega) (by omega)]; omega
  have e3 : (z + 1 + 1 + 1).toInt = z.toInt + 3 := by rw [i32_add (by omega) (by omega)]; omega
  obtain ⟨M1, a1, T1, F1, L1, B1⟩ := fo_it4 (e := e) (x := x) (k := 24) hT hz hB z0 (by omega) (by decide)
  obtain ⟨M2, a2, T2, F2, L2, B2⟩ := fo_it4 (e := e) (x := x) (k := 24 + Int32.ofInt (-8)) T1 L1 B1 (by omega) (by omega) (by decide)
  obtain ⟨M3, a3, T3, F3, L3, B3⟩ := fo_it4 (e := e) (x := x) (k := 24 + Int32.ofInt (-8) + Int32.ofInt (-8)) T2 L2 B2 (by omega) (by omega) (by decide)
  obtain ⟨M4, a4, T4, F4, L4, B4⟩ := fo_it4 (e := e) (x := x) (k := 24 + Int32.ofInt (-8) + Int32.ofInt (-8) + Int32.ofInt (-8)) T3 L3 B3 (by omega) (by omega) (by decide)
  exact ⟨M4, fo_0 (a1 _ _ (a2 _ _ (a3 _ _ (a4 _ _ (fo_3 (by rw [if_pos (by decide)]; exact fo_36)))))), T4, ((F1.trans F2).trans F3).trans F4, L4, B4⟩
noncomputable def fdR (lt : List Int32) (z x1 x2 x3 x4 x5 : Int32) : List Int32 := if z + 20 ≤ 440 then (fo4 (fo4 (fo4 (fo4 (fo4 lt z x1) (z + 4) x2) (z + 4 + 4) x3) (z + 4 + 4 + 4) x4) (z + 4 + 4 + 4 + 4) x5) else lt
theorem ev_feedR4 {e : Nat} {M : Mem} {z x1 x2 x3 x4 x5 : Int32} {lt : List Int32} (hV : INV M) (hz : LR z M) (hB : BR lt M) : ∃ M', Ev none (e + 1) 136 0 [some (.ref 633), some (.int x1), some (.int x2), some (.int x3), some (.int x4), some (.int x5)] [] M (some (.int (feedA z))) M' 0 0 ∧ INV M' ∧ Frm sT [(11, 0), (11, 2), (1062, 0)] M M' ∧ LR (feedZ z) M' ∧ BR (fdR lt z x1 x2 x3 x4 x5) M' := by
  obtain ⟨z0, z1⟩ := hz.rng hV.1
  obtain ⟨vs, h1, h0, T0, F0, c0, d0⟩ := hz.thr hV.1
  have F0' : Frm sT [(11, 0), (11, 2), (1062, 0)] M _ := F0.more (fun q hq => by cases List.mem_singleton.mp hq; exact List.mem_cons_self)
  have hB0 := hB.frm F0 (by decide)
  have o20 : (20 : Int32).toInt = 20 := rfl
  have o44 : (440 : Int32).toInt = 440 := rfl
  have e20 : (z + 20).toInt = z.toInt + 20 := by rw [i32_add (by omega) (by omega)]; omega
  unfold feedA feedZ fdR
  by_cases hy : z + 20 ≤ 440
  rotate_left
  · rw [if_neg hy, if_neg hy, if_neg hy]
    exact ⟨_, fm_0 h1 h0 (fm_5 c0 d0 (by rw [if_neg hy]; exact fm_18)), hV.mv T0 F0 (by decide) (by decide) (by decide) (by decide), F0', ⟨_, c0, d0⟩, hB0⟩
  rw [if_pos hy, if_pos hy, if_pos hy]
  have hz2 : z.toInt ≤ 420 := by have := Int32.le_iff_toInt_le.mp hy; omega
  have o4 : (4 : Int32).toInt = 4 := rfl
  have e1 : (z + 4).toInt = z.toInt + 4 := by rw [i32_add (by omega) (by omega)]; omega
  have e2 : (z + 4 + 4).toInt = z.toInt + 8 := by rw [i32_add (by omega) (by omega)]; omega
  have e3 : (z + 4 + 4 + 4).toInt = z.toInt + 12 := by rw [i32_add (by omega) (by omega)]; omega
  have e4 : (z + 4 + 4 + 4 + 4).toInt = z.toInt + 16 := by rw [i32_add (by omega) (by omega)]; omega
  obtain ⟨M1, a1, T1, F1, L1, B1⟩ := ev_four4 (e := e) (x := x1) (w2 := none) T0 ⟨_, c0, d0⟩ hB0 z0 (by omega)
  rw [four_4 z0 (by omega)] at L1
  obtain ⟨M2, a2, T2, F2, L2, B2⟩ := ev_four4 (e := e) (x := x2) (w2 := none) T1 L1 B1 (by omega) (by omega)
  rw [four_4 (by omega) (by omega)] at L2
  obtain ⟨M3, a3, T3, F3, L3, B3⟩ := ev_four4 (e := e) (x := x3) (w2 := none) T2 L2 B2 (by omega) (by omega)
  rw [four_4 (by omega) (by omega)] at L3
  obtain ⟨M4, a4, T4, F4, L4, B4⟩ := ev_four4 (e := e) (x := x4) (w2 := none) T3 L3 B3 (by omega) (by omega)
  rw [four_4 (by omega) (by omega)] at L4
  obtain ⟨M5, a5, T5, F5, L5, B5⟩ := ev_four4 (e := e) (x := x5) (w2 := none) T4 L4 B4 (by omega) (by omega)
  rw [four_4 (by omega) (by omega), feed_5 z0 hz2] at L5
  have F9 : Frm sT [(11, 0), (11, 2), (1062, 0)] M M5 := F0'.trans (((((F1.trans F2).trans F3).trans F4).trans F5).more (fun q hq => List.mem_cons_of_mem _ hq))
  obtain ⟨v1, c1, d1⟩ := L1
  obtain ⟨v2, c2, d2⟩ := L2
  obtain ⟨v3, c3, d3⟩ := L3
  obtain ⟨v4, c4, d4⟩ := L4
  obtain ⟨v5, c5, d5⟩ := id L5
  refine ⟨M5, fm_0 h1 h0 (fm_5 c0 d0 ?_), hV.mv T5 F9 (by decide) (by decide) (by decide) (by decide), F9, L5, B5⟩
  rw [if_pos hy]
  refine fm_20 (Ev.call0 (fun n => gs_7 rfl rfl (cal_fo c0 rfl)) a1 ?_)
  refine fm_25 (Ev.call0 (fun n => gs_7 rfl rfl (cal_fo c1 rfl)) a2 ?_)
  refine fm_30 (Ev.call0 (fun n => gs_7 rfl rfl (cal_fo c2 rfl)) a3 ?_)
  refine fm_35 (Ev.call0 (fun n => gs_7 rfl rfl (cal_fo c3 rfl)) a4 ?_)
  refine fm_41 (Ev.call0 (fun n => gs_7 rfl rfl (cal_fo c4 rfl)) a5 ?_)
  exact fm_47 c5 d5
theorem fd_ok {n : Nat} {lb lt : List Int32} {z x1 x2 x3 x4 x5 : Int32} (h : BBp n lb lt) (hz : z.toInt = (n : Int)) (l1 : lb.length = 440) (l2 : lt.length = 440) (hn : n ≤ 440) : BBp (feedZ z).toInt.toNat (fdC lb z x1 x2 x3 x4 x5) (fdR lt z x1 x2 x3 x4 x5) := by
  have o20 : (20 : Int32).toInt = 20 := rfl
  have o44 : (440 : Int32).toInt = 440 := rfl
  have o4 : (4 : Int32).toInt = 4 := rfl
  have e20 : (z + 20).toInt = z.toInt + 20 := by rw [i32_add (by omega) (by omega)]; omega
  unfold feedZ fdC fdR
  by_cases hy : z + 20 ≤ 440
  rotate_left
  · rw [if_neg hy, if_neg hy, if_neg hy]
    exact h.less (by omega)
  rw [if_pos hy, if_pos hy, if_pos hy]
  have hz2 : z.toInt ≤ 420 := by have := Int32.le_iff_toInt_le.mp hy; omega
  have e1 : (z + 4).toInt = ((n + 4 : Nat) : Int) := by rw [i32_add (by omega) (by omega)]; omega
  have e2 : (z + 4 + 4).toInt = ((n + 4 + 4 : Nat) : Int) := by rw [i32_add (by omega) (by omega)]; omega
  have e3 : (z + 4 + 4 + 4).toInt = ((n + 4 + 4 + 4 : Nat) : Int) := by rw [i32_add (by omega) (by omega)]; omega
  have e4 : (z + 4 + 4 + 4 + 4).toInt = ((n + 4 + 4 + 4 + 4 : Nat) : Int) := by rw [i32_add (by omega) (by omega)]; omega
  have h1 := h.four (x := x1) hz (by omega) (by omega) (by omega)
  have h2 := h1.four (x := x2) e1 (by rw [pu4_len]; omega) (by rw [fo4_len]; omega) (by omega)
  have h3 := h2.four (x := x3) e2 (by rw [pu4_len, pu4_len]; omega) (by rw [fo4_len, fo4_len]; omega) (by omega)
  have h4 := h3.four (x := x4) e3 (by rw [pu4_len, pu4_len, pu4_len]; omega) (by rw [fo4_len, fo4_len, fo4_len]; omega) (by omega)
  have h5 := h4.four (x := x5) e4 (by rw [pu4_len, pu4_len, pu4_len, pu4_len]; omega) (by rw [fo4_len, fo4_len, fo4_len, fo4_len]; omega) (by omega)
  exact h5.less (by omega)
