/-! BY HAND, the class: Land.copy from its walkers on -/
theorem wc_0 {e : Nat} {M : Mem} {M' : Mem} {v : Option Value} {vo vp : List Value} {y2 : Int32} {o p : Nat} (hp : gNth M p = some (.inr (8, vp))) (f1 : gNth vp 0 = some (.int y2)) (ho : gNth M o = some (.inr (8, vo))) (hlo : 0 < vo.length) (hz : Ev none e 75 8 [some (.ref o), some (.ref p)] [] (gPut M o (.inr (8, gPut vo 0 (.int y2)))) v M' 0 0) : Ev none e 75 0 [some (.ref o), some (.ref p)] [] M v M' 0 0 := by
  refine Ev.step (pc' := 2) (ls' := [some (.ref o), some (.ref p)]) (st' := [.ref p, .ref o]) (M1 := M) 2 (fun n => rfl) ?_
  refine Ev.step 1 (gs_3 rfl rfl (gf_c rfl hp f1)) ?_
  refine Ev.step 1 (gs_4 rfl rfl (pf_c rfl ho hlo rfl rfl)) ?_
  exact hz
theorem wc_8 {e : Nat} {M : Mem} {M' : Mem} {v : Option Value} {vo vp : List Value} {y2 : Int32} {o p : Nat} (hp : gNth M p = some (.inr (8, vp))) (f1 : gNth vp 1 = some (.int y2)) (ho : gNth M o = some (.inr (8, vo))) (hlo : 1 < vo.length) (hz : Ev none e 75 16 [some (.ref o), some (.ref p)] [] (gPut M o (.inr (8, gPut vo 1 (.int y2)))) v M' 0 0) : Ev none e 75 8 [some (.ref o), some (.ref p)] [] M v M' 0 0 := by
  refine Ev.step (pc' := 10) (ls' := [some (.ref o), some (.ref p)]) (st' := [.ref p, .ref o]) (M1 := M) 2 (fun n => rfl) ?_
  refine Ev.step 1 (gs_3 rfl rfl (gf_c rfl hp f1)) ?_
  refine Ev.step 1 (gs_4 rfl rfl (pf_c rfl ho hlo rfl rfl)) ?_
  exact hz
theorem wc_16 {e : Nat} {M : Mem} {M' : Mem} {v : Option Value} {vo vp : List Value} {y2 : Int32} {o p : Nat} (hp : gNth M p = some (.inr (8, vp))) (f1 : gNth vp 2 = some (.int y2)) (ho : gNth M o = some (.inr (8, vo))) (hlo : 2 < vo.length) (hz : Ev none e 75 24 [some (.ref o), some (.ref p)] [] (gPut M o (.inr (8, gPut vo 2 (.int y2)))) v M' 0 0) : Ev none e 75 16 [some (.ref o), some (.ref p)] [] M v M' 0 0 := by
  refine Ev.step (pc' := 18) (ls' := [some (.ref o), some (.ref p)]) (st' := [.ref p, .ref o]) (M1 := M) 2 (fun n => rfl) ?_
  refine Ev.step 1 (gs_3 rfl rfl (gf_c rfl hp f1)) ?_
  refine Ev.step 1 (gs_4 rfl rfl (pf_c rfl ho hlo rfl rfl)) ?_
  exact hz
theorem wc_24 {e : Nat} {M : Mem} {M' : Mem} {v : Option Value} {vo vp : List Value} {y2 : Int32} {o p : Nat} (hp : gNth M p = some (.inr (8, vp))) (f1 : gNth vp 3 = some (.int y2)) (ho : gNth M o = some (.inr (8, vo))) (hlo : 3 < vo.length) (hz : Ev none e 75 32 [some (.ref o), some (.ref p)] [] (gPut M o (.inr (8, gPut vo 3 (.int y2)))) v M' 0 0) : Ev none e 75 24 [some (.ref o), some (.ref p)] [] M v M' 0 0 := by
  refine Ev.step (pc' := 26) (ls' := [some (.ref o), some (.ref p)]) (st' := [.ref p, .ref o]) (M1 := M) 2 (fun n => rfl) ?_
  refine Ev.step 1 (gs_3 rfl rfl (gf_c rfl hp f1)) ?_
  refine Ev.step 1 (gs_4 rfl rfl (pf_c rfl ho hlo rfl rfl)) ?_
  exact hz
theorem wc_32 {e : Nat} {M : Mem} {vo vp : List Value} {y2 : Int32} {o p : Nat} (hp : gNth M p = some (.inr (8, vp))) (f1 : gNth vp 4 = some (.int y2)) (ho : gNth M o = some (.inr (8, vo))) (hlo : 4 < vo.length) : Ev none e 75 32 [some (.ref o), some (.ref p)] [] M none (gPut M o (.inr (8, gPut vo 4 (.int y2)))) 0 0 := by
  refine Ev.step (pc' := 34) (ls' := [some (.ref o), some (.ref p)]) (st' := [.ref p, .ref o]) (M1 := M) 2 (fun n => rfl) ?_
  refine Ev.step 1 (gs_3 rfl rfl (gf_c rfl hp f1)) ?_
  refine Ev.step 1 (gs_4 rfl rfl (pf_c rfl ho hlo rfl rfl)) ?_
  exact Ev.ret (fun n => rfl)
theorem cp_206 {e : Nat} {M : Mem} {M' : Mem} {v : Option Value} {va vb : List Value} {y2 : Int32} {a b : Nat} {x2 : Option Value} (hb : gNth M b = some (.inr (1, vb))) (f1 : gNth vb 15 = some (.int y2)) (ha : gNth M a = some (.inr (1, va))) (hla : 15 < va.length) (hz : Ev none e 13 216 [some (.ref a), some (.ref b), some (.int 0)] [] (gPut M a (.inr (1, gPut va 15 (.int y2)))) v M' 0 0) : Ev none e 13 206 [some (.ref a), some (.ref b), x2] [] M v M' 0 0 := by
  refine Ev.step (pc' := 208) (ls' := [some (.ref a), some (.ref b), x2]) (st' := [.ref b, .ref a]) (M1 := M) 2 (fun n => rfl) ?_
  refine Ev.step 1 (gs_3 rfl rfl (gf_c rfl hb f1)) ?_
  refine Ev.step 1 (gs_4 rfl rfl (pf_c rfl ha hla rfl rfl)) ?_
  refine Ev.step (pc' := 216) (ls' := [some (.ref a), some (.ref b), some (.int 0)]) (st' := []) (M1 := (gPut M a (.inr (1, gPut va 15 (.int y2))))) 2 (fun n => rfl) ?_
  exact hz
theorem cp_214 {e : Nat} {M : Mem} {M' : Mem} {v : Option Value} {k : Int32} {a b : Nat}  (hz : Ev none e 13 216 [some (.ref a), some (.ref b), some (.int 0)] [] M v M' 0 0) : Ev none e 13 214 [some (.ref a), some (.ref b), some (.int k)] [] M v M' 0 0 := by
  refine Ev.step (pc' := 216) (ls' := [some (.ref a), some (.ref b), some (.int 0)]) (st' := []) (M1 := M) 2 (fun n => rfl) ?_
  exact hz
theorem cp_216 {e : Nat} {M : Mem} {M' : Mem} {v : Option Value} {va : List Value} {k y2 : Int32} {a b : Nat} (ha : gNth M a = some (.inr (1, va))) (f1 : gNth va 15 = some (.int y2)) (hz : Ev none e 13 (if y2 ≤ k then 245 else 224) [some (.ref a), some (.ref b), some (.int k)] [] M v M' 0 0) : Ev none e 13 216 [some (.ref a), some (.ref b), some (.int k)] [] M v M' 0 0 := by
  refine Ev.step (pc' := 218) (ls' := [some (.ref a), some (.ref b), some (.int k)]) (st' := [.ref a, .int k]) (M1 := M) 2 (fun n => rfl) ?_
  refine Ev.step 1 (gs_3 rfl rfl (gf_c rfl ha f1)) ?_
  refine Ev.step (pc' := (if y2 ≤ k then 245 else 224)) (ls' := [some (.ref a), some (.ref b), some (.int k)]) (st' := []) (M1 := M) 1 (fun n => rfl) ?_
  exact hz
theorem cp_224 {e : Nat} {M : Mem} {M' : Mem} {v : Option Value} {va vb : List Value} {k : Int32} {a a2 a4 a6 a8 b : Nat} {la2 la6 : List (Option Nat)} (ha : gNth M a = some (.inr (1, va))) (f1 : gNth va 14 = some (.ref a2)) (ra2 : gNth M a2 = some (.inl (6, .inr (.inr la2)))) (g3 : gAt la2 k = some (some a4)) (hb : gNth M b = some (.inr (1, vb))) (f5 : gNth vb 14 = some (.ref a6)) (ra6 : gNth M a6 = some (.inl (6, .inr (.inr la6)))) (g7 : gAt la6 k = some (some a8)) (hz : Ev none e 13 236 [some (.ref a), some (.ref b), some (.int k)] [.ref a8, .ref a4] M v M' 0 0) : Ev none e 13 224 [some (.ref a), some (.ref b), some (.int k)] [] M v M' 0 0 := by
  refine Ev.step (pc' := 225) (ls' := [some (.ref a), some (.ref b), some (.int k)]) (st' := [.ref a]) (M1 := M) 1 (fun n => rfl) ?_
  refine Ev.step 1 (gs_3 rfl rfl (gf_c rfl ha f1)) ?_
  refine Ev.step (pc' := 229) (ls' := [some (.ref a), some (.ref b), some (.int k)]) (st' := [.int k, .ref a2]) (M1 := M) 1 (fun n => rfl) ?_
  refine Ev.step 1 (gs_3 rfl rfl (aa_c ra2 g3 rfl)) ?_
  refine Ev.step (pc' := 231) (ls' := [some (.ref a), some (.ref b), some (.int k)]) (st' := [.ref b, .ref a4]) (M1 := M) 1 (fun n => rfl) ?_
  refine Ev.step 1 (gs_3 rfl rfl (gf_c rfl hb f5)) ?_
  refine Ev.step (pc' := 235) (ls' := [some (.ref a), some (.ref b), some (.int k)]) (st' := [.int k, .ref a6, .ref a4]) (M1 := M) 1 (fun n => rfl) ?_
  refine Ev.step 1 (gs_3 rfl rfl (aa_c ra6 g7 rfl)) ?_
  exact hz
theorem cp_239 {e : Nat} {M : Mem} {M' : Mem} {v : Option Value} {k : Int32} {a b : Nat}  (hz : Ev none e 13 216 [some (.ref a), some (.ref b), some (.int (k + 1))] [] M v M' 0 0) : Ev none e 13 239 [some (.ref a), some (.ref b), some (.int k)] [] M v M' 0 0 := by
  refine Ev.step (pc' := 216) (ls' := [some (.ref a), some (.ref b), some (.int (k + 1))]) (st' := []) (M1 := M) 2 (fun n => rfl) ?_
  exact hz
theorem cp_245 {e : Nat} {M : Mem} {M' : Mem} {v : Option Value} {va vb : List Value} {k y2 : Int32} {a b : Nat} (hb : gNth M b = some (.inr (1, vb))) (f1 : gNth vb 16 = some (.int y2)) (ha : gNth M a = some (.inr (1, va))) (hla : 16 < va.length) (hz : Ev none e 13 253 [some (.ref a), some (.ref b), some (.int k)] [] (gPut M a (.inr (1, gPut va 16 (.int y2)))) v M' 0 0) : Ev none e 13 245 [some (.ref a), some (.ref b), some (.int k)] [] M v M' 0 0 := by
  refine Ev.step (pc' := 247) (ls' := [some (.ref a), some (.ref b), some (.int k)]) (st' := [.ref b, .ref a]) (M1 := M) 2 (fun n => rfl) ?_
  refine Ev.step 1 (gs_3 rfl rfl (gf_c rfl hb f1)) ?_
  refine Ev.step 1 (gs_4 rfl rfl (pf_c rfl ha hla rfl rfl)) ?_
  exact hz
theorem cp_253 {e : Nat} {M : Mem} {M' : Mem} {v : Option Value} {va vb : List Value} {k y2 : Int32} {a b : Nat} (hb : gNth M b = some (.inr (1, vb))) (f1 : gNth vb 17 = some (.int y2)) (ha : gNth M a = some (.inr (1, va))) (hla : 17 < va.length) (hz : Ev none e 13 261 [some (.ref a), some (.ref b), some (.int k)] [] (gPut M a (.inr (1, gPut va 17 (.int y2)))) v M' 0 0) : Ev none e 13 253 [some (.ref a), some (.ref b), some (.int k)] [] M v M' 0 0 := by
  refine Ev.step (pc' := 255) (ls' := [some (.ref a), some (.ref b), some (.int k)]) (st' := [.ref b, .ref a]) (M1 := M) 2 (fun n => rfl) ?_
  refine Ev.step 1 (gs_3 rfl rfl (gf_c rfl hb f1)) ?_
  refine Ev.step 1 (gs_4 rfl rfl (pf_c rfl ha hla rfl rfl)) ?_
  exact hz
theorem cp_261 {e : Nat} {M : Mem} {M' : Mem} {v : Option Value} {va vb : List Value} {k y2 : Int32} {a b : Nat} (hb : gNth M b = some (.inr (1, vb))) (f1 : gNth vb 18 = some (.int y2)) (ha : gNth M a = some (.inr (1, va))) (hla : 18 < va.length) (hz : Ev none e 13 269 [some (.ref a), some (.ref b), some (.int k)] [] (gPut M a (.inr (1, gPut va 18 (.int y2)))) v M' 0 0) : Ev none e 13 261 [some (.ref a), some (.ref b), some (.int k)] [] M v M' 0 0 := by
  refine Ev.step (pc' := 263) (ls' := [some (.ref a), some (.ref b), some (.int k)]) (st' := [.ref b, .ref a]) (M1 := M) 2 (fun n => rfl) ?_
  refine Ev.step 1 (gs_3 rfl rfl (gf_c rfl hb f1)) ?_
  refine Ev.step 1 (gs_4 rfl rfl (pf_c rfl ha hla rfl rfl)) ?_
  exact hz
theorem cp_269 {e : Nat} {M : Mem} {va vb : List Value} {k y2 : Int32} {a b : Nat} (hb : gNth M b = some (.inr (1, vb))) (f1 : gNth vb 19 = some (.int y2)) (ha : gNth M a = some (.inr (1, va))) (hla : 19 < va.length) : Ev none e 13 269 [some (.ref a), some (.ref b), some (.int k)] [] M none (gPut M a (.inr (1, gPut va 19 (.int y2)))) 0 0 := by
  refine Ev.step (pc' := 271) (ls' := [some (.ref a), some (.ref b), some (.int k)]) (st' := [.ref b, .ref a]) (M1 := M) 2 (fun n => rfl) ?_
  refine Ev.step 1 (gs_3 rfl rfl (gf_c rfl hb f1)) ?_
  refine Ev.step 1 (gs_4 rfl rfl (pf_c rfl ha hla rfl rfl)) ?_
  exact Ev.ret (fun n => rfl)
theorem cal_wc {M : Mem} {vs : List Value} {a : Nat} {a0 : Nat} {rest : List Value} (hM : gNth M a = some (.inr (8, vs))) (hr : gRoom rest = true) : gCal (.invokevirtual 110) 1 (.ref a0 :: .ref a :: rest) M = some (.inr (75, [some (.ref a), some (.ref a0)], rest)) := by
  show @cond (Option ((List Value × Mem) ⊕ (Nat × Lo × List Value))) (true && gRecv M (.ref a) 8 && gRoom rest && true) (some (.inr (75, [some (.ref a), some (.ref a0)], rest))) none = _
  rw [recv_c hM, hr]
  rfl
def mdCp : Md := [(8, 0), (8, 1), (8, 2), (8, 3), (8, 4)]
theorem lrow {M : Mem} {a k g kd n g2 j : Nat} {vl : List Value} {x : Int32} (hT : TM sT sG M) (hg : gNth sT a = some 8) (hM : gNth M a = some (.inr (1, vl))) (h1 : fdB 8 1 k g = true) (h2 : rrB g kd n g2 = true) (hx : x.toInt = (j : Int)) (hj : j < n) : ∃ r l b, gNth vl k = some (.ref r) ∧ gNth sT r = some g ∧ gNth M r = some (.inl (kd, .inr (.inr l))) ∧ gAt l x = some (some b) ∧ gNth l j = some (some b) ∧ gNth sT b = some g2 := by
  obtain ⟨vs, b, f1, f2, f3⟩ := hT.fref hg h1
  cases f1.symm.trans hM
  obtain ⟨l, g1, g4, g3, _⟩ := hT.rref f3 h2
  obtain ⟨y, i1, i2⟩ := at_c (l := l) hx (by omega)
  obtain ⟨c, rfl, hc⟩ := g3 j y i2
  exact ⟨b, l, c, f2, f3, g1, i1, i2, hc⟩
section CPY
variable {S : Nat → Prop} {ld e : Nat}
theorem cge_kp {md : Md} {M M' : Mem} {b : Nat} (h : KP (fun _ => False) md ld M M') (hc : cge M b) : cge M' b := h.2.2.2 b (fun q => q) hc
theorem ev_wcopy {o p : Nat} {M0 : Mem} (T0 : TM sT sG M0) (L0 : LD ld M0) (ho : gNth sT o = some 21) (hp : gNth sT p = some 21) (hc : cge M0 p) : ∃ M', Ev none e 75 0 [some (.ref o), some (.ref p)] [] M0 none M' 0 0 ∧ KP (fun _ => False) mdCp ld M0 M' ∧ cge M' o := by
  obtain ⟨q0, z0, s0, t0, _, u0, w0, _⟩ := T0.fnum hp ly_cell
  obtain ⟨us, x, g2, g3, g4⟩ := hc
  cases g2.symm.trans s0
  cases g3.symm.trans t0
  obtain ⟨v0, y0, a0, b0, c0, _, _, _⟩ := T0.fnum ho ly_cell
  obtain ⟨M1, m1⟩ : ∃ N, N = gPut M0 o (.inr (8, gPut v0 0 (.int z0))) := ⟨_, rfl⟩
  have K1 : KP (fun _ => False) mdCp ld M0 M1 := by rw [m1]; exact KP.fld T0 L0 ho ly_cell a0 (by decide) u0 w0 (by decide) (Or.inr (Or.inr g4))
  have T1 := K1.1
  have L1 := K1.2.2.1
  obtain ⟨q1, z1, s1, t1, _, u1, w1, _⟩ := T1.fnum hp ly_wwish
  obtain ⟨v1, y1, a1, b1, c1, _, _, _⟩ := T1.fnum ho ly_wwish
  obtain ⟨M2, m2⟩ : ∃ N, N = gPut M1 o (.inr (8, gPut v1 1 (.int z1))) := ⟨_, rfl⟩
  have K2 : KP (fun _ => False) mdCp ld M1 M2 := by rw [m2]; exact KP.fld T1 L1 ho ly_wwish a1 (by decide) u1 w1 (by decide) (Or.inl (by decide))
  have T2 := K2.1
  have L2 := K2.2.2.1
  obtain ⟨q2, z2, s2, t2, _, u2, w2, _⟩ := T2.fnum hp ly_age
  obtain ⟨v2, y2, a2, b2, c2, _, _, _⟩ := T2.fnum ho ly_age
  obtain ⟨M3, m3⟩ : ∃ N, N = gPut M2 o (.inr (8, gPut v2 2 (.int z2))) := ⟨_, rfl⟩
  have K3 : KP (fun _ => False) mdCp ld M2 M3 := by rw [m3]; exact KP.fld T2 L2 ho ly_age a2 (by decide) u2 w2 (by decide) (Or.inl (by decide))
  have T3 := K3.1
  have L3 := K3.2.2.1
  obtain ⟨q3, z3, s3, t3, _, u3, w3, _⟩ := T3.fnum hp ly_came
  obtain ⟨v3, y3, a3, b3, c3, _, _, _⟩ := T3.fnum ho ly_came
  obtain ⟨M4, m4⟩ : ∃ N, N = gPut M3 o (.inr (8, gPut v3 3 (.int z3))) := ⟨_, rfl⟩
  have K4 : KP (fun _ => False) mdCp ld M3 M4 := by rw [m4]; exact KP.fld T3 L3 ho ly_came a3 (by decide) u3 w3 (by decide) (Or.inl (by decide))
  have T4 := K4.1
  have L4 := K4.2.2.1
  obtain ⟨q4, z4, s4, t4, _, u4, w4, _⟩ := T4.fnum hp ly_way
  obtain ⟨v4, y4, a4, b4, c4, _, _, _⟩ := T4.fnum ho ly_way
  obtain ⟨M5, m5⟩ : ∃ N, N = gPut M4 o (.inr (8, gPut v4 4 (.int z4))) := ⟨_, rfl⟩
  have K5 : KP (fun _ => False) mdCp ld M4 M5 := by rw [m5]; exact KP.fld T4 L4 ho ly_way a4 (by decide) u4 w4 (by decide) (Or.inl (by decide))
  have T5 := K5.1
  have L5 := K5.2.2.1
  have hc : cge M1 o := ⟨_, z0, by rw [m1, nth_put, if_pos ⟨rfl, gNth_lt _ _ _ a0⟩], by rw [nth_put, if_pos ⟨rfl, c0⟩], g4⟩
  refine ⟨M5, ?_, K1.trans (K2.trans (K3.trans (K4.trans K5))), cge_kp K5 (cge_kp K4 (cge_kp K3 (cge_kp K2 hc)))⟩
  refine wc_0 s0 t0 a0 c0 ?_
  rw [← m1]
  refine wc_8 s1 t1 a1 c1 ?_
  rw [← m2]
  refine wc_16 s2 t2 a2 c2 ?_
  rw [← m3]
  refine wc_24 s3 t3 a3 c3 ?_
  rw [← m4, m5]
  exact wc_32 s4 t4 a4 c4
/-- the copy's walkers, so far -/
def CP (a b : Nat) (n : Int32) (nn i : Nat) (M : Mem) : Prop := (∀ c, c ∈ [8, 243, 345, 441, 537] → c ≠ a → WK c M) ∧ (∃ (vl : List Value) (l : List (Option Nat)), gNth M a = some (.inr (1, vl)) ∧ gNth vl 14 = some (.ref (a + 11)) ∧ gNth vl 15 = some (.int n) ∧ gNth M (a + 11) = some (.inl (6, .inr (.inr l))) ∧ unl l ∧ (∀ k b, gNth l k = some (some b) → a + 36 ≤ b ∧ b < a + 96) ∧ ∀ k, k < i → ∃ b, gNth l k = some (some b) ∧ cge M b) ∧ ∃ (vl : List Value) (l : List (Option Nat)), gNth M b = some (.inr (1, vl)) ∧ gNth vl 14 = some (.ref (b + 11)) ∧ gNth M (b + 11) = some (.inl (6, .inr (.inr l))) ∧ ∀ k, k < nn → ∃ c, gNth l k = some (some c) ∧ cge M c
theorem WK.kp {md : Md} {c : Nat} {M M' : Mem} (hc : c ∈ [8, 243, 345, 441, 537]) (h : WK c M) (hK : KP (fun _ => False) md ld M M') (m1 : (1, 14) ∉ md) (m2 : (1, 15) ∉ md) (m4 : (1019, 0) ∉ md) : WK c M' := by
  obtain ⟨vl, l, n, e1, e2, e3, e4, e5, e6, e7⟩ := h
  obtain ⟨vl', f1, f2, f3⟩ := hK.2.1.2.1 _ _ _ e1
  refine ⟨vl', l, n, f1, (f3 14 m1).trans e2, (f3 15 m2).trans e3, row_frm hK.2.1 (ld_row hc) m4 e4, e5, e6, fun k hk => ?_⟩
  obtain ⟨b, g1, g2⟩ := e7 k hk
  exact ⟨b, g1, cge_kp hK g2⟩
theorem CP.kp {md : Md} {a b i nn : Nat} {n : Int32} {M M' : Mem} (ha : a ∈ [8, 243, 345, 441, 537]) (hb : b ∈ [8, 243, 345, 441, 537]) (h : CP a b n nn i M) (hK : KP (fun _ => False) md ld M M') (m1 : (1, 14) ∉ md) (m2 : (1, 15) ∉ md) (m4 : (1019, 0) ∉ md) : CP a b n nn i M' := by
  obtain ⟨h1, ⟨vl, l, e1, e2, e3, e4, e5, e6, e7⟩, vb, lb, d1, d2, d3, d4⟩ := h
  obtain ⟨vl', f1, f2, f3⟩ := hK.2.1.2.1 _ _ _ e1
  obtain ⟨vb', f4, f5, f6⟩ := hK.2.1.2.1 _ _ _ d1
  refine ⟨fun c hc hca => WK.kp hc (h1 c hc hca) hK m1 m2 m4, ⟨vl', l, f1, (f3 14 m1).trans e2, (f3 15 m2).trans e3, row_frm hK.2.1 (ld_row ha) m4 e4, e5, e6, fun k hk => ?_⟩, vb', lb, f4, (f6 14 m1).trans d2, row_frm hK.2.1 (ld_row hb) m4 d3, fun k hk => ?_⟩
  · obtain ⟨c, g1, g2⟩ := e7 k hk
    exact ⟨c, g1, cge_kp hK g2⟩
  · obtain ⟨c, g1, g2⟩ := d4 k hk
    exact ⟨c, g1, cge_kp hK g2⟩
theorem cp_loop {a b nn : Nat} {n : Int32} (ga : gNth sT a = some 8) (gb : gNth sT b = some 8) (hn : n.toInt = (nn : Int)) (h60 : nn ≤ 60) : ∀ (j i : Nat) (k : Int32) (M : Mem), i + j = nn → k.toInt = (i : Int) → TM sT sG M → CP a b n nn i M → ∃ M' k', TM sT sG M' ∧ Frm sT mdCp M M' ∧ CP a b n nn nn M' ∧ ∀ v MF, Ev none (e + 1) 13 245 [some (.ref a), some (.ref b), some (.int k')] [] M' v MF 0 0 → Ev none (e + 1) 13 216 [some (.ref a), some (.ref b), some (.int k)] [] M v MF 0 0 := by
  intro j
  have ha := ld_in ga
  have hb := ld_in gb
  induction j with
  | zero =>
    intro i k M hj hk hT hC
    have hi : i = nn := by omega
    subst hi
    have hC2 := hC
    obtain ⟨_, ⟨vl, l, e1, e2, e3, _⟩, _⟩ := hC2
    exact ⟨M, k, hT, Frm.refl _, hC, fun v MF h => cp_216 e1 e3 (by rw [if_pos (by rw [Int32.le_iff_toInt_le]; omega)]; exact h)⟩
  | succ j ih =>
    intro i k M hj hk hT hC
    obtain ⟨h1, ⟨vl, l, e1, e2, e3, e4, e5, e6, e7⟩, vb, lb, d1, d2, d3, d4⟩ := hC
    obtain ⟨vw, ld, u1, u2, u3⟩ := hT.fref sT_104 ly_land
    obtain ⟨ra, l', o, p1, p2, p3, p4, p5, p6⟩ := lrow hT ga e1 ly_wk ly_wkr hk (by omega)
    cases p1.symm.trans e2
    cases p3.symm.trans e4
    obtain ⟨rb, lb', p, q1, q2, q3, q4, q5, q6⟩ := lrow hT gb d1 ly_wk ly_wkr hk (by omega)
    cases q1.symm.trans d2
    cases q3.symm.trans d3
    obtain ⟨p', r1, r2⟩ := d4 i (by omega)
    cases r1.symm.trans q5
    obtain ⟨M1, s1, K1, s3⟩ := ev_wcopy (e := e) hT ⟨vw, u1, u2⟩ p6 q6 r2
    obtain ⟨c1, ⟨vl2, l2, f1, f2, f3, f4, f5, f6, f7⟩, c3⟩ := CP.kp ha hb ⟨h1, ⟨vl, l, e1, e2, e3, e4, e5, e6, e7⟩, vb, lb, d1, d2, d3, d4⟩ K1 (by decide) (by decide) (by decide)
    have f4' := row_frm K1.2.1 (ld_row ha) (by decide) e4
    cases f4'.symm.trans f4
    have ek : (k + 1).toInt = k.toInt + 1 := i32_p1 (by omega)
    obtain ⟨MF, k', t1, t2, t3, t4⟩ := ih (i + 1) (k + 1) M1 (by omega) (by omega) K1.1 ⟨c1, ⟨vl2, l, f1, f2, f3, f4, f5, f6, fun m hm => by
      by_cases hmi : m = i
      · exact ⟨o, by rw [hmi]; exact p5, s3⟩
      · exact f7 m (by omega)⟩, c3⟩
    obtain ⟨vo, yo, ho, _⟩ := hT.fnum p6 ly_cell
    refine ⟨MF, k', t1, K1.2.1.trans t2, t3, fun v MF2 h => cp_216 e1 e3 ?_⟩
    rw [if_neg (by rw [Int32.le_iff_toInt_le]; omega)]
    exact cp_224 e1 e2 e4 p4 d1 d2 d3 q4 (Ev.call0 (fun n => gs_7 rfl rfl (cal_wc ho rfl)) s1 (cp_239 (t4 v MF2 h)))
theorem CP.end {a b nn : Nat} {n : Int32} {M : Mem} (hn : n.toInt = (nn : Int)) (h : CP a b n nn nn M) : P34 M := by
  intro c hc
  obtain ⟨h1, ⟨vl, l, e1, e2, e3, e4, e5, e6, e7⟩, _⟩ := h
  by_cases hca : c = a
  · subst hca
    exact ⟨vl, l, n, e1, e2, e3, e4, e5, e6, fun k hk => e7 k (by omega)⟩
  · exact h1 c hc hca
def mdCq : Md := [(1, 15), (1, 16), (1, 17), (1, 18), (1, 19), (8, 0), (8, 1), (8, 2), (8, 3), (8, 4)]
theorem cp_all {a b : Nat} {x2 : Option Value} {M : Mem} (ga : gNth sT a = some 8) (gb : gNth sT b = some 8) (hT : TM sT sG M) (hP : P34 M) : ∃ M', Ev none (e + 1) 13 206 [some (.ref a), some (.ref b), x2] [] M none M' 0 0 ∧ TM sT sG M' ∧ Frm sT mdCq M M' ∧ P34 M' := by
  have ha := ld_in ga
  have hb := ld_in gb
  obtain ⟨vl, l, n0, e1, e2, e3, e4, e5, e6, e7⟩ := hP a ha
  obtain ⟨vb, lb, n, d1, d2, d3, d4, d5, d6, d7⟩ := hP b hb
  obtain ⟨vb', n', f1, f2, f3, f4, f5, _⟩ := hT.fnum gb ly_walkers
  cases f1.symm.trans d1
  cases f2.symm.trans d3
  obtain ⟨vl', n'', g1, g2, g3, _, _, g6⟩ := hT.fnum ga ly_walkers
  cases g1.symm.trans e1
  obtain ⟨nn, hnn⟩ : ∃ nn : Nat, n.toInt = (nn : Int) := ⟨n.toInt.toNat, by omega⟩
  obtain ⟨M1, m1⟩ : ∃ N, N = gPut M a (.inr (1, gPut vl 15 (.int n))) := ⟨_, rfl⟩
  have T1 : TM sT sG M1 := by rw [m1]; exact g6 n f4 f5
  have F1 : Frm sT [(1, 15)] M M1 := by rw [m1]; exact Frm.fld e1 List.mem_cons_self
  have oth : ∀ c us, c ≠ a → gNth M c = some us → gNth M1 c = some us := by
    intro c us hca h
    rw [m1, nth_put, if_neg (fun q => hca q.1)]
    exact h
  have C1 : CP a b n nn 0 M1 := by
    refine ⟨fun c hc hca => ?_, ⟨gPut vl 15 (.int n), l, by rw [m1, nth_put, if_pos ⟨rfl, gNth_lt _ _ _ e1⟩], by rw [nth_put, if_neg (by omega)]; exact e2, by rw [nth_put, if_pos ⟨rfl, g3⟩], row_frm F1 (ld_row ha) (by decide) e4, e5, e6, fun k hk => absurd hk (Nat.not_lt_zero _)⟩, ?_⟩
    · obtain ⟨v9, l9, n9, i1, i2, i3, i4, i5, i6, i7⟩ := hP c hc
      refine ⟨v9, l9, n9, oth c _ hca i1, i2, i3, row_frm F1 (ld_row hc) (by decide) i4, i5, i6, fun k hk => ?_⟩
      obtain ⟨x, x1, x2⟩ := i7 k hk
      exact ⟨x, x1, cge_frm F1 (by decide) x2⟩
    · obtain ⟨v9, j1, j2⟩ := fk F1 (by decide) d1 d2
      refine ⟨v9, lb, j1, j2, row_frm F1 (ld_row hb) (by decide) d4, fun k hk => ?_⟩
      obtain ⟨x, x1, x2⟩ := d7 k (by omega)
      exact ⟨x, x1, cge_frm F1 (by decide) x2⟩
  obtain ⟨M2, k', t1, t2, t3, t4⟩ := cp_loop (e := e) ga gb hnn (by omega) nn 0 0 M1 (by omega) rfl T1 C1
  have P2 := t3.end hnn
  obtain ⟨vw, ld, u1, u2, u3⟩ := t1.fref sT_104 ly_land
  have L2 : LD ld M2 := ⟨vw, u1, u2⟩
  have T2 := t1
  obtain ⟨q2, z2, s2, r2, _⟩ := T2.fnum gb ly_tick
  obtain ⟨v2, y2, a2, b2, c2, _⟩ := T2.fnum ga ly_tick
  obtain ⟨M3, m3⟩ : ∃ N, N = gPut M2 a (.inr (1, gPut v2 16 (.int z2))) := ⟨_, rfl⟩
  have K3 : KP (fun _ => False) mdCq ld M2 M3 := by rw [m3]; exact KP.fld T2 L2 ga ly_tick a2 (by decide) (i32_lt _).1 (i32_lt _).2 (by decide) (Or.inl (by decide))
  have F3 : Frm sT [(1, 16)] M2 M3 := by rw [m3]; exact Frm.fld a2 List.mem_cons_self
  have T3 := K3.1
  have L3 := K3.2.2.1
  have P3 : P34 M3 := P2.frm F3 (by decide) (by decide) (by decide) (by decide)
  obtain ⟨q3, z3, s3, r3, _⟩ := T3.fnum gb ly_arr
  obtain ⟨v3, y3, a3, b3, c3, _⟩ := T3.fnum ga ly_arr
  obtain ⟨M4, m4⟩ : ∃ N, N = gPut M3 a (.inr (1, gPut v3 17 (.int z3))) := ⟨_, rfl⟩
  have K4 : KP (fun _ => False) mdCq ld M3 M4 := by rw [m4]; exact KP.fld T3 L3 ga ly_arr a3 (by decide) (i32_lt _).1 (i32_lt _).2 (by decide) (Or.inl (by decide))
  have F4 : Frm sT [(1, 17)] M3 M4 := by rw [m4]; exact Frm.fld a3 List.mem_cons_self
  have T4 := K4.1
  have L4 := K4.2.2.1
  have P4 : P34 M4 := P3.frm F4 (by decide) (by decide) (by decide) (by decide)
  obtain ⟨q4, z4, s4, r4, _⟩ := T4.fnum gb ly_lost
  obtain ⟨v4, y4, a4, b4, c4, _⟩ := T4.fnum ga ly_lost
  obtain ⟨M5, m5⟩ : ∃ N, N = gPut M4 a (.inr (1, gPut v4 18 (.int z4))) := ⟨_, rfl⟩
  have K5 : KP (fun _ => False) mdCq ld M4 M5 := by rw [m5]; exact KP.fld T4 L4 ga ly_lost a4 (by decide) (i32_lt _).1 (i32_lt _).2 (by decide) (Or.inl (by decide))
  have F5 : Frm sT [(1, 18)] M4 M5 := by rw [m5]; exact Frm.fld a4 List.mem_cons_self
  have T5 := K5.1
  have L5 := K5.2.2.1
  have P5 : P34 M5 := P4.frm F5 (by decide) (by decide) (by decide) (by decide)
  obtain ⟨q5, z5, s5, r5, _⟩ := T5.fnum gb ly_turn
  obtain ⟨v5, y5, a5, b5, c5, _⟩ := T5.fnum ga ly_turn
  obtain ⟨M6, m6⟩ : ∃ N, N = gPut M5 a (.inr (1, gPut v5 19 (.int z5))) := ⟨_, rfl⟩
  have K6 : KP (fun _ => False) mdCq ld M5 M6 := by rw [m6]; exact KP.fld T5 L5 ga ly_turn a5 (by decide) (i32_lt _).1 (i32_lt _).2 (by decide) (Or.inl (by decide))
  have F6 : Frm sT [(1, 19)] M5 M6 := by rw [m6]; exact Frm.fld a5 List.mem_cons_self
  have T6 := K6.1
  have L6 := K6.2.2.1
  have P6 : P34 M6 := P5.frm F6 (by decide) (by decide) (by decide) (by decide)
  refine ⟨M6, cp_206 d1 d3 e1 g3 ?_, T6, (F1.more (mdSub_mem rfl)).trans ((t2.more (mdSub_mem rfl)).trans (K3.2.1.trans (K4.2.1.trans (K5.2.1.trans K6.2.1)))), P6⟩
  rw [← m1]
  refine t4 _ _ (cp_245 s2 r2 a2 c2 ?_)
  rw [← m3]
  refine cp_253 s3 r3 a3 c3 ?_
  rw [← m4]
  refine cp_261 s4 r4 a4 c4 ?_
  rw [← m5]
  rw [m6]
  exact cp_269 s5 r5 a5 c5
end CPY
