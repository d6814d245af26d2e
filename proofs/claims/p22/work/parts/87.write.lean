/-! BY HAND: reading texts, the reference: write -/
theorem wr_0 {e : Nat} {M : Mem} {M' : Mem} {v : Option Value} {vs : List Value} {a b f19 n y1 : Int32} {l645 : List Int32} (hM : gNth M 633 = some (.inr (11, vs))) (v15 : gNth vs 15 = some (.ref 645)) (v19 : gNth vs 19 = some (.int f19)) (r645 : gNth M 645 = some (.inl (1, .inl l645))) (g1 : gAt l645 (1400 + f19) = some y1) (hz : Ev none e 174 14 [some (.ref 633), some (.int a), some (.int b), some (.int n)] [] (gPut M 645 (.inl (1, .inl (gPut l645 (1400 + f19).toNatClampNeg a)))) v M' 0 0) : Ev none e 174 0 [some (.ref 633), some (.int a), some (.int b), some (.int n)] [] M v M' 0 0 := by
  refine Ev.step (pc' := 1) (ls' := [some (.ref 633), some (.int a), some (.int b), some (.int n)]) (st' := [.ref 633]) (M1 := M) 1 (fun n => rfl) ?_
  refine Ev.step 1 (gs_3 rfl rfl (gf_g rfl hM v15)) ?_
  refine Ev.step (pc' := 8) (ls' := [some (.ref 633), some (.int a), some (.int b), some (.int n)]) (st' := [.ref 633, .int 1400, .ref 645]) (M1 := M) 2 (fun n => rfl) ?_
  refine Ev.step 1 (gs_3 rfl rfl (gf_g rfl hM v19)) ?_
  refine Ev.step (pc' := 13) (ls' := [some (.ref 633), some (.int a), some (.int b), some (.int n)]) (st' := [.int a, .int (1400 + f19), .ref 645]) (M1 := M) 2 (fun n => rfl) ?_
  refine Ev.step 1 (gs_4 rfl rfl (is_g r645 g1)) ?_
  exact hz
theorem wr_14 {e : Nat} {M : Mem} {M' : Mem} {v : Option Value} {vs : List Value} {a b f19 n y1 : Int32} {l646 : List Int32} (hM : gNth M 633 = some (.inr (11, vs))) (v16 : gNth vs 16 = some (.ref 646)) (v19 : gNth vs 19 = some (.int f19)) (r646 : gNth M 646 = some (.inl (1, .inl l646))) (g1 : gAt l646 (1400 + f19) = some y1) (hz : Ev none e 174 28 [some (.ref 633), some (.int a), some (.int b), some (.int n)] [] (gPut M 646 (.inl (1, .inl (gPut l646 (1400 + f19).toNatClampNeg b)))) v M' 0 0) : Ev none e 174 14 [some (.ref 633), some (.int a), some (.int b), some (.int n)] [] M v M' 0 0 := by
  refine Ev.step (pc' := 15) (ls' := [some (.ref 633), some (.int a), some (.int b), some (.int n)]) (st' := [.ref 633]) (M1 := M) 1 (fun n => rfl) ?_
  refine Ev.step 1 (gs_3 rfl rfl (gf_g rfl hM v16)) ?_
  refine Ev.step (pc' := 22) (ls' := [some (.ref 633), some (.int a), some (.int b), some (.int n)]) (st' := [.ref 633, .int 1400, .ref 646]) (M1 := M) 2 (fun n => rfl) ?_
  refine Ev.step 1 (gs_3 rfl rfl (gf_g rfl hM v19)) ?_
  refine Ev.step (pc' := 27) (ls' := [some (.ref 633), some (.int a), some (.int b), some (.int n)]) (st' := [.int b, .int (1400 + f19), .ref 646]) (M1 := M) 2 (fun n => rfl) ?_
  refine Ev.step 1 (gs_4 rfl rfl (is_g r646 g1)) ?_
  exact hz
theorem wr_28 {e : Nat} {M : Mem} {M' : Mem} {v : Option Value} {vs : List Value} {a b f19 n y1 : Int32} {l647 : List Int32} (hM : gNth M 633 = some (.inr (11, vs))) (v17 : gNth vs 17 = some (.ref 647)) (v19 : gNth vs 19 = some (.int f19)) (r647 : gNth M 647 = some (.inl (1, .inl l647))) (g1 : gAt l647 (1400 + f19) = some y1) (hz : Ev none e 174 42 [some (.ref 633), some (.int a), some (.int b), some (.int n)] [] (gPut M 647 (.inl (1, .inl (gPut l647 (1400 + f19).toNatClampNeg n)))) v M' 0 0) : Ev none e 174 28 [some (.ref 633), some (.int a), some (.int b), some (.int n)] [] M v M' 0 0 := by
  refine Ev.step (pc' := 29) (ls' := [some (.ref 633), some (.int a), some (.int b), some (.int n)]) (st' := [.ref 633]) (M1 := M) 1 (fun n => rfl) ?_
  refine Ev.step 1 (gs_3 rfl rfl (gf_g rfl hM v17)) ?_
  refine Ev.step (pc' := 36) (ls' := [some (.ref 633), some (.int a), some (.int b), some (.int n)]) (st' := [.ref 633, .int 1400, .ref 647]) (M1 := M) 2 (fun n => rfl) ?_
  refine Ev.step 1 (gs_3 rfl rfl (gf_g rfl hM v19)) ?_
  refine Ev.step (pc' := 41) (ls' := [some (.ref 633), some (.int a), some (.int b), some (.int n)]) (st' := [.int n, .int (1400 + f19), .ref 647]) (M1 := M) 2 (fun n => rfl) ?_
  refine Ev.step 1 (gs_4 rfl rfl (is_g r647 g1)) ?_
  exact hz
theorem wr_42 {e : Nat} {M : Mem} {vs : List Value} {a b f19 n : Int32} (hM : gNth M 633 = some (.inr (11, vs))) (v19 : gNth vs 19 = some (.int f19)) (hlen : vs.length = 63) : Ev none e 174 42 [some (.ref 633), some (.int a), some (.int b), some (.int n)] [] M none (gPut M 633 (.inr (11, gPut vs 19 (.int (f19 + 1))))) 0 0 := by
  refine Ev.step (pc' := 44) (ls' := [some (.ref 633), some (.int a), some (.int b), some (.int n)]) (st' := [.ref 633, .ref 633]) (M1 := M) 2 (fun n => rfl) ?_
  refine Ev.step 1 (gs_3 rfl rfl (gf_g rfl hM v19)) ?_
  refine Ev.step (pc' := 49) (ls' := [some (.ref 633), some (.int a), some (.int b), some (.int n)]) (st' := [.int (f19 + 1), .ref 633]) (M1 := M) 2 (fun n => rfl) ?_
  refine Ev.step 1 (gs_4 rfl rfl (pf_i rfl hM (by rw [hlen]; decide) rfl rfl)) ?_
  exact Ev.ret (fun n => rfl)
theorem dn_0 {e : Nat} {M : Mem} {M' : Mem} {v : Option Value} {vs : List Value} {f20 q : Int32} (hM : gNth M 633 = some (.inr (11, vs))) (v20 : gNth vs 20 = some (.int f20)) (hz : Ev none (e + 1) 175 (if f20 ≤ 0 then 69 else 7) [some (.ref 633), some (.int q)] [] M v M' 0 0) : Ev none (e + 1) 175 0 [some (.ref 633), some (.int q)] [] M v M' 0 0 := by
  refine Ev.step (pc' := 1) (ls' := [some (.ref 633), some (.int q)]) (st' := [.ref 633]) (M1 := M) 1 (fun n => rfl) ?_
  refine Ev.step 1 (gs_3 rfl rfl (gf_g rfl hM v20)) ?_
  refine Ev.step (pc' := (if f20 ≤ 0 then 69 else 7)) (ls' := [some (.ref 633), some (.int q)]) (st' := []) (M1 := M) 1 (fun n => rfl) ?_
  exact hz
theorem dn_7 {e : Nat} {M : Mem} {M' : Mem} {v : Option Value} {vs : List Value} {f20 q y1 : Int32} {l648 : List Int32} (hM : gNth M 633 = some (.inr (11, vs))) (v18 : gNth vs 18 = some (.ref 648)) (v20 : gNth vs 20 = some (.int f20)) (r648 : gNth M 648 = some (.inl (1, .inl l648))) (g1 : gAt l648 (f20 - 1) = some y1) (hz : Ev none (e + 1) 175 (if y1 = 23 then 69 else 23) [some (.ref 633), some (.int q)] [] M v M' 0 0) : Ev none (e + 1) 175 7 [some (.ref 633), some (.int q)] [] M v M' 0 0 := by
  refine Ev.step (pc' := 8) (ls' := [some (.ref 633), some (.int q)]) (st' := [.ref 633]) (M1 := M) 1 (fun n => rfl) ?_
  refine Ev.step 1 (gs_3 rfl rfl (gf_g rfl hM v18)) ?_
  refine Ev.step (pc' := 12) (ls' := [some (.ref 633), some (.int q)]) (st' := [.ref 633, .ref 648]) (M1 := M) 1 (fun n => rfl) ?_
  refine Ev.step 1 (gs_3 rfl rfl (gf_g rfl hM v20)) ?_
  refine Ev.step (pc' := 17) (ls' := [some (.ref 633), some (.int q)]) (st' := [.int (f20 - 1), .ref 648]) (M1 := M) 2 (fun n => rfl) ?_
  refine Ev.step 1 (gs_3 rfl rfl (ia_g r648 g1)) ?_
  refine Ev.step (pc' := (if y1 = 23 then 69 else 23)) (ls' := [some (.ref 633), some (.int q)]) (st' := []) (M1 := M) 2 (fun n => rfl) ?_
  exact hz
theorem dn_23 {e : Nat} {M : Mem} {M' : Mem} {v : Option Value} {vs : List Value} {f20 q y1 : Int32} {l648 : List Int32} (hM : gNth M 633 = some (.inr (11, vs))) (v18 : gNth vs 18 = some (.ref 648)) (v20 : gNth vs 20 = some (.int f20)) (r648 : gNth M 648 = some (.inl (1, .inl l648))) (g1 : gAt l648 (f20 - 1) = some y1) (hz : Ev none (e + 1) 175 34 [some (.ref 633), some (.int q)] [.int y1] M v M' 0 0) : Ev none (e + 1) 175 23 [some (.ref 633), some (.int q)] [] M v M' 0 0 := by
  refine Ev.step (pc' := 24) (ls' := [some (.ref 633), some (.int q)]) (st' := [.ref 633]) (M1 := M) 1 (fun n => rfl) ?_
  refine Ev.step 1 (gs_3 rfl rfl (gf_g rfl hM v18)) ?_
  refine Ev.step (pc' := 28) (ls' := [some (.ref 633), some (.int q)]) (st' := [.ref 633, .ref 648]) (M1 := M) 1 (fun n => rfl) ?_
  refine Ev.step 1 (gs_3 rfl rfl (gf_g rfl hM v20)) ?_
  refine Ev.step (pc' := 33) (ls' := [some (.ref 633), some (.int q)]) (st' := [.int (f20 - 1), .ref 648]) (M1 := M) 2 (fun n => rfl) ?_
  refine Ev.step 1 (gs_3 rfl rfl (ia_g r648 g1)) ?_
  exact hz
theorem dn_37 {e : Nat} {M : Mem} {M' : Mem} {v : Option Value} {q z : Int32}  (hz : Ev none (e + 1) 175 (if z < q then 69 else 41) [some (.ref 633), some (.int q)] [] M v M' 0 0) : Ev none (e + 1) 175 37 [some (.ref 633), some (.int q)] [.int z] M v M' 0 0 := by
  refine Ev.step (pc' := (if z < q then 69 else 41)) (ls' := [some (.ref 633), some (.int q)]) (st' := []) (M1 := M) 2 (fun n => rfl) ?_
  exact hz
theorem dn_41 {e : Nat} {M : Mem} {M' : Mem} {v : Option Value} {vs : List Value} {f20 q : Int32} (hM : gNth M 633 = some (.inr (11, vs))) (v20 : gNth vs 20 = some (.int f20)) (hlen : vs.length = 63) (hz : Ev none (e + 1) 175 51 [some (.ref 633), some (.int q)] [] (gPut M 633 (.inr (11, gPut vs 20 (.int (f20 - 1))))) v M' 0 0) : Ev none (e + 1) 175 41 [some (.ref 633), some (.int q)] [] M v M' 0 0 := by
  refine Ev.step (pc' := 43) (ls' := [some (.ref 633), some (.int q)]) (st' := [.ref 633, .ref 633]) (M1 := M) 2 (fun n => rfl) ?_
  refine Ev.step 1 (gs_3 rfl rfl (gf_g rfl hM v20)) ?_
  refine Ev.step (pc' := 48) (ls' := [some (.ref 633), some (.int q)]) (st' := [.int (f20 - 1), .ref 633]) (M1 := M) 2 (fun n => rfl) ?_
  refine Ev.step 1 (gs_4 rfl rfl (pf_i rfl hM (by rw [hlen]; decide) rfl rfl)) ?_
  exact hz
theorem dn_51 {e : Nat} {M : Mem} {M' : Mem} {v : Option Value} {vs : List Value} {f20 q y1 : Int32} {l648 : List Int32} (hM : gNth M 633 = some (.inr (11, vs))) (v18 : gNth vs 18 = some (.ref 648)) (v20 : gNth vs 20 = some (.int f20)) (r648 : gNth M 648 = some (.inl (1, .inl l648))) (g1 : gAt l648 f20 = some y1) (hz : Ev none (e + 1) 175 63 [some (.ref 633), some (.int q)] [.int 0, .int 0, .int y1, .ref 633] M v M' 0 0) : Ev none (e + 1) 175 51 [some (.ref 633), some (.int q)] [] M v M' 0 0 := by
  refine Ev.step (pc' := 53) (ls' := [some (.ref 633), some (.int q)]) (st' := [.ref 633, .ref 633]) (M1 := M) 2 (fun n => rfl) ?_
  refine Ev.step 1 (gs_3 rfl rfl (gf_g rfl hM v18)) ?_
  refine Ev.step (pc' := 57) (ls' := [some (.ref 633), some (.int q)]) (st' := [.ref 633, .ref 648, .ref 633]) (M1 := M) 1 (fun n => rfl) ?_
  refine Ev.step 1 (gs_3 rfl rfl (gf_g rfl hM v20)) ?_
  refine Ev.step 1 (gs_3 rfl rfl (ia_g r648 g1)) ?_
  refine Ev.step (pc' := 63) (ls' := [some (.ref 633), some (.int q)]) (st' := [.int 0, .int 0, .int y1, .ref 633]) (M1 := M) 2 (fun n => rfl) ?_
  exact hz
theorem dn_66 {e : Nat} {M : Mem} {M' : Mem} {v : Option Value} {q : Int32}  (hz : Ev none (e + 1) 175 0 [some (.ref 633), some (.int q)] [] M v M' 0 0) : Ev none (e + 1) 175 66 [some (.ref 633), some (.int q)] [] M v M' 0 0 := by
  refine Ev.step (pc' := 0) (ls' := [some (.ref 633), some (.int q)]) (st' := []) (M1 := M) 1 (fun n => rfl) ?_
  exact hz
theorem dn_69 {e : Nat} {M : Mem} {q : Int32}  : Ev none (e + 1) 175 69 [some (.ref 633), some (.int q)] [] M none M 0 0 := by
  exact Ev.ret (fun n => rfl)
theorem bi_0 {e : Nat} {M : Mem} {M' : Mem} {v : Option Value} {w : Int32}  (hz : Ev none e 176 (if w = 20 then 6 else 10) [some (.int w)] [] M v M' 0 0) : Ev none e 176 0 [some (.int w)] [] M v M' 0 0 := by
  refine Ev.step (pc' := (if w = 20 then 6 else 10)) (ls' := [some (.int w)]) (st' := []) (M1 := M) 3 (fun n => rfl) ?_
  exact hz
theorem bi_6 {e : Nat} {M : Mem} {w : Int32}  : Ev none e 176 6 [some (.int w)] [] M (some (.int 3)) M 0 0 := by
  refine Ev.step (pc' := 21) (ls' := [some (.int w)]) (st' := [.int 3]) (M1 := M) 2 (fun n => rfl) ?_
  exact Ev.ret (fun n => rfl)
theorem bi_10 {e : Nat} {M : Mem} {M' : Mem} {v : Option Value} {w : Int32}  (hz : Ev none e 176 (if w = 21 then 16 else 20) [some (.int w)] [] M v M' 0 0) : Ev none e 176 10 [some (.int w)] [] M v M' 0 0 := by
  refine Ev.step (pc' := (if w = 21 then 16 else 20)) (ls' := [some (.int w)]) (st' := []) (M1 := M) 3 (fun n => rfl) ?_
  exact hz
theorem bi_16 {e : Nat} {M : Mem} {w : Int32}  : Ev none e 176 16 [some (.int w)] [] M (some (.int 2)) M 0 0 := by
  refine Ev.step (pc' := 21) (ls' := [some (.int w)]) (st' := [.int 2]) (M1 := M) 2 (fun n => rfl) ?_
  exact Ev.ret (fun n => rfl)
theorem bi_20 {e : Nat} {M : Mem} {w : Int32}  : Ev none e 176 20 [some (.int w)] [] M (some (.int 1)) M 0 0 := by
  refine Ev.step (pc' := 21) (ls' := [some (.int w)]) (st' := [.int 1]) (M1 := M) 1 (fun n => rfl) ?_
  exact Ev.ret (fun n => rfl)
theorem cal_wr {M : Mem} {vs : List Value} {a0 a1 a2 : Int32} {rest : List Value} (hM : gNth M 633 = some (.inr (11, vs))) (hr : gRoom rest = true) : gCal (.invokevirtual 294) 11 (.int a2 :: .int a1 :: .int a0 :: .ref 633 :: rest) M = some (.inr (174, [some (.ref 633), some (.int a0), some (.int a1), some (.int a2)], rest)) := by
  show @cond (Option ((List Value × Mem) ⊕ (Nat × Lo × List Value))) (true && gRecv M (.ref 633) 11 && gRoom rest && true) (some (.inr (174, [some (.ref 633), some (.int a0), some (.int a1), some (.int a2)], rest))) none = _
  rw [recv_ok hM, hr]
  rfl
set_option maxRecDepth 100000 in
theorem rwT : (rwB 73 1 1600 (-2147483648) 2147483647 && rwB 74 1 1600 (-2147483648) 2147483647 && rwB 75 1 1600 (-2147483648) 2147483647 && rwB 76 1 100 (-2147483648) 2147483647) = true := by decide +kernel
set_option maxRecDepth 100000 in
theorem mfT : (mfB 15 73 && mfB 16 74 && mfB 17 75 && mfB 18 76) = true := by decide +kernel
set_option maxRecDepth 100000 in
theorem sUT : gNth sU 73 = some (some 645) ∧ gNth sU 74 = some (some 646) ∧ gNth sU 75 = some (some 647) ∧ gNth sU 76 = some (some 648) := by refine ⟨?_, ?_, ?_, ?_⟩ <;> decide +kernel
set_option maxRecDepth 100000 in
theorem sT_648 : gNth sT 648 = some 76 := by decide +kernel
set_option maxRecDepth 100000 in
theorem fBT : (fldB 19 0 200 && fldB 20 0 100 && fldB 21 0 40) = true := by decide +kernel
/-- the counters and rows of a text that is read -/
def Cst (M : Mem) (S P O : Int32) (ls lp : List Int32) : Prop := ∃ vs, gNth M 633 = some (.inr (11, vs)) ∧ gNth vs 19 = some (.int S) ∧ gNth vs 20 = some (.int P) ∧ gNth vs 21 = some (.int O) ∧ gNth M 645 = some (.inl (1, .inl ls)) ∧ gNth M 648 = some (.inl (1, .inl lp))
theorem TM.cst {M : Mem} (hT : TM sT sG M) : ∃ S P O ls lp, Cst M S P O ls lp ∧ ls.length = 1600 ∧ lp.length = 100 ∧ 0 ≤ S.toInt ∧ S.toInt ≤ 200 ∧ 0 ≤ P.toInt ∧ P.toInt ≤ 100 ∧ 0 ≤ O.toInt ∧ O.toInt ≤ 40 := by
  obtain ⟨h, b3⟩ := and_t fBT
  obtain ⟨b1, b2⟩ := and_t h
  obtain ⟨h, r4⟩ := and_t rwT
  obtain ⟨h, r3⟩ := and_t h
  obtain ⟨r1, r2⟩ := and_t h
  obtain ⟨vs, S, hM, _, s1, s2, s3, _⟩ := hT.fint b1
  obtain ⟨vs2, P, hM2, _, p1, p2, p3, _⟩ := hT.fint b2
  cases hM.symm.trans hM2
  obtain ⟨vs3, O, hM3, _, o1, o2, o3, _⟩ := hT.fint b3
  cases hM.symm.trans hM3
  obtain ⟨ls, l1, l2, _⟩ := hT.mrow sT_645 r1
  obtain ⟨lp, q1, q2, _⟩ := hT.mrow sT_648 r4
  exact ⟨S, P, O, ls, lp, ⟨vs, hM, s1, p1, o1, l1, q1⟩, l2, q2, s2, s3, p2, p3, o2, o3⟩
theorem Cst.det {M : Mem} {S P O S2 P2 O2 : Int32} {ls lp ls2 lp2 : List Int32} (h : Cst M S P O ls lp) (h2 : Cst M S2 P2 O2 ls2 lp2) : S = S2 ∧ P = P2 ∧ O = O2 ∧ ls = ls2 ∧ lp = lp2 := by
  obtain ⟨vs, a1, a2, a3, a4, a5, a6⟩ := h
  obtain ⟨vs2, b1, b2, b3, b4, b5, b6⟩ := h2
  cases a1.symm.trans b1
  cases a2.symm.trans b2
  cases a3.symm.trans b3
  cases a4.symm.trans b4
  cases a5.symm.trans b5
  cases a6.symm.trans b6
  exact ⟨rfl, rfl, rfl, rfl, rfl⟩
/-- what a call that does not write them leaves -/
theorem Cst.frm {M M' : Mem} {md : Md} {S P O : Int32} {ls lp : List Int32} (h : Cst M S P O ls lp) (hF : Frm sT md M M') (hm : (!(mdIn md 11 19 || mdIn md 11 20 || mdIn md 11 21 || mdIn md 1073 0 || mdIn md 1076 0)) = true) : Cst M' S P O ls lp := by
  obtain ⟨vs, a1, a2, a3, a4, a5, a6⟩ := h
  obtain ⟨vs', e1, _, e2⟩ := hF.2.1 _ _ _ a1
  have hn : ∀ c k, mdIn md c k = true → (mdIn md 11 19 || mdIn md 11 20 || mdIn md 11 21 || mdIn md 1073 0 || mdIn md 1076 0) = false := fun c k _ => by
    cases hb : (mdIn md 11 19 || mdIn md 11 20 || mdIn md 11 21 || mdIn md 1073 0 || mdIn md 1076 0) with
    | false => rfl
    | true => rw [hb] at hm; cases hm
  have no : ∀ c k, (mdIn md c k = true → (mdIn md 11 19 || mdIn md 11 20 || mdIn md 11 21 || mdIn md 1073 0 || mdIn md 1076 0) = true) → (c, k) ∉ md := fun c k h hc => by
    have h1 := mdIn_iff.mpr hc
    have h2 := h h1
    rw [hn c k h1] at h2
    cases h2
  exact ⟨vs', e1, by rw [e2 19 (no 11 19 (fun h => by rw [h]; rfl))]; exact a2, by rw [e2 20 (no 11 20 (fun h => by rw [h]; simp))]; exact a3, by rw [e2 21 (no 11 21 (fun h => by rw [h]; simp))]; exact a4, row_frm hF sT_645 (no 1073 0 (fun h => by rw [h]; simp)) a5, row_frm hF sT_648 (no 1076 0 (fun h => by rw [h]; simp)) a6⟩
/-- a field of the Model that is an int is written -/
theorem put_fld {M : Mem} {vs : List Value} (hM : gNth M 633 = some (.inr (11, vs))) (hl : vs.length = 63) (k : Nat) (hk : k < 63) (y : Int32) : gNth (gPut M 633 (.inr (11, gPut vs k (.int y)))) 633 = some (.inr (11, gPut vs k (.int y))) ∧ gNth (gPut vs k (.int y)) k = some (.int y) ∧ ∀ j, j ≠ k → gNth (gPut vs k (.int y)) j = gNth vs j := by
  refine ⟨by rw [nth_put, if_pos ⟨rfl, gNth_lt _ _ _ hM⟩], by rw [nth_put, if_pos ⟨rfl, by omega⟩], fun j hj => by rw [nth_put, if_neg (fun q => hj q.1)]⟩
/-- rows of the reference other than its object -/
theorem ne_633 {M : Mem} {x : AE} {a : Nat} (h : a ≠ 633) : gNth (gPut M 633 x) a = gNth M a := by
  rw [nth_put, if_neg (fun q => h q.1)]
theorem fset {M : Mem} (hT : TM sT sG M) {k : Nat} {lo hi : Int} (hB : fldB k lo hi = true) {vs : List Value} (hM : gNth M 633 = some (.inr (11, vs))) {y : Int32} (h1 : lo ≤ y.toInt) (h2 : y.toInt ≤ hi) : TM sT sG (gPut M 633 (.inr (11, gPut vs k (.int y)))) ∧ vs.length = 63 := by
  obtain ⟨vs2, z, q1, q2, _, _, _, q3⟩ := hT.fint hB
  cases hM.symm.trans q1
  exact ⟨q3 y h1 h2, q2⟩
theorem Cst.S {M : Mem} (hT : TM sT sG M) {S P O : Int32} {ls lp : List Int32} {vs : List Value} (h : Cst M S P O ls lp) (hM : gNth M 633 = some (.inr (11, vs))) {y : Int32} (h1 : 0 ≤ y.toInt) (h2 : y.toInt ≤ 200) : TM sT sG (gPut M 633 (.inr (11, gPut vs 19 (.int y)))) ∧ Cst (gPut M 633 (.inr (11, gPut vs 19 (.int y)))) y P O ls lp := by
  obtain ⟨vs2, a1, a2, a3, a4, a5, a6⟩ := h
  cases hM.symm.trans a1
  obtain ⟨q1, q2⟩ := fset hT (and_t (and_t fBT).1).1 hM h1 h2
  obtain ⟨u1, u2, u3⟩ := put_fld hM q2 19 (by decide) y
  exact ⟨q1, _, u1, u2, by rw [u3 20 (by decide)]; exact a3, by rw [u3 21 (by decide)]; exact a4, by rw [ne_633 (by decide)]; exact a5, by rw [ne_633 (by decide)]; exact a6⟩
theorem Cst.P {M : Mem} (hT : TM sT sG M) {S P O : Int32} {ls lp : List Int32} {vs : List Value} (h : Cst M S P O ls lp) (hM : gNth M 633 = some (.inr (11, vs))) {y : Int32} (h1 : 0 ≤ y.toInt) (h2 : y.toInt ≤ 100) : TM sT sG (gPut M 633 (.inr (11, gPut vs 20 (.int y)))) ∧ Cst (gPut M 633 (.inr (11, gPut vs 20 (.int y)))) S y O ls lp := by
  obtain ⟨vs2, a1, a2, a3, a4, a5, a6⟩ := h
  cases hM.symm.trans a1
  obtain ⟨q1, q2⟩ := fset hT (and_t (and_t fBT).1).2 hM h1 h2
  obtain ⟨u1, u2, u3⟩ := put_fld hM q2 20 (by decide) y
  exact ⟨q1, _, u1, by rw [u3 19 (by decide)]; exact a2, u2, by rw [u3 21 (by decide)]; exact a4, by rw [ne_633 (by decide)]; exact a5, by rw [ne_633 (by decide)]; exact a6⟩
theorem Cst.O {M : Mem} (hT : TM sT sG M) {S P O : Int32} {ls lp : List Int32} {vs : List Value} (h : Cst M S P O ls lp) (hM : gNth M 633 = some (.inr (11, vs))) {y : Int32} (h1 : 0 ≤ y.toInt) (h2 : y.toInt ≤ 40) : TM sT sG (gPut M 633 (.inr (11, gPut vs 21 (.int y)))) ∧ Cst (gPut M 633 (.inr (11, gPut vs 21 (.int y)))) S P y ls lp := by
  obtain ⟨vs2, a1, a2, a3, a4, a5, a6⟩ := h
  cases hM.symm.trans a1
  obtain ⟨q1, q2⟩ := fset hT (and_t fBT).2 hM h1 h2
  obtain ⟨u1, u2, u3⟩ := put_fld hM q2 21 (by decide) y
  exact ⟨q1, _, u1, by rw [u3 19 (by decide)]; exact a2, by rw [u3 20 (by decide)]; exact a3, u2, by rw [ne_633 (by decide)]; exact a5, by rw [ne_633 (by decide)]; exact a6⟩
set_option maxRecDepth 100000 in
/-- a row of any numbers is written -/
theorem any_put {M : Mem} (hT : TM sT sG M) {a g n : Nat} {l : List Int32} (ha : gNth sT a = some g) (hl : gNth M a = some (.inl (1, .inl l))) (hn : l.length = n) (h : (match gNth sG g with
    | some (.inr (q, m, .inl [(0, m2, 1, [(x, y)])])) => Nat.beq q 1 && (Nat.beq m n && (!Nat.beq q 2 && (Nat.beq m2 n && (decide (x ≤ -2147483648) && decide (2147483647 ≤ y)))))
    | _ => false) = true) (i : Nat) (y : Int32) : TM sT sG (gPut M a (.inl (1, .inl (gPut l i y)))) := hT.putrow (n := n) (lo := -2147483648) (hi := 2147483647) ha h (by rw [put_len]; exact hn) (fun _ x _ => i32_any x)
theorem i32_1400 {S : Int32} (h0 : 0 ≤ S.toInt) (h1 : S.toInt ≤ 200) : (1400 + S).toInt = ((1400 + S.toInt.toNat : Nat) : Int) := by
  have o : (1400 : Int32).toInt = 1400 := rfl
  rw [i32_add (by rw [o]; omega) (by rw [o]; omega), o]
  omega
/-- write(a, b, n) -/
theorem ev_write {M : Mem} {e : Nat} {a b n S P O : Int32} {ls lp : List Int32} (hT : TM sT sG M) (h : Cst M S P O ls lp) (hS : S.toInt ≤ 199) : ∃ M', Ev none e 174 0 [some (.ref 633), some (.int a), some (.int b), some (.int n)] [] M none M' 0 0 ∧ TM sT sG M' ∧ Frm sT [(11, 19), (1073, 0), (1074, 0), (1075, 0)] M M' ∧ Cst M' (S + 1) P O (gPut ls (1400 + S.toInt.toNat) a) lp := by
  obtain ⟨S', P', O', ls', lp', c1, ll, pl, s0, s1, _⟩ := hT.cst
  obtain ⟨rfl, rfl, rfl, rfl, rfl⟩ := h.det c1
  obtain ⟨vs, hM, v19, v20, v21, r645, r648⟩ := h
  obtain ⟨vs9, hM9, hv⟩ := hT.mfld
  cases hM.symm.trans hM9
  obtain ⟨q, m4⟩ := and_t mfT
  obtain ⟨q, m3⟩ := and_t q
  obtain ⟨m1, m2⟩ := and_t q
  obtain ⟨u1, u2, u3, u4⟩ := sUT
  have h15 := hv _ _ _ m1 u1
  have h16 := hv _ _ _ m2 u2
  have h17 := hv _ _ _ m3 u3
  obtain ⟨q, r4⟩ := and_t rwT
  obtain ⟨q, r3⟩ := and_t q
  obtain ⟨r1, r2⟩ := and_t q
  obtain ⟨l6, b1, b2, _⟩ := hT.mrow sT_646 r2
  obtain ⟨l7, d1, d2, _⟩ := hT.mrow sT_647 r3
  have ei := i32_1400 s0 s1
  obtain ⟨y, y1, y2⟩ := at_c (l := ls) ei (by omega)
  obtain ⟨z, z1, z2⟩ := at_c (l := l6) ei (by omega)
  obtain ⟨x, x1, x2⟩ := at_c (l := l7) ei (by omega)
  have eS : (S + 1).toInt = S.toInt + 1 := i32_p1 (by omega)
  obtain ⟨k, ek⟩ : ∃ k, k = 1400 + S.toInt.toNat := ⟨_, rfl⟩
  obtain ⟨M1, e1⟩ : ∃ M1, M1 = gPut M 645 (.inl (1, .inl (gPut ls k a))) := ⟨_, rfl⟩
  have T1 : TM sT sG M1 := by rw [e1]; exact any_put hT sT_645 r645 ll (by decide +kernel) _ _
  have F1 : Frm sT [(11, 19), (1073, 0), (1074, 0), (1075, 0)] M M1 := by rw [e1]; exact Frm.row r645 sT_645 (by decide)
  have n1 : ∀ c, c ≠ 645 → gNth M1 c = gNth M c := fun c hc => by rw [e1, nth_put, if_neg (fun q => hc q.1)]
  obtain ⟨M2, e2⟩ : ∃ M2, M2 = gPut M1 646 (.inl (1, .inl (gPut l6 k b))) := ⟨_, rfl⟩
  have b1' : gNth M1 646 = some (.inl (1, .inl l6)) := by rw [n1 646 (by decide)]; exact b1
  have T2 : TM sT sG M2 := by rw [e2]; exact any_put T1 sT_646 b1' b2 (by decide +kernel) _ _
  have F2 : Frm sT [(11, 19), (1073, 0), (1074, 0), (1075, 0)] M1 M2 := by rw [e2]; exact Frm.row b1' sT_646 (by decide)
  have n2 : ∀ c, c ≠ 646 → gNth M2 c = gNth M1 c := fun c hc => by rw [e2, nth_put, if_neg (fun q => hc q.1)]
  obtain ⟨M3, e3⟩ : ∃ M3, M3 = gPut M2 647 (.inl (1, .inl (gPut l7 k n))) := ⟨_, rfl⟩
  have d1' : gNth M2 647 = some (.inl (1, .inl l7)) := by rw [n2 647 (by decide), n1 647 (by decide)]; exact d1
  have T3 : TM sT sG M3 := by rw [e3]; exact any_put T2 sT_647 d1' d2 (by decide +kernel) _ _
  have F3 : Frm sT [(11, 19), (1073, 0), (1074, 0), (1075, 0)] M2 M3 := by rw [e3]; exact Frm.row d1' sT_647 (by decide)
  have n3 : ∀ c, c ≠ 647 → gNth M3 c = gNth M2 c := fun c hc => by rw [e3, nth_put, if_neg (fun q => hc q.1)]
  have hM1 : gNth M1 633 = some (.inr (11, vs)) := by rw [n1 633 (by decide)]; exact hM
  have hM2 : gNth M2 633 = some (.inr (11, vs)) := by rw [n2 633 (by decide)]; exact hM1
  have hM3 : gNth M3 633 = some (.inr (11, vs)) := by rw [n3 633 (by decide)]; exact hM2
  have c3 : Cst M3 S P O (gPut ls k a) lp := ⟨vs, hM3, v19, v20, v21, by rw [n3 645 (by decide), n2 645 (by decide), e1, nth_put, if_pos ⟨rfl, gNth_lt _ _ _ r645⟩], by rw [n3 648 (by decide), n2 648 (by decide), n1 648 (by decide)]; exact r648⟩
  obtain ⟨T4, c4⟩ := c3.S T3 hM3 (y := S + 1) (by omega) (by omega)
  obtain ⟨_, hlen⟩ := fset T3 (and_t (and_t fBT).1).1 hM3 (y := S + 1) (by omega) (by omega)
  refine ⟨_, wr_0 hM h15 v19 r645 y1 ?_, T4, ((F1.trans F2).trans F3).trans (Frm.fld hM3 (by decide)), by rw [← ek]; exact c4⟩
  rw [cl_n ei, ← ek, ← e1]
  refine wr_14 hM1 h16 v19 b1' z1 ?_
  rw [cl_n ei, ← ek, ← e2]
  refine wr_28 hM2 h17 v19 d1' x1 ?_
  rw [cl_n ei, ← ek, ← e3]
  exact wr_42 hM3 v19 hlen
