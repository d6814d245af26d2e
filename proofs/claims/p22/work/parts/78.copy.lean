/-! BY HAND: s is laid aside, laid back, kept -/
theorem la_0 {e : Nat} {M : Mem} {M' : Mem} {v : Option Value} {x1 : Option Value}  (hz : Ev none e 153 2 [some (.ref 633), some (.int 0)] [] M v M' 0 0) : Ev none e 153 0 [some (.ref 633), x1] [] M v M' 0 0 := by
  refine Ev.step (pc' := 2) (ls' := [some (.ref 633), some (.int 0)]) (st' := []) (M1 := M) 2 (fun n => rfl) ?_
  exact hz
theorem la_2 {e : Nat} {M : Mem} {M' : Mem} {v : Option Value} {i : Int32}  (hz : Ev none e 153 (if 2314 ≤ i then 27 else 9) [some (.ref 633), some (.int i)] [] M v M' 0 0) : Ev none e 153 2 [some (.ref 633), some (.int i)] [] M v M' 0 0 := by
  refine Ev.step (pc' := (if 2314 ≤ i then 27 else 9)) (ls' := [some (.ref 633), some (.int i)]) (st' := []) (M1 := M) 3 (fun n => rfl) ?_
  exact hz
theorem la_9 {e : Nat} {M : Mem} {M' : Mem} {v : Option Value} {vs : List Value} {i y1 y2 : Int32} {l635 l637 : List Int32} (hM : gNth M 633 = some (.inr (11, vs))) (v7 : gNth vs 7 = some (.ref 637)) (v5 : gNth vs 5 = some (.ref 635)) (r635 : gNth M 635 = some (.inl (1, .inl l635))) (g1 : gAt l635 i = some y1) (r637 : gNth M 637 = some (.inl (1, .inl l637))) (g2 : gAt l637 i = some y2) (hz : Ev none e 153 2 [some (.ref 633), some (.int (i + 1))] [] (gPut M 637 (.inl (1, .inl (gPut l637 i.toNatClampNeg y1)))) v M' 0 0) : Ev none e 153 9 [some (.ref 633), some (.int i)] [] M v M' 0 0 := by
  refine Ev.step (pc' := 10) (ls' := [some (.ref 633), some (.int i)]) (st' := [.ref 633]) (M1 := M) 1 (fun n => rfl) ?_
  refine Ev.step 1 (gs_3 rfl rfl (gf_g rfl hM v7)) ?_
  refine Ev.step (pc' := 15) (ls' := [some (.ref 633), some (.int i)]) (st' := [.ref 633, .int i, .ref 637]) (M1 := M) 2 (fun n => rfl) ?_
  refine Ev.step 1 (gs_3 rfl rfl (gf_g rfl hM v5)) ?_
  refine Ev.step (pc' := 19) (ls' := [some (.ref 633), some (.int i)]) (st' := [.int i, .ref 635, .int i, .ref 637]) (M1 := M) 1 (fun n => rfl) ?_
  refine Ev.step 1 (gs_3 rfl rfl (ia_g r635 g1)) ?_
  refine Ev.step 1 (gs_4 rfl rfl (is_g r637 g2)) ?_
  refine Ev.step (pc' := 2) (ls' := [some (.ref 633), some (.int (i + 1))]) (st' := []) (M1 := (gPut M 637 (.inl (1, .inl (gPut l637 i.toNatClampNeg y1))))) 2 (fun n => rfl) ?_
  exact hz
theorem la_27 {e : Nat} {M : Mem} {i : Int32}  : Ev none e 153 27 [some (.ref 633), some (.int i)] [] M none M 0 0 := by
  exact Ev.ret (fun n => rfl)
theorem lb_0 {e : Nat} {M : Mem} {M' : Mem} {v : Option Value} {x1 : Option Value}  (hz : Ev none e 154 2 [some (.ref 633), some (.int 0)] [] M v M' 0 0) : Ev none e 154 0 [some (.ref 633), x1] [] M v M' 0 0 := by
  refine Ev.step (pc' := 2) (ls' := [some (.ref 633), some (.int 0)]) (st' := []) (M1 := M) 2 (fun n => rfl) ?_
  exact hz
theorem lb_2 {e : Nat} {M : Mem} {M' : Mem} {v : Option Value} {i : Int32}  (hz : Ev none e 154 (if 2314 ≤ i then 27 else 9) [some (.ref 633), some (.int i)] [] M v M' 0 0) : Ev none e 154 2 [some (.ref 633), some (.int i)] [] M v M' 0 0 := by
  refine Ev.step (pc' := (if 2314 ≤ i then 27 else 9)) (ls' := [some (.ref 633), some (.int i)]) (st' := []) (M1 := M) 3 (fun n => rfl) ?_
  exact hz
theorem lb_9 {e : Nat} {M : Mem} {M' : Mem} {v : Option Value} {vs : List Value} {i y1 y2 : Int32} {l635 l637 : List Int32} (hM : gNth M 633 = some (.inr (11, vs))) (v5 : gNth vs 5 = some (.ref 635)) (v7 : gNth vs 7 = some (.ref 637)) (r637 : gNth M 637 = some (.inl (1, .inl l637))) (g1 : gAt l637 i = some y1) (r635 : gNth M 635 = some (.inl (1, .inl l635))) (g2 : gAt l635 i = some y2) (hz : Ev none e 154 2 [some (.ref 633), some (.int (i + 1))] [] (gPut M 635 (.inl (1, .inl (gPut l635 i.toNatClampNeg y1)))) v M' 0 0) : Ev none e 154 9 [some (.ref 633), some (.int i)] [] M v M' 0 0 := by
  refine Ev.step (pc' := 10) (ls' := [some (.ref 633), some (.int i)]) (st' := [.ref 633]) (M1 := M) 1 (fun n => rfl) ?_
  refine Ev.step 1 (gs_3 rfl rfl (gf_g rfl hM v5)) ?_
  refine Ev.step (pc' := 15) (ls' := [some (.ref 633), some (.int i)]) (st' := [.ref 633, .int i, .ref 635]) (M1 := M) 2 (fun n => rfl) ?_
  refine Ev.step 1 (gs_3 rfl rfl (gf_g rfl hM v7)) ?_
  refine Ev.step (pc' := 19) (ls' := [some (.ref 633), some (.int i)]) (st' := [.int i, .ref 637, .int i, .ref 635]) (M1 := M) 1 (fun n => rfl) ?_
  refine Ev.step 1 (gs_3 rfl rfl (ia_g r637 g1)) ?_
  refine Ev.step 1 (gs_4 rfl rfl (is_g r635 g2)) ?_
  refine Ev.step (pc' := 2) (ls' := [some (.ref 633), some (.int (i + 1))]) (st' := []) (M1 := (gPut M 635 (.inl (1, .inl (gPut l635 i.toNatClampNeg y1))))) 2 (fun n => rfl) ?_
  exact hz
theorem lb_27 {e : Nat} {M : Mem} {i : Int32}  : Ev none e 154 27 [some (.ref 633), some (.int i)] [] M none M 0 0 := by
  exact Ev.ret (fun n => rfl)
theorem im_5 {e : Nat} {M : Mem} {M' : Mem} {v : Option Value} {k : Int32} {x1 : Option Value}  (hz : Ev none (e + 1) 246 8 [some (.ref 633), some (.int k), x1] [.int 2, .int 0, .int k] M v M' 0 0) : Ev none (e + 1) 246 5 [some (.ref 633), some (.int k), x1] [] M v M' 0 0 := by
  refine Ev.step (pc' := 8) (ls' := [some (.ref 633), some (.int k), x1]) (st' := [.int 2, .int 0, .int k]) (M1 := M) 3 (fun n => rfl) ?_
  exact hz
theorem im_11 {e : Nat} {M : Mem} {M' : Mem} {v : Option Value} {k z : Int32} {x1 : Option Value}  (hz : Ev none (e + 1) 246 (if z = 0 then 14 else 16) [some (.ref 633), some (.int k), x1] [] M v M' 0 0) : Ev none (e + 1) 246 11 [some (.ref 633), some (.int k), x1] [.int z] M v M' 0 0 := by
  refine Ev.step (pc' := (if z = 0 then 14 else 16)) (ls' := [some (.ref 633), some (.int k), x1]) (st' := []) (M1 := M) 1 (fun n => rfl) ?_
  exact hz
theorem im_14 {e : Nat} {M : Mem} {k : Int32} {x1 : Option Value}  : Ev none (e + 1) 246 14 [some (.ref 633), some (.int k), x1] [] M (some (.int 0)) M 0 0 := by
  refine Ev.step (pc' := 15) (ls' := [some (.ref 633), some (.int k), x1]) (st' := [.int 0]) (M1 := M) 1 (fun n => rfl) ?_
  exact Ev.ret (fun n => rfl)
theorem im_16 {e : Nat} {M : Mem} {M' : Mem} {v : Option Value} {k : Int32} {x1 : Option Value}  (hz : Ev none (e + 1) 246 18 [some (.ref 633), some (.int k), some (.int 0)] [] M v M' 0 0) : Ev none (e + 1) 246 16 [some (.ref 633), some (.int k), x1] [] M v M' 0 0 := by
  refine Ev.step (pc' := 18) (ls' := [some (.ref 633), some (.int k), some (.int 0)]) (st' := []) (M1 := M) 2 (fun n => rfl) ?_
  exact hz
theorem im_18 {e : Nat} {M : Mem} {M' : Mem} {v : Option Value} {i k : Int32}  (hz : Ev none (e + 1) 246 (if 2314 ≤ i then 49 else 25) [some (.ref 633), some (.int k), some (.int i)] [] M v M' 0 0) : Ev none (e + 1) 246 18 [some (.ref 633), some (.int k), some (.int i)] [] M v M' 0 0 := by
  refine Ev.step (pc' := (if 2314 ≤ i then 49 else 25)) (ls' := [some (.ref 633), some (.int k), some (.int i)]) (st' := []) (M1 := M) 3 (fun n => rfl) ?_
  exact hz
theorem im_25 {e : Nat} {M : Mem} {M' : Mem} {v : Option Value} {vs : List Value} {i k y1 y2 : Int32} {l635 l636 : List Int32} (hM : gNth M 633 = some (.inr (11, vs))) (v6 : gNth vs 6 = some (.ref 636)) (v5 : gNth vs 5 = some (.ref 635)) (r635 : gNth M 635 = some (.inl (1, .inl l635))) (g1 : gAt l635 i = some y1) (r636 : gNth M 636 = some (.inl (1, .inl l636))) (g2 : gAt l636 ((2314 * k) + i) = some y2) (hz : Ev none (e + 1) 246 18 [some (.ref 633), some (.int k), some (.int (i + 1))] [] (gPut M 636 (.inl (1, .inl (gPut l636 ((2314 * k) + i).toNatClampNeg y1)))) v M' 0 0) : Ev none (e + 1) 246 25 [some (.ref 633), some (.int k), some (.int i)] [] M v M' 0 0 := by
  refine Ev.step (pc' := 26) (ls' := [some (.ref 633), some (.int k), some (.int i)]) (st' := [.ref 633]) (M1 := M) 1 (fun n => rfl) ?_
  refine Ev.step 1 (gs_3 rfl rfl (gf_g rfl hM v6)) ?_
  refine Ev.step (pc' := 37) (ls' := [some (.ref 633), some (.int k), some (.int i)]) (st' := [.ref 633, .int ((2314 * k) + i), .ref 636]) (M1 := M) 6 (fun n => rfl) ?_
  refine Ev.step 1 (gs_3 rfl rfl (gf_g rfl hM v5)) ?_
  refine Ev.step (pc' := 41) (ls' := [some (.ref 633), some (.int k), some (.int i)]) (st' := [.int i, .ref 635, .int ((2314 * k) + i), .ref 636]) (M1 := M) 1 (fun n => rfl) ?_
  refine Ev.step 1 (gs_3 rfl rfl (ia_g r635 g1)) ?_
  refine Ev.step 1 (gs_4 rfl rfl (is_g r636 g2)) ?_
  refine Ev.step (pc' := 18) (ls' := [some (.ref 633), some (.int k), some (.int (i + 1))]) (st' := []) (M1 := (gPut M 636 (.inl (1, .inl (gPut l636 ((2314 * k) + i).toNatClampNeg y1))))) 2 (fun n => rfl) ?_
  exact hz
theorem im_49 {e : Nat} {M : Mem} {vs : List Value} {i k y1 : Int32} {l638 : List Int32} (hM : gNth M 633 = some (.inr (11, vs))) (v8 : gNth vs 8 = some (.ref 638)) (r638 : gNth M 638 = some (.inl (3, .inl l638))) (g1 : gAt l638 k = some y1) : Ev none (e + 1) 246 49 [some (.ref 633), some (.int k), some (.int i)] [] M (some (.int 1)) (gPut M 638 (.inl (3, .inl (gPut l638 k.toNatClampNeg (vp_nar .boolean 1))))) 0 0 := by
  refine Ev.step (pc' := 50) (ls' := [some (.ref 633), some (.int k), some (.int i)]) (st' := [.ref 633]) (M1 := M) 1 (fun n => rfl) ?_
  refine Ev.step 1 (gs_3 rfl rfl (gf_g rfl hM v8)) ?_
  refine Ev.step (pc' := 55) (ls' := [some (.ref 633), some (.int k), some (.int i)]) (st' := [.int 1, .int k, .ref 638]) (M1 := M) 2 (fun n => rfl) ?_
  refine Ev.step 1 (gs_4 rfl rfl (bs_g r638 g1)) ?_
  refine Ev.step (pc' := 57) (ls' := [some (.ref 633), some (.int k), some (.int i)]) (st' := [.int 1]) (M1 := (gPut M 638 (.inl (3, .inl (gPut l638 k.toNatClampNeg (vp_nar .boolean 1)))))) 1 (fun n => rfl) ?_
  exact Ev.ret (fun n => rfl)
theorem re_5 {e : Nat} {M : Mem} {M' : Mem} {v : Option Value} {k : Int32} {x1 : Option Value}  (hz : Ev none (e + 1) 247 8 [some (.ref 633), some (.int k), x1] [.int 2, .int 0, .int k] M v M' 0 0) : Ev none (e + 1) 247 5 [some (.ref 633), some (.int k), x1] [] M v M' 0 0 := by
  refine Ev.step (pc' := 8) (ls' := [some (.ref 633), some (.int k), x1]) (st' := [.int 2, .int 0, .int k]) (M1 := M) 3 (fun n => rfl) ?_
  exact hz
theorem re_11 {e : Nat} {M : Mem} {M' : Mem} {v : Option Value} {k z : Int32} {x1 : Option Value}  (hz : Ev none (e + 1) 247 (if z = 0 then 23 else 14) [some (.ref 633), some (.int k), x1] [] M v M' 0 0) : Ev none (e + 1) 247 11 [some (.ref 633), some (.int k), x1] [.int z] M v M' 0 0 := by
  refine Ev.step (pc' := (if z = 0 then 23 else 14)) (ls' := [some (.ref 633), some (.int k), x1]) (st' := []) (M1 := M) 1 (fun n => rfl) ?_
  exact hz
theorem re_14 {e : Nat} {M : Mem} {M' : Mem} {v : Option Value} {vs : List Value} {k y1 : Int32} {l638 : List Int32} {x1 : Option Value} (hM : gNth M 633 = some (.inr (11, vs))) (v8 : gNth vs 8 = some (.ref 638)) (r638 : gNth M 638 = some (.inl (3, .inl l638))) (g1 : gAt l638 k = some y1) (hz : Ev none (e + 1) 247 (if y1 = 0 then 23 else 25) [some (.ref 633), some (.int k), x1] [] M v M' 0 0) : Ev none (e + 1) 247 14 [some (.ref 633), some (.int k), x1] [] M v M' 0 0 := by
  refine Ev.step (pc' := 15) (ls' := [some (.ref 633), some (.int k), x1]) (st' := [.ref 633]) (M1 := M) 1 (fun n => rfl) ?_
  refine Ev.step 1 (gs_3 rfl rfl (gf_g rfl hM v8)) ?_
  refine Ev.step (pc' := 19) (ls' := [some (.ref 633), some (.int k), x1]) (st' := [.int k, .ref 638]) (M1 := M) 1 (fun n => rfl) ?_
  refine Ev.step 1 (gs_3 rfl rfl (ba_g r638 g1)) ?_
  refine Ev.step (pc' := (if y1 = 0 then 23 else 25)) (ls' := [some (.ref 633), some (.int k), x1]) (st' := []) (M1 := M) 1 (fun n => rfl) ?_
  exact hz
theorem re_23 {e : Nat} {M : Mem} {k : Int32} {x1 : Option Value}  : Ev none (e + 1) 247 23 [some (.ref 633), some (.int k), x1] [] M (some (.int 0)) M 0 0 := by
  refine Ev.step (pc' := 24) (ls' := [some (.ref 633), some (.int k), x1]) (st' := [.int 0]) (M1 := M) 1 (fun n => rfl) ?_
  exact Ev.ret (fun n => rfl)
theorem re_25 {e : Nat} {M : Mem} {M' : Mem} {v : Option Value} {k : Int32} {x1 : Option Value}  (hz : Ev none (e + 1) 247 27 [some (.ref 633), some (.int k), some (.int 0)] [] M v M' 0 0) : Ev none (e + 1) 247 25 [some (.ref 633), some (.int k), x1] [] M v M' 0 0 := by
  refine Ev.step (pc' := 27) (ls' := [some (.ref 633), some (.int k), some (.int 0)]) (st' := []) (M1 := M) 2 (fun n => rfl) ?_
  exact hz
theorem re_27 {e : Nat} {M : Mem} {M' : Mem} {v : Option Value} {i k : Int32}  (hz : Ev none (e + 1) 247 (if 2314 ≤ i then 58 else 34) [some (.ref 633), some (.int k), some (.int i)] [] M v M' 0 0) : Ev none (e + 1) 247 27 [some (.ref 633), some (.int k), some (.int i)] [] M v M' 0 0 := by
  refine Ev.step (pc' := (if 2314 ≤ i then 58 else 34)) (ls' := [some (.ref 633), some (.int k), some (.int i)]) (st' := []) (M1 := M) 3 (fun n => rfl) ?_
  exact hz
theorem re_34 {e : Nat} {M : Mem} {M' : Mem} {v : Option Value} {vs : List Value} {i k y1 y2 : Int32} {l635 l636 : List Int32} (hM : gNth M 633 = some (.inr (11, vs))) (v5 : gNth vs 5 = some (.ref 635)) (v6 : gNth vs 6 = some (.ref 636)) (r636 : gNth M 636 = some (.inl (1, .inl l636))) (g1 : gAt l636 ((2314 * k) + i) = some y1) (r635 : gNth M 635 = some (.inl (1, .inl l635))) (g2 : gAt l635 i = some y2) (hz : Ev none (e + 1) 247 27 [some (.ref 633), some (.int k), some (.int (i + 1))] [] (gPut M 635 (.inl (1, .inl (gPut l635 i.toNatClampNeg y1)))) v M' 0 0) : Ev none (e + 1) 247 34 [some (.ref 633), some (.int k), some (.int i)] [] M v M' 0 0 := by
  refine Ev.step (pc' := 35) (ls' := [some (.ref 633), some (.int k), some (.int i)]) (st' := [.ref 633]) (M1 := M) 1 (fun n => rfl) ?_
  refine Ev.step 1 (gs_3 rfl rfl (gf_g rfl hM v5)) ?_
  refine Ev.step (pc' := 40) (ls' := [some (.ref 633), some (.int k), some (.int i)]) (st' := [.ref 633, .int i, .ref 635]) (M1 := M) 2 (fun n => rfl) ?_
  refine Ev.step 1 (gs_3 rfl rfl (gf_g rfl hM v6)) ?_
  refine Ev.step (pc' := 50) (ls' := [some (.ref 633), some (.int k), some (.int i)]) (st' := [.int ((2314 * k) + i), .ref 636, .int i, .ref 635]) (M1 := M) 5 (fun n => rfl) ?_
  refine Ev.step 1 (gs_3 rfl rfl (ia_g r636 g1)) ?_
  refine Ev.step 1 (gs_4 rfl rfl (is_g r635 g2)) ?_
  refine Ev.step (pc' := 27) (ls' := [some (.ref 633), some (.int k), some (.int (i + 1))]) (st' := []) (M1 := (gPut M 635 (.inl (1, .inl (gPut l635 i.toNatClampNeg y1))))) 2 (fun n => rfl) ?_
  exact hz
theorem re_58 {e : Nat} {M : Mem} {i k : Int32}  : Ev none (e + 1) 247 58 [some (.ref 633), some (.int k), some (.int i)] [] M (some (.int 1)) M 0 0 := by
  refine Ev.step (pc' := 59) (ls' := [some (.ref 633), some (.int k), some (.int i)]) (st' := [.int 1]) (M1 := M) 1 (fun n => rfl) ?_
  exact Ev.ret (fun n => rfl)
theorem sS_eq : gNth sG 63 = some (.inr (1, 2314, .inl sS)) := rfl
set_option maxRecDepth 100000 in
theorem rw_65 : rwB 65 1 2314 (-2147483648) 2147483647 = true := by decide +kernel
set_option maxRecDepth 100000 in
theorem rw_64 : rwB 64 1 6942 (-2147483648) 2147483647 = true := by decide +kernel
set_option maxRecDepth 100000 in
theorem rw_66 : rwB 66 3 3 0 1 = true := by decide +kernel
set_option maxRecDepth 100000 in
theorem mf_cp : (mfB 7 65 && mfB 6 64 && mfB 8 66) = true := by decide +kernel
set_option maxRecDepth 100000 in
theorem sU_cp : gNth sU 65 = some (some 637) ∧ gNth sU 64 = some (some 636) ∧ gNth sU 66 = some (some 638) := by refine ⟨?_, ?_, ?_⟩ <;> decide +kernel
/-- s and the rows that it is laid into -/
theorem TM.cp {M : Mem} (hT : TM sT sG M) : ∃ vs s la lk lb, gNth M 633 = some (.inr (11, vs)) ∧ gNth vs 5 = some (.ref 635) ∧ gNth vs 7 = some (.ref 637) ∧ gNth vs 6 = some (.ref 636) ∧ gNth vs 8 = some (.ref 638) ∧ gNth M 635 = some (.inl (1, .inl s)) ∧ s.length = 2314 ∧ gNth M 637 = some (.inl (1, .inl la)) ∧ la.length = 2314 ∧ gNth M 636 = some (.inl (1, .inl lk)) ∧ lk.length = 6942 ∧ gNth M 638 = some (.inl (3, .inl lb)) ∧ lb.length = 3 ∧ ∀ j x, gNth lb j = some x → 0 ≤ x.toInt ∧ x.toInt ≤ 1 := by
  obtain ⟨vs, s, hM, h5, hs, sl⟩ := hT.s_all
  obtain ⟨vs9, hM9, hv⟩ := hT.mfld
  cases hM.symm.trans hM9
  obtain ⟨h, a3⟩ := and_t mf_cp
  obtain ⟨a1, a2⟩ := and_t h
  obtain ⟨u1, u2, u3⟩ := sU_cp
  obtain ⟨g1, g2, g3, _⟩ := sT_more
  obtain ⟨la, b1, b2, _⟩ := hT.mrow g1 rw_65
  obtain ⟨lk, c1, c2, _⟩ := hT.mrow g2 rw_64
  obtain ⟨lb, d1, d2, d3⟩ := hT.mrow g3 rw_66
  exact ⟨vs, s, la, lk, lb, hM, h5, hv _ _ _ a1 u1, hv _ _ _ a2 u2, hv _ _ _ a3 u3, hs, sl, b1, b2, c1, c2, d1, d2, d3⟩
/-- a copy under way: n places from off on are those of src from so on -/
def CpP (l l0 src : List Int32) (off so n : Nat) : Prop := l.length = l0.length ∧ ∀ i, gNth l i = if off ≤ i ∧ i < off + n then gNth src (so + (i - off)) else gNth l0 i
theorem CpP.zero (l src : List Int32) (off so : Nat) : CpP l l src off so 0 := ⟨rfl, fun i => by rw [if_neg (by omega)]⟩
theorem CpP.step {l l0 src : List Int32} {off so n : Nat} {y : Int32} (h : CpP l l0 src off so n) (hy : gNth src (so + n) = some y) (hl : off + n < l.length) : CpP (gPut l (off + n) y) l0 src off so (n + 1) := by
  refine ⟨by rw [put_len]; exact h.1, fun i => ?_⟩
  rw [nth_put]
  by_cases hi : i = off + n
  · subst hi
    rw [if_pos ⟨rfl, hl⟩, if_pos (by omega), ← hy]
    congr 1
    omega
  · rw [if_neg (fun q => hi q.1), h.2 i]
    by_cases hc : off ≤ i ∧ i < off + n
    · rw [if_pos hc, if_pos (by omega)]
    · rw [if_neg hc, if_neg (by omega)]
theorem CpP.all {l l0 src : List Int32} (h : CpP l l0 src 0 0 2314) (hl : l0.length = 2314) (hs : src.length = 2314) : l = src := by
  refine nthx (fun i => ?_)
  rw [h.2 i]
  by_cases hc : i < 2314
  · rw [if_pos (by omega)]
    congr 1
    omega
  · rw [if_neg (by omega), nth_eq, nth_eq, List.getElem?_eq_none_iff.mpr (by omega), List.getElem?_eq_none_iff.mpr (by omega)]
/-- s as it stands is good -/
theorem TM.good {M : Mem} (hT : TM sT sG M) {l : List Int32} (hM : gNth M 635 = some (.inl (1, .inl l))) (h : evS l ∧ dsS l) : goodS l := by
  obtain ⟨e1, e2, e3⟩ := hT.at sT_635 sS_eq
  rw [hM] at e2
  cases e2
  obtain ⟨l', e5, l1, l2⟩ := ct_int (by decide) e3
  cases e5
  exact ⟨l1, l2, h.1, h.2⟩
theorem TM.s_p {M : Mem} (hT : TM sT sG M) {l : List Int32} (hM : gNth M 635 = some (.inl (1, .inl l))) {i : Nat} {y : Int32} {p : Iv} (hp : sgAt sS i = some p) (h1 : p.1 ≤ y.toInt) (h2 : y.toInt ≤ p.2) : TM sT sG (gPut M 635 (.inl (1, .inl (gPut l i y)))) := by
  obtain ⟨e1, e2, e3⟩ := hT.at sT_635 sS_eq
  rw [hM] at e2
  cases e2
  obtain ⟨l', e5, l1, l2⟩ := ct_int (by decide) e3
  cases e5
  refine hT.put (fun g2 t w1 w2 => ?_)
  rw [sT_635] at w1
  cases w1
  rw [sS_eq] at w2
  cases w2
  refine ct_mk (by decide) (by rw [put_len]; exact l1) (fun j x hj => ?_)
  rw [nth_put] at hj
  split at hj
  · rename_i hc
    cases hj
    obtain ⟨rfl, _⟩ := hc
    exact ⟨p, hp, h1, h2⟩
  · exact l2 j x hj
theorem i32_any (x : Int32) : -2147483648 ≤ x.toInt ∧ x.toInt ≤ 2147483647 := by
  have := i32_lt x
  omega
section LA
variable {M0 : Mem} {e : Nat} {s l0 : List Int32}
set_option maxRecDepth 100000 in
theorem la_loop : ∀ (j inn : Nat) (M : Mem) (i : Int32) (l : List Int32), TM sT sG M → Frm sT [(1065, 0)] M0 M → gNth M 635 = some (.inl (1, .inl s)) → gNth M 637 = some (.inl (1, .inl l)) → CpP l l0 s 0 0 inn → i.toInt = (inn : Int) → inn + j = 2314 → ∃ MF lF, Ev none e 153 2 [some (.ref 633), some (.int i)] [] M none MF 0 0 ∧ TM sT sG MF ∧ Frm sT [(1065, 0)] M0 MF ∧ gNth MF 637 = some (.inl (1, .inl lF)) ∧ CpP lF l0 s 0 0 2314 := by
  intro j
  have o : (2314 : Int32).toInt = 2314 := rfl
  induction j with
  | zero =>
    intro inn M i l hT hF hs ha hc hi hj
    refine ⟨M, l, la_2 ?_, hT, hF, ha, by rw [← show inn = 2314 by omega]; exact hc⟩
    rw [if_pos (by rw [Int32.le_iff_toInt_le, o]; omega)]
    exact la_27
  | succ j ih =>
    intro inn M i l hT hF hs ha hc hi hj
    obtain ⟨vs, s2, la, lk, lb, hM, h5, h7, _, _, hs2, sl, ha2, al, _⟩ := hT.cp
    cases hs.symm.trans hs2
    cases ha.symm.trans ha2
    obtain ⟨y, y1, y2⟩ := at_c (l := s) hi (by omega)
    obtain ⟨z, z1, z2⟩ := at_c (l := l) hi (by omega)
    have p1 : TM sT sG (gPut M 637 (.inl (1, .inl (gPut l inn y)))) := hT.putrow (n := 2314) (lo := -2147483648) (hi := 2147483647) sT_more.1 (by decide +kernel) (by rw [put_len]; exact al) (fun _ x _ => i32_any x)
    have e1 : (i + 1).toInt = i.toInt + 1 := i32_p1 (by omega)
    have hcs := hc.step (y := y) (by rw [Nat.zero_add]; exact y2) (by omega)
    rw [Nat.zero_add] at hcs
    obtain ⟨MF, lF, q1, q2⟩ := ih (inn + 1) _ (i + 1) (gPut l inn y) p1 (hF.trans (Frm.row ha sT_more.1 (List.mem_singleton.mpr rfl))) (by rw [nth_put, if_neg (fun q => absurd q.1 (by decide))]; exact hs) (by rw [nth_put, if_pos ⟨rfl, gNth_lt _ _ _ ha⟩]) hcs (by omega) (by omega)
    refine ⟨MF, lF, la_2 ?_, q2⟩
    rw [if_neg (by rw [Int32.le_iff_toInt_le, o]; omega)]
    refine la_9 hM h7 h5 hs y1 ha z1 ?_
    rw [cl_n hi]
    exact q1
theorem lb_loop {la : List Int32} (hg : goodS la) : ∀ (j inn : Nat) (M : Mem) (i : Int32) (l : List Int32), TM sT sG M → Frm sT [(1063, 0)] M0 M → gNth M 637 = some (.inl (1, .inl la)) → gNth M 635 = some (.inl (1, .inl l)) → CpP l l0 la 0 0 inn → i.toInt = (inn : Int) → inn + j = 2314 → ∃ MF lF, Ev none e 154 2 [some (.ref 633), some (.int i)] [] M none MF 0 0 ∧ TM sT sG MF ∧ Frm sT [(1063, 0)] M0 MF ∧ gNth MF 635 = some (.inl (1, .inl lF)) ∧ CpP lF l0 la 0 0 2314 := by
  intro j
  have o : (2314 : Int32).toInt = 2314 := rfl
  induction j with
  | zero =>
    intro inn M i l hT hF ha hs hc hi hj
    refine ⟨M, l, lb_2 ?_, hT, hF, hs, by rw [← show inn = 2314 by omega]; exact hc⟩
    rw [if_pos (by rw [Int32.le_iff_toInt_le, o]; omega)]
    exact lb_27
  | succ j ih =>
    intro inn M i l hT hF ha hs hc hi hj
    obtain ⟨vs, s2, la2, lk, lb, hM, h5, h7, _, _, hs2, sl, ha2, al, _⟩ := hT.cp
    cases hs.symm.trans hs2
    cases ha.symm.trans ha2
    obtain ⟨y, y1, y2⟩ := at_c (l := la) hi (by omega)
    obtain ⟨z, z1, z2⟩ := at_c (l := l) hi (by omega)
    obtain ⟨p, t1, t2, t3⟩ := hg.2.1 _ _ y2
    have p1 := hT.s_p hs t1 t2 t3
    have e1 : (i + 1).toInt = i.toInt + 1 := i32_p1 (by omega)
    have hcs := hc.step (y := y) (by rw [Nat.zero_add]; exact y2) (by omega)
    rw [Nat.zero_add] at hcs
    obtain ⟨MF, lF, q1, q2⟩ := ih (inn + 1) _ (i + 1) (gPut l inn y) p1 (hF.trans (Frm.row hs sT_635 (List.mem_singleton.mpr rfl))) (by rw [nth_put, if_neg (fun q => absurd q.1 (by decide))]; exact ha) (by rw [nth_put, if_pos ⟨rfl, gNth_lt _ _ _ hs⟩]) hcs (by omega) (by omega)
    refine ⟨MF, lF, lb_2 ?_, q2⟩
    rw [if_neg (by rw [Int32.le_iff_toInt_le, o]; omega)]
    refine lb_9 hM h5 h7 ha y1 hs z1 ?_
    rw [cl_n hi]
    exact q1
end LA
def kX11_layAside : CN := (153, 0, [.inr 1900], [], [(28, [])], [(1065, 0)], [(none, [], [], [(30, [])], [])])
def kX11_layBack : CN := (154, 0, [.inr 1900], [], [(30, [])], [(1063, 0)], [(none, [], [], [(28, [])], [])])
set_option maxRecDepth 100000 in
theorem mR_153 : (gNth mRs 153).map (fun q => q.2.2.2.1) = some 2 := by decide +kernel
set_option maxRecDepth 100000 in
theorem mR_154 : (gNth mRs 154).map (fun q => q.2.2.2.1) = some 2 := by decide +kernel
theorem kX11_layAside_ok : cnOK sT sG FL0 kX11_layAside := by
  intro d M ws q hd hq ha hp hT
  have hm := mR_153
  have hq' : gNth mRs 153 = some q := hq
  rw [hq'] at hm
  have hm : q.2.2.2.1 = 2 := Option.some.inj hm
  rcases ws with _ | ⟨a, _ | ⟨b, r⟩⟩
  · exact ha.elim
  · have k1 : a = .ref 633 := ha.1
    subst k1
    obtain ⟨hv, hv0, hfl⟩ := hp
    obtain ⟨y28, z28, h28⟩ := hfl (28, []) (List.mem_cons_self ..)
    obtain ⟨t2, l2, p1, p2⟩ := fl0_28 h28
    obtain ⟨vs, s, la, lk, lb, hM, h5, h7, _, _, hs, sl, ha2, al, _⟩ := hT.cp
    have hsl : l2 = s := by cases p1.symm.trans hs; rfl
    subst hsl
    have hg := hT.good hs p2
    obtain ⟨MF, lF, q1, q2, q3, q4, q5⟩ := la_loop (M0 := M) (e := d) (s := l2) (l0 := la) 2314 0 M 0 la hT (Frm.refl M) hs ha2 (CpP.zero _ _ _ _) rfl rfl
    have hlF := q5.all al sl
    subst hlF
    rw [hm]
    refine ⟨none, MF, la_0 q1, q2, q3, _, List.mem_cons_self .., ⟨trivial, fun q hq => (by cases hq), [], trivial, fun f hf => ?_, fun q hq => (by cases hq)⟩, cn_D rfl⟩
    cases List.mem_singleton.mp hf
    exact ⟨[], trivial, (show FL0 30 [] MF from ⟨1, _, q4, hg⟩)⟩
  · exact ha.2.elim
theorem kX11_layBack_ok : cnOK sT sG FL0 kX11_layBack := by
  intro d M ws q hd hq ha hp hT
  have hm := mR_154
  have hq' : gNth mRs 154 = some q := hq
  rw [hq'] at hm
  have hm : q.2.2.2.1 = 2 := Option.some.inj hm
  rcases ws with _ | ⟨a, _ | ⟨b, r⟩⟩
  · exact ha.elim
  · have k1 : a = .ref 633 := ha.1
    subst k1
    obtain ⟨hv, hv0, hfl⟩ := hp
    obtain ⟨y28, z28, h28⟩ := hfl (30, []) (List.mem_cons_self ..)
    obtain ⟨t2, l2, p1, p2⟩ := fl0_30 h28
    obtain ⟨vs, s, la, lk, lb, hM, h5, h7, _, _, hs, sl, ha2, al, _⟩ := hT.cp
    have hsl : l2 = la := by cases p1.symm.trans ha2; rfl
    subst hsl
    obtain ⟨MF, lF, q1, q2, q3, q4, q5⟩ := lb_loop (M0 := M) (e := d) (l0 := s) p2 2314 0 M 0 s hT (Frm.refl M) ha2 hs (CpP.zero _ _ _ _) rfl rfl
    have hlF := q5.all sl al
    subst hlF
    rw [hm]
    refine ⟨none, MF, lb_0 q1, q2, q3, _, List.mem_cons_self .., ⟨trivial, fun q hq => (by cases hq), [], trivial, fun f hf => ?_, fun q hq => (by cases hq)⟩, cn_D rfl⟩
    cases List.mem_singleton.mp hf
    exact ⟨[], trivial, (show FL0 28 [] MF from ⟨1, _, q4, p2.2.2⟩)⟩
  · exact ha.2.elim
