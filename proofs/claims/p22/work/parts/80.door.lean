/-! BY HAND: door of the reference -/
theorem ce_0 {e : Nat} {M : Mem} {vs : List Value} {y1 y2 : Int32} {l635 : List Int32} (hM : gNth M 633 = some (.inr (11, vs))) (v5 : gNth vs 5 = some (.ref 635)) (r635 : gNth M 635 = some (.inl (1, .inl l635))) (g1 : gAt l635 0 = some y1) (g2 : gAt l635 1 = some y2) : Ev none e 144 0 [some (.ref 633)] [] M (some (.int (y1 * y2))) M 0 0 := by
  refine Ev.step (pc' := 1) (ls' := [some (.ref 633)]) (st' := [.ref 633]) (M1 := M) 1 (fun n => rfl) ?_
  refine Ev.step 1 (gs_3 rfl rfl (gf_g rfl hM v5)) ?_
  refine Ev.step (pc' := 5) (ls' := [some (.ref 633)]) (st' := [.int 0, .ref 635]) (M1 := M) 1 (fun n => rfl) ?_
  refine Ev.step 1 (gs_3 rfl rfl (ia_g r635 g1)) ?_
  refine Ev.step (pc' := 7) (ls' := [some (.ref 633)]) (st' := [.ref 633, .int y1]) (M1 := M) 1 (fun n => rfl) ?_
  refine Ev.step 1 (gs_3 rfl rfl (gf_g rfl hM v5)) ?_
  refine Ev.step (pc' := 11) (ls' := [some (.ref 633)]) (st' := [.int 1, .ref 635, .int y1]) (M1 := M) 1 (fun n => rfl) ?_
  refine Ev.step 1 (gs_3 rfl rfl (ia_g r635 g2)) ?_
  refine Ev.step (pc' := 13) (ls' := [some (.ref 633)]) (st' := [.int (y1 * y2)]) (M1 := M) 1 (fun n => rfl) ?_
  exact Ev.ret (fun n => rfl)
theorem ic_0 {e : Nat} {M : Mem} {M' : Mem} {v : Option Value} {c : Int32}  (hz : Ev none (e + 1) 145 3 [some (.ref 633), some (.int c)] [.ref 633, .int 0, .int c] M v M' 0 0) : Ev none (e + 1) 145 0 [some (.ref 633), some (.int c)] [] M v M' 0 0 := by
  refine Ev.step (pc' := 3) (ls' := [some (.ref 633), some (.int c)]) (st' := [.ref 633, .int 0, .int c]) (M1 := M) 3 (fun n => rfl) ?_
  exact hz
theorem ic_6 {e : Nat} {M : Mem} {M' : Mem} {v : Option Value} {c z : Int32}  (hz : Ev none (e + 1) 145 8 [some (.ref 633), some (.int c)] [.int (z - 1), .int 0, .int c] M v M' 0 0) : Ev none (e + 1) 145 6 [some (.ref 633), some (.int c)] [.int z, .int 0, .int c] M v M' 0 0 := by
  refine Ev.step (pc' := 8) (ls' := [some (.ref 633), some (.int c)]) (st' := [.int (z - 1), .int 0, .int c]) (M1 := M) 2 (fun n => rfl) ?_
  exact hz
theorem ic_11z {e : Nat} {M : Mem} {c : Int32}  : Ev none (e + 1) 145 11 [some (.ref 633), some (.int c)] [.int 0] M (some (.int 0)) M 0 0 := by
  exact Ev.ret (fun n => rfl)
theorem ic_11o {e : Nat} {M : Mem} {c : Int32}  : Ev none (e + 1) 145 11 [some (.ref 633), some (.int c)] [.int 1] M (some (.int 1)) M 0 0 := by
  exact Ev.ret (fun n => rfl)
theorem da_0 {e : Nat} {M : Mem} {M' : Mem} {v : Option Value} {c : Int32} {x1 : Option Value}  (hz : Ev none e 157 2 [some (.ref 633), some (.int c), some (.int 0)] [] M v M' 0 0) : Ev none e 157 0 [some (.ref 633), some (.int c), x1] [] M v M' 0 0 := by
  refine Ev.step (pc' := 2) (ls' := [some (.ref 633), some (.int c), some (.int 0)]) (st' := []) (M1 := M) 2 (fun n => rfl) ?_
  exact hz
theorem da_2 {e : Nat} {M : Mem} {M' : Mem} {v : Option Value} {vs : List Value} {c d y1 : Int32} {l635 : List Int32} (hM : gNth M 633 = some (.inr (11, vs))) (v5 : gNth vs 5 = some (.ref 635)) (r635 : gNth M 635 = some (.inl (1, .inl l635))) (g1 : gAt l635 2 = some y1) (hz : Ev none e 157 (if y1 ≤ d then 32 else 12) [some (.ref 633), some (.int c), some (.int d)] [] M v M' 0 0) : Ev none e 157 2 [some (.ref 633), some (.int c), some (.int d)] [] M v M' 0 0 := by
  refine Ev.step (pc' := 4) (ls' := [some (.ref 633), some (.int c), some (.int d)]) (st' := [.ref 633, .int d]) (M1 := M) 2 (fun n => rfl) ?_
  refine Ev.step 1 (gs_3 rfl rfl (gf_g rfl hM v5)) ?_
  refine Ev.step (pc' := 8) (ls' := [some (.ref 633), some (.int c), some (.int d)]) (st' := [.int 2, .ref 635, .int d]) (M1 := M) 1 (fun n => rfl) ?_
  refine Ev.step 1 (gs_3 rfl rfl (ia_g r635 g1)) ?_
  refine Ev.step (pc' := (if y1 ≤ d then 32 else 12)) (ls' := [some (.ref 633), some (.int c), some (.int d)]) (st' := []) (M1 := M) 1 (fun n => rfl) ?_
  exact hz
theorem da_12 {e : Nat} {M : Mem} {M' : Mem} {v : Option Value} {vs : List Value} {c d y1 : Int32} {l635 : List Int32} (hM : gNth M 633 = some (.inr (11, vs))) (v5 : gNth vs 5 = some (.ref 635)) (r635 : gNth M 635 = some (.inl (1, .inl l635))) (g1 : gAt l635 (3 + d) = some y1) (hz : Ev none e 157 (if y1 = c then 24 else 26) [some (.ref 633), some (.int c), some (.int d)] [] M v M' 0 0) : Ev none e 157 12 [some (.ref 633), some (.int c), some (.int d)] [] M v M' 0 0 := by
  refine Ev.step (pc' := 13) (ls' := [some (.ref 633), some (.int c), some (.int d)]) (st' := [.ref 633]) (M1 := M) 1 (fun n => rfl) ?_
  refine Ev.step 1 (gs_3 rfl rfl (gf_g rfl hM v5)) ?_
  refine Ev.step (pc' := 19) (ls' := [some (.ref 633), some (.int c), some (.int d)]) (st' := [.int (3 + d), .ref 635]) (M1 := M) 3 (fun n => rfl) ?_
  refine Ev.step 1 (gs_3 rfl rfl (ia_g r635 g1)) ?_
  refine Ev.step (pc' := (if y1 = c then 24 else 26)) (ls' := [some (.ref 633), some (.int c), some (.int d)]) (st' := []) (M1 := M) 2 (fun n => rfl) ?_
  exact hz
theorem da_24 {e : Nat} {M : Mem} {c d : Int32}  : Ev none e 157 24 [some (.ref 633), some (.int c), some (.int d)] [] M (some (.int 1)) M 0 0 := by
  refine Ev.step (pc' := 25) (ls' := [some (.ref 633), some (.int c), some (.int d)]) (st' := [.int 1]) (M1 := M) 1 (fun n => rfl) ?_
  exact Ev.ret (fun n => rfl)
theorem da_26 {e : Nat} {M : Mem} {M' : Mem} {v : Option Value} {c d : Int32}  (hz : Ev none e 157 2 [some (.ref 633), some (.int c), some (.int (d + 1))] [] M v M' 0 0) : Ev none e 157 26 [some (.ref 633), some (.int c), some (.int d)] [] M v M' 0 0 := by
  refine Ev.step (pc' := 2) (ls' := [some (.ref 633), some (.int c), some (.int (d + 1))]) (st' := []) (M1 := M) 2 (fun n => rfl) ?_
  exact hz
theorem da_32 {e : Nat} {M : Mem} {c d : Int32}  : Ev none e 157 32 [some (.ref 633), some (.int c), some (.int d)] [] M (some (.int 0)) M 0 0 := by
  refine Ev.step (pc' := 33) (ls' := [some (.ref 633), some (.int c), some (.int d)]) (st' := [.int 0]) (M1 := M) 1 (fun n => rfl) ?_
  exact Ev.ret (fun n => rfl)
theorem dr_0 {e : Nat} {M : Mem} {M' : Mem} {v : Option Value} {vs : List Value} {c : Int32} (hM : gNth M 633 = some (.inr (11, vs))) (hlen : vs.length = 63) (hz : Ev none (e + 2) 156 5 [some (.ref 633), some (.int c)] [] (gPut M 633 (.inr (11, gPut vs 0 (.int 0)))) v M' 0 0) : Ev none (e + 2) 156 0 [some (.ref 633), some (.int c)] [] M v M' 0 0 := by
  refine Ev.step (pc' := 2) (ls' := [some (.ref 633), some (.int c)]) (st' := [.int 0, .ref 633]) (M1 := M) 2 (fun n => rfl) ?_
  refine Ev.step 1 (gs_4 rfl rfl (pf_i rfl hM (by rw [hlen]; decide) rfl rfl)) ?_
  exact hz
theorem dr_5 {e : Nat} {M : Mem} {M' : Mem} {v : Option Value} {vs : List Value} {c y1 : Int32} {l635 : List Int32} (hM : gNth M 633 = some (.inr (11, vs))) (v5 : gNth vs 5 = some (.ref 635)) (r635 : gNth M 635 = some (.inl (1, .inl l635))) (g1 : gAt l635 2 = some y1) (hz : Ev none (e + 2) 156 (if y1 = 9 then 40 else 16) [some (.ref 633), some (.int c)] [] M v M' 0 0) : Ev none (e + 2) 156 5 [some (.ref 633), some (.int c)] [] M v M' 0 0 := by
  refine Ev.step (pc' := 6) (ls' := [some (.ref 633), some (.int c)]) (st' := [.ref 633]) (M1 := M) 1 (fun n => rfl) ?_
  refine Ev.step 1 (gs_3 rfl rfl (gf_g rfl hM v5)) ?_
  refine Ev.step (pc' := 10) (ls' := [some (.ref 633), some (.int c)]) (st' := [.int 2, .ref 635]) (M1 := M) 1 (fun n => rfl) ?_
  refine Ev.step 1 (gs_3 rfl rfl (ia_g r635 g1)) ?_
  refine Ev.step (pc' := (if y1 = 9 then 40 else 16)) (ls' := [some (.ref 633), some (.int c)]) (st' := []) (M1 := M) 2 (fun n => rfl) ?_
  exact hz
theorem dr_16 {e : Nat} {M : Mem} {M' : Mem} {v : Option Value} {c : Int32}  (hz : Ev none (e + 2) 156 18 [some (.ref 633), some (.int c)] [.int c, .ref 633] M v M' 0 0) : Ev none (e + 2) 156 16 [some (.ref 633), some (.int c)] [] M v M' 0 0 := by
  refine Ev.step (pc' := 18) (ls' := [some (.ref 633), some (.int c)]) (st' := [.int c, .ref 633]) (M1 := M) 2 (fun n => rfl) ?_
  exact hz
theorem dr_24 {e : Nat} {M : Mem} {M' : Mem} {v : Option Value} {c : Int32}  (hz : Ev none (e + 2) 156 26 [some (.ref 633), some (.int c)] [.int c, .ref 633] M v M' 0 0) : Ev none (e + 2) 156 24 [some (.ref 633), some (.int c)] [] M v M' 0 0 := by
  refine Ev.step (pc' := 26) (ls' := [some (.ref 633), some (.int c)]) (st' := [.int c, .ref 633]) (M1 := M) 2 (fun n => rfl) ?_
  exact hz
theorem dr_32 {e : Nat} {M : Mem} {M' : Mem} {v : Option Value} {c : Int32}  (hz : Ev none (e + 2) 156 34 [some (.ref 633), some (.int c)] [.int c, .ref 633] M v M' 0 0) : Ev none (e + 2) 156 32 [some (.ref 633), some (.int c)] [] M v M' 0 0 := by
  refine Ev.step (pc' := 34) (ls' := [some (.ref 633), some (.int c)]) (st' := [.int c, .ref 633]) (M1 := M) 2 (fun n => rfl) ?_
  exact hz
theorem dr_40 {e : Nat} {M : Mem} {c : Int32}  : Ev none (e + 2) 156 40 [some (.ref 633), some (.int c)] [] M (some (.int (-1))) M 0 0 := by
  refine Ev.step (pc' := 41) (ls' := [some (.ref 633), some (.int c)]) (st' := [.int (-1)]) (M1 := M) 1 (fun n => rfl) ?_
  exact Ev.ret (fun n => rfl)
theorem dr_42 {e : Nat} {M : Mem} {M' : Mem} {v : Option Value} {vs : List Value} {c y1 y2 : Int32} {l635 : List Int32} (hM : gNth M 633 = some (.inr (11, vs))) (v5 : gNth vs 5 = some (.ref 635)) (r635 : gNth M 635 = some (.inl (1, .inl l635))) (g1 : gAt l635 2 = some y1) (g2 : gAt l635 (3 + y1) = some y2) (hz : Ev none (e + 2) 156 56 [some (.ref 633), some (.int c)] [] (gPut M 635 (.inl (1, .inl (gPut l635 (3 + y1).toNatClampNeg c)))) v M' 0 0) : Ev none (e + 2) 156 42 [some (.ref 633), some (.int c)] [] M v M' 0 0 := by
  refine Ev.step (pc' := 43) (ls' := [some (.ref 633), some (.int c)]) (st' := [.ref 633]) (M1 := M) 1 (fun n => rfl) ?_
  refine Ev.step 1 (gs_3 rfl rfl (gf_g rfl hM v5)) ?_
  refine Ev.step (pc' := 48) (ls' := [some (.ref 633), some (.int c)]) (st' := [.ref 633, .int 3, .ref 635]) (M1 := M) 2 (fun n => rfl) ?_
  refine Ev.step 1 (gs_3 rfl rfl (gf_g rfl hM v5)) ?_
  refine Ev.step (pc' := 52) (ls' := [some (.ref 633), some (.int c)]) (st' := [.int 2, .ref 635, .int 3, .ref 635]) (M1 := M) 1 (fun n => rfl) ?_
  refine Ev.step 1 (gs_3 rfl rfl (ia_g r635 g1)) ?_
  refine Ev.step (pc' := 55) (ls' := [some (.ref 633), some (.int c)]) (st' := [.int c, .int (3 + y1), .ref 635]) (M1 := M) 2 (fun n => rfl) ?_
  refine Ev.step 1 (gs_4 rfl rfl (is_g r635 g2)) ?_
  exact hz
theorem dr_56 {e : Nat} {M : Mem} {M' : Mem} {v : Option Value} {vs : List Value} {c y1 : Int32} {l635 : List Int32} (hM : gNth M 633 = some (.inr (11, vs))) (v5 : gNth vs 5 = some (.ref 635)) (r635 : gNth M 635 = some (.inl (1, .inl l635))) (g1 : gAt l635 2 = some y1) (hz : Ev none (e + 2) 156 66 [some (.ref 633), some (.int c)] [] (gPut M 635 (.inl (1, .inl (gPut l635 (2 : Int32).toNatClampNeg (y1 + 1))))) v M' 0 0) : Ev none (e + 2) 156 56 [some (.ref 633), some (.int c)] [] M v M' 0 0 := by
  refine Ev.step (pc' := 57) (ls' := [some (.ref 633), some (.int c)]) (st' := [.ref 633]) (M1 := M) 1 (fun n => rfl) ?_
  refine Ev.step 1 (gs_3 rfl rfl (gf_g rfl hM v5)) ?_
  refine Ev.step (pc' := 62) (ls' := [some (.ref 633), some (.int c)]) (st' := [.int 2, .ref 635, .int 2, .ref 635]) (M1 := M) 2 (fun n => rfl) ?_
  refine Ev.step 1 (gs_3 rfl rfl (ia_g r635 g1)) ?_
  refine Ev.step (pc' := 65) (ls' := [some (.ref 633), some (.int c)]) (st' := [.int (y1 + 1), .int 2, .ref 635]) (M1 := M) 2 (fun n => rfl) ?_
  refine Ev.step 1 (gs_4 rfl rfl (is_g r635 g1)) ?_
  exact hz
theorem dr_66 {e : Nat} {M : Mem} {vs : List Value} {c y1 : Int32} {l635 : List Int32} (hM : gNth M 633 = some (.inr (11, vs))) (v5 : gNth vs 5 = some (.ref 635)) (r635 : gNth M 635 = some (.inl (1, .inl l635))) (g1 : gAt l635 2 = some y1) : Ev none (e + 2) 156 66 [some (.ref 633), some (.int c)] [] M (some (.int (y1 - 1))) M 0 0 := by
  refine Ev.step (pc' := 67) (ls' := [some (.ref 633), some (.int c)]) (st' := [.ref 633]) (M1 := M) 1 (fun n => rfl) ?_
  refine Ev.step 1 (gs_3 rfl rfl (gf_g rfl hM v5)) ?_
  refine Ev.step (pc' := 71) (ls' := [some (.ref 633), some (.int c)]) (st' := [.int 2, .ref 635]) (M1 := M) 1 (fun n => rfl) ?_
  refine Ev.step 1 (gs_3 rfl rfl (ia_g r635 g1)) ?_
  refine Ev.step (pc' := 74) (ls' := [some (.ref 633), some (.int c)]) (st' := [.int (y1 - 1)]) (M1 := M) 2 (fun n => rfl) ?_
  exact Ev.ret (fun n => rfl)
theorem dr_21 {e : Nat} {M : Mem} {M' : Mem} {v : Option Value} {c z : Int32}  (hz : Ev none (e + 2) 156 (if z = 0 then 40 else 24) [some (.ref 633), some (.int c)] [] M v M' 0 0) : Ev none (e + 2) 156 21 [some (.ref 633), some (.int c)] [.int z] M v M' 0 0 := by
  refine Ev.step (pc' := (if z = 0 then 40 else 24)) (ls' := [some (.ref 633), some (.int c)]) (st' := []) (M1 := M) 1 (fun n => rfl) ?_
  exact hz
theorem dr_29 {e : Nat} {M : Mem} {M' : Mem} {v : Option Value} {c z : Int32}  (hz : Ev none (e + 2) 156 (if z = 0 then 40 else 32) [some (.ref 633), some (.int c)] [] M v M' 0 0) : Ev none (e + 2) 156 29 [some (.ref 633), some (.int c)] [.int z] M v M' 0 0 := by
  refine Ev.step (pc' := (if z = 0 then 40 else 32)) (ls' := [some (.ref 633), some (.int c)]) (st' := []) (M1 := M) 1 (fun n => rfl) ?_
  exact hz
theorem dr_37 {e : Nat} {M : Mem} {M' : Mem} {v : Option Value} {c z : Int32}  (hz : Ev none (e + 2) 156 (if z = 0 then 42 else 40) [some (.ref 633), some (.int c)] [] M v M' 0 0) : Ev none (e + 2) 156 37 [some (.ref 633), some (.int c)] [.int z] M v M' 0 0 := by
  refine Ev.step (pc' := (if z = 0 then 42 else 40)) (ls' := [some (.ref 633), some (.int c)]) (st' := []) (M1 := M) 1 (fun n => rfl) ?_
  exact hz
theorem cal_ce {M : Mem} {vs : List Value} {rest : List Value} (hM : gNth M 633 = some (.inr (11, vs))) (hr : gRoom rest = true) : gCal (.invokevirtual 128) 11 (.ref 633 :: rest) M = some (.inr (144, [some (.ref 633)], rest)) := by
  show @cond (Option ((List Value × Mem) ⊕ (Nat × Lo × List Value))) (true && gRecv M (.ref 633) 11 && gRoom rest && true) (some (.inr (144, [some (.ref 633)], rest))) none = _
  rw [recv_ok hM, hr]
  rfl
theorem cal_ic {M : Mem} {vs : List Value} {a0 : Int32} {rest : List Value} (hM : gNth M 633 = some (.inr (11, vs))) (hr : gRoom rest = true) : gCal (.invokevirtual 155) 11 (.int a0 :: .ref 633 :: rest) M = some (.inr (145, [some (.ref 633), some (.int a0)], rest)) := by
  show @cond (Option ((List Value × Mem) ⊕ (Nat × Lo × List Value))) (true && gRecv M (.ref 633) 11 && gRoom rest && true) (some (.inr (145, [some (.ref 633), some (.int a0)], rest))) none = _
  rw [recv_ok hM, hr]
  rfl
theorem cal_da {M : Mem} {vs : List Value} {a0 : Int32} {rest : List Value} (hM : gNth M 633 = some (.inr (11, vs))) (hr : gRoom rest = true) : gCal (.invokevirtual 161) 11 (.int a0 :: .ref 633 :: rest) M = some (.inr (157, [some (.ref 633), some (.int a0), none], rest)) := by
  show @cond (Option ((List Value × Mem) ⊕ (Nat × Lo × List Value))) (true && gRecv M (.ref 633) 11 && gRoom rest && true) (some (.inr (157, [some (.ref 633), some (.int a0), none], rest))) none = _
  rw [recv_ok hM, hr]
  rfl
theorem ev_cells {M : Mem} {e : Nat} {vs : List Value} {l : List Int32} {w h : Int32} (hM : gNth M 633 = some (.inr (11, vs))) (h5 : gNth vs 5 = some (.ref 635)) (hs : gNth M 635 = some (.inl (1, .inl l))) (h0 : gAt l 0 = some w) (h1 : gAt l 1 = some h) : Ev none e 144 0 [some (.ref 633)] [] M (some (.int (w * h))) M 0 0 := ce_0 hM h5 hs h0 h1
theorem ev_isCell {M : Mem} {e : Nat} {vs : List Value} {l : List Int32} {w h c : Int32} (hM : gNth M 633 = some (.inr (11, vs))) (h5 : gNth vs 5 = some (.ref 635)) (hs : gNth M 635 = some (.inl (1, .inl l))) (h0 : gAt l 0 = some w) (h1 : gAt l 1 = some h) : Ev none (e + 1) 145 0 [some (.ref 633), some (.int c)] [] M (some (.int (if c < 0 then 0 else if w * h - 1 < c then 0 else 1))) M 0 0 := by
  refine ic_0 (Ev.call0 (fun n => gs_7 rfl rfl (cal_ce hM rfl)) (ev_cells hM h5 hs h0 h1) (ic_6 (Ev.call0 (fun n => rfl) ev_isin ?_)))
  by_cases c1 : c < 0
  · rw [if_pos c1]
    exact ic_11z
  · rw [if_neg c1]
    by_cases c2 : w * h - 1 < c
    · rw [if_pos c2]
      exact ic_11z
    · rw [if_neg c2]
      exact ic_11o
theorem ev_isDoorAt {M : Mem} {e : Nat} {vs : List Value} {l : List Int32} {n c : Int32} (hM : gNth M 633 = some (.inr (11, vs))) (h5 : gNth vs 5 = some (.ref 635)) (hs : gNth M 635 = some (.inl (1, .inl l))) (sl : l.length = 2314) (h2 : gAt l 2 = some n) (n0 : 0 ≤ n.toInt) (n9 : n.toInt ≤ 9) : ∃ r : Int32, Ev none e 157 0 [some (.ref 633), some (.int c), none] [] M (some (.int r)) M 0 0 ∧ (r = 0 → ∀ (i : Nat) y, (i : Int) < n.toInt → gNth l (3 + i) = some y → y ≠ c) := by
  have main : ∀ (j dn : Nat) (d : Int32), d.toInt = (dn : Int) → n.toInt ≤ dn + (j : Int) → dn ≤ 9 → (∀ (i : Nat) y, i < dn → gNth l (3 + i) = some y → y ≠ c) → ∃ r : Int32, Ev none e 157 2 [some (.ref 633), some (.int c), some (.int d)] [] M (some (.int r)) M 0 0 ∧ (r = 0 → ∀ (i : Nat) y, (i : Int) < n.toInt → gNth l (3 + i) = some y → y ≠ c) := by
    intro j
    have fin : ∀ (dn : Nat) (d : Int32), d.toInt = (dn : Int) → n ≤ d → (∀ (i : Nat) y, i < dn → gNth l (3 + i) = some y → y ≠ c) → ∃ r : Int32, Ev none e 157 2 [some (.ref 633), some (.int c), some (.int d)] [] M (some (.int r)) M 0 0 ∧ (r = 0 → ∀ (i : Nat) y, (i : Int) < n.toInt → gNth l (3 + i) = some y → y ≠ c) := by
      intro dn d hd hle ho
      refine ⟨0, da_2 hM h5 hs h2 (by rw [if_pos hle]; exact da_32), fun _ i y hi hy => ho i y ?_ hy⟩
      rw [Int32.le_iff_toInt_le] at hle
      omega
    induction j with
    | zero =>
      intro dn d hd hn _ ho
      exact fin dn d hd (by rw [Int32.le_iff_toInt_le]; omega) ho
    | succ j ih =>
      intro dn d hd hn d9 ho
      by_cases hle : n ≤ d
      · exact fin dn d hd hle ho
      have hlt : d.toInt < n.toInt := by rw [Int32.le_iff_toInt_le] at hle; omega
      have o3 : (3 : Int32).toInt = 3 := rfl
      have e3 : (3 + d).toInt = ((3 + dn : Nat) : Int) := by
        rw [i32_add (by rw [o3]; omega) (by rw [o3]; omega), o3]
        omega
      obtain ⟨y, y1, y2⟩ := at_c (l := l) e3 (by omega)
      by_cases hy : y = c
      · exact ⟨1, da_2 hM h5 hs h2 (by rw [if_neg hle]; exact da_12 hM h5 hs y1 (by rw [if_pos hy]; exact da_24)), fun h => absurd h (by decide)⟩
      · have e1 : (d + 1).toInt = d.toInt + 1 := i32_p1 (by omega)
        obtain ⟨r, q1, q2⟩ := ih (dn + 1) (d + 1) (by omega) (by omega) (by omega) (fun i z hi hz => by
          by_cases hid : i = dn
          · subst hid
            cases y2.symm.trans hz
            exact hy
          · exact ho i z (by omega) hz)
        exact ⟨r, da_2 hM h5 hs h2 (by rw [if_neg hle]; exact da_12 hM h5 hs y1 (by rw [if_neg hy]; exact da_26 q1)), q2⟩
  obtain ⟨r, q1, q2⟩ := main 9 0 0 rfl (by omega) (by omega) (fun i y hi => by omega)
  exact ⟨r, da_0 q1, q2⟩
set_option maxRecDepth 100000 in
theorem sB_2 : sB 2 0 9 = true := by decide +kernel
set_option maxRecDepth 100000 in
theorem sB_d : ((List.range 9).all (fun i => sB (3 + i) 0 255)) = true := by decide +kernel
/-- a new door -/
theorem dsS.add {l : List Int32} (h : dsS l) (hl : l.length = 2314) {w hh n c : Int32} (h0 : gNth l 0 = some w) (h1 : gNth l 1 = some hh) (h2 : gNth l 2 = some n) {nn : Nat} (hn : n.toInt = (nn : Int)) (n8 : nn ≤ 8) (c2 : c.toInt < w.toInt * hh.toInt) (hc : ∀ (i : Nat) y, (i : Int) < n.toInt → gNth l (3 + i) = some y → y ≠ c) {n2 : Int32} (e2 : n2.toInt = n.toInt + 1) : dsS (gPut (gPut l (3 + nn) c) 2 n2) := by
  obtain ⟨_, hd⟩ := h w hh n h0 h1 h2
  intro w' h' n' q0 q1 q2
  rw [nth_put, if_neg (by omega), nth_put, if_neg (by omega)] at q0 q1
  rw [nth_put, if_pos ⟨rfl, by rw [put_len]; omega⟩] at q2
  cases h0.symm.trans q0
  cases h1.symm.trans q1
  cases q2
  refine ⟨by omega, fun i j hi hj => ?_⟩
  have get : ∀ i : Nat, (i : Int) < n2.toInt → ∃ a : Int32, gNth (gPut (gPut l (3 + nn) c) 2 n2) (3 + i) = some a ∧ a.toInt < w.toInt * hh.toInt ∧ ((i = nn ∧ a = c) ∨ (i < nn ∧ gNth l (3 + i) = some a)) := by
    intro i hi
    by_cases hin : i = nn
    · subst hin
      exact ⟨c, by rw [nth_put, if_neg (by omega), nth_put, if_pos ⟨rfl, by omega⟩], c2, Or.inl ⟨rfl, rfl⟩⟩
    · obtain ⟨a, b, a1, b1, a2, _⟩ := hd i i (by omega) (by omega)
      exact ⟨a, by rw [nth_put, if_neg (by omega), nth_put, if_neg (by omega)]; exact a1, a2, Or.inr ⟨by omega, a1⟩⟩
  obtain ⟨a, a1, a2, a3⟩ := get i hi
  obtain ⟨b, b1, b2, b3⟩ := get j hj
  refine ⟨a, b, a1, b1, a2, fun hij => ?_⟩
  rcases a3 with ⟨rfl, rfl⟩ | ⟨a3, a4⟩
  · rcases b3 with ⟨rfl, rfl⟩ | ⟨b3, b4⟩
    · exact absurd rfl hij
    · exact fun e => hc j b (by omega) b4 e.symm
  · rcases b3 with ⟨rfl, rfl⟩ | ⟨b3, b4⟩
    · exact hc i a (by omega) a4
    · obtain ⟨x, y, x1, y1, _, xy⟩ := hd i j (by omega) (by omega)
      cases a4.symm.trans x1
      cases b4.symm.trans y1
      exact xy hij
def kX11_door : CN := (156, 2, [.inr 1900, .inl (.negSucc 2147483647, .ofNat 2147483647)], [], [(28, [])], [(11, 0), (1063, 0)], [(some (.inl (.negSucc 0, .ofNat 8)), [], [], [(28, [])], [])])
set_option maxRecDepth 100000 in
theorem mR_156 : (gNth mRs 156).map (fun q => q.2.2.2.1) = some 2 := by decide +kernel
theorem kX11_door_ok : cnOK sT sG FL0 kX11_door := by
  intro d M ws q hd hq ha hp hT
  have hm := mR_156
  have hq' : gNth mRs 156 = some q := hq
  rw [hq'] at hm
  have hm : q.2.2.2.1 = 2 := Option.some.inj hm
  obtain ⟨e, rfl⟩ : ∃ e, d = e + 2 := ⟨d - 2, by have : 2 ≤ d := hd; omega⟩
  rcases ws with _ | ⟨a, _ | ⟨b, _ | ⟨b2, r⟩⟩⟩
  · exact ha.elim
  · exact ha.2.elim
  · obtain ⟨k1, ⟨c, rfl, _, _⟩, _⟩ := ha
    have k1 : a = .ref 633 := k1
    subst k1
    obtain ⟨hv, hv0, hfl⟩ := hp
    obtain ⟨y28, z28, h28⟩ := hfl (28, []) (List.mem_cons_self ..)
    obtain ⟨vs, hM, hlen, hT1⟩ := hT.thr
    obtain ⟨M1, e1⟩ : ∃ M1, M1 = gPut M 633 (.inr (11, gPut vs 0 (.int 0))) := ⟨_, rfl⟩
    rw [← e1] at hT1
    have hF1 : Frm sT [(11, 0), (1063, 0)] M M1 := by rw [e1]; exact Frm.fld hM (by decide)
    have hF0 : Frm sT [(11, 0)] M M1 := by rw [e1]; exact Frm.fld hM (by decide)
    have h28 := dp0_frm 0 28 _ _ _ _ hF0 (by decide) h28
    obtain ⟨t2, l2, p1, p2, p3⟩ := fl0_28 h28
    obtain ⟨vs1, l, w, hh, m1, m2, m3, m4, m5, w1, w2, h1, h2⟩ := hT1.s_ref
    obtain ⟨vs1', l', m1', _, m3', sl⟩ := hT1.s_all
    have el : l' = l := by cases m3.symm.trans m3'; rfl
    subst el
    have el : l2 = l' := by cases p1.symm.trans m3; rfl
    subst el
    have none_ : (∀ v M', Ev none (e + 2) 156 40 [some (.ref 633), some (.int c)] [] M1 v M' 0 0 → Ev none (e + 2) 156 0 (gPad 2 (gArgs [.ref 633, .int c])) [] M v M' 0 0) → ∃ v M', Ev none (e + 2) kX11_door.1 0 (gPad 2 (gArgs [.ref 633, .int c])) [] M v M' 0 0 ∧ TM sT sG M' ∧ Frm sT kX11_door.2.2.2.2.2.1 M M' ∧ ∃ s ∈ kX11_door.2.2.2.2.2.2, csOK sT FL0 [.ref 633, .int c] v M' s ∧ dlOK kX11_door.1 M M' := by
      intro h
      refine ⟨some (.int (-1)), M1, h _ _ dr_40, hT1, hF1, _, List.mem_cons_self .., ⟨⟨-1, rfl, by decide, by decide⟩, fun q hq => (by cases hq), [], trivial, fun f hf => ?_, fun q hq => (by cases hq)⟩, cn_D rfl⟩
      cases List.mem_singleton.mp hf
      exact ⟨[], trivial, h28⟩
    rw [hm]
    have g0 : gNth l2 0 = some w := m4
    have g1 : gNth l2 1 = some hh := m5
    obtain ⟨n, n1, n2⟩ := at_c (l := l2) (j := 2) (kn := 2) rfl (by omega)
    obtain ⟨n0, n9⟩ := hT1.s_in m3 sB_2 n2
    by_cases hn9 : n = 9
    · exact none_ (fun v M' h => dr_0 hM hlen (by rw [← e1]; exact dr_5 m1 m2 m3 n1 (by rw [if_pos hn9]; exact h)))
    have n8 : n.toInt ≤ 8 := by
      rcases Int.lt_or_le n.toInt 9 with h | h
      · omega
      · exact absurd (Int32.toInt_inj.mp (show n.toInt = (9 : Int32).toInt from by show n.toInt = 9; omega)) hn9
    have cc := ev_isCell (e := e) (c := c) m1 m2 m3 m4 m5
    rcases isin_01 c 0 (w * hh - 1) with hz | ⟨c0, c9, hz⟩
    · rw [hz] at cc
      exact none_ (fun v M' h => dr_0 hM hlen (by rw [← e1]; exact dr_5 m1 m2 m3 n1 (by rw [if_neg hn9]; exact dr_16 (Ev.call0 (fun n => gs_7 rfl rfl (cal_ic m1 rfl)) cc (dr_21 (by rw [if_pos rfl]; exact h))))))
    rw [hz] at cc
    rw [Int32.le_iff_toInt_le] at c0 c9
    have o0 : (0 : Int32).toInt = 0 := rfl
    have b1 : w.toInt * hh.toInt ≤ 256 := by
      have := Int.mul_le_mul w2 h2 (by omega) (by omega)
      omega
    have b0 : 16 ≤ w.toInt * hh.toInt := by
      have := Int.mul_le_mul w1 h1 (by omega) (by omega)
      omega
    have wh : (w * hh).toInt = w.toInt * hh.toInt := i32_mul (by omega) (by omega)
    have wh1 : (w * hh - 1).toInt = w.toInt * hh.toInt - 1 := by rw [i32_m1 (by omega), wh]
    obtain ⟨kc, hkc⟩ := cell_k hT1 sl (c := c) (by omega) (by omega)
    have bb := ev_bears (e := e) m1 m2 m3 hkc
    obtain ⟨z, ez⟩ : ∃ z : Int32, z = if kc = 3 then 0 else if kc = 6 then 0 else 1 := ⟨_, rfl⟩
    rw [← ez] at bb
    by_cases hz0 : z = 0
    · exact none_ (fun v M' h => dr_0 hM hlen (by rw [← e1]; exact dr_5 m1 m2 m3 n1 (by rw [if_neg hn9]; exact dr_16 (Ev.call0 (fun n => gs_7 rfl rfl (cal_ic m1 rfl)) cc (dr_21 (by rw [if_neg (by decide)]; exact dr_24 (Ev.call0 (fun n => gs_7 rfl rfl (cal_be m1 rfl)) bb (dr_29 (by rw [if_pos hz0]; exact h)))))))))
    obtain ⟨r, dd, hr⟩ := ev_isDoorAt (e := e + 1) (c := c) m1 m2 m3 sl n1 n0 n9
    by_cases hr0 : ¬ r = 0
    · exact none_ (fun v M' h => dr_0 hM hlen (by rw [← e1]; exact dr_5 m1 m2 m3 n1 (by rw [if_neg hn9]; exact dr_16 (Ev.call0 (fun n => gs_7 rfl rfl (cal_ic m1 rfl)) cc (dr_21 (by rw [if_neg (by decide)]; exact dr_24 (Ev.call0 (fun n => gs_7 rfl rfl (cal_be m1 rfl)) bb (dr_29 (by rw [if_neg hz0]; exact dr_32 (Ev.call0 (fun n => gs_7 rfl rfl (cal_da m1 rfl)) dd (dr_37 (by rw [if_neg hr0]; exact h))))))))))))
    have hr0 : r = 0 := Decidable.not_not.mp hr0
    obtain ⟨nn, hnn⟩ : ∃ nn : Nat, n.toInt = (nn : Int) := ⟨n.toInt.toNat, by omega⟩
    have o3 : (3 : Int32).toInt = 3 := rfl
    have e3 : (3 + n).toInt = ((3 + nn : Nat) : Int) := by
      rw [i32_add (by rw [o3]; omega) (by rw [o3]; omega), o3]
      omega
    obtain ⟨y, y1, y2⟩ := at_c (l := l2) e3 (by omega)
    obtain ⟨n2', en2⟩ : ∃ n2', n2' = n + 1 := ⟨_, rfl⟩
    have dn2 : n2'.toInt = n.toInt + 1 := by rw [en2]; exact i32_p1 (by omega)
    have hB3 := List.all_eq_true.mp sB_d nn (List.mem_range.mpr (by omega))
    have hT2 := hT1.s_1 m3 hB3 (y := c) (by omega) (by omega)
    have m3b : gNth (gPut M1 635 (.inl (1, .inl (gPut l2 (3 + nn) c)))) 635 = some (.inl (1, .inl (gPut l2 (3 + nn) c))) := by
      rw [nth_put, if_pos ⟨rfl, gNth_lt _ _ _ m3⟩]
    have hT3 := hT2.s_1 m3b sB_2 (y := n2') (by omega) (by omega)
    have m3c : gNth (gPut (gPut M1 635 (.inl (1, .inl (gPut l2 (3 + nn) c)))) 635 (.inl (1, .inl (gPut (gPut l2 (3 + nn) c) 2 n2')))) 635 = some (.inl (1, .inl (gPut (gPut l2 (3 + nn) c) 2 n2'))) := by
      rw [nth_put, if_pos ⟨rfl, gNth_lt _ _ _ m3b⟩]
    have hMb : ∀ {x : AE}, gNth (gPut M1 635 x) 633 = some (.inr (11, vs1)) := fun {x} => by rw [nth_put, if_neg (fun q => absurd q.1 (by decide))]; exact m1
    have hMc : ∀ {x y : AE}, gNth (gPut (gPut M1 635 x) 635 y) 633 = some (.inr (11, vs1)) := fun {x y} => by rw [nth_put, if_neg (fun q => absurd q.1 (by decide))]; exact hMb
    have n1b : gAt (gPut l2 (3 + nn) c) 2 = some n := by
      rw [at_nn (kn := 2) rfl, nth_put, if_neg (by omega)]
      exact n2
    have n1c : gAt (gPut (gPut l2 (3 + nn) c) 2 n2') 2 = some n2' := by
      rw [at_nn (kn := 2) rfl, nth_put, if_pos ⟨rfl, by rw [put_len]; omega⟩]
    have d3 : (n2' - 1).toInt = n.toInt := by rw [i32_m1 (by omega), dn2]; omega
    refine ⟨some (.int (n2' - 1)), _, dr_0 hM hlen (by rw [← e1]; exact dr_5 m1 m2 m3 n1 (by rw [if_neg hn9]; exact dr_16 (Ev.call0 (fun n => gs_7 rfl rfl (cal_ic m1 rfl)) cc (dr_21 (by rw [if_neg (by decide)]; exact dr_24 (Ev.call0 (fun n => gs_7 rfl rfl (cal_be m1 rfl)) bb (dr_29 (by rw [if_neg hz0]; exact dr_32 (Ev.call0 (fun n => gs_7 rfl rfl (cal_da m1 rfl)) dd (dr_37 (by rw [if_pos hr0]; exact dr_42 m1 m2 m3 n1 y1 (by
      rw [cl_n e3]
      refine dr_56 hMb m2 m3b n1b ?_
      rw [← en2, cl_n (kn := 2) rfl]
      exact dr_66 hMc m2 m3c n1c)))))))))))), hT3, (hF1.trans (Frm.row m3 sT_635 (by decide))).trans (Frm.row m3b sT_635 (by decide)), _, List.mem_cons_self .., ⟨⟨_, rfl, by show (-1 : Int) ≤ _; omega, by show _ ≤ (8 : Int); omega⟩, fun q hq => (by cases hq), [], trivial, fun f hf => ?_, fun q hq => (by cases hq)⟩, cn_D rfl⟩
    cases List.mem_singleton.mp hf
    exact ⟨[], trivial, (show FL0 28 [] _ from ⟨1, _, m3c, (p2.put (Or.inl (by omega))).put (Or.inl (by omega)), p3.add sl g0 g1 n2 hnn (by omega) (by omega) (hr hr0) dn2⟩)⟩
  · exact ha.2.2.elim
