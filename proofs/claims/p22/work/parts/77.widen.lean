/-! BY HAND: widen of the reference -/
theorem wd_0 {e : Nat} {M : Mem} {M' : Mem} {v : Option Value} {fr n : Int32}  (hz : Ev none (e + 3) 226 2 [some (.ref 633), some (.int fr), some (.int n), some (.int 1), none, none, none] [] M v M' 0 0) : Ev none (e + 3) 226 0 [some (.ref 633), some (.int fr), some (.int n), none, none, none, none] [] M v M' 0 0 := by
  refine Ev.step (pc' := 2) (ls' := [some (.ref 633), some (.int fr), some (.int n), some (.int 1), none, none, none]) (st' := []) (M1 := M) 2 (fun n => rfl) ?_
  exact hz
theorem wd_2 {e : Nat} {M : Mem} {M' : Mem} {v : Option Value} {fr mo n : Int32} {x4 x5 x6 : Option Value}  (hz : Ev none (e + 3) 226 (if mo = 0 then 133 else 6) [some (.ref 633), some (.int fr), some (.int n), some (.int mo), x4, x5, x6] [] M v M' 0 0) : Ev none (e + 3) 226 2 [some (.ref 633), some (.int fr), some (.int n), some (.int mo), x4, x5, x6] [] M v M' 0 0 := by
  refine Ev.step (pc' := (if mo = 0 then 133 else 6)) (ls' := [some (.ref 633), some (.int fr), some (.int n), some (.int mo), x4, x5, x6]) (st' := []) (M1 := M) 2 (fun n => rfl) ?_
  exact hz
theorem wd_133 {e : Nat} {M : Mem} {fr mo n : Int32} {x4 x5 x6 : Option Value}  : Ev none (e + 3) 226 133 [some (.ref 633), some (.int fr), some (.int n), some (.int mo), x4, x5, x6] [] M none M 0 0 := by
  exact Ev.ret (fun n => rfl)
theorem wd_6 {e : Nat} {M : Mem} {M' : Mem} {v : Option Value} {fr mo n : Int32} {x4 x5 x6 : Option Value}  (hz : Ev none (e + 3) 226 11 [some (.ref 633), some (.int fr), some (.int n), some (.int 0), some (.int 0), x5, x6] [] M v M' 0 0) : Ev none (e + 3) 226 6 [some (.ref 633), some (.int fr), some (.int n), some (.int mo), x4, x5, x6] [] M v M' 0 0 := by
  refine Ev.step (pc' := 11) (ls' := [some (.ref 633), some (.int fr), some (.int n), some (.int 0), some (.int 0), x5, x6]) (st' := []) (M1 := M) 4 (fun n => rfl) ?_
  exact hz
theorem wd_11 {e : Nat} {M : Mem} {M' : Mem} {v : Option Value} {c fr mo n : Int32} {x5 x6 : Option Value}  (hz : Ev none (e + 3) 226 (if n ≤ c then 130 else 17) [some (.ref 633), some (.int fr), some (.int n), some (.int mo), some (.int c), x5, x6] [] M v M' 0 0) : Ev none (e + 3) 226 11 [some (.ref 633), some (.int fr), some (.int n), some (.int mo), some (.int c), x5, x6] [] M v M' 0 0 := by
  refine Ev.step (pc' := (if n ≤ c then 130 else 17)) (ls' := [some (.ref 633), some (.int fr), some (.int n), some (.int mo), some (.int c), x5, x6]) (st' := []) (M1 := M) 3 (fun n => rfl) ?_
  exact hz
theorem wd_130 {e : Nat} {M : Mem} {M' : Mem} {v : Option Value} {c fr mo n : Int32} {x5 x6 : Option Value}  (hz : Ev none (e + 3) 226 2 [some (.ref 633), some (.int fr), some (.int n), some (.int mo), some (.int c), x5, x6] [] M v M' 0 0) : Ev none (e + 3) 226 130 [some (.ref 633), some (.int fr), some (.int n), some (.int mo), some (.int c), x5, x6] [] M v M' 0 0 := by
  refine Ev.step (pc' := 2) (ls' := [some (.ref 633), some (.int fr), some (.int n), some (.int mo), some (.int c), x5, x6]) (st' := []) (M1 := M) 1 (fun n => rfl) ?_
  exact hz
theorem wd_17 {e : Nat} {M : Mem} {M' : Mem} {v : Option Value} {c fr mo n : Int32} {x5 x6 : Option Value}  (hz : Ev none (e + 3) 226 20 [some (.ref 633), some (.int fr), some (.int n), some (.int mo), some (.int c), some (.int 0), x6] [] M v M' 0 0) : Ev none (e + 3) 226 17 [some (.ref 633), some (.int fr), some (.int n), some (.int mo), some (.int c), x5, x6] [] M v M' 0 0 := by
  refine Ev.step (pc' := 20) (ls' := [some (.ref 633), some (.int fr), some (.int n), some (.int mo), some (.int c), some (.int 0), x6]) (st' := []) (M1 := M) 2 (fun n => rfl) ?_
  exact hz
theorem wd_20 {e : Nat} {M : Mem} {M' : Mem} {v : Option Value} {c d fr mo n : Int32} {x6 : Option Value}  (hz : Ev none (e + 3) 226 (if 8 ≤ d then 124 else 27) [some (.ref 633), some (.int fr), some (.int n), some (.int mo), some (.int c), some (.int d), x6] [] M v M' 0 0) : Ev none (e + 3) 226 20 [some (.ref 633), some (.int fr), some (.int n), some (.int mo), some (.int c), some (.int d), x6] [] M v M' 0 0 := by
  refine Ev.step (pc' := (if 8 ≤ d then 124 else 27)) (ls' := [some (.ref 633), some (.int fr), some (.int n), some (.int mo), some (.int c), some (.int d), x6]) (st' := []) (M1 := M) 3 (fun n => rfl) ?_
  exact hz
theorem wd_124 {e : Nat} {M : Mem} {M' : Mem} {v : Option Value} {c d fr mo n : Int32} {x6 : Option Value}  (hz : Ev none (e + 3) 226 11 [some (.ref 633), some (.int fr), some (.int n), some (.int mo), some (.int (c + 1)), some (.int d), x6] [] M v M' 0 0) : Ev none (e + 3) 226 124 [some (.ref 633), some (.int fr), some (.int n), some (.int mo), some (.int c), some (.int d), x6] [] M v M' 0 0 := by
  refine Ev.step (pc' := 11) (ls' := [some (.ref 633), some (.int fr), some (.int n), some (.int mo), some (.int (c + 1)), some (.int d), x6]) (st' := []) (M1 := M) 2 (fun n => rfl) ?_
  exact hz
theorem wd_27 {e : Nat} {M : Mem} {M' : Mem} {v : Option Value} {c d fr mo n : Int32} {x6 : Option Value}  (hz : Ev none (e + 3) 226 30 [some (.ref 633), some (.int fr), some (.int n), some (.int mo), some (.int c), some (.int d), x6] [.int c, .ref 633] M v M' 0 0) : Ev none (e + 3) 226 27 [some (.ref 633), some (.int fr), some (.int n), some (.int mo), some (.int c), some (.int d), x6] [] M v M' 0 0 := by
  refine Ev.step (pc' := 30) (ls' := [some (.ref 633), some (.int fr), some (.int n), some (.int mo), some (.int c), some (.int d), x6]) (st' := [.int c, .ref 633]) (M1 := M) 2 (fun n => rfl) ?_
  exact hz
theorem wd_33 {e : Nat} {M : Mem} {M' : Mem} {v : Option Value} {c d fr mo n z : Int32} {x6 : Option Value}  (hz : Ev none (e + 3) 226 (if z = 0 then 124 else 36) [some (.ref 633), some (.int fr), some (.int n), some (.int mo), some (.int c), some (.int d), x6] [] M v M' 0 0) : Ev none (e + 3) 226 33 [some (.ref 633), some (.int fr), some (.int n), some (.int mo), some (.int c), some (.int d), x6] [.int z] M v M' 0 0 := by
  refine Ev.step (pc' := (if z = 0 then 124 else 36)) (ls' := [some (.ref 633), some (.int fr), some (.int n), some (.int mo), some (.int c), some (.int d), x6]) (st' := []) (M1 := M) 1 (fun n => rfl) ?_
  exact hz
theorem wd_36 {e : Nat} {M : Mem} {M' : Mem} {v : Option Value} {c d fr mo n : Int32} {x6 : Option Value}  (hz : Ev none (e + 3) 226 41 [some (.ref 633), some (.int fr), some (.int n), some (.int mo), some (.int c), some (.int d), x6] [.int d, .int c, .ref 633] M v M' 0 0) : Ev none (e + 3) 226 36 [some (.ref 633), some (.int fr), some (.int n), some (.int mo), some (.int c), some (.int d), x6] [] M v M' 0 0 := by
  refine Ev.step (pc' := 41) (ls' := [some (.ref 633), some (.int fr), some (.int n), some (.int mo), some (.int c), some (.int d), x6]) (st' := [.int d, .int c, .ref 633]) (M1 := M) 3 (fun n => rfl) ?_
  exact hz
theorem wd_44 {e : Nat} {M : Mem} {M' : Mem} {v : Option Value} {c d fr mo n z : Int32} {x6 : Option Value}  (hz : Ev none (e + 3) 226 (if z < 0 then 118 else 51) [some (.ref 633), some (.int fr), some (.int n), some (.int mo), some (.int c), some (.int d), some (.int z)] [] M v M' 0 0) : Ev none (e + 3) 226 44 [some (.ref 633), some (.int fr), some (.int n), some (.int mo), some (.int c), some (.int d), x6] [.int z] M v M' 0 0 := by
  refine Ev.step (pc' := (if z < 0 then 118 else 51)) (ls' := [some (.ref 633), some (.int fr), some (.int n), some (.int mo), some (.int c), some (.int d), some (.int z)]) (st' := []) (M1 := M) 3 (fun n => rfl) ?_
  exact hz
theorem wd_51 {e : Nat} {M : Mem} {M' : Mem} {v : Option Value} {c d fr mo n o : Int32}  (hz : Ev none (e + 3) 226 54 [some (.ref 633), some (.int fr), some (.int n), some (.int mo), some (.int c), some (.int d), some (.int o)] [.int o, .ref 633] M v M' 0 0) : Ev none (e + 3) 226 51 [some (.ref 633), some (.int fr), some (.int n), some (.int mo), some (.int c), some (.int d), some (.int o)] [] M v M' 0 0 := by
  refine Ev.step (pc' := 54) (ls' := [some (.ref 633), some (.int fr), some (.int n), some (.int mo), some (.int c), some (.int d), some (.int o)]) (st' := [.int o, .ref 633]) (M1 := M) 2 (fun n => rfl) ?_
  exact hz
theorem wd_57 {e : Nat} {M : Mem} {M' : Mem} {v : Option Value} {c d fr mo n o z : Int32}  (hz : Ev none (e + 3) 226 (if z = 0 then 118 else 60) [some (.ref 633), some (.int fr), some (.int n), some (.int mo), some (.int c), some (.int d), some (.int o)] [] M v M' 0 0) : Ev none (e + 3) 226 57 [some (.ref 633), some (.int fr), some (.int n), some (.int mo), some (.int c), some (.int d), some (.int o)] [.int z] M v M' 0 0 := by
  refine Ev.step (pc' := (if z = 0 then 118 else 60)) (ls' := [some (.ref 633), some (.int fr), some (.int n), some (.int mo), some (.int c), some (.int d), some (.int o)]) (st' := []) (M1 := M) 1 (fun n => rfl) ?_
  exact hz
theorem wd_60 {e : Nat} {M : Mem} {M' : Mem} {v : Option Value} {vs : List Value} {c d fr mo n o y1 : Int32} {l654 : List Int32} (hM : gNth M 633 = some (.inr (11, vs))) (v47 : gNth vs 47 = some (.ref 654)) (r654 : gNth M 654 = some (.inl (1, .inl l654))) (g1 : gAt l654 (fr + o) = some y1) (hz : Ev none (e + 3) 226 72 [some (.ref 633), some (.int fr), some (.int n), some (.int mo), some (.int c), some (.int d), some (.int o)] [.int c, .ref 633, .int y1] M v M' 0 0) : Ev none (e + 3) 226 60 [some (.ref 633), some (.int fr), some (.int n), some (.int mo), some (.int c), some (.int d), some (.int o)] [] M v M' 0 0 := by
  refine Ev.step (pc' := 61) (ls' := [some (.ref 633), some (.int fr), some (.int n), some (.int mo), some (.int c), some (.int d), some (.int o)]) (st' := [.ref 633]) (M1 := M) 1 (fun n => rfl) ?_
  refine Ev.step 1 (gs_3 rfl rfl (gf_g rfl hM v47)) ?_
  refine Ev.step (pc' := 68) (ls' := [some (.ref 633), some (.int fr), some (.int n), some (.int mo), some (.int c), some (.int d), some (.int o)]) (st' := [.int (fr + o), .ref 654]) (M1 := M) 3 (fun n => rfl) ?_
  refine Ev.step 1 (gs_3 rfl rfl (ia_g r654 g1)) ?_
  refine Ev.step (pc' := 72) (ls' := [some (.ref 633), some (.int fr), some (.int n), some (.int mo), some (.int c), some (.int d), some (.int o)]) (st' := [.int c, .ref 633, .int y1]) (M1 := M) 2 (fun n => rfl) ?_
  exact hz
theorem wd_75 {e : Nat} {M : Mem} {M' : Mem} {v : Option Value} {vs : List Value} {c d fr mo n o x y1 z : Int32} {l654 : List Int32} (hM : gNth M 633 = some (.inr (11, vs))) (v47 : gNth vs 47 = some (.ref 654)) (r654 : gNth M 654 = some (.inl (1, .inl l654))) (g1 : gAt l654 (fr + c) = some y1) (hz : Ev none (e + 3) 226 (if (x + z) < y1 then 91 else 88) [some (.ref 633), some (.int fr), some (.int n), some (.int mo), some (.int c), some (.int d), some (.int o)] [] M v M' 0 0) : Ev none (e + 3) 226 75 [some (.ref 633), some (.int fr), some (.int n), some (.int mo), some (.int c), some (.int d), some (.int o)] [.int z, .int x] M v M' 0 0 := by
  refine Ev.step (pc' := 77) (ls' := [some (.ref 633), some (.int fr), some (.int n), some (.int mo), some (.int c), some (.int d), some (.int o)]) (st' := [.ref 633, .int (x + z)]) (M1 := M) 2 (fun n => rfl) ?_
  refine Ev.step 1 (gs_3 rfl rfl (gf_g rfl hM v47)) ?_
  refine Ev.step (pc' := 84) (ls' := [some (.ref 633), some (.int fr), some (.int n), some (.int mo), some (.int c), some (.int d), some (.int o)]) (st' := [.int (fr + c), .ref 654, .int (x + z)]) (M1 := M) 3 (fun n => rfl) ?_
  refine Ev.step 1 (gs_3 rfl rfl (ia_g r654 g1)) ?_
  refine Ev.step (pc' := (if (x + z) < y1 then 91 else 88)) (ls' := [some (.ref 633), some (.int fr), some (.int n), some (.int mo), some (.int c), some (.int d), some (.int o)]) (st' := []) (M1 := M) 1 (fun n => rfl) ?_
  exact hz
theorem wd_88 {e : Nat} {M : Mem} {M' : Mem} {v : Option Value} {c d fr mo n o : Int32}  (hz : Ev none (e + 3) 226 118 [some (.ref 633), some (.int fr), some (.int n), some (.int mo), some (.int c), some (.int d), some (.int o)] [] M v M' 0 0) : Ev none (e + 3) 226 88 [some (.ref 633), some (.int fr), some (.int n), some (.int mo), some (.int c), some (.int d), some (.int o)] [] M v M' 0 0 := by
  refine Ev.step (pc' := 118) (ls' := [some (.ref 633), some (.int fr), some (.int n), some (.int mo), some (.int c), some (.int d), some (.int o)]) (st' := []) (M1 := M) 1 (fun n => rfl) ?_
  exact hz
theorem wd_91 {e : Nat} {M : Mem} {M' : Mem} {v : Option Value} {vs : List Value} {c d fr mo n o y1 : Int32} {l654 : List Int32} (hM : gNth M 633 = some (.inr (11, vs))) (v47 : gNth vs 47 = some (.ref 654)) (r654 : gNth M 654 = some (.inl (1, .inl l654))) (g1 : gAt l654 (fr + o) = some y1) (hz : Ev none (e + 3) 226 111 [some (.ref 633), some (.int fr), some (.int n), some (.int mo), some (.int c), some (.int d), some (.int o)] [.int c, .ref 633, .int y1, .int (fr + c), .ref 654] M v M' 0 0) : Ev none (e + 3) 226 91 [some (.ref 633), some (.int fr), some (.int n), some (.int mo), some (.int c), some (.int d), some (.int o)] [] M v M' 0 0 := by
  refine Ev.step (pc' := 92) (ls' := [some (.ref 633), some (.int fr), some (.int n), some (.int mo), some (.int c), some (.int d), some (.int o)]) (st' := [.ref 633]) (M1 := M) 1 (fun n => rfl) ?_
  refine Ev.step 1 (gs_3 rfl rfl (gf_g rfl hM v47)) ?_
  refine Ev.step (pc' := 100) (ls' := [some (.ref 633), some (.int fr), some (.int n), some (.int mo), some (.int c), some (.int d), some (.int o)]) (st' := [.ref 633, .int (fr + c), .ref 654]) (M1 := M) 4 (fun n => rfl) ?_
  refine Ev.step 1 (gs_3 rfl rfl (gf_g rfl hM v47)) ?_
  refine Ev.step (pc' := 107) (ls' := [some (.ref 633), some (.int fr), some (.int n), some (.int mo), some (.int c), some (.int d), some (.int o)]) (st' := [.int (fr + o), .ref 654, .int (fr + c), .ref 654]) (M1 := M) 3 (fun n => rfl) ?_
  refine Ev.step 1 (gs_3 rfl rfl (ia_g r654 g1)) ?_
  refine Ev.step (pc' := 111) (ls' := [some (.ref 633), some (.int fr), some (.int n), some (.int mo), some (.int c), some (.int d), some (.int o)]) (st' := [.int c, .ref 633, .int y1, .int (fr + c), .ref 654]) (M1 := M) 2 (fun n => rfl) ?_
  exact hz
theorem wd_114 {e : Nat} {M : Mem} {M' : Mem} {v : Option Value} {c d fr mo n o x y1 z : Int32} {l654 : List Int32} (r654 : gNth M 654 = some (.inl (1, .inl l654))) (g1 : gAt l654 (fr + c) = some y1) (hz : Ev none (e + 3) 226 118 [some (.ref 633), some (.int fr), some (.int n), some (.int 1), some (.int c), some (.int d), some (.int o)] [] (gPut M 654 (.inl (1, .inl (gPut l654 (fr + c).toNatClampNeg (x + z))))) v M' 0 0) : Ev none (e + 3) 226 114 [some (.ref 633), some (.int fr), some (.int n), some (.int mo), some (.int c), some (.int d), some (.int o)] [.int z, .int x, .int (fr + c), .ref 654] M v M' 0 0 := by
  refine Ev.step (pc' := 115) (ls' := [some (.ref 633), some (.int fr), some (.int n), some (.int mo), some (.int c), some (.int d), some (.int o)]) (st' := [.int (x + z), .int (fr + c), .ref 654]) (M1 := M) 1 (fun n => rfl) ?_
  refine Ev.step 1 (gs_4 rfl rfl (is_g r654 g1)) ?_
  refine Ev.step (pc' := 118) (ls' := [some (.ref 633), some (.int fr), some (.int n), some (.int 1), some (.int c), some (.int d), some (.int o)]) (st' := []) (M1 := (gPut M 654 (.inl (1, .inl (gPut l654 (fr + c).toNatClampNeg (x + z)))))) 2 (fun n => rfl) ?_
  exact hz
theorem wd_118 {e : Nat} {M : Mem} {M' : Mem} {v : Option Value} {c d fr mo n : Int32} {x6 : Option Value}  (hz : Ev none (e + 3) 226 20 [some (.ref 633), some (.int fr), some (.int n), some (.int mo), some (.int c), some (.int (d + 1)), x6] [] M v M' 0 0) : Ev none (e + 3) 226 118 [some (.ref 633), some (.int fr), some (.int n), some (.int mo), some (.int c), some (.int d), x6] [] M v M' 0 0 := by
  refine Ev.step (pc' := 20) (ls' := [some (.ref 633), some (.int fr), some (.int n), some (.int mo), some (.int c), some (.int (d + 1)), x6]) (st' := []) (M1 := M) 2 (fun n => rfl) ?_
  exact hz
theorem be_0 {e : Nat} {M : Mem} {M' : Mem} {v : Option Value} {c : Int32}  (hz : Ev none (e + 1) 148 3 [some (.ref 633), some (.int c)] [.int 0, .int c, .ref 633] M v M' 0 0) : Ev none (e + 1) 148 0 [some (.ref 633), some (.int c)] [] M v M' 0 0 := by
  refine Ev.step (pc' := 3) (ls' := [some (.ref 633), some (.int c)]) (st' := [.int 0, .int c, .ref 633]) (M1 := M) 3 (fun n => rfl) ?_
  exact hz
theorem cal_be {M : Mem} {vs : List Value} {a0 : Int32} {rest : List Value} (hM : gNth M 633 = some (.inr (11, vs))) (hr : gRoom rest = true) : gCal (.invokevirtual 158) 11 (.int a0 :: .ref 633 :: rest) M = some (.inr (148, [some (.ref 633), some (.int a0)], rest)) := by
  show @cond (Option ((List Value × Mem) ⊕ (Nat × Lo × List Value))) (true && gRecv M (.ref 633) 11 && gRoom rest && true) (some (.inr (148, [some (.ref 633), some (.int a0)], rest))) none = _
  rw [recv_ok hM, hr]
  rfl
theorem cal_bs {M : Mem} {vs : List Value} {a0 a1 : Int32} {rest : List Value} (hM : gNth M 633 = some (.inr (11, vs))) (hr : gRoom rest = true) : gCal (.invokevirtual 380) 11 (.int a1 :: .int a0 :: .ref 633 :: rest) M = some (.inr (194, [some (.ref 633), some (.int a0), some (.int a1), none, none], rest)) := by
  show @cond (Option ((List Value × Mem) ⊕ (Nat × Lo × List Value))) (true && gRecv M (.ref 633) 11 && gRoom rest && true) (some (.inr (194, [some (.ref 633), some (.int a0), some (.int a1), none, none], rest))) none = _
  rw [recv_ok hM, hr]
  rfl
theorem cal_pr {M : Mem} {vs : List Value} {a0 : Int32} {rest : List Value} (hM : gNth M 633 = some (.inr (11, vs))) (hr : gRoom rest = true) : gCal (.invokevirtual 463) 11 (.int a0 :: .ref 633 :: rest) M = some (.inr (224, [some (.ref 633), some (.int a0)], rest)) := by
  show @cond (Option ((List Value × Mem) ⊕ (Nat × Lo × List Value))) (true && gRecv M (.ref 633) 11 && gRoom rest && true) (some (.inr (224, [some (.ref 633), some (.int a0)], rest))) none = _
  rw [recv_ok hM, hr]
  rfl
theorem be_6 {e : Nat} {M : Mem} {M' : Mem} {v : Option Value} {c z : Int32}  (hz : Ev none e 148 (if z = 3 then 25 else 10) [some (.ref 633), some (.int c)] [] M v M' 0 0) : Ev none e 148 6 [some (.ref 633), some (.int c)] [.int z] M v M' 0 0 := by
  refine Ev.step (pc' := (if z = 3 then 25 else 10)) (ls' := [some (.ref 633), some (.int c)]) (st' := []) (M1 := M) 2 (fun n => rfl) ?_
  exact hz
theorem be_10 {e : Nat} {M : Mem} {M' : Mem} {v : Option Value} {c : Int32}  (hz : Ev none (e + 1) 148 13 [some (.ref 633), some (.int c)] [.int 0, .int c, .ref 633] M v M' 0 0) : Ev none (e + 1) 148 10 [some (.ref 633), some (.int c)] [] M v M' 0 0 := by
  refine Ev.step (pc' := 13) (ls' := [some (.ref 633), some (.int c)]) (st' := [.int 0, .int c, .ref 633]) (M1 := M) 3 (fun n => rfl) ?_
  exact hz
theorem be_16 {e : Nat} {M : Mem} {M' : Mem} {v : Option Value} {c z : Int32}  (hz : Ev none e 148 (if z = 6 then 25 else 21) [some (.ref 633), some (.int c)] [] M v M' 0 0) : Ev none e 148 16 [some (.ref 633), some (.int c)] [.int z] M v M' 0 0 := by
  refine Ev.step (pc' := (if z = 6 then 25 else 21)) (ls' := [some (.ref 633), some (.int c)]) (st' := []) (M1 := M) 2 (fun n => rfl) ?_
  exact hz
theorem be_21 {e : Nat} {M : Mem} {c : Int32}  : Ev none e 148 21 [some (.ref 633), some (.int c)] [] M (some (.int 1)) M 0 0 := by
  refine Ev.step (pc' := 26) (ls' := [some (.ref 633), some (.int c)]) (st' := [.int 1]) (M1 := M) 2 (fun n => rfl) ?_
  exact Ev.ret (fun n => rfl)
theorem be_25 {e : Nat} {M : Mem} {c : Int32}  : Ev none e 148 25 [some (.ref 633), some (.int c)] [] M (some (.int 0)) M 0 0 := by
  refine Ev.step (pc' := 26) (ls' := [some (.ref 633), some (.int c)]) (st' := [.int 0]) (M1 := M) 1 (fun n => rfl) ?_
  exact Ev.ret (fun n => rfl)
theorem ev_bears {M : Mem} {e : Nat} {vs : List Value} {l : List Int32} {c y : Int32} (hM : gNth M 633 = some (.inr (11, vs))) (h5 : gNth vs 5 = some (.ref 635)) (hs : gNth M 635 = some (.inl (1, .inl l))) (hy : gAt l (522 + 7 * c + 0) = some y) : Ev none (e + 1) 148 0 [some (.ref 633), some (.int c)] [] M (some (.int (if y = 3 then 0 else if y = 6 then 0 else 1))) M 0 0 := by
  refine be_0 (Ev.call0 (fun n => gs_7 rfl rfl (cal_of hM rfl)) (ev_of hM h5 hs hy) (be_6 ?_))
  by_cases h0 : y = 3
  · rw [if_pos h0, if_pos h0]
    exact be_25
  · rw [if_neg h0, if_neg h0]
    refine be_10 (Ev.call0 (fun n => gs_7 rfl rfl (cal_of hM rfl)) (ev_of hM h5 hs hy) (be_16 ?_))
    by_cases h2 : y = 6
    · rw [if_pos h2, if_pos h2]
      exact be_25
    · rw [if_neg h2, if_neg h2]
      exact be_21
/-- a cell's kind -/
theorem cell_k {M : Mem} (hT : TM sT sG M) {l : List Int32} (sl : l.length = 2314) {c : Int32} (c1 : 0 ≤ c.toInt) (c2 : c.toInt ≤ 255) : ∃ y, gAt l (522 + 7 * c + 0) = some y := by
  have e0 : (0 : Int32).toInt = 0 := rfl
  have ec := i32_cell (c := c) (k := 0) c1 c2 (by decide) (by decide)
  obtain ⟨kn, hkn⟩ : ∃ kn : Nat, (522 + 7 * c + 0 : Int32).toInt = (kn : Int) := ⟨(522 + 7 * c.toInt).toNat, by omega⟩
  obtain ⟨y, y1, y2⟩ := at_c (l := l) hkn (by omega)
  exact ⟨y, y1⟩
set_option maxRecDepth 100000 in
theorem rw_82 : rwB 82 1 16384 (-2147483648) 2147483647 = true := by decide +kernel
set_option maxRecDepth 100000 in
theorem mf_82 : mfB 47 82 = true := by decide +kernel
set_option maxRecDepth 100000 in
theorem sU_82 : gNth sU 82 = some (some 654) := by decide +kernel
set_option maxRecDepth 100000 in
theorem sT_654 : gNth sT 654 = some 82 := by decide +kernel
noncomputable def costB : Bool := match gNth sG 82 with
  | some (.inr (1, 16384, .inl sg)) => (List.range 16384).all (fun j => match sgAt sg j with
    | some p => decide (p.1 ≤ -2147483648) && decide (2147483647 ≤ p.2)
    | _ => false)
  | _ => false
set_option maxRecDepth 100000 in
/-- all of the costs may be any number -/
theorem costs_put {M : Mem} (hT : TM sT sG M) {l : List Int32} (hM : gNth M 654 = some (.inl (1, .inl l))) (i : Nat) (y : Int32) : TM sT sG (gPut M 654 (.inl (1, .inl (gPut l i y)))) ∧ Frm sT [(1082, 0)] M (gPut M 654 (.inl (1, .inl (gPut l i y)))) := by
  refine ⟨?_, Frm.row hM sT_654 (List.mem_singleton.mpr rfl)⟩
  obtain ⟨l2, h1, h2, _⟩ := hT.mrow sT_654 rw_82
  cases h1.symm.trans hM
  refine hT.put (fun g2 t w1 w2 => ?_)
  rw [sT_654] at w1
  cases w1
  have hB : costB = true := by decide +kernel
  unfold costB at hB
  rw [w2] at hB
  split at hB
  · rename_i sg e
    cases e
    refine ct_mk (by decide) (by rw [put_len]; exact h2) (fun j x hj => ?_)
    have hj2 := gNth_lt _ _ _ hj
    rw [put_len, h2] at hj2
    have h4 := List.all_eq_true.mp hB j (List.mem_range.mpr hj2)
    cases hp : sgAt sg j with
    | none => rw [hp] at h4; cases h4
    | some p =>
      rw [hp] at h4
      obtain ⟨h5, h6⟩ := and_t h4
      have h5 := of_decide_eq_true h5
      have h6 := of_decide_eq_true h6
      have := i32_lt x
      exact ⟨p, rfl, by omega, by omega⟩
  · cases hB
/-- what stands while it widens -/
def WdS (s : Nat) (M0 : Mem) (mo : Int32) (M : Mem) : Prop := TM sT sG M ∧ Frm sT [(1082, 0)] M0 M ∧ msP 654 mI (fun x => (mo = 0 ∧ x ≤ s) ∨ (mo = 1 ∧ x < s)) M
def WdQ (M0 : Mem) (v : Option Value) (M : Mem) : Prop := v = none ∧ TM sT sG M ∧ Frm sT [(1082, 0)] M0 M
section WDN
variable {fr n : Int32} {M0 : Mem} {e : Nat}
abbrev WdF (fr n : Int32) (M0 : Mem) (e pc : Nat) (mo : Int32) (x4 x5 x6 : Option Value) (M : Mem) : Prop := RF (WdQ M0) [] (e + 3) 226 pc [some (.ref 633), some (.int fr), some (.int n), some (.int mo), x4, x5, x6] [] M
/-- one way d -/
theorem wd_body {s : Nat} {mo c d : Int32} {x6 : Option Value} {M : Mem} (f0 : 0 ≤ fr.toInt) (f1 : fr.toInt ≤ 16128) (c0 : 0 ≤ c.toInt) (c1 : c.toInt ≤ 255) (h : WdS s M0 mo M) (hE : ∀ x6, WdF fr n M0 e 124 mo (some (.int c)) (some (.int d)) x6 M) (hD : ∀ mo x6 M, WdS s M0 mo M → WdF fr n M0 e 118 mo (some (.int c)) (some (.int d)) x6 M) : WdF fr n M0 e 27 mo (some (.int c)) (some (.int d)) x6 M := by
  obtain ⟨hT, hF, hm⟩ := id h
  obtain ⟨vs, l, hM, h5, hs, sl⟩ := hT.s_all
  obtain ⟨vs9, hM9, hv⟩ := hT.mfld
  cases hM.symm.trans hM9
  obtain ⟨l6, r6, l6l, _⟩ := hT.mrow sT_654 rw_82
  have h47 := hv 47 82 654 mf_82 sU_82
  obtain ⟨kc, hkc⟩ := cell_k hT sl c0 c1
  obtain ⟨vs2, l2, w, hh, m1, m2, m3, m4, m5, w1, w2, h1, h2⟩ := hT.s_ref
  cases hM.symm.trans m1
  cases hs.symm.trans m3
  have hw : ¬ w = 0 := by
    intro hz
    rw [hz] at w1
    exact absurd w1 (by decide)
  refine RF.pre (fun v M' hz => wd_27 (Ev.call0 (fun n => gs_7 rfl rfl (cal_be hM rfl)) (ev_bears hM h5 hs hkc) (wd_33 hz))) ?_
  obtain ⟨z, ez⟩ : ∃ z : Int32, z = if kc = 3 then 0 else if kc = 6 then 0 else 1 := ⟨_, rfl⟩
  rw [← ez]
  by_cases hz0 : z = 0
  · rw [if_pos hz0]
    exact hE _
  rw [if_neg hz0]
  refine RF.pre (fun v M' hz => wd_36 (Ev.call0 (fun n => gs_7 rfl rfl (cal_bs hM rfl)) (ev_beside (e := e) hM h5 hs m4 m5 hw) (wd_44 hz))) ?_
  obtain ⟨o, eo⟩ : ∃ o, o = besI w hh c d := ⟨_, rfl⟩
  have ho := besI_in (c := c) (d := d) w1 w2 h1 h2
  rw [← eo] at ho ⊢
  by_cases o0 : o < 0
  · rw [if_pos o0]
    exact hD _ _ _ h
  rw [if_neg o0]
  have ho : 0 ≤ o.toInt ∧ o.toInt ≤ 255 := by
    rcases ho with ho | ho
    · rw [ho] at o0
      exact absurd (by decide) o0
    · exact ho
  obtain ⟨ko, hko⟩ := cell_k hT sl ho.1 ho.2
  refine RF.pre (fun v M' hz => wd_51 (Ev.call0 (fun n => gs_7 rfl rfl (cal_be hM rfl)) (ev_bears hM h5 hs hko) (wd_57 hz))) ?_
  obtain ⟨z2, ez2⟩ : ∃ z : Int32, z = if ko = 3 then 0 else if ko = 6 then 0 else 1 := ⟨_, rfl⟩
  rw [← ez2]
  by_cases hz2 : z2 = 0
  · rw [if_pos hz2]
    exact hD _ _ _ h
  rw [if_neg hz2]
  have eo2 : (fr + o).toInt = fr.toInt + o.toInt := i32_add (by omega) (by omega)
  have ec2 : (fr + c).toInt = fr.toInt + c.toInt := i32_add (by omega) (by omega)
  obtain ⟨xo, xo1, xo2⟩ := at_c (l := l6) (j := fr + o) (kn := (fr.toInt + o.toInt).toNat) (by omega) (by omega)
  obtain ⟨xc, xc1, xc2⟩ := at_c (l := l6) (j := fr + c) (kn := (fr.toInt + c.toInt).toNat) (by omega) (by omega)
  refine RF.pre (fun v M' hz => wd_60 hM h47 r6 xo1 (Ev.call0 (fun n => gs_7 rfl rfl (cal_pr hM rfl)) (ev_price (e := e) hM h5 hs hkc) (wd_75 hM h47 r6 xc1 hz))) ?_
  obtain ⟨nv, env⟩ : ∃ nv, nv = xo + prI kc := ⟨_, rfl⟩
  rw [← env]
  by_cases hlt : nv < xc
  · rw [if_pos hlt]
    refine RF.pre (fun v M' hz => wd_91 hM h47 r6 xo1 (Ev.call0 (fun n => gs_7 rfl rfl (cal_pr hM rfl)) (ev_price (e := e) hM h5 hs hkc) (wd_114 r6 xc1 hz))) ?_
    rw [← env]
    obtain ⟨p1, p2⟩ := costs_put hT r6 (fr + c).toNatClampNeg nv
    refine hD _ _ _ ⟨p1, hF.trans p2, ?_⟩
    have ecl : (fr + c).toNatClampNeg = (fr.toInt + c.toInt).toNat := cl_n (by omega)
    rw [ecl]
    refine msP.put (f := mI) (P := fun x => (mo = 0 ∧ x ≤ s) ∨ (mo = 1 ∧ x < s)) r6 xc2 (fun a b h1 h2 => ?_) hm
    have := (mI_lt (x := nv) (y := xc)).2 (Int32.lt_iff_toInt_lt.mp hlt)
    refine Or.inr ⟨rfl, ?_⟩
    rcases h1 with ⟨_, h1⟩ | ⟨_, h1⟩ <;> omega
  · rw [if_neg hlt]
    exact RF.pre (fun v M' hz => wd_88 hz) (hD _ _ _ h)
/-- the ways from d on -/
theorem wd_dl {s : Nat} {c : Int32} (f0 : 0 ≤ fr.toInt) (f1 : fr.toInt ≤ 16128) (c0 : 0 ≤ c.toInt) (c1 : c.toInt ≤ 255) (hE : ∀ mo x5 x6 M, WdS s M0 mo M → WdF fr n M0 e 11 mo (some (.int (c + 1))) x5 x6 M) : ∀ (j : Nat) (d mo : Int32) (x6 : Option Value) (M : Mem), WdS s M0 mo M → 0 ≤ d.toInt → d.toInt + (j : Int) = 8 → WdF fr n M0 e 20 mo (some (.int c)) (some (.int d)) x6 M := by
  intro j
  induction j with
  | zero =>
    intro d mo x6 M h d0 hj
    refine RF.pre (fun v M' hz => wd_20 hz) ?_
    rw [if_pos (by rw [Int32.le_iff_toInt_le]; show (8 : Int) ≤ d.toInt; omega)]
    exact RF.pre (fun v M' hz => wd_124 hz) (hE _ _ _ _ h)
  | succ j ih =>
    intro d mo x6 M h d0 hj
    refine RF.pre (fun v M' hz => wd_20 hz) ?_
    rw [if_neg (by rw [Int32.le_iff_toInt_le]; show ¬ (8 : Int) ≤ d.toInt; omega)]
    have e1 : (d + 1).toInt = d.toInt + 1 := i32_p1 (by omega)
    exact wd_body f0 f1 c0 c1 h (fun x6 => RF.pre (fun v M' hz => wd_124 hz) (hE _ _ _ _ h)) (fun mo x6 M h => RF.pre (fun v M' hz => wd_118 hz) (ih (d + 1) mo x6 M h (by omega) (by omega)))
/-- the cells from c on -/
theorem wd_cl {s : Nat} (f0 : 0 ≤ fr.toInt) (f1 : fr.toInt ≤ 16128) (n1 : n.toInt ≤ 256) (hE : ∀ mo x4 x5 x6 M, WdS s M0 mo M → WdF fr n M0 e 2 mo x4 x5 x6 M) : ∀ (j : Nat) (c mo : Int32) (x5 x6 : Option Value) (M : Mem), WdS s M0 mo M → 0 ≤ c.toInt → n.toInt ≤ c.toInt + (j : Int) → WdF fr n M0 e 11 mo (some (.int c)) x5 x6 M := by
  intro j
  induction j with
  | zero =>
    intro c mo x5 x6 M h c0 hj
    refine RF.pre (fun v M' hz => wd_11 hz) ?_
    rw [if_pos (by rw [Int32.le_iff_toInt_le]; omega)]
    exact RF.pre (fun v M' hz => wd_130 hz) (hE _ _ _ _ _ h)
  | succ j ih =>
    intro c mo x5 x6 M h c0 hj
    refine RF.pre (fun v M' hz => wd_11 hz) ?_
    by_cases hn : n ≤ c
    · rw [if_pos hn]
      exact RF.pre (fun v M' hz => wd_130 hz) (hE _ _ _ _ _ h)
    rw [if_neg hn]
    rw [Int32.le_iff_toInt_le] at hn
    have e1 : (c + 1).toInt = c.toInt + 1 := i32_p1 (by omega)
    refine RF.pre (fun v M' hz => wd_17 hz) (wd_dl f0 f1 c0 (by omega) (fun mo x5 x6 M h => ih (c + 1) mo x5 x6 M h (by omega) (by omega)) 8 0 mo x6 M h (by decide) (by decide))
/-- again and again -/
theorem wd_wl (f0 : 0 ≤ fr.toInt) (f1 : fr.toInt ≤ 16128) (n1 : n.toInt ≤ 256) : ∀ (k : Nat) (mo : Int32) (x4 x5 x6 : Option Value) (M : Mem), (mo = 0 ∨ (mo = 1 ∧ msP 654 mI (fun x => x < k) M)) → TM sT sG M → Frm sT [(1082, 0)] M0 M → WdF fr n M0 e 2 mo x4 x5 x6 M := by
  intro k
  have fin : ∀ (x4 x5 x6 : Option Value) (M : Mem), TM sT sG M → Frm sT [(1082, 0)] M0 M → WdF fr n M0 e 2 0 x4 x5 x6 M := by
    intro x4 x5 x6 M hT hF
    refine RF.pre (fun v M' hz => wd_2 hz) ?_
    rw [if_pos rfl]
    exact ⟨none, M, wd_133, rfl, hT, hF⟩
  induction k with
  | zero =>
    intro mo x4 x5 x6 M h hT hF
    rcases h with rfl | ⟨_, t, l, _, h⟩
    · exact fin _ _ _ _ hT hF
    · exact absurd h (Nat.not_lt_zero _)
  | succ k ih =>
    intro mo x4 x5 x6 M h hT hF
    rcases h with rfl | ⟨rfl, t, l, e1, h⟩
    · exact fin _ _ _ _ hT hF
    refine RF.pre (fun v M' hz => wd_2 hz) ?_
    rw [if_neg (by decide)]
    refine RF.pre (fun v M' hz => wd_6 hz) ?_
    refine wd_cl (s := k) f0 f1 n1 (fun mo x4 x5 x6 M h => ?_) 256 0 0 x5 x6 M ⟨hT, hF, t, l, e1, Or.inl ⟨rfl, by omega⟩⟩ (by decide) (by show n.toInt ≤ 0 + 256; omega)
    obtain ⟨q1, q2, t2, l2, q3, q4⟩ := h
    refine ih mo x4 x5 x6 M ?_ q1 q2
    rcases q4 with ⟨h4, _⟩ | ⟨h4, h5⟩
    · exact Or.inl h4
    · exact Or.inr ⟨h4, t2, l2, q3, h5⟩
end WDN
def kX11_widen : CN := (226, 3, [.inr 1900, .inl (.ofNat 0, .ofNat 16128), .inl (.ofNat 0, .ofNat 256)], [], [], [(1082, 0)], [(none, [], [], [], [])])
set_option maxRecDepth 100000 in
theorem mR_226 : (gNth mRs 226).map (fun q => q.2.2.2.1) = some 7 := by decide +kernel
theorem kX11_widen_ok : cnOK sT sG FL0 kX11_widen := by
  intro d M ws q hd hq ha _ hT
  have hm := mR_226
  have hq' : gNth mRs 226 = some q := hq
  rw [hq'] at hm
  have hm : q.2.2.2.1 = 7 := Option.some.inj hm
  obtain ⟨e, rfl⟩ : ∃ e, d = e + 3 := ⟨d - 3, by have : 3 ≤ d := hd; omega⟩
  rcases ws with _ | ⟨a, _ | ⟨b, _ | ⟨b2, _ | ⟨b3, r⟩⟩⟩⟩
  · exact ha.elim
  · exact ha.2.elim
  · exact ha.2.2.elim
  · obtain ⟨k1, ⟨fr, rfl, c1, c2⟩, ⟨n, rfl, d1, d2⟩, _⟩ := ha
    have k1 : a = .ref 633 := k1
    subst k1
    have c1 : 0 ≤ fr.toInt := c1
    have c2 : fr.toInt ≤ 16128 := c2
    have d2 : n.toInt ≤ 256 := d2
    obtain ⟨t, l, e1⟩ := ha_costs M hT
    rw [hm]
    obtain ⟨v, M', q1, rfl, q3, q4⟩ := wd_wl (fr := fr) (n := n) (M0 := M) (e := e) c1 c2 d2 ((l.map mI).sum + 1) 1 none none none M (Or.inr ⟨rfl, t, l, e1, Nat.lt_succ_self _⟩) hT (Frm.refl M)
    exact ⟨none, M', wd_0 q1, q3, q4, _, List.mem_cons_self .., ⟨trivial, fun q hq => (by cases hq), [], trivial, fun f hf => (by cases hf), fun q hq => (by cases hq)⟩, cn_D rfl⟩
  · exact ha.2.2.2.elim
