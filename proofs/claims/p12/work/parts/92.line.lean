/-! BY HAND: reading texts, the reference: line -/
theorem li_0 {e : Nat} {M : Mem} {M' : Mem} {v : Option Value} {kd x : Int32} {x3 : Option Value}  (hz : Ev none (e + 4) 170 (if kd = 5 then 5 else 31) [some (.ref 633), some (.int x), some (.int kd), x3] [] M v M' 0 0) : Ev none (e + 4) 170 0 [some (.ref 633), some (.int x), some (.int kd), x3] [] M v M' 0 0 := by
  refine Ev.step (pc' := (if kd = 5 then 5 else 31)) (ls' := [some (.ref 633), some (.int x), some (.int kd), x3]) (st' := []) (M1 := M) 3 (fun n => rfl) ?_
  exact hz
theorem li_5 {e : Nat} {M : Mem} {M' : Mem} {v : Option Value} {kd x : Int32} {x3 : Option Value}  (hz : Ev none (e + 4) 170 6 [some (.ref 633), some (.int x), some (.int kd), x3] [.ref 633] M v M' 0 0) : Ev none (e + 4) 170 5 [some (.ref 633), some (.int x), some (.int kd), x3] [] M v M' 0 0 := by
  refine Ev.step (pc' := 6) (ls' := [some (.ref 633), some (.int x), some (.int kd), x3]) (st' := [.ref 633]) (M1 := M) 1 (fun n => rfl) ?_
  exact hz
theorem li_9 {e : Nat} {M : Mem} {M' : Mem} {v : Option Value} {kd u x : Int32} {x3 : Option Value}  (hz : Ev none (e + 4) 170 (if 0 ≤ u then 20 else 14) [some (.ref 633), some (.int x), some (.int kd), some (.int u)] [] M v M' 0 0) : Ev none (e + 4) 170 9 [some (.ref 633), some (.int x), some (.int kd), x3] [.int u] M v M' 0 0 := by
  refine Ev.step (pc' := (if 0 ≤ u then 20 else 14)) (ls' := [some (.ref 633), some (.int x), some (.int kd), some (.int u)]) (st' := []) (M1 := M) 3 (fun n => rfl) ?_
  exact hz
theorem li_14 {e : Nat} {M : Mem} {M' : Mem} {v : Option Value} {kd x : Int32} {x3 : Option Value}  (hz : Ev none (e + 4) 170 16 [some (.ref 633), some (.int x), some (.int kd), x3] [.int 1, .ref 633] M v M' 0 0) : Ev none (e + 4) 170 14 [some (.ref 633), some (.int x), some (.int kd), x3] [] M v M' 0 0 := by
  refine Ev.step (pc' := 16) (ls' := [some (.ref 633), some (.int x), some (.int kd), x3]) (st' := [.int 1, .ref 633]) (M1 := M) 2 (fun n => rfl) ?_
  exact hz
theorem li_19 {e : Nat} {M : Mem} {kd x : Int32} {x3 : Option Value}  : Ev none (e + 4) 170 19 [some (.ref 633), some (.int x), some (.int kd), x3] [.int 0] M (some (.int 0)) M 0 0 := by
  exact Ev.ret (fun n => rfl)
theorem li_20 {e : Nat} {M : Mem} {M' : Mem} {v : Option Value} {vs : List Value} {kd u x y1 : Int32} {l641 : List Int32} (hM : gNth M 633 = some (.inr (11, vs))) (v11 : gNth vs 11 = some (.ref 641)) (r641 : gNth M 641 = some (.inl (1, .inl l641))) (g1 : gAt l641 x = some y1) (hz : Ev none (e + 4) 170 27 [some (.ref 633), some (.int x), some (.int kd), some (.int u)] [] (gPut M 641 (.inl (1, .inl (gPut l641 x.toNatClampNeg u)))) v M' 0 0) : Ev none (e + 4) 170 20 [some (.ref 633), some (.int x), some (.int kd), some (.int u)] [] M v M' 0 0 := by
  refine Ev.step (pc' := 21) (ls' := [some (.ref 633), some (.int x), some (.int kd), some (.int u)]) (st' := [.ref 633]) (M1 := M) 1 (fun n => rfl) ?_
  refine Ev.step 1 (gs_3 rfl rfl (gf_g rfl hM v11)) ?_
  refine Ev.step (pc' := 26) (ls' := [some (.ref 633), some (.int x), some (.int kd), some (.int u)]) (st' := [.int u, .int x, .ref 641]) (M1 := M) 2 (fun n => rfl) ?_
  refine Ev.step 1 (gs_4 rfl rfl (is_g r641 g1)) ?_
  exact hz
theorem li_27 {e : Nat} {M : Mem} {M' : Mem} {v : Option Value} {kd x : Int32} {x3 : Option Value}  (hz : Ev none (e + 4) 170 28 [some (.ref 633), some (.int x), some (.int kd), x3] [.ref 633] M v M' 0 0) : Ev none (e + 4) 170 27 [some (.ref 633), some (.int x), some (.int kd), x3] [] M v M' 0 0 := by
  refine Ev.step (pc' := 28) (ls' := [some (.ref 633), some (.int x), some (.int kd), x3]) (st' := [.ref 633]) (M1 := M) 1 (fun n => rfl) ?_
  exact hz
theorem li_31 {e : Nat} {M : Mem} {M' : Mem} {v : Option Value} {kd x : Int32} {x3 : Option Value}  (hz : Ev none (e + 4) 170 (if kd = 6 then 90 else 37) [some (.ref 633), some (.int x), some (.int kd), x3] [] M v M' 0 0) : Ev none (e + 4) 170 31 [some (.ref 633), some (.int x), some (.int kd), x3] [] M v M' 0 0 := by
  refine Ev.step (pc' := (if kd = 6 then 90 else 37)) (ls' := [some (.ref 633), some (.int x), some (.int kd), x3]) (st' := []) (M1 := M) 3 (fun n => rfl) ?_
  exact hz
theorem li_37 {e : Nat} {M : Mem} {M' : Mem} {v : Option Value} {kd x : Int32} {x3 : Option Value}  (hz : Ev none (e + 4) 170 (if kd = 2 then 43 else 47) [some (.ref 633), some (.int x), some (.int kd), x3] [.ref 633] M v M' 0 0) : Ev none (e + 4) 170 37 [some (.ref 633), some (.int x), some (.int kd), x3] [] M v M' 0 0 := by
  refine Ev.step (pc' := (if kd = 2 then 43 else 47)) (ls' := [some (.ref 633), some (.int x), some (.int kd), x3]) (st' := [.ref 633]) (M1 := M) 4 (fun n => rfl) ?_
  exact hz
theorem li_43 {e : Nat} {M : Mem} {M' : Mem} {v : Option Value} {kd x : Int32} {x3 : Option Value}  (hz : Ev none (e + 4) 170 (if kd = 5 then 53 else 58) [some (.ref 633), some (.int x), some (.int kd), x3] [.int 1, .ref 633] M v M' 0 0) : Ev none (e + 4) 170 43 [some (.ref 633), some (.int x), some (.int kd), x3] [.ref 633] M v M' 0 0 := by
  refine Ev.step (pc' := (if kd = 5 then 53 else 58)) (ls' := [some (.ref 633), some (.int x), some (.int kd), x3]) (st' := [.int 1, .ref 633]) (M1 := M) 5 (fun n => rfl) ?_
  exact hz
theorem li_47 {e : Nat} {M : Mem} {M' : Mem} {v : Option Value} {kd x : Int32} {x3 : Option Value}  (hz : Ev none (e + 4) 170 (if kd = 5 then 53 else 58) [some (.ref 633), some (.int x), some (.int kd), x3] [.int 0, .ref 633] M v M' 0 0) : Ev none (e + 4) 170 47 [some (.ref 633), some (.int x), some (.int kd), x3] [.ref 633] M v M' 0 0 := by
  refine Ev.step (pc' := (if kd = 5 then 53 else 58)) (ls' := [some (.ref 633), some (.int x), some (.int kd), x3]) (st' := [.int 0, .ref 633]) (M1 := M) 4 (fun n => rfl) ?_
  exact hz
theorem li_53 {e : Nat} {M : Mem} {M' : Mem} {v : Option Value} {kd lo x : Int32} {x3 : Option Value}  (hz : Ev none (e + 4) 170 72 [some (.ref 633), some (.int x), some (.int kd), x3] [.int 99, .int lo, .ref 633] M v M' 0 0) : Ev none (e + 4) 170 53 [some (.ref 633), some (.int x), some (.int kd), x3] [.int lo, .ref 633] M v M' 0 0 := by
  refine Ev.step (pc' := 72) (ls' := [some (.ref 633), some (.int x), some (.int kd), x3]) (st' := [.int 99, .int lo, .ref 633]) (M1 := M) 2 (fun n => rfl) ?_
  exact hz
theorem li_58 {e : Nat} {M : Mem} {M' : Mem} {v : Option Value} {kd lo x : Int32} {x3 : Option Value}  (hz : Ev none (e + 4) 170 (if kd = 7 then 64 else 69) [some (.ref 633), some (.int x), some (.int kd), x3] [.int lo, .ref 633] M v M' 0 0) : Ev none (e + 4) 170 58 [some (.ref 633), some (.int x), some (.int kd), x3] [.int lo, .ref 633] M v M' 0 0 := by
  refine Ev.step (pc' := (if kd = 7 then 64 else 69)) (ls' := [some (.ref 633), some (.int x), some (.int kd), x3]) (st' := [.int lo, .ref 633]) (M1 := M) 3 (fun n => rfl) ?_
  exact hz
theorem li_64 {e : Nat} {M : Mem} {M' : Mem} {v : Option Value} {kd lo x : Int32} {x3 : Option Value}  (hz : Ev none (e + 4) 170 72 [some (.ref 633), some (.int x), some (.int kd), x3] [.int 9, .int lo, .ref 633] M v M' 0 0) : Ev none (e + 4) 170 64 [some (.ref 633), some (.int x), some (.int kd), x3] [.int lo, .ref 633] M v M' 0 0 := by
  refine Ev.step (pc' := 72) (ls' := [some (.ref 633), some (.int x), some (.int kd), x3]) (st' := [.int 9, .int lo, .ref 633]) (M1 := M) 2 (fun n => rfl) ?_
  exact hz
theorem li_69 {e : Nat} {M : Mem} {M' : Mem} {v : Option Value} {kd lo x : Int32} {x3 : Option Value}  (hz : Ev none (e + 4) 170 72 [some (.ref 633), some (.int x), some (.int kd), x3] [.int 999, .int lo, .ref 633] M v M' 0 0) : Ev none (e + 4) 170 69 [some (.ref 633), some (.int x), some (.int kd), x3] [.int lo, .ref 633] M v M' 0 0 := by
  refine Ev.step (pc' := 72) (ls' := [some (.ref 633), some (.int x), some (.int kd), x3]) (st' := [.int 999, .int lo, .ref 633]) (M1 := M) 1 (fun n => rfl) ?_
  exact hz
theorem li_75 {e : Nat} {M : Mem} {M' : Mem} {v : Option Value} {kd x y : Int32} {x3 : Option Value}  (hz : Ev none (e + 4) 170 (if y = 0 then 78 else 80) [some (.ref 633), some (.int x), some (.int kd), x3] [] M v M' 0 0) : Ev none (e + 4) 170 75 [some (.ref 633), some (.int x), some (.int kd), x3] [.int y] M v M' 0 0 := by
  refine Ev.step (pc' := (if y = 0 then 78 else 80)) (ls' := [some (.ref 633), some (.int x), some (.int kd), x3]) (st' := []) (M1 := M) 1 (fun n => rfl) ?_
  exact hz
theorem li_78 {e : Nat} {M : Mem} {kd x : Int32} {x3 : Option Value}  : Ev none (e + 4) 170 78 [some (.ref 633), some (.int x), some (.int kd), x3] [] M (some (.int 0)) M 0 0 := by
  refine Ev.step (pc' := 79) (ls' := [some (.ref 633), some (.int x), some (.int kd), x3]) (st' := [.int 0]) (M1 := M) 1 (fun n => rfl) ?_
  exact Ev.ret (fun n => rfl)
theorem li_80 {e : Nat} {M : Mem} {M' : Mem} {v : Option Value} {vs : List Value} {f32 kd x y1 : Int32} {l642 : List Int32} {x3 : Option Value} (hM : gNth M 633 = some (.inr (11, vs))) (v12 : gNth vs 12 = some (.ref 642)) (v32 : gNth vs 32 = some (.int f32)) (r642 : gNth M 642 = some (.inl (1, .inl l642))) (g1 : gAt l642 x = some y1) (hz : Ev none (e + 4) 170 90 [some (.ref 633), some (.int x), some (.int kd), x3] [] (gPut M 642 (.inl (1, .inl (gPut l642 x.toNatClampNeg f32)))) v M' 0 0) : Ev none (e + 4) 170 80 [some (.ref 633), some (.int x), some (.int kd), x3] [] M v M' 0 0 := by
  refine Ev.step (pc' := 81) (ls' := [some (.ref 633), some (.int x), some (.int kd), x3]) (st' := [.ref 633]) (M1 := M) 1 (fun n => rfl) ?_
  refine Ev.step 1 (gs_3 rfl rfl (gf_g rfl hM v12)) ?_
  refine Ev.step (pc' := 86) (ls' := [some (.ref 633), some (.int x), some (.int kd), x3]) (st' := [.ref 633, .int x, .ref 642]) (M1 := M) 2 (fun n => rfl) ?_
  refine Ev.step 1 (gs_3 rfl rfl (gf_g rfl hM v32)) ?_
  refine Ev.step 1 (gs_4 rfl rfl (is_g r642 g1)) ?_
  exact hz
theorem li_90 {e : Nat} {M : Mem} {M' : Mem} {v : Option Value} {vs : List Value} {f19 kd x y1 : Int32} {l643 : List Int32} {x3 : Option Value} (hM : gNth M 633 = some (.inr (11, vs))) (v13 : gNth vs 13 = some (.ref 643)) (v19 : gNth vs 19 = some (.int f19)) (r643 : gNth M 643 = some (.inl (1, .inl l643))) (g1 : gAt l643 x = some y1) (hz : Ev none (e + 4) 170 100 [some (.ref 633), some (.int x), some (.int kd), x3] [] (gPut M 643 (.inl (1, .inl (gPut l643 x.toNatClampNeg f19)))) v M' 0 0) : Ev none (e + 4) 170 90 [some (.ref 633), some (.int x), some (.int kd), x3] [] M v M' 0 0 := by
  refine Ev.step (pc' := 91) (ls' := [some (.ref 633), some (.int x), some (.int kd), x3]) (st' := [.ref 633]) (M1 := M) 1 (fun n => rfl) ?_
  refine Ev.step 1 (gs_3 rfl rfl (gf_g rfl hM v13)) ?_
  refine Ev.step (pc' := 96) (ls' := [some (.ref 633), some (.int x), some (.int kd), x3]) (st' := [.ref 633, .int x, .ref 643]) (M1 := M) 2 (fun n => rfl) ?_
  refine Ev.step 1 (gs_3 rfl rfl (gf_g rfl hM v19)) ?_
  refine Ev.step 1 (gs_4 rfl rfl (is_g r643 g1)) ?_
  exact hz
theorem li_100 {e : Nat} {M : Mem} {M' : Mem} {v : Option Value} {kd x : Int32} {x3 : Option Value}  (hz : Ev none (e + 4) 170 (if kd = 6 then 106 else 110) [some (.ref 633), some (.int x), some (.int kd), x3] [] M v M' 0 0) : Ev none (e + 4) 170 100 [some (.ref 633), some (.int x), some (.int kd), x3] [] M v M' 0 0 := by
  refine Ev.step (pc' := (if kd = 6 then 106 else 110)) (ls' := [some (.ref 633), some (.int x), some (.int kd), x3]) (st' := []) (M1 := M) 3 (fun n => rfl) ?_
  exact hz
theorem li_106 {e : Nat} {M : Mem} {M' : Mem} {v : Option Value} {kd x : Int32} {x3 : Option Value}  (hz : Ev none (e + 4) 170 (if kd = 0 then 126 else 116) [some (.ref 633), some (.int x), some (.int kd), some (.int 1)] [] M v M' 0 0) : Ev none (e + 4) 170 106 [some (.ref 633), some (.int x), some (.int kd), x3] [] M v M' 0 0 := by
  refine Ev.step (pc' := (if kd = 0 then 126 else 116)) (ls' := [some (.ref 633), some (.int x), some (.int kd), some (.int 1)]) (st' := []) (M1 := M) 5 (fun n => rfl) ?_
  exact hz
theorem li_110 {e : Nat} {M : Mem} {M' : Mem} {v : Option Value} {kd x : Int32} {x3 : Option Value}  (hz : Ev none (e + 4) 170 (if kd = 0 then 126 else 116) [some (.ref 633), some (.int x), some (.int kd), some (.int 0)] [] M v M' 0 0) : Ev none (e + 4) 170 110 [some (.ref 633), some (.int x), some (.int kd), x3] [] M v M' 0 0 := by
  refine Ev.step (pc' := (if kd = 0 then 126 else 116)) (ls' := [some (.ref 633), some (.int x), some (.int kd), some (.int 0)]) (st' := []) (M1 := M) 4 (fun n => rfl) ?_
  exact hz
theorem li_116 {e : Nat} {M : Mem} {M' : Mem} {v : Option Value} {kd x : Int32} {x3 : Option Value}  (hz : Ev none (e + 4) 170 (if kd = 1 then 126 else 121) [some (.ref 633), some (.int x), some (.int kd), x3] [] M v M' 0 0) : Ev none (e + 4) 170 116 [some (.ref 633), some (.int x), some (.int kd), x3] [] M v M' 0 0 := by
  refine Ev.step (pc' := (if kd = 1 then 126 else 121)) (ls' := [some (.ref 633), some (.int x), some (.int kd), x3]) (st' := []) (M1 := M) 3 (fun n => rfl) ?_
  exact hz
theorem li_121 {e : Nat} {M : Mem} {M' : Mem} {v : Option Value} {kd x : Int32} {x3 : Option Value}  (hz : Ev none (e + 4) 170 (if kd = 5 then 126 else 142) [some (.ref 633), some (.int x), some (.int kd), x3] [] M v M' 0 0) : Ev none (e + 4) 170 121 [some (.ref 633), some (.int x), some (.int kd), x3] [] M v M' 0 0 := by
  refine Ev.step (pc' := (if kd = 5 then 126 else 142)) (ls' := [some (.ref 633), some (.int x), some (.int kd), x3]) (st' := []) (M1 := M) 3 (fun n => rfl) ?_
  exact hz
theorem li_126 {e : Nat} {M : Mem} {M' : Mem} {v : Option Value} {kd x : Int32} {x3 : Option Value}  (hz : Ev none (e + 4) 170 130 [some (.ref 633), some (.int x), some (.int kd), x3] [.long 26982, .ref 633] M v M' 0 0) : Ev none (e + 4) 170 126 [some (.ref 633), some (.int x), some (.int kd), x3] [] M v M' 0 0 := by
  refine Ev.step (pc' := 130) (ls' := [some (.ref 633), some (.int x), some (.int kd), x3]) (st' := [.long 26982, .ref 633]) (M1 := M) 2 (fun n => rfl) ?_
  exact hz
theorem li_133 {e : Nat} {M : Mem} {M' : Mem} {v : Option Value} {kd x y : Int32} {x3 : Option Value}  (hz : Ev none (e + 4) 170 (if y = 0 then 142 else 136) [some (.ref 633), some (.int x), some (.int kd), x3] [] M v M' 0 0) : Ev none (e + 4) 170 133 [some (.ref 633), some (.int x), some (.int kd), x3] [.int y] M v M' 0 0 := by
  refine Ev.step (pc' := (if y = 0 then 142 else 136)) (ls' := [some (.ref 633), some (.int x), some (.int kd), x3]) (st' := []) (M1 := M) 1 (fun n => rfl) ?_
  exact hz
theorem li_136 {e : Nat} {M : Mem} {M' : Mem} {v : Option Value} {kd x : Int32} {x3 : Option Value}  (hz : Ev none (e + 4) 170 137 [some (.ref 633), some (.int x), some (.int kd), x3] [.ref 633] M v M' 0 0) : Ev none (e + 4) 170 136 [some (.ref 633), some (.int x), some (.int kd), x3] [] M v M' 0 0 := by
  refine Ev.step (pc' := 137) (ls' := [some (.ref 633), some (.int x), some (.int kd), x3]) (st' := [.ref 633]) (M1 := M) 1 (fun n => rfl) ?_
  exact hz
theorem li_140 {e : Nat} {M : Mem} {M' : Mem} {v : Option Value} {kd x : Int32} {x3 : Option Value}  (hz : Ev none (e + 4) 170 142 [some (.ref 633), some (.int x), some (.int kd), some (.int 1)] [] M v M' 0 0) : Ev none (e + 4) 170 140 [some (.ref 633), some (.int x), some (.int kd), x3] [] M v M' 0 0 := by
  refine Ev.step (pc' := 142) (ls' := [some (.ref 633), some (.int x), some (.int kd), some (.int 1)]) (st' := []) (M1 := M) 2 (fun n => rfl) ?_
  exact hz
theorem li_142 {e : Nat} {M : Mem} {M' : Mem} {v : Option Value} {kd u x : Int32}  (hz : Ev none (e + 4) 170 (if u = 0 then 155 else 146) [some (.ref 633), some (.int x), some (.int kd), some (.int u)] [] M v M' 0 0) : Ev none (e + 4) 170 142 [some (.ref 633), some (.int x), some (.int kd), some (.int u)] [] M v M' 0 0 := by
  refine Ev.step (pc' := (if u = 0 then 155 else 146)) (ls' := [some (.ref 633), some (.int x), some (.int kd), some (.int u)]) (st' := []) (M1 := M) 2 (fun n => rfl) ?_
  exact hz
theorem li_146 {e : Nat} {M : Mem} {M' : Mem} {v : Option Value} {kd x : Int32} {x3 : Option Value}  (hz : Ev none (e + 4) 170 147 [some (.ref 633), some (.int x), some (.int kd), x3] [.ref 633] M v M' 0 0) : Ev none (e + 4) 170 146 [some (.ref 633), some (.int x), some (.int kd), x3] [] M v M' 0 0 := by
  refine Ev.step (pc' := 147) (ls' := [some (.ref 633), some (.int x), some (.int kd), x3]) (st' := [.ref 633]) (M1 := M) 1 (fun n => rfl) ?_
  exact hz
theorem li_150 {e : Nat} {M : Mem} {M' : Mem} {v : Option Value} {kd x y : Int32} {x3 : Option Value}  (hz : Ev none (e + 4) 170 (if y = 0 then 153 else 155) [some (.ref 633), some (.int x), some (.int kd), x3] [] M v M' 0 0) : Ev none (e + 4) 170 150 [some (.ref 633), some (.int x), some (.int kd), x3] [.int y] M v M' 0 0 := by
  refine Ev.step (pc' := (if y = 0 then 153 else 155)) (ls' := [some (.ref 633), some (.int x), some (.int kd), x3]) (st' := []) (M1 := M) 1 (fun n => rfl) ?_
  exact hz
theorem li_153 {e : Nat} {M : Mem} {kd x : Int32} {x3 : Option Value}  : Ev none (e + 4) 170 153 [some (.ref 633), some (.int x), some (.int kd), x3] [] M (some (.int 0)) M 0 0 := by
  refine Ev.step (pc' := 154) (ls' := [some (.ref 633), some (.int x), some (.int kd), x3]) (st' := [.int 0]) (M1 := M) 1 (fun n => rfl) ?_
  exact Ev.ret (fun n => rfl)
theorem li_155 {e : Nat} {M : Mem} {vs : List Value} {f19 kd x y1 : Int32} {l644 : List Int32} {x3 : Option Value} (hM : gNth M 633 = some (.inr (11, vs))) (v14 : gNth vs 14 = some (.ref 644)) (v19 : gNth vs 19 = some (.int f19)) (r644 : gNth M 644 = some (.inl (1, .inl l644))) (g1 : gAt l644 x = some y1) : Ev none (e + 4) 170 155 [some (.ref 633), some (.int x), some (.int kd), x3] [] M (some (.int 1)) (gPut M 644 (.inl (1, .inl (gPut l644 x.toNatClampNeg f19)))) 0 0 := by
  refine Ev.step (pc' := 156) (ls' := [some (.ref 633), some (.int x), some (.int kd), x3]) (st' := [.ref 633]) (M1 := M) 1 (fun n => rfl) ?_
  refine Ev.step 1 (gs_3 rfl rfl (gf_g rfl hM v14)) ?_
  refine Ev.step (pc' := 161) (ls' := [some (.ref 633), some (.int x), some (.int kd), x3]) (st' := [.ref 633, .int x, .ref 644]) (M1 := M) 2 (fun n => rfl) ?_
  refine Ev.step 1 (gs_3 rfl rfl (gf_g rfl hM v19)) ?_
  refine Ev.step 1 (gs_4 rfl rfl (is_g r644 g1)) ?_
  refine Ev.step (pc' := 166) (ls' := [some (.ref 633), some (.int x), some (.int kd), x3]) (st' := [.int 1]) (M1 := (gPut M 644 (.inl (1, .inl (gPut l644 x.toNatClampNeg f19))))) 1 (fun n => rfl) ?_
  exact Ev.ret (fun n => rfl)
theorem cal_me {M : Mem} {vs : List Value} {rest : List Value} (hM : gNth M 633 = some (.inr (11, vs))) (hr : gRoom rest = true) : gCal (.invokevirtual 237) 11 (.ref 633 :: rest) M = some (.inr (171, [some (.ref 633)], rest)) := by
  show @cond (Option ((List Value × Mem) ⊕ (Nat × Lo × List Value))) (true && gRecv M (.ref 633) 11 && gRoom rest && true) (some (.inr (171, [some (.ref 633)], rest))) none = _
  rw [recv_ok hM, hr]
  rfl
theorem cal_tk {M : Mem} {vs : List Value} {a0 a1 : Int32} {rest : List Value} (hM : gNth M 633 = some (.inr (11, vs))) (hr : gRoom rest = true) : gCal (.invokevirtual 240) 11 (.int a1 :: .int a0 :: .ref 633 :: rest) M = some (.inr (167, [some (.ref 633), some (.int a0), some (.int a1)], rest)) := by
  show @cond (Option ((List Value × Mem) ⊕ (Nat × Lo × List Value))) (true && gRecv M (.ref 633) 11 && gRoom rest && true) (some (.inr (167, [some (.ref 633), some (.int a0), some (.int a1)], rest))) none = _
  rw [recv_ok hM, hr]
  rfl
theorem cal_cd {M : Mem} {vs : List Value} {rest : List Value} (hM : gNth M 633 = some (.inr (11, vs))) (hr : gRoom rest = true) : gCal (.invokevirtual 252) 11 (.ref 633 :: rest) M = some (.inr (179, [some (.ref 633), none], rest)) := by
  show @cond (Option ((List Value × Mem) ⊕ (Nat × Lo × List Value))) (true && gRecv M (.ref 633) 11 && gRoom rest && true) (some (.inr (179, [some (.ref 633), none], rest))) none = _
  rw [recv_ok hM, hr]
  rfl
set_option maxRecDepth 100000 in
theorem rwL : (rwB 69 1 128 (-2147483648) 2147483647 && rwB 70 1 128 (-2147483648) 2147483647) = true := by decide +kernel
set_option maxRecDepth 100000 in
theorem mfL : (mfB 11 69 && mfB 12 70 && mfB 13 71 && mfB 14 72) = true := by decide +kernel
set_option maxRecDepth 100000 in
theorem sUL : gNth sU 69 = some (some 641) ∧ gNth sU 70 = some (some 642) ∧ gNth sU 71 = some (some 643) ∧ gNth sU 72 = some (some 644) := by refine ⟨?_, ?_, ?_, ?_⟩ <;> decide +kernel
set_option maxRecDepth 100000 in
theorem sTL : gNth sT 641 = some 69 ∧ gNth sT 642 = some 70 := by refine ⟨?_, ?_⟩ <;> decide +kernel
set_option maxRecDepth 100000 in
theorem fB_32 : fldB 32 (-2147483648) 2147483647 = true := by decide +kernel
set_option maxRecDepth 100000 in
theorem mRl : (gNth mRs 171).map (fun q => q.2.2.2.1) = some 1 ∧ (gNth mRs 167).map (fun q => q.2.2.2.1) = some 3 := by refine ⟨?_, ?_⟩ <;> decide +kernel
theorem okS.eq {l l2 : List Int32} : ∀ {m k : Nat} {n : Int}, okS m l k n → (∀ i, k ≤ i → i < k + m → gNth l2 i = gNth l i) → okS m l2 k n := by
  intro m
  induction m with
  | zero => intro k n _ _; trivial
  | succ m ih =>
    intro k n h he
    obtain ⟨w, h1, h2⟩ := h
    refine ⟨w, by rw [he k (Nat.le_refl k) (by omega)]; exact h1, ?_⟩
    rcases h2 with ⟨a, b, c⟩ | ⟨a, b, c, d⟩ | ⟨a, b, c, d, e⟩
    · exact Or.inl ⟨a, b, ih c (fun i i1 i2 => he i (by omega) (by omega))⟩
    · exact Or.inr (Or.inl ⟨a, b, c, ih d (fun i i1 i2 => he i (by omega) (by omega))⟩)
    · exact Or.inr (Or.inr ⟨a, b, c, d, ih e (fun i i1 i2 => he i (by omega) (by omega))⟩)
/-- the rows of lines -/
def Rws (M : Mem) (lm lf lt : List Int32) : Prop := gNth M 639 = some (.inl (1, .inl lm)) ∧ gNth M 643 = some (.inl (1, .inl lf)) ∧ gNth M 644 = some (.inl (1, .inl lt))
/-- n lines of the text that is read are well formed, their steps below s -/
def LOK (n : Nat) (ls lf lt : List Int32) (s : Nat) : Prop := ∀ j, 112 ≤ j → j < 112 + n → ∃ f t : Int32, gNth lf j = some f ∧ gNth lt j = some t ∧ 0 ≤ f.toInt ∧ t.toInt ≤ (s : Int) ∧ (f = t ∨ ∃ m k : Nat, f.toInt + (m : Int) = t.toInt ∧ (k : Int) = 1400 + f.toInt ∧ okS m ls k 0)
/-- the other texts' rows are as they were -/
def ITC (q0 : List Int32 × List Int32 × List Int32 × List Int32) (lm lf lt ls : List Int32) : Prop := (∀ i, i < 7 → gNth lm i = gNth q0.1 i) ∧ (∀ j, j < 112 → gNth lf j = gNth q0.2.1 j ∧ gNth lt j = gNth q0.2.2.1 j) ∧ ∀ i, i < 1400 → gNth ls i = gNth q0.2.2.2 i
/-- .. alone, for a text that is refused -/
def ITX (q0 : List Int32 × List Int32 × List Int32 × List Int32) (M : Mem) : Prop := ∃ lm lf lt ls, Rws M lm lf lt ∧ gNth M 645 = some (.inl (1, .inl ls)) ∧ ITC q0 lm lf lt ls
/-- what stands while lines are read -/
def WW (q0 : List Int32 × List Int32 × List Int32 × List Int32) (n : Nat) (N : Int32) (M : Mem) : Prop := ∃ (s o : Nat) (S P O : Int32) (ls lp lm lf lt : List Int32), TM sT sG M ∧ Cst M S P O ls lp ∧ S.toInt = (s : Int) ∧ O.toInt = (o : Int) ∧ s ≤ 2 * o ∧ Rws M lm lf lt ∧ gNth lm 7 = some N ∧ LOK n ls lf lt s ∧ ITC q0 lm lf lt ls
variable {q0 : List Int32 × List Int32 × List Int32 × List Int32} {n : Nat} {N : Int32}
theorem Rws.frm {M M' : Mem} {md : Md} {lm lf lt : List Int32} (h : Rws M lm lf lt) (hF : Frm sT md M M') (hm : (!(mdIn md 1067 0 || mdIn md 1071 0 || mdIn md 1072 0)) = true) : Rws M' lm lf lt := by
  have no : ∀ c, (mdIn md c 0 = true → (mdIn md 1067 0 || mdIn md 1071 0 || mdIn md 1072 0) = true) → (c, 0) ∉ md := fun c h hc => by
    have h2 := h (mdIn_iff.mpr hc)
    rw [h2] at hm
    cases hm
  exact ⟨row_frm hF sT_639 (no 1067 (fun h => by rw [h]; rfl)) h.1, row_frm hF sT_643 (no 1071 (fun h => by rw [h]; simp)) h.2.1, row_frm hF sT_644 (no 1072 (fun h => by rw [h]; simp)) h.2.2⟩
theorem WW.frm {M M' : Mem} {md : Md} (h : WW q0 n N M) (hT : TM sT sG M') (hF : Frm sT md M M') (hm : ((!(mdIn md 11 19 || mdIn md 11 20 || mdIn md 11 21 || mdIn md 1073 0 || mdIn md 1076 0)) && (!(mdIn md 1067 0 || mdIn md 1071 0 || mdIn md 1072 0))) = true) : WW q0 n N M' := by
  obtain ⟨s, o, S, P, O, ls, lp, lm, lf, lt, _, hc, h1, h2, h3, hr, h4⟩ := h
  obtain ⟨m1, m2⟩ := and_t hm
  exact ⟨s, o, S, P, O, ls, lp, lm, lf, lt, hT, hc.frm hF m1, h1, h2, h3, hr.frm hF m2, h4⟩
theorem WW.itx {M : Mem} (h : WW q0 n N M) : ITX q0 M := by
  obtain ⟨s, o, S, P, O, ls, lp, lm, lf, lt, _, ⟨vs, _, _, _, _, hl, _⟩, _, _, _, hr, _, _, hi⟩ := h
  exact ⟨lm, lf, lt, ls, hr, hl, hi⟩
theorem ITX.frm {M M' : Mem} {md : Md} (h : ITX q0 M) (hF : Frm sT md M M') (hm : ((!(mdIn md 11 19 || mdIn md 11 20 || mdIn md 11 21 || mdIn md 1073 0 || mdIn md 1076 0)) && (!(mdIn md 1067 0 || mdIn md 1071 0 || mdIn md 1072 0))) = true) : ITX q0 M' := by
  obtain ⟨lm, lf, lt, ls, hr, hl, hi⟩ := h
  obtain ⟨m1, m2⟩ := and_t hm
  refine ⟨lm, lf, lt, ls, hr.frm hF m2, row_frm hF sT_645 (fun hc => ?_) hl, hi⟩
  rw [mdIn_iff.mpr hc] at m1
  simp at m1
theorem WW.obj {M : Mem} (h : WW q0 n N M) : TM sT sG M ∧ ∃ vs, gNth M 633 = some (.inr (11, vs)) := by
  obtain ⟨s, o, S, P, O, ls, lp, lm, lf, lt, hT, ⟨vs, hM, _⟩, _⟩ := h
  exact ⟨hT, vs, hM⟩
/-- all that a line may write -/
def mdL : Md := [(11, 4), (11, 19), (11, 20), (11, 21), (11, 22), (11, 23), (11, 24), (11, 25), (11, 26), (11, 27), (11, 31), (11, 32), (1069, 0), (1070, 0), (1071, 0), (1072, 0), (1073, 0), (1074, 0), (1075, 0), (1076, 0)]
def LiQ (q0 : List Int32 × List Int32 × List Int32 × List Int32) (n : Nat) (N : Int32) (M0 : Mem) (v : Option Value) (M' : Mem) : Prop := ∃ r : Int32, v = some (.int r) ∧ TM sT sG M' ∧ Frm sT mdL M0 M' ∧ ((r = 0 ∧ ITX q0 M') ∨ (r = 1 ∧ WW q0 (n + 1) N M'))
section LINE
variable {M0 : Mem} {e : Nat} {x kd : Int32}
theorem li_no {M : Mem} {pc : Nat} {lo : Lo} {st : List Value} (h : WW q0 n N M) (hF : Frm sT mdL M0 M) (hz : Ev none (e + 4) 170 pc lo st M (some (.int 0)) M 0 0) : RF (LiQ q0 n N M0) [] (e + 4) 170 pc lo st M := ⟨some (.int 0), M, hz, 0, rfl, h.obj.1, hF, Or.inl ⟨rfl, h.itx⟩⟩
/-- the line's end is set -/
theorem li_end {M : Mem} {x3 : Option Value} {s o : Nat} {S P O f : Int32} {ls lp lm lf lt : List Int32} (hx : x.toInt = ((112 + n : Nat) : Int)) (hn : n ≤ 15) (hF : Frm sT mdL M0 M) (hT : TM sT sG M) (hc : Cst M S P O ls lp) (h1 : S.toInt = (s : Int)) (h2 : O.toInt = (o : Int)) (h3 : s ≤ 2 * o) (hr : Rws M lm lf lt) (h7 : gNth lm 7 = some N) (hl : LOK n ls lf lt s) (hi : ITC q0 lm lf lt ls) (hf : gNth lf (112 + n) = some f) (f0 : 0 ≤ f.toInt) (hs : f = S ∨ ∃ m k : Nat, f.toInt + (m : Int) = S.toInt ∧ (k : Int) = 1400 + f.toInt ∧ okS m ls k 0) : RF (LiQ q0 n N M0) [] (e + 4) 170 155 [some (.ref 633), some (.int x), some (.int kd), x3] [] M := by
  obtain ⟨vs, hM, v19, v20, v21, r645, r648⟩ := id hc
  obtain ⟨vs9, hM9, hv⟩ := hT.mfld
  cases hM.symm.trans hM9
  have h14 := hv _ _ _ (and_t mfL).2 sUL.2.2.2
  obtain ⟨r639, r643, r644⟩ := hr
  obtain ⟨l2, b1, b2, b3⟩ := hT.mrow sT_644 rw_72
  cases r644.symm.trans b1
  obtain ⟨S2, P2, O2, ls2, lp2, c2, _, _, s0, s1, _⟩ := hT.cst
  obtain ⟨rfl, rfl, rfl, rfl, rfl⟩ := hc.det c2
  obtain ⟨y, y1, y2⟩ := at_c (l := lt) hx (by omega)
  have T1 : TM sT sG (gPut M 644 (.inl (1, .inl (gPut lt (112 + n) S)))) := hT.putrow (n := 128) (lo := 0) (hi := 200) sT_644 (by decide +kernel) (by rw [put_len]; exact b2) (fun j z hj => by
    rw [nth_put] at hj
    split at hj
    · cases hj
      exact ⟨s0, s1⟩
    · exact b3 j z hj)
  have nn : ∀ c, c ≠ 644 → gNth (gPut M 644 (.inl (1, .inl (gPut lt (112 + n) S)))) c = gNth M c := fun c hc => by rw [nth_put, if_neg (fun q => hc q.1)]
  refine ⟨some (.int 1), gPut M 644 (.inl (1, .inl (gPut lt (112 + n) S))), by have h := li_155 (e := e) (kd := kd) (x3 := x3) hM h14 v19 r644 y1; rw [cl_n hx] at h; exact h, 1, rfl, T1, hF.trans (Frm.row r644 sT_644 (by decide)), Or.inr ⟨rfl, s, o, S, P, O, ls, lp, lm, lf, gPut lt (112 + n) S, T1, ⟨vs, by rw [nn 633 (by decide)]; exact hM, v19, v20, v21, by rw [nn 645 (by decide)]; exact r645, by rw [nn 648 (by decide)]; exact r648⟩, h1, h2, h3, ⟨by rw [nn 639 (by decide)]; exact r639, by rw [nn 643 (by decide)]; exact r643, by rw [nth_put, if_pos ⟨rfl, gNth_lt _ _ _ r644⟩]⟩, h7, fun j j1 j2 => ?_, hi.1, fun j hj => ⟨(hi.2.1 j hj).1, by rw [nth_put, if_neg (by omega)]; exact (hi.2.1 j hj).2⟩, hi.2.2⟩⟩
  by_cases hj : j = 112 + n
  · subst hj
    exact ⟨f, S, hf, by rw [nth_put, if_pos ⟨rfl, by omega⟩], f0, by omega, hs⟩
  · obtain ⟨f2, t2, q1, q2, q3⟩ := hl j j1 (by omega)
    exact ⟨f2, t2, q1, by rw [nth_put, if_neg (fun q => hj q.1)]; exact q2, q3⟩
/-- from the line's start on -/
theorem li_90on {M : Mem} {x3 : Option Value} (hx : x.toInt = ((112 + n : Nat) : Int)) (hn : n ≤ 15) (hF : Frm sT mdL M0 M) (h : WW q0 n N M) : RF (LiQ q0 n N M0) [] (e + 4) 170 90 [some (.ref 633), some (.int x), some (.int kd), x3] [] M := by
  obtain ⟨s, o, S, P, O, ls, lp, lm, lf, lt, hT, hc, h1, h2, h3, hr, h7, hl, hi⟩ := h
  obtain ⟨vs, hM, v19, v20, v21, r645, r648⟩ := id hc
  obtain ⟨vs9, hM9, hv⟩ := hT.mfld
  cases hM.symm.trans hM9
  have h13 := hv _ _ _ (and_t (and_t mfL).1).2 sUL.2.2.1
  obtain ⟨r639, r643, r644⟩ := hr
  obtain ⟨l2, b1, b2, b3⟩ := hT.mrow sT_643 rw_71
  cases r643.symm.trans b1
  obtain ⟨S2, P2, O2, ls2, lp2, c2, ll, _, s0, s1, _⟩ := hT.cst
  obtain ⟨rfl, rfl, rfl, rfl, rfl⟩ := hc.det c2
  obtain ⟨y, y1, y2⟩ := at_c (l := lf) hx (by omega)
  obtain ⟨M1, e1⟩ : ∃ M1, M1 = gPut M 643 (.inl (1, .inl (gPut lf (112 + n) S))) := ⟨_, rfl⟩
  have T1 : TM sT sG M1 := by
    rw [e1]
    exact hT.putrow (n := 128) (lo := 0) (hi := 200) sT_643 (by decide +kernel) (by rw [put_len]; exact b2) (fun j z hj => by
      rw [nth_put] at hj
      split at hj
      · cases hj
        exact ⟨s0, s1⟩
      · exact b3 j z hj)
  have nn : ∀ c, c ≠ 643 → gNth M1 c = gNth M c := fun c hc => by rw [e1, nth_put, if_neg (fun q => hc q.1)]
  have F1 : Frm sT mdL M M1 := by rw [e1]; exact Frm.row r643 sT_643 (by decide)
  have hM1 : gNth M1 633 = some (.inr (11, vs)) := by rw [nn 633 (by decide)]; exact hM
  have c1 : Cst M1 S P O ls lp := ⟨vs, hM1, v19, v20, v21, by rw [nn 645 (by decide)]; exact r645, by rw [nn 648 (by decide)]; exact r648⟩
  have R1 : Rws M1 lm (gPut lf (112 + n) S) lt := ⟨by rw [nn 639 (by decide)]; exact r639, by rw [e1, nth_put, if_pos ⟨rfl, gNth_lt _ _ _ r643⟩], by rw [nn 644 (by decide)]; exact r644⟩
  have L1 : LOK n ls (gPut lf (112 + n) S) lt s := fun j j1 j2 => by
    obtain ⟨f2, t2, q1, q2, q3⟩ := hl j j1 j2
    exact ⟨f2, t2, by rw [nth_put, if_neg (by omega)]; exact q1, q2, q3⟩
  have I1 : ITC q0 lm (gPut lf (112 + n) S) lt ls := ⟨hi.1, fun j hj => ⟨by rw [nth_put, if_neg (by omega)]; exact (hi.2.1 j hj).1, (hi.2.1 j hj).2⟩, hi.2.2⟩
  have hf : gNth (gPut lf (112 + n) S) (112 + n) = some S := by rw [nth_put, if_pos ⟨rfl, by omega⟩]
  refine RF.pre (fun v M' hz => li_90 hM h13 v19 r643 y1 (by rw [cl_n hx, ← e1]; exact hz)) ?_
  have g142 : ∀ (u : Int32) (M2 : Mem) (md : Md), TM sT sG M2 → Frm sT md M1 M2 → ((!(mdIn md 11 19 || mdIn md 11 20 || mdIn md 11 21 || mdIn md 1073 0 || mdIn md 1076 0)) && (!(mdIn md 1067 0 || mdIn md 1071 0 || mdIn md 1072 0))) = true → (∀ q ∈ md, q ∈ mdL) → RF (LiQ q0 n N M0) [] (e + 4) 170 142 [some (.ref 633), some (.int x), some (.int kd), some (.int u)] [] M2 := by
    intro u M2 md T2 F2 hm hsub
    obtain ⟨m1, m2⟩ := and_t hm
    have c2 := c1.frm F2 m1
    have R2 := R1.frm F2 m2
    have F02 : Frm sT mdL M0 M2 := (hF.trans F1).trans (F2.more hsub)
    obtain ⟨vs2, hM2, _⟩ := id c2
    refine RF.pre (fun v M' hz => li_142 hz) ?_
    by_cases hu : u = 0
    · rw [if_pos hu]
      exact li_end hx hn F02 T2 c2 h1 h2 h3 R2 h7 L1 I1 hf s0 (Or.inl rfl)
    rw [if_neg hu]
    obtain ⟨r, M3, q1, T3, F3, hres⟩ := ev_cond (e := e) (x1 := none) T2 c2 h1 h2 h3
    refine RF.pre (fun v M' hz => li_146 (Ev.call0 (fun n => gs_7 rfl rfl (cal_cd hM2 rfl)) q1 (li_150 hz))) ?_
    have F03 : Frm sT mdL M0 M3 := F02.trans (F3.more (by decide))
    have R3 := R2.frm F3 (by decide)
    rcases hres with ⟨rfl, ls3, b4, b5⟩ | ⟨rfl, s', o', ls', lp', J⟩
    · rw [if_pos rfl]
      exact ⟨some (.int 0), M3, li_153, 0, rfl, T3, F03, Or.inl ⟨rfl, lm, _, lt, ls3, R3, b4, I1.1, I1.2.1, fun i hi2 => by rw [b5 i hi2]; exact I1.2.2 i hi2⟩⟩
    · rw [if_neg (by decide)]
      obtain ⟨_, ⟨S', P', O', c3, g1, g2, g3⟩, hcnt, hle, ⟨dd, r1, _⟩, _, heq⟩ := J
      refine li_end (s := s') (o := o') hx hn F03 T3 c3 g1 g3 (by omega) R3 h7 (fun j j1 j2 => ?_) ⟨I1.1, I1.2.1, fun i hi2 => by rw [heq i (by omega)]; exact I1.2.2 i hi2⟩ hf s0 (Or.inr ⟨s' - s, 1400 + s, by omega, by omega, r1.ok⟩)
      obtain ⟨f2, t2, q1, q2, q3, q4, q5⟩ := L1 j j1 j2
      refine ⟨f2, t2, q1, q2, q3, by omega, q5.imp id (fun ⟨m, k, k1, k2, k3⟩ => ⟨m, k, k1, k2, k3.eq (fun i i1 i2 => heq i (by omega))⟩)⟩
  have g126 : ∀ u : Int32, RF (LiQ q0 n N M0) [] (e + 4) 170 126 [some (.ref 633), some (.int x), some (.int kd), some (.int u)] [] M1 := by
    intro u
    obtain ⟨y, y1⟩ := un_word (e := e + 3) (k := 26982) T1
    refine RF.pre (fun v M' hz => li_126 (Ev.call0 (fun n => gs_7 rfl rfl (cal_ww hM1 rfl)) y1 (li_133 hz))) ?_
    by_cases hy : y = 0
    · rw [if_pos hy]
      exact g142 u M1 [] T1 (Frm.refl M1) (by decide) (by decide)
    · rw [if_neg hy]
      obtain ⟨M2, x2, T2, F2⟩ := un_next (e := e + 2) T1
      refine RF.pre (fun v M' hz => li_136 (Ev.call0 (fun n => gs_7 rfl rfl (cal_nx hM1 rfl)) x2 (li_140 hz))) ?_
      exact g142 1 M2 mdN T2 F2 (by decide) (by decide)
  have g116 : ∀ u : Int32, RF (LiQ q0 n N M0) [] (e + 4) 170 (if kd = 0 then 126 else 116) [some (.ref 633), some (.int x), some (.int kd), some (.int u)] [] M1 := by
    intro u
    by_cases k0 : kd = 0
    · rw [if_pos k0]; exact g126 u
    rw [if_neg k0]
    refine RF.pre (fun v M' hz => li_116 hz) ?_
    by_cases k1 : kd = 1
    · rw [if_pos k1]; exact g126 u
    rw [if_neg k1]
    refine RF.pre (fun v M' hz => li_121 hz) ?_
    by_cases k5 : kd = 5
    · rw [if_pos k5]; exact g126 u
    rw [if_neg k5]
    exact g142 u M1 [] T1 (Frm.refl M1) (by decide) (by decide)
  refine RF.pre (fun v M' hz => li_100 hz) ?_
  by_cases k6 : kd = 6
  · rw [if_pos k6]
    exact RF.pre (fun v M' hz => li_106 hz) (g116 1)
  · rw [if_neg k6]
    exact RF.pre (fun v M' hz => li_110 hz) (g116 0)
theorem ev_line1 {M : Mem} {x3 : Option Value} (hx : x.toInt = ((112 + n : Nat) : Int)) (hn : n ≤ 15) (h : WW q0 n N M) : RF (LiQ q0 n N M) [] (e + 4) 170 0 [some (.ref 633), some (.int x), some (.int kd), x3] [] M := by
  have g31 : ∀ (M1 : Mem) (x3 : Option Value), WW q0 n N M1 → Frm sT mdL M M1 → RF (LiQ q0 n N M) [] (e + 4) 170 31 [some (.ref 633), some (.int x), some (.int kd), x3] [] M1 := by
    intro M1 x3 h1 F1
    obtain ⟨T1, vs, hM⟩ := h1.obj
    refine RF.pre (fun v M' hz => li_31 hz) ?_
    by_cases k6 : kd = 6
    · rw [if_pos k6]
      exact li_90on hx hn F1 h1
    rw [if_neg k6]
    have tk : ∀ lo hi : Int32, RF (LiQ q0 n N M) [] (e + 4) 170 72 [some (.ref 633), some (.int x), some (.int kd), x3] [.int hi, .int lo, .ref 633] M1 := by
      intro lo hi
      obtain ⟨v, M2, q1, T2, F2, s, hs, q2⟩ := use_cn (d := e + 3) (ws := [.ref 633, .int lo, .int hi]) kX11_takes_ok mRl.2 rfl rfl (Nat.le_add_left 2 (e + 1)) (Two.mk rfl (Two.mk ⟨lo, rfl, i32_any lo⟩ (Two.mk ⟨hi, rfl, i32_any hi⟩ trivial))) T1
      cases List.mem_singleton.mp hs
      cases v with
      | none => exact q2.elim
      | some w =>
        obtain ⟨y, rfl, _⟩ := q2
        have W2 := h1.frm T2 F2 (by decide)
        have F02 : Frm sT mdL M M2 := F1.trans (F2.more (by decide))
        refine RF.pre (fun v M' hz => Ev.call0 (fun n => gs_7 rfl rfl (cal_tk hM rfl)) q1 (li_75 hz)) ?_
        by_cases hy : y = 0
        · rw [if_pos hy]
          exact li_no W2 F02 li_78
        rw [if_neg hy]
        obtain ⟨_, vs2, hM2⟩ := W2.obj
        obtain ⟨vs9, hM9, hv⟩ := T2.mfld
        cases hM2.symm.trans hM9
        have h12 := hv _ _ _ (and_t (and_t (and_t mfL).1).1).2 sUL.2.1
        obtain ⟨vs9, td, hM9, _, g32, _⟩ := T2.fint fB_32
        cases hM2.symm.trans hM9
        obtain ⟨l2, b1, b2, _⟩ := T2.mrow sTL.2 (and_t rwL).2
        obtain ⟨y9, y1, y2⟩ := at_c (l := l2) hx (by omega)
        refine RF.pre (fun v M' hz => li_80 hM2 h12 g32 b1 y1 hz) ?_
        rw [cl_n hx]
        have F3 : Frm sT [(1070, 0)] M2 (gPut M2 642 (.inl (1, .inl (gPut l2 (112 + n) td)))) := Frm.row b1 sTL.2 (by decide)
        have T3 := any_put T2 sTL.2 b1 b2 (by decide +kernel) (112 + n) td
        exact li_90on hx hn (F02.trans (F3.more (by decide))) (W2.frm T3 F3 (by decide))
    have hi : ∀ lo : Int32, RF (LiQ q0 n N M) [] (e + 4) 170 (if kd = 5 then 53 else 58) [some (.ref 633), some (.int x), some (.int kd), x3] [.int lo, .ref 633] M1 := by
      intro lo
      by_cases k5 : kd = 5
      · rw [if_pos k5]
        exact RF.pre (fun v M' hz => li_53 hz) (tk lo 99)
      rw [if_neg k5]
      refine RF.pre (fun v M' hz => li_58 hz) ?_
      by_cases k7 : kd = 7
      · rw [if_pos k7]
        exact RF.pre (fun v M' hz => li_64 hz) (tk lo 9)
      · rw [if_neg k7]
        exact RF.pre (fun v M' hz => li_69 hz) (tk lo 999)
    refine RF.pre (fun v M' hz => li_37 hz) ?_
    by_cases k2 : kd = 2
    · rw [if_pos k2]
      exact RF.pre (fun v M' hz => li_43 hz) (hi 1)
    · rw [if_neg k2]
      exact RF.pre (fun v M' hz => li_47 hz) (hi 0)
  refine RF.pre (fun v M' hz => li_0 hz) ?_
  by_cases k5 : kd = 5
  · rw [if_pos k5]
    obtain ⟨hT, vs, hM⟩ := h.obj
    obtain ⟨v, M2, q1, T2, F2, s, hs, q2⟩ := use_cn (d := e + 3) (ws := [.ref 633]) kX11_measure_ok mRl.1 rfl rfl (Nat.zero_le _) (Two.mk rfl trivial) hT
    cases List.mem_singleton.mp hs
    cases pure_ok F2
    cases v with
    | none => exact q2.elim
    | some w =>
      obtain ⟨u, rfl, _⟩ := q2
      refine RF.pre (fun v M' hz => li_5 (Ev.call0 (fun n => gs_7 rfl rfl (cal_me hM rfl)) q1 (li_9 hz))) ?_
      by_cases hu : 0 ≤ u
      · rw [if_pos hu]
        obtain ⟨vs9, hM9, hv⟩ := hT.mfld
        cases hM.symm.trans hM9
        have h11 := hv _ _ _ (and_t (and_t (and_t mfL).1).1).1 sUL.1
        obtain ⟨l2, b1, b2, _⟩ := hT.mrow sTL.1 (and_t rwL).1
        obtain ⟨y9, y1, y2⟩ := at_c (l := l2) hx (by omega)
        have F3 : Frm sT [(1069, 0)] M (gPut M 641 (.inl (1, .inl (gPut l2 (112 + n) u)))) := Frm.row b1 sTL.1 (by decide)
        have T3 := any_put hT sTL.1 b1 b2 (by decide +kernel) (112 + n) u
        have W3 := h.frm T3 F3 (by decide)
        obtain ⟨_, vs3, hM3⟩ := W3.obj
        obtain ⟨M4, x4, T4, F4⟩ := un_next (e := e + 2) T3
        refine RF.pre (fun v M' hz => li_20 hM h11 b1 y1 (by rw [cl_n hx]; exact li_27 (Ev.call0 (fun n => gs_7 rfl rfl (cal_nx hM3 rfl)) x4 hz))) ?_
        exact g31 M4 _ (W3.frm T4 F4 (by decide)) ((F3.more (by decide)).trans (F4.more (by decide)))
      · rw [if_neg hu]
        obtain ⟨M', h1, h2, h3⟩ := un_bad (e := e + 3) (k := 1) hT
        exact ⟨some (.int 0), M', li_14 (Ev.call0 (fun n => gs_7 rfl rfl (cal_bd hM rfl)) h1 li_19), 0, rfl, h2, h3.more (by decide), Or.inl ⟨rfl, h.itx.frm h3 (by decide)⟩⟩
  · rw [if_neg k5]
    exact g31 M x3 h (Frm.refl M)
end LINE
