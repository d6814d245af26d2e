/-! BY HAND: reading texts, the reference: read -/
theorem rd_0 {e : Nat} {M : Mem} {M' : Mem} {v : Option Value} {vs : List Value} {f22 lw : Int32} {x2 x3 x4 : Option Value} (hM : gNth M 633 = some (.inr (11, vs))) (v22 : gNth vs 22 = some (.int f22)) (hz : Ev none (e + 5) 169 (if f22 = 0 then 151 else 7) [some (.ref 633), some (.int lw), x2, x3, x4] [] M v M' 0 0) : Ev none (e + 5) 169 0 [some (.ref 633), some (.int lw), x2, x3, x4] [] M v M' 0 0 := by
  refine Ev.step (pc' := 1) (ls' := [some (.ref 633), some (.int lw), x2, x3, x4]) (st' := [.ref 633]) (M1 := M) 1 (fun n => rfl) ?_
  refine Ev.step 1 (gs_3 rfl rfl (gf_g rfl hM v22)) ?_
  refine Ev.step (pc' := (if f22 = 0 then 151 else 7)) (ls' := [some (.ref 633), some (.int lw), x2, x3, x4]) (st' := []) (M1 := M) 1 (fun n => rfl) ?_
  exact hz
theorem rd_7 {e : Nat} {M : Mem} {M' : Mem} {v : Option Value} {lw : Int32} {x2 x3 x4 : Option Value}  (hz : Ev none (e + 5) 169 9 [some (.ref 633), some (.int lw), x2, x3, x4] [.int lw, .ref 633] M v M' 0 0) : Ev none (e + 5) 169 7 [some (.ref 633), some (.int lw), x2, x3, x4] [] M v M' 0 0 := by
  refine Ev.step (pc' := 9) (ls' := [some (.ref 633), some (.int lw), x2, x3, x4]) (st' := [.int lw, .ref 633]) (M1 := M) 2 (fun n => rfl) ?_
  exact hz
theorem rd_12 {e : Nat} {M : Mem} {M' : Mem} {v : Option Value} {kd lw : Int32} {x2 x3 x4 : Option Value}  (hz : Ev none (e + 5) 169 (if 0 ≤ kd then 23 else 17) [some (.ref 633), some (.int lw), some (.int kd), x3, x4] [] M v M' 0 0) : Ev none (e + 5) 169 12 [some (.ref 633), some (.int lw), x2, x3, x4] [.int kd] M v M' 0 0 := by
  refine Ev.step (pc' := (if 0 ≤ kd then 23 else 17)) (ls' := [some (.ref 633), some (.int lw), some (.int kd), x3, x4]) (st' := []) (M1 := M) 3 (fun n => rfl) ?_
  exact hz
theorem rd_17 {e : Nat} {M : Mem} {M' : Mem} {v : Option Value} {kd lw : Int32} {x3 x4 : Option Value}  (hz : Ev none (e + 5) 169 19 [some (.ref 633), some (.int lw), some (.int kd), x3, x4] [.int 1, .ref 633] M v M' 0 0) : Ev none (e + 5) 169 17 [some (.ref 633), some (.int lw), some (.int kd), x3, x4] [] M v M' 0 0 := by
  refine Ev.step (pc' := 19) (ls' := [some (.ref 633), some (.int lw), some (.int kd), x3, x4]) (st' := [.int 1, .ref 633]) (M1 := M) 2 (fun n => rfl) ?_
  exact hz
theorem rd_22 {e : Nat} {M : Mem} {kd lw : Int32} {x3 x4 : Option Value}  : Ev none (e + 5) 169 22 [some (.ref 633), some (.int lw), some (.int kd), x3, x4] [.int 0] M (some (.int 0)) M 0 0 := by
  exact Ev.ret (fun n => rfl)
theorem rd_23 {e : Nat} {M : Mem} {M' : Mem} {v : Option Value} {kd lw : Int32} {x3 x4 : Option Value}  (hz : Ev none (e + 5) 169 26 [some (.ref 633), some (.int lw), some (.int kd), x3, x4] [.int 4, .int 2, .int kd] M v M' 0 0) : Ev none (e + 5) 169 23 [some (.ref 633), some (.int lw), some (.int kd), x3, x4] [] M v M' 0 0 := by
  refine Ev.step (pc' := 26) (ls' := [some (.ref 633), some (.int lw), some (.int kd), x3, x4]) (st' := [.int 4, .int 2, .int kd]) (M1 := M) 3 (fun n => rfl) ?_
  exact hz
theorem rd_29 {e : Nat} {M : Mem} {M' : Mem} {v : Option Value} {kd lw y : Int32} {x3 x4 : Option Value}  (hz : Ev none (e + 5) 169 (if y = 0 then 32 else 38) [some (.ref 633), some (.int lw), some (.int kd), x3, x4] [] M v M' 0 0) : Ev none (e + 5) 169 29 [some (.ref 633), some (.int lw), some (.int kd), x3, x4] [.int y] M v M' 0 0 := by
  refine Ev.step (pc' := (if y = 0 then 32 else 38)) (ls' := [some (.ref 633), some (.int lw), some (.int kd), x3, x4]) (st' := []) (M1 := M) 1 (fun n => rfl) ?_
  exact hz
theorem rd_32 {e : Nat} {M : Mem} {M' : Mem} {v : Option Value} {kd lw : Int32} {x3 x4 : Option Value}  (hz : Ev none (e + 5) 169 (if kd = 7 then 38 else 52) [some (.ref 633), some (.int lw), some (.int kd), x3, x4] [] M v M' 0 0) : Ev none (e + 5) 169 32 [some (.ref 633), some (.int lw), some (.int kd), x3, x4] [] M v M' 0 0 := by
  refine Ev.step (pc' := (if kd = 7 then 38 else 52)) (ls' := [some (.ref 633), some (.int lw), some (.int kd), x3, x4]) (st' := []) (M1 := M) 3 (fun n => rfl) ?_
  exact hz
theorem rd_38 {e : Nat} {M : Mem} {M' : Mem} {v : Option Value} {kd lw : Int32} {x3 x4 : Option Value}  (hz : Ev none (e + 5) 169 42 [some (.ref 633), some (.int lw), some (.int kd), x3, x4] [.int kd, .int 7, .ref 633] M v M' 0 0) : Ev none (e + 5) 169 38 [some (.ref 633), some (.int lw), some (.int kd), x3, x4] [] M v M' 0 0 := by
  refine Ev.step (pc' := 42) (ls' := [some (.ref 633), some (.int lw), some (.int kd), x3, x4]) (st' := [.int kd, .int 7, .ref 633]) (M1 := M) 3 (fun n => rfl) ?_
  exact hz
theorem rd_45 {e : Nat} {M : Mem} {M' : Mem} {v : Option Value} {kd lw y : Int32} {x3 x4 : Option Value}  (hz : Ev none (e + 5) 169 (if y < 0 then 52 else 48) [some (.ref 633), some (.int lw), some (.int kd), x3, x4] [] M v M' 0 0) : Ev none (e + 5) 169 45 [some (.ref 633), some (.int lw), some (.int kd), x3, x4] [.int y] M v M' 0 0 := by
  refine Ev.step (pc' := (if y < 0 then 52 else 48)) (ls' := [some (.ref 633), some (.int lw), some (.int kd), x3, x4]) (st' := []) (M1 := M) 1 (fun n => rfl) ?_
  exact hz
theorem rd_48 {e : Nat} {M : Mem} {M' : Mem} {v : Option Value} {kd lw : Int32} {x3 x4 : Option Value}  (hz : Ev none (e + 5) 169 70 [some (.ref 633), some (.int lw), some (.int kd), some (.int 1), x4] [] M v M' 0 0) : Ev none (e + 5) 169 48 [some (.ref 633), some (.int lw), some (.int kd), x3, x4] [] M v M' 0 0 := by
  refine Ev.step (pc' := 70) (ls' := [some (.ref 633), some (.int lw), some (.int kd), some (.int 1), x4]) (st' := []) (M1 := M) 5 (fun n => rfl) ?_
  exact hz
theorem rd_52 {e : Nat} {M : Mem} {M' : Mem} {v : Option Value} {kd lw : Int32} {x3 x4 : Option Value}  (hz : Ev none (e + 5) 169 58 [some (.ref 633), some (.int lw), some (.int kd), some (.int 0), x4] [] M v M' 0 0) : Ev none (e + 5) 169 52 [some (.ref 633), some (.int lw), some (.int kd), x3, x4] [] M v M' 0 0 := by
  refine Ev.step (pc' := 58) (ls' := [some (.ref 633), some (.int lw), some (.int kd), some (.int 0), x4]) (st' := []) (M1 := M) 4 (fun n => rfl) ?_
  exact hz
theorem rd_58 {e : Nat} {M : Mem} {M' : Mem} {v : Option Value} {vs : List Value} {kd lw y1 : Int32} {l639 : List Int32} {x3 x4 : Option Value} (hM : gNth M 633 = some (.inr (11, vs))) (v9 : gNth vs 9 = some (.ref 639)) (r639 : gNth M 639 = some (.inl (1, .inl l639))) (g1 : gAt l639 7 = some y1) (hz : Ev none (e + 5) 169 (if y1 = 16 then 70 else 76) [some (.ref 633), some (.int lw), some (.int kd), x3, x4] [] M v M' 0 0) : Ev none (e + 5) 169 58 [some (.ref 633), some (.int lw), some (.int kd), x3, x4] [] M v M' 0 0 := by
  refine Ev.step (pc' := 59) (ls' := [some (.ref 633), some (.int lw), some (.int kd), x3, x4]) (st' := [.ref 633]) (M1 := M) 1 (fun n => rfl) ?_
  refine Ev.step 1 (gs_3 rfl rfl (gf_g rfl hM v9)) ?_
  refine Ev.step (pc' := 64) (ls' := [some (.ref 633), some (.int lw), some (.int kd), x3, x4]) (st' := [.int 7, .ref 639]) (M1 := M) 1 (fun n => rfl) ?_
  refine Ev.step 1 (gs_3 rfl rfl (ia_g r639 g1)) ?_
  refine Ev.step (pc' := (if y1 = 16 then 70 else 76)) (ls' := [some (.ref 633), some (.int lw), some (.int kd), x3, x4]) (st' := []) (M1 := M) 2 (fun n => rfl) ?_
  exact hz
theorem rd_70 {e : Nat} {M : Mem} {M' : Mem} {v : Option Value} {kd lw : Int32} {x3 x4 : Option Value}  (hz : Ev none (e + 5) 169 72 [some (.ref 633), some (.int lw), some (.int kd), x3, x4] [.int 3, .ref 633] M v M' 0 0) : Ev none (e + 5) 169 70 [some (.ref 633), some (.int lw), some (.int kd), x3, x4] [] M v M' 0 0 := by
  refine Ev.step (pc' := 72) (ls' := [some (.ref 633), some (.int lw), some (.int kd), x3, x4]) (st' := [.int 3, .ref 633]) (M1 := M) 2 (fun n => rfl) ?_
  exact hz
theorem rd_75 {e : Nat} {M : Mem} {kd lw : Int32} {x3 x4 : Option Value}  : Ev none (e + 5) 169 75 [some (.ref 633), some (.int lw), some (.int kd), x3, x4] [.int 0] M (some (.int 0)) M 0 0 := by
  exact Ev.ret (fun n => rfl)
theorem rd_76 {e : Nat} {M : Mem} {M' : Mem} {v : Option Value} {vs : List Value} {kd lw tw y1 : Int32} {l639 : List Int32} {x4 : Option Value} (hM : gNth M 633 = some (.inr (11, vs))) (v9 : gNth vs 9 = some (.ref 639)) (r639 : gNth M 639 = some (.inl (1, .inl l639))) (g1 : gAt l639 7 = some y1) (hz : Ev none (e + 5) 169 89 [some (.ref 633), some (.int lw), some (.int kd), some (.int tw), some (.int (112 + y1))] [.ref 633] M v M' 0 0) : Ev none (e + 5) 169 76 [some (.ref 633), some (.int lw), some (.int kd), some (.int tw), x4] [] M v M' 0 0 := by
  refine Ev.step (pc' := 79) (ls' := [some (.ref 633), some (.int lw), some (.int kd), some (.int tw), x4]) (st' := [.ref 633, .int 112]) (M1 := M) 2 (fun n => rfl) ?_
  refine Ev.step 1 (gs_3 rfl rfl (gf_g rfl hM v9)) ?_
  refine Ev.step (pc' := 84) (ls' := [some (.ref 633), some (.int lw), some (.int kd), some (.int tw), x4]) (st' := [.int 7, .ref 639, .int 112]) (M1 := M) 1 (fun n => rfl) ?_
  refine Ev.step 1 (gs_3 rfl rfl (ia_g r639 g1)) ?_
  refine Ev.step (pc' := 89) (ls' := [some (.ref 633), some (.int lw), some (.int kd), some (.int tw), some (.int (112 + y1))]) (st' := [.ref 633]) (M1 := M) 3 (fun n => rfl) ?_
  exact hz
theorem rd_92 {e : Nat} {M : Mem} {M' : Mem} {v : Option Value} {vs : List Value} {kd lw x y1 : Int32} {l640 : List Int32} {x3 : Option Value} (hM : gNth M 633 = some (.inr (11, vs))) (v10 : gNth vs 10 = some (.ref 640)) (r640 : gNth M 640 = some (.inl (1, .inl l640))) (g1 : gAt l640 x = some y1) (hz : Ev none (e + 5) 169 100 [some (.ref 633), some (.int lw), some (.int kd), x3, some (.int x)] [] (gPut M 640 (.inl (1, .inl (gPut l640 x.toNatClampNeg kd)))) v M' 0 0) : Ev none (e + 5) 169 92 [some (.ref 633), some (.int lw), some (.int kd), x3, some (.int x)] [] M v M' 0 0 := by
  refine Ev.step (pc' := 93) (ls' := [some (.ref 633), some (.int lw), some (.int kd), x3, some (.int x)]) (st' := [.ref 633]) (M1 := M) 1 (fun n => rfl) ?_
  refine Ev.step 1 (gs_3 rfl rfl (gf_g rfl hM v10)) ?_
  refine Ev.step (pc' := 99) (ls' := [some (.ref 633), some (.int lw), some (.int kd), x3, some (.int x)]) (st' := [.int kd, .int x, .ref 640]) (M1 := M) 2 (fun n => rfl) ?_
  refine Ev.step 1 (gs_4 rfl rfl (is_g r640 g1)) ?_
  exact hz
theorem rd_100 {e : Nat} {M : Mem} {M' : Mem} {v : Option Value} {vs : List Value} {kd lw x y1 : Int32} {l641 : List Int32} {x3 : Option Value} (hM : gNth M 633 = some (.inr (11, vs))) (v11 : gNth vs 11 = some (.ref 641)) (r641 : gNth M 641 = some (.inl (1, .inl l641))) (g1 : gAt l641 x = some y1) (hz : Ev none (e + 5) 169 108 [some (.ref 633), some (.int lw), some (.int kd), x3, some (.int x)] [] (gPut M 641 (.inl (1, .inl (gPut l641 x.toNatClampNeg 0)))) v M' 0 0) : Ev none (e + 5) 169 100 [some (.ref 633), some (.int lw), some (.int kd), x3, some (.int x)] [] M v M' 0 0 := by
  refine Ev.step (pc' := 101) (ls' := [some (.ref 633), some (.int lw), some (.int kd), x3, some (.int x)]) (st' := [.ref 633]) (M1 := M) 1 (fun n => rfl) ?_
  refine Ev.step 1 (gs_3 rfl rfl (gf_g rfl hM v11)) ?_
  refine Ev.step (pc' := 107) (ls' := [some (.ref 633), some (.int lw), some (.int kd), x3, some (.int x)]) (st' := [.int 0, .int x, .ref 641]) (M1 := M) 2 (fun n => rfl) ?_
  refine Ev.step 1 (gs_4 rfl rfl (is_g r641 g1)) ?_
  exact hz
theorem rd_108 {e : Nat} {M : Mem} {M' : Mem} {v : Option Value} {vs : List Value} {kd lw x y1 : Int32} {l642 : List Int32} {x3 : Option Value} (hM : gNth M 633 = some (.inr (11, vs))) (v12 : gNth vs 12 = some (.ref 642)) (r642 : gNth M 642 = some (.inl (1, .inl l642))) (g1 : gAt l642 x = some y1) (hz : Ev none (e + 5) 169 116 [some (.ref 633), some (.int lw), some (.int kd), x3, some (.int x)] [] (gPut M 642 (.inl (1, .inl (gPut l642 x.toNatClampNeg 0)))) v M' 0 0) : Ev none (e + 5) 169 108 [some (.ref 633), some (.int lw), some (.int kd), x3, some (.int x)] [] M v M' 0 0 := by
  refine Ev.step (pc' := 109) (ls' := [some (.ref 633), some (.int lw), some (.int kd), x3, some (.int x)]) (st' := [.ref 633]) (M1 := M) 1 (fun n => rfl) ?_
  refine Ev.step 1 (gs_3 rfl rfl (gf_g rfl hM v12)) ?_
  refine Ev.step (pc' := 115) (ls' := [some (.ref 633), some (.int lw), some (.int kd), x3, some (.int x)]) (st' := [.int 0, .int x, .ref 642]) (M1 := M) 2 (fun n => rfl) ?_
  refine Ev.step 1 (gs_4 rfl rfl (is_g r642 g1)) ?_
  exact hz
theorem rd_116 {e : Nat} {M : Mem} {M' : Mem} {v : Option Value} {kd lw x : Int32} {x3 : Option Value}  (hz : Ev none (e + 5) 169 120 [some (.ref 633), some (.int lw), some (.int kd), x3, some (.int x)] [.int kd, .int x, .ref 633] M v M' 0 0) : Ev none (e + 5) 169 116 [some (.ref 633), some (.int lw), some (.int kd), x3, some (.int x)] [] M v M' 0 0 := by
  refine Ev.step (pc' := 120) (ls' := [some (.ref 633), some (.int lw), some (.int kd), x3, some (.int x)]) (st' := [.int kd, .int x, .ref 633]) (M1 := M) 3 (fun n => rfl) ?_
  exact hz
theorem rd_123 {e : Nat} {M : Mem} {M' : Mem} {v : Option Value} {kd lw x y : Int32} {x3 : Option Value}  (hz : Ev none (e + 5) 169 (if y = 0 then 135 else 126) [some (.ref 633), some (.int lw), some (.int kd), x3, some (.int x)] [] M v M' 0 0) : Ev none (e + 5) 169 123 [some (.ref 633), some (.int lw), some (.int kd), x3, some (.int x)] [.int y] M v M' 0 0 := by
  refine Ev.step (pc' := (if y = 0 then 135 else 126)) (ls' := [some (.ref 633), some (.int lw), some (.int kd), x3, some (.int x)]) (st' := []) (M1 := M) 1 (fun n => rfl) ?_
  exact hz
theorem rd_126 {e : Nat} {M : Mem} {M' : Mem} {v : Option Value} {kd lw x : Int32} {x3 : Option Value}  (hz : Ev none (e + 5) 169 129 [some (.ref 633), some (.int lw), some (.int kd), x3, some (.int x)] [.int 59, .ref 633] M v M' 0 0) : Ev none (e + 5) 169 126 [some (.ref 633), some (.int lw), some (.int kd), x3, some (.int x)] [] M v M' 0 0 := by
  refine Ev.step (pc' := 129) (ls' := [some (.ref 633), some (.int lw), some (.int kd), x3, some (.int x)]) (st' := [.int 59, .ref 633]) (M1 := M) 2 (fun n => rfl) ?_
  exact hz
theorem rd_132 {e : Nat} {M : Mem} {M' : Mem} {v : Option Value} {kd lw x y : Int32} {x3 : Option Value}  (hz : Ev none (e + 5) 169 (if y = 0 then 135 else 137) [some (.ref 633), some (.int lw), some (.int kd), x3, some (.int x)] [] M v M' 0 0) : Ev none (e + 5) 169 132 [some (.ref 633), some (.int lw), some (.int kd), x3, some (.int x)] [.int y] M v M' 0 0 := by
  refine Ev.step (pc' := (if y = 0 then 135 else 137)) (ls' := [some (.ref 633), some (.int lw), some (.int kd), x3, some (.int x)]) (st' := []) (M1 := M) 1 (fun n => rfl) ?_
  exact hz
theorem rd_135 {e : Nat} {M : Mem} {kd lw x : Int32} {x3 : Option Value}  : Ev none (e + 5) 169 135 [some (.ref 633), some (.int lw), some (.int kd), x3, some (.int x)] [] M (some (.int 0)) M 0 0 := by
  refine Ev.step (pc' := 136) (ls' := [some (.ref 633), some (.int lw), some (.int kd), x3, some (.int x)]) (st' := [.int 0]) (M1 := M) 1 (fun n => rfl) ?_
  exact Ev.ret (fun n => rfl)
theorem rd_137 {e : Nat} {M : Mem} {M' : Mem} {v : Option Value} {vs : List Value} {kd lw x y1 : Int32} {l639 : List Int32} {x3 : Option Value} (hM : gNth M 633 = some (.inr (11, vs))) (v9 : gNth vs 9 = some (.ref 639)) (r639 : gNth M 639 = some (.inl (1, .inl l639))) (g1 : gAt l639 7 = some y1) (hz : Ev none (e + 5) 169 0 [some (.ref 633), some (.int lw), some (.int kd), x3, some (.int x)] [] (gPut M 639 (.inl (1, .inl (gPut l639 (7 : Int32).toNatClampNeg (y1 + 1))))) v M' 0 0) : Ev none (e + 5) 169 137 [some (.ref 633), some (.int lw), some (.int kd), x3, some (.int x)] [] M v M' 0 0 := by
  refine Ev.step (pc' := 138) (ls' := [some (.ref 633), some (.int lw), some (.int kd), x3, some (.int x)]) (st' := [.ref 633]) (M1 := M) 1 (fun n => rfl) ?_
  refine Ev.step 1 (gs_3 rfl rfl (gf_g rfl hM v9)) ?_
  refine Ev.step (pc' := 144) (ls' := [some (.ref 633), some (.int lw), some (.int kd), x3, some (.int x)]) (st' := [.int 7, .ref 639, .int 7, .ref 639]) (M1 := M) 2 (fun n => rfl) ?_
  refine Ev.step 1 (gs_3 rfl rfl (ia_g r639 g1)) ?_
  refine Ev.step (pc' := 147) (ls' := [some (.ref 633), some (.int lw), some (.int kd), x3, some (.int x)]) (st' := [.int (y1 + 1), .int 7, .ref 639]) (M1 := M) 2 (fun n => rfl) ?_
  refine Ev.step 1 (gs_4 rfl rfl (is_g r639 g1)) ?_
  refine Ev.step (pc' := 0) (ls' := [some (.ref 633), some (.int lw), some (.int kd), x3, some (.int x)]) (st' := []) (M1 := (gPut M 639 (.inl (1, .inl (gPut l639 (7 : Int32).toNatClampNeg (y1 + 1)))))) 1 (fun n => rfl) ?_
  exact hz
theorem rd_151 {e : Nat} {M : Mem} {lw : Int32} {x2 x3 x4 : Option Value}  : Ev none (e + 5) 169 151 [some (.ref 633), some (.int lw), x2, x3, x4] [] M (some (.int 1)) M 0 0 := by
  refine Ev.step (pc' := 152) (ls' := [some (.ref 633), some (.int lw), x2, x3, x4]) (st' := [.int 1]) (M1 := M) 1 (fun n => rfl) ?_
  exact Ev.ret (fun n => rfl)
theorem cal_lo {M : Mem} {vs : List Value} {a0 : Int32} {rest : List Value} (hM : gNth M 633 = some (.inr (11, vs))) (hr : gRoom rest = true) : gCal (.invokevirtual 223) 11 (.int a0 :: .ref 633 :: rest) M = some (.inr (168, [some (.ref 633), some (.int a0)], rest)) := by
  show @cond (Option ((List Value × Mem) ⊕ (Nat × Lo × List Value))) (true && gRecv M (.ref 633) 11 && gRoom rest && true) (some (.inr (168, [some (.ref 633), some (.int a0)], rest))) none = _
  rw [recv_ok hM, hr]
  rfl
theorem cal_fi {M : Mem} {vs : List Value} {a0 a1 : Int32} {rest : List Value} (hM : gNth M 633 = some (.inr (11, vs))) (hr : gRoom rest = true) : gCal (.invokevirtual 227) 11 (.int a1 :: .int a0 :: .ref 633 :: rest) M = some (.inr (172, [some (.ref 633), some (.int a0), some (.int a1), none], rest)) := by
  show @cond (Option ((List Value × Mem) ⊕ (Nat × Lo × List Value))) (true && gRecv M (.ref 633) 11 && gRoom rest && true) (some (.inr (172, [some (.ref 633), some (.int a0), some (.int a1), none], rest))) none = _
  rw [recv_ok hM, hr]
  rfl
theorem cal_li {M : Mem} {vs : List Value} {a0 a1 : Int32} {rest : List Value} (hM : gNth M 633 = some (.inr (11, vs))) (hr : gRoom rest = true) : gCal (.invokevirtual 230) 11 (.int a1 :: .int a0 :: .ref 633 :: rest) M = some (.inr (170, [some (.ref 633), some (.int a0), some (.int a1), none], rest)) := by
  show @cond (Option ((List Value × Mem) ⊕ (Nat × Lo × List Value))) (true && gRecv M (.ref 633) 11 && gRoom rest && true) (some (.inr (170, [some (.ref 633), some (.int a0), some (.int a1), none], rest))) none = _
  rw [recv_ok hM, hr]
  rfl
theorem cal_sn {M : Mem} {vs : List Value} {a0 : Int32} {rest : List Value} (hM : gNth M 633 = some (.inr (11, vs))) (hr : gRoom rest = true) : gCal (.invokevirtual 234) 11 (.int a0 :: .ref 633 :: rest) M = some (.inr (166, [some (.ref 633), some (.int a0)], rest)) := by
  show @cond (Option ((List Value × Mem) ⊕ (Nat × Lo × List Value))) (true && gRecv M (.ref 633) 11 && gRoom rest && true) (some (.inr (166, [some (.ref 633), some (.int a0)], rest))) none = _
  rw [recv_ok hM, hr]
  rfl
set_option maxRecDepth 100000 in
theorem rw_68 : rwB 68 1 128 (-2147483648) 2147483647 = true := by decide +kernel
set_option maxRecDepth 100000 in
theorem rw_67 : rwB 67 1 8 0 16 = true := by decide +kernel
set_option maxRecDepth 100000 in
theorem mfR : (mfB 9 67 && mfB 10 68) = true := by decide +kernel
set_option maxRecDepth 100000 in
theorem sUR : gNth sU 67 = some (some 639) ∧ gNth sU 68 = some (some 640) := by refine ⟨?_, ?_⟩ <;> decide +kernel
set_option maxRecDepth 100000 in
theorem sT_640 : gNth sT 640 = some 68 := by decide +kernel
set_option maxRecDepth 100000 in
theorem mRr : (gNth mRs 168).map (fun q => q.2.2.2.1) = some 2 ∧ (gNth mRs 172).map (fun q => q.2.2.2.1) = some 4 ∧ (gNth mRs 166).map (fun q => q.2.2.2.1) = some 2 := by refine ⟨?_, ?_, ?_⟩ <;> decide +kernel
noncomputable def lmB : Bool := match gNth sG 67 with
  | some (.inr (1, 8, .inl sg)) => (List.range 8).all (fun j => match sgAt sg j with
    | some p => decide (p.1 ≤ 0) && decide (16 ≤ p.2)
    | _ => false)
  | _ => false
set_option maxRecDepth 100000 in
theorem lmB_ok : lmB = true := by decide +kernel
/-- lineMany is written -/
theorem lm_put {M : Mem} (hT : TM sT sG M) {l : List Int32} (hM : gNth M 639 = some (.inl (1, .inl l))) (i : Nat) {y : Int32} (h0 : 0 ≤ y.toInt) (h1 : y.toInt ≤ 16) : TM sT sG (gPut M 639 (.inl (1, .inl (gPut l i y)))) := by
  obtain ⟨l2, q1, q2, q3⟩ := hT.mrow sT_639 rw_67
  cases q1.symm.trans hM
  have hB := lmB_ok
  unfold lmB at hB
  split at hB
  rotate_left
  · cases hB
  rename_i sg e
  refine hT.put (fun g2 t w1 w2 => ?_)
  rw [sT_639] at w1
  cases w1
  rw [e] at w2
  cases w2
  refine ct_mk (by decide) (by rw [put_len]; exact q2) (fun j x hj => ?_)
  have hj2 := gNth_lt _ _ _ hj
  rw [put_len, q2] at hj2
  have hx : 0 ≤ x.toInt ∧ x.toInt ≤ 16 := by
    rw [nth_put] at hj
    split at hj
    · cases hj
      exact ⟨h0, h1⟩
    · exact q3 j x hj
  have h4 := List.all_eq_true.mp hB j (List.mem_range.mpr hj2)
  cases hp : sgAt sg j with
  | none => rw [hp] at h4; cases h4
  | some p =>
    rw [hp] at h4
    obtain ⟨h5, h6⟩ := and_t h4
    have h5 := of_decide_eq_true h5
    have h6 := of_decide_eq_true h6
    exact ⟨p, rfl, by omega, by omega⟩
/-- all that reading a text may write -/
def mdR : Md := [(11, 4), (11, 19), (11, 20), (11, 21), (11, 22), (11, 23), (11, 24), (11, 25), (11, 26), (11, 27), (11, 31), (11, 32), (1067, 0), (1068, 0), (1069, 0), (1070, 0), (1071, 0), (1072, 0), (1073, 0), (1074, 0), (1075, 0), (1076, 0)]
def RdQ (q0 : List Int32 × List Int32 × List Int32 × List Int32) (M0 : Mem) (v : Option Value) (M' : Mem) : Prop := ∃ r : Int32, v = some (.int r) ∧ TM sT sG M' ∧ Frm sT mdR M0 M' ∧ ((r = 0 ∧ ITX q0 M') ∨ (r = 1 ∧ ∃ n N, WW q0 n N M' ∧ N.toInt = (n : Int) ∧ n ≤ 16))
section READ
variable {q0 : List Int32 × List Int32 × List Int32 × List Int32} {M0 : Mem} {e : Nat}
theorem rd_bad {M : Mem} {n pc : Nat} {N : Int32} {lo : Lo} {st : List Value} (h : WW q0 n N M) (hF : Frm sT mdR M0 M) (k : Int32) (hz : ∀ M', Ev none (e + 4) 163 0 [some (.ref 633), some (.int k)] [] M (some (.int 0)) M' 0 0 → Ev none (e + 5) 169 pc lo st M (some (.int 0)) M' 0 0) : RF (RdQ q0 M0) [] (e + 5) 169 pc lo st M := by
  obtain ⟨M', h1, h2, h3⟩ := un_bad (e := e + 4) (k := k) h.obj.1
  exact ⟨some (.int 0), M', hz M' h1, 0, rfl, h2, hF.trans (h3.more (by decide)), Or.inl ⟨rfl, h.itx.frm h3 (by decide)⟩⟩
theorem rd_loop {lw : Int32} : ∀ (k n : Nat) (N : Int32) (M : Mem) (x2 x3 x4 : Option Value), WW q0 n N M → N.toInt = (n : Int) → n ≤ 16 → 17 ≤ n + k → Frm sT mdR M0 M → RF (RdQ q0 M0) [] (e + 5) 169 0 [some (.ref 633), some (.int lw), x2, x3, x4] [] M := by
  intro k
  induction k with
  | zero => intro n N M x2 x3 x4 h hN hn hk; omega
  | succ k ih =>
    intro n N M x2 x3 x4 h hN hn hk hF
    obtain ⟨hT, vs, hM⟩ := h.obj
    obtain ⟨vs9, tk, hM9, _, g22, _⟩ := hT.fint fB_22
    cases hM.symm.trans hM9
    refine RF.pre (fun v M' hz => rd_0 hM g22 hz) ?_
    by_cases ht : tk = 0
    · rw [if_pos ht]
      exact ⟨some (.int 1), M, rd_151, 1, rfl, hT, hF, Or.inr ⟨rfl, n, N, h, hN, hn⟩⟩
    rw [if_neg ht]
    obtain ⟨v, M2, q1, T2, F2, s, hs, q2⟩ := use_cn (d := e + 4) (ws := [.ref 633, .int lw]) kX11_lineOf_ok mRr.1 rfl rfl (Nat.zero_le _) (Two.mk rfl (Two.mk ⟨lw, rfl, i32_any lw⟩ trivial)) hT
    cases List.mem_singleton.mp hs
    cases pure_ok F2
    cases v with
    | none => exact q2.elim
    | some w =>
    obtain ⟨kd, rfl, _⟩ := q2
    refine RF.pre (fun v M' hz => rd_7 (Ev.call0 (fun n => gs_7 rfl rfl (cal_lo hM rfl)) q1 (rd_12 hz))) ?_
    by_cases hk0 : ¬ 0 ≤ kd
    · rw [if_neg hk0]
      exact rd_bad h hF 1 (fun M' hb => rd_17 (Ev.call0 (fun n => gs_7 rfl rfl (cal_bd hM rfl)) hb rd_22))
    have hk0 := Decidable.not_not.mp hk0
    rw [if_pos hk0]
    obtain ⟨vs9, hM9, hv⟩ := hT.mfld
    cases hM.symm.trans hM9
    have h9 := hv _ _ _ (and_t mfR).1 sUR.1
    have g58 : RF (RdQ q0 M0) [] (e + 5) 169 58 [some (.ref 633), some (.int lw), some (.int kd), some (.int 0), x4] [] M := by
      obtain ⟨s, o, S, P, O, ls, lp, lm, lf, lt, _, hc, h1, h2, h3, hr, h7, hl, hi⟩ := id h
      have g7 : gAt lm 7 = some N := by rw [at_nn (kn := 7) rfl]; exact h7
      refine RF.pre (fun v M' hz => rd_58 hM h9 hr.1 g7 hz) ?_
      by_cases h16 : N = 16
      · rw [if_pos h16]
        exact rd_bad h hF 3 (fun M' hb => rd_70 (Ev.call0 (fun n => gs_7 rfl rfl (cal_bd hM rfl)) hb rd_75))
      rw [if_neg h16]
      have n15 : n ≤ 15 := by
        rcases Nat.lt_or_ge n 16 with h9 | h9
        · omega
        · exact absurd (Int32.toInt_inj.mp (show N.toInt = (16 : Int32).toInt from by show N.toInt = 16; omega)) h16
      obtain ⟨x, ex⟩ : ∃ x, x = 112 + N := ⟨_, rfl⟩
      have hx : x.toInt = ((112 + n : Nat) : Int) := by
        have o : (112 : Int32).toInt = 112 := rfl
        rw [ex, i32_add (by rw [o]; omega) (by rw [o]; omega), o]
        omega
      obtain ⟨M1, x1, T1, F1⟩ := un_next (e := e + 3) hT
      have W1 := h.frm T1 F1 (by decide)
      obtain ⟨_, vs1, hM1⟩ := W1.obj
      refine RF.pre (fun v M' hz => rd_76 hM h9 hr.1 g7 (Ev.call0 (fun n => gs_7 rfl rfl (cal_nx hM rfl)) x1 hz)) ?_
      rw [← ex]
      obtain ⟨vs9, hM9, hv1⟩ := T1.mfld
      cases hM1.symm.trans hM9
      obtain ⟨la, a1, a2, _⟩ := T1.mrow sT_640 rw_68
      obtain ⟨ya, ya1, _⟩ := at_c (l := la) hx (by omega)
      have F2 : Frm sT [(1068, 0)] M1 (gPut M1 640 (.inl (1, .inl (gPut la (112 + n) kd)))) := Frm.row a1 sT_640 (by decide)
      have T2 := any_put T1 sT_640 a1 a2 (by decide +kernel) (112 + n) kd
      obtain ⟨M2, e2⟩ : ∃ M2, M2 = gPut M1 640 (.inl (1, .inl (gPut la (112 + n) kd))) := ⟨_, rfl⟩
      rw [← e2] at F2 T2
      have W2 := W1.frm T2 F2 (by decide)
      have hM2 : gNth M2 633 = some (.inr (11, vs1)) := by rw [e2, nth_put, if_neg (fun q => absurd q.1 (by decide))]; exact hM1
      obtain ⟨lb, b1, b2, _⟩ := T2.mrow sTL.1 (and_t rwL).1
      obtain ⟨yb, yb1, _⟩ := at_c (l := lb) hx (by omega)
      have F3 : Frm sT [(1069, 0)] M2 (gPut M2 641 (.inl (1, .inl (gPut lb (112 + n) 0)))) := Frm.row b1 sTL.1 (by decide)
      have T3 := any_put T2 sTL.1 b1 b2 (by decide +kernel) (112 + n) 0
      obtain ⟨M3, e3⟩ : ∃ M3, M3 = gPut M2 641 (.inl (1, .inl (gPut lb (112 + n) 0))) := ⟨_, rfl⟩
      rw [← e3] at F3 T3
      have W3 := W2.frm T3 F3 (by decide)
      have hM3 : gNth M3 633 = some (.inr (11, vs1)) := by rw [e3, nth_put, if_neg (fun q => absurd q.1 (by decide))]; exact hM2
      obtain ⟨lc, c1, c2, _⟩ := T3.mrow sTL.2 (and_t rwL).2
      obtain ⟨yc, yc1, _⟩ := at_c (l := lc) hx (by omega)
      have F4 : Frm sT [(1070, 0)] M3 (gPut M3 642 (.inl (1, .inl (gPut lc (112 + n) 0)))) := Frm.row c1 sTL.2 (by decide)
      have T4 := any_put T3 sTL.2 c1 c2 (by decide +kernel) (112 + n) 0
      obtain ⟨M4, e4⟩ : ∃ M4, M4 = gPut M3 642 (.inl (1, .inl (gPut lc (112 + n) 0))) := ⟨_, rfl⟩
      rw [← e4] at F4 T4
      have W4 := W3.frm T4 F4 (by decide)
      have hM4 : gNth M4 633 = some (.inr (11, vs1)) := by rw [e4, nth_put, if_neg (fun q => absurd q.1 (by decide))]; exact hM3
      have h10 := hv1 _ _ _ (and_t mfR).2 sUR.2
      have h11 := hv1 _ _ _ (and_t (and_t (and_t mfL).1).1).1 sUL.1
      have h12 := hv1 _ _ _ (and_t (and_t (and_t mfL).1).1).2 sUL.2.1
      have F04 : Frm sT mdR M0 M4 := (((hF.trans (F1.more (by decide))).trans (F2.more (by decide))).trans (F3.more (by decide))).trans (F4.more (by decide))
      obtain ⟨v, M5, q5, r, rfl, T5, F5, hr5⟩ := ev_line1 (e := e) (kd := kd) (x3 := none) hx n15 W4
      have F05 : Frm sT mdR M0 M5 := F04.trans (F5.more (by decide))
      refine RF.pre (fun v M' hz => rd_92 hM1 h10 a1 ya1 (by rw [cl_n hx, ← e2]; exact rd_100 hM2 h11 b1 yb1 (by rw [cl_n hx, ← e3]; exact rd_108 hM3 h12 c1 yc1 (by rw [cl_n hx, ← e4]; exact rd_116 (Ev.call0 (fun n => gs_7 rfl rfl (cal_li hM4 rfl)) q5 (rd_123 hz)))))) ?_
      rcases hr5 with ⟨rfl, hi5⟩ | ⟨rfl, W5⟩
      · rw [if_pos rfl]
        exact ⟨some (.int 0), M5, rd_135, 0, rfl, T5, F05, Or.inl ⟨rfl, hi5⟩⟩
      rw [if_neg (by decide)]
      obtain ⟨_, vs5, hM5⟩ := W5.obj
      obtain ⟨v, M6, q6, T6, F6, s6, hs6, q7⟩ := use_cn (d := e + 4) (ws := [.ref 633, .int 59]) kX11_sign_ok mRr.2.2 rfl rfl (Nat.le_add_left 2 (e + 2)) (Two.mk rfl (Two.mk ⟨59, rfl, i32_any 59⟩ trivial)) T5
      cases List.mem_singleton.mp hs6
      cases v with
      | none => exact q7.elim
      | some w =>
      obtain ⟨y, rfl, _⟩ := q7
      have W6 := W5.frm T6 F6 (by decide)
      have F06 : Frm sT mdR M0 M6 := F05.trans (F6.more (by decide))
      refine RF.pre (fun v M' hz => rd_126 (Ev.call0 (fun n => gs_7 rfl rfl (cal_sn hM5 rfl)) q6 (rd_132 hz))) ?_
      by_cases hy : y = 0
      · rw [if_pos hy]
        exact ⟨some (.int 0), M6, rd_135, 0, rfl, T6, F06, Or.inl ⟨rfl, W6.itx⟩⟩
      rw [if_neg hy]
      obtain ⟨s, o, S, P, O, ls, lp, lm, lf, lt, _, hc, h1, h2, h3, hr, h7, hl, hi⟩ := id W6
      obtain ⟨vs6, hM6, v19, v20, v21, r645, r648⟩ := id hc
      obtain ⟨vs9, hM9, hv6⟩ := T6.mfld
      cases hM6.symm.trans hM9
      have h9b := hv6 _ _ _ (and_t mfR).1 sUR.1
      have g7 : gAt lm 7 = some N := by rw [at_nn (kn := 7) rfl]; exact h7
      obtain ⟨N2, eN2⟩ : ∃ N2, N2 = N + 1 := ⟨_, rfl⟩
      have dN2 : N2.toInt = N.toInt + 1 := by rw [eN2]; exact i32_p1 (by omega)
      obtain ⟨r639, r643, r644⟩ := hr
      have T7 := lm_put T6 r639 7 (y := N2) (by omega) (by omega)
      obtain ⟨M7, e7⟩ : ∃ M7, M7 = gPut M6 639 (.inl (1, .inl (gPut lm 7 N2))) := ⟨_, rfl⟩
      rw [← e7] at T7
      have n7 : ∀ c, c ≠ 639 → gNth M7 c = gNth M6 c := fun c hc => by rw [e7, nth_put, if_neg (fun q => hc q.1)]
      have F7 : Frm sT mdR M6 M7 := by rw [e7]; exact Frm.row r639 sT_639 (by decide)
      have hlm := gNth_lt _ _ _ h7
      refine RF.pre (fun v M' hz => rd_137 hM6 h9b r639 g7 (by rw [cl_n (kn := 7) rfl, ← eN2, ← e7]; exact hz)) ?_
      refine ih (n + 1) N2 M7 _ _ _ ⟨s, o, S, P, O, ls, lp, gPut lm 7 N2, lf, lt, T7, ⟨vs6, by rw [n7 633 (by decide)]; exact hM6, v19, v20, v21, by rw [n7 645 (by decide)]; exact r645, by rw [n7 648 (by decide)]; exact r648⟩, h1, h2, h3, ⟨by rw [e7, nth_put, if_pos ⟨rfl, gNth_lt _ _ _ r639⟩], by rw [n7 643 (by decide)]; exact r643, by rw [n7 644 (by decide)]; exact r644⟩, by rw [nth_put, if_pos ⟨rfl, hlm⟩], hl, fun i hi2 => by rw [nth_put, if_neg (by omega)]; exact hi.1 i hi2, hi.2⟩ (by omega) (by omega) (by omega) (F06.trans F7)
    have g70 : ∀ x3 : Option Value, RF (RdQ q0 M0) [] (e + 5) 169 70 [some (.ref 633), some (.int lw), some (.int kd), x3, x4] [] M := fun x3 => rd_bad h hF 3 (fun M' hb => rd_70 (Ev.call0 (fun n => gs_7 rfl rfl (cal_bd hM rfl)) hb rd_75))
    have g52 : RF (RdQ q0 M0) [] (e + 5) 169 52 [some (.ref 633), some (.int lw), some (.int kd), x3, x4] [] M := RF.pre (fun v M' hz => rd_52 hz) g58
    have g38 : RF (RdQ q0 M0) [] (e + 5) 169 38 [some (.ref 633), some (.int lw), some (.int kd), x3, x4] [] M := by
      obtain ⟨v, M2, q1, T2, F2, s, hs, q2⟩ := use_cn (d := e + 4) (ws := [.ref 633, .int 7, .int kd]) kX11_find_ok mRr.2.1 rfl rfl (Nat.zero_le _) (Two.mk rfl (Two.mk ⟨7, rfl, by decide, by decide⟩ (Two.mk ⟨kd, rfl, i32_any kd⟩ trivial))) hT
      cases List.mem_singleton.mp hs
      cases pure_ok F2
      cases v with
      | none => exact q2.elim
      | some w =>
      obtain ⟨y, rfl, _⟩ := q2
      refine RF.pre (fun v M' hz => rd_38 (Ev.call0 (fun n => gs_7 rfl rfl (cal_fi hM rfl)) q1 (rd_45 hz))) ?_
      by_cases hy : y < 0
      · rw [if_pos hy]; exact g52
      · rw [if_neg hy]
        exact RF.pre (fun v M' hz => rd_48 hz) (g70 _)
    refine RF.pre (fun v M' hz => rd_23 (Ev.call0 (fun n => rfl) ev_isin (rd_29 hz))) ?_
    obtain ⟨y, ey⟩ : ∃ y : Int32, y = if kd < 2 then 0 else if 4 < kd then 0 else 1 := ⟨_, rfl⟩
    rw [← ey]
    by_cases hy : y = 0
    · rw [if_pos hy]
      refine RF.pre (fun v M' hz => rd_32 hz) ?_
      by_cases h7 : kd = 7
      · rw [if_pos h7]; exact g38
      · rw [if_neg h7]; exact g52
    · rw [if_neg hy]; exact g38
end READ
/-! BY HAND: reading texts, the reference: the copies of a text -/
theorem tx_0 {e : Nat} {M : Mem} {M' : Mem} {v : Option Value} {vs : List Value} {lw to : Int32} {x3 x4 x5 : Option Value} (hM : gNth M 633 = some (.inr (11, vs))) (hlen : vs.length = 63) (hz : Ev none (e + 6) 181 5 [some (.ref 633), some (.int to), some (.int lw), x3, x4, x5] [] (gPut M 633 (.inr (11, gPut vs 26 (.int 0)))) v M' 0 0) : Ev none (e + 6) 181 0 [some (.ref 633), some (.int to), some (.int lw), x3, x4, x5] [] M v M' 0 0 := by
  refine Ev.step (pc' := 2) (ls' := [some (.ref 633), some (.int to), some (.int lw), x3, x4, x5]) (st' := [.int 0, .ref 633]) (M1 := M) 2 (fun n => rfl) ?_
  refine Ev.step 1 (gs_4 rfl rfl (pf_i rfl hM (by rw [hlen]; decide) rfl rfl)) ?_
  exact hz
theorem tx_5 {e : Nat} {M : Mem} {M' : Mem} {v : Option Value} {vs : List Value} {lw to y1 : Int32} {l639 : List Int32} {x3 x4 x5 : Option Value} (hM : gNth M 633 = some (.inr (11, vs))) (v9 : gNth vs 9 = some (.ref 639)) (r639 : gNth M 639 = some (.inl (1, .inl l639))) (g1 : gAt l639 7 = some y1) (hz : Ev none (e + 6) 181 13 [some (.ref 633), some (.int to), some (.int lw), x3, x4, x5] [] (gPut M 639 (.inl (1, .inl (gPut l639 (7 : Int32).toNatClampNeg 0)))) v M' 0 0) : Ev none (e + 6) 181 5 [some (.ref 633), some (.int to), some (.int lw), x3, x4, x5] [] M v M' 0 0 := by
  refine Ev.step (pc' := 6) (ls' := [some (.ref 633), some (.int to), some (.int lw), x3, x4, x5]) (st' := [.ref 633]) (M1 := M) 1 (fun n => rfl) ?_
  refine Ev.step 1 (gs_3 rfl rfl (gf_g rfl hM v9)) ?_
  refine Ev.step (pc' := 12) (ls' := [some (.ref 633), some (.int to), some (.int lw), x3, x4, x5]) (st' := [.int 0, .int 7, .ref 639]) (M1 := M) 2 (fun n => rfl) ?_
  refine Ev.step 1 (gs_4 rfl rfl (is_g r639 g1)) ?_
  exact hz
theorem tx_13 {e : Nat} {M : Mem} {M' : Mem} {v : Option Value} {vs : List Value} {lw to : Int32} {x3 x4 x5 : Option Value} (hM : gNth M 633 = some (.inr (11, vs))) (hlen : vs.length = 63) (hz : Ev none (e + 6) 181 18 [some (.ref 633), some (.int to), some (.int lw), x3, x4, x5] [] (gPut M 633 (.inr (11, gPut vs 19 (.int 0)))) v M' 0 0) : Ev none (e + 6) 181 13 [some (.ref 633), some (.int to), some (.int lw), x3, x4, x5] [] M v M' 0 0 := by
  refine Ev.step (pc' := 15) (ls' := [some (.ref 633), some (.int to), some (.int lw), x3, x4, x5]) (st' := [.int 0, .ref 633]) (M1 := M) 2 (fun n => rfl) ?_
  refine Ev.step 1 (gs_4 rfl rfl (pf_i rfl hM (by rw [hlen]; decide) rfl rfl)) ?_
  exact hz
theorem tx_18 {e : Nat} {M : Mem} {M' : Mem} {v : Option Value} {vs : List Value} {lw to : Int32} {x3 x4 x5 : Option Value} (hM : gNth M 633 = some (.inr (11, vs))) (hlen : vs.length = 63) (hz : Ev none (e + 6) 181 23 [some (.ref 633), some (.int to), some (.int lw), x3, x4, x5] [] (gPut M 633 (.inr (11, gPut vs 21 (.int 0)))) v M' 0 0) : Ev none (e + 6) 181 18 [some (.ref 633), some (.int to), some (.int lw), x3, x4, x5] [] M v M' 0 0 := by
  refine Ev.step (pc' := 20) (ls' := [some (.ref 633), some (.int to), some (.int lw), x3, x4, x5]) (st' := [.int 0, .ref 633]) (M1 := M) 2 (fun n => rfl) ?_
  refine Ev.step 1 (gs_4 rfl rfl (pf_i rfl hM (by rw [hlen]; decide) rfl rfl)) ?_
  exact hz
theorem tx_23 {e : Nat} {M : Mem} {M' : Mem} {v : Option Value} {lw to : Int32} {x3 x4 x5 : Option Value}  (hz : Ev none (e + 6) 181 24 [some (.ref 633), some (.int to), some (.int lw), x3, x4, x5] [.ref 633] M v M' 0 0) : Ev none (e + 6) 181 23 [some (.ref 633), some (.int to), some (.int lw), x3, x4, x5] [] M v M' 0 0 := by
  refine Ev.step (pc' := 24) (ls' := [some (.ref 633), some (.int to), some (.int lw), x3, x4, x5]) (st' := [.ref 633]) (M1 := M) 1 (fun n => rfl) ?_
  exact hz
theorem tx_27 {e : Nat} {M : Mem} {M' : Mem} {v : Option Value} {lw to : Int32} {x3 x4 x5 : Option Value}  (hz : Ev none (e + 6) 181 29 [some (.ref 633), some (.int to), some (.int lw), x3, x4, x5] [.int lw, .ref 633] M v M' 0 0) : Ev none (e + 6) 181 27 [some (.ref 633), some (.int to), some (.int lw), x3, x4, x5] [] M v M' 0 0 := by
  refine Ev.step (pc' := 29) (ls' := [some (.ref 633), some (.int to), some (.int lw), x3, x4, x5]) (st' := [.int lw, .ref 633]) (M1 := M) 2 (fun n => rfl) ?_
  exact hz
theorem tx_32 {e : Nat} {M : Mem} {M' : Mem} {v : Option Value} {lw to y : Int32} {x3 x4 x5 : Option Value}  (hz : Ev none (e + 6) 181 (if y = 0 then 35 else 42) [some (.ref 633), some (.int to), some (.int lw), x3, x4, x5] [] M v M' 0 0) : Ev none (e + 6) 181 32 [some (.ref 633), some (.int to), some (.int lw), x3, x4, x5] [.int y] M v M' 0 0 := by
  refine Ev.step (pc' := (if y = 0 then 35 else 42)) (ls' := [some (.ref 633), some (.int to), some (.int lw), x3, x4, x5]) (st' := []) (M1 := M) 1 (fun n => rfl) ?_
  exact hz
theorem tx_35 {e : Nat} {M : Mem} {vs : List Value} {f27 lw to mm : Int32} {x3 x4 x5 : Option Value} (hmm : mm = -1) (hM : gNth M 633 = some (.inr (11, vs))) (v27 : gNth vs 27 = some (.int f27)) : Ev none (e + 6) 181 35 [some (.ref 633), some (.int to), some (.int lw), x3, x4, x5] [] M (some (.int (mm - f27))) M 0 0 := by
  refine Ev.step (pc' := 37) (ls' := [some (.ref 633), some (.int to), some (.int lw), x3, x4, x5]) (st' := [.ref 633, .int mm]) (M1 := M) 2 (fun n => by rw [hmm]; rfl) ?_
  refine Ev.step 1 (gs_3 rfl rfl (gf_g rfl hM v27)) ?_
  refine Ev.step (pc' := 41) (ls' := [some (.ref 633), some (.int to), some (.int lw), x3, x4, x5]) (st' := [.int (mm - f27)]) (M1 := M) 1 (fun n => rfl) ?_
  exact Ev.ret (fun n => rfl)
theorem tx_42 {e : Nat} {M : Mem} {M' : Mem} {v : Option Value} {vs : List Value} {lw to y1 y2 : Int32} {l639 : List Int32} {x3 x4 x5 : Option Value} (hM : gNth M 633 = some (.inr (11, vs))) (v9 : gNth vs 9 = some (.ref 639)) (r639 : gNth M 639 = some (.inl (1, .inl l639))) (g1 : gAt l639 7 = some y1) (g2 : gAt l639 to = some y2) (hz : Ev none (e + 6) 181 57 [some (.ref 633), some (.int to), some (.int lw), some (.int 0), x4, x5] [] (gPut M 639 (.inl (1, .inl (gPut l639 to.toNatClampNeg y1)))) v M' 0 0) : Ev none (e + 6) 181 42 [some (.ref 633), some (.int to), some (.int lw), x3, x4, x5] [] M v M' 0 0 := by
  refine Ev.step (pc' := 43) (ls' := [some (.ref 633), some (.int to), some (.int lw), x3, x4, x5]) (st' := [.ref 633]) (M1 := M) 1 (fun n => rfl) ?_
  refine Ev.step 1 (gs_3 rfl rfl (gf_g rfl hM v9)) ?_
  refine Ev.step (pc' := 48) (ls' := [some (.ref 633), some (.int to), some (.int lw), x3, x4, x5]) (st' := [.ref 633, .int to, .ref 639]) (M1 := M) 2 (fun n => rfl) ?_
  refine Ev.step 1 (gs_3 rfl rfl (gf_g rfl hM v9)) ?_
  refine Ev.step (pc' := 53) (ls' := [some (.ref 633), some (.int to), some (.int lw), x3, x4, x5]) (st' := [.int 7, .ref 639, .int to, .ref 639]) (M1 := M) 1 (fun n => rfl) ?_
  refine Ev.step 1 (gs_3 rfl rfl (ia_g r639 g1)) ?_
  refine Ev.step 1 (gs_4 rfl rfl (is_g r639 g2)) ?_
  refine Ev.step (pc' := 57) (ls' := [some (.ref 633), some (.int to), some (.int lw), some (.int 0), x4, x5]) (st' := []) (M1 := (gPut M 639 (.inl (1, .inl (gPut l639 to.toNatClampNeg y1))))) 2 (fun n => rfl) ?_
  exact hz
theorem tx_57 {e : Nat} {M : Mem} {M' : Mem} {v : Option Value} {k lw to : Int32} {x4 x5 : Option Value}  (hz : Ev none (e + 6) 181 (if 16 ≤ k then 153 else 63) [some (.ref 633), some (.int to), some (.int lw), some (.int k), x4, x5] [] M v M' 0 0) : Ev none (e + 6) 181 57 [some (.ref 633), some (.int to), some (.int lw), some (.int k), x4, x5] [] M v M' 0 0 := by
  refine Ev.step (pc' := (if 16 ≤ k then 153 else 63)) (ls' := [some (.ref 633), some (.int to), some (.int lw), some (.int k), x4, x5]) (st' := []) (M1 := M) 3 (fun n => rfl) ?_
  exact hz
theorem tx_63 {e : Nat} {M : Mem} {M' : Mem} {v : Option Value} {vs : List Value} {k lw to y1 y2 : Int32} {l640 : List Int32} {x4 x5 : Option Value} (hM : gNth M 633 = some (.inr (11, vs))) (v10 : gNth vs 10 = some (.ref 640)) (r640 : gNth M 640 = some (.inl (1, .inl l640))) (g1 : gAt l640 (112 + k) = some y1) (g2 : gAt l640 ((16 * to) + k) = some y2) (hz : Ev none (e + 6) 181 91 [some (.ref 633), some (.int to), some (.int lw), some (.int k), some (.int (112 + k)), some (.int ((16 * to) + k))] [] (gPut M 640 (.inl (1, .inl (gPut l640 ((16 * to) + k).toNatClampNeg y1)))) v M' 0 0) : Ev none (e + 6) 181 63 [some (.ref 633), some (.int to), some (.int lw), some (.int k), x4, x5] [] M v M' 0 0 := by
  refine Ev.step (pc' := 78) (ls' := [some (.ref 633), some (.int to), some (.int lw), some (.int k), some (.int (112 + k)), some (.int ((16 * to) + k))]) (st' := [.ref 633]) (M1 := M) 11 (fun n => rfl) ?_
  refine Ev.step 1 (gs_3 rfl rfl (gf_g rfl hM v10)) ?_
  refine Ev.step (pc' := 84) (ls' := [some (.ref 633), some (.int to), some (.int lw), some (.int k), some (.int (112 + k)), some (.int ((16 * to) + k))]) (st' := [.ref 633, .int ((16 * to) + k), .ref 640]) (M1 := M) 2 (fun n => rfl) ?_
  refine Ev.step 1 (gs_3 rfl rfl (gf_g rfl hM v10)) ?_
  refine Ev.step (pc' := 89) (ls' := [some (.ref 633), some (.int to), some (.int lw), some (.int k), some (.int (112 + k)), some (.int ((16 * to) + k))]) (st' := [.int (112 + k), .ref 640, .int ((16 * to) + k), .ref 640]) (M1 := M) 1 (fun n => rfl) ?_
  refine Ev.step 1 (gs_3 rfl rfl (ia_g r640 g1)) ?_
  refine Ev.step 1 (gs_4 rfl rfl (is_g r640 g2)) ?_
  exact hz
theorem tx_91 {e : Nat} {M : Mem} {M' : Mem} {v : Option Value} {vs : List Value} {a b k lw to y1 y2 : Int32} {l641 : List Int32} (hM : gNth M 633 = some (.inr (11, vs))) (v11 : gNth vs 11 = some (.ref 641)) (r641 : gNth M 641 = some (.inl (1, .inl l641))) (g1 : gAt l641 a = some y1) (g2 : gAt l641 b = some y2) (hz : Ev none (e + 6) 181 105 [some (.ref 633), some (.int to), some (.int lw), some (.int k), some (.int a), some (.int b)] [] (gPut M 641 (.inl (1, .inl (gPut l641 b.toNatClampNeg y1)))) v M' 0 0) : Ev none (e + 6) 181 91 [some (.ref 633), some (.int to), some (.int lw), some (.int k), some (.int a), some (.int b)] [] M v M' 0 0 := by
  refine Ev.step (pc' := 92) (ls' := [some (.ref 633), some (.int to), some (.int lw), some (.int k), some (.int a), some (.int b)]) (st' := [.ref 633]) (M1 := M) 1 (fun n => rfl) ?_
  refine Ev.step 1 (gs_3 rfl rfl (gf_g rfl hM v11)) ?_
  refine Ev.step (pc' := 98) (ls' := [some (.ref 633), some (.int to), some (.int lw), some (.int k), some (.int a), some (.int b)]) (st' := [.ref 633, .int b, .ref 641]) (M1 := M) 2 (fun n => rfl) ?_
  refine Ev.step 1 (gs_3 rfl rfl (gf_g rfl hM v11)) ?_
  refine Ev.step (pc' := 103) (ls' := [some (.ref 633), some (.int to), some (.int lw), some (.int k), some (.int a), some (.int b)]) (st' := [.int a, .ref 641, .int b, .ref 641]) (M1 := M) 1 (fun n => rfl) ?_
  refine Ev.step 1 (gs_3 rfl rfl (ia_g r641 g1)) ?_
  refine Ev.step 1 (gs_4 rfl rfl (is_g r641 g2)) ?_
  exact hz
theorem tx_105 {e : Nat} {M : Mem} {M' : Mem} {v : Option Value} {vs : List Value} {a b k lw to y1 y2 : Int32} {l642 : List Int32} (hM : gNth M 633 = some (.inr (11, vs))) (v12 : gNth vs 12 = some (.ref 642)) (r642 : gNth M 642 = some (.inl (1, .inl l642))) (g1 : gAt l642 a = some y1) (g2 : gAt l642 b = some y2) (hz : Ev none (e + 6) 181 119 [some (.ref 633), some (.int to), some (.int lw), some (.int k), some (.int a), some (.int b)] [] (gPut M 642 (.inl (1, .inl (gPut l642 b.toNatClampNeg y1)))) v M' 0 0) : Ev none (e + 6) 181 105 [some (.ref 633), some (.int to), some (.int lw), some (.int k), some (.int a), some (.int b)] [] M v M' 0 0 := by
  refine Ev.step (pc' := 106) (ls' := [some (.ref 633), some (.int to), some (.int lw), some (.int k), some (.int a), some (.int b)]) (st' := [.ref 633]) (M1 := M) 1 (fun n => rfl) ?_
  refine Ev.step 1 (gs_3 rfl rfl (gf_g rfl hM v12)) ?_
  refine Ev.step (pc' := 112) (ls' := [some (.ref 633), some (.int to), some (.int lw), some (.int k), some (.int a), some (.int b)]) (st' := [.ref 633, .int b, .ref 642]) (M1 := M) 2 (fun n => rfl) ?_
  refine Ev.step 1 (gs_3 rfl rfl (gf_g rfl hM v12)) ?_
  refine Ev.step (pc' := 117) (ls' := [some (.ref 633), some (.int to), some (.int lw), some (.int k), some (.int a), some (.int b)]) (st' := [.int a, .ref 642, .int b, .ref 642]) (M1 := M) 1 (fun n => rfl) ?_
  refine Ev.step 1 (gs_3 rfl rfl (ia_g r642 g1)) ?_
  refine Ev.step 1 (gs_4 rfl rfl (is_g r642 g2)) ?_
  exact hz
theorem tx_119 {e : Nat} {M : Mem} {M' : Mem} {v : Option Value} {vs : List Value} {a b k lw to y1 y2 : Int32} {l643 : List Int32} (hM : gNth M 633 = some (.inr (11, vs))) (v13 : gNth vs 13 = some (.ref 643)) (r643 : gNth M 643 = some (.inl (1, .inl l643))) (g1 : gAt l643 a = some y1) (g2 : gAt l643 b = some y2) (hz : Ev none (e + 6) 181 133 [some (.ref 633), some (.int to), some (.int lw), some (.int k), some (.int a), some (.int b)] [] (gPut M 643 (.inl (1, .inl (gPut l643 b.toNatClampNeg y1)))) v M' 0 0) : Ev none (e + 6) 181 119 [some (.ref 633), some (.int to), some (.int lw), some (.int k), some (.int a), some (.int b)] [] M v M' 0 0 := by
  refine Ev.step (pc' := 120) (ls' := [some (.ref 633), some (.int to), some (.int lw), some (.int k), some (.int a), some (.int b)]) (st' := [.ref 633]) (M1 := M) 1 (fun n => rfl) ?_
  refine Ev.step 1 (gs_3 rfl rfl (gf_g rfl hM v13)) ?_
  refine Ev.step (pc' := 126) (ls' := [some (.ref 633), some (.int to), some (.int lw), some (.int k), some (.int a), some (.int b)]) (st' := [.ref 633, .int b, .ref 643]) (M1 := M) 2 (fun n => rfl) ?_
  refine Ev.step 1 (gs_3 rfl rfl (gf_g rfl hM v13)) ?_
  refine Ev.step (pc' := 131) (ls' := [some (.ref 633), some (.int to), some (.int lw), some (.int k), some (.int a), some (.int b)]) (st' := [.int a, .ref 643, .int b, .ref 643]) (M1 := M) 1 (fun n => rfl) ?_
  refine Ev.step 1 (gs_3 rfl rfl (ia_g r643 g1)) ?_
  refine Ev.step 1 (gs_4 rfl rfl (is_g r643 g2)) ?_
  exact hz
theorem tx_133 {e : Nat} {M : Mem} {M' : Mem} {v : Option Value} {vs : List Value} {a b k lw to y1 y2 : Int32} {l644 : List Int32} (hM : gNth M 633 = some (.inr (11, vs))) (v14 : gNth vs 14 = some (.ref 644)) (r644 : gNth M 644 = some (.inl (1, .inl l644))) (g1 : gAt l644 a = some y1) (g2 : gAt l644 b = some y2) (hz : Ev none (e + 6) 181 57 [some (.ref 633), some (.int to), some (.int lw), some (.int (k + 1)), some (.int a), some (.int b)] [] (gPut M 644 (.inl (1, .inl (gPut l644 b.toNatClampNeg y1)))) v M' 0 0) : Ev none (e + 6) 181 133 [some (.ref 633), some (.int to), some (.int lw), some (.int k), some (.int a), some (.int b)] [] M v M' 0 0 := by
  refine Ev.step (pc' := 134) (ls' := [some (.ref 633), some (.int to), some (.int lw), some (.int k), some (.int a), some (.int b)]) (st' := [.ref 633]) (M1 := M) 1 (fun n => rfl) ?_
  refine Ev.step 1 (gs_3 rfl rfl (gf_g rfl hM v14)) ?_
  refine Ev.step (pc' := 140) (ls' := [some (.ref 633), some (.int to), some (.int lw), some (.int k), some (.int a), some (.int b)]) (st' := [.ref 633, .int b, .ref 644]) (M1 := M) 2 (fun n => rfl) ?_
  refine Ev.step 1 (gs_3 rfl rfl (gf_g rfl hM v14)) ?_
  refine Ev.step (pc' := 145) (ls' := [some (.ref 633), some (.int to), some (.int lw), some (.int k), some (.int a), some (.int b)]) (st' := [.int a, .ref 644, .int b, .ref 644]) (M1 := M) 1 (fun n => rfl) ?_
  refine Ev.step 1 (gs_3 rfl rfl (ia_g r644 g1)) ?_
  refine Ev.step 1 (gs_4 rfl rfl (is_g r644 g2)) ?_
  refine Ev.step (pc' := 57) (ls' := [some (.ref 633), some (.int to), some (.int lw), some (.int (k + 1)), some (.int a), some (.int b)]) (st' := []) (M1 := (gPut M 644 (.inl (1, .inl (gPut l644 b.toNatClampNeg y1))))) 2 (fun n => rfl) ?_
  exact hz
theorem tx_153 {e : Nat} {M : Mem} {M' : Mem} {v : Option Value} {k lw to : Int32} {x4 x5 : Option Value}  (hz : Ev none (e + 6) 181 155 [some (.ref 633), some (.int to), some (.int lw), some (.int 0), x4, x5] [] M v M' 0 0) : Ev none (e + 6) 181 153 [some (.ref 633), some (.int to), some (.int lw), some (.int k), x4, x5] [] M v M' 0 0 := by
  refine Ev.step (pc' := 155) (ls' := [some (.ref 633), some (.int to), some (.int lw), some (.int 0), x4, x5]) (st' := []) (M1 := M) 2 (fun n => rfl) ?_
  exact hz
theorem tx_155 {e : Nat} {M : Mem} {M' : Mem} {v : Option Value} {k lw to : Int32} {x4 x5 : Option Value}  (hz : Ev none (e + 6) 181 (if 200 ≤ k then 234 else 162) [some (.ref 633), some (.int to), some (.int lw), some (.int k), x4, x5] [] M v M' 0 0) : Ev none (e + 6) 181 155 [some (.ref 633), some (.int to), some (.int lw), some (.int k), x4, x5] [] M v M' 0 0 := by
  refine Ev.step (pc' := (if 200 ≤ k then 234 else 162)) (ls' := [some (.ref 633), some (.int to), some (.int lw), some (.int k), x4, x5]) (st' := []) (M1 := M) 3 (fun n => rfl) ?_
  exact hz
theorem tx_162 {e : Nat} {M : Mem} {M' : Mem} {v : Option Value} {vs : List Value} {k lw to y1 y2 : Int32} {l645 : List Int32} {x4 x5 : Option Value} (hM : gNth M 633 = some (.inr (11, vs))) (v15 : gNth vs 15 = some (.ref 645)) (r645 : gNth M 645 = some (.inl (1, .inl l645))) (g1 : gAt l645 (1400 + k) = some y1) (g2 : gAt l645 ((200 * to) + k) = some y2) (hz : Ev none (e + 6) 181 184 [some (.ref 633), some (.int to), some (.int lw), some (.int k), x4, x5] [] (gPut M 645 (.inl (1, .inl (gPut l645 ((200 * to) + k).toNatClampNeg y1)))) v M' 0 0) : Ev none (e + 6) 181 162 [some (.ref 633), some (.int to), some (.int lw), some (.int k), x4, x5] [] M v M' 0 0 := by
  refine Ev.step (pc' := 163) (ls' := [some (.ref 633), some (.int to), some (.int lw), some (.int k), x4, x5]) (st' := [.ref 633]) (M1 := M) 1 (fun n => rfl) ?_
  refine Ev.step 1 (gs_3 rfl rfl (gf_g rfl hM v15)) ?_
  refine Ev.step (pc' := 174) (ls' := [some (.ref 633), some (.int to), some (.int lw), some (.int k), x4, x5]) (st' := [.ref 633, .int ((200 * to) + k), .ref 645]) (M1 := M) 6 (fun n => rfl) ?_
  refine Ev.step 1 (gs_3 rfl rfl (gf_g rfl hM v15)) ?_
  refine Ev.step (pc' := 182) (ls' := [some (.ref 633), some (.int to), some (.int lw), some (.int k), x4, x5]) (st' := [.int (1400 + k), .ref 645, .int ((200 * to) + k), .ref 645]) (M1 := M) 3 (fun n => rfl) ?_
  refine Ev.step 1 (gs_3 rfl rfl (ia_g r645 g1)) ?_
  refine Ev.step 1 (gs_4 rfl rfl (is_g r645 g2)) ?_
  exact hz
theorem tx_184 {e : Nat} {M : Mem} {M' : Mem} {v : Option Value} {vs : List Value} {k lw to y1 y2 : Int32} {l646 : List Int32} {x4 x5 : Option Value} (hM : gNth M 633 = some (.inr (11, vs))) (v16 : gNth vs 16 = some (.ref 646)) (r646 : gNth M 646 = some (.inl (1, .inl l646))) (g1 : gAt l646 (1400 + k) = some y1) (g2 : gAt l646 ((200 * to) + k) = some y2) (hz : Ev none (e + 6) 181 206 [some (.ref 633), some (.int to), some (.int lw), some (.int k), x4, x5] [] (gPut M 646 (.inl (1, .inl (gPut l646 ((200 * to) + k).toNatClampNeg y1)))) v M' 0 0) : Ev none (e + 6) 181 184 [some (.ref 633), some (.int to), some (.int lw), some (.int k), x4, x5] [] M v M' 0 0 := by
  refine Ev.step (pc' := 185) (ls' := [some (.ref 633), some (.int to), some (.int lw), some (.int k), x4, x5]) (st' := [.ref 633]) (M1 := M) 1 (fun n => rfl) ?_
  refine Ev.step 1 (gs_3 rfl rfl (gf_g rfl hM v16)) ?_
  refine Ev.step (pc' := 196) (ls' := [some (.ref 633), some (.int to), some (.int lw), some (.int k), x4, x5]) (st' := [.ref 633, .int ((200 * to) + k), .ref 646]) (M1 := M) 6 (fun n => rfl) ?_
  refine Ev.step 1 (gs_3 rfl rfl (gf_g rfl hM v16)) ?_
  refine Ev.step (pc' := 204) (ls' := [some (.ref 633), some (.int to), some (.int lw), some (.int k), x4, x5]) (st' := [.int (1400 + k), .ref 646, .int ((200 * to) + k), .ref 646]) (M1 := M) 3 (fun n => rfl) ?_
  refine Ev.step 1 (gs_3 rfl rfl (ia_g r646 g1)) ?_
  refine Ev.step 1 (gs_4 rfl rfl (is_g r646 g2)) ?_
  exact hz
theorem tx_206 {e : Nat} {M : Mem} {M' : Mem} {v : Option Value} {vs : List Value} {k lw to y1 y2 : Int32} {l647 : List Int32} {x4 x5 : Option Value} (hM : gNth M 633 = some (.inr (11, vs))) (v17 : gNth vs 17 = some (.ref 647)) (r647 : gNth M 647 = some (.inl (1, .inl l647))) (g1 : gAt l647 (1400 + k) = some y1) (g2 : gAt l647 ((200 * to) + k) = some y2) (hz : Ev none (e + 6) 181 155 [some (.ref 633), some (.int to), some (.int lw), some (.int (k + 1)), x4, x5] [] (gPut M 647 (.inl (1, .inl (gPut l647 ((200 * to) + k).toNatClampNeg y1)))) v M' 0 0) : Ev none (e + 6) 181 206 [some (.ref 633), some (.int to), some (.int lw), some (.int k), x4, x5] [] M v M' 0 0 := by
  refine Ev.step (pc' := 207) (ls' := [some (.ref 633), some (.int to), some (.int lw), some (.int k), x4, x5]) (st' := [.ref 633]) (M1 := M) 1 (fun n => rfl) ?_
  refine Ev.step 1 (gs_3 rfl rfl (gf_g rfl hM v17)) ?_
  refine Ev.step (pc' := 218) (ls' := [some (.ref 633), some (.int to), some (.int lw), some (.int k), x4, x5]) (st' := [.ref 633, .int ((200 * to) + k), .ref 647]) (M1 := M) 6 (fun n => rfl) ?_
  refine Ev.step 1 (gs_3 rfl rfl (gf_g rfl hM v17)) ?_
  refine Ev.step (pc' := 226) (ls' := [some (.ref 633), some (.int to), some (.int lw), some (.int k), x4, x5]) (st' := [.int (1400 + k), .ref 647, .int ((200 * to) + k), .ref 647]) (M1 := M) 3 (fun n => rfl) ?_
  refine Ev.step 1 (gs_3 rfl rfl (ia_g r647 g1)) ?_
  refine Ev.step 1 (gs_4 rfl rfl (is_g r647 g2)) ?_
  refine Ev.step (pc' := 155) (ls' := [some (.ref 633), some (.int to), some (.int lw), some (.int (k + 1)), x4, x5]) (st' := []) (M1 := (gPut M 647 (.inl (1, .inl (gPut l647 ((200 * to) + k).toNatClampNeg y1))))) 2 (fun n => rfl) ?_
  exact hz
theorem tx_234 {e : Nat} {M : Mem} {vs : List Value} {k lw to y1 : Int32} {l639 : List Int32} {x4 x5 : Option Value} (hM : gNth M 633 = some (.inr (11, vs))) (v9 : gNth vs 9 = some (.ref 639)) (r639 : gNth M 639 = some (.inl (1, .inl l639))) (g1 : gAt l639 to = some y1) : Ev none (e + 6) 181 234 [some (.ref 633), some (.int to), some (.int lw), some (.int k), x4, x5] [] M (some (.int y1)) M 0 0 := by
  refine Ev.step (pc' := 235) (ls' := [some (.ref 633), some (.int to), some (.int lw), some (.int k), x4, x5]) (st' := [.ref 633]) (M1 := M) 1 (fun n => rfl) ?_
  refine Ev.step 1 (gs_3 rfl rfl (gf_g rfl hM v9)) ?_
  refine Ev.step (pc' := 239) (ls' := [some (.ref 633), some (.int to), some (.int lw), some (.int k), x4, x5]) (st' := [.int to, .ref 639]) (M1 := M) 1 (fun n => rfl) ?_
  refine Ev.step 1 (gs_3 rfl rfl (ia_g r639 g1)) ?_
  exact Ev.ret (fun n => rfl)
theorem cal_rd {M : Mem} {vs : List Value} {a0 : Int32} {rest : List Value} (hM : gNth M 633 = some (.inr (11, vs))) (hr : gRoom rest = true) : gCal (.invokevirtual 321) 11 (.int a0 :: .ref 633 :: rest) M = some (.inr (169, [some (.ref 633), some (.int a0), none, none, none], rest)) := by
  show @cond (Option ((List Value × Mem) ⊕ (Nat × Lo × List Value))) (true && gRecv M (.ref 633) 11 && gRoom rest && true) (some (.inr (169, [some (.ref 633), some (.int a0), none, none, none], rest))) none = _
  rw [recv_ok hM, hr]
  rfl
set_option maxRecDepth 100000 in
theorem fB_26b : fldB 26 (-2147483648) 2147483647 = true := by decide +kernel
set_option maxRecDepth 100000 in
theorem fB_27 : fldB 27 (-2147483648) 2147483647 = true := by decide +kernel
theorem okS.shift {l l2 : List Int32} : ∀ {m k k2 : Nat} {n : Int}, okS m l k n → (∀ i, i < m → gNth l2 (k2 + i) = gNth l (k + i)) → okS m l2 k2 n := by
  intro m
  induction m with
  | zero => intro k k2 n _ _; trivial
  | succ m ih =>
    intro k k2 n h he
    have he2 : ∀ i, i < m → gNth l2 (k2 + 1 + i) = gNth l (k + 1 + i) := fun i hi => by
      have := he (i + 1) (by omega)
      rw [show k2 + 1 + i = k2 + (i + 1) by omega, show k + 1 + i = k + (i + 1) by omega]
      exact this
    obtain ⟨w, h1, h2⟩ := h
    refine ⟨w, by have := he 0 (by omega); rw [Nat.add_zero, Nat.add_zero] at this; rw [this]; exact h1, ?_⟩
    rcases h2 with ⟨a, b, c⟩ | ⟨a, b, c, d⟩ | ⟨a, b, c, d, e⟩
    · exact Or.inl ⟨a, b, ih c he2⟩
    · exact Or.inr (Or.inl ⟨a, b, c, ih d he2⟩)
    · exact Or.inr (Or.inr ⟨a, b, c, d, ih e he2⟩)
theorem i32_mk {c to k : Int32} {cn tn kn : Nat} (hc : c.toInt = (cn : Int)) (ht : to.toInt = (tn : Int)) (hk : k.toInt = (kn : Int)) (h : cn * tn + kn ≤ 2000000000) : (c * to + k).toInt = ((cn * tn + kn : Nat) : Int) := by
  have e : c.toInt * to.toInt = ((cn * tn : Nat) : Int) := by rw [hc, ht, Int.natCast_mul]
  have d1 : (c * to).toInt = c.toInt * to.toInt := i32_mul (by rw [e]; omega) (by rw [e]; omega)
  rw [i32_add (by rw [d1, e]; omega) (by rw [d1, e]; omega), d1, e, hk]
  omega
section TEXT
variable {M0 : Mem} {e tn : Nat} {to lw : Int32} {lm lf lt ls : List Int32} {Q : Option Value → Mem → Prop}
def TXa (M0 : Mem) (tn : Nat) (lm lf lt ls : List Int32) (cn : Nat) (M : Mem) : Prop := TM sT sG M ∧ Frm sT mdR M0 M ∧ gNth M 639 = some (.inl (1, .inl lm)) ∧ gNth M 645 = some (.inl (1, .inl ls)) ∧ ∃ lf' lt', gNth M 643 = some (.inl (1, .inl lf')) ∧ gNth M 644 = some (.inl (1, .inl lt')) ∧ CpP lf' lf lf (16 * tn) 112 cn ∧ CpP lt' lt lt (16 * tn) 112 cn
def TXb (M0 : Mem) (tn : Nat) (lm lf lt ls : List Int32) (cn : Nat) (M : Mem) : Prop := TM sT sG M ∧ Frm sT mdR M0 M ∧ gNth M 639 = some (.inl (1, .inl lm)) ∧ gNth M 643 = some (.inl (1, .inl lf)) ∧ gNth M 644 = some (.inl (1, .inl lt)) ∧ ∃ ls', gNth M 645 = some (.inl (1, .inl ls')) ∧ CpP ls' ls ls (200 * tn) 1400 cn
theorem tx_l1 (hto : to.toInt = (tn : Int)) (ht6 : tn ≤ 6) (hE : ∀ M k x4 x5, TXa M0 tn lm lf lt ls 16 M → RF Q [] (e + 6) 181 153 [some (.ref 633), some (.int to), some (.int lw), some (.int k), x4, x5] [] M) : ∀ (j cn : Nat) (M : Mem) (k : Int32) (x4 x5 : Option Value), TXa M0 tn lm lf lt ls cn M → k.toInt = (cn : Int) → cn + j = 16 → RF Q [] (e + 6) 181 57 [some (.ref 633), some (.int to), some (.int lw), some (.int k), x4, x5] [] M := by
  intro j
  have o16 : (16 : Int32).toInt = ((16 : Nat) : Int) := rfl
  induction j with
  | zero =>
    intro cn M k x4 x5 h hk hj
    have hcn : cn = 16 := by omega
    subst hcn
    refine RF.pre (fun v M' hz => tx_57 hz) ?_
    rw [if_pos (by rw [Int32.le_iff_toInt_le, o16]; omega)]
    exact hE M k x4 x5 h
  | succ j ih =>
    intro cn M k x4 x5 h hk hj
    obtain ⟨hT, hF, r639, r645, lf', lt', r643, r644, cf, ct⟩ := h
    obtain ⟨vs, hM, hv⟩ := hT.mfld
    have h10 := hv _ _ _ (and_t mfR).2 sUR.2
    obtain ⟨q, m4⟩ := and_t mfL
    obtain ⟨q, m3⟩ := and_t q
    obtain ⟨m1, m2⟩ := and_t q
    have h11 := hv _ _ _ m1 sUL.1
    have h12 := hv _ _ _ m2 sUL.2.1
    have h13 := hv _ _ _ m3 sUL.2.2.1
    have h14 := hv _ _ _ m4 sUL.2.2.2
    have o112 : (112 : Int32).toInt = 112 := rfl
    obtain ⟨a, ea⟩ : ∃ a, a = 112 + k := ⟨_, rfl⟩
    have ha : a.toInt = ((112 + cn : Nat) : Int) := by
      rw [ea, i32_add (by rw [o112]; omega) (by rw [o112]; omega), o112]
      omega
    obtain ⟨b, eb⟩ : ∃ b, b = 16 * to + k := ⟨_, rfl⟩
    have hb : b.toInt = ((16 * tn + cn : Nat) : Int) := by rw [eb]; exact i32_mk o16 hto hk (by omega)
    obtain ⟨l0, a0, a1, _⟩ := hT.mrow sT_640 rw_68
    obtain ⟨y0, u0, _⟩ := at_c (l := l0) ha (by omega)
    obtain ⟨z0, w0, _⟩ := at_c (l := l0) hb (by omega)
    obtain ⟨M1, e1⟩ : ∃ M1, M1 = gPut M 640 (.inl (1, .inl (gPut l0 (16 * tn + cn) y0))) := ⟨_, rfl⟩
    have T1 : TM sT sG M1 := by rw [e1]; exact any_put hT sT_640 a0 a1 (by decide +kernel) _ _
    have F1 : Frm sT mdR M M1 := by rw [e1]; exact Frm.row a0 sT_640 (by decide)
    have n1 : ∀ c, c ≠ 640 → gNth M1 c = gNth M c := fun c hc => by rw [e1, nth_put, if_neg (fun q => hc q.1)]
    obtain ⟨l1, b0, b1, _⟩ := T1.mrow sTL.1 (and_t rwL).1
    obtain ⟨y1, u1, _⟩ := at_c (l := l1) ha (by omega)
    obtain ⟨z1, w1, _⟩ := at_c (l := l1) hb (by omega)
    obtain ⟨M2, e2⟩ : ∃ M2, M2 = gPut M1 641 (.inl (1, .inl (gPut l1 (16 * tn + cn) y1))) := ⟨_, rfl⟩
    have T2 : TM sT sG M2 := by rw [e2]; exact any_put T1 sTL.1 b0 b1 (by decide +kernel) _ _
    have F2 : Frm sT mdR M1 M2 := by rw [e2]; exact Frm.row b0 sTL.1 (by decide)
    have n2 : ∀ c, c ≠ 641 → gNth M2 c = gNth M1 c := fun c hc => by rw [e2, nth_put, if_neg (fun q => hc q.1)]
    obtain ⟨l2, c0, c1, _⟩ := T2.mrow sTL.2 (and_t rwL).2
    obtain ⟨y2, u2, _⟩ := at_c (l := l2) ha (by omega)
    obtain ⟨z2, w2, _⟩ := at_c (l := l2) hb (by omega)
    obtain ⟨M3, e3⟩ : ∃ M3, M3 = gPut M2 642 (.inl (1, .inl (gPut l2 (16 * tn + cn) y2))) := ⟨_, rfl⟩
    have T3 : TM sT sG M3 := by rw [e3]; exact any_put T2 sTL.2 c0 c1 (by decide +kernel) _ _
    have F3 : Frm sT mdR M2 M3 := by rw [e3]; exact Frm.row c0 sTL.2 (by decide)
    have n3 : ∀ c, c ≠ 642 → gNth M3 c = gNth M2 c := fun c hc => by rw [e3, nth_put, if_neg (fun q => hc q.1)]
    have r643c : gNth M3 643 = some (.inl (1, .inl lf')) := by rw [n3 643 (by decide), n2 643 (by decide), n1 643 (by decide)]; exact r643
    obtain ⟨l3, d0, d1, d2⟩ := T3.mrow sT_643 rw_71
    cases r643c.symm.trans d0
    obtain ⟨y3, u3, v3⟩ := at_c (l := lf') ha (by omega)
    obtain ⟨z3, w3, _⟩ := at_c (l := lf') hb (by omega)
    obtain ⟨M4, e4⟩ : ∃ M4, M4 = gPut M3 643 (.inl (1, .inl (gPut lf' (16 * tn + cn) y3))) := ⟨_, rfl⟩
    have T4 : TM sT sG M4 := by
      rw [e4]
      exact T3.putrow (n := 128) (lo := 0) (hi := 200) sT_643 (by decide +kernel) (by rw [put_len]; exact d1) (fun j z hj => by
        rw [nth_put] at hj
        split at hj
        · cases hj
          exact d2 _ _ v3
        · exact d2 j z hj)
    have F4 : Frm sT mdR M3 M4 := by rw [e4]; exact Frm.row r643c sT_643 (by decide)
    have n4 : ∀ c, c ≠ 643 → gNth M4 c = gNth M3 c := fun c hc => by rw [e4, nth_put, if_neg (fun q => hc q.1)]
    have r644d : gNth M4 644 = some (.inl (1, .inl lt')) := by rw [n4 644 (by decide), n3 644 (by decide), n2 644 (by decide), n1 644 (by decide)]; exact r644
    obtain ⟨l4, f0, f1, f2⟩ := T4.mrow sT_644 rw_72
    cases r644d.symm.trans f0
    obtain ⟨y4, u4, v4⟩ := at_c (l := lt') ha (by omega)
    obtain ⟨z4, w4, _⟩ := at_c (l := lt') hb (by omega)
    obtain ⟨M5, e5⟩ : ∃ M5, M5 = gPut M4 644 (.inl (1, .inl (gPut lt' (16 * tn + cn) y4))) := ⟨_, rfl⟩
    have T5 : TM sT sG M5 := by
      rw [e5]
      exact T4.putrow (n := 128) (lo := 0) (hi := 200) sT_644 (by decide +kernel) (by rw [put_len]; exact f1) (fun j z hj => by
        rw [nth_put] at hj
        split at hj
        · cases hj
          exact f2 _ _ v4
        · exact f2 j z hj)
    have F5 : Frm sT mdR M4 M5 := by rw [e5]; exact Frm.row r644d sT_644 (by decide)
    have n5 : ∀ c, c ≠ 644 → gNth M5 c = gNth M4 c := fun c hc => by rw [e5, nth_put, if_neg (fun q => hc q.1)]
    have hM1 : gNth M1 633 = some (.inr (11, vs)) := by rw [n1 633 (by decide)]; exact hM
    have hM2 : gNth M2 633 = some (.inr (11, vs)) := by rw [n2 633 (by decide)]; exact hM1
    have hM3 : gNth M3 633 = some (.inr (11, vs)) := by rw [n3 633 (by decide)]; exact hM2
    have hM4 : gNth M4 633 = some (.inr (11, vs)) := by rw [n4 633 (by decide)]; exact hM3
    have ek : (k + 1).toInt = k.toInt + 1 := i32_p1 (by omega)
    have sf : gNth lf (112 + cn) = some y3 := by rw [← v3, cf.2, if_neg (by omega)]
    have st : gNth lt (112 + cn) = some y4 := by rw [← v4, ct.2, if_neg (by omega)]
    refine RF.pre (fun v M' hz => tx_57 (by
      rw [if_neg (by rw [Int32.le_iff_toInt_le, o16]; omega)]
      rw [ea] at u0
      rw [eb] at w0
      refine tx_63 hM h10 a0 u0 w0 ?_
      rw [← eb, ← ea, cl_n hb, ← e1]
      refine tx_91 hM1 h11 b0 u1 w1 ?_
      rw [cl_n hb, ← e2]
      refine tx_105 hM2 h12 c0 u2 w2 ?_
      rw [cl_n hb, ← e3]
      refine tx_119 hM3 h13 r643c u3 w3 ?_
      rw [cl_n hb, ← e4]
      refine tx_133 hM4 h14 r644d u4 w4 ?_
      rw [cl_n hb, ← e5]
      exact hz)) ?_
    refine ih (cn + 1) M5 (k + 1) _ _ ⟨T5, ((((hF.trans F1).trans F2).trans F3).trans F4).trans F5, by rw [n5 639 (by decide), n4 639 (by decide), n3 639 (by decide), n2 639 (by decide), n1 639 (by decide)]; exact r639, by rw [n5 645 (by decide), n4 645 (by decide), n3 645 (by decide), n2 645 (by decide), n1 645 (by decide)]; exact r645, _, _, by rw [n5 643 (by decide), e4, nth_put, if_pos ⟨rfl, gNth_lt _ _ _ r643c⟩], by rw [e5, nth_put, if_pos ⟨rfl, gNth_lt _ _ _ r644d⟩], cf.step sf (by omega), ct.step st (by omega)⟩ (by omega) (by omega)
theorem tx_l2 (hto : to.toInt = (tn : Int)) (ht6 : tn ≤ 6) (hE : ∀ M k x4 x5, TXb M0 tn lm lf lt ls 200 M → RF Q [] (e + 6) 181 234 [some (.ref 633), some (.int to), some (.int lw), some (.int k), x4, x5] [] M) : ∀ (j cn : Nat) (M : Mem) (k : Int32) (x4 x5 : Option Value), TXb M0 tn lm lf lt ls cn M → k.toInt = (cn : Int) → cn + j = 200 → RF Q [] (e + 6) 181 155 [some (.ref 633), some (.int to), some (.int lw), some (.int k), x4, x5] [] M := by
  intro j
  have o200 : (200 : Int32).toInt = ((200 : Nat) : Int) := rfl
  induction j with
  | zero =>
    intro cn M k x4 x5 h hk hj
    have hcn : cn = 200 := by omega
    subst hcn
    refine RF.pre (fun v M' hz => tx_155 hz) ?_
    rw [if_pos (by rw [Int32.le_iff_toInt_le, o200]; omega)]
    exact hE M k x4 x5 h
  | succ j ih =>
    intro cn M k x4 x5 h hk hj
    obtain ⟨hT, hF, r639, r643, r644, ls', r645, cs⟩ := h
    obtain ⟨vs, hM, hv⟩ := hT.mfld
    obtain ⟨q, m4⟩ := and_t mfT
    obtain ⟨q, m3⟩ := and_t q
    obtain ⟨m1, m2⟩ := and_t q
    have h15 := hv _ _ _ m1 sUT.1
    have h16 := hv _ _ _ m2 sUT.2.1
    have h17 := hv _ _ _ m3 sUT.2.2.1
    obtain ⟨q, _⟩ := and_t rwT
    obtain ⟨q, p3⟩ := and_t q
    obtain ⟨p1, p2⟩ := and_t q
    have o14 : (1400 : Int32).toInt = 1400 := rfl
    have ha : (1400 + k).toInt = ((1400 + cn : Nat) : Int) := by
      rw [i32_add (by rw [o14]; omega) (by rw [o14]; omega), o14]
      omega
    have hb : (200 * to + k).toInt = ((200 * tn + cn : Nat) : Int) := i32_mk o200 hto hk (by omega)
    obtain ⟨l0, a0, a1, _⟩ := hT.mrow sT_645 p1
    cases r645.symm.trans a0
    obtain ⟨y0, u0, v0⟩ := at_c (l := ls') ha (by omega)
    obtain ⟨z0, w0, _⟩ := at_c (l := ls') hb (by omega)
    obtain ⟨M1, e1⟩ : ∃ M1, M1 = gPut M 645 (.inl (1, .inl (gPut ls' (200 * tn + cn) y0))) := ⟨_, rfl⟩
    have T1 : TM sT sG M1 := by rw [e1]; exact any_put hT sT_645 a0 a1 (by decide +kernel) _ _
    have F1 : Frm sT mdR M M1 := by rw [e1]; exact Frm.row a0 sT_645 (by decide)
    have n1 : ∀ c, c ≠ 645 → gNth M1 c = gNth M c := fun c hc => by rw [e1, nth_put, if_neg (fun q => hc q.1)]
    obtain ⟨l1, b0, b1, _⟩ := T1.mrow sT_646 p2
    obtain ⟨y1, u1, _⟩ := at_c (l := l1) ha (by omega)
    obtain ⟨z1, w1, _⟩ := at_c (l := l1) hb (by omega)
    obtain ⟨M2, e2⟩ : ∃ M2, M2 = gPut M1 646 (.inl (1, .inl (gPut l1 (200 * tn + cn) y1))) := ⟨_, rfl⟩
    have T2 : TM sT sG M2 := by rw [e2]; exact any_put T1 sT_646 b0 b1 (by decide +kernel) _ _
    have F2 : Frm sT mdR M1 M2 := by rw [e2]; exact Frm.row b0 sT_646 (by decide)
    have n2 : ∀ c, c ≠ 646 → gNth M2 c = gNth M1 c := fun c hc => by rw [e2, nth_put, if_neg (fun q => hc q.1)]
    obtain ⟨l2, c0, c1, _⟩ := T2.mrow sT_647 p3
    obtain ⟨y2, u2, _⟩ := at_c (l := l2) ha (by omega)
    obtain ⟨z2, w2, _⟩ := at_c (l := l2) hb (by omega)
    obtain ⟨M3, e3⟩ : ∃ M3, M3 = gPut M2 647 (.inl (1, .inl (gPut l2 (200 * tn + cn) y2))) := ⟨_, rfl⟩
    have T3 : TM sT sG M3 := by rw [e3]; exact any_put T2 sT_647 c0 c1 (by decide +kernel) _ _
    have F3 : Frm sT mdR M2 M3 := by rw [e3]; exact Frm.row c0 sT_647 (by decide)
    have n3 : ∀ c, c ≠ 647 → gNth M3 c = gNth M2 c := fun c hc => by rw [e3, nth_put, if_neg (fun q => hc q.1)]
    have hM1 : gNth M1 633 = some (.inr (11, vs)) := by rw [n1 633 (by decide)]; exact hM
    have hM2 : gNth M2 633 = some (.inr (11, vs)) := by rw [n2 633 (by decide)]; exact hM1
    have ek : (k + 1).toInt = k.toInt + 1 := i32_p1 (by omega)
    have ss : gNth ls (1400 + cn) = some y0 := by rw [← v0, cs.2, if_neg (by omega)]
    refine RF.pre (fun v M' hz => tx_155 (by
      rw [if_neg (by rw [Int32.le_iff_toInt_le, o200]; omega)]
      refine tx_162 hM h15 a0 u0 w0 ?_
      rw [cl_n hb, ← e1]
      refine tx_184 hM1 h16 b0 u1 w1 ?_
      rw [cl_n hb, ← e2]
      refine tx_206 hM2 h17 c0 u2 w2 ?_
      rw [cl_n hb, ← e3]
      exact hz)) ?_
    refine ih (cn + 1) M3 (k + 1) _ _ ⟨T3, ((hF.trans F1).trans F2).trans F3, by rw [n3 639 (by decide), n2 639 (by decide), n1 639 (by decide)]; exact r639, by rw [n3 643 (by decide), n2 643 (by decide), n1 643 (by decide)]; exact r643, by rw [n3 644 (by decide), n2 644 (by decide), n1 644 (by decide)]; exact r644, _, by rw [n3 645 (by decide), n2 645 (by decide), e1, nth_put, if_pos ⟨rfl, gNth_lt _ _ _ r645⟩], cs.step ss (by omega)⟩ (by omega) (by omega)
end TEXT
/-- lines of the texts that are not read -/
def P24b (lm lf lt ls : List Int32) : Prop := ∀ (i : Nat) (v : Int32), gNth lm i = some v → i ≤ 6 → v.toInt ≤ 16 ∧ ∀ j : Nat, 16 * i ≤ j → (j : Int) < 16 * (i : Int) + v.toInt → ∃ f t, gNth lf j = some f ∧ gNth lt j = some t ∧ (f = t ∨ ∃ m k : Nat, f.toInt + (m : Int) = t.toInt ∧ (k : Int) = 200 * (i : Int) + f.toInt ∧ okS m ls k 0)
theorem P24b.itc {lm lf lt ls lm2 lf2 lt2 ls2 : List Int32} (h : P24b lm lf lt ls) (ht : ∀ j t, gNth lt j = some t → 0 ≤ t.toInt ∧ t.toInt ≤ 200) (hf : ∀ j t, gNth lf j = some t → 0 ≤ t.toInt ∧ t.toInt ≤ 200) (hi : ITC (lm, lf, lt, ls) lm2 lf2 lt2 ls2) : P24b lm2 lf2 lt2 ls2 := by
  intro i v hv i6
  rw [hi.1 i (by omega)] at hv
  obtain ⟨v16, h2⟩ := h i v hv i6
  refine ⟨v16, fun j j1 j2 => ?_⟩
  obtain ⟨f, t, q1, q2, q3⟩ := h2 j j1 j2
  have hj : j < 112 := by omega
  refine ⟨f, t, by rw [(hi.2.1 j hj).1]; exact q1, by rw [(hi.2.1 j hj).2]; exact q2, q3.imp id (fun ⟨m, k, k1, k2, k3⟩ => ⟨m, k, k1, k2, k3.eq (fun x x1 x2 => hi.2.2 x ?_)⟩)⟩
  have := ht _ _ q2
  have := hf _ _ q1
  omega
/-- a text is copied -/
theorem P24b.cpy {lm lf lt ls lf2 lt2 ls2 : List Int32} {tn n s : Nat} {N : Int32} (h : P24b lm lf lt ls) (ht : ∀ j t, gNth lt j = some t → 0 ≤ t.toInt ∧ t.toInt ≤ 200) (hf : ∀ j t, gNth lf j = some t → 0 ≤ t.toInt ∧ t.toInt ≤ 200) (hN : N.toInt = (n : Int)) (n16 : n ≤ 16) (t6 : tn ≤ 6) (hl : LOK n ls lf lt s) (cf : CpP lf2 lf lf (16 * tn) 112 16) (ct : CpP lt2 lt lt (16 * tn) 112 16) (cs : CpP ls2 ls ls (200 * tn) 1400 200) : P24b (gPut lm tn N) lf2 lt2 ls2 := by
  intro i v hv i6
  rw [nth_put] at hv
  by_cases hin : i = tn
  · subst hin
    by_cases hlen : i < lm.length
    · rw [if_pos ⟨rfl, hlen⟩] at hv
      cases hv
      refine ⟨by omega, fun j j1 j2 => ?_⟩
      obtain ⟨jj, rfl⟩ : ∃ jj, j = 16 * i + jj := ⟨j - 16 * i, by omega⟩
      obtain ⟨f, t, q1, q2, q3, q4, q5⟩ := hl (112 + jj) (by omega) (by omega)
      have hft := ht _ _ q2
      refine ⟨f, t, ?_, ?_, q5.imp id (fun ⟨m, k, k1, k2, k3⟩ => ⟨m, 200 * i + f.toInt.toNat, k1, by omega, k3.shift (fun x hx => ?_)⟩)⟩
      · rw [cf.2, if_pos (by omega), ← q1]
        congr 1
        omega
      · rw [ct.2, if_pos (by omega), ← q2]
        congr 1
        omega
      · rw [cs.2, if_pos (by omega)]
        congr 1
        omega
    · rw [if_neg (fun q => hlen q.2)] at hv
      exact absurd (gNth_lt _ _ _ hv) hlen
  · rw [if_neg (fun q => hin q.1)] at hv
    obtain ⟨v16, h2⟩ := h i v hv i6
    refine ⟨v16, fun j j1 j2 => ?_⟩
    obtain ⟨f, t, q1, q2, q3⟩ := h2 j j1 j2
    have hf1 := hf _ _ q1
    have ht1 := ht _ _ q2
    have hcase : i < tn ∨ tn < i := by omega
    refine ⟨f, t, by rw [cf.2, if_neg (by omega)]; exact q1, by rw [ct.2, if_neg (by omega)]; exact q2, q3.imp id (fun ⟨m, k, k1, k2, k3⟩ => ⟨m, k, k1, k2, k3.eq (fun x x1 x2 => by rw [cs.2, if_neg (by omega)])⟩)⟩
theorem rows_in {M : Mem} (hT : TM sT sG M) {lf lt : List Int32} (r643 : gNth M 643 = some (.inl (1, .inl lf))) (r644 : gNth M 644 = some (.inl (1, .inl lt))) : (∀ j t, gNth lt j = some t → 0 ≤ t.toInt ∧ t.toInt ≤ 200) ∧ ∀ j t, gNth lf j = some t → 0 ≤ t.toInt ∧ t.toInt ≤ 200 := by
  obtain ⟨l1, a1, _, a3⟩ := hT.mrow sT_643 rw_71
  obtain ⟨l2, b1, _, b3⟩ := hT.mrow sT_644 rw_72
  cases r643.symm.trans a1
  cases r644.symm.trans b1
  exact ⟨b3, a3⟩
def TxQ (M0 : Mem) (v : Option Value) (M' : Mem) : Prop := ∃ r : Int32, v = some (.int r) ∧ TM sT sG M' ∧ Frm sT mdR M0 M' ∧ P24 M'
theorem ev_text {M : Mem} {e tn : Nat} {to lw : Int32} {x3 x4 x5 : Option Value} (hT : TM sT sG M) (h24 : P24 M) (hto : to.toInt = (tn : Int)) (ht6 : tn ≤ 6) : RF (TxQ M) [] (e + 6) 181 0 [some (.ref 633), some (.int to), some (.int lw), x3, x4, x5] [] M := by
  obtain ⟨lm, lf, lt, ls, r639, r643, r644, r645, hp⟩ := h24
  have hp : P24b lm lf lt ls := hp
  obtain ⟨ht0, hf0⟩ := rows_in hT r643 r644
  obtain ⟨vs, _, hM, hlen, _⟩ := hT.fint fB_26b
  obtain ⟨T1, _⟩ := fset hT fB_26b hM (y := 0) (by decide) (by decide)
  obtain ⟨M1, e1⟩ : ∃ M1, M1 = gPut M 633 (.inr (11, gPut vs 26 (.int 0))) := ⟨_, rfl⟩
  rw [← e1] at T1
  have F1 : Frm sT mdR M M1 := by rw [e1]; exact Frm.fld hM (by decide)
  have n1 : ∀ c, c ≠ 633 → gNth M1 c = gNth M c := fun c hc => by rw [e1, nth_put, if_neg (fun q => hc q.1)]
  have a639 : gNth M1 639 = some (.inl (1, .inl lm)) := by rw [n1 639 (by decide)]; exact r639
  obtain ⟨vs1, hM1, hv1⟩ := T1.mfld
  have h9 := hv1 _ _ _ (and_t mfR).1 sUR.1
  obtain ⟨l2, b1, b2, _⟩ := T1.mrow sT_639 rw_67
  cases a639.symm.trans b1
  obtain ⟨y7, y71, _⟩ := at_c (l := lm) (j := 7) (kn := 7) rfl (by omega)
  have T2 := lm_put T1 a639 7 (y := 0) (by decide) (by decide)
  obtain ⟨M2, e2⟩ : ∃ M2, M2 = gPut M1 639 (.inl (1, .inl (gPut lm 7 0))) := ⟨_, rfl⟩
  rw [← e2] at T2
  have F2 : Frm sT mdR M1 M2 := by rw [e2]; exact Frm.row a639 sT_639 (by decide)
  have n2 : ∀ c, c ≠ 639 → gNth M2 c = gNth M1 c := fun c hc => by rw [e2, nth_put, if_neg (fun q => hc q.1)]
  obtain ⟨S, P, O, ls2, lp, c2, _⟩ := T2.cst
  obtain ⟨vs2, hM2, v19, v20, v21, q645, q648⟩ := id c2
  have els : ls2 = ls := by
    rw [n2 645 (by decide), n1 645 (by decide), r645] at q645
    cases q645
    rfl
  subst els
  obtain ⟨T3, c3⟩ := c2.S T2 hM2 (y := 0) (by decide) (by decide)
  obtain ⟨_, hlen2⟩ := fset T2 (and_t (and_t fBT).1).1 hM2 (y := 0) (by decide) (by decide)
  obtain ⟨M3, e3⟩ : ∃ M3, M3 = gPut M2 633 (.inr (11, gPut vs2 19 (.int 0))) := ⟨_, rfl⟩
  rw [← e3] at T3 c3
  have F3 : Frm sT mdR M2 M3 := by rw [e3]; exact Frm.fld hM2 (by decide)
  have n3 : ∀ c, c ≠ 633 → gNth M3 c = gNth M2 c := fun c hc => by rw [e3, nth_put, if_neg (fun q => hc q.1)]
  obtain ⟨vs3, hM3, w19, w20, w21, _⟩ := id c3
  obtain ⟨T4, c4⟩ := c3.O T3 hM3 (y := 0) (by decide) (by decide)
  obtain ⟨_, hlen3⟩ := fset T3 (and_t fBT).2 hM3 (y := 0) (by decide) (by decide)
  obtain ⟨M4, e4⟩ : ∃ M4, M4 = gPut M3 633 (.inr (11, gPut vs3 21 (.int 0))) := ⟨_, rfl⟩
  rw [← e4] at T4 c4
  have F4 : Frm sT mdR M3 M4 := by rw [e4]; exact Frm.fld hM3 (by decide)
  have n4 : ∀ c, c ≠ 633 → gNth M4 c = gNth M3 c := fun c hc => by rw [e4, nth_put, if_neg (fun q => hc q.1)]
  have W4 : WW (lm, lf, lt, ls2) 0 0 M4 := ⟨0, 0, 0, P, 0, ls2, lp, gPut lm 7 0, lf, lt, T4, c4, rfl, rfl, by omega, ⟨by rw [n4 639 (by decide), n3 639 (by decide), e2, nth_put, if_pos ⟨rfl, gNth_lt _ _ _ a639⟩], by rw [n4 643 (by decide), n3 643 (by decide), n2 643 (by decide), n1 643 (by decide)]; exact r643, by rw [n4 644 (by decide), n3 644 (by decide), n2 644 (by decide), n1 644 (by decide)]; exact r644⟩, by rw [nth_put, if_pos ⟨rfl, by omega⟩], fun j j1 j2 => by omega, fun i hi => by rw [nth_put, if_neg (by omega)], fun j _ => ⟨rfl, rfl⟩, fun i _ => rfl⟩
  obtain ⟨_, vs4, hM4⟩ := W4.obj
  obtain ⟨M5, x5', T5, F5⟩ := un_next (e := e + 4) T4
  have W5 := W4.frm T5 F5 (by decide)
  obtain ⟨_, vs5, hM5⟩ := W5.obj
  have F05 : Frm sT mdR M M5 := (((F1.trans F2).trans F3).trans F4).trans (F5.more (by decide))
  obtain ⟨v, M6, q6, r, rfl, T6, F6, hr⟩ := rd_loop (e := e) (M0 := M5) (lw := lw) 17 0 0 M5 none none none W5 rfl (by omega) (by omega) (Frm.refl M5)
  have F06 := F05.trans F6
  refine RF.pre (fun v M' hz => tx_0 hM hlen (by
    rw [← e1]
    refine tx_5 hM1 h9 a639 y71 ?_
    rw [cl_n (kn := 7) rfl, ← e2]
    refine tx_13 hM2 hlen2 ?_
    rw [← e3]
    refine tx_18 hM3 hlen3 ?_
    rw [← e4]
    exact tx_23 (Ev.call0 (fun n => gs_7 rfl rfl (cal_nx hM4 rfl)) x5' (tx_27 (Ev.call0 (fun n => gs_7 rfl rfl (cal_rd hM5 rfl)) q6 (tx_32 hz)))))) ?_
  rcases hr with ⟨rfl, lm6, lf6, lt6, ls6, ⟨u639, u643, u644⟩, u645, hi6⟩ | ⟨rfl, n, N, W6, hN, n16⟩
  · rw [if_pos rfl]
    obtain ⟨vs6, f27, hM6, _, g27, _⟩ := T6.fint fB_27
    obtain ⟨mm, hmm⟩ : ∃ mm : Int32, mm = -1 := ⟨_, rfl⟩
    exact ⟨some (.int (mm - f27)), M6, tx_35 hmm hM6 g27, _, rfl, T6, F06, lm6, lf6, lt6, ls6, u639, u643, u644, u645, hp.itc ht0 hf0 hi6⟩
  rw [if_neg (by decide)]
  obtain ⟨s, o, S6, P6, O6, ls6, lp6, lm6, lf6, lt6, _, c6, _, _, _, ⟨u639, u643, u644⟩, h7, hl, hi6⟩ := id W6
  obtain ⟨vs6, hM6, _, _, _, u645, _⟩ := id c6
  obtain ⟨vs9, hM9, hv6⟩ := T6.mfld
  cases hM6.symm.trans hM9
  have h9b := hv6 _ _ _ (and_t mfR).1 sUR.1
  have hp6 := hp.itc ht0 hf0 hi6
  obtain ⟨ht6', hf6'⟩ := rows_in T6 u643 u644
  obtain ⟨l9, d1, d2, d3⟩ := T6.mrow sT_639 rw_67
  cases u639.symm.trans d1
  obtain ⟨yt, yt1, _⟩ := at_c (l := lm6) hto (by omega)
  have g7 : gAt lm6 7 = some N := by rw [at_nn (kn := 7) rfl]; exact h7
  have T7 := lm_put T6 u639 tn (y := N) (by omega) (by omega)
  obtain ⟨M7, e7⟩ : ∃ M7, M7 = gPut M6 639 (.inl (1, .inl (gPut lm6 tn N))) := ⟨_, rfl⟩
  rw [← e7] at T7
  have F7 : Frm sT mdR M6 M7 := by rw [e7]; exact Frm.row u639 sT_639 (by decide)
  have n7 : ∀ c, c ≠ 639 → gNth M7 c = gNth M6 c := fun c hc => by rw [e7, nth_put, if_neg (fun q => hc q.1)]
  refine RF.pre (fun v M' hz => tx_42 hM6 h9b u639 g7 yt1 (by rw [cl_n hto, ← e7]; exact hz)) ?_
  refine tx_l1 (M0 := M) (lm := gPut lm6 tn N) (lf := lf6) (lt := lt6) (ls := ls6) hto ht6 (fun M8 k x4 x5 h8 => ?_) 16 0 M7 0 _ _ ⟨T7, F06.trans F7, by rw [e7, nth_put, if_pos ⟨rfl, gNth_lt _ _ _ u639⟩], by rw [n7 645 (by decide)]; exact u645, lf6, lt6, by rw [n7 643 (by decide)]; exact u643, by rw [n7 644 (by decide)]; exact u644, CpP.zero _ _ _ _, CpP.zero _ _ _ _⟩ rfl rfl
  obtain ⟨T8, F8, b639, b645, lf8, lt8, b643, b644, cf, ct⟩ := h8
  refine RF.pre (fun v M' hz => tx_153 hz) ?_
  refine tx_l2 (M0 := M) (lm := gPut lm6 tn N) (lf := lf8) (lt := lt8) (ls := ls6) hto ht6 (fun M9 k x4 x5 h9 => ?_) 200 0 M8 0 _ _ ⟨T8, F8, b639, b643, b644, ls6, b645, CpP.zero _ _ _ _⟩ rfl rfl
  obtain ⟨T9, F9, c639, c643, c644, ls9, c645, cs⟩ := h9
  obtain ⟨vs9, hM9, hv9⟩ := T9.mfld
  have h9c := hv9 _ _ _ (and_t mfR).1 sUR.1
  obtain ⟨y9, y91, _⟩ := at_c (l := gPut lm6 tn N) hto (by rw [put_len]; omega)
  exact ⟨some (.int y9), M9, tx_234 hM9 h9c c639 y91, y9, rfl, T9, F9, _, _, _, _, c639, c643, c644, c645, hp6.cpy ht6' hf6' hN n16 ht6 hl cf ct cs⟩
def kX11_text : CN := (181, 6, [.inr 1900, .inl (.ofNat 0, .ofNat 6), .inl (.ofNat 0, .ofNat 1)], [], [(24, [])], [(11, 4), (11, 19), (11, 20), (11, 21), (11, 22), (11, 23), (11, 24), (11, 25), (11, 26), (11, 27), (11, 31), (11, 32), (1067, 0), (1068, 0), (1069, 0), (1070, 0), (1071, 0), (1072, 0), (1073, 0), (1074, 0), (1075, 0), (1076, 0)], [(some (.inl (.negSucc 2147483647, .ofNat 2147483647)), [], [], [(24, [])], [])])
set_option maxRecDepth 100000 in
theorem mR_181 : (gNth mRs 181).map (fun q => q.2.2.2.1) = some 6 := by decide +kernel
theorem kX11_text_ok : cnOK sT sG FL0 kX11_text := by
  intro d M ws q hd hq ha hp hT
  have hm := mR_181
  have hq' : gNth mRs 181 = some q := hq
  rw [hq'] at hm
  have hm : q.2.2.2.1 = 6 := Option.some.inj hm
  obtain ⟨e, rfl⟩ : ∃ e, d = e + 6 := ⟨d - 6, by have : 6 ≤ d := hd; omega⟩
  rcases ws with _ | ⟨z0, _ | ⟨z1, _ | ⟨z2, _ | ⟨z3, r⟩⟩⟩⟩
  · exact ha.elim
  · exact ha.2.elim
  · exact ha.2.2.elim
  · obtain ⟨k1, ⟨to, rfl, t1, t2⟩, ⟨lw, rfl, _, _⟩, _⟩ := ha
    have k1 : z0 = .ref 633 := k1
    subst k1
    have t1 : 0 ≤ to.toInt := t1
    have t2 : to.toInt ≤ 6 := t2
    obtain ⟨hv, hv0, hfl⟩ := hp
    obtain ⟨y24, z24, h24⟩ := hfl (24, []) (List.mem_cons_self ..)
    obtain ⟨tn, htn⟩ : ∃ tn : Nat, to.toInt = (tn : Int) := ⟨to.toInt.toNat, by omega⟩
    obtain ⟨v, M', q1, r, rfl, q2, q3, q4⟩ := ev_text (e := e) (to := to) (lw := lw) (x3 := none) (x4 := none) (x5 := none) hT (fl0_24 h24) htn (by omega)
    rw [hm]
    refine ⟨some (.int r), M', q1, q2, q3, _, List.mem_cons_self .., ⟨⟨r, rfl, i32_any r⟩, fun q hq => (by cases hq), [], trivial, fun f hf => ?_, fun q hq => (by cases hq)⟩, cn_D rfl⟩
    cases List.mem_singleton.mp hf
    exact ⟨[], trivial, (show FL0 24 [] M' from q4)⟩
  · exact ha.2.2.2.elim
/-! CERTIFICATES (by program) -/
def kX11_law : CN := (183, 7, [.inr 1900], [], [(24, [])], [(11, 0), (11, 2), (11, 3), (11, 4), (11, 19), (11, 20), (11, 21), (11, 22), (11, 23), (11, 24), (11, 25), (11, 26), (11, 27), (11, 28), (11, 29), (11, 30), (11, 31), (11, 32), (1067, 0), (1068, 0), (1069, 0), (1070, 0), (1071, 0), (1072, 0), (1073, 0), (1074, 0), (1075, 0), (1076, 0)], [(some (.inl (.negSucc 2147483647, .ofNat 2147483647)), [], [(.inl 633, 11, 2, .inl (.ofNat 0, .ofNat 0))], [(24, [])], [])])
def kX11_law_t : List (Nat × TP) := []
set_option maxRecDepth 100000 in
theorem kX11_law_ok : cnOK sT sG FL0 kX11_law := ccM_V (Δ := [kX11_text, kX11_told]) (n := 53) (N := 0) (cuts := kX11_law_t) sU_ok dp0_ok ct0_ok (cons_ok kX11_text_ok (cons_ok kX11_told_ok nil_ok)) (by decide +kernel)
def kX11_habit : CN := (184, 7, [.inr 1900, .inl (.negSucc 2147483647, .ofNat 2147483647)], [], [(24, [])], [(11, 0), (11, 2), (11, 3), (11, 4), (11, 19), (11, 20), (11, 21), (11, 22), (11, 23), (11, 24), (11, 25), (11, 26), (11, 27), (11, 31), (11, 32), (1067, 0), (1068, 0), (1069, 0), (1070, 0), (1071, 0), (1072, 0), (1073, 0), (1074, 0), (1075, 0), (1076, 0)], [(some (.inl (.negSucc 2147483647, .ofNat 2147483647)), [], [(.inl 633, 11, 2, .inl (.ofNat 0, .ofNat 0))], [(24, [])], [])])
def kX11_habit_t : List (Nat × TP) := []
set_option maxRecDepth 100000 in
theorem kX11_habit_ok : cnOK sT sG FL0 kX11_habit := ccM_V (Δ := [kX11_text]) (n := 56) (N := 0) (cuts := kX11_habit_t) sU_ok dp0_ok ct0_ok (cons_ok kX11_text_ok nil_ok) (by decide +kernel)
/-! WHAT STANDS BETWEEN CALLS: the reference's side -/
def INVr (M : Mem) : Prop := TM sT sG M ∧ FL0 24 [] M ∧ FL0 28 [] M ∧ FL0 32 [] M
/-- a contract asks for no more, and keeps it -/
noncomputable def invB (c : CN) : Bool := c.2.2.2.1.isEmpty && (c.2.2.2.2.1.all (fun f => f.2.isEmpty && (Nat.beq f.1 24 || (Nat.beq f.1 28 || Nat.beq f.1 32))) && [24, 28, 32].all (fun x => c.2.2.2.2.2.1.all (fun q => !mdIn (dp0 x) q.1 q.2) || c.2.2.2.2.2.2.all (fun s => s.2.2.2.1.any (fun f => Nat.beq f.1 x && f.2.isEmpty))))
theorem inv_fl {c : CN} {x : Nat} {M M' : Mem} {ws : List Value} {v : Option Value} {s : CS} (h : (c.2.2.2.2.2.1.all (fun q => !mdIn (dp0 x) q.1 q.2) || c.2.2.2.2.2.2.all (fun s => s.2.2.2.1.any (fun f => Nat.beq f.1 x && f.2.isEmpty))) = true) (hF : Frm sT c.2.2.2.2.2.1 M M') (hs : s ∈ c.2.2.2.2.2.2) (hcs : csOK sT FL0 ws v M' s) (h0 : FL0 x [] M) : FL0 x [] M' := by
  rw [Bool.or_eq_true] at h
  rcases h with h | h
  · refine dp0_frm 0 x [] _ M M' hF (fun q hq hm => ?_) h0
    have h2 := List.all_eq_true.mp h q hq
    rw [mdIn_iff.mpr hm] at h2
    cases h2
  · have h2 := List.all_eq_true.mp h s hs
    obtain ⟨f, hf, h3⟩ := List.any_eq_true.mp h2
    obtain ⟨h4, h5⟩ := and_t h3
    obtain ⟨_, _, hv, _, h6, _⟩ := hcs
    obtain ⟨ys, h7, h8⟩ := h6 f hf
    obtain ⟨fx, ps⟩ := f
    cases Nat.eq_of_beq_eq_true h4
    have h5 : ps = [] := List.isEmpty_iff.mp h5
    subst h5
    cases ys with
    | nil => exact h8
    | cons _ _ => exact h7.elim
theorem inv_call {c : CN} {k d : Nat} {M : Mem} {ws : List Value} (hc : cnOK sT sG FL0 c) (hB : invB c = true) (hm : (gNth mRs c.1).map (fun q => q.2.2.2.1) = some k) (hd : c.2.1 ≤ d) (ha : Two (taOK sT) c.2.2.1 ws) (hI : INVr M) : ∃ v M', Ev none d c.1 0 (gPad k (gArgs ws)) [] M v M' 0 0 ∧ INVr M' ∧ Frm sT c.2.2.2.2.2.1 M M' ∧ ∃ s ∈ c.2.2.2.2.2.2, csOK sT FL0 ws v M' s := by
  obtain ⟨b1, b2⟩ := and_t hB
  obtain ⟨b2, b3⟩ := and_t b2
  obtain ⟨hT, f24, f28, f32⟩ := hI
  cases hq : gNth mRs c.1 with
  | none => rw [hq] at hm; cases hm
  | some q =>
    rw [hq] at hm
    have hm : q.2.2.2.1 = k := Option.some.inj hm
    have h3 : c.2.2.2.1 = [] := List.isEmpty_iff.mp b1
    obtain ⟨v, M', e1, e2, e3, s, e4, e5, _⟩ := hc d M ws q hd hq ha ⟨[], by rw [h3]; trivial, fun f hf => by
      obtain ⟨g1, g2⟩ := and_t (List.all_eq_true.mp b2 f hf)
      obtain ⟨fx, ps⟩ := f
      have g1 : ps = [] := List.isEmpty_iff.mp g1
      subst g1
      refine ⟨[], trivial, ?_⟩
      have g2 : (Nat.beq fx 24 || (Nat.beq fx 28 || Nat.beq fx 32)) = true := g2
      rw [Bool.or_eq_true, Bool.or_eq_true] at g2
      rcases g2 with g | g | g
      · cases Nat.eq_of_beq_eq_true g; exact f24
      · cases Nat.eq_of_beq_eq_true g; exact f28
      · cases Nat.eq_of_beq_eq_true g; exact f32⟩ hT
    rw [hm] at e1
    have b4 := fun x hx => List.all_eq_true.mp b3 x hx
    exact ⟨v, M', e1, ⟨e2, inv_fl (b4 24 (by decide)) e3 e4 e5 f24, inv_fl (b4 28 (by decide)) e3 e4 e5 f28, inv_fl (b4 32 (by decide)) e3 e4 e5 f32⟩, e3, s, e4, e5⟩
set_option maxRecDepth 100000 in
theorem inv_all : ([kX11_feed, kX11_end, kX11_park, kX11_door, kX11_law, kX11_habit, kX11_fault, kX11_wish, kX11_drop, kX11_run, kX11_week, kX11_rain, kX11_snow, kX11_lay, kX11_walker, kX11_cell, kX11_net, kX11_pieces, kX11_rests, kX11_least, kX11_longer, kX11_turns, kX11_paved, kX11_wait, kX11_fences, kX11_fenceAt, kX11_lasts, kX11_way, kX11_wayAt, kX11_read_, kX11_reads, kX11_fits, kX11_image, kX11_restore, kX11_count].all invB) = true := by decide +kernel
