/-! BY HAND: reading texts, the reference: read -/
theorem rd_0 {e : Nat} {M : Mem} {M' : Mem} {v : Option Value} {vs : List Value} {f22 lw : Int32} {x2 x3 x4 : Option Value} (hM : gNth M 633 = some (.inr (11, vs))) (v22 : gNth vs 22 = some (.int f22)) (hz : Ev none (e + 5) 169 (if f22 = 0 then 151 else 7) [some (.ref 633), some (.int lw), x2, x3, x4] [] M v M' 0 0) : Ev none (e + 5) 169 0 [some (.ref 633), some (.int lw), x2, x3, x4] [] M v M' 0 0 := by
  refine Ev.step (pc' := 1) (ls' := [some (.ref 633), some (.int lw), x2, x3, x4]) (st' := [.ref 633]) (M1 := M) 1 (fun n => rfl) ?_
  refine Ev.step 1 (gs_3 rfl rfl (gf_g rfl hM v22)) ?_
  refine Ev.step (pc' := (if f22 = 0 then 151 else 7)) (ls' := [some (.ref 633), some (.int lw), x2, x3, x4]) (st' := []) (M1 := M) 1 (fun n => rfl) ?_
  exact hz
theorem rd_7 {e : Nat} {M : Mem} {M' : Mem} {v : Option Value} {lw : Int32} {x2 x3 x4 : Option Value}  (hz : Ev none (e + 5) 169 9 [some (.ref 633), some (.int lw), x2, x3, x4] [.int lw, .ref 633] M v M' 0 0) : Ev none (e + 5) 169 7 [some (.ref 633), some (.int lw), x2, x3, x4] [] M v M' 0 0 := by
  refine Ev.step (pc' := 9) (ls' := [some (.ref 633), some (.int lw), x2, x3, x4]) (st' := [.int lw, .ref 633]) (M1 := M) 2 (fun n => rfl) ?_
  exact hz
theorem rd_12 {e : Nat} {M : Mem} {M' : Mem} {v : Option Value} {kd lw : Int32} {x2 x3 x4 : Option Value}  (hz : Ev none (e + 5) 169 (if 0 ≤ kd then 23 else 17) [some (.ref 633), some (.int lw), some (.int kd), x3, x4] [] M v M' 0 0) : Ev none (e + 5) 169 12 [some (.ref 633), some (.int lw), x2, x3, x4] [.int kd] M v M' 0 0 := by
  refine Ev.step (pc' := (if 0 ≤ kd then 23 else 17)) (ls' := [some (.ref 633), some (.int lw), some (.int kd), x3, x4]) (st' := []) (M1 := M) 3 (fun n => rfl) ?_
  exact hz
theorem rd_17 {e : Nat} {M : Mem} {M' : Mem} {v : Option Value} {kd lw : Int32} {x3 x4 : Option Value}  (hz : Ev none (e + 5) 169 19 [some (.ref 633), some (.int lw), some (.int kd), x3, x4] [.int 1, .ref 633] M v M' 0 0) : Ev none (e + 5) 169 17 [some (.ref 633), some (.int lw), some (.int kd), x3, x4] [] M v M' 0 0 := by
  refine Ev.step (pc' := 19) (ls' := [some (.ref 633), some (.int lw), some (.int kd), x3, x4]) (st' := [.int 1, .ref 633]) (M1 := M) 2 (fun n => rfl) ?_
  exact hz
theorem rd_22 {e : Nat} {M : Mem} {kd lw : Int32} {x3 x4 : Option Value}  : Ev none (e + 5) 169 22 [some (.ref 633), some (.int lw), some (.int kd), x3, x4] [.int 0] M (some (.int 0)) M 0 0 := by
  exact Ev.ret (fun n => rfl)
theorem rd_23 {e : Nat} {M : Mem} {M' : Mem} {v : Option Value} {kd lw : Int32} {x3 x4 : Option Value}  (hz : Ev none (e + 5) 169 26 [some (.ref 633), some (.int lw), some (.int kd), x3, x4] [.int 4, .int 2, .int kd] M v M' 0 0) : Ev none (e + 5) 169 23 [some (.ref 633), some (.int lw), some (.int kd), x3, x4] [] M v M' 0 0 := by
  refine Ev.step (pc' := 26) (ls' := [some (.ref 633), some (.int lw), some (.int kd), x3, x4]) (st' := [.int 4, .int 2, .int kd]) (M1 := M) 3 (fun n => rfl) ?_
  exact hz
theorem rd_29 {e : Nat} {M : Mem} {M' : Mem} {v : Option Value} {kd lw y : Int32} {x3 x4 : Option Value}  (hz : Ev none (e + 5) 169 (if y = 0 then 32 else 38) [some (.ref 633), some (.int lw), some (.int kd), x3, x4] [] M v M' 0 0) : Ev none (e + 5) 169 29 [some (.ref 633), some (.int lw), some (.int kd), x3, x4] [.int y] M v M' 0 0 := by
  refine Ev.step (pc' := (if y = 0 then 32 else 38)) (ls' := [some (.ref 633), some (.int lw), some (.int kd), x3, x4]) (st' := []) (M1 := M) 1 (fun n => rfl) ?_
  exact hz
theorem rd_32 {e : Nat} {M : Mem} {M' : Mem} {v : Option Value} {kd lw : Int32} {x3 x4 : Option Value}  (hz : Ev none (e + 5) 169 (if kd = 7 then 38 else 52) [some (.ref 633), some (.int lw), some (.int kd), x3, x4] [] M v M' 0 0) : Ev none (e + 5) 169 32 [some (.ref 633), some (.int lw), some (.int kd), x3, x4] [] M v M' 0 0 := by
  refine Ev.step (pc' := (if kd = 7 then 38 else 52)) (ls' := [some (.ref 633), some (.int lw), some (.int kd), x3, x4]) (st' := []) (M1 := M) 3 (fun n => rfl) ?_
  exact hz
theorem rd_38 {e : Nat} {M : Mem} {M' : Mem} {v : Option Value} {kd lw : Int32} {x3 x4 : Option Value}  (hz : Ev none (e + 5) 169 42 [some (.ref 633), some (.int lw), some (.int kd), x3, x4] [.int kd, .int 7, .ref 633] M v M' 0 0) : Ev none (e + 5) 169 38 [some (.ref 633), some (.int lw), some (.int kd), x3, x4] [] M v M' 0 0 := by
  refine Ev.step (pc' := 42) (ls' := [some (.ref 633), some (.int lw), some (.int kd), x3, x4]) (st' := [.int kd, .int 7, .ref 633]) (M1 := M) 3 (fun n => rfl) ?_
  exact hz
theorem rd_45 {e : Nat} {M : Mem} {M' : Mem} {v : Option Value} {kd lw y : Int32} {x3 x4 : Option Value}  (hz : Ev none (e + 5) 169 (if y < 0 then 52 else 48) [some (.ref 633), some (.int lw), some (.int kd), x3, x4] [] M v M' 0 0) : Ev none (e + 5) 169 45 [some (.ref 633), some (.int lw), some (.int kd), x3, x4] [.int y] M v M' 0 0 := by
  refine Ev.step (pc' := (if y < 0 then 52 else 48)) (ls' := [some (.ref 633), some (.int lw), some (.int kd), x3, x4]) (st' := []) (M1 := M) 1 (fun n => rfl) ?_
  exact hz
theorem rd_48 {e : Nat} {M : Mem} {M' : Mem} {v : Option Value} {kd lw : Int32} {x3 x4 : Option Value}  (hz : Ev none (e + 5) 169 70 [some (.ref 633), some (.int lw), some (.int kd), some (.int 1), x4] [] M v M' 0 0) : Ev none (e + 5) 169 48 [some (.ref 633), some (.int lw), some (.int kd), x3, x4] [] M v M' 0 0 := by
  refine Ev.step (pc' := 70) (ls' := [some (.ref 633), some (.int lw), some (.int kd), some (.int 1), x4]) (st' := []) (M1 := M) 5 (fun n => rfl) ?_
  exact hz
theorem rd_52 {e : Nat} {M : Mem} {M' : Mem} {v : Option Value} {kd lw : Int32} {x3 x4 : Option Value}  (hz : Ev none (e + 5) 169 58 [some (.ref 633), some (.int lw), some (.int kd), some (.int 0), x4] [] M v M' 0 0) : Ev none (e + 5) 169 52 [some (.ref 633), some (.int lw), some (.int kd), x3, x4] [] M v M' 0 0 := by
  refine Ev.step (pc' := 58) (ls' := [some (.ref 633), some (.int lw), some (.int kd), some (.int 0), x4]) (st' := []) (M1 := M) 4 (fun n => rfl) ?_
  exact hz
theorem rd_58 {e : Nat} {M : Mem} {M' : Mem} {v : Option Value} {vs : List Value} {kd lw y1 : Int32} {l639 : List Int32} {x3 x4 : Option Value} (hM : gNth M 633 = some (.inr (11, vs))) (v9 : gNth vs 9 = some (.ref 639)) (r639 : gNth M 639 = some (.inl (1, .inl l639))) (g1 : gAt l639 7 = some y1) (hz : Ev none (e + 5) 169 (if y1 = 16 then 70 else 76) [some (.ref 633), some (.int lw), some (.int kd), x3, x4] [] M v M' 0 0) : Ev none (e + 5) 169 58 [some (.ref 633), some (.int lw), some (.int kd), x3, x4] [] M v M' 0 0 := by
  refine Ev.step (pc' := 59) (ls' := [some (.ref 633), some (.int lw), some (.int kd), x3, x4]) (st' := [.ref 633]) (M1 := M) 1 (fun n => rfl) ?_
  refine Ev.step 1 (gs_3 rfl rfl (gf_g rfl hM v9)) ?_
  refine Ev.step (pc' := 64) (ls' := [some (.ref 633), some (.int lw), some (.int kd), x3, x4]) (st' := [.int 7, .ref 639]) (M1 := M) 1 (fun n => rfl) ?_
  refine Ev.step 1 (gs_3 rfl rfl (ia_g r639 g1)) ?_
  refine Ev.step (pc' := (if y1 = 16 then 70 else 76)) (ls' := [some (.ref 633), some (.int lw), some (.int kd), x3, x4]) (st' := []) (M1 := M) 2 (fun n => rfl) ?_
  exact hz
theorem rd_70 {e : Nat} {M : Mem} {M' : Mem} {v : Option Value} {kd lw : Int32} {x3 x4 : Option Value}  (hz : Ev none (e + 5) 169 72 [some (.ref 633), some (.int lw), some (.int kd), x3, x4] [.int 3, .ref 633] M v M' 0 0) : Ev none (e + 5) 169 70 [some (.ref 633), some (.int lw), some (.int kd), x3, x4] [] M v M' 0 0 := by
  refine Ev.step (pc' := 72) (ls' := [some (.ref 633), some (.int lw), some (.int kd), x3, x4]) (st' := [.int 3, .ref 633]) (M1 := M) 2 (fun n => rfl) ?_
  exact hz
theorem rd_75 {e : Nat} {M : Mem} {kd lw : Int32} {x3 x4 : Option Value}  : Ev none (e + 5) 169 75 [some (.ref 633), some (.int lw), some (.int kd), x3, x4] [.int 0] M (some (.int 0)) M 0 0 := by
  exact Ev.ret (fun n => rfl)
theorem rd_76 {e : Nat} {M : Mem} {M' : Mem} {v : Option Value} {vs : List Value} {kd lw tw y1 : Int32} {l639 : List Int32} {x4 : Option Value} (hM : gNth M 633 = some (.inr (11, vs))) (v9 : gNth vs 9 = some (.ref 639)) (r639 : gNth M 639 = some (.inl (1, .inl l639))) (g1 : gAt l639 7 = some y1) (hz : Ev none (e + 5) 169 89 [some (.ref 633), some (.int lw), some (.int kd), some (.int tw), some (.int (112 + y1))] [.ref 633] M v M' 0 0) : Ev none (e + 5) 169 76 [some (.ref 633), some (.int lw), some (.int kd), some (.int tw), x4] [] M v M' 0 0 := by
  refine Ev.step (pc' := 79) (ls' := [some (.ref 633), some (.int lw), some (.int kd), some (.int tw), x4]) (st' := [.ref 633, .int 112]) (M1 := M) 2 (fun n => rfl) ?_
  refine Ev.step 1 (gs_3 rfl rfl (gf_g rfl hM v9)) ?_
  refine Ev.step (pc' := 84) (ls' := [some (.ref 633), some (.int lw), some (.int kd), some (.int tw), x4]) (st' := [.int 7, .ref 639, .int 112]) (M1 := M) 1 (fun n => rfl) ?_
  refine Ev.step 1 (gs_3 rfl rfl (ia_g r639 g1)) ?_
  refine Ev.step (pc' := 89) (ls' := [some (.ref 633), some (.int lw), some (.int kd), some (.int tw), some (.int (112 + y1))]) (st' := [.ref 633]) (M1 := M) 3 (fun n => rfl) ?_
  exact hz
theorem rd_92 {e : Nat} {M : Mem} {M' : Mem} {v : Option Value} {vs : List Value} {kd lw x y1 : Int32} {l640 : List Int32} {x3 : Option Value} (hM : gNth M 633 = some (.inr (11, vs))) (v10 : gNth vs 10 = some (.ref 640)) (r640 : gNth M 640 = some (.inl (1, .inl l640))) (g1 : gAt l640 x = some y1) (hz : Ev none (e + 5) 169 100 [some (.ref 633), some (.int lw), some (.int kd), x3, some (.int x)] [] (gPut M 640 (.inl (1, .inl (gPut l640 x.toNatClampNeg kd)))) v M' 0 0) : Ev none (e + 5) 169 92 [some (.ref 633), some (.int lw), some (.int kd), x3, some (.int x)] [] M v M' 0 0 := by
  refine Ev.step (pc' := 93) (ls' := [some (.ref 633), some (.int lw), some (.int kd), x3, some (.int x)]) (st' := [.ref 633]) (M1 := M) 1 (fun n => rfl) ?_
  refine Ev.step 1 (gs_3 rfl rfl (gf_g rfl hM v10)) ?_
  refine Ev.step (pc' := 99) (ls' := [some (.ref 633), some (.int lw), some (.int kd), x3, some (.int x)]) (st' := [.int kd, .int x, .ref 640]) (M1 := M) 2 (fun n => rfl) ?_
  refine Ev.step 1 (gs_4 rfl rfl (is_g r640 g1)) ?_
  exact hz
theorem rd_100 {e : Nat} {M : Mem} {M' : Mem} {v : Option Value} {vs : List Value} {kd lw x y1 : Int32} {l641 : List Int32} {x3 : Option Value} (hM : gNth M 633 = some (.inr (11, vs))) (v11 : gNth vs 11 = some (.ref 641)) (r641 : gNth M 641 = some (.inl (1, .inl l641))) (g1 : gAt l641 x = some y1) (hz : Ev none (e + 5) 169 108 [some (.ref 633), some (.int lw), some (.int kd), x3, some (.int x)] [] (gPut M 641 (.inl (1, .inl (gPut l641 x.toNatClampNeg 0)))) v M' 0 0) : Ev none (e + 5) 169 100 [some (.ref 633), some (.int lw), some (.int kd), x3, some (.int x)] [] M v M' 0 0 := by
  refine Ev.step (pc' := 101) (ls' := [some (.ref 633), some (.int lw), some (.int kd), x3, some (.int x)]) (st' := [.ref 633]) (M1 := M) 1 (fun n => rfl) ?_
  refine Ev.step 1 (gs_3 rfl rfl (gf_g rfl hM v11)) ?_
  refine Ev.step (pc' := 107) (ls' := [some (.ref 633), some (.int lw), some (.int kd), x3, some (.int x)]) (st' := [.int 0, .int x, .ref 641]) (M1 := M) 2 (fun n => rfl) ?_
  refine Ev.step 1 (gs_4 rfl rfl (is_g r641 g1)) ?_
  exact hz
theorem rd_108 {e : Nat} {M : Mem} {M' : Mem} {v : Option Value} {vs : List Value} {kd lw x y1 : Int32} {l642 : List Int32} {x3 : Option Value} (hM : gNth M 633 = some (.inr (11, vs))) (v12 : gNth vs 12 = some (.ref 642)) (r642 : gNth M 642 = some (.inl (1, .inl l642))) (g1 : gAt l642 x = some y1) (hz : Ev none (e + 5) 169 116 [some (.ref 633), some (.int lw), some (.int kd), x3, some (.int x)] [] (gPut M 642 (.inl (1, .inl (gPut l642 x.toNatClampNeg 0)))) v M' 0 0) : Ev none (e + 5) 169 108 [some (.ref 633), some (.int lw), some (.int kd), x3, some (.int x)] [] M v M' 0 0 := by
  refine Ev.step (pc' := 109) (ls' := [some (.ref 633), some (.int lw), some (.int kd), x3, some (.int x)]) (st' := [.ref 633]) (M1 := M) 1 (fun n => rfl) ?_
  refine Ev.step 1 (gs_3 rfl rfl (gf_g rfl hM v12)) ?_
  refine Ev.step (pc' := 115) (ls' := [some (.ref 633), some (.int lw), some (.int kd), x3, some (.int x)]) (st' := [.int 0, .int x, .ref 642]) (M1 := M) 2 (fun n => rfl) ?_
  refine Ev.step 1 (gs_4 rfl rfl (is_g r642 g1)) ?_
  exact hz
theorem rd_116 {e : Nat} {M : Mem} {M' : Mem} {v : Option Value} {kd lw x : Int32} {x3 : Option Value}  (hz : Ev none (e + 5) 169 120 [some (.ref 633), some (.int lw), some (.int kd), x3, some (.int x)] [.int kd, .int x, .ref 633] M v M' 0 0) : Ev none (e + 5) 169 116 [some (.ref 633), some (.int lw), some (.int kd), x3, some (.int x)] [] M v M' 0 0 := by
  refine Ev.step (pc' := 120) (ls' := [some (.ref 633), some (.int lw), some (.int kd), x3, some (.int x)]) (st' := [.int kd, .int x, .ref 633]) (M1 := M) 3 (fun n => rfl) ?_
  exact hz
theorem rd_123 {e : Nat} {M : Mem} {M' : Mem} {v : Option Value} {kd lw x y : Int32} {x3 : Option Value}  (hz : Ev none (e + 5) 169 (if y = 0 then 135 else 126) [some (.ref 633), some (.int lw), some (.int kd), x3, some (.int x)] [] M v M' 0 0) : Ev none (e + 5) 169 123 [some (.ref 633), some (.int lw), some (.int kd), x3, some (.int x)] [.int y] M v M' 0 0 := by
  refine Ev.step (pc' := (if y = 0 then 135 else 126)) (ls' := [some (.ref 633), some (.int lw), some (.int kd), x3, some (.int x)]) (st' := []) (M1 := M) 1 (fun n => rfl) ?_
  exact hz
theorem rd_126 {e : Nat} {M : Mem} {M' : Mem} {v : Option Value} {kd lw x : Int32} {x3 : Option Value}  (hz : Ev none (e + 5) 169 129 [some (.ref 633), some (.int lw), some (.int kd), x3, some (.int x)] [.int 59, .ref 633] M v M' 0 0) : Ev none (e + 5) 169 126 [some (.ref 633), some (.int lw), some (.int kd), x3, some (.int x)] [] M v M' 0 0 := by
  refine Ev.step (pc' := 129) (ls' := [some (.ref 633), some (.int lw), some (.int kd), x3, some (.int x)]) (st' := [.int 59, .ref 633]) (M1 := M) 2 (fun n => rfl) ?_
  exact hz
theorem rd_132 {e : Nat} {M : Mem} {M' : Mem} {v : Option Value} {kd lw x y : Int32} {x3 : Option Value}  (hz : Ev none (e + 5) 169 (if y = 0 then 135 else 137) [some (.ref 633), some (.int lw), some (.int kd), x3, some (.int x)] [] M v M' 0 0) : Ev none (e + 5) 169 132 [some (.ref 633), some (.int lw), some (.int kd), x3, some (.int x)] [.int y] M v M' 0 0 := by
  refine Ev.step (pc' := (if y = 0 then 135 else 137)) (ls' := [some (.ref 633), some (.int lw), some (.int kd), x3, some (.int x)]) (st' := []) (M1 := M) 1 (fun n => rfl) ?_
  exact hz
theorem rd_135 {e : Nat} {M : Mem} {kd lw x : Int32} {x3 : Option Value}  : Ev none (e + 5) 169 135 [some (.ref 633), some (.int lw), some (.int kd), x3, some (.int x)] [] M (some (.int 0)) M 0 0 := by
  refine Ev.step (pc' := 136) (ls' := [some (.ref 633), some (.int lw), some (.int kd), x3, some (.int x)]) (st' := [.int 0]) (M1 := M) 1 (fun n => rfl) ?_
  exact Ev.ret (fun n => rfl)
theorem rd_137 {e : Nat} {M : Mem} {M' : Mem} {v : Option Value} {vs : List Value} {kd lw x y1 : Int32} {l639 : List Int32} {x3 : Option Value} (hM : gNth M 633 = some (.inr (11, vs))) (v9 : gNth vs 9 = some (.ref 639)) (r639 : gNth M 639 = some (.inl (1, .inl l639))) (g1 : gAt l639 7 = some y1) (hz : Ev none (e + 5) 169 0 [some (.ref 633), some (.int lw), some (.int kd), x3, some (.int x)] [] (gPut M 639 (.inl (1, .inl (gPut l639 (7 : Int32).toNatClampNeg (y1 + 1))))) v M' 0 0) : Ev none (e + 5) 169 137 [some (.ref 633), some (.int lw), some (.int kd), x3, some (.int x)] [] M v M' 0 0 := by
  refine Ev.step (pc' := 138) (ls' := [some (.ref 633), some (.int lw), some (.int kd), x3, some (.int x)]) (st' := [.ref 633]) (M1 := M) 1 (fun n => rfl) ?_
  refine Ev.step 1 (gs_3 rfl rfl (gf_g rfl hM v9)) ?_
  refine Ev.step (pc' := 144) (ls' := [some (.ref 633), some (.int lw), some (.int kd), x3, some (.int x)]) (st' := [.int 7, .ref 639, .int 7, .ref 639]) (M1 := M) 2 (fun n => rfl) ?_
  refine Ev.step 1 (gs_3 rfl rfl (ia_g r639 g1)) ?_
  refine Ev.step (pc' := 147) (ls' := [some (.ref 633), some (.int lw), some (.int kd), x3, some (.int x)]) (st' := [.int (y1 + 1), .int 7, .ref 639]) (M1 := M) 2 (fun n => rfl) ?_
  refine Ev.step 1 (gs_4 rfl rfl (is_g r639 g1)) ?_
  refine Ev.step (pc' := 0) (ls' := [some (.ref 633), some (.int lw), some (.int kd), x3, some (.int x)]) (st' := []) (M1 := (gPut M 639 (.inl (1, .inl (gPut l639 (7 : Int32).toNatClampNeg (y1 + 1)))))) 1 (fun n => rfl) ?_
  exact hz
theorem rd_151 {e : Nat} {M : Mem} {lw : Int32} {x2 x3 x4 : Option Value}  : Ev none (e + 5) 169 151 [some (.ref 633), some (.int lw), x2, x3, x4] [] M (some (.int 1)) M 0 0 := by
  refine Ev.step (pc' := 152) (ls' := [some (.ref 633), some (.int lw), x2, x3, x4]) (st' := [.int 1]) (M1 := M) 1 (fun n => rfl) ?_
  exact Ev.ret (fun n => rfl)
theorem cal_lo {M : Mem} {vs : List Value} {a0 : Int32} {rest : List Value} (hM : gNth M 633 = some (.inr (11, vs))) (hr : gRoom rest = true) : gCal (.invokevirtual 223) 11 (.int a0 :: .ref 633 :: rest) M = some (.inr (168, [some (.ref 633), some (.int a0)], rest)) := by
  show @cond (Option ((List Value × Mem) ⊕ (Nat × Lo × List Value))) (true && gRecv M (.ref 633) 11 && gRoom rest && true) (some (.inr (168, [some (.ref 633), some (.int a0)], rest))) none = _
  rw [recv_ok hM, hr]
  rfl
theorem cal_fi {M : Mem} {vs : List Value} {a0 a1 : Int32} {rest : List Value} (hM : gNth M 633 = some (.inr (11, vs))) (hr : gRoom rest = true) : gCal (.invokevirtual 227) 11 (.int a1 :: .int a0 :: .ref 633 :: rest) M = some (.inr (172, [some (.ref 633), some (.int a0), some (.int a1), none], rest)) := by
  show @cond (Option ((List Value × Mem) ⊕ (Nat × Lo × List Value))) (true && gRecv M (.ref 633) 11 && gRoom rest && true) (some (.inr (172, [some (.ref 633), some (.int a0), some (.int a1), none], rest))) none = _
  rw [recv_ok hM, hr]
  rfl
theorem cal_li {M : Mem} {vs : List Value} {a0 a1 : Int32} {rest : List Value} (hM : gNth M 633 = some (.inr (11, vs))) (hr : gRoom rest = true) : gCal (.invokevirtual 230) 11 (.int a1 :: .int a0 :: .ref 633 :: rest) M = some (.inr (170, [some (.ref 633), some (.int a0), some (.int a1), none], rest)) := by
  show @cond (Option ((List Value × Mem) ⊕ (Nat × Lo × List Value))) (true && gRecv M (.ref 633) 11 && gRoom rest && true) (some (.inr (170, [some (.ref 633), some (.int a0), some (.int a1), none], rest))) none = _
  rw [recv_ok hM, hr]
  rfl
theorem cal_sn {M : Mem} {vs : List Value} {a0 : Int32} {rest : List Value} (hM : gNth M 633 = some (.inr (11, vs))) (hr : gRoom rest = true) : gCal (.invokevirtual 234) 11 (.int a0 :: .ref 633 :: rest) M = some (.inr (166, [some (.ref 633), some (.int a0)], rest)) := by
  show @cond (Option ((List Value × Mem) ⊕ (Nat × Lo × List Value))) (true && gRecv M (.ref 633) 11 && gRoom rest && true) (some (.inr (166, [some (.ref 633), some (.int a0)], rest))) none = _
  rw [recv_ok hM, hr]
  rfl
set_option maxRecDepth 100000 in
theorem rw_68 : rwB 68 1 128 (-2147483648) 2147483647 = true := by decide +kernel
set_option maxRecDepth 100000 in
theorem rw_67 : rwB 67 1 8 0 16 = true := by decide +kernel
set_option maxRecDepth 100000 in
theorem mfR : (mfB 9 67 && mfB 10 68) = true := by decide +kernel
set_option maxRecDepth 100000 in
theorem sUR : gNth sU 67 = some (some 639) ∧ gNth sU 68 = some (some 640) := by refine ⟨?_, ?_⟩ <;> decide +kernel
set_option maxRecDepth 100000 in
theorem sT_640 : gNth sT 640 = some 68 := by decide +kernel
set_option maxRecDepth 100000 in
theorem mRr : (gNth mRs 168).map (fun q => q.2.2.2.1) = some 2 ∧ (gNth mRs 172).map (fun q => q.2.2.2.1) = some 4 ∧ (gNth mRs 166).map (fun q => q.2.2.2.1) = some 2 := by refine ⟨?_, ?_, ?_⟩ <;> decide +kernel
noncomputable def lmB : Bool := match gNth sG 67 with
  | some (.inr (1, 8, .inl sg)) => (List.range 8).all (fun j => match sgAt sg j with
    | some p => decide (p.1 ≤ 0) && decide (16 ≤ p.2)
    | _ => false)
  | _ => false
set_option maxRecDepth 100000 in
theorem lmB_ok : lmB = true := by decide +kernel
/-- lineMany is written -/
theorem lm_put {M : Mem} (hT : TM sT sG M) {l : List Int32} (hM : gNth M 639 = some (.inl (1, .inl l))) (i : Nat) {y : Int32} (h0 : 0 ≤ y.toInt) (h1 : y.toInt ≤ 16) : TM sT sG (gPut M 639 (.inl (1, .inl (gPut l i y)))) := by
  obtain ⟨l2, q1, q2, q3⟩ := hT.mrow sT_639 rw_67
  cases q1.symm.trans hM
  have hB := lmB_ok
  unfold lmB at hB
  split at hB
  rotate_left
  · cases hB
  rename_i sg e
  refine hT.put (fun g2 t w1 w2 => ?_)
  rw [sT_639] at w1
  cases w1
  rw [e] at w2
  cases w2
  refine ct_mk (by decide) (by rw [put_len]; exact q2) (fun j x hj => ?_)
  have hj2 := gNth_lt _ _ _ hj
  rw [put_len, q2] at hj2
  have hx : 0 ≤ x.toInt ∧ x.toInt ≤ 16 := by
    rw [nth_put] at hj
    split at hj
    · cases hj
      exact ⟨h0, h1⟩
    · exact q3 j x hj
  have h4 := List.all_eq_true.mp hB j (List.mem_range.mpr hj2)
  cases hp : sgAt sg j with
  | none => rw [hp] at h4; cases h4
  | some p =>
    rw [hp] at h4
    obtain ⟨h5, h6⟩ := and_t h4
    have h5 := of_decide_eq_true h5
    have h6 := of_decide_eq_true h6
    exact ⟨p, rfl, by omega, by omega⟩
/-- all that reading a text may write -/
def mdR : Md := [(11, 4), (11, 19), (11, 20), (11, 21), (11, 22), (11, 23), (11, 24), (11, 25), (11, 26), (11, 27), (11, 31), (11, 32), (1067, 0), (1068, 0), (1069, 0), (1070, 0), (1071, 0), (1072, 0), (1073, 0), (1074, 0), (1075, 0), (1076, 0)]
def RdQ (q0 : List Int32 × List Int32 × List Int32 × List Int32) (M0 : Mem) (v : Option Value) (M' : Mem) : Prop := ∃ r : Int32, v = some (.int r) ∧ TM sT sG M' ∧ Frm sT mdR M0 M' ∧ ((r = 0 ∧ ITX q0 M') ∨ (r = 1 ∧ ∃ n N, WW q0 n N M' ∧ N.toInt = (n : Int) ∧ n ≤ 16))
section READ
variable {q0 : List Int32 × List Int32 × List Int32 × List Int32} {M0 : Mem} {e : Nat}
theorem rd_bad {M : Mem} {n pc : Nat} {N : Int32} {lo : Lo} {st : List Value} (h : WW q0 n N M) (hF : Frm sT mdR M0 M) (k : Int32) (hz : ∀ M', Ev none (e + 4) 163 0 [some (.ref 633), some (.int k)] [] M (some (.int 0)) M' 0 0 → Ev none (e + 5) 169 pc lo st M (some (.int 0)) M' 0 0) : RF (RdQ q0 M0) [] (e + 5) 169 pc lo st M := by
  obtain ⟨M', h1, h2, h3⟩ := un_bad (e := e + 4) (k := k) h.obj.1
  exact ⟨some (.int 0), M', hz M' h1, 0, rfl, h2, hF.trans (h3.more (by decide)), Or.inl ⟨rfl, h.itx.frm h3 (by decide)⟩⟩
theorem rd_loop {lw : Int32} : ∀ (k n : Nat) (N : Int32) (M : Mem) (x2 x3 x4 : Option Value), WW q0 n N M → N.toInt = (n : Int) → n ≤ 16 → 17 ≤ n + k → Frm sT mdR M0 M → RF (RdQ q0 M0) [] (e + 5) 169 0 [some (.ref 633), some (.int lw), x2, x3, x4] [] M := by
  intro k
  induction k with
  | zero => intro n N M x2 x3 x4 h hN hn hk; omega
  | succ k ih =>
    intro n N M x2 x3 x4 h hN hn hk hF
    obtain ⟨hT, vs, hM⟩ := h.obj
    obtain ⟨vs9, tk, hM9, _, g22, _⟩ := hT.fint fB_22
    cases hM.symm.trans hM9
    refine RF.pre (fun v M' hz => rd_0 hM g22 hz) ?_
    by_cases ht : tk = 0
    · rw [if_pos ht]
      exact ⟨some (.int 1), M, rd_151, 1, rfl, hT, hF, Or.inr ⟨rfl, n, N, h, hN, hn⟩⟩
    rw [if_neg ht]
    obtain ⟨v, M2, q1, T2, F2, s, hs, q2⟩ := use_cn (d := e + 4) (ws := [.ref 633, .int lw]) kX11_lineOf_ok mRr.1 rfl rfl (Nat.zero_le _) (Two.mk rfl (Two.mk ⟨lw, rfl, i32_any lw⟩ trivial)) hT
    cases List.mem_singleton.mp hs
    cases pure_ok F2
    cases v with
    | none => exact q2.elim
    | some w =>
    obtain ⟨kd, rfl, _⟩ := q2
    refine RF.pre (fun v M' hz => rd_7 (Ev.call0 (fun n => gs_7 rfl rfl (cal_lo hM rfl)) q1 (rd_12 hz))) ?_
    by_cases hk0 : ¬ 0 ≤ kd
    · rw [if_neg hk0]
      exact rd_bad h hF 1 (fun M' hb => rd_17 (Ev.call0 (fun n => gs_7 rfl rfl (cal_bd hM rfl)) hb rd_22))
    have hk0 := Decidable.not_not.mp hk0
    rw [if_pos hk0]
    obtain ⟨vs9, hM9, hv⟩ := hT.mfld
    cases hM.symm.trans hM9
    have h9 := hv _ _ _ (and_t mfR).1 sUR.1
    have g58 : RF (RdQ q0 M0) [] (e + 5) 169 58 [some (.ref 633), some (.int lw), some (.int kd), some (.int 0), x4] [] M := by
      obtain ⟨s, o, S, P, O, ls, lp, lm, lf, lt, _, hc, h1, h2, h3, hr, h7, hl, hi⟩ := id h
      have g7 : gAt lm 7 = some N := by rw [at_nn (kn := 7) rfl]; exact h7
      refine RF.pre (fun v M' hz => rd_58 hM h9 hr.1 g7 hz) ?_
      by_cases h16 : N = 16
      · rw [if_pos h16]
        exact rd_bad h hF 3 (fun M' hb => rd_70 (Ev.call0 (fun n => gs_7 rfl rfl (cal_bd hM rfl)) hb rd_75))
      rw [if_neg h16]
      have n15 : n ≤ 15 := by
        rcases Nat.lt_or_ge n 16 with h9 | h9
        · omega
        · exact absurd (Int32.toInt_inj.mp (show N.toInt = (16 : Int32).toInt from by show N.toInt = 16; omega)) h16
      obtain ⟨x, ex⟩ : ∃ x, x = 112 + N := ⟨_, rfl⟩
      have hx : x.toInt = ((112 + n : Nat) : Int) := by
        have o : (112 : Int32).toInt = 112 := rfl
        rw [ex, i32_add (by rw [o]; omega) (by rw [o]; omega), o]
        omega
      obtain ⟨M1, x1, T1, F1⟩ := un_next (e := e + 3) hT
      have W1 := h.frm T1 F1 (by decide)
      obtain ⟨_, vs1, hM1⟩ := W1.obj
      refine RF.pre (fun v M' hz => rd_76 hM h9 hr.1 g7 (Ev.call0 (fun n => gs_7 rfl rfl (cal_nx hM rfl)) x1 hz)) ?_
      rw [← ex]
      obtain ⟨vs9, hM9, hv1⟩ := T1.mfld
      cases hM1.symm.trans hM9
      obtain ⟨la, a1, a2, _⟩ := T1.mrow sT_640 rw_68
      obtain ⟨ya, ya1, _⟩ := at_c (l := la) hx (by omega)
      have F2 : Frm sT [(1068, 0)] M1 (gPut M1 640 (.inl (1, .inl (gPut la (112 + n) kd)))) := Frm.row a1 sT_640 (by decide)
      have T2 := any_put T1 sT_640 a1 a2 (by decide +kernel) (112 + n) kd
      obtain ⟨M2, e2⟩ : ∃ M2, M2 = gPut M1 640 (.inl (1, .inl (gPut la (112 + n) kd))) := ⟨_, rfl⟩
      rw [← e2] at F2 T2
      have W2 := W1.frm T2 F2 (by decide)
      have hM2 : gNth M2 633 = some (.inr (11, vs1)) := by rw [e2, nth_put, if_neg (fun q => absurd q.1 (by decide))]; exact hM1
      obtain ⟨lb, b1, b2, _⟩ := T2.mrow sTL.1 (and_t rwL).1
      obtain ⟨yb, yb1, _⟩ := at_c (l := lb) hx (by omega)
      have F3 : Frm sT [(1069, 0)] M2 (gPut M2 641 (.inl (1, .inl (gPut lb (112 + n) 0)))) := Frm.row b1 sTL.1 (by decide)
      have T3 := any_put T2 sTL.1 b1 b2 (by decide +kernel) (112 + n) 0
      obtain ⟨M3, e3⟩ : ∃ M3, M3 = gPut M2 641 (.inl (1, .inl (gPut lb (112 + n) 0))) := ⟨_, rfl⟩
      rw [← e3] at F3 T3
      have W3 := W2.frm T3 F3 (by decide)
      have hM3 : gNth M3 633 = some (.inr (11, vs1)) := by rw [e3, nth_put, if_neg (fun q => absurd q.1 (by decide))]; exact hM2
      obtain ⟨lc, c1, c2, _⟩ := T3.mrow sTL.2 (and_t rwL).2
      obtain ⟨yc, yc1, _⟩ := at_c (l := lc) hx (by omega)
      have F4 : Frm sT [(1070, 0)] M3 (gPut M3 642 (.inl (1, .inl (gPut lc (112 + n) 0)))) := Frm.row c1 sTL.2 (by decide)
      have T4 := any_put T3 sTL.2 c1 c2 (by decide +kernel) (112 + n) 0
      obtain ⟨M4, e4⟩ : ∃ M4, M4 = gPut M3 642 (.inl (1, .inl (gPut lc (112 + n) 0))) := ⟨_, rfl⟩
      rw [← e4] at F4 T4
      have W4 := W3.frm T4 F4 (by decide)
      have hM4 : gNth M4 633 = some (.inr (11, vs1)) := by rw [e4, nth_put, if_neg (fun q => absurd q.1 (by decide))]; exact hM3
      have h10 := hv1 _ _ _ (and_t mfR).2 sUR.2
      have h11 := hv1 _ _ _ (and_t (and_t (and_t mfL).1).1).1 sUL.1
      have h12 := hv1 _ _ _ (and_t (and_t (and_t mfL).1).1).2 sUL.2.1
      have F04 : Frm sT mdR M0 M4 := (((hF.trans (F1.more (by decide))).trans (F2.more (by decide))).trans (F3.more (by decide))).trans (F4.more (by decide))
      obtain ⟨v, M5, q5, r, rfl, T5, F5, hr5⟩ := ev_line1 (e := e) (kd := kd) (x3 := none) hx n15 W4
      have F05 : Frm sT mdR M0 M5 := F04.trans (F5.more (by decide))
      refine RF.pre (fun v M' hz => rd_92 hM1 h10 a1 ya1 (by rw [cl_n hx, ← e2]; exact rd_100 hM2 h11 b1 yb1 (by rw [cl_n hx, ← e3]; exact rd_108 hM3 h12 c1 yc1 (by rw [cl_n hx, ← e4]; exact rd_116 (Ev.call0 (fun n => gs_7 rfl rfl (cal_li hM4 rfl)) q5 (rd_123 hz)))))) ?_
      rcases hr5 with ⟨rfl, hi5⟩ | ⟨rfl, W5⟩
      · rw [if_pos rfl]
        exact ⟨some (.int 0), M5, rd_135, 0, rfl, T5, F05, Or.inl ⟨rfl, hi5⟩⟩
      rw [if_neg (by decide)]
      obtain ⟨_, vs5, hM5⟩ := W5.obj
      obtain ⟨v, M6, q6, T6, F6, s6, hs6, q7⟩ := use_cn (d := e + 4) (ws := [.ref 633, .int 59]) kX11_sign_ok mRr.2.2 rfl rfl (Nat.le_add_left 2 (e + 2)) (Two.mk rfl (Two.mk ⟨59, rfl, i32_any 59⟩ trivial)) T5
      cases List.mem_singleton.mp hs6
      cases v with
      | none => exact q7.elim
      | some w =>
      obtain ⟨y, rfl, _⟩ := q7
      have W6 := W5.frm T6 F6 (by decide)
      have F06 : Frm sT mdR M0 M6 := F05.trans (F6.more (by decide))
      refine RF.pre (fun v M' hz => rd_126 (Ev.call0 (fun n => gs_7 rfl rfl (cal_sn hM5 rfl)) q6 (rd_132 hz))) ?_
      by_cases hy : y = 0
      · rw [if_pos hy]
        exact ⟨some (.int 0), M6, rd_135, 0, rfl, T6, F06, Or.inl ⟨rfl, W6.itx⟩⟩
      rw [if_neg hy]
      obtain ⟨s, o, S, P, O, ls, lp, lm, lf, lt, _, hc, h1, h2, h3, hr, h7, hl, hi⟩ := id W6
      obtain ⟨vs6, hM6, v19, v20, v21, r645, r648⟩ := id hc
      obtain ⟨vs9, hM9, hv6⟩ := T6.mfld
      cases hM6.symm.trans hM9
      have h9b := hv6 _ _ _ (and_t mfR).1 sUR.1
      have g7 : gAt lm 7 = some N := by rw [at_nn (kn := 7) rfl]; exact h7
      obtain ⟨N2, eN2⟩ : ∃ N2, N2 = N + 1 := ⟨_, rfl⟩
      have dN2 : N2.toInt = N.toInt + 1 := by rw [eN2]; exact i32_p1 (by omega)
      obtain ⟨r639, r643, r644⟩ := hr
      have T7 := lm_put T6 r639 7 (y := N2) (by omega) (by omega)
      obtain ⟨M7, e7⟩ : ∃ M7, M7 = gPut M6 639 (.inl (1, .inl (gPut lm 7 N2))) := ⟨_, rfl⟩
      rw [← e7] at T7
      have n7 : ∀ c, c ≠ 639 → gNth M7 c = gNth M6 c := fun c hc => by rw [e7, nth_put, if_neg (fun q => hc q.1)]
      have F7 : Frm sT mdR M6 M7 := by rw [e7]; exact Frm.row r639 sT_639 (by decide)
      have hlm := gNth_lt _ _ _ h7
      refine RF.pre (fun v M' hz => rd_137 hM6 h9b r639 g7 (by rw [cl_n (kn := 7) rfl, ← eN2, ← e7]; exact hz)) ?_
      refine ih (n + 1) N2 M7 _ _ _ ⟨s, o, S, P, O, ls, lp, gPut lm 7 N2, lf, lt, T7, ⟨vs6, by rw [n7 633 (by decide)]; exact hM6, v19, v20, v21, by rw [n7 645 (by decide)]; exact r645, by rw [n7 648 (by decide)]; exact r648⟩, h1, h2, h3, ⟨by rw [e7, nth_put, if_pos ⟨rfl, gNth_lt _ _ _ r639⟩], by rw [n7 643 (by decide)]; exact r643, by rw [n7 644 (by decide)]; exact r644⟩, by rw [nth_put, if_pos ⟨rfl, hlm⟩], hl, fun i hi2 => by rw [nth_put, if_neg (by omega)]; exact hi.1 i hi2, hi.2⟩ (by omega) (by omega) (by omega) (F06.trans F7)
    have g70 : ∀ x3 : Option Value, RF (RdQ q0 M0) [] (e + 5) 169 70 [some (.ref 633), some (.int lw), some (.int kd), x3, x4] [] M := fun x3 => rd_bad h hF 3 (fun M' hb => rd_70 (Ev.call0 (fun n => gs_7 rfl rfl (cal_bd hM rfl)) hb rd_75))
    have g52 : RF (RdQ q0 M0) [] (e + 5) 169 52 [some (.ref 633), some (.int lw), some (.int kd), x3, x4] [] M := RF.pre (fun v M' hz => rd_52 hz) g58
    have g38 : RF (RdQ q0 M0) [] (e + 5) 169 38 [some (.ref 633), some (.int lw), some (.int kd), x3, x4] [] M := by
      obtain ⟨v, M2, q1, T2, F2, s, hs, q2⟩ := use_cn (d := e + 4) (ws := [.ref 633, .int 7, .int kd]) kX11_find_ok mRr.2.1 rfl rfl (Nat.zero_le _) (Two.mk rfl (Two.mk ⟨7, rfl, by decide, by decide⟩ (Two.mk ⟨kd, rfl, i32_any kd⟩ trivial))) hT
      cases List.mem_singleton.mp hs
      cases pure_ok F2
      cases v with
      | none => exact q2.elim
      | some w =>
      obtain ⟨y, rfl, _⟩ := q2
      refine RF.pre (fun v M' hz => rd_38 (Ev.call0 (fun n => gs_7 rfl rfl (cal_fi hM rfl)) q1 (rd_45 hz))) ?_
      by_cases hy : y < 0
      · rw [if_pos hy]; exact g52
      · rw [if_neg hy]
        exact RF.pre (fun v M' hz => rd_48 hz) (g70 _)
    refine RF.pre (fun v M' hz => rd_23 (Ev.call0 (fun n => rfl) ev_isin (rd_29 hz))) ?_
    obtain ⟨y, ey⟩ : ∃ y : Int32, y = if kd < 2 then 0 else if 4 < kd then 0 else 1 := ⟨_, rfl⟩
    rw [← ey]
    by_cases hy : y = 0
    · rw [if_pos hy]
      refine RF.pre (fun v M' hz => rd_32 hz) ?_
      by_cases h7 : kd = 7
      · rw [if_pos h7]; exact g38
      · rw [if_neg h7]; exact g52
    · rw [if_neg hy]; exact g38
end READ
