/-! BY HAND: reading texts, the reference: cond -/
theorem io_0 {e : Nat} {M : Mem} {M' : Mem} {v : Option Value} {x1 : Option Value}  (hz : Ev none e 178 2 [some (.ref 633), some (.int 0)] [] M v M' 0 0) : Ev none e 178 0 [some (.ref 633), x1] [] M v M' 0 0 := by
  refine Ev.step (pc' := 2) (ls' := [some (.ref 633), some (.int 0)]) (st' := []) (M1 := M) 2 (fun n => rfl) ?_
  exact hz
theorem io_2 {e : Nat} {M : Mem} {M' : Mem} {v : Option Value} {vs : List Value} {f20 k : Int32} (hM : gNth M 633 = some (.inr (11, vs))) (v20 : gNth vs 20 = some (.int f20)) (hz : Ev none e 178 (if f20 ≤ k then 29 else 10) [some (.ref 633), some (.int k)] [] M v M' 0 0) : Ev none e 178 2 [some (.ref 633), some (.int k)] [] M v M' 0 0 := by
  refine Ev.step (pc' := 4) (ls' := [some (.ref 633), some (.int k)]) (st' := [.ref 633, .int k]) (M1 := M) 2 (fun n => rfl) ?_
  refine Ev.step 1 (gs_3 rfl rfl (gf_g rfl hM v20)) ?_
  refine Ev.step (pc' := (if f20 ≤ k then 29 else 10)) (ls' := [some (.ref 633), some (.int k)]) (st' := []) (M1 := M) 1 (fun n => rfl) ?_
  exact hz
theorem io_10 {e : Nat} {M : Mem} {M' : Mem} {v : Option Value} {vs : List Value} {k y1 : Int32} {l648 : List Int32} (hM : gNth M 633 = some (.inr (11, vs))) (v18 : gNth vs 18 = some (.ref 648)) (r648 : gNth M 648 = some (.inl (1, .inl l648))) (g1 : gAt l648 k = some y1) (hz : Ev none e 178 (if y1 = 23 then 21 else 23) [some (.ref 633), some (.int k)] [] M v M' 0 0) : Ev none e 178 10 [some (.ref 633), some (.int k)] [] M v M' 0 0 := by
  refine Ev.step (pc' := 11) (ls' := [some (.ref 633), some (.int k)]) (st' := [.ref 633]) (M1 := M) 1 (fun n => rfl) ?_
  refine Ev.step 1 (gs_3 rfl rfl (gf_g rfl hM v18)) ?_
  refine Ev.step (pc' := 15) (ls' := [some (.ref 633), some (.int k)]) (st' := [.int k, .ref 648]) (M1 := M) 1 (fun n => rfl) ?_
  refine Ev.step 1 (gs_3 rfl rfl (ia_g r648 g1)) ?_
  refine Ev.step (pc' := (if y1 = 23 then 21 else 23)) (ls' := [some (.ref 633), some (.int k)]) (st' := []) (M1 := M) 2 (fun n => rfl) ?_
  exact hz
theorem io_21 {e : Nat} {M : Mem} {k : Int32}  : Ev none e 178 21 [some (.ref 633), some (.int k)] [] M (some (.int 1)) M 0 0 := by
  refine Ev.step (pc' := 22) (ls' := [some (.ref 633), some (.int k)]) (st' := [.int 1]) (M1 := M) 1 (fun n => rfl) ?_
  exact Ev.ret (fun n => rfl)
theorem io_23 {e : Nat} {M : Mem} {M' : Mem} {v : Option Value} {k : Int32}  (hz : Ev none e 178 2 [some (.ref 633), some (.int (k + 1))] [] M v M' 0 0) : Ev none e 178 23 [some (.ref 633), some (.int k)] [] M v M' 0 0 := by
  refine Ev.step (pc' := 2) (ls' := [some (.ref 633), some (.int (k + 1))]) (st' := []) (M1 := M) 2 (fun n => rfl) ?_
  exact hz
theorem io_29 {e : Nat} {M : Mem} {k : Int32}  : Ev none e 178 29 [some (.ref 633), some (.int k)] [] M (some (.int 0)) M 0 0 := by
  refine Ev.step (pc' := 30) (ls' := [some (.ref 633), some (.int k)]) (st' := [.int 0]) (M1 := M) 1 (fun n => rfl) ?_
  exact Ev.ret (fun n => rfl)
theorem co_0 {e : Nat} {M : Mem} {M' : Mem} {v : Option Value} {vs : List Value} {x1 : Option Value} (hM : gNth M 633 = some (.inr (11, vs))) (hlen : vs.length = 63) (hz : Ev none (e + 3) 179 5 [some (.ref 633), x1] [] (gPut M 633 (.inr (11, gPut vs 20 (.int 0)))) v M' 0 0) : Ev none (e + 3) 179 0 [some (.ref 633), x1] [] M v M' 0 0 := by
  refine Ev.step (pc' := 2) (ls' := [some (.ref 633), x1]) (st' := [.int 0, .ref 633]) (M1 := M) 2 (fun n => rfl) ?_
  refine Ev.step 1 (gs_4 rfl rfl (pf_i rfl hM (by rw [hlen]; decide) rfl rfl)) ?_
  exact hz
theorem co_5 {e : Nat} {M : Mem} {M' : Mem} {v : Option Value} {x1 : Option Value}  (hz : Ev none (e + 3) 179 6 [some (.ref 633), x1] [.ref 633] M v M' 0 0) : Ev none (e + 3) 179 5 [some (.ref 633), x1] [] M v M' 0 0 := by
  refine Ev.step (pc' := 6) (ls' := [some (.ref 633), x1]) (st' := [.ref 633]) (M1 := M) 1 (fun n => rfl) ?_
  exact hz
theorem co_9 {e : Nat} {M : Mem} {M' : Mem} {v : Option Value} {y : Int32} {x1 : Option Value}  (hz : Ev none (e + 3) 179 (if y = 0 then 12 else 14) [some (.ref 633), x1] [] M v M' 0 0) : Ev none (e + 3) 179 9 [some (.ref 633), x1] [.int y] M v M' 0 0 := by
  refine Ev.step (pc' := (if y = 0 then 12 else 14)) (ls' := [some (.ref 633), x1]) (st' := []) (M1 := M) 1 (fun n => rfl) ?_
  exact hz
theorem co_12 {e : Nat} {M : Mem} {x1 : Option Value}  : Ev none (e + 3) 179 12 [some (.ref 633), x1] [] M (some (.int 0)) M 0 0 := by
  refine Ev.step (pc' := 13) (ls' := [some (.ref 633), x1]) (st' := [.int 0]) (M1 := M) 1 (fun n => rfl) ?_
  exact Ev.ret (fun n => rfl)
theorem co_14 {e : Nat} {M : Mem} {M' : Mem} {v : Option Value} {x1 : Option Value}  (hz : Ev none (e + 3) 179 17 [some (.ref 633), x1] [.int 41, .ref 633] M v M' 0 0) : Ev none (e + 3) 179 14 [some (.ref 633), x1] [] M v M' 0 0 := by
  refine Ev.step (pc' := 17) (ls' := [some (.ref 633), x1]) (st' := [.int 41, .ref 633]) (M1 := M) 2 (fun n => rfl) ?_
  exact hz
theorem co_20 {e : Nat} {M : Mem} {M' : Mem} {v : Option Value} {y : Int32} {x1 : Option Value}  (hz : Ev none (e + 3) 179 (if y = 0 then 57 else 23) [some (.ref 633), x1] [] M v M' 0 0) : Ev none (e + 3) 179 20 [some (.ref 633), x1] [.int y] M v M' 0 0 := by
  refine Ev.step (pc' := (if y = 0 then 57 else 23)) (ls' := [some (.ref 633), x1]) (st' := []) (M1 := M) 1 (fun n => rfl) ?_
  exact hz
theorem co_23 {e : Nat} {M : Mem} {M' : Mem} {v : Option Value} {x1 : Option Value}  (hz : Ev none (e + 3) 179 24 [some (.ref 633), x1] [.ref 633] M v M' 0 0) : Ev none (e + 3) 179 23 [some (.ref 633), x1] [] M v M' 0 0 := by
  refine Ev.step (pc' := 24) (ls' := [some (.ref 633), x1]) (st' := [.ref 633]) (M1 := M) 1 (fun n => rfl) ?_
  exact hz
theorem co_27 {e : Nat} {M : Mem} {M' : Mem} {v : Option Value} {y : Int32} {x1 : Option Value}  (hz : Ev none (e + 3) 179 (if y = 0 then 57 else 30) [some (.ref 633), x1] [] M v M' 0 0) : Ev none (e + 3) 179 27 [some (.ref 633), x1] [.int y] M v M' 0 0 := by
  refine Ev.step (pc' := (if y = 0 then 57 else 30)) (ls' := [some (.ref 633), x1]) (st' := []) (M1 := M) 1 (fun n => rfl) ?_
  exact hz
theorem co_30 {e : Nat} {M : Mem} {M' : Mem} {v : Option Value} {x1 : Option Value}  (hz : Ev none (e + 3) 179 32 [some (.ref 633), x1] [.int 1, .ref 633] M v M' 0 0) : Ev none (e + 3) 179 30 [some (.ref 633), x1] [] M v M' 0 0 := by
  refine Ev.step (pc' := 32) (ls' := [some (.ref 633), x1]) (st' := [.int 1, .ref 633]) (M1 := M) 2 (fun n => rfl) ?_
  exact hz
theorem co_35 {e : Nat} {M : Mem} {M' : Mem} {v : Option Value} {vs : List Value} {f20 : Int32} {x1 : Option Value} (hM : gNth M 633 = some (.inr (11, vs))) (v20 : gNth vs 20 = some (.int f20)) (hlen : vs.length = 63) (hz : Ev none (e + 3) 179 45 [some (.ref 633), x1] [] (gPut M 633 (.inr (11, gPut vs 20 (.int (f20 - 1))))) v M' 0 0) : Ev none (e + 3) 179 35 [some (.ref 633), x1] [] M v M' 0 0 := by
  refine Ev.step (pc' := 37) (ls' := [some (.ref 633), x1]) (st' := [.ref 633, .ref 633]) (M1 := M) 2 (fun n => rfl) ?_
  refine Ev.step 1 (gs_3 rfl rfl (gf_g rfl hM v20)) ?_
  refine Ev.step (pc' := 42) (ls' := [some (.ref 633), x1]) (st' := [.int (f20 - 1), .ref 633]) (M1 := M) 2 (fun n => rfl) ?_
  refine Ev.step 1 (gs_4 rfl rfl (pf_i rfl hM (by rw [hlen]; decide) rfl rfl)) ?_
  exact hz
theorem co_45 {e : Nat} {M : Mem} {M' : Mem} {v : Option Value} {x1 : Option Value}  (hz : Ev none (e + 3) 179 47 [some (.ref 633), x1] [.int 3, .ref 633] M v M' 0 0) : Ev none (e + 3) 179 45 [some (.ref 633), x1] [] M v M' 0 0 := by
  refine Ev.step (pc' := 47) (ls' := [some (.ref 633), x1]) (st' := [.int 3, .ref 633]) (M1 := M) 2 (fun n => rfl) ?_
  exact hz
theorem co_50 {e : Nat} {M : Mem} {M' : Mem} {v : Option Value} {x1 : Option Value}  (hz : Ev none (e + 3) 179 51 [some (.ref 633), x1] [.ref 633] M v M' 0 0) : Ev none (e + 3) 179 50 [some (.ref 633), x1] [] M v M' 0 0 := by
  refine Ev.step (pc' := 51) (ls' := [some (.ref 633), x1]) (st' := [.ref 633]) (M1 := M) 1 (fun n => rfl) ?_
  exact hz
theorem co_54 {e : Nat} {M : Mem} {M' : Mem} {v : Option Value} {x1 : Option Value}  (hz : Ev none (e + 3) 179 14 [some (.ref 633), x1] [] M v M' 0 0) : Ev none (e + 3) 179 54 [some (.ref 633), x1] [] M v M' 0 0 := by
  refine Ev.step (pc' := 14) (ls' := [some (.ref 633), x1]) (st' := []) (M1 := M) 1 (fun n => rfl) ?_
  exact hz
theorem co_57 {e : Nat} {M : Mem} {M' : Mem} {v : Option Value} {x1 : Option Value}  (hz : Ev none (e + 3) 179 61 [some (.ref 633), x1] [.long 6385252, .ref 633] M v M' 0 0) : Ev none (e + 3) 179 57 [some (.ref 633), x1] [] M v M' 0 0 := by
  refine Ev.step (pc' := 61) (ls' := [some (.ref 633), x1]) (st' := [.long 6385252, .ref 633]) (M1 := M) 2 (fun n => rfl) ?_
  exact hz
theorem co_64 {e : Nat} {M : Mem} {M' : Mem} {v : Option Value} {z : Int32} {x1 : Option Value}  (hz : Ev none (e + 3) 179 (if z = 0 then 69 else 99) [some (.ref 633), some (.int z)] [] M v M' 0 0) : Ev none (e + 3) 179 64 [some (.ref 633), x1] [.int z] M v M' 0 0 := by
  refine Ev.step (pc' := (if z = 0 then 69 else 99)) (ls' := [some (.ref 633), some (.int z)]) (st' := []) (M1 := M) 3 (fun n => rfl) ?_
  exact hz
theorem co_69 {e : Nat} {M : Mem} {M' : Mem} {v : Option Value} {z : Int32}  (hz : Ev none (e + 3) 179 73 [some (.ref 633), some (.int z)] [.long 28530, .ref 633] M v M' 0 0) : Ev none (e + 3) 179 69 [some (.ref 633), some (.int z)] [] M v M' 0 0 := by
  refine Ev.step (pc' := 73) (ls' := [some (.ref 633), some (.int z)]) (st' := [.long 28530, .ref 633]) (M1 := M) 2 (fun n => rfl) ?_
  exact hz
theorem co_76 {e : Nat} {M : Mem} {M' : Mem} {v : Option Value} {y z : Int32}  (hz : Ev none (e + 3) 179 (if y = 0 then 79 else 99) [some (.ref 633), some (.int z)] [] M v M' 0 0) : Ev none (e + 3) 179 76 [some (.ref 633), some (.int z)] [.int y] M v M' 0 0 := by
  refine Ev.step (pc' := (if y = 0 then 79 else 99)) (ls' := [some (.ref 633), some (.int z)]) (st' := []) (M1 := M) 1 (fun n => rfl) ?_
  exact hz
theorem co_79 {e : Nat} {M : Mem} {M' : Mem} {v : Option Value} {z : Int32}  (hz : Ev none (e + 3) 179 80 [some (.ref 633), some (.int z)] [.ref 633] M v M' 0 0) : Ev none (e + 3) 179 79 [some (.ref 633), some (.int z)] [] M v M' 0 0 := by
  refine Ev.step (pc' := 80) (ls' := [some (.ref 633), some (.int z)]) (st' := [.ref 633]) (M1 := M) 1 (fun n => rfl) ?_
  exact hz
theorem co_83 {e : Nat} {M : Mem} {M' : Mem} {v : Option Value} {y z : Int32}  (hz : Ev none (e + 3) 179 (if y = 0 then 92 else 86) [some (.ref 633), some (.int z)] [] M v M' 0 0) : Ev none (e + 3) 179 83 [some (.ref 633), some (.int z)] [.int y] M v M' 0 0 := by
  refine Ev.step (pc' := (if y = 0 then 92 else 86)) (ls' := [some (.ref 633), some (.int z)]) (st' := []) (M1 := M) 1 (fun n => rfl) ?_
  exact hz
theorem co_86 {e : Nat} {M : Mem} {M' : Mem} {v : Option Value} {z : Int32}  (hz : Ev none (e + 3) 179 88 [some (.ref 633), some (.int z)] [.int 1, .ref 633] M v M' 0 0) : Ev none (e + 3) 179 86 [some (.ref 633), some (.int z)] [] M v M' 0 0 := by
  refine Ev.step (pc' := 88) (ls' := [some (.ref 633), some (.int z)]) (st' := [.int 1, .ref 633]) (M1 := M) 2 (fun n => rfl) ?_
  exact hz
theorem co_91 {e : Nat} {M : Mem} {z : Int32}  : Ev none (e + 3) 179 91 [some (.ref 633), some (.int z)] [.int 0] M (some (.int 0)) M 0 0 := by
  exact Ev.ret (fun n => rfl)
theorem co_92 {e : Nat} {M : Mem} {M' : Mem} {v : Option Value} {z : Int32}  (hz : Ev none (e + 3) 179 94 [some (.ref 633), some (.int z)] [.int 1, .ref 633] M v M' 0 0) : Ev none (e + 3) 179 92 [some (.ref 633), some (.int z)] [] M v M' 0 0 := by
  refine Ev.step (pc' := 94) (ls' := [some (.ref 633), some (.int z)]) (st' := [.int 1, .ref 633]) (M1 := M) 2 (fun n => rfl) ?_
  exact hz
theorem co_97 {e : Nat} {M : Mem} {z : Int32}  : Ev none (e + 3) 179 97 [some (.ref 633), some (.int z)] [] M (some (.int 1)) M 0 0 := by
  refine Ev.step (pc' := 98) (ls' := [some (.ref 633), some (.int z)]) (st' := [.int 1]) (M1 := M) 1 (fun n => rfl) ?_
  exact Ev.ret (fun n => rfl)
theorem co_99 {e : Nat} {M : Mem} {M' : Mem} {v : Option Value} {z : Int32}  (hz : Ev none (e + 3) 179 (if z = 0 then 108 else 104) [some (.ref 633), some (.int z)] [.ref 633] M v M' 0 0) : Ev none (e + 3) 179 99 [some (.ref 633), some (.int z)] [] M v M' 0 0 := by
  refine Ev.step (pc' := (if z = 0 then 108 else 104)) (ls' := [some (.ref 633), some (.int z)]) (st' := [.ref 633]) (M1 := M) 3 (fun n => rfl) ?_
  exact hz
theorem co_104 {e : Nat} {M : Mem} {M' : Mem} {v : Option Value} {z : Int32}  (hz : Ev none (e + 3) 179 109 [some (.ref 633), some (.int z)] [.int 2, .ref 633] M v M' 0 0) : Ev none (e + 3) 179 104 [some (.ref 633), some (.int z)] [.ref 633] M v M' 0 0 := by
  refine Ev.step (pc' := 109) (ls' := [some (.ref 633), some (.int z)]) (st' := [.int 2, .ref 633]) (M1 := M) 2 (fun n => rfl) ?_
  exact hz
theorem co_108 {e : Nat} {M : Mem} {M' : Mem} {v : Option Value} {z : Int32}  (hz : Ev none (e + 3) 179 109 [some (.ref 633), some (.int z)] [.int 1, .ref 633] M v M' 0 0) : Ev none (e + 3) 179 108 [some (.ref 633), some (.int z)] [.ref 633] M v M' 0 0 := by
  refine Ev.step (pc' := 109) (ls' := [some (.ref 633), some (.int z)]) (st' := [.int 1, .ref 633]) (M1 := M) 1 (fun n => rfl) ?_
  exact hz
theorem co_112 {e : Nat} {M : Mem} {M' : Mem} {v : Option Value} {vs : List Value} {f20 z : Int32} (hM : gNth M 633 = some (.inr (11, vs))) (v18 : gNth vs 18 = some (.ref 648)) (v20 : gNth vs 20 = some (.int f20)) (hz : Ev none (e + 3) 179 (if z = 0 then 129 else 124) [some (.ref 633), some (.int z)] [.int f20, .ref 648] M v M' 0 0) : Ev none (e + 3) 179 112 [some (.ref 633), some (.int z)] [] M v M' 0 0 := by
  refine Ev.step (pc' := 113) (ls' := [some (.ref 633), some (.int z)]) (st' := [.ref 633]) (M1 := M) 1 (fun n => rfl) ?_
  refine Ev.step 1 (gs_3 rfl rfl (gf_g rfl hM v18)) ?_
  refine Ev.step (pc' := 117) (ls' := [some (.ref 633), some (.int z)]) (st' := [.ref 633, .ref 648]) (M1 := M) 1 (fun n => rfl) ?_
  refine Ev.step 1 (gs_3 rfl rfl (gf_g rfl hM v20)) ?_
  refine Ev.step (pc' := (if z = 0 then 129 else 124)) (ls' := [some (.ref 633), some (.int z)]) (st' := [.int f20, .ref 648]) (M1 := M) 2 (fun n => rfl) ?_
  exact hz
theorem co_124 {e : Nat} {M : Mem} {M' : Mem} {v : Option Value} {p y1 z : Int32} {l648 : List Int32} (r648 : gNth M 648 = some (.inl (1, .inl l648))) (g1 : gAt l648 p = some y1) (hz : Ev none (e + 3) 179 132 [some (.ref 633), some (.int z)] [] (gPut M 648 (.inl (1, .inl (gPut l648 p.toNatClampNeg 21)))) v M' 0 0) : Ev none (e + 3) 179 124 [some (.ref 633), some (.int z)] [.int p, .ref 648] M v M' 0 0 := by
  refine Ev.step (pc' := 131) (ls' := [some (.ref 633), some (.int z)]) (st' := [.int 21, .int p, .ref 648]) (M1 := M) 2 (fun n => rfl) ?_
  refine Ev.step 1 (gs_4 rfl rfl (is_g r648 g1)) ?_
  exact hz
theorem co_129 {e : Nat} {M : Mem} {M' : Mem} {v : Option Value} {p y1 z : Int32} {l648 : List Int32} (r648 : gNth M 648 = some (.inl (1, .inl l648))) (g1 : gAt l648 p = some y1) (hz : Ev none (e + 3) 179 132 [some (.ref 633), some (.int z)] [] (gPut M 648 (.inl (1, .inl (gPut l648 p.toNatClampNeg 22)))) v M' 0 0) : Ev none (e + 3) 179 129 [some (.ref 633), some (.int z)] [.int p, .ref 648] M v M' 0 0 := by
  refine Ev.step (pc' := 131) (ls' := [some (.ref 633), some (.int z)]) (st' := [.int 22, .int p, .ref 648]) (M1 := M) 1 (fun n => rfl) ?_
  refine Ev.step 1 (gs_4 rfl rfl (is_g r648 g1)) ?_
  exact hz
theorem co_132 {e : Nat} {M : Mem} {M' : Mem} {v : Option Value} {vs : List Value} {f20 z : Int32} (hM : gNth M 633 = some (.inr (11, vs))) (v20 : gNth vs 20 = some (.int f20)) (hlen : vs.length = 63) (hz : Ev none (e + 3) 179 142 [some (.ref 633), some (.int z)] [] (gPut M 633 (.inr (11, gPut vs 20 (.int (f20 + 1))))) v M' 0 0) : Ev none (e + 3) 179 132 [some (.ref 633), some (.int z)] [] M v M' 0 0 := by
  refine Ev.step (pc' := 134) (ls' := [some (.ref 633), some (.int z)]) (st' := [.ref 633, .ref 633]) (M1 := M) 2 (fun n => rfl) ?_
  refine Ev.step 1 (gs_3 rfl rfl (gf_g rfl hM v20)) ?_
  refine Ev.step (pc' := 139) (ls' := [some (.ref 633), some (.int z)]) (st' := [.int (f20 + 1), .ref 633]) (M1 := M) 2 (fun n => rfl) ?_
  refine Ev.step 1 (gs_4 rfl rfl (pf_i rfl hM (by rw [hlen]; decide) rfl rfl)) ?_
  exact hz
theorem co_142 {e : Nat} {M : Mem} {M' : Mem} {v : Option Value} {z : Int32}  (hz : Ev none (e + 3) 179 143 [some (.ref 633), some (.int z)] [.ref 633] M v M' 0 0) : Ev none (e + 3) 179 142 [some (.ref 633), some (.int z)] [] M v M' 0 0 := by
  refine Ev.step (pc' := 143) (ls' := [some (.ref 633), some (.int z)]) (st' := [.ref 633]) (M1 := M) 1 (fun n => rfl) ?_
  exact hz
theorem co_146 {e : Nat} {M : Mem} {M' : Mem} {v : Option Value} {z : Int32}  (hz : Ev none (e + 3) 179 5 [some (.ref 633), some (.int z)] [] M v M' 0 0) : Ev none (e + 3) 179 146 [some (.ref 633), some (.int z)] [] M v M' 0 0 := by
  refine Ev.step (pc' := 5) (ls' := [some (.ref 633), some (.int z)]) (st' := []) (M1 := M) 1 (fun n => rfl) ?_
  exact hz
theorem cal_on {M : Mem} {vs : List Value} {rest : List Value} (hM : gNth M 633 = some (.inr (11, vs))) (hr : gRoom rest = true) : gCal (.invokevirtual 297) 11 (.ref 633 :: rest) M = some (.inr (180, [some (.ref 633), none, none, none], rest)) := by
  show @cond (Option ((List Value × Mem) ⊕ (Nat × Lo × List Value))) (true && gRecv M (.ref 633) 11 && gRoom rest && true) (some (.inr (180, [some (.ref 633), none, none, none], rest))) none = _
  rw [recv_ok hM, hr]
  rfl
theorem cal_io {M : Mem} {vs : List Value} {rest : List Value} (hM : gNth M 633 = some (.inr (11, vs))) (hr : gRoom rest = true) : gCal (.invokevirtual 300) 11 (.ref 633 :: rest) M = some (.inr (178, [some (.ref 633), none], rest)) := by
  show @cond (Option ((List Value × Mem) ⊕ (Nat × Lo × List Value))) (true && gRecv M (.ref 633) 11 && gRoom rest && true) (some (.inr (178, [some (.ref 633), none], rest))) none = _
  rw [recv_ok hM, hr]
  rfl
theorem ev_isOpen {M : Mem} {e p : Nat} {S P O : Int32} {ls lp : List Int32} (hT : TM sT sG M) (hc : Cst M S P O ls lp) (hp : P.toInt = (p : Int)) : ∃ r : Int32, Ev none e 178 0 [some (.ref 633), none] [] M (some (.int r)) M 0 0 ∧ (r = 0 → ¬ hasO lp p) ∧ (r ≠ 0 → hasO lp p) := by
  obtain ⟨S2, P2, O2, ls2, lp2, c2, _, pl, _, _, _, p100, _⟩ := hT.cst
  obtain ⟨rfl, rfl, rfl, rfl, rfl⟩ := hc.det c2
  obtain ⟨vs, hM, v19, v20, v21, r645, r648⟩ := hc
  obtain ⟨vs9, hM9, hv⟩ := hT.mfld
  cases hM.symm.trans hM9
  have h18 := hv _ _ _ (and_t mfT).2 sUT.2.2.2
  have main : ∀ (j kn : Nat) (k : Int32), k.toInt = (kn : Int) → p = kn + j → (∀ i, i < kn → gNth lp i ≠ some 23) → ∃ r : Int32, Ev none e 178 2 [some (.ref 633), some (.int k)] [] M (some (.int r)) M 0 0 ∧ (r = 0 → ¬ hasO lp p) ∧ (r ≠ 0 → hasO lp p) := by
    intro j
    induction j with
    | zero =>
      intro kn k hk hj hno
      refine ⟨0, io_2 hM v20 ?_, fun _ ⟨i, i1, i2⟩ => hno i (by omega) i2, fun h => absurd rfl h⟩
      rw [if_pos (by rw [Int32.le_iff_toInt_le]; omega)]
      exact io_29
    | succ j ih =>
      intro kn k hk hj hno
      obtain ⟨y, y1, y2⟩ := at_c (l := lp) hk (by omega)
      have hlt : ¬ P ≤ k := by rw [Int32.le_iff_toInt_le]; omega
      by_cases hy : y = 23
      · refine ⟨1, io_2 hM v20 ?_, fun h => absurd h (by decide), fun _ => ⟨kn, by omega, by rw [y2, hy]⟩⟩
        rw [if_neg hlt]
        refine io_10 hM h18 r648 y1 ?_
        rw [if_pos hy]
        exact io_21
      · have e1 : (k + 1).toInt = k.toInt + 1 := i32_p1 (by omega)
        obtain ⟨r, q1, q2⟩ := ih (kn + 1) (k + 1) (by omega) (by omega) (fun i hi => by
          by_cases h : i = kn
          · subst h
            rw [y2]
            exact fun h => hy (Option.some.inj h)
          · exact hno i (by omega))
        refine ⟨r, io_2 hM v20 ?_, q2⟩
        rw [if_neg hlt]
        refine io_10 hM h18 r648 y1 ?_
        rw [if_neg hy]
        exact io_23 q1
  obtain ⟨r, q1, q2⟩ := main p 0 0 rfl (by omega) (fun i hi => by omega)
  exact ⟨r, io_0 q1, q2⟩
/-- the bracket on the pile's top goes -/
theorem JJ.drop {ls0 ls lp : List Int32} {m s p o : Nat} {M M' : Mem} {S P O : Int32} (h : JJ ls0 m 1 M s (p + 1) o ls lp) (hw : gNth lp p = some 23) (hT : TM sT sG M') (hc : Cst M' S P O ls lp) (e1 : S.toInt = (s : Int)) (e2 : P.toInt = (p : Int)) (e3 : O.toInt = (o : Int)) : JJ ls0 m 1 M' s p o ls lp := by
  obtain ⟨_, _, h4, h5, ⟨dd, r1, r2, r3⟩, h7, h8⟩ := h
  have hb : binN lp (p + 1) = binN lp p + (if gNth lp p = some 21 ∨ gNth lp p = some 22 then 1 else 0) := rfl
  rw [if_neg (by rw [hw]; decide)] at hb
  exact ⟨hT, ⟨S, P, O, hc, e1, e2, e3⟩, by omega, h5, ⟨dd, r1, by omega, r3⟩, fun i hi => h7 i (by omega), h8⟩
section COND
variable {ls0 : List Int32} {m e : Nat} {M0 : Mem}
/-- how cond ends -/
def CdQ (ls0 : List Int32) (m : Nat) (M : Mem) (v : Option Value) (M' : Mem) : Prop := ∃ r : Int32, v = some (.int r) ∧ TM sT sG M' ∧ Frm sT mdT M M' ∧ ((r = 0 ∧ bel ls0 M') ∨ (r = 1 ∧ ∃ s' o' ls' lp', JJ ls0 m 1 M' s' 0 o' ls' lp'))
theorem co_bad {M : Mem} {pc : Nat} {lo : Lo} {st : List Value} (hT : TM sT sG M) (hF : Frm sT mdT M0 M) (hb : bel ls0 M) (k : Int32) (h : ∀ M', Ev none (e + 2) 163 0 [some (.ref 633), some (.int k)] [] M (some (.int 0)) M' 0 0 → Ev none (e + 3) 179 pc lo st M (some (.int 0)) M' 0 0) : RF (CdQ ls0 m M0) [] (e + 3) 179 pc lo st M := by
  obtain ⟨M', h1, h2, h3⟩ := un_bad (e := e + 2) (k := k) hT
  exact ⟨some (.int 0), M', h M' h1, 0, rfl, h2, hF.trans (h3.more (by decide)), Or.inl ⟨rfl, hb.frm h3 (by decide)⟩⟩
/-- brackets are closed -/
theorem co_close {o0 : Nat} {x1 : Option Value} (hE : ∀ (s p o : Nat) (M : Mem) (ls lp : List Int32), JJ ls0 m 1 M s p o ls lp → Frm sT mdT M0 M → o0 ≤ o → RF (CdQ ls0 m M0) [] (e + 3) 179 57 [some (.ref 633), x1] [] M) : ∀ (k s p o : Nat) (M : Mem) (ls lp : List Int32), JJ ls0 m 1 M s p o ls lp → Frm sT mdT M0 M → o0 ≤ o → p ≤ k → RF (CdQ ls0 m M0) [] (e + 3) 179 14 [some (.ref 633), x1] [] M := by
  intro k
  induction k with
  | zero =>
    intro s p o M ls lp h hF ho hp
    have hp0 : p = 0 := by omega
    subst hp0
    obtain ⟨hT, ⟨S, P, O, hc, h1, h2, h3⟩, _⟩ := id h
    obtain ⟨vs, hM, _⟩ := id hc
    obtain ⟨y, y1⟩ := un_sign (e := e + 2) (k := 41) hT
    refine RF.pre (fun v M' hz => co_14 (Ev.call0 (fun n => gs_7 rfl rfl (cal_ss hM rfl)) y1 (co_20 hz))) ?_
    by_cases hy : y = 0
    · rw [if_pos hy]
      exact hE _ _ _ _ _ _ h hF ho
    rw [if_neg hy]
    obtain ⟨r, r1, r2, r3⟩ := ev_isOpen (e := e + 2) hT hc h2
    refine RF.pre (fun v M' hz => co_23 (Ev.call0 (fun n => gs_7 rfl rfl (cal_io hM rfl)) r1 (co_27 hz))) ?_
    by_cases hr : r = 0
    · rw [if_pos hr]
      exact hE _ _ _ _ _ _ h hF ho
    · obtain ⟨i, i1, _⟩ := r3 hr
      omega
  | succ k ih =>
    intro s p o M ls lp h hF ho hp
    obtain ⟨hT, ⟨S, P, O, hc, h1, h2, h3⟩, _⟩ := id h
    obtain ⟨vs, hM, _⟩ := id hc
    obtain ⟨y, y1⟩ := un_sign (e := e + 2) (k := 41) hT
    refine RF.pre (fun v M' hz => co_14 (Ev.call0 (fun n => gs_7 rfl rfl (cal_ss hM rfl)) y1 (co_20 hz))) ?_
    by_cases hy : y = 0
    · rw [if_pos hy]
      exact hE _ _ _ _ _ _ h hF ho
    rw [if_neg hy]
    obtain ⟨r, r1, r2, r3⟩ := ev_isOpen (e := e + 2) hT hc h2
    refine RF.pre (fun v M' hz => co_23 (Ev.call0 (fun n => gs_7 rfl rfl (cal_io hM rfl)) r1 (co_27 hz))) ?_
    by_cases hr : r = 0
    · rw [if_pos hr]
      exact hE _ _ _ _ _ _ h hF ho
    rw [if_neg hr]
    obtain ⟨M1, s1, p1, ls1, q1, q2, q3, q4, q5, q6⟩ := ev_writeDown (e := e + 1) (q := 1) p s M ls h
    obtain ⟨i, i1, i2⟩ := q5 (r3 hr)
    obtain ⟨p2, rfl⟩ : ∃ p2, p1 = p2 + 1 := ⟨p1 - 1, by omega⟩
    have htop := q6 (by decide) p2 rfl
    obtain ⟨T1, ⟨S1, P1, O1, c1, g1, g2, g3⟩, _⟩ := id q2
    obtain ⟨vs1, hM1, w19, w20, w21, _⟩ := id c1
    obtain ⟨n1, n2, n3, _, _⟩ := q2.num
    have eP : (P1 - 1).toInt = ((p2 : Nat) : Int) := by rw [i32_m1 (by omega)]; omega
    obtain ⟨T2, c2⟩ := c1.P T1 hM1 (y := P1 - 1) (by omega) (by omega)
    obtain ⟨_, hlen⟩ := fset T1 (and_t (and_t fBT).1).2 hM1 (y := P1 - 1) (by omega) (by omega)
    obtain ⟨M2, e2⟩ : ∃ M2, M2 = gPut M1 633 (.inr (11, gPut vs1 20 (.int (P1 - 1)))) := ⟨_, rfl⟩
    rw [← e2] at T2 c2
    have F2 : Frm sT mdT M1 M2 := by rw [e2]; exact Frm.fld hM1 (by decide)
    have J2 := q2.drop htop T2 c2 g1 eP g3
    obtain ⟨vs2, hM2, _⟩ := id c2
    obtain ⟨M3, s3, p3, ls3, u1, u2, u3, u4, u5, u6⟩ := ev_writeDown (e := e + 1) (q := 3) p2 s1 M2 ls1 J2
    obtain ⟨T3, ⟨S3, P3, O3, ⟨vs3, hM3, _⟩, _⟩, _⟩ := id u2
    obtain ⟨M4, x4, T4, F4⟩ := un_next (e := e + 1) T3
    have J4 := u2.frm T4 F4 (by decide)
    refine RF.pre (fun v M' hz => co_30 (Ev.call0 (fun n => gs_7 rfl rfl (cal_wd hM rfl)) q1 (co_35 hM1 w20 hlen (by rw [← e2]; exact co_45 (Ev.call0 (fun n => gs_7 rfl rfl (cal_wd hM2 rfl)) u1 (co_50 (Ev.call0 (fun n => gs_7 rfl rfl (cal_nx hM3 rfl)) x4 (co_54 hz)))))))) ?_
    exact ih s3 p3 o M4 ls3 lp J4 ((((hF.trans (q3.more (by decide))).trans F2).trans (u3.more (by decide))).trans (F4.more (by decide))) ho (by omega)
theorem co_loop : ∀ (k s p o : Nat) (M : Mem) (ls lp : List Int32) (x1 : Option Value), JJ ls0 m 0 M s p o ls lp → Frm sT mdT M0 M → 41 ≤ o + k → RF (CdQ ls0 m M0) [] (e + 3) 179 5 [some (.ref 633), x1] [] M := by
  intro k
  induction k with
  | zero =>
    intro s p o M ls lp x1 h hF hk
    have := h.num.1
    omega
  | succ k ih =>
    intro s p o M ls lp x1 h hF hk
    obtain ⟨hT, ⟨S, P, O, hc, h1, h2, h3⟩, _⟩ := id h
    obtain ⟨vs, hM, _⟩ := id hc
    obtain ⟨v, M1, q1, r, rfl, T1, F1, hr⟩ := ev_one1 (e := e) (M0 := M) (o0 := o) 40 s p o M ls lp none none none h (Frm.refl M) (by omega) (Nat.le_refl o)
    refine RF.pre (fun v M' hz => co_5 (Ev.call0 (fun n => gs_7 rfl rfl (cal_on hM rfl)) q1 (co_9 hz))) ?_
    rcases hr with ⟨rfl, hb⟩ | ⟨rfl, s1, p1, o1, ls1, lp1, J1, ho⟩
    · rw [if_pos rfl]
      exact ⟨some (.int 0), M1, co_12, 0, rfl, T1, hF.trans F1, Or.inl ⟨rfl, hb⟩⟩
    rw [if_neg (by decide)]
    refine co_close (o0 := o + 1) (fun s p o2 M ls lp h hF ho2 => ?_) 80 s1 p1 o1 M1 ls1 lp1 J1 (hF.trans F1) ho J1.num.2.2.1
    obtain ⟨hT, ⟨S, P, O, hc, h1, h2, h3⟩, hcnt, _⟩ := id h
    obtain ⟨n1, n2, n3, ll, pl⟩ := h.num
    obtain ⟨vs, hM, v19, v20, v21, r645, r648⟩ := id hc
    obtain ⟨z, z1⟩ := un_word (e := e + 2) (k := 6385252) hT
    refine RF.pre (fun v M' hz => co_57 (Ev.call0 (fun n => gs_7 rfl rfl (cal_ww hM rfl)) z1 (co_64 hz))) ?_
    have g99 : RF (CdQ ls0 m M0) [] (e + 3) 179 99 [some (.ref 633), some (.int z)] [] M := by
      have wd : ∀ q : Int32, (∀ v M1 M', Ev none (e + 2) 175 0 [some (.ref 633), some (.int q)] [] M none M1 0 0 → Ev none (e + 3) 179 112 [some (.ref 633), some (.int z)] [] M1 v M' 0 0 → Ev none (e + 3) 179 99 [some (.ref 633), some (.int z)] [] M v M' 0 0) → RF (CdQ ls0 m M0) [] (e + 3) 179 99 [some (.ref 633), some (.int z)] [] M := by
        intro q hq
        obtain ⟨M1, s1, p1, ls1, q1, J1, F1, hp1, _, _⟩ := ev_writeDown (e := e + 1) (q := q) p s M ls h
        refine RF.pre (fun v M' hz => hq v M1 M' q1 hz) ?_
        obtain ⟨T1, ⟨S1, P1, O1, c1, g1, g2, g3⟩, hcnt1, _⟩ := id J1
        obtain ⟨vs1, hM1, w19, w20, w21, b645, b648⟩ := id c1
        obtain ⟨m1, m2, m3, ml, mp⟩ := J1.num
        obtain ⟨vs9, hM9, hv⟩ := T1.mfld
        cases hM1.symm.trans hM9
        have h18 := hv _ _ _ (and_t mfT).2 sUT.2.2.2
        obtain ⟨yp, yp1, yp2⟩ := at_c (l := lp) (j := P1) (kn := p1) g2 (by omega)
        have eP : (P1 + 1).toInt = P1.toInt + 1 := i32_p1 (by omega)
        have fin : ∀ w : Int32, w = 21 ∨ w = 22 → RF (CdQ ls0 m M0) [] (e + 3) 179 132 [some (.ref 633), some (.int z)] [] (gPut M1 648 (.inl (1, .inl (gPut lp p1 w)))) := by
          intro w hw
          have T3 := any_put T1 sT_648 b648 mp (by decide +kernel) p1 w
          obtain ⟨M3, e3⟩ : ∃ M3, M3 = gPut M1 648 (.inl (1, .inl (gPut lp p1 w))) := ⟨_, rfl⟩
          rw [← e3] at T3 ⊢
          have F3 : Frm sT mdT M1 M3 := by rw [e3]; exact Frm.row b648 sT_648 (by decide)
          have n3 : ∀ c, c ≠ 648 → gNth M3 c = gNth M1 c := fun c hc => by rw [e3, nth_put, if_neg (fun q => hc q.1)]
          have hM3 : gNth M3 633 = some (.inr (11, vs1)) := by rw [n3 633 (by decide)]; exact hM1
          have c3 : Cst M3 S1 P1 O1 ls1 (gPut lp p1 w) := ⟨vs1, hM3, w19, w20, w21, by rw [n3 645 (by decide)]; exact b645, by rw [e3, nth_put, if_pos ⟨rfl, gNth_lt _ _ _ b648⟩]⟩
          obtain ⟨T4, c4⟩ := c3.P T3 hM3 (y := P1 + 1) (by omega) (by omega)
          obtain ⟨_, hlen3⟩ := fset T3 (and_t (and_t fBT).1).2 hM3 (y := P1 + 1) (by omega) (by omega)
          obtain ⟨M4, e4⟩ : ∃ M4, M4 = gPut M3 633 (.inr (11, gPut vs1 20 (.int (P1 + 1)))) := ⟨_, rfl⟩
          rw [← e4] at T4 c4
          have F4 : Frm sT mdT M3 M4 := by rw [e4]; exact Frm.fld hM3 (by decide)
          have J4 := J1.push (c := 0) (w := w) (Or.inr (Or.inr ⟨hw, rfl⟩)) (by omega) T4 c4 g1 (by omega) g3
          obtain ⟨vs4, hM4, _⟩ := id c4
          obtain ⟨M5, x5, T5, F5⟩ := un_next (e := e + 1) T4
          have J5 := J4.frm T5 F5 (by decide)
          refine RF.pre (fun v M' hz => co_132 hM3 w20 hlen3 (by rw [← e4]; exact co_142 (Ev.call0 (fun n => gs_7 rfl rfl (cal_nx hM4 rfl)) x5 (co_146 hz)))) ?_
          exact ih s1 (p1 + 1) o2 M5 ls1 _ _ J5 ((((hF.trans (F1.more (by decide))).trans F3).trans F4).trans (F5.more (by decide))) (by omega)
        refine RF.pre (fun v M' hz => co_112 hM1 h18 w20 hz) ?_
        by_cases hz : z = 0
        · rw [if_pos hz]
          refine RF.pre (fun v M' hz => co_129 b648 yp1 hz) ?_
          rw [cl_n g2]
          exact fin 22 (Or.inr rfl)
        · rw [if_neg hz]
          refine RF.pre (fun v M' hz => co_124 b648 yp1 hz) ?_
          rw [cl_n g2]
          exact fin 21 (Or.inl rfl)
      by_cases hz : z = 0
      · exact wd 1 (fun v M1 M' h1 h2 => co_99 (by rw [if_pos hz]; exact co_108 (Ev.call0 (fun n => gs_7 rfl rfl (cal_wd hM rfl)) h1 h2)))
      · exact wd 2 (fun v M1 M' h1 h2 => co_99 (by rw [if_neg hz]; exact co_104 (Ev.call0 (fun n => gs_7 rfl rfl (cal_wd hM rfl)) h1 h2)))
    by_cases hz : z = 0
    · rw [if_pos hz]
      obtain ⟨y, y1⟩ := un_word (e := e + 2) (k := 28530) hT
      refine RF.pre (fun v M' hz => co_69 (Ev.call0 (fun n => gs_7 rfl rfl (cal_ww hM rfl)) y1 (co_76 hz))) ?_
      by_cases hy : y = 0
      · rw [if_pos hy]
        obtain ⟨r, r1, r2, r3⟩ := ev_isOpen (e := e + 2) hT hc h2
        refine RF.pre (fun v M' hz => co_79 (Ev.call0 (fun n => gs_7 rfl rfl (cal_io hM rfl)) r1 (co_83 hz))) ?_
        by_cases hr : r = 0
        · rw [if_pos hr]
          obtain ⟨M1, s1, p1, ls1, q1, J1, F1, hp1, _, q6⟩ := ev_writeDown (e := e + 1) (q := 1) p s M ls h
          have hp0 : p1 = 0 := by
            rcases Nat.eq_zero_or_pos p1 with h0 | h0
            · exact h0
            · exact absurd ⟨p1 - 1, by omega, q6 (by decide) (p1 - 1) (by omega)⟩ (r2 hr)
          subst hp0
          exact ⟨some (.int 1), M1, co_92 (Ev.call0 (fun n => gs_7 rfl rfl (cal_wd hM rfl)) q1 co_97), 1, rfl, J1.1, hF.trans (F1.more (by decide)), Or.inr ⟨rfl, s1, o2, ls1, lp, J1⟩⟩
        · rw [if_neg hr]
          exact co_bad hT hF h.bel 1 (fun M' hb => co_86 (Ev.call0 (fun n => gs_7 rfl rfl (cal_bd hM rfl)) hb co_91))
      · rw [if_neg hy]; exact g99
    · rw [if_neg hz]; exact g99
end COND
/-- cond() -/
theorem ev_cond {M : Mem} {e s o : Nat} {S P O : Int32} {ls lp : List Int32} {x1 : Option Value} (hT : TM sT sG M) (hc : Cst M S P O ls lp) (h1 : S.toInt = (s : Int)) (h3 : O.toInt = (o : Int)) (hs : s ≤ 2 * o) : ∃ r M', Ev none (e + 3) 179 0 [some (.ref 633), x1] [] M (some (.int r)) M' 0 0 ∧ TM sT sG M' ∧ Frm sT mdT M M' ∧ ((r = 0 ∧ bel ls M') ∨ (r = 1 ∧ ∃ s' o' ls' lp', JJ ls s 1 M' s' 0 o' ls' lp')) := by
  obtain ⟨S2, P2, O2, ls2, lp2, c2, ll, pl, _, _, _, _, _, o40⟩ := hT.cst
  obtain ⟨rfl, rfl, rfl, rfl, rfl⟩ := hc.det c2
  obtain ⟨vs, hM, v19, v20, v21, r645, r648⟩ := id hc
  obtain ⟨T1, c1⟩ := hc.P hT hM (y := 0) (by decide) (by decide)
  obtain ⟨_, hlen⟩ := fset hT (and_t (and_t fBT).1).2 hM (y := 0) (by decide) (by decide)
  obtain ⟨M1, e1⟩ : ∃ M1, M1 = gPut M 633 (.inr (11, gPut vs 20 (.int 0))) := ⟨_, rfl⟩
  rw [← e1] at T1 c1
  have F1 : Frm sT mdT M M1 := by rw [e1]; exact Frm.fld hM (by decide)
  have J1 : JJ ls s 0 M1 s 0 o ls lp := ⟨T1, ⟨S, 0, O, c1, h1, rfl, h3⟩, by omega, Nat.le_refl s, ⟨0, by rw [Nat.sub_self]; rfl, rfl, Nat.zero_le o⟩, fun i hi => by omega, fun i _ => rfl⟩
  obtain ⟨v, M', q1, r, rfl, q2, q3, q4⟩ := co_loop (e := e) (M0 := M) 41 s 0 o M1 ls lp x1 J1 F1 (by omega)
  exact ⟨r, M', co_0 hM hlen (by rw [← e1]; exact q1), q2, q3, q4⟩
