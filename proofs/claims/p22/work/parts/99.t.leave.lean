/-! BY HAND, the class: leaveIfDone, Walker.begin (their pieces) -/
theorem ld_0 {e : Nat} {M : Mem} {M' : Mem} {v : Option Value} {vo : List Value} {gl y2 : Int32} {o w : Nat} {x3 : Option Value} (ho : gNth M o = some (.inr (8, vo))) (f1 : gNth vo 0 = some (.int y2)) (hz : Ev none e 60 (if y2 = gl then 8 else 12) [some (.ref w), some (.ref o), some (.int gl), x3] [] M v M' 0 0) : Ev none e 60 0 [some (.ref w), some (.ref o), some (.int gl), x3] [] M v M' 0 0 := by
  refine Ev.step (pc' := 1) (ls' := [some (.ref w), some (.ref o), some (.int gl), x3]) (st' := [.ref o]) (M1 := M) 1 (fun n => rfl) ?_
  refine Ev.step 1 (gs_3 rfl rfl (gf_c rfl ho f1)) ?_
  refine Ev.step (pc' := (if y2 = gl then 8 else 12)) (ls' := [some (.ref w), some (.ref o), some (.int gl), x3]) (st' := []) (M1 := M) 2 (fun n => rfl) ?_
  exact hz
theorem ld_8 {e : Nat} {M : Mem} {M' : Mem} {v : Option Value} {gl : Int32} {o w : Nat} {x3 : Option Value}  (hz : Ev none e 60 (if 1 = 0 then 18 else 29) [some (.ref w), some (.ref o), some (.int gl), some (.int 1)] [] M v M' 0 0) : Ev none e 60 8 [some (.ref w), some (.ref o), some (.int gl), x3] [] M v M' 0 0 := by
  refine Ev.step (pc' := (if 1 = 0 then 18 else 29)) (ls' := [some (.ref w), some (.ref o), some (.int gl), some (.int 1)]) (st' := []) (M1 := M) 5 (fun n => rfl) ?_
  exact hz
theorem ld_12 {e : Nat} {M : Mem} {M' : Mem} {v : Option Value} {gl : Int32} {o w : Nat} {x3 : Option Value}  (hz : Ev none e 60 (if 0 = 0 then 18 else 29) [some (.ref w), some (.ref o), some (.int gl), some (.int 0)] [] M v M' 0 0) : Ev none e 60 12 [some (.ref w), some (.ref o), some (.int gl), x3] [] M v M' 0 0 := by
  refine Ev.step (pc' := (if 0 = 0 then 18 else 29)) (ls' := [some (.ref w), some (.ref o), some (.int gl), some (.int 0)]) (st' := []) (M1 := M) 4 (fun n => rfl) ?_
  exact hz
theorem ld_18 {e : Nat} {M : Mem} {M' : Mem} {v : Option Value} {vo : List Value} {ar gl y2 : Int32} {o w : Nat} (ho : gNth M o = some (.inr (8, vo))) (f1 : gNth vo 2 = some (.int y2)) (hz : Ev none e 60 (if 200 ≤ y2 then 29 else 28) [some (.ref w), some (.ref o), some (.int gl), some (.int ar)] [] M v M' 0 0) : Ev none e 60 18 [some (.ref w), some (.ref o), some (.int gl), some (.int ar)] [] M v M' 0 0 := by
  refine Ev.step (pc' := 19) (ls' := [some (.ref w), some (.ref o), some (.int gl), some (.int ar)]) (st' := [.ref o]) (M1 := M) 1 (fun n => rfl) ?_
  refine Ev.step 1 (gs_3 rfl rfl (gf_c rfl ho f1)) ?_
  refine Ev.step (pc' := (if 200 ≤ y2 then 29 else 28)) (ls' := [some (.ref w), some (.ref o), some (.int gl), some (.int ar)]) (st' := []) (M1 := M) 2 (fun n => rfl) ?_
  exact hz
theorem ld_28 {e : Nat} {M : Mem} {ar gl : Int32} {o w : Nat}  : Ev none e 60 28 [some (.ref w), some (.ref o), some (.int gl), some (.int ar)] [] M none M 0 0 := by
  exact Ev.ret (fun n => rfl)
theorem ld_29 {e : Nat} {M : Mem} {M' : Mem} {v : Option Value} {va2 vw : List Value} {ar gl y4 : Int32} {a2 o w : Nat} (hw : gNth M w = some (.inr (7, vw))) (f1 : gNth vw 7 = some (.ref a2)) (ha2 : gNth M a2 = some (.inr (1, va2))) (f3 : gNth va2 17 = some (.int y4)) (hz : Ev none e 60 (if ar = 0 then 45 else 41) [some (.ref w), some (.ref o), some (.int gl), some (.int ar)] [.int y4, .ref a2] M v M' 0 0) : Ev none e 60 29 [some (.ref w), some (.ref o), some (.int gl), some (.int ar)] [] M v M' 0 0 := by
  refine Ev.step (pc' := 30) (ls' := [some (.ref w), some (.ref o), some (.int gl), some (.int ar)]) (st' := [.ref w]) (M1 := M) 1 (fun n => rfl) ?_
  refine Ev.step 1 (gs_3 rfl rfl (gf_c rfl hw f1)) ?_
  refine Ev.step (pc' := 34) (ls' := [some (.ref w), some (.ref o), some (.int gl), some (.int ar)]) (st' := [.ref a2, .ref a2]) (M1 := M) 1 (fun n => rfl) ?_
  refine Ev.step 1 (gs_3 rfl rfl (gf_c rfl ha2 f3)) ?_
  refine Ev.step (pc' := (if ar = 0 then 45 else 41)) (ls' := [some (.ref w), some (.ref o), some (.int gl), some (.int ar)]) (st' := [.int y4, .ref a2]) (M1 := M) 2 (fun n => rfl) ?_
  exact hz
theorem ld_41 {e : Nat} {M : Mem} {M' : Mem} {v : Option Value} {vld : List Value} {ar gl u : Int32} {ld o w : Nat} (hld : gNth M ld = some (.inr (1, vld))) (hlld : 17 < vld.length) (hz : Ev none e 60 50 [some (.ref w), some (.ref o), some (.int gl), some (.int ar)] [] (gPut M ld (.inr (1, gPut vld 17 (.int (u + 1))))) v M' 0 0) : Ev none e 60 41 [some (.ref w), some (.ref o), some (.int gl), some (.int ar)] [.int u, .ref ld] M v M' 0 0 := by
  refine Ev.step (pc' := 47) (ls' := [some (.ref w), some (.ref o), some (.int gl), some (.int ar)]) (st' := [.int (u + 1), .ref ld]) (M1 := M) 3 (fun n => rfl) ?_
  refine Ev.step 1 (gs_4 rfl rfl (pf_c rfl hld hlld rfl rfl)) ?_
  exact hz
theorem ld_45 {e : Nat} {M : Mem} {M' : Mem} {v : Option Value} {vld : List Value} {ar gl u : Int32} {ld o w : Nat} (hld : gNth M ld = some (.inr (1, vld))) (hlld : 17 < vld.length) (hz : Ev none e 60 50 [some (.ref w), some (.ref o), some (.int gl), some (.int ar)] [] (gPut M ld (.inr (1, gPut vld 17 (.int (u + 0))))) v M' 0 0) : Ev none e 60 45 [some (.ref w), some (.ref o), some (.int gl), some (.int ar)] [.int u, .ref ld] M v M' 0 0 := by
  refine Ev.step (pc' := 47) (ls' := [some (.ref w), some (.ref o), some (.int gl), some (.int ar)]) (st' := [.int (u + 0), .ref ld]) (M1 := M) 2 (fun n => rfl) ?_
  refine Ev.step 1 (gs_4 rfl rfl (pf_c rfl hld hlld rfl rfl)) ?_
  exact hz
theorem ld_50 {e : Nat} {M : Mem} {M' : Mem} {v : Option Value} {va2 vw : List Value} {ar gl y4 : Int32} {a2 o w : Nat} (hw : gNth M w = some (.inr (7, vw))) (f1 : gNth vw 7 = some (.ref a2)) (ha2 : gNth M a2 = some (.inr (1, va2))) (f3 : gNth va2 18 = some (.int y4)) (hz : Ev none e 60 (if ar = 0 then 66 else 62) [some (.ref w), some (.ref o), some (.int gl), some (.int ar)] [.int y4, .ref a2] M v M' 0 0) : Ev none e 60 50 [some (.ref w), some (.ref o), some (.int gl), some (.int ar)] [] M v M' 0 0 := by
  refine Ev.step (pc' := 51) (ls' := [some (.ref w), some (.ref o), some (.int gl), some (.int ar)]) (st' := [.ref w]) (M1 := M) 1 (fun n => rfl) ?_
  refine Ev.step 1 (gs_3 rfl rfl (gf_c rfl hw f1)) ?_
  refine Ev.step (pc' := 55) (ls' := [some (.ref w), some (.ref o), some (.int gl), some (.int ar)]) (st' := [.ref a2, .ref a2]) (M1 := M) 1 (fun n => rfl) ?_
  refine Ev.step 1 (gs_3 rfl rfl (gf_c rfl ha2 f3)) ?_
  refine Ev.step (pc' := (if ar = 0 then 66 else 62)) (ls' := [some (.ref w), some (.ref o), some (.int gl), some (.int ar)]) (st' := [.int y4, .ref a2]) (M1 := M) 2 (fun n => rfl) ?_
  exact hz
theorem ld_62 {e : Nat} {M : Mem} {M' : Mem} {v : Option Value} {vld : List Value} {ar gl u : Int32} {ld o w : Nat} (hld : gNth M ld = some (.inr (1, vld))) (hlld : 18 < vld.length) (hz : Ev none e 60 71 [some (.ref w), some (.ref o), some (.int gl), some (.int ar)] [] (gPut M ld (.inr (1, gPut vld 18 (.int (u + 0))))) v M' 0 0) : Ev none e 60 62 [some (.ref w), some (.ref o), some (.int gl), some (.int ar)] [.int u, .ref ld] M v M' 0 0 := by
  refine Ev.step (pc' := 68) (ls' := [some (.ref w), some (.ref o), some (.int gl), some (.int ar)]) (st' := [.int (u + 0), .ref ld]) (M1 := M) 3 (fun n => rfl) ?_
  refine Ev.step 1 (gs_4 rfl rfl (pf_c rfl hld hlld rfl rfl)) ?_
  exact hz
theorem ld_66 {e : Nat} {M : Mem} {M' : Mem} {v : Option Value} {vld : List Value} {ar gl u : Int32} {ld o w : Nat} (hld : gNth M ld = some (.inr (1, vld))) (hlld : 18 < vld.length) (hz : Ev none e 60 71 [some (.ref w), some (.ref o), some (.int gl), some (.int ar)] [] (gPut M ld (.inr (1, gPut vld 18 (.int (u + 1))))) v M' 0 0) : Ev none e 60 66 [some (.ref w), some (.ref o), some (.int gl), some (.int ar)] [.int u, .ref ld] M v M' 0 0 := by
  refine Ev.step (pc' := 68) (ls' := [some (.ref w), some (.ref o), some (.int gl), some (.int ar)]) (st' := [.int (u + 1), .ref ld]) (M1 := M) 2 (fun n => rfl) ?_
  refine Ev.step 1 (gs_4 rfl rfl (pf_c rfl hld hlld rfl rfl)) ?_
  exact hz
theorem ld_71 {e : Nat} {M : Mem} {M' : Mem} {v : Option Value} {va2 vo vw : List Value} {ar gl y6 y8 : Int32} {a2 a4 o w : Nat} {la4 : List Int32} (hw : gNth M w = some (.inr (7, vw))) (f1 : gNth vw 7 = some (.ref a2)) (ha2 : gNth M a2 = some (.inr (1, va2))) (f3 : gNth va2 9 = some (.ref a4)) (ho : gNth M o = some (.inr (8, vo))) (f5 : gNth vo 0 = some (.int y6)) (ra4 : gNth M a4 = some (.inl (1, .inl la4))) (g7 : gAt la4 y6 = some y8) (hz : Ev none e 60 87 [some (.ref w), some (.ref o), some (.int gl), some (.int ar)] [] (gPut M a4 (.inl (1, .inl (gPut la4 y6.toNatClampNeg (y8 - 1))))) v M' 0 0) : Ev none e 60 71 [some (.ref w), some (.ref o), some (.int gl), some (.int ar)] [] M v M' 0 0 := by
  refine Ev.step (pc' := 72) (ls' := [some (.ref w), some (.ref o), some (.int gl), some (.int ar)]) (st' := [.ref w]) (M1 := M) 1 (fun n => rfl) ?_
  refine Ev.step 1 (gs_3 rfl rfl (gf_c rfl hw f1)) ?_
  refine Ev.step 1 (gs_3 rfl rfl (gf_c rfl ha2 f3)) ?_
  refine Ev.step (pc' := 79) (ls' := [some (.ref w), some (.ref o), some (.int gl), some (.int ar)]) (st' := [.ref o, .ref a4]) (M1 := M) 1 (fun n => rfl) ?_
  refine Ev.step 1 (gs_3 rfl rfl (gf_c rfl ho f5)) ?_
  refine Ev.step (pc' := 83) (ls' := [some (.ref w), some (.ref o), some (.int gl), some (.int ar)]) (st' := [.int y6, .ref a4, .int y6, .ref a4]) (M1 := M) 1 (fun n => rfl) ?_
  refine Ev.step 1 (gs_3 rfl rfl (ia_c ra4 g7)) ?_
  refine Ev.step (pc' := 86) (ls' := [some (.ref w), some (.ref o), some (.int gl), some (.int ar)]) (st' := [.int (y8 - 1), .int y6, .ref a4]) (M1 := M) 2 (fun n => rfl) ?_
  refine Ev.step 1 (gs_4 rfl rfl (is_c ra4 g7)) ?_
  exact hz
theorem ld_87 {e : Nat} {M : Mem} {vo : List Value} {ar gl : Int32} {o w : Nat} (ho : gNth M o = some (.inr (8, vo))) (hlo : 0 < vo.length) : Ev none e 60 87 [some (.ref w), some (.ref o), some (.int gl), some (.int ar)] [] M none (gPut M o (.inr (8, gPut vo 0 (.int (-1))))) 0 0 := by
  refine Ev.step (pc' := 89) (ls' := [some (.ref w), some (.ref o), some (.int gl), some (.int ar)]) (st' := [.int (-1), .ref o]) (M1 := M) 2 (fun n => rfl) ?_
  refine Ev.step 1 (gs_4 rfl rfl (pf_c rfl ho hlo rfl rfl)) ?_
  exact Ev.ret (fun n => rfl)
theorem wb_0 {e : Nat} {M : Mem} {M' : Mem} {v : Option Value} {vo : List Value} {c k : Int32} {o : Nat} (ho : gNth M o = some (.inr (8, vo))) (hlo : 0 < vo.length) (hz : Ev none e 73 5 [some (.ref o), some (.int c), some (.int k)] [] (gPut M o (.inr (8, gPut vo 0 (.int c)))) v M' 0 0) : Ev none e 73 0 [some (.ref o), some (.int c), some (.int k)] [] M v M' 0 0 := by
  refine Ev.step (pc' := 2) (ls' := [some (.ref o), some (.int c), some (.int k)]) (st' := [.int c, .ref o]) (M1 := M) 2 (fun n => rfl) ?_
  refine Ev.step 1 (gs_4 rfl rfl (pf_c rfl ho hlo rfl rfl)) ?_
  exact hz
theorem wb_5 {e : Nat} {M : Mem} {M' : Mem} {v : Option Value} {vo : List Value} {c k : Int32} {o : Nat} (ho : gNth M o = some (.inr (8, vo))) (hlo : 1 < vo.length) (hz : Ev none e 73 10 [some (.ref o), some (.int c), some (.int k)] [] (gPut M o (.inr (8, gPut vo 1 (.int k)))) v M' 0 0) : Ev none e 73 5 [some (.ref o), some (.int c), some (.int k)] [] M v M' 0 0 := by
  refine Ev.step (pc' := 7) (ls' := [some (.ref o), some (.int c), some (.int k)]) (st' := [.int k, .ref o]) (M1 := M) 2 (fun n => rfl) ?_
  refine Ev.step 1 (gs_4 rfl rfl (pf_c rfl ho hlo rfl rfl)) ?_
  exact hz
theorem wb_10 {e : Nat} {M : Mem} {M' : Mem} {v : Option Value} {vo : List Value} {c k : Int32} {o : Nat} (ho : gNth M o = some (.inr (8, vo))) (hlo : 2 < vo.length) (hz : Ev none e 73 15 [some (.ref o), some (.int c), some (.int k)] [] (gPut M o (.inr (8, gPut vo 2 (.int 0)))) v M' 0 0) : Ev none e 73 10 [some (.ref o), some (.int c), some (.int k)] [] M v M' 0 0 := by
  refine Ev.step (pc' := 12) (ls' := [some (.ref o), some (.int c), some (.int k)]) (st' := [.int 0, .ref o]) (M1 := M) 2 (fun n => rfl) ?_
  refine Ev.step 1 (gs_4 rfl rfl (pf_c rfl ho hlo rfl rfl)) ?_
  exact hz
theorem wb_15 {e : Nat} {M : Mem} {M' : Mem} {v : Option Value} {vo : List Value} {c k : Int32} {o : Nat} (ho : gNth M o = some (.inr (8, vo))) (hlo : 3 < vo.length) (hz : Ev none e 73 20 [some (.ref o), some (.int c), some (.int k)] [] (gPut M o (.inr (8, gPut vo 3 (.int (-1))))) v M' 0 0) : Ev none e 73 15 [some (.ref o), some (.int c), some (.int k)] [] M v M' 0 0 := by
  refine Ev.step (pc' := 17) (ls' := [some (.ref o), some (.int c), some (.int k)]) (st' := [.int (-1), .ref o]) (M1 := M) 2 (fun n => rfl) ?_
  refine Ev.step 1 (gs_4 rfl rfl (pf_c rfl ho hlo rfl rfl)) ?_
  exact hz
theorem wb_20 {e : Nat} {M : Mem} {vo : List Value} {c k : Int32} {o : Nat} (ho : gNth M o = some (.inr (8, vo))) (hlo : 4 < vo.length) : Ev none e 73 20 [some (.ref o), some (.int c), some (.int k)] [] M none (gPut M o (.inr (8, gPut vo 4 (.int (-1))))) 0 0 := by
  refine Ev.step (pc' := 22) (ls' := [some (.ref o), some (.int c), some (.int k)]) (st' := [.int (-1), .ref o]) (M1 := M) 2 (fun n => rfl) ?_
  refine Ev.step 1 (gs_4 rfl rfl (pf_c rfl ho hlo rfl rfl)) ?_
  exact Ev.ret (fun n => rfl)
