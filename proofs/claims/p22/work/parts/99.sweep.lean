/-! BY HAND, the class: sweep (its pieces) -/
theorem sw_0 {e : Nat} {M : Mem} {M' : Mem} {v : Option Value} {w : Nat} {x1 x2 x3 : Option Value}  (hz : Ev none e 61 4 [some (.ref w), some (.int 0), some (.int 0), x3] [] M v M' 0 0) : Ev none e 61 0 [some (.ref w), x1, x2, x3] [] M v M' 0 0 := by
  refine Ev.step (pc' := 4) (ls' := [some (.ref w), some (.int 0), some (.int 0), x3]) (st' := []) (M1 := M) 4 (fun n => rfl) ?_
  exact hz
theorem sw_4 {e : Nat} {M : Mem} {M' : Mem} {v : Option Value} {va2 vw : List Value} {i s y4 : Int32} {a2 w : Nat} {x3 : Option Value} (hw : gNth M w = some (.inr (7, vw))) (f1 : gNth vw 7 = some (.ref a2)) (ha2 : gNth M a2 = some (.inr (1, va2))) (f3 : gNth va2 15 = some (.int y4)) (hz : Ev none e 61 (if y4 ≤ i then 70 else 15) [some (.ref w), some (.int s), some (.int i), x3] [] M v M' 0 0) : Ev none e 61 4 [some (.ref w), some (.int s), some (.int i), x3] [] M v M' 0 0 := by
  refine Ev.step (pc' := 6) (ls' := [some (.ref w), some (.int s), some (.int i), x3]) (st' := [.ref w, .int i]) (M1 := M) 2 (fun n => rfl) ?_
  refine Ev.step 1 (gs_3 rfl rfl (gf_c rfl hw f1)) ?_
  refine Ev.step 1 (gs_3 rfl rfl (gf_c rfl ha2 f3)) ?_
  refine Ev.step (pc' := (if y4 ≤ i then 70 else 15)) (ls' := [some (.ref w), some (.int s), some (.int i), x3]) (st' := []) (M1 := M) 1 (fun n => rfl) ?_
  exact hz
theorem sw_15 {e : Nat} {M : Mem} {M' : Mem} {v : Option Value} {va2 va6 vw : List Value} {i s y8 : Int32} {a2 a4 a6 w : Nat} {la4 : List (Option Nat)} {x3 : Option Value} (hw : gNth M w = some (.inr (7, vw))) (f1 : gNth vw 7 = some (.ref a2)) (ha2 : gNth M a2 = some (.inr (1, va2))) (f3 : gNth va2 14 = some (.ref a4)) (ra4 : gNth M a4 = some (.inl (6, .inr (.inr la4)))) (g5 : gAt la4 i = some (some a6)) (ha6 : gNth M a6 = some (.inr (8, va6))) (f7 : gNth va6 0 = some (.int y8)) (hz : Ev none e 61 (if y8 = (-1) then 64 else 33) [some (.ref w), some (.int s), some (.int i), some (.ref a6)] [] M v M' 0 0) : Ev none e 61 15 [some (.ref w), some (.int s), some (.int i), x3] [] M v M' 0 0 := by
  refine Ev.step (pc' := 16) (ls' := [some (.ref w), some (.int s), some (.int i), x3]) (st' := [.ref w]) (M1 := M) 1 (fun n => rfl) ?_
  refine Ev.step 1 (gs_3 rfl rfl (gf_c rfl hw f1)) ?_
  refine Ev.step 1 (gs_3 rfl rfl (gf_c rfl ha2 f3)) ?_
  refine Ev.step (pc' := 23) (ls' := [some (.ref w), some (.int s), some (.int i), x3]) (st' := [.int i, .ref a4]) (M1 := M) 1 (fun n => rfl) ?_
  refine Ev.step 1 (gs_3 rfl rfl (aa_c ra4 g5 rfl)) ?_
  refine Ev.step (pc' := 26) (ls' := [some (.ref w), some (.int s), some (.int i), some (.ref a6)]) (st' := [.ref a6]) (M1 := M) 2 (fun n => rfl) ?_
  refine Ev.step 1 (gs_3 rfl rfl (gf_c rfl ha6 f7)) ?_
  refine Ev.step (pc' := (if y8 = (-1) then 64 else 33)) (ls' := [some (.ref w), some (.int s), some (.int i), some (.ref a6)]) (st' := []) (M1 := M) 2 (fun n => rfl) ?_
  exact hz
theorem sw_33 {e : Nat} {M : Mem} {M' : Mem} {v : Option Value} {va2 va6 vw : List Value} {i s : Int32} {a2 a4 a6 a8 o w : Nat} {la4 : List (Option Nat)} (hw : gNth M w = some (.inr (7, vw))) (f1 : gNth vw 7 = some (.ref a2)) (ha2 : gNth M a2 = some (.inr (1, va2))) (f3 : gNth va2 14 = some (.ref a4)) (ra4 : gNth M a4 = some (.inl (6, .inr (.inr la4)))) (g5 : gAt la4 s = some (some a6)) (ha6 : gNth M a6 = some (.inr (8, va6))) (g7 : gAt la4 i = some (some a8)) (hz : Ev none e 61 51 [some (.ref w), some (.int s), some (.int i), some (.ref o)] [] (gPut M a4 (.inl (6, .inr (.inr (gPut la4 i.toNatClampNeg (some a6)))))) v M' 0 0) : Ev none e 61 33 [some (.ref w), some (.int s), some (.int i), some (.ref o)] [] M v M' 0 0 := by
  refine Ev.step (pc' := 34) (ls' := [some (.ref w), some (.int s), some (.int i), some (.ref o)]) (st' := [.ref w]) (M1 := M) 1 (fun n => rfl) ?_
  refine Ev.step 1 (gs_3 rfl rfl (gf_c rfl hw f1)) ?_
  refine Ev.step 1 (gs_3 rfl rfl (gf_c rfl ha2 f3)) ?_
  refine Ev.step (pc' := 42) (ls' := [some (.ref w), some (.int s), some (.int i), some (.ref o)]) (st' := [.ref w, .int i, .ref a4]) (M1 := M) 2 (fun n => rfl) ?_
  refine Ev.step 1 (gs_3 rfl rfl (gf_c rfl hw f1)) ?_
  refine Ev.step 1 (gs_3 rfl rfl (gf_c rfl ha2 f3)) ?_
  refine Ev.step (pc' := 49) (ls' := [some (.ref w), some (.int s), some (.int i), some (.ref o)]) (st' := [.int s, .ref a4, .int i, .ref a4]) (M1 := M) 1 (fun n => rfl) ?_
  refine Ev.step 1 (gs_3 rfl rfl (aa_c ra4 g5 rfl)) ?_
  refine Ev.step 1 (gs_4 rfl rfl (as_c ra4 ha6 g7 rfl)) ?_
  exact hz
theorem sw_51 {e : Nat} {M : Mem} {M' : Mem} {v : Option Value} {va2 vo vw : List Value} {i s : Int32} {a2 a4 a6 o w : Nat} {la4 : List (Option Nat)} (hw : gNth M w = some (.inr (7, vw))) (f1 : gNth vw 7 = some (.ref a2)) (ha2 : gNth M a2 = some (.inr (1, va2))) (f3 : gNth va2 14 = some (.ref a4)) (ra4 : gNth M a4 = some (.inl (6, .inr (.inr la4)))) (ho : gNth M o = some (.inr (8, vo))) (g5 : gAt la4 s = some (some a6)) (hz : Ev none e 61 4 [some (.ref w), some (.int (s + 1)), some (.int (i + 1)), some (.ref o)] [] (gPut M a4 (.inl (6, .inr (.inr (gPut la4 s.toNatClampNeg (some o)))))) v M' 0 0) : Ev none e 61 51 [some (.ref w), some (.int s), some (.int i), some (.ref o)] [] M v M' 0 0 := by
  refine Ev.step (pc' := 52) (ls' := [some (.ref w), some (.int s), some (.int i), some (.ref o)]) (st' := [.ref w]) (M1 := M) 1 (fun n => rfl) ?_
  refine Ev.step 1 (gs_3 rfl rfl (gf_c rfl hw f1)) ?_
  refine Ev.step 1 (gs_3 rfl rfl (gf_c rfl ha2 f3)) ?_
  refine Ev.step (pc' := 60) (ls' := [some (.ref w), some (.int s), some (.int i), some (.ref o)]) (st' := [.ref o, .int s, .ref a4]) (M1 := M) 2 (fun n => rfl) ?_
  refine Ev.step 1 (gs_4 rfl rfl (as_c ra4 ho g5 rfl)) ?_
  refine Ev.step (pc' := 4) (ls' := [some (.ref w), some (.int (s + 1)), some (.int (i + 1)), some (.ref o)]) (st' := []) (M1 := (gPut M a4 (.inl (6, .inr (.inr (gPut la4 s.toNatClampNeg (some o))))))) 3 (fun n => rfl) ?_
  exact hz
theorem sw_64 {e : Nat} {M : Mem} {M' : Mem} {v : Option Value} {i s : Int32} {o w : Nat}  (hz : Ev none e 61 4 [some (.ref w), some (.int s), some (.int (i + 1)), some (.ref o)] [] M v M' 0 0) : Ev none e 61 64 [some (.ref w), some (.int s), some (.int i), some (.ref o)] [] M v M' 0 0 := by
  refine Ev.step (pc' := 4) (ls' := [some (.ref w), some (.int s), some (.int (i + 1)), some (.ref o)]) (st' := []) (M1 := M) 2 (fun n => rfl) ?_
  exact hz
theorem sw_70 {e : Nat} {M : Mem} {va2 vw : List Value} {i s : Int32} {a2 w : Nat} {x3 : Option Value} (hw : gNth M w = some (.inr (7, vw))) (f1 : gNth vw 7 = some (.ref a2)) (ha2 : gNth M a2 = some (.inr (1, va2))) (hla2 : 15 < va2.length) : Ev none e 61 70 [some (.ref w), some (.int s), some (.int i), x3] [] M none (gPut M a2 (.inr (1, gPut va2 15 (.int s)))) 0 0 := by
  refine Ev.step (pc' := 71) (ls' := [some (.ref w), some (.int s), some (.int i), x3]) (st' := [.ref w]) (M1 := M) 1 (fun n => rfl) ?_
  refine Ev.step 1 (gs_3 rfl rfl (gf_c rfl hw f1)) ?_
  refine Ev.step (pc' := 75) (ls' := [some (.ref w), some (.int s), some (.int i), x3]) (st' := [.int s, .ref a2]) (M1 := M) 1 (fun n => rfl) ?_
  refine Ev.step 1 (gs_4 rfl rfl (pf_c rfl ha2 hla2 rfl rfl)) ?_
  exact Ev.ret (fun n => rfl)
