/-! BY HAND, the class: the pieces of go, begin, step -/
theorem st_0 {e : Nat} {M : Mem} {M' : Mem} {v : Option Value} {vo : List Value} {c d y2 : Int32} {o : Nat} (ho : gNth M o = some (.inr (8, vo))) (f1 : gNth vo 0 = some (.int y2)) (hlo : 3 < vo.length) (hz : Ev none e 74 8 [some (.ref o), some (.int c), some (.int d)] [] (gPut M o (.inr (8, gPut vo 3 (.int y2)))) v M' 0 0) : Ev none e 74 0 [some (.ref o), some (.int c), some (.int d)] [] M v M' 0 0 := by
  refine Ev.step (pc' := 2) (ls' := [some (.ref o), some (.int c), some (.int d)]) (st' := [.ref o, .ref o]) (M1 := M) 2 (fun n => rfl) ?_
  refine Ev.step 1 (gs_3 rfl rfl (gf_c rfl ho f1)) ?_
  refine Ev.step 1 (gs_4 rfl rfl (pf_c rfl ho hlo rfl rfl)) ?_
  exact hz
theorem st_8 {e : Nat} {M : Mem} {M' : Mem} {v : Option Value} {vo : List Value} {c d : Int32} {o : Nat} (ho : gNth M o = some (.inr (8, vo))) (hlo : 0 < vo.length) (hz : Ev none e 74 13 [some (.ref o), some (.int c), some (.int d)] [] (gPut M o (.inr (8, gPut vo 0 (.int c)))) v M' 0 0) : Ev none e 74 8 [some (.ref o), some (.int c), some (.int d)] [] M v M' 0 0 := by
  refine Ev.step (pc' := 10) (ls' := [some (.ref o), some (.int c), some (.int d)]) (st' := [.int c, .ref o]) (M1 := M) 2 (fun n => rfl) ?_
  refine Ev.step 1 (gs_4 rfl rfl (pf_c rfl ho hlo rfl rfl)) ?_
  exact hz
theorem st_13 {e : Nat} {M : Mem} {vo : List Value} {c d : Int32} {o : Nat} (ho : gNth M o = some (.inr (8, vo))) (hlo : 4 < vo.length) : Ev none e 74 13 [some (.ref o), some (.int c), some (.int d)] [] M none (gPut M o (.inr (8, gPut vo 4 (.int d)))) 0 0 := by
  refine Ev.step (pc' := 15) (ls' := [some (.ref o), some (.int c), some (.int d)]) (st' := [.int d, .ref o]) (M1 := M) 2 (fun n => rfl) ?_
  refine Ev.step 1 (gs_4 rfl rfl (pf_c rfl ho hlo rfl rfl)) ?_
  exact Ev.ret (fun n => rfl)
theorem bg_0 {e : Nat} {M : Mem} {M' : Mem} {v : Option Value} {w : Nat} {x1 x2 x3 : Option Value}  (hz : Ev none e 59 2 [some (.ref w), some (.int 0), x2, x3] [] M v M' 0 0) : Ev none e 59 0 [some (.ref w), x1, x2, x3] [] M v M' 0 0 := by
  refine Ev.step (pc' := 2) (ls' := [some (.ref w), some (.int 0), x2, x3]) (st' := []) (M1 := M) 2 (fun n => rfl) ?_
  exact hz
theorem bg_2 {e : Nat} {M : Mem} {M' : Mem} {v : Option Value} {va2 vw : List Value} {k y4 : Int32} {a2 w : Nat} {x2 x3 : Option Value} (hw : gNth M w = some (.inr (7, vw))) (f1 : gNth vw 7 = some (.ref a2)) (ha2 : gNth M a2 = some (.inr (1, va2))) (f3 : gNth va2 13 = some (.int y4)) (hz : Ev none e 59 (if y4 ≤ k then 133 else 13) [some (.ref w), some (.int k), x2, x3] [] M v M' 0 0) : Ev none e 59 2 [some (.ref w), some (.int k), x2, x3] [] M v M' 0 0 := by
  refine Ev.step (pc' := 4) (ls' := [some (.ref w), some (.int k), x2, x3]) (st' := [.ref w, .int k]) (M1 := M) 2 (fun n => rfl) ?_
  refine Ev.step 1 (gs_3 rfl rfl (gf_c rfl hw f1)) ?_
  refine Ev.step 1 (gs_3 rfl rfl (gf_c rfl ha2 f3)) ?_
  refine Ev.step (pc' := (if y4 ≤ k then 133 else 13)) (ls' := [some (.ref w), some (.int k), x2, x3]) (st' := []) (M1 := M) 1 (fun n => rfl) ?_
  exact hz
theorem bg_13 {e : Nat} {M : Mem} {M' : Mem} {v : Option Value} {va2 vw : List Value} {k y8 : Int32} {a2 a4 a6 w : Nat} {la4 : List (Option Nat)} {x2 x3 : Option Value} (hw : gNth M w = some (.inr (7, vw))) (f1 : gNth vw 7 = some (.ref a2)) (ha2 : gNth M a2 = some (.inr (1, va2))) (f3 : gNth va2 12 = some (.ref a4)) (ra4 : gNth M a4 = some (.inl (7, .inr (.inr la4)))) (g5 : gAt la4 k = some (some a6)) (f7 : gNth va2 16 = some (.int y8)) (hz : Ev none e 59 31 [some (.ref w), some (.int k), some (.ref a6), x3] [.int y8, .ref a6] M v M' 0 0) : Ev none e 59 13 [some (.ref w), some (.int k), x2, x3] [] M v M' 0 0 := by
  refine Ev.step (pc' := 14) (ls' := [some (.ref w), some (.int k), x2, x3]) (st' := [.ref w]) (M1 := M) 1 (fun n => rfl) ?_
  refine Ev.step 1 (gs_3 rfl rfl (gf_c rfl hw f1)) ?_
  refine Ev.step 1 (gs_3 rfl rfl (gf_c rfl ha2 f3)) ?_
  refine Ev.step (pc' := 21) (ls' := [some (.ref w), some (.int k), x2, x3]) (st' := [.int k, .ref a4]) (M1 := M) 1 (fun n => rfl) ?_
  refine Ev.step 1 (gs_3 rfl rfl (aa_c ra4 g5 rfl)) ?_
  refine Ev.step (pc' := 25) (ls' := [some (.ref w), some (.int k), some (.ref a6), x3]) (st' := [.ref w, .ref a6]) (M1 := M) 3 (fun n => rfl) ?_
  refine Ev.step 1 (gs_3 rfl rfl (gf_c rfl hw f1)) ?_
  refine Ev.step 1 (gs_3 rfl rfl (gf_c rfl ha2 f7)) ?_
  exact hz
theorem bg_34 {e : Nat} {M : Mem} {M' : Mem} {v : Option Value} {k z : Int32} {w ws : Nat} {x3 : Option Value}  (hz : Ev none e 59 (if z = 0 then 37 else 40) [some (.ref w), some (.int k), some (.ref ws), x3] [] M v M' 0 0) : Ev none e 59 34 [some (.ref w), some (.int k), some (.ref ws), x3] [.int z] M v M' 0 0 := by
  refine Ev.step (pc' := (if z = 0 then 37 else 40)) (ls' := [some (.ref w), some (.int k), some (.ref ws), x3]) (st' := []) (M1 := M) 1 (fun n => rfl) ?_
  exact hz
theorem bg_37 {e : Nat} {M : Mem} {M' : Mem} {v : Option Value} {k : Int32} {w ws : Nat} {x3 : Option Value}  (hz : Ev none e 59 2 [some (.ref w), some (.int (k + 1)), some (.ref ws), x3] [] M v M' 0 0) : Ev none e 59 37 [some (.ref w), some (.int k), some (.ref ws), x3] [] M v M' 0 0 := by
  refine Ev.step (pc' := 2) (ls' := [some (.ref w), some (.int (k + 1)), some (.ref ws), x3]) (st' := []) (M1 := M) 3 (fun n => rfl) ?_
  exact hz
theorem bg_40 {e : Nat} {M : Mem} {M' : Mem} {v : Option Value} {va2 vw : List Value} {k y4 : Int32} {a2 w ws : Nat} {x3 : Option Value} (hw : gNth M w = some (.inr (7, vw))) (f1 : gNth vw 7 = some (.ref a2)) (ha2 : gNth M a2 = some (.inr (1, va2))) (f3 : gNth va2 15 = some (.int y4)) (hz : Ev none e 59 (if y4 < 60 then 68 else 52) [some (.ref w), some (.int k), some (.ref ws), x3] [] M v M' 0 0) : Ev none e 59 40 [some (.ref w), some (.int k), some (.ref ws), x3] [] M v M' 0 0 := by
  refine Ev.step (pc' := 41) (ls' := [some (.ref w), some (.int k), some (.ref ws), x3]) (st' := [.ref w]) (M1 := M) 1 (fun n => rfl) ?_
  refine Ev.step 1 (gs_3 rfl rfl (gf_c rfl hw f1)) ?_
  refine Ev.step 1 (gs_3 rfl rfl (gf_c rfl ha2 f3)) ?_
  refine Ev.step (pc' := (if y4 < 60 then 68 else 52)) (ls' := [some (.ref w), some (.int k), some (.ref ws), x3]) (st' := []) (M1 := M) 2 (fun n => rfl) ?_
  exact hz
theorem bg_52 {e : Nat} {M : Mem} {M' : Mem} {v : Option Value} {va2 vw : List Value} {k y4 : Int32} {a2 w ws : Nat} {x3 : Option Value} (hw : gNth M w = some (.inr (7, vw))) (f1 : gNth vw 7 = some (.ref a2)) (ha2 : gNth M a2 = some (.inr (1, va2))) (f3 : gNth va2 19 = some (.int y4)) (hla2 : 19 < va2.length) (hz : Ev none e 59 2 [some (.ref w), some (.int (k + 1)), some (.ref ws), x3] [] (gPut M a2 (.inr (1, gPut va2 19 (.int (y4 + 1))))) v M' 0 0) : Ev none e 59 52 [some (.ref w), some (.int k), some (.ref ws), x3] [] M v M' 0 0 := by
  refine Ev.step (pc' := 53) (ls' := [some (.ref w), some (.int k), some (.ref ws), x3]) (st' := [.ref w]) (M1 := M) 1 (fun n => rfl) ?_
  refine Ev.step 1 (gs_3 rfl rfl (gf_c rfl hw f1)) ?_
  refine Ev.step (pc' := 57) (ls' := [some (.ref w), some (.int k), some (.ref ws), x3]) (st' := [.ref a2, .ref a2]) (M1 := M) 1 (fun n => rfl) ?_
  refine Ev.step 1 (gs_3 rfl rfl (gf_c rfl ha2 f3)) ?_
  refine Ev.step (pc' := 62) (ls' := [some (.ref w), some (.int k), some (.ref ws), x3]) (st' := [.int (y4 + 1), .ref a2]) (M1 := M) 2 (fun n => rfl) ?_
  refine Ev.step 1 (gs_4 rfl rfl (pf_c rfl ha2 hla2 rfl rfl)) ?_
  refine Ev.step (pc' := 2) (ls' := [some (.ref w), some (.int (k + 1)), some (.ref ws), x3]) (st' := []) (M1 := (gPut M a2 (.inr (1, gPut va2 19 (.int (y4 + 1)))))) 3 (fun n => rfl) ?_
  exact hz
theorem bg_68 {e : Nat} {M : Mem} {M' : Mem} {v : Option Value} {va2 vw vws : List Value} {k y12 y6 y8 : Int32} {a10 a14 a2 a4 w ws : Nat} {la4 : List Int32} {la10 : List (Option Nat)} {x3 : Option Value} (hw : gNth M w = some (.inr (7, vw))) (f1 : gNth vw 7 = some (.ref a2)) (ha2 : gNth M a2 = some (.inr (1, va2))) (f3 : gNth va2 10 = some (.ref a4)) (hws : gNth M ws = some (.inr (9, vws))) (f5 : gNth vws 0 = some (.int y6)) (ra4 : gNth M a4 = some (.inl (1, .inl la4))) (g7 : gAt la4 y6 = some y8) (f9 : gNth va2 14 = some (.ref a10)) (f11 : gNth va2 15 = some (.int y12)) (ra10 : gNth M a10 = some (.inl (6, .inr (.inr la10)))) (g13 : gAt la10 y12 = some (some a14)) (hz : Ev none e 59 98 [some (.ref w), some (.int k), some (.ref ws), some (.int y8)] [.int k, .int y8, .ref a14] M v M' 0 0) : Ev none e 59 68 [some (.ref w), some (.int k), some (.ref ws), x3] [] M v M' 0 0 := by
  refine Ev.step (pc' := 69) (ls' := [some (.ref w), some (.int k), some (.ref ws), x3]) (st' := [.ref w]) (M1 := M) 1 (fun n => rfl) ?_
  refine Ev.step 1 (gs_3 rfl rfl (gf_c rfl hw f1)) ?_
  refine Ev.step 1 (gs_3 rfl rfl (gf_c rfl ha2 f3)) ?_
  refine Ev.step (pc' := 76) (ls' := [some (.ref w), some (.int k), some (.ref ws), x3]) (st' := [.ref ws, .ref a4]) (M1 := M) 1 (fun n => rfl) ?_
  refine Ev.step 1 (gs_3 rfl rfl (gf_c rfl hws f5)) ?_
  refine Ev.step 1 (gs_3 rfl rfl (ia_c ra4 g7)) ?_
  refine Ev.step (pc' := 82) (ls' := [some (.ref w), some (.int k), some (.ref ws), some (.int y8)]) (st' := [.ref w]) (M1 := M) 2 (fun n => rfl) ?_
  refine Ev.step 1 (gs_3 rfl rfl (gf_c rfl hw f1)) ?_
  refine Ev.step 1 (gs_3 rfl rfl (gf_c rfl ha2 f9)) ?_
  refine Ev.step (pc' := 89) (ls' := [some (.ref w), some (.int k), some (.ref ws), some (.int y8)]) (st' := [.ref w, .ref a10]) (M1 := M) 1 (fun n => rfl) ?_
  refine Ev.step 1 (gs_3 rfl rfl (gf_c rfl hw f1)) ?_
  refine Ev.step 1 (gs_3 rfl rfl (gf_c rfl ha2 f11)) ?_
  refine Ev.step 1 (gs_3 rfl rfl (aa_c ra10 g13 rfl)) ?_
  refine Ev.step (pc' := 98) (ls' := [some (.ref w), some (.int k), some (.ref ws), some (.int y8)]) (st' := [.int k, .int y8, .ref a14]) (M1 := M) 2 (fun n => rfl) ?_
  exact hz
theorem bg_101 {e : Nat} {M : Mem} {M' : Mem} {v : Option Value} {va2 vw : List Value} {ct k y4 : Int32} {a2 w ws : Nat} (hw : gNth M w = some (.inr (7, vw))) (f1 : gNth vw 7 = some (.ref a2)) (ha2 : gNth M a2 = some (.inr (1, va2))) (f3 : gNth va2 15 = some (.int y4)) (hla2 : 15 < va2.length) (hz : Ev none e 59 114 [some (.ref w), some (.int k), some (.ref ws), some (.int ct)] [] (gPut M a2 (.inr (1, gPut va2 15 (.int (y4 + 1))))) v M' 0 0) : Ev none e 59 101 [some (.ref w), some (.int k), some (.ref ws), some (.int ct)] [] M v M' 0 0 := by
  refine Ev.step (pc' := 102) (ls' := [some (.ref w), some (.int k), some (.ref ws), some (.int ct)]) (st' := [.ref w]) (M1 := M) 1 (fun n => rfl) ?_
  refine Ev.step 1 (gs_3 rfl rfl (gf_c rfl hw f1)) ?_
  refine Ev.step (pc' := 106) (ls' := [some (.ref w), some (.int k), some (.ref ws), some (.int ct)]) (st' := [.ref a2, .ref a2]) (M1 := M) 1 (fun n => rfl) ?_
  refine Ev.step 1 (gs_3 rfl rfl (gf_c rfl ha2 f3)) ?_
  refine Ev.step (pc' := 111) (ls' := [some (.ref w), some (.int k), some (.ref ws), some (.int ct)]) (st' := [.int (y4 + 1), .ref a2]) (M1 := M) 2 (fun n => rfl) ?_
  refine Ev.step 1 (gs_4 rfl rfl (pf_c rfl ha2 hla2 rfl rfl)) ?_
  exact hz
theorem bg_114 {e : Nat} {M : Mem} {M' : Mem} {v : Option Value} {va2 vw : List Value} {ct k y6 : Int32} {a2 a4 w ws : Nat} {la4 : List Int32} (hw : gNth M w = some (.inr (7, vw))) (f1 : gNth vw 7 = some (.ref a2)) (ha2 : gNth M a2 = some (.inr (1, va2))) (f3 : gNth va2 9 = some (.ref a4)) (ra4 : gNth M a4 = some (.inl (1, .inl la4))) (g5 : gAt la4 ct = some y6) (hz : Ev none e 59 2 [some (.ref w), some (.int (k + 1)), some (.ref ws), some (.int ct)] [] (gPut M a4 (.inl (1, .inl (gPut la4 ct.toNatClampNeg (y6 + 1))))) v M' 0 0) : Ev none e 59 114 [some (.ref w), some (.int k), some (.ref ws), some (.int ct)] [] M v M' 0 0 := by
  refine Ev.step (pc' := 115) (ls' := [some (.ref w), some (.int k), some (.ref ws), some (.int ct)]) (st' := [.ref w]) (M1 := M) 1 (fun n => rfl) ?_
  refine Ev.step 1 (gs_3 rfl rfl (gf_c rfl hw f1)) ?_
  refine Ev.step 1 (gs_3 rfl rfl (gf_c rfl ha2 f3)) ?_
  refine Ev.step (pc' := 123) (ls' := [some (.ref w), some (.int k), some (.ref ws), some (.int ct)]) (st' := [.int ct, .ref a4, .int ct, .ref a4]) (M1 := M) 2 (fun n => rfl) ?_
  refine Ev.step 1 (gs_3 rfl rfl (ia_c ra4 g5)) ?_
  refine Ev.step (pc' := 126) (ls' := [some (.ref w), some (.int k), some (.ref ws), some (.int ct)]) (st' := [.int (y6 + 1), .int ct, .ref a4]) (M1 := M) 2 (fun n => rfl) ?_
  refine Ev.step 1 (gs_4 rfl rfl (is_c ra4 g5)) ?_
  refine Ev.step (pc' := 2) (ls' := [some (.ref w), some (.int (k + 1)), some (.ref ws), some (.int ct)]) (st' := []) (M1 := (gPut M a4 (.inl (1, .inl (gPut la4 ct.toNatClampNeg (y6 + 1)))))) 2 (fun n => rfl) ?_
  exact hz
theorem bg_133 {e : Nat} {M : Mem} {k : Int32} {w : Nat} {x2 x3 : Option Value}  : Ev none e 59 133 [some (.ref w), some (.int k), x2, x3] [] M none M 0 0 := by
  exact Ev.ret (fun n => rfl)
theorem go_0 {e : Nat} {M : Mem} {M' : Mem} {v : Option Value} {va2 vw : List Value} {t y4 : Int32} {a2 w : Nat} {x2 x3 x4 x5 x6 x7 x8 : Option Value} (hw : gNth M w = some (.inr (7, vw))) (f1 : gNth vw 7 = some (.ref a2)) (ha2 : gNth M a2 = some (.inr (1, va2))) (f3 : gNth va2 17 = some (.int y4)) (hz : Ev none e 58 10 [some (.ref w), some (.int t), some (.int y4), some (.int 0), x4, x5, x6, x7, x8] [] M v M' 0 0) : Ev none e 58 0 [some (.ref w), some (.int t), x2, x3, x4, x5, x6, x7, x8] [] M v M' 0 0 := by
  refine Ev.step (pc' := 1) (ls' := [some (.ref w), some (.int t), x2, x3, x4, x5, x6, x7, x8]) (st' := [.ref w]) (M1 := M) 1 (fun n => rfl) ?_
  refine Ev.step 1 (gs_3 rfl rfl (gf_c rfl hw f1)) ?_
  refine Ev.step 1 (gs_3 rfl rfl (gf_c rfl ha2 f3)) ?_
  refine Ev.step (pc' := 10) (ls' := [some (.ref w), some (.int t), some (.int y4), some (.int 0), x4, x5, x6, x7, x8]) (st' := []) (M1 := M) 3 (fun n => rfl) ?_
  exact hz
theorem go_10 {e : Nat} {M : Mem} {M' : Mem} {v : Option Value} {bf n t : Int32} {w : Nat} {x4 x5 x6 x7 x8 : Option Value}  (hz : Ev none e 58 (if t ≤ n then 221 else 15) [some (.ref w), some (.int t), some (.int bf), some (.int n), x4, x5, x6, x7, x8] [] M v M' 0 0) : Ev none e 58 10 [some (.ref w), some (.int t), some (.int bf), some (.int n), x4, x5, x6, x7, x8] [] M v M' 0 0 := by
  refine Ev.step (pc' := (if t ≤ n then 221 else 15)) (ls' := [some (.ref w), some (.int t), some (.int bf), some (.int n), x4, x5, x6, x7, x8]) (st' := []) (M1 := M) 3 (fun n => rfl) ?_
  exact hz
theorem go_15 {e : Nat} {M : Mem} {M' : Mem} {v : Option Value} {vw : List Value} {bf n t y2 : Int32} {w : Nat} {x4 x5 x6 x7 x8 : Option Value} (hw : gNth M w = some (.inr (7, vw))) (f1 : gNth vw 10 = some (.int y2)) (hz : Ev none e 58 (if y2 = 0 then 22 else 221) [some (.ref w), some (.int t), some (.int bf), some (.int n), x4, x5, x6, x7, x8] [] M v M' 0 0) : Ev none e 58 15 [some (.ref w), some (.int t), some (.int bf), some (.int n), x4, x5, x6, x7, x8] [] M v M' 0 0 := by
  refine Ev.step (pc' := 16) (ls' := [some (.ref w), some (.int t), some (.int bf), some (.int n), x4, x5, x6, x7, x8]) (st' := [.ref w]) (M1 := M) 1 (fun n => rfl) ?_
  refine Ev.step 1 (gs_3 rfl rfl (gf_c rfl hw f1)) ?_
  refine Ev.step (pc' := (if y2 = 0 then 22 else 221)) (ls' := [some (.ref w), some (.int t), some (.int bf), some (.int n), x4, x5, x6, x7, x8]) (st' := []) (M1 := M) 1 (fun n => rfl) ?_
  exact hz
theorem go_22 {e : Nat} {M : Mem} {M' : Mem} {v : Option Value} {bf n t : Int32} {w : Nat} {x4 x5 x6 x7 x8 : Option Value}  (hz : Ev none e 58 23 [some (.ref w), some (.int t), some (.int bf), some (.int n), x4, x5, x6, x7, x8] [.ref w] M v M' 0 0) : Ev none e 58 22 [some (.ref w), some (.int t), some (.int bf), some (.int n), x4, x5, x6, x7, x8] [] M v M' 0 0 := by
  refine Ev.step (pc' := 23) (ls' := [some (.ref w), some (.int t), some (.int bf), some (.int n), x4, x5, x6, x7, x8]) (st' := [.ref w]) (M1 := M) 1 (fun n => rfl) ?_
  exact hz
theorem go_26 {e : Nat} {M : Mem} {M' : Mem} {v : Option Value} {bf n t : Int32} {w : Nat} {x4 x5 x6 x7 x8 : Option Value}  (hz : Ev none e 58 29 [some (.ref w), some (.int t), some (.int bf), some (.int n), some (.int 0), x5, x6, x7, x8] [] M v M' 0 0) : Ev none e 58 26 [some (.ref w), some (.int t), some (.int bf), some (.int n), x4, x5, x6, x7, x8] [] M v M' 0 0 := by
  refine Ev.step (pc' := 29) (ls' := [some (.ref w), some (.int t), some (.int bf), some (.int n), some (.int 0), x5, x6, x7, x8]) (st' := []) (M1 := M) 2 (fun n => rfl) ?_
  exact hz
theorem go_29 {e : Nat} {M : Mem} {M' : Mem} {v : Option Value} {va2 vw : List Value} {bf k n t y4 : Int32} {a2 w : Nat} {x5 x6 x7 x8 : Option Value} (hw : gNth M w = some (.inr (7, vw))) (f1 : gNth vw 7 = some (.ref a2)) (ha2 : gNth M a2 = some (.inr (1, va2))) (f3 : gNth va2 15 = some (.int y4)) (hz : Ev none e 58 (if y4 ≤ k then 198 else 41) [some (.ref w), some (.int t), some (.int bf), some (.int n), some (.int k), x5, x6, x7, x8] [] M v M' 0 0) : Ev none e 58 29 [some (.ref w), some (.int t), some (.int bf), some (.int n), some (.int k), x5, x6, x7, x8] [] M v M' 0 0 := by
  refine Ev.step (pc' := 32) (ls' := [some (.ref w), some (.int t), some (.int bf), some (.int n), some (.int k), x5, x6, x7, x8]) (st' := [.ref w, .int k]) (M1 := M) 2 (fun n => rfl) ?_
  refine Ev.step 1 (gs_3 rfl rfl (gf_c rfl hw f1)) ?_
  refine Ev.step 1 (gs_3 rfl rfl (gf_c rfl ha2 f3)) ?_
  refine Ev.step (pc' := (if y4 ≤ k then 198 else 41)) (ls' := [some (.ref w), some (.int t), some (.int bf), some (.int n), some (.int k), x5, x6, x7, x8]) (st' := []) (M1 := M) 1 (fun n => rfl) ?_
  exact hz
theorem go_41 {e : Nat} {M : Mem} {M' : Mem} {v : Option Value} {va12 va2 va6 vw : List Value} {bf k n t y10 y16 y18 y20 : Int32} {a12 a14 a2 a4 a6 a8 w : Nat} {la14 : List Int32} {la4 la8 : List (Option Nat)} {x5 x6 x7 x8 : Option Value} (hw : gNth M w = some (.inr (7, vw))) (f1 : gNth vw 7 = some (.ref a2)) (ha2 : gNth M a2 = some (.inr (1, va2))) (f3 : gNth va2 14 = some (.ref a4)) (ra4 : gNth M a4 = some (.inl (6, .inr (.inr la4)))) (g5 : gAt la4 k = some (some a6)) (f7 : gNth va2 12 = some (.ref a8)) (ha6 : gNth M a6 = some (.inr (8, va6))) (f9 : gNth va6 1 = some (.int y10)) (ra8 : gNth M a8 = some (.inl (7, .inr (.inr la8)))) (g11 : gAt la8 y10 = some (some a12)) (f13 : gNth va2 10 = some (.ref a14)) (ha12 : gNth M a12 = some (.inr (9, va12))) (f15 : gNth va12 1 = some (.int y16)) (ra14 : gNth M a14 = some (.inl (1, .inl la14))) (g17 : gAt la14 y16 = some y18) (f19 : gNth va12 2 = some (.int y20)) (hz : Ev none e 58 93 [some (.ref w), some (.int t), some (.int bf), some (.int n), some (.int k), some (.ref a6), some (.ref a12), some (.int y18), x8] [.int y20, .int y18, .ref a6, .ref w] M v M' 0 0) : Ev none e 58 41 [some (.ref w), some (.int t), some (.int bf), some (.int n), some (.int k), x5, x6, x7, x8] [] M v M' 0 0 := by
  refine Ev.step (pc' := 42) (ls' := [some (.ref w), some (.int t), some (.int bf), some (.int n), some (.int k), x5, x6, x7, x8]) (st' := [.ref w]) (M1 := M) 1 (fun n => rfl) ?_
  refine Ev.step 1 (gs_3 rfl rfl (gf_c rfl hw f1)) ?_
  refine Ev.step 1 (gs_3 rfl rfl (gf_c rfl ha2 f3)) ?_
  refine Ev.step (pc' := 50) (ls' := [some (.ref w), some (.int t), some (.int bf), some (.int n), some (.int k), x5, x6, x7, x8]) (st' := [.int k, .ref a4]) (M1 := M) 1 (fun n => rfl) ?_
  refine Ev.step 1 (gs_3 rfl rfl (aa_c ra4 g5 rfl)) ?_
  refine Ev.step (pc' := 54) (ls' := [some (.ref w), some (.int t), some (.int bf), some (.int n), some (.int k), some (.ref a6), x6, x7, x8]) (st' := [.ref w]) (M1 := M) 2 (fun n => rfl) ?_
  refine Ev.step 1 (gs_3 rfl rfl (gf_c rfl hw f1)) ?_
  refine Ev.step 1 (gs_3 rfl rfl (gf_c rfl ha2 f7)) ?_
  refine Ev.step (pc' := 62) (ls' := [some (.ref w), some (.int t), some (.int bf), some (.int n), some (.int k), some (.ref a6), x6, x7, x8]) (st' := [.ref a6, .ref a8]) (M1 := M) 1 (fun n => rfl) ?_
  refine Ev.step 1 (gs_3 rfl rfl (gf_c rfl ha6 f9)) ?_
  refine Ev.step 1 (gs_3 rfl rfl (aa_c ra8 g11 rfl)) ?_
  refine Ev.step (pc' := 69) (ls' := [some (.ref w), some (.int t), some (.int bf), some (.int n), some (.int k), some (.ref a6), some (.ref a12), x7, x8]) (st' := [.ref w]) (M1 := M) 2 (fun n => rfl) ?_
  refine Ev.step 1 (gs_3 rfl rfl (gf_c rfl hw f1)) ?_
  refine Ev.step 1 (gs_3 rfl rfl (gf_c rfl ha2 f13)) ?_
  refine Ev.step (pc' := 77) (ls' := [some (.ref w), some (.int t), some (.int bf), some (.int n), some (.int k), some (.ref a6), some (.ref a12), x7, x8]) (st' := [.ref a12, .ref a14]) (M1 := M) 1 (fun n => rfl) ?_
  refine Ev.step 1 (gs_3 rfl rfl (gf_c rfl ha12 f15)) ?_
  refine Ev.step 1 (gs_3 rfl rfl (ia_c ra14 g17)) ?_
  refine Ev.step (pc' := 90) (ls' := [some (.ref w), some (.int t), some (.int bf), some (.int n), some (.int k), some (.ref a6), some (.ref a12), some (.int y18), x8]) (st' := [.ref a12, .int y18, .ref a6, .ref w]) (M1 := M) 5 (fun n => rfl) ?_
  refine Ev.step 1 (gs_3 rfl rfl (gf_c rfl ha12 f19)) ?_
  exact hz
theorem go_96 {e : Nat} {M : Mem} {M' : Mem} {v : Option Value} {bf d gl k n t : Int32} {o w ws : Nat} {x8 : Option Value}  (hz : Ev none e 58 (if d = (-1) then 173 else 104) [some (.ref w), some (.int t), some (.int bf), some (.int n), some (.int k), some (.ref o), some (.ref ws), some (.int gl), some (.int d)] [] M v M' 0 0) : Ev none e 58 96 [some (.ref w), some (.int t), some (.int bf), some (.int n), some (.int k), some (.ref o), some (.ref ws), some (.int gl), x8] [.int d] M v M' 0 0 := by
  refine Ev.step (pc' := (if d = (-1) then 173 else 104)) (ls' := [some (.ref w), some (.int t), some (.int bf), some (.int n), some (.int k), some (.ref o), some (.ref ws), some (.int gl), some (.int d)]) (st' := []) (M1 := M) 4 (fun n => rfl) ?_
  exact hz
theorem go_104 {e : Nat} {M : Mem} {M' : Mem} {v : Option Value} {va2 vo vw : List Value} {bf d gl k n t y6 y8 : Int32} {a2 a4 o w ws : Nat} {la4 : List Int32} (hw : gNth M w = some (.inr (7, vw))) (f1 : gNth vw 7 = some (.ref a2)) (ha2 : gNth M a2 = some (.inr (1, va2))) (f3 : gNth va2 9 = some (.ref a4)) (ho : gNth M o = some (.inr (8, vo))) (f5 : gNth vo 0 = some (.int y6)) (ra4 : gNth M a4 = some (.inl (1, .inl la4))) (g7 : gAt la4 y6 = some y8) (hz : Ev none e 58 121 [some (.ref w), some (.int t), some (.int bf), some (.int n), some (.int k), some (.ref o), some (.ref ws), some (.int gl), some (.int d)] [] (gPut M a4 (.inl (1, .inl (gPut la4 y6.toNatClampNeg (y8 - 1))))) v M' 0 0) : Ev none e 58 104 [some (.ref w), some (.int t), some (.int bf), some (.int n), some (.int k), some (.ref o), some (.ref ws), some (.int gl), some (.int d)] [] M v M' 0 0 := by
  refine Ev.step (pc' := 105) (ls' := [some (.ref w), some (.int t), some (.int bf), some (.int n), some (.int k), some (.ref o), some (.ref ws), some (.int gl), some (.int d)]) (st' := [.ref w]) (M1 := M) 1 (fun n => rfl) ?_
  refine Ev.step 1 (gs_3 rfl rfl (gf_c rfl hw f1)) ?_
  refine Ev.step 1 (gs_3 rfl rfl (gf_c rfl ha2 f3)) ?_
  refine Ev.step (pc' := 113) (ls' := [some (.ref w), some (.int t), some (.int bf), some (.int n), some (.int k), some (.ref o), some (.ref ws), some (.int gl), some (.int d)]) (st' := [.ref o, .ref a4]) (M1 := M) 1 (fun n => rfl) ?_
  refine Ev.step 1 (gs_3 rfl rfl (gf_c rfl ho f5)) ?_
  refine Ev.step (pc' := 117) (ls' := [some (.ref w), some (.int t), some (.int bf), some (.int n), some (.int k), some (.ref o), some (.ref ws), some (.int gl), some (.int d)]) (st' := [.int y6, .ref a4, .int y6, .ref a4]) (M1 := M) 1 (fun n => rfl) ?_
  refine Ev.step 1 (gs_3 rfl rfl (ia_c ra4 g7)) ?_
  refine Ev.step (pc' := 120) (ls' := [some (.ref w), some (.int t), some (.int bf), some (.int n), some (.int k), some (.ref o), some (.ref ws), some (.int gl), some (.int d)]) (st' := [.int (y8 - 1), .int y6, .ref a4]) (M1 := M) 2 (fun n => rfl) ?_
  refine Ev.step 1 (gs_4 rfl rfl (is_c ra4 g7)) ?_
  exact hz
theorem go_121 {e : Nat} {M : Mem} {M' : Mem} {v : Option Value} {va2 vo vw : List Value} {bf d gl k n t y6 y8 : Int32} {a2 a4 o w ws : Nat} {la4 : List Int32} (hw : gNth M w = some (.inr (7, vw))) (f1 : gNth vw 0 = some (.ref a2)) (ha2 : gNth M a2 = some (.inr (0, va2))) (f3 : gNth va2 2 = some (.ref a4)) (ho : gNth M o = some (.inr (8, vo))) (f5 : gNth vo 0 = some (.int y6)) (ra4 : gNth M a4 = some (.inl (1, .inl la4))) (g7 : gAt la4 ((8 * y6) + d) = some y8) (hz : Ev none e 58 144 [some (.ref w), some (.int t), some (.int bf), some (.int n), some (.int k), some (.ref o), some (.ref ws), some (.int gl), some (.int d)] [.int d, .int y8, .ref o] M v M' 0 0) : Ev none e 58 121 [some (.ref w), some (.int t), some (.int bf), some (.int n), some (.int k), some (.ref o), some (.ref ws), some (.int gl), some (.int d)] [] M v M' 0 0 := by
  refine Ev.step (pc' := 124) (ls' := [some (.ref w), some (.int t), some (.int bf), some (.int n), some (.int k), some (.ref o), some (.ref ws), some (.int gl), some (.int d)]) (st' := [.ref w, .ref o]) (M1 := M) 2 (fun n => rfl) ?_
  refine Ev.step 1 (gs_3 rfl rfl (gf_c rfl hw f1)) ?_
  refine Ev.step 1 (gs_3 rfl rfl (gf_c rfl ha2 f3)) ?_
  refine Ev.step (pc' := 134) (ls' := [some (.ref w), some (.int t), some (.int bf), some (.int n), some (.int k), some (.ref o), some (.ref ws), some (.int gl), some (.int d)]) (st' := [.ref o, .int 8, .ref a4, .ref o]) (M1 := M) 2 (fun n => rfl) ?_
  refine Ev.step 1 (gs_3 rfl rfl (gf_c rfl ho f5)) ?_
  refine Ev.step (pc' := 141) (ls' := [some (.ref w), some (.int t), some (.int bf), some (.int n), some (.int k), some (.ref o), some (.ref ws), some (.int gl), some (.int d)]) (st' := [.int ((8 * y6) + d), .ref a4, .ref o]) (M1 := M) 3 (fun n => rfl) ?_
  refine Ev.step 1 (gs_3 rfl rfl (ia_c ra4 g7)) ?_
  refine Ev.step (pc' := 144) (ls' := [some (.ref w), some (.int t), some (.int bf), some (.int n), some (.int k), some (.ref o), some (.ref ws), some (.int gl), some (.int d)]) (st' := [.int d, .int y8, .ref o]) (M1 := M) 1 (fun n => rfl) ?_
  exact hz
theorem go_147 {e : Nat} {M : Mem} {M' : Mem} {v : Option Value} {va2 vo vw : List Value} {bf d gl k n t y6 y8 : Int32} {a2 a4 o w ws : Nat} {la4 : List Int32} (hw : gNth M w = some (.inr (7, vw))) (f1 : gNth vw 7 = some (.ref a2)) (ha2 : gNth M a2 = some (.inr (1, va2))) (f3 : gNth va2 9 = some (.ref a4)) (ho : gNth M o = some (.inr (8, vo))) (f5 : gNth vo 0 = some (.int y6)) (ra4 : gNth M a4 = some (.inl (1, .inl la4))) (g7 : gAt la4 y6 = some y8) (hz : Ev none e 58 164 [some (.ref w), some (.int t), some (.int bf), some (.int n), some (.int k), some (.ref o), some (.ref ws), some (.int gl), some (.int d)] [] (gPut M a4 (.inl (1, .inl (gPut la4 y6.toNatClampNeg (y8 + 1))))) v M' 0 0) : Ev none e 58 147 [some (.ref w), some (.int t), some (.int bf), some (.int n), some (.int k), some (.ref o), some (.ref ws), some (.int gl), some (.int d)] [] M v M' 0 0 := by
  refine Ev.step (pc' := 148) (ls' := [some (.ref w), some (.int t), some (.int bf), some (.int n), some (.int k), some (.ref o), some (.ref ws), some (.int gl), some (.int d)]) (st' := [.ref w]) (M1 := M) 1 (fun n => rfl) ?_
  refine Ev.step 1 (gs_3 rfl rfl (gf_c rfl hw f1)) ?_
  refine Ev.step 1 (gs_3 rfl rfl (gf_c rfl ha2 f3)) ?_
  refine Ev.step (pc' := 156) (ls' := [some (.ref w), some (.int t), some (.int bf), some (.int n), some (.int k), some (.ref o), some (.ref ws), some (.int gl), some (.int d)]) (st' := [.ref o, .ref a4]) (M1 := M) 1 (fun n => rfl) ?_
  refine Ev.step 1 (gs_3 rfl rfl (gf_c rfl ho f5)) ?_
  refine Ev.step (pc' := 160) (ls' := [some (.ref w), some (.int t), some (.int bf), some (.int n), some (.int k), some (.ref o), some (.ref ws), some (.int gl), some (.int d)]) (st' := [.int y6, .ref a4, .int y6, .ref a4]) (M1 := M) 1 (fun n => rfl) ?_
  refine Ev.step 1 (gs_3 rfl rfl (ia_c ra4 g7)) ?_
  refine Ev.step (pc' := 163) (ls' := [some (.ref w), some (.int t), some (.int bf), some (.int n), some (.int k), some (.ref o), some (.ref ws), some (.int gl), some (.int d)]) (st' := [.int (y8 + 1), .int y6, .ref a4]) (M1 := M) 2 (fun n => rfl) ?_
  refine Ev.step 1 (gs_4 rfl rfl (is_c ra4 g7)) ?_
  exact hz
theorem go_164 {e : Nat} {M : Mem} {M' : Mem} {v : Option Value} {vo : List Value} {bf d gl k n t y2 : Int32} {o w ws : Nat} (ho : gNth M o = some (.inr (8, vo))) (f1 : gNth vo 0 = some (.int y2)) (hz : Ev none e 58 170 [some (.ref w), some (.int t), some (.int bf), some (.int n), some (.int k), some (.ref o), some (.ref ws), some (.int gl), some (.int d)] [.int y2, .ref w] M v M' 0 0) : Ev none e 58 164 [some (.ref w), some (.int t), some (.int bf), some (.int n), some (.int k), some (.ref o), some (.ref ws), some (.int gl), some (.int d)] [] M v M' 0 0 := by
  refine Ev.step (pc' := 167) (ls' := [some (.ref w), some (.int t), some (.int bf), some (.int n), some (.int k), some (.ref o), some (.ref ws), some (.int gl), some (.int d)]) (st' := [.ref o, .ref w]) (M1 := M) 2 (fun n => rfl) ?_
  refine Ev.step 1 (gs_3 rfl rfl (gf_c rfl ho f1)) ?_
  exact hz
theorem go_173 {e : Nat} {M : Mem} {M' : Mem} {v : Option Value} {vo : List Value} {bf d gl k n t y2 : Int32} {o w ws : Nat} (ho : gNth M o = some (.inr (8, vo))) (f1 : gNth vo 2 = some (.int y2)) (hlo : 2 < vo.length) (hz : Ev none e 58 184 [some (.ref w), some (.int t), some (.int bf), some (.int n), some (.int k), some (.ref o), some (.ref ws), some (.int gl), some (.int d)] [] (gPut M o (.inr (8, gPut vo 2 (.int (y2 + 1))))) v M' 0 0) : Ev none e 58 173 [some (.ref w), some (.int t), some (.int bf), some (.int n), some (.int k), some (.ref o), some (.ref ws), some (.int gl), some (.int d)] [] M v M' 0 0 := by
  refine Ev.step (pc' := 176) (ls' := [some (.ref w), some (.int t), some (.int bf), some (.int n), some (.int k), some (.ref o), some (.ref ws), some (.int gl), some (.int d)]) (st' := [.ref o, .ref o]) (M1 := M) 2 (fun n => rfl) ?_
  refine Ev.step 1 (gs_3 rfl rfl (gf_c rfl ho f1)) ?_
  refine Ev.step (pc' := 181) (ls' := [some (.ref w), some (.int t), some (.int bf), some (.int n), some (.int k), some (.ref o), some (.ref ws), some (.int gl), some (.int d)]) (st' := [.int (y2 + 1), .ref o]) (M1 := M) 2 (fun n => rfl) ?_
  refine Ev.step 1 (gs_4 rfl rfl (pf_c rfl ho hlo rfl rfl)) ?_
  exact hz
theorem go_184 {e : Nat} {M : Mem} {M' : Mem} {v : Option Value} {bf d gl k n t : Int32} {o w ws : Nat}  (hz : Ev none e 58 189 [some (.ref w), some (.int t), some (.int bf), some (.int n), some (.int k), some (.ref o), some (.ref ws), some (.int gl), some (.int d)] [.int gl, .ref o, .ref w] M v M' 0 0) : Ev none e 58 184 [some (.ref w), some (.int t), some (.int bf), some (.int n), some (.int k), some (.ref o), some (.ref ws), some (.int gl), some (.int d)] [] M v M' 0 0 := by
  refine Ev.step (pc' := 189) (ls' := [some (.ref w), some (.int t), some (.int bf), some (.int n), some (.int k), some (.ref o), some (.ref ws), some (.int gl), some (.int d)]) (st' := [.int gl, .ref o, .ref w]) (M1 := M) 3 (fun n => rfl) ?_
  exact hz
theorem go_192 {e : Nat} {M : Mem} {M' : Mem} {v : Option Value} {bf d gl k n t : Int32} {o w ws : Nat}  (hz : Ev none e 58 29 [some (.ref w), some (.int t), some (.int bf), some (.int n), some (.int (k + 1)), some (.ref o), some (.ref ws), some (.int gl), some (.int d)] [] M v M' 0 0) : Ev none e 58 192 [some (.ref w), some (.int t), some (.int bf), some (.int n), some (.int k), some (.ref o), some (.ref ws), some (.int gl), some (.int d)] [] M v M' 0 0 := by
  refine Ev.step (pc' := 29) (ls' := [some (.ref w), some (.int t), some (.int bf), some (.int n), some (.int (k + 1)), some (.ref o), some (.ref ws), some (.int gl), some (.int d)]) (st' := []) (M1 := M) 2 (fun n => rfl) ?_
  exact hz
theorem go_198 {e : Nat} {M : Mem} {M' : Mem} {v : Option Value} {bf k n t : Int32} {w : Nat} {x5 x6 x7 x8 : Option Value}  (hz : Ev none e 58 199 [some (.ref w), some (.int t), some (.int bf), some (.int n), some (.int k), x5, x6, x7, x8] [.ref w] M v M' 0 0) : Ev none e 58 198 [some (.ref w), some (.int t), some (.int bf), some (.int n), some (.int k), x5, x6, x7, x8] [] M v M' 0 0 := by
  refine Ev.step (pc' := 199) (ls' := [some (.ref w), some (.int t), some (.int bf), some (.int n), some (.int k), x5, x6, x7, x8]) (st' := [.ref w]) (M1 := M) 1 (fun n => rfl) ?_
  exact hz
theorem go_202 {e : Nat} {M : Mem} {M' : Mem} {v : Option Value} {va2 vw : List Value} {bf n t y4 : Int32} {a2 w : Nat} {x4 x5 x6 x7 x8 : Option Value} (hw : gNth M w = some (.inr (7, vw))) (f1 : gNth vw 7 = some (.ref a2)) (ha2 : gNth M a2 = some (.inr (1, va2))) (f3 : gNth va2 16 = some (.int y4)) (hla2 : 16 < va2.length) (hz : Ev none e 58 10 [some (.ref w), some (.int t), some (.int bf), some (.int (n + 1)), x4, x5, x6, x7, x8] [] (gPut M a2 (.inr (1, gPut va2 16 (.int (y4 + 1))))) v M' 0 0) : Ev none e 58 202 [some (.ref w), some (.int t), some (.int bf), some (.int n), x4, x5, x6, x7, x8] [] M v M' 0 0 := by
  refine Ev.step (pc' := 203) (ls' := [some (.ref w), some (.int t), some (.int bf), some (.int n), x4, x5, x6, x7, x8]) (st' := [.ref w]) (M1 := M) 1 (fun n => rfl) ?_
  refine Ev.step 1 (gs_3 rfl rfl (gf_c rfl hw f1)) ?_
  refine Ev.step (pc' := 207) (ls' := [some (.ref w), some (.int t), some (.int bf), some (.int n), x4, x5, x6, x7, x8]) (st' := [.ref a2, .ref a2]) (M1 := M) 1 (fun n => rfl) ?_
  refine Ev.step 1 (gs_3 rfl rfl (gf_c rfl ha2 f3)) ?_
  refine Ev.step (pc' := 212) (ls' := [some (.ref w), some (.int t), some (.int bf), some (.int n), x4, x5, x6, x7, x8]) (st' := [.int (y4 + 1), .ref a2]) (M1 := M) 2 (fun n => rfl) ?_
  refine Ev.step 1 (gs_4 rfl rfl (pf_c rfl ha2 hla2 rfl rfl)) ?_
  refine Ev.step (pc' := 10) (ls' := [some (.ref w), some (.int t), some (.int bf), some (.int (n + 1)), x4, x5, x6, x7, x8]) (st' := []) (M1 := (gPut M a2 (.inr (1, gPut va2 16 (.int (y4 + 1)))))) 2 (fun n => rfl) ?_
  exact hz
theorem go_221 {e : Nat} {M : Mem} {va2 vw : List Value} {bf n t y4 : Int32} {a2 w : Nat} {x4 x5 x6 x7 x8 : Option Value} (hw : gNth M w = some (.inr (7, vw))) (f1 : gNth vw 7 = some (.ref a2)) (ha2 : gNth M a2 = some (.inr (1, va2))) (f3 : gNth va2 17 = some (.int y4)) : Ev none e 58 221 [some (.ref w), some (.int t), some (.int bf), some (.int n), x4, x5, x6, x7, x8] [] M (some (.int (y4 - bf))) M 0 0 := by
  refine Ev.step (pc' := 222) (ls' := [some (.ref w), some (.int t), some (.int bf), some (.int n), x4, x5, x6, x7, x8]) (st' := [.ref w]) (M1 := M) 1 (fun n => rfl) ?_
  refine Ev.step 1 (gs_3 rfl rfl (gf_c rfl hw f1)) ?_
  refine Ev.step 1 (gs_3 rfl rfl (gf_c rfl ha2 f3)) ?_
  refine Ev.step (pc' := 230) (ls' := [some (.ref w), some (.int t), some (.int bf), some (.int n), x4, x5, x6, x7, x8]) (st' := [.int (y4 - bf)]) (M1 := M) 2 (fun n => rfl) ?_
  exact Ev.ret (fun n => rfl)
