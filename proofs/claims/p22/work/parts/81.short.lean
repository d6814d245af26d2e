/-! BY HAND: shortest of the reference -/
theorem iw_0 {e : Nat} {M : Mem} {M' : Mem} {v : Option Value} {c : Int32}  (hz : Ev none (e + 1) 150 3 [some (.ref 633), some (.int c)] [.int 3, .int c, .ref 633] M v M' 0 0) : Ev none (e + 1) 150 0 [some (.ref 633), some (.int c)] [] M v M' 0 0 := by
  refine Ev.step (pc' := 3) (ls' := [some (.ref 633), some (.int c)]) (st' := [.int 3, .int c, .ref 633]) (M1 := M) 3 (fun n => rfl) ?_
  exact hz
theorem iw_6 {e : Nat} {M : Mem} {M' : Mem} {v : Option Value} {vs : List Value} {c f28 z : Int32} (hM : gNth M 633 = some (.inr (11, vs))) (v28 : gNth vs 28 = some (.int f28)) (hz : Ev none (e + 1) 150 (if z < f28 then 17 else 13) [some (.ref 633), some (.int c)] [] M v M' 0 0) : Ev none (e + 1) 150 6 [some (.ref 633), some (.int c)] [.int z] M v M' 0 0 := by
  refine Ev.step (pc' := 7) (ls' := [some (.ref 633), some (.int c)]) (st' := [.ref 633, .int z]) (M1 := M) 1 (fun n => rfl) ?_
  refine Ev.step 1 (gs_3 rfl rfl (gf_g rfl hM v28)) ?_
  refine Ev.step (pc' := (if z < f28 then 17 else 13)) (ls' := [some (.ref 633), some (.int c)]) (st' := []) (M1 := M) 1 (fun n => rfl) ?_
  exact hz
theorem iw_13 {e : Nat} {M : Mem} {c : Int32}  : Ev none (e + 1) 150 13 [some (.ref 633), some (.int c)] [] M (some (.int 1)) M 0 0 := by
  refine Ev.step (pc' := 18) (ls' := [some (.ref 633), some (.int c)]) (st' := [.int 1]) (M1 := M) 2 (fun n => rfl) ?_
  exact Ev.ret (fun n => rfl)
theorem iw_17 {e : Nat} {M : Mem} {c : Int32}  : Ev none (e + 1) 150 17 [some (.ref 633), some (.int c)] [] M (some (.int 0)) M 0 0 := by
  refine Ev.step (pc' := 18) (ls' := [some (.ref 633), some (.int c)]) (st' := [.int 0]) (M1 := M) 1 (fun n => rfl) ?_
  exact Ev.ret (fun n => rfl)
theorem sho_0 {e : Nat} {M : Mem} {M' : Mem} {v : Option Value} {a b f : Int32}  (hz : Ev none (e + 3) 227 3 [some (.ref 633), some (.int a), some (.int b), some (.int f), some (.int 0), none, none, none, none] [] M v M' 0 0) : Ev none (e + 3) 227 0 [some (.ref 633), some (.int a), some (.int b), some (.int f), none, none, none, none, none] [] M v M' 0 0 := by
  refine Ev.step (pc' := 3) (ls' := [some (.ref 633), some (.int a), some (.int b), some (.int f), some (.int 0), none, none, none, none]) (st' := []) (M1 := M) 2 (fun n => rfl) ?_
  exact hz
theorem sh_3 {e : Nat} {M : Mem} {M' : Mem} {v : Option Value} {a b c f : Int32} {x5 x6 x7 x8 : Option Value}  (hz : Ev none (e + 3) 227 6 [some (.ref 633), some (.int a), some (.int b), some (.int f), some (.int c), x5, x6, x7, x8] [.ref 633, .int c] M v M' 0 0) : Ev none (e + 3) 227 3 [some (.ref 633), some (.int a), some (.int b), some (.int f), some (.int c), x5, x6, x7, x8] [] M v M' 0 0 := by
  refine Ev.step (pc' := 6) (ls' := [some (.ref 633), some (.int a), some (.int b), some (.int f), some (.int c), x5, x6, x7, x8]) (st' := [.ref 633, .int c]) (M1 := M) 2 (fun n => rfl) ?_
  exact hz
theorem sh_9 {e : Nat} {M : Mem} {M' : Mem} {v : Option Value} {a b c f z : Int32} {x5 x6 x7 x8 : Option Value}  (hz : Ev none (e + 3) 227 (if z ≤ c then 28 else 12) [some (.ref 633), some (.int a), some (.int b), some (.int f), some (.int c), x5, x6, x7, x8] [] M v M' 0 0) : Ev none (e + 3) 227 9 [some (.ref 633), some (.int a), some (.int b), some (.int f), some (.int c), x5, x6, x7, x8] [.int z, .int c] M v M' 0 0 := by
  refine Ev.step (pc' := (if z ≤ c then 28 else 12)) (ls' := [some (.ref 633), some (.int a), some (.int b), some (.int f), some (.int c), x5, x6, x7, x8]) (st' := []) (M1 := M) 1 (fun n => rfl) ?_
  exact hz
theorem sh_12 {e : Nat} {M : Mem} {M' : Mem} {v : Option Value} {vs : List Value} {a b c f y1 : Int32} {l655 : List Int32} {x5 x6 x7 x8 : Option Value} (hM : gNth M 633 = some (.inr (11, vs))) (v48 : gNth vs 48 = some (.ref 655)) (r655 : gNth M 655 = some (.inl (1, .inl l655))) (g1 : gAt l655 c = some y1) (hz : Ev none (e + 3) 227 3 [some (.ref 633), some (.int a), some (.int b), some (.int f), some (.int (c + 1)), x5, x6, x7, x8] [] (gPut M 655 (.inl (1, .inl (gPut l655 c.toNatClampNeg 10000000)))) v M' 0 0) : Ev none (e + 3) 227 12 [some (.ref 633), some (.int a), some (.int b), some (.int f), some (.int c), x5, x6, x7, x8] [] M v M' 0 0 := by
  refine Ev.step (pc' := 13) (ls' := [some (.ref 633), some (.int a), some (.int b), some (.int f), some (.int c), x5, x6, x7, x8]) (st' := [.ref 633]) (M1 := M) 1 (fun n => rfl) ?_
  refine Ev.step 1 (gs_3 rfl rfl (gf_g rfl hM v48)) ?_
  refine Ev.step (pc' := 21) (ls' := [some (.ref 633), some (.int a), some (.int b), some (.int f), some (.int c), x5, x6, x7, x8]) (st' := [.int 10000000, .int c, .ref 655]) (M1 := M) 2 (fun n => rfl) ?_
  refine Ev.step 1 (gs_4 rfl rfl (is_g r655 g1)) ?_
  refine Ev.step (pc' := 3) (ls' := [some (.ref 633), some (.int a), some (.int b), some (.int f), some (.int (c + 1)), x5, x6, x7, x8]) (st' := []) (M1 := (gPut M 655 (.inl (1, .inl (gPut l655 c.toNatClampNeg 10000000))))) 2 (fun n => rfl) ?_
  exact hz
theorem sh_28 {e : Nat} {M : Mem} {M' : Mem} {v : Option Value} {vs : List Value} {a b c f y1 : Int32} {l655 : List Int32} {x5 x6 x7 x8 : Option Value} (hM : gNth M 633 = some (.inr (11, vs))) (v48 : gNth vs 48 = some (.ref 655)) (r655 : gNth M 655 = some (.inl (1, .inl l655))) (g1 : gAt l655 a = some y1) (hz : Ev none (e + 3) 227 38 [some (.ref 633), some (.int a), some (.int b), some (.int f), some (.int 1), x5, x6, x7, x8] [] (gPut M 655 (.inl (1, .inl (gPut l655 a.toNatClampNeg 0)))) v M' 0 0) : Ev none (e + 3) 227 28 [some (.ref 633), some (.int a), some (.int b), some (.int f), some (.int c), x5, x6, x7, x8] [] M v M' 0 0 := by
  refine Ev.step (pc' := 29) (ls' := [some (.ref 633), some (.int a), some (.int b), some (.int f), some (.int c), x5, x6, x7, x8]) (st' := [.ref 633]) (M1 := M) 1 (fun n => rfl) ?_
  refine Ev.step 1 (gs_3 rfl rfl (gf_g rfl hM v48)) ?_
  refine Ev.step (pc' := 34) (ls' := [some (.ref 633), some (.int a), some (.int b), some (.int f), some (.int c), x5, x6, x7, x8]) (st' := [.int 0, .int a, .ref 655]) (M1 := M) 2 (fun n => rfl) ?_
  refine Ev.step 1 (gs_4 rfl rfl (is_g r655 g1)) ?_
  refine Ev.step (pc' := 38) (ls' := [some (.ref 633), some (.int a), some (.int b), some (.int f), some (.int 1), x5, x6, x7, x8]) (st' := []) (M1 := (gPut M 655 (.inl (1, .inl (gPut l655 a.toNatClampNeg 0))))) 2 (fun n => rfl) ?_
  exact hz
theorem sh_38 {e : Nat} {M : Mem} {M' : Mem} {v : Option Value} {a b f mo : Int32} {x5 x6 x7 x8 : Option Value}  (hz : Ev none (e + 3) 227 (if mo = 0 then 201 else 43) [some (.ref 633), some (.int a), some (.int b), some (.int f), some (.int mo), x5, x6, x7, x8] [] M v M' 0 0) : Ev none (e + 3) 227 38 [some (.ref 633), some (.int a), some (.int b), some (.int f), some (.int mo), x5, x6, x7, x8] [] M v M' 0 0 := by
  refine Ev.step (pc' := (if mo = 0 then 201 else 43)) (ls' := [some (.ref 633), some (.int a), some (.int b), some (.int f), some (.int mo), x5, x6, x7, x8]) (st' := []) (M1 := M) 2 (fun n => rfl) ?_
  exact hz
theorem sh_201 {e : Nat} {M : Mem} {vs : List Value} {a b f mo y1 : Int32} {l655 : List Int32} {x5 x6 x7 x8 : Option Value} (hM : gNth M 633 = some (.inr (11, vs))) (v48 : gNth vs 48 = some (.ref 655)) (r655 : gNth M 655 = some (.inl (1, .inl l655))) (g1 : gAt l655 b = some y1) : Ev none (e + 3) 227 201 [some (.ref 633), some (.int a), some (.int b), some (.int f), some (.int mo), x5, x6, x7, x8] [] M (some (.int y1)) M 0 0 := by
  refine Ev.step (pc' := 202) (ls' := [some (.ref 633), some (.int a), some (.int b), some (.int f), some (.int mo), x5, x6, x7, x8]) (st' := [.ref 633]) (M1 := M) 1 (fun n => rfl) ?_
  refine Ev.step 1 (gs_3 rfl rfl (gf_g rfl hM v48)) ?_
  refine Ev.step (pc' := 206) (ls' := [some (.ref 633), some (.int a), some (.int b), some (.int f), some (.int mo), x5, x6, x7, x8]) (st' := [.int b, .ref 655]) (M1 := M) 1 (fun n => rfl) ?_
  refine Ev.step 1 (gs_3 rfl rfl (ia_g r655 g1)) ?_
  exact Ev.ret (fun n => rfl)
theorem sh_43 {e : Nat} {M : Mem} {M' : Mem} {v : Option Value} {a b f mo : Int32} {x5 x6 x7 x8 : Option Value}  (hz : Ev none (e + 3) 227 49 [some (.ref 633), some (.int a), some (.int b), some (.int f), some (.int 0), some (.int 0), x6, x7, x8] [] M v M' 0 0) : Ev none (e + 3) 227 43 [some (.ref 633), some (.int a), some (.int b), some (.int f), some (.int mo), x5, x6, x7, x8] [] M v M' 0 0 := by
  refine Ev.step (pc' := 49) (ls' := [some (.ref 633), some (.int a), some (.int b), some (.int f), some (.int 0), some (.int 0), x6, x7, x8]) (st' := []) (M1 := M) 4 (fun n => rfl) ?_
  exact hz
theorem sh_49 {e : Nat} {M : Mem} {M' : Mem} {v : Option Value} {a b c f mo : Int32} {x6 x7 x8 : Option Value}  (hz : Ev none (e + 3) 227 52 [some (.ref 633), some (.int a), some (.int b), some (.int f), some (.int mo), some (.int c), x6, x7, x8] [.ref 633, .int c] M v M' 0 0) : Ev none (e + 3) 227 49 [some (.ref 633), some (.int a), some (.int b), some (.int f), some (.int mo), some (.int c), x6, x7, x8] [] M v M' 0 0 := by
  refine Ev.step (pc' := 52) (ls' := [some (.ref 633), some (.int a), some (.int b), some (.int f), some (.int mo), some (.int c), x6, x7, x8]) (st' := [.ref 633, .int c]) (M1 := M) 2 (fun n => rfl) ?_
  exact hz
theorem sh_55 {e : Nat} {M : Mem} {M' : Mem} {v : Option Value} {a b c f mo z : Int32} {x6 x7 x8 : Option Value}  (hz : Ev none (e + 3) 227 (if z ≤ c then 198 else 58) [some (.ref 633), some (.int a), some (.int b), some (.int f), some (.int mo), some (.int c), x6, x7, x8] [] M v M' 0 0) : Ev none (e + 3) 227 55 [some (.ref 633), some (.int a), some (.int b), some (.int f), some (.int mo), some (.int c), x6, x7, x8] [.int z, .int c] M v M' 0 0 := by
  refine Ev.step (pc' := (if z ≤ c then 198 else 58)) (ls' := [some (.ref 633), some (.int a), some (.int b), some (.int f), some (.int mo), some (.int c), x6, x7, x8]) (st' := []) (M1 := M) 1 (fun n => rfl) ?_
  exact hz
theorem sh_198 {e : Nat} {M : Mem} {M' : Mem} {v : Option Value} {a b c f mo : Int32} {x6 x7 x8 : Option Value}  (hz : Ev none (e + 3) 227 38 [some (.ref 633), some (.int a), some (.int b), some (.int f), some (.int mo), some (.int c), x6, x7, x8] [] M v M' 0 0) : Ev none (e + 3) 227 198 [some (.ref 633), some (.int a), some (.int b), some (.int f), some (.int mo), some (.int c), x6, x7, x8] [] M v M' 0 0 := by
  refine Ev.step (pc' := 38) (ls' := [some (.ref 633), some (.int a), some (.int b), some (.int f), some (.int mo), some (.int c), x6, x7, x8]) (st' := []) (M1 := M) 1 (fun n => rfl) ?_
  exact hz
theorem sh_58 {e : Nat} {M : Mem} {M' : Mem} {v : Option Value} {a b c f mo : Int32} {x6 x7 x8 : Option Value}  (hz : Ev none (e + 3) 227 61 [some (.ref 633), some (.int a), some (.int b), some (.int f), some (.int mo), some (.int c), x6, x7, x8] [.int c, .ref 633] M v M' 0 0) : Ev none (e + 3) 227 58 [some (.ref 633), some (.int a), some (.int b), some (.int f), some (.int mo), some (.int c), x6, x7, x8] [] M v M' 0 0 := by
  refine Ev.step (pc' := 61) (ls' := [some (.ref 633), some (.int a), some (.int b), some (.int f), some (.int mo), some (.int c), x6, x7, x8]) (st' := [.int c, .ref 633]) (M1 := M) 2 (fun n => rfl) ?_
  exact hz
theorem sh_64 {e : Nat} {M : Mem} {M' : Mem} {v : Option Value} {a b c f mo z : Int32} {x6 x7 x8 : Option Value}  (hz : Ev none (e + 3) 227 (if z = 0 then 192 else 67) [some (.ref 633), some (.int a), some (.int b), some (.int f), some (.int mo), some (.int c), x6, x7, x8] [] M v M' 0 0) : Ev none (e + 3) 227 64 [some (.ref 633), some (.int a), some (.int b), some (.int f), some (.int mo), some (.int c), x6, x7, x8] [.int z] M v M' 0 0 := by
  refine Ev.step (pc' := (if z = 0 then 192 else 67)) (ls' := [some (.ref 633), some (.int a), some (.int b), some (.int f), some (.int mo), some (.int c), x6, x7, x8]) (st' := []) (M1 := M) 1 (fun n => rfl) ?_
  exact hz
theorem sh_67 {e : Nat} {M : Mem} {M' : Mem} {v : Option Value} {a b c f mo : Int32} {x6 x7 x8 : Option Value}  (hz : Ev none (e + 3) 227 (if f = 0 then 104 else 71) [some (.ref 633), some (.int a), some (.int b), some (.int f), some (.int mo), some (.int c), x6, x7, x8] [] M v M' 0 0) : Ev none (e + 3) 227 67 [some (.ref 633), some (.int a), some (.int b), some (.int f), some (.int mo), some (.int c), x6, x7, x8] [] M v M' 0 0 := by
  refine Ev.step (pc' := (if f = 0 then 104 else 71)) (ls' := [some (.ref 633), some (.int a), some (.int b), some (.int f), some (.int mo), some (.int c), x6, x7, x8]) (st' := []) (M1 := M) 2 (fun n => rfl) ?_
  exact hz
theorem sh_71 {e : Nat} {M : Mem} {M' : Mem} {v : Option Value} {a b c f mo : Int32} {x6 x7 x8 : Option Value}  (hz : Ev none (e + 3) 227 (if c = a then 104 else 77) [some (.ref 633), some (.int a), some (.int b), some (.int f), some (.int mo), some (.int c), x6, x7, x8] [] M v M' 0 0) : Ev none (e + 3) 227 71 [some (.ref 633), some (.int a), some (.int b), some (.int f), some (.int mo), some (.int c), x6, x7, x8] [] M v M' 0 0 := by
  refine Ev.step (pc' := (if c = a then 104 else 77)) (ls' := [some (.ref 633), some (.int a), some (.int b), some (.int f), some (.int mo), some (.int c), x6, x7, x8]) (st' := []) (M1 := M) 3 (fun n => rfl) ?_
  exact hz
theorem sh_77 {e : Nat} {M : Mem} {M' : Mem} {v : Option Value} {a b c f mo : Int32} {x6 x7 x8 : Option Value}  (hz : Ev none (e + 3) 227 (if c = b then 104 else 83) [some (.ref 633), some (.int a), some (.int b), some (.int f), some (.int mo), some (.int c), x6, x7, x8] [] M v M' 0 0) : Ev none (e + 3) 227 77 [some (.ref 633), some (.int a), some (.int b), some (.int f), some (.int mo), some (.int c), x6, x7, x8] [] M v M' 0 0 := by
  refine Ev.step (pc' := (if c = b then 104 else 83)) (ls' := [some (.ref 633), some (.int a), some (.int b), some (.int f), some (.int mo), some (.int c), x6, x7, x8]) (st' := []) (M1 := M) 3 (fun n => rfl) ?_
  exact hz
theorem sh_83 {e : Nat} {M : Mem} {M' : Mem} {v : Option Value} {a b c f mo : Int32} {x6 x7 x8 : Option Value}  (hz : Ev none (e + 3) 227 86 [some (.ref 633), some (.int a), some (.int b), some (.int f), some (.int mo), some (.int c), x6, x7, x8] [.int c, .ref 633] M v M' 0 0) : Ev none (e + 3) 227 83 [some (.ref 633), some (.int a), some (.int b), some (.int f), some (.int mo), some (.int c), x6, x7, x8] [] M v M' 0 0 := by
  refine Ev.step (pc' := 86) (ls' := [some (.ref 633), some (.int a), some (.int b), some (.int f), some (.int mo), some (.int c), x6, x7, x8]) (st' := [.int c, .ref 633]) (M1 := M) 2 (fun n => rfl) ?_
  exact hz
theorem sh_89 {e : Nat} {M : Mem} {M' : Mem} {v : Option Value} {a b c f mo z : Int32} {x6 x7 x8 : Option Value}  (hz : Ev none (e + 3) 227 (if z = 0 then 104 else 92) [some (.ref 633), some (.int a), some (.int b), some (.int f), some (.int mo), some (.int c), x6, x7, x8] [] M v M' 0 0) : Ev none (e + 3) 227 89 [some (.ref 633), some (.int a), some (.int b), some (.int f), some (.int mo), some (.int c), x6, x7, x8] [.int z] M v M' 0 0 := by
  refine Ev.step (pc' := (if z = 0 then 104 else 92)) (ls' := [some (.ref 633), some (.int a), some (.int b), some (.int f), some (.int mo), some (.int c), x6, x7, x8]) (st' := []) (M1 := M) 1 (fun n => rfl) ?_
  exact hz
theorem sh_92 {e : Nat} {M : Mem} {M' : Mem} {v : Option Value} {a b c f mo : Int32} {x6 x7 x8 : Option Value}  (hz : Ev none (e + 3) 227 95 [some (.ref 633), some (.int a), some (.int b), some (.int f), some (.int mo), some (.int c), x6, x7, x8] [.int c, .ref 633] M v M' 0 0) : Ev none (e + 3) 227 92 [some (.ref 633), some (.int a), some (.int b), some (.int f), some (.int mo), some (.int c), x6, x7, x8] [] M v M' 0 0 := by
  refine Ev.step (pc' := 95) (ls' := [some (.ref 633), some (.int a), some (.int b), some (.int f), some (.int mo), some (.int c), x6, x7, x8]) (st' := [.int c, .ref 633]) (M1 := M) 2 (fun n => rfl) ?_
  exact hz
theorem sh_98 {e : Nat} {M : Mem} {M' : Mem} {v : Option Value} {a b c f mo z : Int32} {x6 x7 x8 : Option Value}  (hz : Ev none (e + 3) 227 (if z = 0 then 101 else 104) [some (.ref 633), some (.int a), some (.int b), some (.int f), some (.int mo), some (.int c), x6, x7, x8] [] M v M' 0 0) : Ev none (e + 3) 227 98 [some (.ref 633), some (.int a), some (.int b), some (.int f), some (.int mo), some (.int c), x6, x7, x8] [.int z] M v M' 0 0 := by
  refine Ev.step (pc' := (if z = 0 then 101 else 104)) (ls' := [some (.ref 633), some (.int a), some (.int b), some (.int f), some (.int mo), some (.int c), x6, x7, x8]) (st' := []) (M1 := M) 1 (fun n => rfl) ?_
  exact hz
theorem sh_101 {e : Nat} {M : Mem} {M' : Mem} {v : Option Value} {a b c f mo : Int32} {x6 x7 x8 : Option Value}  (hz : Ev none (e + 3) 227 192 [some (.ref 633), some (.int a), some (.int b), some (.int f), some (.int mo), some (.int c), x6, x7, x8] [] M v M' 0 0) : Ev none (e + 3) 227 101 [some (.ref 633), some (.int a), some (.int b), some (.int f), some (.int mo), some (.int c), x6, x7, x8] [] M v M' 0 0 := by
  refine Ev.step (pc' := 192) (ls' := [some (.ref 633), some (.int a), some (.int b), some (.int f), some (.int mo), some (.int c), x6, x7, x8]) (st' := []) (M1 := M) 1 (fun n => rfl) ?_
  exact hz
theorem sh_104 {e : Nat} {M : Mem} {M' : Mem} {v : Option Value} {a b c f mo : Int32} {x6 x7 x8 : Option Value}  (hz : Ev none (e + 3) 227 107 [some (.ref 633), some (.int a), some (.int b), some (.int f), some (.int mo), some (.int c), some (.int 0), x7, x8] [] M v M' 0 0) : Ev none (e + 3) 227 104 [some (.ref 633), some (.int a), some (.int b), some (.int f), some (.int mo), some (.int c), x6, x7, x8] [] M v M' 0 0 := by
  refine Ev.step (pc' := 107) (ls' := [some (.ref 633), some (.int a), some (.int b), some (.int f), some (.int mo), some (.int c), some (.int 0), x7, x8]) (st' := []) (M1 := M) 2 (fun n => rfl) ?_
  exact hz
theorem sh_107 {e : Nat} {M : Mem} {M' : Mem} {v : Option Value} {a b c d f mo : Int32} {x7 x8 : Option Value}  (hz : Ev none (e + 3) 227 (if 8 ≤ d then 192 else 114) [some (.ref 633), some (.int a), some (.int b), some (.int f), some (.int mo), some (.int c), some (.int d), x7, x8] [] M v M' 0 0) : Ev none (e + 3) 227 107 [some (.ref 633), some (.int a), some (.int b), some (.int f), some (.int mo), some (.int c), some (.int d), x7, x8] [] M v M' 0 0 := by
  refine Ev.step (pc' := (if 8 ≤ d then 192 else 114)) (ls' := [some (.ref 633), some (.int a), some (.int b), some (.int f), some (.int mo), some (.int c), some (.int d), x7, x8]) (st' := []) (M1 := M) 3 (fun n => rfl) ?_
  exact hz
theorem sh_192 {e : Nat} {M : Mem} {M' : Mem} {v : Option Value} {a b c f mo : Int32} {x6 x7 x8 : Option Value}  (hz : Ev none (e + 3) 227 49 [some (.ref 633), some (.int a), some (.int b), some (.int f), some (.int mo), some (.int (c + 1)), x6, x7, x8] [] M v M' 0 0) : Ev none (e + 3) 227 192 [some (.ref 633), some (.int a), some (.int b), some (.int f), some (.int mo), some (.int c), x6, x7, x8] [] M v M' 0 0 := by
  refine Ev.step (pc' := 49) (ls' := [some (.ref 633), some (.int a), some (.int b), some (.int f), some (.int mo), some (.int (c + 1)), x6, x7, x8]) (st' := []) (M1 := M) 2 (fun n => rfl) ?_
  exact hz
theorem sh_114 {e : Nat} {M : Mem} {M' : Mem} {v : Option Value} {a b c d f mo : Int32} {x7 x8 : Option Value}  (hz : Ev none (e + 3) 227 119 [some (.ref 633), some (.int a), some (.int b), some (.int f), some (.int mo), some (.int c), some (.int d), x7, x8] [.int d, .int c, .ref 633] M v M' 0 0) : Ev none (e + 3) 227 114 [some (.ref 633), some (.int a), some (.int b), some (.int f), some (.int mo), some (.int c), some (.int d), x7, x8] [] M v M' 0 0 := by
  refine Ev.step (pc' := 119) (ls' := [some (.ref 633), some (.int a), some (.int b), some (.int f), some (.int mo), some (.int c), some (.int d), x7, x8]) (st' := [.int d, .int c, .ref 633]) (M1 := M) 3 (fun n => rfl) ?_
  exact hz
theorem sh_122 {e : Nat} {M : Mem} {M' : Mem} {v : Option Value} {a b c d f mo z : Int32} {x7 x8 : Option Value}  (hz : Ev none (e + 3) 227 (if 0 ≤ z then 135 else 129) [some (.ref 633), some (.int a), some (.int b), some (.int f), some (.int mo), some (.int c), some (.int d), some (.int z), x8] [] M v M' 0 0) : Ev none (e + 3) 227 122 [some (.ref 633), some (.int a), some (.int b), some (.int f), some (.int mo), some (.int c), some (.int d), x7, x8] [.int z] M v M' 0 0 := by
  refine Ev.step (pc' := (if 0 ≤ z then 135 else 129)) (ls' := [some (.ref 633), some (.int a), some (.int b), some (.int f), some (.int mo), some (.int c), some (.int d), some (.int z), x8]) (st' := []) (M1 := M) 3 (fun n => rfl) ?_
  exact hz
theorem sh_129 {e : Nat} {M : Mem} {M' : Mem} {v : Option Value} {a b c d f mo o : Int32} {x8 : Option Value}  (hz : Ev none (e + 3) 227 157 [some (.ref 633), some (.int a), some (.int b), some (.int f), some (.int mo), some (.int c), some (.int d), some (.int o), x8] [.int 10000000] M v M' 0 0) : Ev none (e + 3) 227 129 [some (.ref 633), some (.int a), some (.int b), some (.int f), some (.int mo), some (.int c), some (.int d), some (.int o), x8] [] M v M' 0 0 := by
  refine Ev.step (pc' := 157) (ls' := [some (.ref 633), some (.int a), some (.int b), some (.int f), some (.int mo), some (.int c), some (.int d), some (.int o), x8]) (st' := [.int 10000000]) (M1 := M) 2 (fun n => rfl) ?_
  exact hz
theorem sh_135 {e : Nat} {M : Mem} {M' : Mem} {v : Option Value} {vs : List Value} {a b c d f mo o y1 : Int32} {l655 : List Int32} {x8 : Option Value} (hM : gNth M 633 = some (.inr (11, vs))) (v48 : gNth vs 48 = some (.ref 655)) (r655 : gNth M 655 = some (.inl (1, .inl l655))) (g1 : gAt l655 o = some y1) (hz : Ev none (e + 3) 227 (if (d - d / 2 * 2) = 0 then 149 else 154) [some (.ref 633), some (.int a), some (.int b), some (.int f), some (.int mo), some (.int c), some (.int d), some (.int o), x8] [.int y1] M v M' 0 0) : Ev none (e + 3) 227 135 [some (.ref 633), some (.int a), some (.int b), some (.int f), some (.int mo), some (.int c), some (.int d), some (.int o), x8] [] M v M' 0 0 := by
  refine Ev.step (pc' := 136) (ls' := [some (.ref 633), some (.int a), some (.int b), some (.int f), some (.int mo), some (.int c), some (.int d), some (.int o), x8]) (st' := [.ref 633]) (M1 := M) 1 (fun n => rfl) ?_
  refine Ev.step 1 (gs_3 rfl rfl (gf_g rfl hM v48)) ?_
  refine Ev.step (pc' := 141) (ls' := [some (.ref 633), some (.int a), some (.int b), some (.int f), some (.int mo), some (.int c), some (.int d), some (.int o), x8]) (st' := [.int o, .ref 655]) (M1 := M) 1 (fun n => rfl) ?_
  refine Ev.step 1 (gs_3 rfl rfl (ia_g r655 g1)) ?_
  refine Ev.step (pc' := 145) (ls' := [some (.ref 633), some (.int a), some (.int b), some (.int f), some (.int mo), some (.int c), some (.int d), some (.int o), x8]) (st' := [.int 2, .int d, .int y1]) (M1 := M) 2 (fun n => rfl) ?_
  refine Ev.step (pc' := (if (d - d / 2 * 2) = 0 then 149 else 154)) (ls' := [some (.ref 633), some (.int a), some (.int b), some (.int f), some (.int mo), some (.int c), some (.int d), some (.int o), x8]) (st' := [.int y1]) (M1 := M) 2 (fun n => rfl) ?_
  exact hz
theorem sh_149 {e : Nat} {M : Mem} {M' : Mem} {v : Option Value} {a b c d f mo o y : Int32} {x8 : Option Value}  (hz : Ev none (e + 3) 227 157 [some (.ref 633), some (.int a), some (.int b), some (.int f), some (.int mo), some (.int c), some (.int d), some (.int o), x8] [.int (y + 10)] M v M' 0 0) : Ev none (e + 3) 227 149 [some (.ref 633), some (.int a), some (.int b), some (.int f), some (.int mo), some (.int c), some (.int d), some (.int o), x8] [.int y] M v M' 0 0 := by
  refine Ev.step (pc' := 157) (ls' := [some (.ref 633), some (.int a), some (.int b), some (.int f), some (.int mo), some (.int c), some (.int d), some (.int o), x8]) (st' := [.int (y + 10)]) (M1 := M) 3 (fun n => rfl) ?_
  exact hz
theorem sh_154 {e : Nat} {M : Mem} {M' : Mem} {v : Option Value} {a b c d f mo o y : Int32} {x8 : Option Value}  (hz : Ev none (e + 3) 227 157 [some (.ref 633), some (.int a), some (.int b), some (.int f), some (.int mo), some (.int c), some (.int d), some (.int o), x8] [.int (y + 14)] M v M' 0 0) : Ev none (e + 3) 227 154 [some (.ref 633), some (.int a), some (.int b), some (.int f), some (.int mo), some (.int c), some (.int d), some (.int o), x8] [.int y] M v M' 0 0 := by
  refine Ev.step (pc' := 157) (ls' := [some (.ref 633), some (.int a), some (.int b), some (.int f), some (.int mo), some (.int c), some (.int d), some (.int o), x8]) (st' := [.int (y + 14)]) (M1 := M) 2 (fun n => rfl) ?_
  exact hz
theorem sh_157 {e : Nat} {M : Mem} {M' : Mem} {v : Option Value} {vs : List Value} {a b c d f mo o y y1 : Int32} {l655 : List Int32} {x8 : Option Value} (hM : gNth M 633 = some (.inr (11, vs))) (v48 : gNth vs 48 = some (.ref 655)) (r655 : gNth M 655 = some (.inl (1, .inl l655))) (g1 : gAt l655 c = some y1) (hz : Ev none (e + 3) 227 (if y < y1 then 174 else 171) [some (.ref 633), some (.int a), some (.int b), some (.int f), some (.int mo), some (.int c), some (.int d), some (.int o), some (.int y)] [] M v M' 0 0) : Ev none (e + 3) 227 157 [some (.ref 633), some (.int a), some (.int b), some (.int f), some (.int mo), some (.int c), some (.int d), some (.int o), x8] [.int y] M v M' 0 0 := by
  refine Ev.step (pc' := 162) (ls' := [some (.ref 633), some (.int a), some (.int b), some (.int f), some (.int mo), some (.int c), some (.int d), some (.int o), some (.int y)]) (st' := [.ref 633, .int y]) (M1 := M) 3 (fun n => rfl) ?_
  refine Ev.step 1 (gs_3 rfl rfl (gf_g rfl hM v48)) ?_
  refine Ev.step (pc' := 167) (ls' := [some (.ref 633), some (.int a), some (.int b), some (.int f), some (.int mo), some (.int c), some (.int d), some (.int o), some (.int y)]) (st' := [.int c, .ref 655, .int y]) (M1 := M) 1 (fun n => rfl) ?_
  refine Ev.step 1 (gs_3 rfl rfl (ia_g r655 g1)) ?_
  refine Ev.step (pc' := (if y < y1 then 174 else 171)) (ls' := [some (.ref 633), some (.int a), some (.int b), some (.int f), some (.int mo), some (.int c), some (.int d), some (.int o), some (.int y)]) (st' := []) (M1 := M) 1 (fun n => rfl) ?_
  exact hz
theorem sh_171 {e : Nat} {M : Mem} {M' : Mem} {v : Option Value} {a b c d f mo o vv : Int32}  (hz : Ev none (e + 3) 227 186 [some (.ref 633), some (.int a), some (.int b), some (.int f), some (.int mo), some (.int c), some (.int d), some (.int o), some (.int vv)] [] M v M' 0 0) : Ev none (e + 3) 227 171 [some (.ref 633), some (.int a), some (.int b), some (.int f), some (.int mo), some (.int c), some (.int d), some (.int o), some (.int vv)] [] M v M' 0 0 := by
  refine Ev.step (pc' := 186) (ls' := [some (.ref 633), some (.int a), some (.int b), some (.int f), some (.int mo), some (.int c), some (.int d), some (.int o), some (.int vv)]) (st' := []) (M1 := M) 1 (fun n => rfl) ?_
  exact hz
theorem sh_174 {e : Nat} {M : Mem} {M' : Mem} {v : Option Value} {vs : List Value} {a b c d f mo o vv y1 : Int32} {l655 : List Int32} (hM : gNth M 633 = some (.inr (11, vs))) (v48 : gNth vs 48 = some (.ref 655)) (r655 : gNth M 655 = some (.inl (1, .inl l655))) (g1 : gAt l655 c = some y1) (hz : Ev none (e + 3) 227 186 [some (.ref 633), some (.int a), some (.int b), some (.int f), some (.int 1), some (.int c), some (.int d), some (.int o), some (.int vv)] [] (gPut M 655 (.inl (1, .inl (gPut l655 c.toNatClampNeg vv)))) v M' 0 0) : Ev none (e + 3) 227 174 [some (.ref 633), some (.int a), some (.int b), some (.int f), some (.int mo), some (.int c), some (.int d), some (.int o), some (.int vv)] [] M v M' 0 0 := by
  refine Ev.step (pc' := 175) (ls' := [some (.ref 633), some (.int a), some (.int b), some (.int f), some (.int mo), some (.int c), some (.int d), some (.int o), some (.int vv)]) (st' := [.ref 633]) (M1 := M) 1 (fun n => rfl) ?_
  refine Ev.step 1 (gs_3 rfl rfl (gf_g rfl hM v48)) ?_
  refine Ev.step (pc' := 182) (ls' := [some (.ref 633), some (.int a), some (.int b), some (.int f), some (.int mo), some (.int c), some (.int d), some (.int o), some (.int vv)]) (st' := [.int vv, .int c, .ref 655]) (M1 := M) 2 (fun n => rfl) ?_
  refine Ev.step 1 (gs_4 rfl rfl (is_g r655 g1)) ?_
  refine Ev.step (pc' := 186) (ls' := [some (.ref 633), some (.int a), some (.int b), some (.int f), some (.int 1), some (.int c), some (.int d), some (.int o), some (.int vv)]) (st' := []) (M1 := (gPut M 655 (.inl (1, .inl (gPut l655 c.toNatClampNeg vv))))) 2 (fun n => rfl) ?_
  exact hz
theorem sh_186 {e : Nat} {M : Mem} {M' : Mem} {v : Option Value} {a b c d f mo o vv : Int32}  (hz : Ev none (e + 3) 227 107 [some (.ref 633), some (.int a), some (.int b), some (.int f), some (.int mo), some (.int c), some (.int (d + 1)), some (.int o), some (.int vv)] [] M v M' 0 0) : Ev none (e + 3) 227 186 [some (.ref 633), some (.int a), some (.int b), some (.int f), some (.int mo), some (.int c), some (.int d), some (.int o), some (.int vv)] [] M v M' 0 0 := by
  refine Ev.step (pc' := 107) (ls' := [some (.ref 633), some (.int a), some (.int b), some (.int f), some (.int mo), some (.int c), some (.int (d + 1)), some (.int o), some (.int vv)]) (st' := []) (M1 := M) 2 (fun n => rfl) ?_
  exact hz
theorem cal_gr2 {M : Mem} {vs : List Value} {a0 : Int32} {rest : List Value} (hM : gNth M 633 = some (.inr (11, vs))) (hr : gRoom rest = true) : gCal (.invokevirtual 356) 11 (.int a0 :: .ref 633 :: rest) M = some (.inr (149, [some (.ref 633), some (.int a0)], rest)) := by
  show @cond (Option ((List Value × Mem) ⊕ (Nat × Lo × List Value))) (true && gRecv M (.ref 633) 11 && gRoom rest && true) (some (.inr (149, [some (.ref 633), some (.int a0)], rest))) none = _
  rw [recv_ok hM, hr]
  rfl
theorem cal_iw {M : Mem} {vs : List Value} {a0 : Int32} {rest : List Value} (hM : gNth M 633 = some (.inr (11, vs))) (hr : gRoom rest = true) : gCal (.invokevirtual 140) 11 (.int a0 :: .ref 633 :: rest) M = some (.inr (150, [some (.ref 633), some (.int a0)], rest)) := by
  show @cond (Option ((List Value × Mem) ⊕ (Nat × Lo × List Value))) (true && gRecv M (.ref 633) 11 && gRoom rest && true) (some (.inr (150, [some (.ref 633), some (.int a0)], rest))) none = _
  rw [recv_ok hM, hr]
  rfl
set_option maxRecDepth 100000 in
theorem rw_83 : rwB 83 1 256 0 10000000 = true := by decide +kernel
set_option maxRecDepth 100000 in
theorem mf_83 : mfB 48 83 = true := by decide +kernel
set_option maxRecDepth 100000 in
theorem sU_83 : gNth sU 83 = some (some 655) := by decide +kernel
set_option maxRecDepth 100000 in
theorem sT_655 : gNth sT 655 = some 83 := by decide +kernel
set_option maxRecDepth 100000 in
theorem fB_28 : fldB 28 (-2147483648) 2147483647 = true := by decide +kernel
theorem cell_w {l : List Int32} (sl : l.length = 2314) {c : Int32} (c1 : 0 ≤ c.toInt) (c2 : c.toInt ≤ 255) : ∃ y, gAt l (522 + 7 * c + 3) = some y := by
  have e3 : (3 : Int32).toInt = 3 := rfl
  have ec := i32_cell (c := c) (k := 3) c1 c2 (by decide) (by decide)
  obtain ⟨kn, hkn⟩ : ∃ kn : Nat, (522 + 7 * c + 3 : Int32).toInt = (kn : Int) := ⟨(525 + 7 * c.toInt).toNat, by omega⟩
  obtain ⟨y, y1, y2⟩ := at_c (l := l) hkn (by omega)
  exact ⟨y, y1⟩
theorem ev_isWorn {M : Mem} {e : Nat} {vs : List Value} {l : List Int32} {c y : Int32} (hT : TM sT sG M) (hM : gNth M 633 = some (.inr (11, vs))) (h5 : gNth vs 5 = some (.ref 635)) (hs : gNth M 635 = some (.inl (1, .inl l))) (hy : gAt l (522 + 7 * c + 3) = some y) : ∃ r : Int32, Ev none (e + 1) 150 0 [some (.ref 633), some (.int c)] [] M (some (.int r)) M 0 0 := by
  obtain ⟨vs2, f, h1, _, h3, _⟩ := hT.fint fB_28
  cases hM.symm.trans h1
  by_cases hf : y < f
  · exact ⟨0, iw_0 (Ev.call0 (fun n => gs_7 rfl rfl (cal_of hM rfl)) (ev_of hM h5 hs hy) (iw_6 hM h3 (by rw [if_pos hf]; exact iw_17)))⟩
  · exact ⟨1, iw_0 (Ev.call0 (fun n => gs_7 rfl rfl (cal_of hM rfl)) (ev_of hM h5 hs hy) (iw_6 hM h3 (by rw [if_neg hf]; exact iw_13)))⟩
set_option maxRecDepth 100000 in
theorem ways_put {M : Mem} (hT : TM sT sG M) {l : List Int32} (hM : gNth M 655 = some (.inl (1, .inl l))) (i : Nat) {y : Int32} (h0 : 0 ≤ y.toInt) (h1 : y.toInt ≤ 10000000) : TM sT sG (gPut M 655 (.inl (1, .inl (gPut l i y)))) := by
  obtain ⟨l2, q1, q2, q3⟩ := hT.mrow sT_655 rw_83
  cases q1.symm.trans hM
  refine hT.putrow (n := 256) (lo := 0) (hi := 10000000) sT_655 (by decide +kernel) (by rw [put_len]; exact q2) (fun j x hj => ?_)
  rw [nth_put] at hj
  split at hj
  · cases hj
    exact ⟨h0, h1⟩
  · exact q3 j x hj
section SHN
variable {a b f w hh : Int32} {M0 : Mem} {e bn : Nat} {l0 : List Int32} {P : Prop}
/-- what stands while the ways are found -/
def ShS (P : Prop) (bn : Nat) (l0 : List Int32) (M0 : Mem) (M : Mem) (R : Nat → Prop) (B : Prop) : Prop := TM sT sG M ∧ Frm sT [(1083, 0)] M0 M ∧ gNth M 635 = some (.inl (1, .inl l0)) ∧ ∃ l, gNth M 655 = some (.inl (1, .inl l)) ∧ R (l.map mI).sum ∧ (P → B → ∀ y, gNth l bn = some y → 1 ≤ y.toInt)
def ShQ (P : Prop) (M0 : Mem) (v : Option Value) (M : Mem) : Prop := ∃ r : Int32, v = some (.int r) ∧ TM sT sG M ∧ Frm sT [(1083, 0)] M0 M ∧ (P → 1 ≤ r.toInt)
abbrev ShF (P : Prop) (a b f : Int32) (M0 : Mem) (e pc : Nat) (mo : Int32) (x5 x6 x7 x8 : Option Value) (M : Mem) : Prop := RF (ShQ P M0) [] (e + 3) 227 pc [some (.ref 633), some (.int a), some (.int b), some (.int f), some (.int mo), x5, x6, x7, x8] [] M
abbrev rk (mo : Int32) (s : Nat) (x : Nat) : Prop := (mo = 0 ∧ x ≤ s) ∨ (mo = 1 ∧ x < s)
theorem ShS.env {M : Mem} {R : Nat → Prop} {B : Prop} (h : ShS P bn l0 M0 M R B) : ∃ vs l, gNth M 633 = some (.inr (11, vs)) ∧ gNth vs 5 = some (.ref 635) ∧ gNth vs 48 = some (.ref 655) ∧ l0.length = 2314 ∧ gNth M 655 = some (.inl (1, .inl l)) ∧ l.length = 256 ∧ (∀ j x, gNth l j = some x → 0 ≤ x.toInt ∧ x.toInt ≤ 10000000) ∧ R (l.map mI).sum ∧ (P → B → ∀ y, gNth l bn = some y → 1 ≤ y.toInt) := by
  obtain ⟨hT, _, hs, l, h1, h2, h3⟩ := h
  obtain ⟨vs, l9, hM, h5, hs9, sl⟩ := hT.s_all
  cases hs.symm.trans hs9
  obtain ⟨vs9, hM9, hv⟩ := hT.mfld
  cases hM.symm.trans hM9
  obtain ⟨l2, q1, q2, q3⟩ := hT.mrow sT_655 rw_83
  cases h1.symm.trans q1
  exact ⟨vs, l, hM, h5, hv _ _ _ mf_83 sU_83, sl, h1, q2, q3, h2, h3⟩
theorem ShS.put {M : Mem} {R R2 : Nat → Prop} {B B2 : Prop} (h : ShS P bn l0 M0 M R B) {l : List Int32} (hl : gNth M 655 = some (.inl (1, .inl l))) {i : Nat} {v y : Int32} (hy : gNth l i = some y) (v0 : 0 ≤ v.toInt) (v1 : v.toInt ≤ 10000000) (hR : ∀ s s2, R s → s2 + mI y = s + mI v → R2 s2) (hB : P → B2 → (i = bn → 1 ≤ v.toInt) ∧ (i ≠ bn → B)) : ShS P bn l0 M0 (gPut M 655 (.inl (1, .inl (gPut l i v)))) R2 B2 := by
  obtain ⟨hT, hF, hs, l2, h1, h2, h3⟩ := h
  cases hl.symm.trans h1
  refine ⟨ways_put hT hl i v0 v1, hF.trans (Frm.row hl sT_655 (List.mem_singleton.mpr rfl)), by rw [nth_put, if_neg (fun q => absurd q.1 (by decide))]; exact hs, _, by rw [nth_put, if_pos ⟨rfl, gNth_lt _ _ _ hl⟩], hR _ _ h2 (sum_put _ _ hy), fun hp hb z hz => ?_⟩
  obtain ⟨q1, q2⟩ := hB hp hb
  rw [nth_put] at hz
  by_cases hi : bn = i ∧ i < l.length
  · rw [if_pos hi] at hz
    cases hz
    exact q1 hi.1.symm
  · rw [if_neg hi] at hz
    refine h3 hp (q2 (fun e => hi ⟨e.symm, gNth_lt _ _ _ hy⟩)) z hz
theorem wh_in (h0 : gAt l0 0 = some w) (h1 : gAt l0 1 = some hh) (w1 : 4 ≤ w.toInt) (w2 : w.toInt ≤ 16) (k1 : 4 ≤ hh.toInt) (k2 : hh.toInt ≤ 16) : (w * hh).toInt = w.toInt * hh.toInt ∧ 16 ≤ w.toInt * hh.toInt ∧ w.toInt * hh.toInt ≤ 256 := by
  have b1 : w.toInt * hh.toInt ≤ 16 * 16 := Int.mul_le_mul w2 k2 (by omega) (by omega)
  have b0 : 4 * 4 ≤ w.toInt * hh.toInt := Int.mul_le_mul w1 k1 (by omega) (by omega)
  exact ⟨i32_mul (by omega) (by omega), by omega, by omega⟩
/-- one way d -/
theorem sh_body (h0 : gAt l0 0 = some w) (h1 : gAt l0 1 = some hh) (w1 : 4 ≤ w.toInt) (w2 : w.toInt ≤ 16) (k1 : 4 ≤ hh.toInt) (k2 : hh.toInt ≤ 16) {s : Nat} {mo c d : Int32} {x7 x8 : Option Value} {M : Mem} (c0 : 0 ≤ c.toInt) (c1 : c.toInt ≤ 255) (h : ShS P bn l0 M0 M (rk mo s) True) (hD : ∀ mo x7 x8 M, ShS P bn l0 M0 M (rk mo s) True → ShF P a b f M0 e 107 mo (some (.int c)) (some (.int (d + 1))) x7 x8 M) : ShF P a b f M0 e 114 mo (some (.int c)) (some (.int d)) x7 x8 M := by
  obtain ⟨vs, l, hM, h5, h48, sl, hl, ll, lr, hR, hB⟩ := h.env
  obtain ⟨hT, hF, hs, _⟩ := id h
  have hw : ¬ w = 0 := by
    intro hz
    rw [hz] at w1
    exact absurd w1 (by decide)
  refine RF.pre (fun v M' hz => sh_114 (Ev.call0 (fun n => gs_7 rfl rfl (cal_bs hM rfl)) (ev_beside (e := e) hM h5 hs h0 h1 hw) (sh_122 hz))) ?_
  obtain ⟨o, eo⟩ : ∃ o, o = besI w hh c d := ⟨_, rfl⟩
  have ho := besI_in (c := c) (d := d) w1 w2 k1 k2
  rw [← eo] at ho ⊢
  obtain ⟨cn, hcn⟩ : ∃ cn : Nat, c.toInt = (cn : Int) := ⟨c.toInt.toNat, by omega⟩
  obtain ⟨xc, xc1, xc2⟩ := at_c (l := l) hcn (by omega)
  obtain ⟨r1, r2⟩ := lr _ _ xc2
  have last : ∀ (nv : Int32) (x8 : Option Value), 1 ≤ nv.toInt → nv.toInt ≤ 10000014 → RF (ShQ P M0) [] (e + 3) 227 157 [some (.ref 633), some (.int a), some (.int b), some (.int f), some (.int mo), some (.int c), some (.int d), some (.int o), x8] [.int nv] M := by
    intro nv x8 n0 n1
    refine RF.pre (fun v M' hz => sh_157 hM h48 hl xc1 hz) ?_
    by_cases hlt : nv < xc
    · rw [if_pos hlt]
      rw [Int32.lt_iff_toInt_lt] at hlt
      refine RF.pre (fun v M' hz => sh_174 hM h48 hl xc1 hz) ?_
      rw [cl_n hcn]
      refine RF.pre (fun v M' hz => sh_186 hz) (hD 1 _ _ _ (h.put hl xc2 (by omega) (by omega) (fun s2 s3 q1 q2 => ?_) (fun _ _ => ⟨fun _ => n0, fun _ => trivial⟩)))
      have := (mI_lt (x := nv) (y := xc)).2 hlt
      refine Or.inr ⟨rfl, ?_⟩
      rcases q1 with ⟨_, q1⟩ | ⟨_, q1⟩ <;> omega
    · rw [if_neg hlt]
      exact RF.pre (fun v M' hz => sh_171 (sh_186 hz)) (hD _ _ _ _ h)
  by_cases o0 : (0 : Int32) ≤ o
  · rw [if_pos o0]
    have ho : 0 ≤ o.toInt ∧ o.toInt ≤ 255 := by
      rcases ho with ho | ho
      · rw [ho] at o0
        exact absurd o0 (by decide)
      · exact ho
    obtain ⟨on, hon⟩ : ∃ on : Nat, o.toInt = (on : Int) := ⟨o.toInt.toNat, by omega⟩
    obtain ⟨xo, xo1, xo2⟩ := at_c (l := l) hon (by omega)
    obtain ⟨t1, t2⟩ := lr _ _ xo2
    refine RF.pre (fun v M' hz => sh_135 hM h48 hl xo1 hz) ?_
    have o10 : (10 : Int32).toInt = 10 := rfl
    have o14 : (14 : Int32).toInt = 14 := rfl
    by_cases hd : d - d / 2 * 2 = 0
    · rw [if_pos hd]
      have e1 : (xo + 10).toInt = xo.toInt + 10 := by rw [i32_add (by rw [o10]; omega) (by rw [o10]; omega), o10]
      exact RF.pre (fun v M' hz => sh_149 hz) (last (xo + 10) _ (by omega) (by omega))
    · rw [if_neg hd]
      have e1 : (xo + 14).toInt = xo.toInt + 14 := by rw [i32_add (by rw [o14]; omega) (by rw [o14]; omega), o14]
      exact RF.pre (fun v M' hz => sh_154 hz) (last (xo + 14) _ (by omega) (by omega))
  · rw [if_neg o0]
    exact RF.pre (fun v M' hz => sh_129 hz) (last 10000000 _ (by decide) (by decide))
theorem sh_dl (h0 : gAt l0 0 = some w) (h1 : gAt l0 1 = some hh) (w1 : 4 ≤ w.toInt) (w2 : w.toInt ≤ 16) (k1 : 4 ≤ hh.toInt) (k2 : hh.toInt ≤ 16) {s : Nat} {c : Int32} (c0 : 0 ≤ c.toInt) (c1 : c.toInt ≤ 255) (hE : ∀ mo x6 x7 x8 M, ShS P bn l0 M0 M (rk mo s) True → ShF P a b f M0 e 192 mo (some (.int c)) x6 x7 x8 M) : ∀ (j : Nat) (d mo : Int32) (x7 x8 : Option Value) (M : Mem), ShS P bn l0 M0 M (rk mo s) True → 0 ≤ d.toInt → d.toInt + (j : Int) = 8 → ShF P a b f M0 e 107 mo (some (.int c)) (some (.int d)) x7 x8 M := by
  intro j
  induction j with
  | zero =>
    intro d mo x7 x8 M h d0 hj
    refine RF.pre (fun v M' hz => sh_107 hz) ?_
    rw [if_pos (by rw [Int32.le_iff_toInt_le]; show (8 : Int) ≤ d.toInt; omega)]
    exact hE _ _ _ _ _ h
  | succ j ih =>
    intro d mo x7 x8 M h d0 hj
    refine RF.pre (fun v M' hz => sh_107 hz) ?_
    rw [if_neg (by rw [Int32.le_iff_toInt_le]; show ¬ (8 : Int) ≤ d.toInt; omega)]
    have e1 : (d + 1).toInt = d.toInt + 1 := i32_p1 (by omega)
    exact sh_body h0 h1 w1 w2 k1 k2 c0 c1 h (fun mo x7 x8 M h => ih (d + 1) mo x7 x8 M h (by omega) (by omega))
/-- a cell -/
theorem sh_cell (h0 : gAt l0 0 = some w) (h1 : gAt l0 1 = some hh) (w1 : 4 ≤ w.toInt) (w2 : w.toInt ≤ 16) (k1 : 4 ≤ hh.toInt) (k2 : hh.toInt ≤ 16) {s : Nat} {mo c : Int32} {x6 x7 x8 : Option Value} {M : Mem} (c0 : 0 ≤ c.toInt) (c1 : c.toInt ≤ 255) (h : ShS P bn l0 M0 M (rk mo s) True) (hE : ∀ mo x6 x7 x8 M, ShS P bn l0 M0 M (rk mo s) True → ShF P a b f M0 e 192 mo (some (.int c)) x6 x7 x8 M) : ShF P a b f M0 e 58 mo (some (.int c)) x6 x7 x8 M := by
  obtain ⟨vs, l, hM, h5, h48, sl, hl, ll, lr, hR, hB⟩ := h.env
  obtain ⟨hT, hF, hs, _⟩ := id h
  obtain ⟨kc, hkc⟩ := cell_k hT sl c0 c1
  obtain ⟨kw, hkw⟩ := cell_w sl c0 c1
  have go_ : ShF P a b f M0 e 104 mo (some (.int c)) x6 x7 x8 M := RF.pre (fun v M' hz => sh_104 hz) (sh_dl h0 h1 w1 w2 k1 k2 c0 c1 hE 8 0 mo _ _ M h (by decide) (by decide))
  refine RF.pre (fun v M' hz => sh_58 (Ev.call0 (fun n => gs_7 rfl rfl (cal_be hM rfl)) (ev_bears hM h5 hs hkc) (sh_64 hz))) ?_
  obtain ⟨z, ez⟩ : ∃ z : Int32, z = if kc = 3 then 0 else if kc = 6 then 0 else 1 := ⟨_, rfl⟩
  rw [← ez]
  by_cases hz0 : z = 0
  · rw [if_pos hz0]
    exact hE _ _ _ _ _ h
  rw [if_neg hz0]
  refine RF.pre (fun v M' hz => sh_67 hz) ?_
  by_cases hf : f = 0
  · rw [if_pos hf]; exact go_
  rw [if_neg hf]
  refine RF.pre (fun v M' hz => sh_71 hz) ?_
  by_cases ha : c = a
  · rw [if_pos ha]; exact go_
  rw [if_neg ha]
  refine RF.pre (fun v M' hz => sh_77 hz) ?_
  by_cases hb : c = b
  · rw [if_pos hb]; exact go_
  rw [if_neg hb]
  refine RF.pre (fun v M' hz => sh_83 (Ev.call0 (fun n => gs_7 rfl rfl (cal_gr2 hM rfl)) (ev_green (e := e + 1) hM h5 hs hkc) (sh_89 hz))) ?_
  obtain ⟨z2, ez2⟩ : ∃ z : Int32, z = if kc = 0 then 1 else if kc = 2 then 1 else 0 := ⟨_, rfl⟩
  rw [← ez2]
  by_cases hz2 : z2 = 0
  · rw [if_pos hz2]; exact go_
  rw [if_neg hz2]
  obtain ⟨r, hr⟩ := ev_isWorn (e := e + 1) hT hM h5 hs hkw
  refine RF.pre (fun v M' hz => sh_92 (Ev.call0 (fun n => gs_7 rfl rfl (cal_iw hM rfl)) hr (sh_98 hz))) ?_
  by_cases hr0 : r = 0
  · rw [if_pos hr0]
    exact RF.pre (fun v M' hz => sh_101 hz) (hE _ _ _ _ _ h)
  · rw [if_neg hr0]; exact go_
theorem sh_cl (h0 : gAt l0 0 = some w) (h1 : gAt l0 1 = some hh) (w1 : 4 ≤ w.toInt) (w2 : w.toInt ≤ 16) (k1 : 4 ≤ hh.toInt) (k2 : hh.toInt ≤ 16) {s : Nat} (hE : ∀ mo x5 x6 x7 x8 M, ShS P bn l0 M0 M (rk mo s) True → ShF P a b f M0 e 38 mo x5 x6 x7 x8 M) : ∀ (j : Nat) (c mo : Int32) (x6 x7 x8 : Option Value) (M : Mem), ShS P bn l0 M0 M (rk mo s) True → 0 ≤ c.toInt → 256 ≤ c.toInt + (j : Int) → ShF P a b f M0 e 49 mo (some (.int c)) x6 x7 x8 M := by
  intro j
  obtain ⟨wh, b0, b1⟩ := wh_in h0 h1 w1 w2 k1 k2
  have head : ∀ (c mo : Int32) (x6 x7 x8 : Option Value) (M : Mem), ShS P bn l0 M0 M (rk mo s) True → (¬ w * hh ≤ c → ShF P a b f M0 e 58 mo (some (.int c)) x6 x7 x8 M) → ShF P a b f M0 e 49 mo (some (.int c)) x6 x7 x8 M := by
    intro c mo x6 x7 x8 M h hn
    obtain ⟨vs, l, hM, h5, h48, sl, hl, ll, lr, hR, hB⟩ := h.env
    obtain ⟨hT, hF, hs, _⟩ := id h
    refine RF.pre (fun v M' hz => sh_49 (Ev.call0 (fun n => gs_7 rfl rfl (cal_ce hM rfl)) (ev_cells hM h5 hs h0 h1) (sh_55 hz))) ?_
    by_cases hle : w * hh ≤ c
    · rw [if_pos hle]
      exact RF.pre (fun v M' hz => sh_198 hz) (hE _ _ _ _ _ _ h)
    · rw [if_neg hle]
      exact hn hle
  induction j with
  | zero =>
    intro c mo x6 x7 x8 M h c0 hj
    exact head c mo x6 x7 x8 M h (fun hn => absurd (by rw [Int32.le_iff_toInt_le]; omega) hn)
  | succ j ih =>
    intro c mo x6 x7 x8 M h c0 hj
    refine head c mo x6 x7 x8 M h (fun hn => ?_)
    rw [Int32.le_iff_toInt_le] at hn
    have e1 : (c + 1).toInt = c.toInt + 1 := i32_p1 (by omega)
    exact sh_cell h0 h1 w1 w2 k1 k2 c0 (by omega) h (fun mo x6 x7 x8 M h => RF.pre (fun v M' hz => sh_192 hz) (ih (c + 1) mo x6 x7 x8 M h (by omega) (by omega)))
theorem sh_wl (h0 : gAt l0 0 = some w) (h1 : gAt l0 1 = some hh) (w1 : 4 ≤ w.toInt) (w2 : w.toInt ≤ 16) (k1 : 4 ≤ hh.toInt) (k2 : hh.toInt ≤ 16) (hbn : b.toInt = (bn : Int)) (b255 : bn ≤ 255) : ∀ (k : Nat) (mo : Int32) (x5 x6 x7 x8 : Option Value) (M : Mem), ShS P bn l0 M0 M (fun x => mo = 0 ∨ (mo = 1 ∧ x < k)) True → ShF P a b f M0 e 38 mo x5 x6 x7 x8 M := by
  intro k
  have fin : ∀ (x5 x6 x7 x8 : Option Value) (M : Mem) (R : Nat → Prop), ShS P bn l0 M0 M R True → ShF P a b f M0 e 38 0 x5 x6 x7 x8 M := by
    intro x5 x6 x7 x8 M R h
    obtain ⟨vs, l, hM, h5, h48, sl, hl, ll, lr, hR, hB⟩ := h.env
    obtain ⟨y, y1, y2⟩ := at_c (l := l) hbn (by omega)
    refine RF.pre (fun v M' hz => sh_38 hz) ?_
    rw [if_pos rfl]
    exact ⟨some (.int y), M, sh_201 hM h48 hl y1, y, rfl, h.1, h.2.1, fun hp => hB hp trivial y y2⟩
  induction k with
  | zero =>
    intro mo x5 x6 x7 x8 M h
    obtain ⟨hT, hF, hs, l, hl, hR, hB⟩ := id h
    rcases hR with rfl | ⟨_, hR⟩
    · exact fin _ _ _ _ _ _ h
    · exact absurd hR (Nat.not_lt_zero _)
  | succ k ih =>
    intro mo x5 x6 x7 x8 M h
    obtain ⟨hT, hF, hs, l, hl, hR, hB⟩ := id h
    rcases hR with rfl | ⟨rfl, hR⟩
    · exact fin _ _ _ _ _ _ h
    refine RF.pre (fun v M' hz => sh_38 hz) ?_
    rw [if_neg (by decide)]
    refine RF.pre (fun v M' hz => sh_43 hz) ?_
    refine sh_cl (s := k) h0 h1 w1 w2 k1 k2 (fun mo x5 x6 x7 x8 M h => ?_) 256 0 0 x6 x7 x8 M ⟨hT, hF, hs, l, hl, Or.inl ⟨rfl, by omega⟩, hB⟩ (by decide) (by decide)
    obtain ⟨hT, hF, hs, l, hl, hR, hB⟩ := h
    refine ih mo x5 x6 x7 x8 M ⟨hT, hF, hs, l, hl, ?_, hB⟩
    rcases hR with ⟨q, _⟩ | ⟨q1, q2⟩
    · exact Or.inl q
    · exact Or.inr ⟨q1, q2⟩
theorem sh_init (h0 : gAt l0 0 = some w) (h1 : gAt l0 1 = some hh) (w1 : 4 ≤ w.toInt) (w2 : w.toInt ≤ 16) (k1 : 4 ≤ hh.toInt) (k2 : hh.toInt ≤ 16) (ha : 0 ≤ a.toInt) (ha2 : a.toInt ≤ 255) (hbn : b.toInt = (bn : Int)) (b255 : bn ≤ 255) (hP : P → a ≠ b ∧ b.toInt < w.toInt * hh.toInt) : ∀ (j cn : Nat) (c : Int32) (x5 x6 x7 x8 : Option Value) (M : Mem), ShS P bn l0 M0 M (fun _ => True) (bn < cn) → c.toInt = (cn : Int) → 256 ≤ cn + j → cn ≤ 256 → RF (ShQ P M0) [] (e + 3) 227 3 [some (.ref 633), some (.int a), some (.int b), some (.int f), some (.int c), x5, x6, x7, x8] [] M := by
  intro j
  obtain ⟨wh, b0, b1⟩ := wh_in h0 h1 w1 w2 k1 k2
  have head : ∀ (cn : Nat) (c : Int32) (x5 x6 x7 x8 : Option Value) (M : Mem), ShS P bn l0 M0 M (fun _ => True) (bn < cn) → c.toInt = (cn : Int) → (¬ w * hh ≤ c → RF (ShQ P M0) [] (e + 3) 227 12 [some (.ref 633), some (.int a), some (.int b), some (.int f), some (.int c), x5, x6, x7, x8] [] M) → RF (ShQ P M0) [] (e + 3) 227 3 [some (.ref 633), some (.int a), some (.int b), some (.int f), some (.int c), x5, x6, x7, x8] [] M := by
    intro cn c x5 x6 x7 x8 M h hcn hn
    obtain ⟨vs, l, hM, h5, h48, sl, hl, ll, lr, hR, hB⟩ := h.env
    obtain ⟨hT, hF, hs, _⟩ := id h
    refine RF.pre (fun v M' hz => sh_3 (Ev.call0 (fun n => gs_7 rfl rfl (cal_ce hM rfl)) (ev_cells hM h5 hs h0 h1) (sh_9 hz))) ?_
    by_cases hle : w * hh ≤ c
    · rw [if_pos hle]
      rw [Int32.le_iff_toInt_le] at hle
      obtain ⟨an, han⟩ : ∃ an : Nat, a.toInt = (an : Int) := ⟨a.toInt.toNat, by omega⟩
      obtain ⟨ya, ya1, ya2⟩ := at_c (l := l) han (by omega)
      refine RF.pre (fun v M' hz => sh_28 hM h48 hl ya1 hz) ?_
      rw [cl_n han]
      have hput := h.put hl ya2 (v := 0) (R2 := fun _ => True) (B2 := True) (by decide) (by decide) (fun _ _ _ _ => trivial) (fun hp _ => ⟨fun e => absurd (Int32.toInt_inj.mp (show a.toInt = b.toInt by omega)) (hP hp).1, fun _ => by have := (hP hp).2; omega⟩)
      obtain ⟨q1, q2, q3, l5, q4, q5, q6⟩ := hput
      exact sh_wl h0 h1 w1 w2 k1 k2 hbn b255 ((l5.map mI).sum + 1) 1 _ _ _ _ _ ⟨q1, q2, q3, l5, q4, Or.inr ⟨rfl, Nat.lt_succ_self _⟩, q6⟩
    · rw [if_neg hle]
      exact hn hle
  induction j with
  | zero =>
    intro cn c x5 x6 x7 x8 M h hcn hj hle
    exact head cn c x5 x6 x7 x8 M h hcn (fun hn => absurd (by rw [Int32.le_iff_toInt_le]; omega) hn)
  | succ j ih =>
    intro cn c x5 x6 x7 x8 M h hcn hj hle
    refine head cn c x5 x6 x7 x8 M h hcn (fun hn => ?_)
    rw [Int32.le_iff_toInt_le] at hn
    obtain ⟨vs, l, hM, h5, h48, sl, hl, ll, lr, hR, hB⟩ := h.env
    obtain ⟨y, y1, y2⟩ := at_c (l := l) hcn (by omega)
    have e1 : (c + 1).toInt = c.toInt + 1 := i32_p1 (by omega)
    refine RF.pre (fun v M' hz => sh_12 hM h48 hl y1 hz) ?_
    rw [cl_n hcn]
    exact ih (cn + 1) (c + 1) x5 x6 x7 x8 _ (h.put hl y2 (v := 10000000) (by decide) (by decide) (fun _ _ _ _ => trivial) (fun _ hb => ⟨fun _ => by decide, fun hne => by omega⟩)) (by omega) (by omega) (by omega)
end SHN
/-- shortest, with what it answers -/
theorem ev_shortest {M : Mem} {e : Nat} {a b f : Int32} (hT : TM sT sG M) (a0 : 0 ≤ a.toInt) (a1 : a.toInt ≤ 255) (b0 : 0 ≤ b.toInt) (b1 : b.toInt ≤ 255) : ∃ (r : Int32) (MF : Mem), Ev none (e + 3) 227 0 [some (.ref 633), some (.int a), some (.int b), some (.int f), none, none, none, none, none] [] M (some (.int r)) MF 0 0 ∧ TM sT sG MF ∧ Frm sT [(1083, 0)] M MF ∧ (a ≠ b → (∀ l w h, gNth M 635 = some (.inl (1, .inl l)) → gNth l 0 = some w → gNth l 1 = some h → b.toInt < w.toInt * h.toInt) → 1 ≤ r.toInt) := by
  obtain ⟨vs, l, w, hh, m1, m2, m3, m4, m5, w1, w2, h1, h2⟩ := hT.s_ref
  obtain ⟨lw, q1, q2, q3⟩ := hT.mrow sT_655 rw_83
  obtain ⟨bn, hbn⟩ : ∃ bn : Nat, b.toInt = (bn : Int) := ⟨b.toInt.toNat, by omega⟩
  obtain ⟨v, MF, r1, r, rfl, r2, r3, r4⟩ := sh_init (a := a) (b := b) (f := f) (e := e) (M0 := M) (bn := bn) (P := a ≠ b ∧ b.toInt < w.toInt * hh.toInt) m4 m5 w1 w2 h1 h2 a0 a1 hbn (by omega) (fun h => h) 256 0 0 none none none none M ⟨hT, Frm.refl M, m3, lw, q1, trivial, fun _ h => absurd h (Nat.not_lt_zero _)⟩ rfl (by omega) (by omega)
  exact ⟨r, MF, sho_0 r1, r2, r3, fun hab hb => r4 ⟨hab, hb l w hh m3 m4 m5⟩⟩
