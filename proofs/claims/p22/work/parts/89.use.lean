/-! BY HAND: reading texts, the reference: what it calls -/
def kX11_isWord : CN := (164, 0, [.inr 1900, .inr 5], [], [], [], [(some (.inl (.ofNat 0, .ofNat 1)), [], [], [], [])])
def kX11_isWord_t : List (Nat × TP) := []
set_option maxRecDepth 100000 in
theorem kX11_isWord_ok : cnOK sT sG FL0 kX11_isWord := ccM_V (Δ := []) (n := 24) (N := 0) (cuts := kX11_isWord_t) sU_ok dp0_ok ct0_ok (nil_ok) (by decide +kernel)
def kX11_isSign : CN := (165, 0, [.inr 1900, .inl (.negSucc 2147483647, .ofNat 2147483647)], [], [], [], [(some (.inl (.ofNat 0, .ofNat 1)), [], [], [], [])])
def kX11_isSign_t : List (Nat × TP) := []
set_option maxRecDepth 100000 in
theorem kX11_isSign_ok : cnOK sT sG FL0 kX11_isSign := ccM_V (Δ := []) (n := 23) (N := 0) (cuts := kX11_isSign_t) sU_ok dp0_ok ct0_ok (nil_ok) (by decide +kernel)
theorem on_0 {e : Nat} {M : Mem} {M' : Mem} {v : Option Value} {x1 x2 x3 : Option Value}  (hz : Ev none (e + 2) 180 4 [some (.ref 633), x1, x2, x3] [.long 7237492, .ref 633] M v M' 0 0) : Ev none (e + 2) 180 0 [some (.ref 633), x1, x2, x3] [] M v M' 0 0 := by
  refine Ev.step (pc' := 4) (ls' := [some (.ref 633), x1, x2, x3]) (st' := [.long 7237492, .ref 633]) (M1 := M) 2 (fun n => rfl) ?_
  exact hz
theorem on_7 {e : Nat} {M : Mem} {M' : Mem} {v : Option Value} {z : Int32} {x1 x2 x3 : Option Value}  (hz : Ev none (e + 2) 180 9 [some (.ref 633), some (.int z), x2, x3] [.ref 633] M v M' 0 0) : Ev none (e + 2) 180 7 [some (.ref 633), x1, x2, x3] [.int z] M v M' 0 0 := by
  refine Ev.step (pc' := 9) (ls' := [some (.ref 633), some (.int z), x2, x3]) (st' := [.ref 633]) (M1 := M) 2 (fun n => rfl) ?_
  exact hz
theorem on_12 {e : Nat} {M : Mem} {M' : Mem} {v : Option Value} {a z : Int32} {x2 x3 : Option Value}  (hz : Ev none (e + 2) 180 (if z = 0 then 17 else 36) [some (.ref 633), some (.int z), some (.int a), x3] [] M v M' 0 0) : Ev none (e + 2) 180 12 [some (.ref 633), some (.int z), x2, x3] [.int a] M v M' 0 0 := by
  refine Ev.step (pc' := (if z = 0 then 17 else 36)) (ls' := [some (.ref 633), some (.int z), some (.int a), x3]) (st' := []) (M1 := M) 3 (fun n => rfl) ?_
  exact hz
theorem on_17 {e : Nat} {M : Mem} {M' : Mem} {v : Option Value} {a z : Int32} {x3 : Option Value}  (hz : Ev none (e + 2) 180 (if 0 ≤ a then 36 else 21) [some (.ref 633), some (.int z), some (.int a), x3] [] M v M' 0 0) : Ev none (e + 2) 180 17 [some (.ref 633), some (.int z), some (.int a), x3] [] M v M' 0 0 := by
  refine Ev.step (pc' := (if 0 ≤ a then 36 else 21)) (ls' := [some (.ref 633), some (.int z), some (.int a), x3]) (st' := []) (M1 := M) 2 (fun n => rfl) ?_
  exact hz
theorem on_21 {e : Nat} {M : Mem} {M' : Mem} {v : Option Value} {a z : Int32} {x3 : Option Value}  (hz : Ev none (e + 2) 180 24 [some (.ref 633), some (.int z), some (.int a), x3] [.int 40, .ref 633] M v M' 0 0) : Ev none (e + 2) 180 21 [some (.ref 633), some (.int z), some (.int a), x3] [] M v M' 0 0 := by
  refine Ev.step (pc' := 24) (ls' := [some (.ref 633), some (.int z), some (.int a), x3]) (st' := [.int 40, .ref 633]) (M1 := M) 2 (fun n => rfl) ?_
  exact hz
theorem on_27 {e : Nat} {M : Mem} {M' : Mem} {v : Option Value} {a y z : Int32} {x3 : Option Value}  (hz : Ev none (e + 2) 180 (if y = 0 then 30 else 36) [some (.ref 633), some (.int z), some (.int a), x3] [] M v M' 0 0) : Ev none (e + 2) 180 27 [some (.ref 633), some (.int z), some (.int a), x3] [.int y] M v M' 0 0 := by
  refine Ev.step (pc' := (if y = 0 then 30 else 36)) (ls' := [some (.ref 633), some (.int z), some (.int a), x3]) (st' := []) (M1 := M) 1 (fun n => rfl) ?_
  exact hz
theorem on_30 {e : Nat} {M : Mem} {M' : Mem} {v : Option Value} {a z : Int32} {x3 : Option Value}  (hz : Ev none (e + 2) 180 32 [some (.ref 633), some (.int z), some (.int a), x3] [.int 1, .ref 633] M v M' 0 0) : Ev none (e + 2) 180 30 [some (.ref 633), some (.int z), some (.int a), x3] [] M v M' 0 0 := by
  refine Ev.step (pc' := 32) (ls' := [some (.ref 633), some (.int z), some (.int a), x3]) (st' := [.int 1, .ref 633]) (M1 := M) 2 (fun n => rfl) ?_
  exact hz
theorem on_35 {e : Nat} {M : Mem} {a z : Int32} {x3 : Option Value}  : Ev none (e + 2) 180 35 [some (.ref 633), some (.int z), some (.int a), x3] [.int 0] M (some (.int 0)) M 0 0 := by
  exact Ev.ret (fun n => rfl)
theorem on_36 {e : Nat} {M : Mem} {M' : Mem} {v : Option Value} {vs : List Value} {a f21 z : Int32} {x3 : Option Value} (hM : gNth M 633 = some (.inr (11, vs))) (v21 : gNth vs 21 = some (.int f21)) (hz : Ev none (e + 2) 180 (if f21 = 40 then 54 else 45) [some (.ref 633), some (.int z), some (.int a), x3] [] M v M' 0 0) : Ev none (e + 2) 180 36 [some (.ref 633), some (.int z), some (.int a), x3] [] M v M' 0 0 := by
  refine Ev.step (pc' := 37) (ls' := [some (.ref 633), some (.int z), some (.int a), x3]) (st' := [.ref 633]) (M1 := M) 1 (fun n => rfl) ?_
  refine Ev.step 1 (gs_3 rfl rfl (gf_g rfl hM v21)) ?_
  refine Ev.step (pc' := (if f21 = 40 then 54 else 45)) (ls' := [some (.ref 633), some (.int z), some (.int a), x3]) (st' := []) (M1 := M) 2 (fun n => rfl) ?_
  exact hz
theorem on_45 {e : Nat} {M : Mem} {M' : Mem} {v : Option Value} {a z : Int32} {x3 : Option Value}  (hz : Ev none (e + 2) 180 46 [some (.ref 633), some (.int z), some (.int a), x3] [.ref 633] M v M' 0 0) : Ev none (e + 2) 180 45 [some (.ref 633), some (.int z), some (.int a), x3] [] M v M' 0 0 := by
  refine Ev.step (pc' := 46) (ls' := [some (.ref 633), some (.int z), some (.int a), x3]) (st' := [.ref 633]) (M1 := M) 1 (fun n => rfl) ?_
  exact hz
theorem on_49 {e : Nat} {M : Mem} {M' : Mem} {v : Option Value} {a y z : Int32} {x3 : Option Value}  (hz : Ev none (e + 2) 180 (if y = 10 then 54 else 60) [some (.ref 633), some (.int z), some (.int a), x3] [] M v M' 0 0) : Ev none (e + 2) 180 49 [some (.ref 633), some (.int z), some (.int a), x3] [.int y] M v M' 0 0 := by
  refine Ev.step (pc' := (if y = 10 then 54 else 60)) (ls' := [some (.ref 633), some (.int z), some (.int a), x3]) (st' := []) (M1 := M) 2 (fun n => rfl) ?_
  exact hz
theorem on_54 {e : Nat} {M : Mem} {M' : Mem} {v : Option Value} {a z : Int32} {x3 : Option Value}  (hz : Ev none (e + 2) 180 56 [some (.ref 633), some (.int z), some (.int a), x3] [.int 4, .ref 633] M v M' 0 0) : Ev none (e + 2) 180 54 [some (.ref 633), some (.int z), some (.int a), x3] [] M v M' 0 0 := by
  refine Ev.step (pc' := 56) (ls' := [some (.ref 633), some (.int z), some (.int a), x3]) (st' := [.int 4, .ref 633]) (M1 := M) 2 (fun n => rfl) ?_
  exact hz
theorem on_59 {e : Nat} {M : Mem} {a z : Int32} {x3 : Option Value}  : Ev none (e + 2) 180 59 [some (.ref 633), some (.int z), some (.int a), x3] [.int 0] M (some (.int 0)) M 0 0 := by
  exact Ev.ret (fun n => rfl)
theorem on_60 {e : Nat} {M : Mem} {M' : Mem} {v : Option Value} {vs : List Value} {a f21 z : Int32} {x3 : Option Value} (hM : gNth M 633 = some (.inr (11, vs))) (v21 : gNth vs 21 = some (.int f21)) (hlen : vs.length = 63) (hz : Ev none (e + 2) 180 70 [some (.ref 633), some (.int z), some (.int a), x3] [] (gPut M 633 (.inr (11, gPut vs 21 (.int (f21 + 1))))) v M' 0 0) : Ev none (e + 2) 180 60 [some (.ref 633), some (.int z), some (.int a), x3] [] M v M' 0 0 := by
  refine Ev.step (pc' := 62) (ls' := [some (.ref 633), some (.int z), some (.int a), x3]) (st' := [.ref 633, .ref 633]) (M1 := M) 2 (fun n => rfl) ?_
  refine Ev.step 1 (gs_3 rfl rfl (gf_g rfl hM v21)) ?_
  refine Ev.step (pc' := 67) (ls' := [some (.ref 633), some (.int z), some (.int a), x3]) (st' := [.int (f21 + 1), .ref 633]) (M1 := M) 2 (fun n => rfl) ?_
  refine Ev.step 1 (gs_4 rfl rfl (pf_i rfl hM (by rw [hlen]; decide) rfl rfl)) ?_
  exact hz
theorem on_70 {e : Nat} {M : Mem} {M' : Mem} {v : Option Value} {a z : Int32} {x3 : Option Value}  (hz : Ev none (e + 2) 180 71 [some (.ref 633), some (.int z), some (.int a), x3] [.ref 633] M v M' 0 0) : Ev none (e + 2) 180 70 [some (.ref 633), some (.int z), some (.int a), x3] [] M v M' 0 0 := by
  refine Ev.step (pc' := 71) (ls' := [some (.ref 633), some (.int z), some (.int a), x3]) (st' := [.ref 633]) (M1 := M) 1 (fun n => rfl) ?_
  exact hz
theorem on_74 {e : Nat} {M : Mem} {M' : Mem} {v : Option Value} {a z : Int32} {x3 : Option Value}  (hz : Ev none (e + 2) 180 (if 0 ≤ a then 111 else 78) [some (.ref 633), some (.int z), some (.int a), x3] [] M v M' 0 0) : Ev none (e + 2) 180 74 [some (.ref 633), some (.int z), some (.int a), x3] [] M v M' 0 0 := by
  refine Ev.step (pc' := (if 0 ≤ a then 111 else 78)) (ls' := [some (.ref 633), some (.int z), some (.int a), x3]) (st' := []) (M1 := M) 2 (fun n => rfl) ?_
  exact hz
theorem on_78 {e : Nat} {M : Mem} {M' : Mem} {v : Option Value} {vs : List Value} {a f20 z : Int32} {x3 : Option Value} (hM : gNth M 633 = some (.inr (11, vs))) (v18 : gNth vs 18 = some (.ref 648)) (v20 : gNth vs 20 = some (.int f20)) (hz : Ev none (e + 2) 180 (if z = 0 then 95 else 90) [some (.ref 633), some (.int z), some (.int a), x3] [.int f20, .ref 648] M v M' 0 0) : Ev none (e + 2) 180 78 [some (.ref 633), some (.int z), some (.int a), x3] [] M v M' 0 0 := by
  refine Ev.step (pc' := 79) (ls' := [some (.ref 633), some (.int z), some (.int a), x3]) (st' := [.ref 633]) (M1 := M) 1 (fun n => rfl) ?_
  refine Ev.step 1 (gs_3 rfl rfl (gf_g rfl hM v18)) ?_
  refine Ev.step (pc' := 83) (ls' := [some (.ref 633), some (.int z), some (.int a), x3]) (st' := [.ref 633, .ref 648]) (M1 := M) 1 (fun n => rfl) ?_
  refine Ev.step 1 (gs_3 rfl rfl (gf_g rfl hM v20)) ?_
  refine Ev.step (pc' := (if z = 0 then 95 else 90)) (ls' := [some (.ref 633), some (.int z), some (.int a), x3]) (st' := [.int f20, .ref 648]) (M1 := M) 2 (fun n => rfl) ?_
  exact hz
theorem on_90 {e : Nat} {M : Mem} {M' : Mem} {v : Option Value} {a p y1 z : Int32} {l648 : List Int32} {x3 : Option Value} (r648 : gNth M 648 = some (.inl (1, .inl l648))) (g1 : gAt l648 p = some y1) (hz : Ev none (e + 2) 180 98 [some (.ref 633), some (.int z), some (.int a), x3] [] (gPut M 648 (.inl (1, .inl (gPut l648 p.toNatClampNeg 20)))) v M' 0 0) : Ev none (e + 2) 180 90 [some (.ref 633), some (.int z), some (.int a), x3] [.int p, .ref 648] M v M' 0 0 := by
  refine Ev.step (pc' := 97) (ls' := [some (.ref 633), some (.int z), some (.int a), x3]) (st' := [.int 20, .int p, .ref 648]) (M1 := M) 2 (fun n => rfl) ?_
  refine Ev.step 1 (gs_4 rfl rfl (is_g r648 g1)) ?_
  exact hz
theorem on_95 {e : Nat} {M : Mem} {M' : Mem} {v : Option Value} {a p y1 z : Int32} {l648 : List Int32} {x3 : Option Value} (r648 : gNth M 648 = some (.inl (1, .inl l648))) (g1 : gAt l648 p = some y1) (hz : Ev none (e + 2) 180 98 [some (.ref 633), some (.int z), some (.int a), x3] [] (gPut M 648 (.inl (1, .inl (gPut l648 p.toNatClampNeg 23)))) v M' 0 0) : Ev none (e + 2) 180 95 [some (.ref 633), some (.int z), some (.int a), x3] [.int p, .ref 648] M v M' 0 0 := by
  refine Ev.step (pc' := 97) (ls' := [some (.ref 633), some (.int z), some (.int a), x3]) (st' := [.int 23, .int p, .ref 648]) (M1 := M) 1 (fun n => rfl) ?_
  refine Ev.step 1 (gs_4 rfl rfl (is_g r648 g1)) ?_
  exact hz
theorem on_98 {e : Nat} {M : Mem} {M' : Mem} {v : Option Value} {vs : List Value} {a f20 z : Int32} {x3 : Option Value} (hM : gNth M 633 = some (.inr (11, vs))) (v20 : gNth vs 20 = some (.int f20)) (hlen : vs.length = 63) (hz : Ev none (e + 2) 180 0 [some (.ref 633), some (.int z), some (.int a), x3] [] (gPut M 633 (.inr (11, gPut vs 20 (.int (f20 + 1))))) v M' 0 0) : Ev none (e + 2) 180 98 [some (.ref 633), some (.int z), some (.int a), x3] [] M v M' 0 0 := by
  refine Ev.step (pc' := 100) (ls' := [some (.ref 633), some (.int z), some (.int a), x3]) (st' := [.ref 633, .ref 633]) (M1 := M) 2 (fun n => rfl) ?_
  refine Ev.step 1 (gs_3 rfl rfl (gf_g rfl hM v20)) ?_
  refine Ev.step (pc' := 105) (ls' := [some (.ref 633), some (.int z), some (.int a), x3]) (st' := [.int (f20 + 1), .ref 633]) (M1 := M) 2 (fun n => rfl) ?_
  refine Ev.step 1 (gs_4 rfl rfl (pf_i rfl hM (by rw [hlen]; decide) rfl rfl)) ?_
  refine Ev.step (pc' := 0) (ls' := [some (.ref 633), some (.int z), some (.int a), x3]) (st' := []) (M1 := (gPut M 633 (.inr (11, gPut vs 20 (.int (f20 + 1)))))) 1 (fun n => rfl) ?_
  exact hz
theorem on_111 {e : Nat} {M : Mem} {M' : Mem} {v : Option Value} {a z : Int32} {x3 : Option Value}  (hz : Ev none (e + 2) 180 (if 8 ≤ a then 127 else 117) [some (.ref 633), some (.int z), some (.int a), x3] [] M v M' 0 0) : Ev none (e + 2) 180 111 [some (.ref 633), some (.int z), some (.int a), x3] [] M v M' 0 0 := by
  refine Ev.step (pc' := (if 8 ≤ a then 127 else 117)) (ls' := [some (.ref 633), some (.int z), some (.int a), x3]) (st' := []) (M1 := M) 3 (fun n => rfl) ?_
  exact hz
theorem on_117 {e : Nat} {M : Mem} {M' : Mem} {v : Option Value} {a z : Int32} {x3 : Option Value}  (hz : Ev none (e + 2) 180 121 [some (.ref 633), some (.int z), some (.int a), x3] [.int 0, .int 0, .int a, .ref 633] M v M' 0 0) : Ev none (e + 2) 180 117 [some (.ref 633), some (.int z), some (.int a), x3] [] M v M' 0 0 := by
  refine Ev.step (pc' := 121) (ls' := [some (.ref 633), some (.int z), some (.int a), x3]) (st' := [.int 0, .int 0, .int a, .ref 633]) (M1 := M) 4 (fun n => rfl) ?_
  exact hz
theorem on_124 {e : Nat} {M : Mem} {M' : Mem} {v : Option Value} {a z : Int32} {x3 : Option Value}  (hz : Ev none (e + 2) 180 197 [some (.ref 633), some (.int z), some (.int a), x3] [] M v M' 0 0) : Ev none (e + 2) 180 124 [some (.ref 633), some (.int z), some (.int a), x3] [] M v M' 0 0 := by
  refine Ev.step (pc' := 197) (ls' := [some (.ref 633), some (.int z), some (.int a), x3]) (st' := []) (M1 := M) 1 (fun n => rfl) ?_
  exact hz
theorem on_127 {e : Nat} {M : Mem} {M' : Mem} {v : Option Value} {a z : Int32} {x3 : Option Value}  (hz : Ev none (e + 2) 180 130 [some (.ref 633), some (.int z), some (.int a), x3] [.int 60, .ref 633] M v M' 0 0) : Ev none (e + 2) 180 127 [some (.ref 633), some (.int z), some (.int a), x3] [] M v M' 0 0 := by
  refine Ev.step (pc' := 130) (ls' := [some (.ref 633), some (.int z), some (.int a), x3]) (st' := [.int 60, .ref 633]) (M1 := M) 2 (fun n => rfl) ?_
  exact hz
theorem on_133 {e : Nat} {M : Mem} {M' : Mem} {v : Option Value} {a y z : Int32} {x3 : Option Value}  (hz : Ev none (e + 2) 180 (if y = 0 then 136 else 160) [some (.ref 633), some (.int z), some (.int a), x3] [] M v M' 0 0) : Ev none (e + 2) 180 133 [some (.ref 633), some (.int z), some (.int a), x3] [.int y] M v M' 0 0 := by
  refine Ev.step (pc' := (if y = 0 then 136 else 160)) (ls' := [some (.ref 633), some (.int z), some (.int a), x3]) (st' := []) (M1 := M) 1 (fun n => rfl) ?_
  exact hz
theorem on_136 {e : Nat} {M : Mem} {M' : Mem} {v : Option Value} {a z : Int32} {x3 : Option Value}  (hz : Ev none (e + 2) 180 139 [some (.ref 633), some (.int z), some (.int a), x3] [.int 61, .ref 633] M v M' 0 0) : Ev none (e + 2) 180 136 [some (.ref 633), some (.int z), some (.int a), x3] [] M v M' 0 0 := by
  refine Ev.step (pc' := 139) (ls' := [some (.ref 633), some (.int z), some (.int a), x3]) (st' := [.int 61, .ref 633]) (M1 := M) 2 (fun n => rfl) ?_
  exact hz
theorem on_142 {e : Nat} {M : Mem} {M' : Mem} {v : Option Value} {a y z : Int32} {x3 : Option Value}  (hz : Ev none (e + 2) 180 (if y = 0 then 145 else 160) [some (.ref 633), some (.int z), some (.int a), x3] [] M v M' 0 0) : Ev none (e + 2) 180 142 [some (.ref 633), some (.int z), some (.int a), x3] [.int y] M v M' 0 0 := by
  refine Ev.step (pc' := (if y = 0 then 145 else 160)) (ls' := [some (.ref 633), some (.int z), some (.int a), x3]) (st' := []) (M1 := M) 1 (fun n => rfl) ?_
  exact hz
theorem on_145 {e : Nat} {M : Mem} {M' : Mem} {v : Option Value} {a z : Int32} {x3 : Option Value}  (hz : Ev none (e + 2) 180 148 [some (.ref 633), some (.int z), some (.int a), x3] [.int 62, .ref 633] M v M' 0 0) : Ev none (e + 2) 180 145 [some (.ref 633), some (.int z), some (.int a), x3] [] M v M' 0 0 := by
  refine Ev.step (pc' := 148) (ls' := [some (.ref 633), some (.int z), some (.int a), x3]) (st' := [.int 62, .ref 633]) (M1 := M) 2 (fun n => rfl) ?_
  exact hz
theorem on_151 {e : Nat} {M : Mem} {M' : Mem} {v : Option Value} {a y z : Int32} {x3 : Option Value}  (hz : Ev none (e + 2) 180 (if y = 0 then 154 else 160) [some (.ref 633), some (.int z), some (.int a), x3] [] M v M' 0 0) : Ev none (e + 2) 180 151 [some (.ref 633), some (.int z), some (.int a), x3] [.int y] M v M' 0 0 := by
  refine Ev.step (pc' := (if y = 0 then 154 else 160)) (ls' := [some (.ref 633), some (.int z), some (.int a), x3]) (st' := []) (M1 := M) 1 (fun n => rfl) ?_
  exact hz
theorem on_154 {e : Nat} {M : Mem} {M' : Mem} {v : Option Value} {a z : Int32} {x3 : Option Value}  (hz : Ev none (e + 2) 180 156 [some (.ref 633), some (.int z), some (.int a), x3] [.int 1, .ref 633] M v M' 0 0) : Ev none (e + 2) 180 154 [some (.ref 633), some (.int z), some (.int a), x3] [] M v M' 0 0 := by
  refine Ev.step (pc' := 156) (ls' := [some (.ref 633), some (.int z), some (.int a), x3]) (st' := [.int 1, .ref 633]) (M1 := M) 2 (fun n => rfl) ?_
  exact hz
theorem on_159 {e : Nat} {M : Mem} {a z : Int32} {x3 : Option Value}  : Ev none (e + 2) 180 159 [some (.ref 633), some (.int z), some (.int a), x3] [.int 0] M (some (.int 0)) M 0 0 := by
  exact Ev.ret (fun n => rfl)
theorem on_160 {e : Nat} {M : Mem} {M' : Mem} {v : Option Value} {vs : List Value} {a f25 z : Int32} {x3 : Option Value} (hM : gNth M 633 = some (.inr (11, vs))) (v25 : gNth vs 25 = some (.int f25)) (hz : Ev none (e + 2) 180 166 [some (.ref 633), some (.int z), some (.int a), some (.int f25)] [.ref 633] M v M' 0 0) : Ev none (e + 2) 180 160 [some (.ref 633), some (.int z), some (.int a), x3] [] M v M' 0 0 := by
  refine Ev.step (pc' := 161) (ls' := [some (.ref 633), some (.int z), some (.int a), x3]) (st' := [.ref 633]) (M1 := M) 1 (fun n => rfl) ?_
  refine Ev.step 1 (gs_3 rfl rfl (gf_g rfl hM v25)) ?_
  refine Ev.step (pc' := 166) (ls' := [some (.ref 633), some (.int z), some (.int a), some (.int f25)]) (st' := [.ref 633]) (M1 := M) 2 (fun n => rfl) ?_
  exact hz
theorem on_169 {e : Nat} {M : Mem} {M' : Mem} {v : Option Value} {vs : List Value} {a f22 sg z : Int32} (hM : gNth M 633 = some (.inr (11, vs))) (v22 : gNth vs 22 = some (.int f22)) (hz : Ev none (e + 2) 180 (if f22 = 2 then 183 else 177) [some (.ref 633), some (.int z), some (.int a), some (.int sg)] [] M v M' 0 0) : Ev none (e + 2) 180 169 [some (.ref 633), some (.int z), some (.int a), some (.int sg)] [] M v M' 0 0 := by
  refine Ev.step (pc' := 170) (ls' := [some (.ref 633), some (.int z), some (.int a), some (.int sg)]) (st' := [.ref 633]) (M1 := M) 1 (fun n => rfl) ?_
  refine Ev.step 1 (gs_3 rfl rfl (gf_g rfl hM v22)) ?_
  refine Ev.step (pc' := (if f22 = 2 then 183 else 177)) (ls' := [some (.ref 633), some (.int z), some (.int a), some (.int sg)]) (st' := []) (M1 := M) 2 (fun n => rfl) ?_
  exact hz
theorem on_177 {e : Nat} {M : Mem} {M' : Mem} {v : Option Value} {a sg z : Int32}  (hz : Ev none (e + 2) 180 179 [some (.ref 633), some (.int z), some (.int a), some (.int sg)] [.int 1, .ref 633] M v M' 0 0) : Ev none (e + 2) 180 177 [some (.ref 633), some (.int z), some (.int a), some (.int sg)] [] M v M' 0 0 := by
  refine Ev.step (pc' := 179) (ls' := [some (.ref 633), some (.int z), some (.int a), some (.int sg)]) (st' := [.int 1, .ref 633]) (M1 := M) 2 (fun n => rfl) ?_
  exact hz
theorem on_182 {e : Nat} {M : Mem} {a sg z : Int32}  : Ev none (e + 2) 180 182 [some (.ref 633), some (.int z), some (.int a), some (.int sg)] [.int 0] M (some (.int 0)) M 0 0 := by
  exact Ev.ret (fun n => rfl)
theorem on_183 {e : Nat} {M : Mem} {M' : Mem} {v : Option Value} {vs : List Value} {a f25 sg z : Int32} (hM : gNth M 633 = some (.inr (11, vs))) (v25 : gNth vs 25 = some (.int f25)) (hz : Ev none (e + 2) 180 190 [some (.ref 633), some (.int z), some (.int a), some (.int sg)] [.int f25, .int sg, .int a, .ref 633] M v M' 0 0) : Ev none (e + 2) 180 183 [some (.ref 633), some (.int z), some (.int a), some (.int sg)] [] M v M' 0 0 := by
  refine Ev.step (pc' := 187) (ls' := [some (.ref 633), some (.int z), some (.int a), some (.int sg)]) (st' := [.ref 633, .int sg, .int a, .ref 633]) (M1 := M) 4 (fun n => rfl) ?_
  refine Ev.step 1 (gs_3 rfl rfl (gf_g rfl hM v25)) ?_
  exact hz
theorem on_193 {e : Nat} {M : Mem} {M' : Mem} {v : Option Value} {a sg z : Int32}  (hz : Ev none (e + 2) 180 194 [some (.ref 633), some (.int z), some (.int a), some (.int sg)] [.ref 633] M v M' 0 0) : Ev none (e + 2) 180 193 [some (.ref 633), some (.int z), some (.int a), some (.int sg)] [] M v M' 0 0 := by
  refine Ev.step (pc' := 194) (ls' := [some (.ref 633), some (.int z), some (.int a), some (.int sg)]) (st' := [.ref 633]) (M1 := M) 1 (fun n => rfl) ?_
  exact hz
theorem on_197 {e : Nat} {M : Mem} {M' : Mem} {v : Option Value} {a z : Int32} {x3 : Option Value}  (hz : Ev none (e + 2) 180 199 [some (.ref 633), some (.int z), some (.int a), x3] [.int 3, .ref 633] M v M' 0 0) : Ev none (e + 2) 180 197 [some (.ref 633), some (.int z), some (.int a), x3] [] M v M' 0 0 := by
  refine Ev.step (pc' := 199) (ls' := [some (.ref 633), some (.int z), some (.int a), x3]) (st' := [.int 3, .ref 633]) (M1 := M) 2 (fun n => rfl) ?_
  exact hz
theorem on_202 {e : Nat} {M : Mem} {a z : Int32} {x3 : Option Value}  : Ev none (e + 2) 180 202 [some (.ref 633), some (.int z), some (.int a), x3] [] M (some (.int 1)) M 0 0 := by
  refine Ev.step (pc' := 203) (ls' := [some (.ref 633), some (.int z), some (.int a), x3]) (st' := [.int 1]) (M1 := M) 1 (fun n => rfl) ?_
  exact Ev.ret (fun n => rfl)
theorem cal_at {M : Mem} {vs : List Value} {rest : List Value} (hM : gNth M 633 = some (.inr (11, vs))) (hr : gRoom rest = true) : gCal (.invokevirtual 312) 11 (.ref 633 :: rest) M = some (.inr (173, [some (.ref 633)], rest)) := by
  show @cond (Option ((List Value × Mem) ⊕ (Nat × Lo × List Value))) (true && gRecv M (.ref 633) 11 && gRoom rest && true) (some (.inr (173, [some (.ref 633)], rest))) none = _
  rw [recv_ok hM, hr]
  rfl
theorem cal_ss {M : Mem} {vs : List Value} {a0 : Int32} {rest : List Value} (hM : gNth M 633 = some (.inr (11, vs))) (hr : gRoom rest = true) : gCal (.invokevirtual 195) 11 (.int a0 :: .ref 633 :: rest) M = some (.inr (165, [some (.ref 633), some (.int a0)], rest)) := by
  show @cond (Option ((List Value × Mem) ⊕ (Nat × Lo × List Value))) (true && gRecv M (.ref 633) 11 && gRoom rest && true) (some (.inr (165, [some (.ref 633), some (.int a0)], rest))) none = _
  rw [recv_ok hM, hr]
  rfl
theorem cal_bd {M : Mem} {vs : List Value} {a0 : Int32} {rest : List Value} (hM : gNth M 633 = some (.inr (11, vs))) (hr : gRoom rest = true) : gCal (.invokevirtual 198) 11 (.int a0 :: .ref 633 :: rest) M = some (.inr (163, [some (.ref 633), some (.int a0)], rest)) := by
  show @cond (Option ((List Value × Mem) ⊕ (Nat × Lo × List Value))) (true && gRecv M (.ref 633) 11 && gRoom rest && true) (some (.inr (163, [some (.ref 633), some (.int a0)], rest))) none = _
  rw [recv_ok hM, hr]
  rfl
theorem cal_op {M : Mem} {vs : List Value} {rest : List Value} (hM : gNth M 633 = some (.inr (11, vs))) (hr : gRoom rest = true) : gCal (.invokevirtual 318) 11 (.ref 633 :: rest) M = some (.inr (177, [some (.ref 633), none, none], rest)) := by
  show @cond (Option ((List Value × Mem) ⊕ (Nat × Lo × List Value))) (true && gRecv M (.ref 633) 11 && gRoom rest && true) (some (.inr (177, [some (.ref 633), none, none], rest))) none = _
  rw [recv_ok hM, hr]
  rfl
theorem cal_nx {M : Mem} {vs : List Value} {rest : List Value} (hM : gNth M 633 = some (.inr (11, vs))) (hr : gRoom rest = true) : gCal (.invokevirtual 201) 11 (.ref 633 :: rest) M = some (.inr (162, [some (.ref 633), none, none, none], rest)) := by
  show @cond (Option ((List Value × Mem) ⊕ (Nat × Lo × List Value))) (true && gRecv M (.ref 633) 11 && gRoom rest && true) (some (.inr (162, [some (.ref 633), none, none, none], rest))) none = _
  rw [recv_ok hM, hr]
  rfl
theorem cal_wd {M : Mem} {vs : List Value} {a0 : Int32} {rest : List Value} (hM : gNth M 633 = some (.inr (11, vs))) (hr : gRoom rest = true) : gCal (.invokevirtual 303) 11 (.int a0 :: .ref 633 :: rest) M = some (.inr (175, [some (.ref 633), some (.int a0)], rest)) := by
  show @cond (Option ((List Value × Mem) ⊕ (Nat × Lo × List Value))) (true && gRecv M (.ref 633) 11 && gRoom rest && true) (some (.inr (175, [some (.ref 633), some (.int a0)], rest))) none = _
  rw [recv_ok hM, hr]
  rfl
theorem cal_ww {M : Mem} {vs : List Value} {a0 : Int64} {rest : List Value} (hM : gNth M 633 = some (.inr (11, vs))) (hr : gRoom rest = true) : gCal (.invokevirtual 248) 11 (.long a0 :: .ref 633 :: rest) M = some (.inr (164, [some (.ref 633), some (.long a0), none], rest)) := by
  show @cond (Option ((List Value × Mem) ⊕ (Nat × Lo × List Value))) (true && gRecv M (.ref 633) 11 && gRoom rest && true) (some (.inr (164, [some (.ref 633), some (.long a0), none], rest))) none = _
  rw [recv_ok hM, hr]
  rfl
/-- a contract used by hand -/
theorem use_cn {c : CN} {k d : Nat} {M : Mem} {ws : List Value} (hc : cnOK sT sG FL0 c) (hm : (gNth mRs c.1).map (fun q => q.2.2.2.1) = some k) (h3 : c.2.2.2.1 = []) (h4 : c.2.2.2.2.1 = []) (hd : c.2.1 ≤ d) (ha : Two (taOK sT) c.2.2.1 ws) (hT : TM sT sG M) : ∃ v M', Ev none d c.1 0 (gPad k (gArgs ws)) [] M v M' 0 0 ∧ TM sT sG M' ∧ Frm sT c.2.2.2.2.2.1 M M' ∧ ∃ s ∈ c.2.2.2.2.2.2, rsOK sT s.1 v := by
  cases hq : gNth mRs c.1 with
  | none => rw [hq] at hm; cases hm
  | some q =>
    rw [hq] at hm
    have hm : q.2.2.2.1 = k := Option.some.inj hm
    obtain ⟨v, M', e1, e2, e3, s, e4, e5, _⟩ := hc d M ws q hd hq ha ⟨[], by rw [h3]; trivial, by rw [h4]; exact fun f hf => by cases hf⟩ hT
    rw [hm] at e1
    exact ⟨v, M', e1, e2, e3, s, e4, e5.1⟩
set_option maxRecDepth 100000 in
theorem mRt : (gNth mRs 162).map (fun q => q.2.2.2.1) = some 4 ∧ (gNth mRs 163).map (fun q => q.2.2.2.1) = some 2 ∧ (gNth mRs 164).map (fun q => q.2.2.2.1) = some 3 ∧ (gNth mRs 165).map (fun q => q.2.2.2.1) = some 2 ∧ (gNth mRs 173).map (fun q => q.2.2.2.1) = some 1 ∧ (gNth mRs 177).map (fun q => q.2.2.2.1) = some 3 := by refine ⟨?_, ?_, ?_, ?_, ?_, ?_⟩ <;> decide +kernel
def mdN : Md := [(11, 4), (11, 22), (11, 23), (11, 24), (11, 25), (11, 31)]
def mdB : Md := [(11, 26), (11, 27)]
section USE
variable {M : Mem} {e : Nat}
theorem un_next (hT : TM sT sG M) : ∃ M', Ev none (e + 1) 162 0 [some (.ref 633), none, none, none] [] M none M' 0 0 ∧ TM sT sG M' ∧ Frm sT mdN M M' := by
  obtain ⟨v, M', h1, h2, h3, s, hs, h4⟩ := use_cn (d := e + 1) (ws := [.ref 633]) kX11_next_ok mRt.1 rfl rfl (Nat.le_add_left 1 e) (Two.mk rfl trivial) hT
  cases List.mem_singleton.mp hs
  cases v with
  | some _ => exact h4.elim
  | none => exact ⟨M', h1, h2, h3⟩
theorem un_bad {k : Int32} (hT : TM sT sG M) : ∃ M', Ev none e 163 0 [some (.ref 633), some (.int k)] [] M (some (.int 0)) M' 0 0 ∧ TM sT sG M' ∧ Frm sT mdB M M' := by
  obtain ⟨v, M', h1, h2, h3, s, hs, h4⟩ := use_cn (d := e) (ws := [.ref 633, .int k]) kX11_bad_ok mRt.2.1 rfl rfl (Nat.zero_le e) (Two.mk rfl (Two.mk ⟨k, rfl, i32_any k⟩ trivial)) hT
  cases List.mem_singleton.mp hs
  cases v with
  | none => exact h4.elim
  | some w =>
    obtain ⟨x, rfl, x1, x2⟩ := h4
    have hx : x = 0 := Int32.toInt_inj.mp (show x.toInt = 0 from Int.le_antisymm x2 x1)
    subst hx
    exact ⟨M', h1, h2, h3⟩
theorem un_word {k : Int64} (hT : TM sT sG M) : ∃ z : Int32, Ev none e 164 0 [some (.ref 633), some (.long k), none] [] M (some (.int z)) M 0 0 := by
  obtain ⟨v, M', h1, h2, h3, s, hs, h4⟩ := use_cn (d := e) (ws := [.ref 633, .long k]) kX11_isWord_ok mRt.2.2.1 rfl rfl (Nat.zero_le e) (Two.mk rfl (Two.mk ⟨k, rfl⟩ trivial)) hT
  cases List.mem_singleton.mp hs
  cases pure_ok h3
  cases v with
  | none => exact h4.elim
  | some w =>
    obtain ⟨x, rfl, x1, x2⟩ := h4
    exact ⟨x, h1⟩
theorem un_sign {k : Int32} (hT : TM sT sG M) : ∃ z : Int32, Ev none e 165 0 [some (.ref 633), some (.int k)] [] M (some (.int z)) M 0 0 := by
  obtain ⟨v, M', h1, h2, h3, s, hs, h4⟩ := use_cn (d := e) (ws := [.ref 633, .int k]) kX11_isSign_ok mRt.2.2.2.1 rfl rfl (Nat.zero_le e) (Two.mk rfl (Two.mk ⟨k, rfl, i32_any k⟩ trivial)) hT
  cases List.mem_singleton.mp hs
  cases pure_ok h3
  cases v with
  | none => exact h4.elim
  | some w =>
    obtain ⟨x, rfl, x1, x2⟩ := h4
    exact ⟨x, h1⟩
theorem un_atom (hT : TM sT sG M) : ∃ z : Int32, Ev none e 173 0 [some (.ref 633)] [] M (some (.int z)) M 0 0 ∧ z.toInt ≤ 11 := by
  obtain ⟨v, M', h1, h2, h3, s, hs, h4⟩ := use_cn (d := e) (ws := [.ref 633]) kX11_atom_ok mRt.2.2.2.2.1 rfl rfl (Nat.zero_le e) (Two.mk rfl trivial) hT
  cases List.mem_singleton.mp hs
  cases pure_ok h3
  cases v with
  | none => exact h4.elim
  | some w =>
    obtain ⟨x, rfl, x1, x2⟩ := h4
    exact ⟨x, h1, x2⟩
theorem un_open (hT : TM sT sG M) : ∃ z : Int32, Ev none e 177 0 [some (.ref 633), none, none] [] M (some (.int z)) M 0 0 := by
  obtain ⟨v, M', h1, h2, h3, s, hs, h4⟩ := use_cn (d := e) (ws := [.ref 633]) kX11_open_ok mRt.2.2.2.2.2 rfl rfl (Nat.zero_le e) (Two.mk rfl trivial) hT
  cases List.mem_singleton.mp hs
  cases pure_ok h3
  cases v with
  | none => exact h4.elim
  | some w =>
    obtain ⟨x, rfl, x1, x2⟩ := h4
    exact ⟨x, h1⟩
end USE
/-- all that reading a line may write -/
def mdT : Md := [(11, 4), (11, 19), (11, 20), (11, 21), (11, 22), (11, 23), (11, 24), (11, 25), (11, 26), (11, 27), (11, 31), (1073, 0), (1074, 0), (1075, 0), (1076, 0)]
/-- the steps of the other texts are as they were -/
def bel (ls0 : List Int32) (M : Mem) : Prop := ∃ ls, gNth M 645 = some (.inl (1, .inl ls)) ∧ ∀ i, i < 1400 → gNth ls i = gNth ls0 i
theorem JJ.bel {ls0 ls lp : List Int32} {m b s p o : Nat} {M : Mem} (h : JJ ls0 m b M s p o ls lp) : bel ls0 M := by
  obtain ⟨_, ⟨S, P, O, ⟨vs, _, _, _, _, h1, _⟩, _⟩, _, _, _, _, h2⟩ := h
  exact ⟨ls, h1, fun i hi => h2 i (by omega)⟩
theorem bel.frm {ls0 : List Int32} {md : Md} {M M' : Mem} (h : bel ls0 M) (hF : Frm sT md M M') (hm : (1073, 0) ∉ md) : bel ls0 M' := by
  obtain ⟨ls, h1, h2⟩ := h
  exact ⟨ls, row_frm hF sT_645 hm h1, h2⟩
theorem binN_put {lp : List Int32} {x : Nat} {v : Int32} : ∀ {p : Nat}, p ≤ x → binN (gPut lp x v) p = binN lp p := by
  intro p
  induction p with
  | zero => intro _; rfl
  | succ p ih =>
    intro h
    show binN (gPut lp x v) p + _ = binN lp p + _
    have hq : gNth (gPut lp x v) p = gNth lp p := by rw [nth_put, if_neg (by omega)]
    rw [ih (by omega), hq]
/-- something is laid on the pile -/
theorem JJ.push {ls0 ls lp : List Int32} {m b c s p o : Nat} {M M' : Mem} {w S P O : Int32} (h : JJ ls0 m b M s p o ls lp) (hw : (w = 20 ∧ c = b) ∨ (w = 23 ∧ c = b) ∨ ((w = 21 ∨ w = 22) ∧ b = c + 1)) (hsp : s + (p + 1) + c ≤ 2 * o) (hT : TM sT sG M') (hc : Cst M' S P O ls (gPut lp p w)) (e1 : S.toInt = (s : Int)) (e2 : P.toInt = (p : Int) + 1) (e3 : O.toInt = (o : Int)) : JJ ls0 m c M' s (p + 1) o ls (gPut lp p w) := by
  obtain ⟨hn1, hn2, hn3, ll, pl⟩ := h.num
  obtain ⟨_, _, _, h5, ⟨dd, r1, r2, r3⟩, h7, h8⟩ := h
  have hp : gNth (gPut lp p w) p = some w := by rw [nth_put, if_pos ⟨rfl, by omega⟩]
  have hb : binN (gPut lp p w) (p + 1) = binN (gPut lp p w) p + (if gNth (gPut lp p w) p = some 21 ∨ gNth (gPut lp p w) p = some 22 then 1 else 0) := rfl
  rw [binN_put (Nat.le_refl p), hp] at hb
  refine ⟨hT, ⟨S, P, O, hc, e1, by omega, e3⟩, hsp, h5, ⟨dd, r1, ?_, r3⟩, fun i hi => ?_, h8⟩
  · rcases hw with ⟨rfl, rfl⟩ | ⟨rfl, rfl⟩ | ⟨hw, hbc⟩
    · rw [if_neg (by decide)] at hb
      omega
    · rw [if_neg (by decide)] at hb
      omega
    · rw [if_pos (by rcases hw with rfl | rfl; exact Or.inl rfl; exact Or.inr rfl)] at hb
      omega
  · by_cases hi2 : i = p
    · subst hi2
      refine ⟨w, hp, ?_⟩
      rcases hw with ⟨h, _⟩ | ⟨h, _⟩ | ⟨h | h, _⟩
      · exact Or.inl h
      · exact Or.inr (Or.inr (Or.inr h))
      · exact Or.inr (Or.inl h)
      · exact Or.inr (Or.inr (Or.inl h))
    · obtain ⟨y, y1, y2⟩ := h7 i (by omega)
      exact ⟨y, by rw [nth_put, if_neg (fun q => hi2 q.1)]; exact y1, y2⟩
