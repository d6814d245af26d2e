/-! BY HAND, the class: copy, put together; among -/
theorem kX1_copy_ok : cnOK sT sG FL0 kX1_copy := by
  refine ccX_V sU_ok dp0_ok ct0_ok kX1_copy_D_ok kX1_copy_chk (fun d M ws hD rB x hx cl M' hc => ?_)
  cases List.mem_singleton.mp hx
  obtain ⟨ρ, π, i0, i1, i2, hF⟩ := hc
  rcases cl with _ | ⟨c0, _ | ⟨c1, _ | ⟨c2, _ | ⟨c3, cl⟩⟩⟩⟩
  · exact i1.elim
  · exact i1.2.elim
  · exact i1.2.2.elim
  rotate_left
  · exact i1.2.2.2.elim
  obtain ⟨⟨x0, rfl, a, ra, rfl⟩, ⟨x1, rfl, b, rb, rfl⟩, h2, _⟩ := i1
  obtain ⟨a', pa, ga⟩ := i2.2.2.2.1.2 0 8 rfl
  obtain ⟨b', pb, gb⟩ := i2.2.2.2.1.2 1 8 rfl
  have ra : gNth π 0 = some a := ra
  have rb : gNth π 1 = some b := rb
  cases pa.symm.trans ra
  cases pb.symm.trans rb
  obtain ⟨vs, _, hP⟩ := i2.2.1 (34, []) (List.mem_singleton.mpr rfl)
  obtain ⟨e, rfl⟩ : ∃ e, d = e + 1 := ⟨d - 1, by have : 1 ≤ d := hD; omega⟩
  obtain ⟨MF, h1, h2, h3, h4⟩ := cp_all (e := e) (x2 := c2) ga gb i2.2.2.2.2.2 (fl0_34 hP)
  exact ⟨none, MF, h1, h2, hF.trans (h3.more (mdSub_mem rfl)), _, List.mem_singleton.mpr rfl, trivial, fun q hq => (by cases hq), [], trivial, fun f hf => (by cases List.mem_singleton.mp hf; exact ⟨[], trivial, h4⟩), fun f hf => (by cases hf)⟩
theorem am_0 {e : Nat} {M : Mem} {M' : Mem} {v : Option Value} {vw : List Value} {y2 : Int32} {tk w : Nat} {x2 x3 x4 x5 x6 x7 : Option Value} (hw : gNth M w = some (.inr (3, vw))) (f1 : gNth vw 7 = some (.int y2)) (hz : Ev none (e + 1) 32 (if y2 = 2 then 10 else 8) [some (.ref w), some (.retAddr (10 + tk)), x2, x3, x4, x5, x6, x7] [] M v M' 0 0) : Ev none (e + 1) 32 0 [some (.ref w), some (.retAddr (10 + tk)), x2, x3, x4, x5, x6, x7] [] M v M' 0 0 := by
  refine Ev.step (pc' := 1) (ls' := [some (.ref w), some (.retAddr (10 + tk)), x2, x3, x4, x5, x6, x7]) (st' := [.ref w]) (M1 := M) 1 (fun n => rfl) ?_
  refine Ev.step 1 (gs_3 rfl rfl (gf_c rfl hw f1)) ?_
  refine Ev.step (pc' := (if y2 = 2 then 10 else 8)) (ls' := [some (.ref w), some (.retAddr (10 + tk)), x2, x3, x4, x5, x6, x7]) (st' := []) (M1 := M) 2 (fun n => rfl) ?_
  exact hz
theorem am_8 {e : Nat} {M : Mem} {tk w : Nat} {x2 x3 x4 x5 x6 x7 : Option Value}  : Ev none (e + 1) 32 8 [some (.ref w), some (.retAddr (10 + tk)), x2, x3, x4, x5, x6, x7] [] M (some (.int (-1))) M 0 0 := by
  refine Ev.step (pc' := 9) (ls' := [some (.ref w), some (.retAddr (10 + tk)), x2, x3, x4, x5, x6, x7]) (st' := [.int (-1)]) (M1 := M) 1 (fun n => rfl) ?_
  exact Ev.ret (fun n => rfl)
theorem am_10 {e : Nat} {M : Mem} {M' : Mem} {v : Option Value} {vw : List Value} {y10 y4 y6 : Int32} {a2 a8 tk w : Nat} {la2 la8 : List Int32} {x2 x3 x4 x5 x6 x7 : Option Value} (hw : gNth M w = some (.inr (3, vw))) (f1 : gNth vw 2 = some (.ref a2)) (f3 : gNth vw 6 = some (.int y4)) (ra2 : gNth M a2 = some (.inl (1, .inl la2))) (g5 : gAt la2 y4 = some y6) (f7 : gNth vw 3 = some (.ref a8)) (ra8 : gNth M a8 = some (.inl (1, .inl la8))) (g9 : gAt la8 y4 = some y10) (hz : Ev none (e + 1) 32 44 [some (.ref w), some (.retAddr (10 + tk)), some (.int y6), some (.int (y10 - y6)), some (.int 0), some (.int 0), some (.int 1), some (.int 0)] [] M v M' 0 0) : Ev none (e + 1) 32 10 [some (.ref w), some (.retAddr (10 + tk)), x2, x3, x4, x5, x6, x7] [] M v M' 0 0 := by
  refine Ev.step (pc' := 11) (ls' := [some (.ref w), some (.retAddr (10 + tk)), x2, x3, x4, x5, x6, x7]) (st' := [.ref w]) (M1 := M) 1 (fun n => rfl) ?_
  refine Ev.step 1 (gs_3 rfl rfl (gf_c rfl hw f1)) ?_
  refine Ev.step (pc' := 15) (ls' := [some (.ref w), some (.retAddr (10 + tk)), x2, x3, x4, x5, x6, x7]) (st' := [.ref w, .ref a2]) (M1 := M) 1 (fun n => rfl) ?_
  refine Ev.step 1 (gs_3 rfl rfl (gf_c rfl hw f3)) ?_
  refine Ev.step 1 (gs_3 rfl rfl (ia_c ra2 g5)) ?_
  refine Ev.step (pc' := 21) (ls' := [some (.ref w), some (.retAddr (10 + tk)), some (.int y6), x3, x4, x5, x6, x7]) (st' := [.ref w]) (M1 := M) 2 (fun n => rfl) ?_
  refine Ev.step 1 (gs_3 rfl rfl (gf_c rfl hw f7)) ?_
  refine Ev.step (pc' := 25) (ls' := [some (.ref w), some (.retAddr (10 + tk)), some (.int y6), x3, x4, x5, x6, x7]) (st' := [.ref w, .ref a8]) (M1 := M) 1 (fun n => rfl) ?_
  refine Ev.step 1 (gs_3 rfl rfl (gf_c rfl hw f3)) ?_
  refine Ev.step 1 (gs_3 rfl rfl (ia_c ra8 g9)) ?_
  refine Ev.step (pc' := 44) (ls' := [some (.ref w), some (.retAddr (10 + tk)), some (.int y6), some (.int (y10 - y6)), some (.int 0), some (.int 0), some (.int 1), some (.int 0)]) (st' := []) (M1 := M) 11 (fun n => rfl) ?_
  exact hz
theorem am_44 {e : Nat} {M : Mem} {M' : Mem} {v : Option Value} {av ix k ln s sm : Int32} {tk w : Nat}  (hz : Ev none (e + 1) 32 47 [some (.ref w), some (.retAddr (10 + tk)), some (.int s), some (.int ln), some (.int ix), some (.int av), some (.int sm), some (.int k)] [.retAddr (10 + tk), .int k] M v M' 0 0) : Ev none (e + 1) 32 44 [some (.ref w), some (.retAddr (10 + tk)), some (.int s), some (.int ln), some (.int ix), some (.int av), some (.int sm), some (.int k)] [] M v M' 0 0 := by
  refine Ev.step (pc' := 47) (ls' := [some (.ref w), some (.retAddr (10 + tk)), some (.int s), some (.int ln), some (.int ix), some (.int av), some (.int sm), some (.int k)]) (st' := [.retAddr (10 + tk), .int k]) (M1 := M) 2 (fun n => rfl) ?_
  exact hz
theorem am_50 {e : Nat} {M : Mem} {M' : Mem} {v : Option Value} {av ix k ln s sm x y : Int32} {tk w : Nat}  (hz : Ev none (e + 1) 32 (if y < x then 156 else 53) [some (.ref w), some (.retAddr (10 + tk)), some (.int s), some (.int ln), some (.int ix), some (.int av), some (.int sm), some (.int k)] [] M v M' 0 0) : Ev none (e + 1) 32 50 [some (.ref w), some (.retAddr (10 + tk)), some (.int s), some (.int ln), some (.int ix), some (.int av), some (.int sm), some (.int k)] [.int y, .int x] M v M' 0 0 := by
  refine Ev.step (pc' := (if y < x then 156 else 53)) (ls' := [some (.ref w), some (.retAddr (10 + tk)), some (.int s), some (.int ln), some (.int ix), some (.int av), some (.int sm), some (.int k)]) (st' := []) (M1 := M) 1 (fun n => rfl) ?_
  exact hz
theorem am_53 {e : Nat} {M : Mem} {M' : Mem} {v : Option Value} {av ix k ln s sm : Int32} {tk w : Nat}  (hz : Ev none (e + 1) 32 56 [some (.ref w), some (.retAddr (10 + tk)), some (.int s), some (.int ln), some (.int ix), some (.int av), some (.int sm), some (.int k)] [.retAddr (10 + tk), .int k] M v M' 0 0) : Ev none (e + 1) 32 53 [some (.ref w), some (.retAddr (10 + tk)), some (.int s), some (.int ln), some (.int ix), some (.int av), some (.int sm), some (.int k)] [] M v M' 0 0 := by
  refine Ev.step (pc' := 56) (ls' := [some (.ref w), some (.retAddr (10 + tk)), some (.int s), some (.int ln), some (.int ix), some (.int av), some (.int sm), some (.int k)]) (st' := [.retAddr (10 + tk), .int k]) (M1 := M) 2 (fun n => rfl) ?_
  exact hz
theorem am_59 {e : Nat} {M : Mem} {M' : Mem} {v : Option Value} {av ix k ln s sm x y : Int32} {tk w : Nat}  (hz : Ev none (e + 1) 32 (if x = y then 73 else 62) [some (.ref w), some (.retAddr (10 + tk)), some (.int s), some (.int ln), some (.int ix), some (.int av), some (.int sm), some (.int k)] [] M v M' 0 0) : Ev none (e + 1) 32 59 [some (.ref w), some (.retAddr (10 + tk)), some (.int s), some (.int ln), some (.int ix), some (.int av), some (.int sm), some (.int k)] [.int y, .int x] M v M' 0 0 := by
  refine Ev.step (pc' := (if x = y then 73 else 62)) (ls' := [some (.ref w), some (.retAddr (10 + tk)), some (.int s), some (.int ln), some (.int ix), some (.int av), some (.int sm), some (.int k)]) (st' := []) (M1 := M) 1 (fun n => rfl) ?_
  exact hz
theorem am_62 {e : Nat} {M : Mem} {M' : Mem} {v : Option Value} {av ix k ln s sm : Int32} {tk w : Nat}  (hz : Ev none (e + 1) 32 65 [some (.ref w), some (.retAddr (10 + tk)), some (.int s), some (.int ln), some (.int ix), some (.int av), some (.int sm), some (.int k)] [.int k, .retAddr (10 + tk)] M v M' 0 0) : Ev none (e + 1) 32 62 [some (.ref w), some (.retAddr (10 + tk)), some (.int s), some (.int ln), some (.int ix), some (.int av), some (.int sm), some (.int k)] [] M v M' 0 0 := by
  refine Ev.step (pc' := 65) (ls' := [some (.ref w), some (.retAddr (10 + tk)), some (.int s), some (.int ln), some (.int ix), some (.int av), some (.int sm), some (.int k)]) (st' := [.int k, .retAddr (10 + tk)]) (M1 := M) 2 (fun n => rfl) ?_
  exact hz
theorem am_68 {e : Nat} {M : Mem} {M' : Mem} {v : Option Value} {av ix k ln s sm y : Int32} {tk w : Nat}  (hz : Ev none (e + 1) 32 (if y = 32 then 73 else 105) [some (.ref w), some (.retAddr (10 + tk)), some (.int s), some (.int ln), some (.int ix), some (.int av), some (.int sm), some (.int k)] [] M v M' 0 0) : Ev none (e + 1) 32 68 [some (.ref w), some (.retAddr (10 + tk)), some (.int s), some (.int ln), some (.int ix), some (.int av), some (.int sm), some (.int k)] [.int y] M v M' 0 0 := by
  refine Ev.step (pc' := (if y = 32 then 73 else 105)) (ls' := [some (.ref w), some (.retAddr (10 + tk)), some (.int s), some (.int ln), some (.int ix), some (.int av), some (.int sm), some (.int k)]) (st' := []) (M1 := M) 2 (fun n => rfl) ?_
  exact hz
theorem am_73 {e : Nat} {M : Mem} {M' : Mem} {v : Option Value} {av ix k ln s sm : Int32} {tk w : Nat}  (hz : Ev none (e + 1) 32 (if sm = 0 then 90 else 78) [some (.ref w), some (.retAddr (10 + tk)), some (.int s), some (.int ln), some (.int ix), some (.int av), some (.int sm), some (.int k)] [] M v M' 0 0) : Ev none (e + 1) 32 73 [some (.ref w), some (.retAddr (10 + tk)), some (.int s), some (.int ln), some (.int ix), some (.int av), some (.int sm), some (.int k)] [] M v M' 0 0 := by
  refine Ev.step (pc' := (if sm = 0 then 90 else 78)) (ls' := [some (.ref w), some (.retAddr (10 + tk)), some (.int s), some (.int ln), some (.int ix), some (.int av), some (.int sm), some (.int k)]) (st' := []) (M1 := M) 2 (fun n => rfl) ?_
  exact hz
theorem am_78 {e : Nat} {M : Mem} {M' : Mem} {v : Option Value} {av ix k ln s sm : Int32} {tk w : Nat}  (hz : Ev none (e + 1) 32 (if (k - av) = ln then 87 else 90) [some (.ref w), some (.retAddr (10 + tk)), some (.int s), some (.int ln), some (.int ix), some (.int av), some (.int sm), some (.int k)] [] M v M' 0 0) : Ev none (e + 1) 32 78 [some (.ref w), some (.retAddr (10 + tk)), some (.int s), some (.int ln), some (.int ix), some (.int av), some (.int sm), some (.int k)] [] M v M' 0 0 := by
  refine Ev.step (pc' := (if (k - av) = ln then 87 else 90)) (ls' := [some (.ref w), some (.retAddr (10 + tk)), some (.int s), some (.int ln), some (.int ix), some (.int av), some (.int sm), some (.int k)]) (st' := []) (M1 := M) 5 (fun n => rfl) ?_
  exact hz
theorem am_87 {e : Nat} {M : Mem} {av ix k ln s sm : Int32} {tk w : Nat}  : Ev none (e + 1) 32 87 [some (.ref w), some (.retAddr (10 + tk)), some (.int s), some (.int ln), some (.int ix), some (.int av), some (.int sm), some (.int k)] [] M (some (.int ix)) M 0 0 := by
  refine Ev.step (pc' := 89) (ls' := [some (.ref w), some (.retAddr (10 + tk)), some (.int s), some (.int ln), some (.int ix), some (.int av), some (.int sm), some (.int k)]) (st' := [.int ix]) (M1 := M) 1 (fun n => rfl) ?_
  exact Ev.ret (fun n => rfl)
theorem am_90 {e : Nat} {M : Mem} {M' : Mem} {v : Option Value} {av ix k ln s sm : Int32} {tk w : Nat}  (hz : Ev none (e + 1) 32 44 [some (.ref w), some (.retAddr (10 + tk)), some (.int s), some (.int ln), some (.int (ix + 1)), some (.int (k + 1)), some (.int 1), some (.int (k + 1))] [] M v M' 0 0) : Ev none (e + 1) 32 90 [some (.ref w), some (.retAddr (10 + tk)), some (.int s), some (.int ln), some (.int ix), some (.int av), some (.int sm), some (.int k)] [] M v M' 0 0 := by
  refine Ev.step (pc' := 44) (ls' := [some (.ref w), some (.retAddr (10 + tk)), some (.int s), some (.int ln), some (.int (ix + 1)), some (.int (k + 1)), some (.int 1), some (.int (k + 1))]) (st' := []) (M1 := M) 10 (fun n => rfl) ?_
  exact hz
theorem am_105 {e : Nat} {M : Mem} {M' : Mem} {v : Option Value} {av ix k ln s sm : Int32} {tk w : Nat}  (hz : Ev none (e + 1) 32 (if sm = 0 then 147 else 110) [some (.ref w), some (.retAddr (10 + tk)), some (.int s), some (.int ln), some (.int ix), some (.int av), some (.int sm), some (.int k)] [] M v M' 0 0) : Ev none (e + 1) 32 105 [some (.ref w), some (.retAddr (10 + tk)), some (.int s), some (.int ln), some (.int ix), some (.int av), some (.int sm), some (.int k)] [] M v M' 0 0 := by
  refine Ev.step (pc' := (if sm = 0 then 147 else 110)) (ls' := [some (.ref w), some (.retAddr (10 + tk)), some (.int s), some (.int ln), some (.int ix), some (.int av), some (.int sm), some (.int k)]) (st' := []) (M1 := M) 2 (fun n => rfl) ?_
  exact hz
theorem am_110 {e : Nat} {M : Mem} {M' : Mem} {v : Option Value} {av ix k ln s sm : Int32} {tk w : Nat}  (hz : Ev none (e + 1) 32 (if ln ≤ (k - av) then 147 else 119) [some (.ref w), some (.retAddr (10 + tk)), some (.int s), some (.int ln), some (.int ix), some (.int av), some (.int sm), some (.int k)] [] M v M' 0 0) : Ev none (e + 1) 32 110 [some (.ref w), some (.retAddr (10 + tk)), some (.int s), some (.int ln), some (.int ix), some (.int av), some (.int sm), some (.int k)] [] M v M' 0 0 := by
  refine Ev.step (pc' := (if ln ≤ (k - av) then 147 else 119)) (ls' := [some (.ref w), some (.retAddr (10 + tk)), some (.int s), some (.int ln), some (.int ix), some (.int av), some (.int sm), some (.int k)]) (st' := []) (M1 := M) 5 (fun n => rfl) ?_
  exact hz
theorem am_119 {e : Nat} {M : Mem} {M' : Mem} {v : Option Value} {av ix k ln s sm : Int32} {tk w : Nat}  (hz : Ev none (e + 1) 32 122 [some (.ref w), some (.retAddr (10 + tk)), some (.int s), some (.int ln), some (.int ix), some (.int av), some (.int sm), some (.int k)] [.int k, .retAddr (10 + tk)] M v M' 0 0) : Ev none (e + 1) 32 119 [some (.ref w), some (.retAddr (10 + tk)), some (.int s), some (.int ln), some (.int ix), some (.int av), some (.int sm), some (.int k)] [] M v M' 0 0 := by
  refine Ev.step (pc' := 122) (ls' := [some (.ref w), some (.retAddr (10 + tk)), some (.int s), some (.int ln), some (.int ix), some (.int av), some (.int sm), some (.int k)]) (st' := [.int k, .retAddr (10 + tk)]) (M1 := M) 2 (fun n => rfl) ?_
  exact hz
theorem am_125 {e : Nat} {M : Mem} {M' : Mem} {v : Option Value} {va2 vw : List Value} {av ix k ln s sm y y6 : Int32} {a2 a4 tk w : Nat} {la4 : List Int32} (hw : gNth M w = some (.inr (3, vw))) (f1 : gNth vw 0 = some (.ref a2)) (ha2 : gNth M a2 = some (.inr (5, va2))) (f3 : gNth va2 0 = some (.ref a4)) (ra4 : gNth M a4 = some (.inl (1, .inl la4))) (g5 : gAt la4 ((s + k) - av) = some y6) (hz : Ev none (e + 1) 32 (if y = y6 then 143 else 147) [some (.ref w), some (.retAddr (10 + tk)), some (.int s), some (.int ln), some (.int ix), some (.int av), some (.int sm), some (.int k)] [] M v M' 0 0) : Ev none (e + 1) 32 125 [some (.ref w), some (.retAddr (10 + tk)), some (.int s), some (.int ln), some (.int ix), some (.int av), some (.int sm), some (.int k)] [.int y] M v M' 0 0 := by
  refine Ev.step (pc' := 126) (ls' := [some (.ref w), some (.retAddr (10 + tk)), some (.int s), some (.int ln), some (.int ix), some (.int av), some (.int sm), some (.int k)]) (st' := [.ref w, .int y]) (M1 := M) 1 (fun n => rfl) ?_
  refine Ev.step 1 (gs_3 rfl rfl (gf_c rfl hw f1)) ?_
  refine Ev.step 1 (gs_3 rfl rfl (gf_c rfl ha2 f3)) ?_
  refine Ev.step (pc' := 139) (ls' := [some (.ref w), some (.retAddr (10 + tk)), some (.int s), some (.int ln), some (.int ix), some (.int av), some (.int sm), some (.int k)]) (st' := [.int ((s + k) - av), .ref a4, .int y]) (M1 := M) 5 (fun n => rfl) ?_
  refine Ev.step 1 (gs_3 rfl rfl (ia_c ra4 g5)) ?_
  refine Ev.step (pc' := (if y = y6 then 143 else 147)) (ls' := [some (.ref w), some (.retAddr (10 + tk)), some (.int s), some (.int ln), some (.int ix), some (.int av), some (.int sm), some (.int k)]) (st' := []) (M1 := M) 1 (fun n => rfl) ?_
  exact hz
theorem am_143 {e : Nat} {M : Mem} {M' : Mem} {v : Option Value} {av ix k ln s sm : Int32} {tk w : Nat}  (hz : Ev none (e + 1) 32 44 [some (.ref w), some (.retAddr (10 + tk)), some (.int s), some (.int ln), some (.int ix), some (.int av), some (.int 1), some (.int (k + 1))] [] M v M' 0 0) : Ev none (e + 1) 32 143 [some (.ref w), some (.retAddr (10 + tk)), some (.int s), some (.int ln), some (.int ix), some (.int av), some (.int sm), some (.int k)] [] M v M' 0 0 := by
  refine Ev.step (pc' := 44) (ls' := [some (.ref w), some (.retAddr (10 + tk)), some (.int s), some (.int ln), some (.int ix), some (.int av), some (.int 1), some (.int (k + 1))]) (st' := []) (M1 := M) 5 (fun n => rfl) ?_
  exact hz
theorem am_147 {e : Nat} {M : Mem} {M' : Mem} {v : Option Value} {av ix k ln s sm : Int32} {tk w : Nat}  (hz : Ev none (e + 1) 32 44 [some (.ref w), some (.retAddr (10 + tk)), some (.int s), some (.int ln), some (.int ix), some (.int av), some (.int 0), some (.int (k + 1))] [] M v M' 0 0) : Ev none (e + 1) 32 147 [some (.ref w), some (.retAddr (10 + tk)), some (.int s), some (.int ln), some (.int ix), some (.int av), some (.int sm), some (.int k)] [] M v M' 0 0 := by
  refine Ev.step (pc' := 44) (ls' := [some (.ref w), some (.retAddr (10 + tk)), some (.int s), some (.int ln), some (.int ix), some (.int av), some (.int 0), some (.int (k + 1))]) (st' := []) (M1 := M) 4 (fun n => rfl) ?_
  exact hz
theorem am_156 {e : Nat} {M : Mem} {av ix k ln s sm : Int32} {tk w : Nat}  : Ev none (e + 1) 32 156 [some (.ref w), some (.retAddr (10 + tk)), some (.int s), some (.int ln), some (.int ix), some (.int av), some (.int sm), some (.int k)] [] M (some (.int (-1))) M 0 0 := by
  refine Ev.step (pc' := 157) (ls' := [some (.ref w), some (.retAddr (10 + tk)), some (.int s), some (.int ln), some (.int ix), some (.int av), some (.int sm), some (.int k)]) (st' := [.int (-1)]) (M1 := M) 1 (fun n => rfl) ?_
  exact Ev.ret (fun n => rfl)
set_option maxRecDepth 100000 in
theorem ra_type : fiB 3 3 7 (-2147483648) 2147483647 = true := by decide +kernel
set_option maxRecDepth 100000 in
theorem ra_now : fiB 3 3 6 0 400 = true := by decide +kernel
set_option maxRecDepth 100000 in
theorem ra_st : fdB 3 3 2 5 = true := by decide +kernel
set_option maxRecDepth 100000 in
theorem ra_str : irB 5 401 0 440 = true := by decide +kernel
set_option maxRecDepth 100000 in
theorem ra_sp : fdB 3 3 3 6 = true := by decide +kernel
set_option maxRecDepth 100000 in
theorem ra_spr : irB 6 401 0 440 = true := by decide +kernel
set_option maxRecDepth 100000 in
theorem ra_tape : fdB 3 3 0 1 = true := by decide +kernel
set_option maxRecDepth 100000 in
theorem ra_by : fdB 1 5 0 2 = true := by decide +kernel
set_option maxRecDepth 100000 in
theorem ra_byr : irB 2 440 0 255 = true := by decide +kernel
set_option maxRecDepth 100000 in
theorem sT_a3 : gNth sT 3 = some 3 := by decide +kernel
theorem gc_len {k : Nat} (hk : k < 7) {rest : List Value} {M : Mem} (hr : gRoom (.int 0 :: rest) = true) : gCal (.invokevirtual 102) 3 (.retAddr (10 + k) :: rest) M = some (.inl (.int (nI (gTx k).length) :: rest, M)) := by
  have h : gCal (.invokevirtual 102) 3 (.retAddr (10 + k) :: rest) M = (match gNat 1006 (.retAddr (10 + k) :: rest) M with
    | some q => cond (true && gRoom q.1) (some (.inl q)) none
    | none => none) := rfl
  have h2 : gNat 1006 (.retAddr (10 + k) :: rest) M = cond (Nat.ble 10 (10 + k) && Nat.blt (10 + k) 17) (some (.int (Int32.ofNat (gLn (gTx (10 + k - 10)))) :: rest, M)) none := rfl
  have h3 : gRoom (.int (Int32.ofNat (gLn (gTx (10 + k - 10)))) :: rest) = true := hr
  have b1 : Nat.ble 10 (10 + k) = true := Nat.ble_eq_true_of_le (by omega)
  have b2 : Nat.blt (10 + k) 17 = true := blt_t (by omega)
  rw [h, h2, b1, b2]
  show cond (true && gRoom (.int (Int32.ofNat (gLn (gTx (10 + k - 10)))) :: rest)) _ none = _
  rw [h3, Nat.add_sub_cancel_left, ln_eq]
  rfl
theorem gc_chr {k : Nat} (hk : k < 7) {j x : Int32} (hj : gAt (gTx k) j = some x) {rest : List Value} {M : Mem} (hr : gRoom (.int 0 :: rest) = true) : gCal (.invokevirtual 107) 3 (.int j :: .retAddr (10 + k) :: rest) M = some (.inl (.int x :: rest, M)) := by
  have h : gCal (.invokevirtual 107) 3 (.int j :: .retAddr (10 + k) :: rest) M = (match gNat 1007 (.int j :: .retAddr (10 + k) :: rest) M with
    | some q => cond (true && gRoom q.1) (some (.inl q)) none
    | none => none) := rfl
  have h2 : gNat 1007 (.int j :: .retAddr (10 + k) :: rest) M = cond (Nat.ble 10 (10 + k) && Nat.blt (10 + k) 17) (match gAt (gTx (10 + k - 10)) j with
      | some x => some (.int x :: rest, M)
      | none => none) none := rfl
  have h3 : gRoom (.int x :: rest) = true := hr
  have b1 : Nat.ble 10 (10 + k) = true := Nat.ble_eq_true_of_le (by omega)
  have b2 : Nat.blt (10 + k) 17 = true := blt_t (by omega)
  rw [h, h2, b1, b2, Nat.add_sub_cancel_left, hj]
  show cond (true && gRoom (.int x :: rest)) _ none = _
  rw [h3]
  rfl
/-- how many words end from here on -/
def rmW : List Int32 → Nat
  | [] => 1
  | c :: r => (if c = 32 then 1 else 0) + rmW r
theorem rmW_pos : ∀ l, 1 ≤ rmW l := by
  intro l
  induction l with
  | nil => exact Nat.le_refl _
  | cons c r ih =>
    show 1 ≤ (if c = 32 then 1 else 0) + rmW r
    omega
theorem rm_le {k : Nat} (hk : k < 7) : rmW (gTx k) ≤ 100 := by
  match k, hk with
  | 0, _ => decide +kernel
  | 1, _ => decide +kernel
  | 2, _ => decide +kernel
  | 3, _ => decide +kernel
  | 4, _ => decide +kernel
  | 5, _ => decide +kernel
  | 6, _ => decide +kernel
  | n + 7, h => omega
section AMG
variable {e tk : Nat}
theorem am_loop (hk : tk < 7) {s ln : Int32} {M : Mem} (hT : TM sT sG M) (s0 : 0 ≤ s.toInt) (s1 : s.toInt ≤ 440) (l1 : s.toInt + ln.toInt ≤ 440) (l2 : -440 ≤ ln.toInt) : ∀ (j inn an : Nat) (ix av sm k : Int32), inn + j = (gTx tk).length → k.toInt = (inn : Int) → av.toInt = (an : Int) → an ≤ inn → 0 ≤ ix.toInt → ix.toInt + (rmW ((gTx tk).drop inn) : Int) = (rmW (gTx tk) : Int) → ∃ r : Int32, Ev none (e + 1) 32 44 [some (.ref 3), some (.retAddr (10 + tk)), some (.int s), some (.int ln), some (.int ix), some (.int av), some (.int sm), some (.int k)] [] M (some (.int r)) M 0 0 ∧ -1 ≤ r.toInt ∧ r.toInt ≤ (rmW (gTx tk) : Int) - 1 := by
  intro j
  have t3 := (tx_len hk).2.2
  have hl : (nI (gTx tk).length).toInt = ((gTx tk).length : Int) := nI_toInt (by omega)
  have hrm := rmW_pos (gTx tk)
  have hend : ∀ (ix av sm k : Int32), k.toInt = ((gTx tk).length : Int) + 1 → ∃ r : Int32, Ev none (e + 1) 32 44 [some (.ref 3), some (.retAddr (10 + tk)), some (.int s), some (.int ln), some (.int ix), some (.int av), some (.int sm), some (.int k)] [] M (some (.int r)) M 0 0 ∧ -1 ≤ r.toInt ∧ r.toInt ≤ (rmW (gTx tk) : Int) - 1 := by
    intro ix av sm k hk2
    refine ⟨-1, am_44 (Ev.step 1 (gs_7n rfl rfl (gc_len hk rfl)) (am_50 ?_)), by decide, by have : (-1 : Int32).toInt = -1 := rfl; omega⟩
    rw [if_pos (by rw [Int32.lt_iff_toInt_lt]; omega)]
    exact am_156
  have bound : ∀ (ix av sm k : Int32) (inn an : Nat), k.toInt = (inn : Int) → inn ≤ (gTx tk).length → 0 ≤ ix.toInt → ix.toInt + (rmW ((gTx tk).drop inn) : Int) = (rmW (gTx tk) : Int) → (∃ r : Int32, Ev none (e + 1) 32 44 [some (.ref 3), some (.retAddr (10 + tk)), some (.int s), some (.int ln), some (.int (ix + 1)), some (.int (k + 1)), some (.int 1), some (.int (k + 1))] [] M (some (.int r)) M 0 0 ∧ -1 ≤ r.toInt ∧ r.toInt ≤ (rmW (gTx tk) : Int) - 1) → ∃ r : Int32, Ev none (e + 1) 32 73 [some (.ref 3), some (.retAddr (10 + tk)), some (.int s), some (.int ln), some (.int ix), some (.int av), some (.int sm), some (.int k)] [] M (some (.int r)) M 0 0 ∧ -1 ≤ r.toInt ∧ r.toInt ≤ (rmW (gTx tk) : Int) - 1 := by
    intro ix av sm k inn an hk2 hin hix hsum hn
    obtain ⟨r, h1, h2, h3⟩ := hn
    have hp := rmW_pos ((gTx tk).drop inn)
    by_cases hs : sm = 0
    · exact ⟨r, am_73 (by rw [if_pos hs]; exact am_90 h1), h2, h3⟩
    · by_cases hq : k - av = ln
      · exact ⟨ix, am_73 (by rw [if_neg hs]; exact am_78 (by rw [if_pos hq]; exact am_87)), by omega, by omega⟩
      · exact ⟨r, am_73 (by rw [if_neg hs]; exact am_78 (by rw [if_neg hq]; exact am_90 h1)), h2, h3⟩
  induction j with
  | zero =>
    intro inn an ix av sm k hj hk2 hav han hix hsum
    have hin : inn = (gTx tk).length := by omega
    have ek : (k + 1).toInt = k.toInt + 1 := i32_p1 (by omega)
    have hkl : k = nI (gTx tk).length := Int32.toInt_inj.mp (by omega)
    obtain ⟨r, h1, h2⟩ := bound ix av sm k inn an hk2 (by omega) hix hsum (hend (ix + 1) (k + 1) 1 (k + 1) (by omega))
    refine ⟨r, am_44 (Ev.step 1 (gs_7n rfl rfl (gc_len hk rfl)) (am_50 ?_)), h2⟩
    rw [if_neg (by rw [Int32.lt_iff_toInt_lt]; omega)]
    refine am_53 (Ev.step 1 (gs_7n rfl rfl (gc_len hk rfl)) (am_59 ?_))
    rw [if_pos hkl]
    exact h1
  | succ j ih =>
    intro inn an ix av sm k hj hk2 hav han hix hsum
    have ek : (k + 1).toInt = k.toInt + 1 := i32_p1 (by omega)
    have hlt : inn < (gTx tk).length := by omega
    obtain ⟨c, c1, c2⟩ := at_c (l := gTx tk) hk2 hlt
    have hdrop : (gTx tk).drop inn = c :: (gTx tk).drop (inn + 1) := by
      rw [nth_eq] at c2
      obtain ⟨h, h9⟩ := List.getElem?_eq_some_iff.mp c2
      rw [List.drop_eq_getElem_cons h, h9]
    have hsum2 : ix.toInt + (((if c = 32 then 1 else 0) + rmW ((gTx tk).drop (inn + 1)) : Nat) : Int) = (rmW (gTx tk) : Int) := by
      rw [hdrop] at hsum
      exact hsum
    have hne : ¬ k = nI (gTx tk).length := fun q => by
      rw [q] at hk2
      omega
    have hix2 : ix.toInt ≤ 1000 := by
      have hb : rmW (gTx tk) ≤ 100 := rm_le hk
      omega
    have ex : (ix + 1).toInt = ix.toInt + 1 := i32_p1 (by omega)
    have pre : ∀ r : Int32, Ev none (e + 1) 32 (if c = 32 then 73 else 105) [some (.ref 3), some (.retAddr (10 + tk)), some (.int s), some (.int ln), some (.int ix), some (.int av), some (.int sm), some (.int k)] [] M (some (.int r)) M 0 0 → Ev none (e + 1) 32 44 [some (.ref 3), some (.retAddr (10 + tk)), some (.int s), some (.int ln), some (.int ix), some (.int av), some (.int sm), some (.int k)] [] M (some (.int r)) M 0 0 := by
      intro r h
      refine am_44 (Ev.step 1 (gs_7n rfl rfl (gc_len hk rfl)) (am_50 ?_))
      rw [if_neg (by rw [Int32.lt_iff_toInt_lt]; omega)]
      refine am_53 (Ev.step 1 (gs_7n rfl rfl (gc_len hk rfl)) (am_59 ?_))
      rw [if_neg hne]
      exact am_62 (Ev.step 1 (gs_7n rfl rfl (gc_chr hk c1 rfl)) (am_68 h))
    by_cases h32 : c = 32
    · rw [if_pos h32] at hsum2 pre
      obtain ⟨r, h1, h2⟩ := bound ix av sm k inn an hk2 (by omega) hix hsum (ih (inn + 1) (inn + 1) (ix + 1) (k + 1) 1 (k + 1) (by omega) (by omega) (by omega) (Nat.le_refl _) (by omega) (by omega))
      exact ⟨r, pre r h1, h2⟩
    · rw [if_neg h32] at hsum2 pre
      have on : ∀ z : Int32, ∃ r : Int32, Ev none (e + 1) 32 44 [some (.ref 3), some (.retAddr (10 + tk)), some (.int s), some (.int ln), some (.int ix), some (.int av), some (.int z), some (.int (k + 1))] [] M (some (.int r)) M 0 0 ∧ -1 ≤ r.toInt ∧ r.toInt ≤ (rmW (gTx tk) : Int) - 1 := fun z => ih (inn + 1) an ix av z (k + 1) (by omega) (by omega) hav (by omega) hix (by omega)
      obtain ⟨r0, g0, g1⟩ := on 0
      by_cases hs : sm = 0
      · exact ⟨r0, pre r0 (am_105 (by rw [if_pos hs]; exact am_147 g0)), g1⟩
      · have ed : (k - av).toInt = k.toInt - av.toInt := i32_sub (by omega) (by omega)
        by_cases hq : ln ≤ k - av
        · exact ⟨r0, pre r0 (am_105 (by rw [if_neg hs]; exact am_110 (by rw [if_pos hq]; exact am_147 g0))), g1⟩
        · have hq2 : k.toInt - av.toInt < ln.toInt := by rw [Int32.le_iff_toInt_le] at hq; omega
          obtain ⟨r1, g2, g3⟩ := on 1
          have es : (s + k).toInt = s.toInt + k.toInt := i32_add (by omega) (by omega)
          have ei : (s + k - av).toInt = s.toInt + k.toInt - av.toInt := by rw [i32_sub (by omega) (by omega), es]
          obtain ⟨vr, ta, w1, w2, w3⟩ := hT.fref sT_a3 ra_tape
          obtain ⟨vt, ba, w4, w5, w6⟩ := hT.fref w3 ra_by
          obtain ⟨bl, w7, w8, _⟩ := hT.irow w6 ra_byr
          obtain ⟨y, y1, y2⟩ := at_c (l := bl) (j := s + k - av) (kn := (s.toInt + k.toInt - av.toInt).toNat) (by omega) (by omega)
          by_cases hy : c = y
          · refine ⟨r1, pre r1 (am_105 ?_), g3⟩
            rw [if_neg hs]
            refine am_110 ?_
            rw [if_neg hq]
            refine am_119 (Ev.step 1 (gs_7n rfl rfl (gc_chr hk c1 rfl)) (am_125 w1 w2 w4 w5 w7 y1 ?_))
            rw [if_pos hy]
            exact am_143 g2
          · refine ⟨r0, pre r0 (am_105 ?_), g1⟩
            rw [if_neg hs]
            refine am_110 ?_
            rw [if_neg hq]
            refine am_119 (Ev.step 1 (gs_7n rfl rfl (gc_chr hk c1 rfl)) (am_125 w1 w2 w4 w5 w7 y1 ?_))
            rw [if_neg hy]
            exact am_147 g0
theorem ev_among (hk : tk < 7) {M : Mem} {x2 x3 x4 x5 x6 x7 : Option Value} (hT : TM sT sG M) : ∃ r : Int32, Ev none (e + 1) 32 0 [some (.ref 3), some (.retAddr (10 + tk)), x2, x3, x4, x5, x6, x7] [] M (some (.int r)) M 0 0 ∧ -1 ≤ r.toInt ∧ r.toInt ≤ (rmW (gTx tk) : Int) - 1 := by
  have hrm := rmW_pos (gTx tk)
  obtain ⟨vr, ty, a1, a2, _⟩ := hT.fnum sT_a3 ra_type
  by_cases h : ty = 2
  rotate_left
  · exact ⟨-1, am_0 a1 a2 (by rw [if_neg h]; exact am_8), by decide, by have : (-1 : Int32).toInt = -1 := rfl; omega⟩
  obtain ⟨vr1, nw, b1, b2, _, b4, b5, _⟩ := hT.fnum sT_a3 ra_now
  cases b1.symm.trans a1
  obtain ⟨vr2, sa, c1, c2, c3⟩ := hT.fref sT_a3 ra_st
  cases c1.symm.trans a1
  obtain ⟨sl, c4, c5, c6, _⟩ := hT.irow c3 ra_str
  obtain ⟨vr3, pa, d1, d2, d3⟩ := hT.fref sT_a3 ra_sp
  cases d1.symm.trans a1
  obtain ⟨pl, d4, d5, d6, _⟩ := hT.irow d3 ra_spr
  obtain ⟨nn, hnn⟩ : ∃ nn : Nat, nw.toInt = (nn : Int) := ⟨nw.toInt.toNat, by omega⟩
  obtain ⟨s, s1, s2⟩ := at_c (l := sl) hnn (by omega)
  obtain ⟨p, p1, p2⟩ := at_c (l := pl) hnn (by omega)
  have hs := c6 _ _ s2
  have hp := d6 _ _ p2
  have ed : (p - s).toInt = p.toInt - s.toInt := i32_sub (by omega) (by omega)
  obtain ⟨r, h1, h2⟩ := am_loop (e := e) hk (s := s) (ln := p - s) hT hs.1 hs.2 (by omega) (by omega) (gTx tk).length 0 0 0 0 1 0 (by omega) rfl rfl (Nat.le_refl _) (by decide) (by
    show (0 : Int32).toInt + (rmW (gTx tk) : Int) = _
    have : (0 : Int32).toInt = 0 := rfl
    omega)
  exact ⟨r, am_0 a1 a2 (by rw [if_pos h]; exact am_10 a1 c2 b2 c4 s1 d2 d4 p1 h1), h2⟩
end AMG
theorem am_ta {tk : Nat} {w : Value} (h : taOK sT (.inr (3 * (13 + tk) + 2)) w) : w = .retAddr (10 + tk) := by
  unfold taOK at h
  have h1 : (3 * (13 + tk) + 2) % 3 = 2 := by omega
  have h2 : (3 * (13 + tk) + 2) / 3 = (10 + tk) + 3 := by omega
  dsimp only at h
  rw [h1, h2] at h
  exact h
set_option maxRecDepth 100000 in
theorem mR32 : (gNth mRs 32).map (fun q => q.2.2.2.1) = some 8 := by decide +kernel
theorem am_cn {tk n : Nat} (hk : tk < 7) (hn : rmW (gTx tk) = n + 1) : cnOK sT sG FL0 (32, 1, [.inr 10, .inr (3 * (13 + tk) + 2)], [], [], [], [(some (.inl (.negSucc 0, .ofNat n)), [], [], [], [])]) := by
  intro d M ws q hD hq hws hpre hT
  rcases ws with _ | ⟨w0, _ | ⟨w1, _ | ⟨_, _⟩⟩⟩
  · exact hws.elim
  · exact hws.2.elim
  rotate_left
  · exact hws.2.2.elim
  obtain ⟨h0, h1, _⟩ := hws
  have h0 : w0 = .ref 3 := h0
  subst h0
  have h1 : w1 = .retAddr (10 + tk) := am_ta h1
  subst h1
  obtain ⟨e, rfl⟩ : ∃ e, d = e + 1 := ⟨d - 1, by have : 1 ≤ d := hD; omega⟩
  have hm := mR32
  rw [show gNth mRs 32 = some q from hq] at hm
  have hm : q.2.2.2.1 = 8 := Option.some.inj hm
  rw [hm]
  obtain ⟨r, h2, h3, h4⟩ := ev_among (e := e) hk (x2 := none) (x3 := none) (x4 := none) (x5 := none) (x6 := none) (x7 := none) hT
  exact ⟨_, M, h2, hT, Frm.refl _, _, List.mem_singleton.mpr rfl, ⟨⟨r, rfl, h3, by show r.toInt ≤ (n : Int); omega⟩, fun q hq => (by cases hq), [], trivial, fun f hf => (by cases hf), fun f hf => (by cases hf)⟩, cn_D rfl⟩
def kX3_among : CN := (32, 1, [.inr 10, .inr 41], [], [], [], [(some (.inl (.negSucc 0, .ofNat 4)), [], [], [], [])])
theorem kX3_among_ok : cnOK sT sG FL0 kX3_among := am_cn (tk := 0) (by decide) (by decide +kernel)
def kX3_among__1 : CN := (32, 1, [.inr 10, .inr 44], [], [], [], [(some (.inl (.negSucc 0, .ofNat 2)), [], [], [], [])])
theorem kX3_among__1_ok : cnOK sT sG FL0 kX3_among__1 := am_cn (tk := 1) (by decide) (by decide +kernel)
def kX3_among__2 : CN := (32, 1, [.inr 10, .inr 47], [], [], [], [(some (.inl (.negSucc 0, .ofNat 0)), [], [], [], [])])
theorem kX3_among__2_ok : cnOK sT sG FL0 kX3_among__2 := am_cn (tk := 2) (by decide) (by decide +kernel)
def kX3_among__3 : CN := (32, 1, [.inr 10, .inr 50], [], [], [], [(some (.inl (.negSucc 0, .ofNat 6)), [], [], [], [])])
theorem kX3_among__3_ok : cnOK sT sG FL0 kX3_among__3 := am_cn (tk := 3) (by decide) (by decide +kernel)
def kX3_among__4 : CN := (32, 1, [.inr 10, .inr 53], [], [], [], [(some (.inl (.negSucc 0, .ofNat 0)), [], [], [], [])])
theorem kX3_among__4_ok : cnOK sT sG FL0 kX3_among__4 := am_cn (tk := 4) (by decide) (by decide +kernel)
def kX3_among__5 : CN := (32, 1, [.inr 10, .inr 56], [], [], [], [(some (.inl (.negSucc 0, .ofNat 0)), [], [], [], [])])
theorem kX3_among__5_ok : cnOK sT sG FL0 kX3_among__5 := am_cn (tk := 5) (by decide) (by decide +kernel)
def kX3_among__6 : CN := (32, 1, [.inr 10, .inr 59], [], [], [], [(some (.inl (.negSucc 0, .ofNat 12)), [], [], [], [])])
theorem kX3_among__6_ok : cnOK sT sG FL0 kX3_among__6 := am_cn (tk := 6) (by decide) (by decide +kernel)
