/-! BY HAND: the loop of the reference's holds -/
section HOL2
variable {M : Mem} {vs : List Value} {x c t n k w : Int32} {a b : Option Value} {e : Nat} {v : Option Value} {M' : Mem} {tr ls sg nm lt : List Int32}
theorem hol_39 {tt : Int32} (hM : gNth M 633 = some (.inr (11, vs))) (h14 : gNth vs 14 = some (.ref 644)) (hto : gNth M 644 = some (.inl (1, .inl lt))) (htt : gAt lt x = some tt) (hz : Ev none (e + 4) 187 (if 200 * t + tt ≤ k then 360 else 56) [some (.ref 633), some (.int x), some (.int c), some (.int t), some (.int n), some (.int k), a, b] [] M v M' 0 0) : Ev none (e + 4) 187 39 [some (.ref 633), some (.int x), some (.int c), some (.int t), some (.int n), some (.int k), a, b] [] M v M' 0 0 := by
  refine Ev.step (pc' := 47) (ls' := [some (.ref 633), some (.int x), some (.int c), some (.int t), some (.int n), some (.int k), a, b]) (st' := [.ref 633, .int (200 * t), .int k]) (M1 := M) 5 (fun n => rfl) ?_
  refine Ev.step 1 (gs_3 rfl rfl (gf_59 hM h14)) ?_
  refine Ev.step (pc' := 51) (ls' := [some (.ref 633), some (.int x), some (.int c), some (.int t), some (.int n), some (.int k), a, b]) (st' := [.int x, .ref 644, .int (200 * t), .int k]) (M1 := M) 1 (fun n => rfl) ?_
  refine Ev.step 1 (gs_3 rfl rfl (ia_g hto htt)) ?_
  exact Ev.step (pc' := if 200 * t + tt ≤ k then 360 else 56) (ls' := [some (.ref 633), some (.int x), some (.int c), some (.int t), some (.int n), some (.int k), a, b]) (st' := []) (M1 := M) 2 (fun n => rfl) hz
theorem hol_354  (hz : Ev none (e + 4) 187 39 [some (.ref 633), some (.int x), some (.int c), some (.int t), some (.int n), some (.int (k + 1)), a, b] [] M v M' 0 0) : Ev none (e + 4) 187 354 [some (.ref 633), some (.int x), some (.int c), some (.int t), some (.int n), some (.int k), a, b] [] M v M' 0 0 := by
  exact Ev.step (pc' := 39) (ls' := [some (.ref 633), some (.int x), some (.int c), some (.int t), some (.int n), some (.int (k + 1)), a, b]) (st' := []) (M1 := M) 2 (fun n => rfl) hz
theorem hol_56 (hM : gNth M 633 = some (.inr (11, vs))) (h15 : gNth vs 15 = some (.ref 645)) (hst : gNth M 645 = some (.inl (1, .inl ls))) (hw : gAt ls k = some w) (hz : Ev none (e + 4) 187 (if w = 20 then 72 else 101) [some (.ref 633), some (.int x), some (.int c), some (.int t), some (.int n), some (.int k), (some (.int w)), b] [] M v M' 0 0) : Ev none (e + 4) 187 56 [some (.ref 633), some (.int x), some (.int c), some (.int t), some (.int n), some (.int k), a, b] [] M v M' 0 0 := by
  refine Ev.step (pc' := 57) (ls' := [some (.ref 633), some (.int x), some (.int c), some (.int t), some (.int n), some (.int k), a, b]) (st' := [.ref 633]) (M1 := M) 1 (fun n => rfl) ?_
  refine Ev.step 1 (gs_3 rfl rfl (gf_62 hM h15)) ?_
  refine Ev.step (pc' := 62) (ls' := [some (.ref 633), some (.int x), some (.int c), some (.int t), some (.int n), some (.int k), a, b]) (st' := [.int k, .ref 645]) (M1 := M) 1 (fun n => rfl) ?_
  refine Ev.step 1 (gs_3 rfl rfl (ia_g hst hw)) ?_
  exact Ev.step (pc' := if w = 20 then 72 else 101) (ls' := [some (.ref 633), some (.int x), some (.int c), some (.int t), some (.int n), some (.int k), (some (.int w)), b]) (st' := []) (M1 := M) 4 (fun n => rfl) hz
theorem hol_72 {y : Int32} (hM : gNth M 633 = some (.inr (11, vs))) (h33 : gNth vs 33 = some (.ref 649)) (htr : gNth M 649 = some (.inl (3, .inl tr))) (hy : gAt tr (n - 1) = some y) (hz : Ev none (e + 4) 187 97 [some (.ref 633), some (.int x), some (.int c), some (.int t), some (.int n), some (.int k), (some (.int w)), b] [.int (if y = 0 then 1 else 0), .int (n - 1), .ref 649] M v M' 0 0) : Ev none (e + 4) 187 72 [some (.ref 633), some (.int x), some (.int c), some (.int t), some (.int n), some (.int k), (some (.int w)), b] [] M v M' 0 0 := by
  refine Ev.step (pc' := 73) (ls' := [some (.ref 633), some (.int x), some (.int c), some (.int t), some (.int n), some (.int k), (some (.int w)), b]) (st' := [.ref 633]) (M1 := M) 1 (fun n => rfl) ?_
  refine Ev.step 1 (gs_3 rfl rfl (gf_83 hM h33)) ?_
  refine Ev.step (pc' := 81) (ls' := [some (.ref 633), some (.int x), some (.int c), some (.int t), some (.int n), some (.int k), (some (.int w)), b]) (st' := [.ref 633, .int (n - 1), .ref 649]) (M1 := M) 4 (fun n => rfl) ?_
  refine Ev.step 1 (gs_3 rfl rfl (gf_83 hM h33)) ?_
  refine Ev.step (pc' := 88) (ls' := [some (.ref 633), some (.int x), some (.int c), some (.int t), some (.int n), some (.int k), (some (.int w)), b]) (st' := [.int (n - 1), .ref 649, .int (n - 1), .ref 649]) (M1 := M) 3 (fun n => rfl) ?_
  refine Ev.step 1 (gs_3 rfl rfl (ba_g htr hy)) ?_
  refine Ev.step (pc' := if y = 0 then 92 else 96) (ls' := [some (.ref 633), some (.int x), some (.int c), some (.int t), some (.int n), some (.int k), (some (.int w)), b]) (st' := [.int (n - 1), .ref 649]) (M1 := M) 1 (fun n => rfl) ?_
  by_cases h0 : y = 0
  · rw [if_pos h0] at hz ⊢
    exact Ev.step (pc' := 97) (ls' := [some (.ref 633), some (.int x), some (.int c), some (.int t), some (.int n), some (.int k), (some (.int w)), b]) (st' := [.int 1, .int (n - 1), .ref 649]) (M1 := M) 2 (fun n => rfl) hz
  · rw [if_neg h0] at hz ⊢
    exact Ev.step (pc' := 97) (ls' := [some (.ref 633), some (.int x), some (.int c), some (.int t), some (.int n), some (.int k), (some (.int w)), b]) (st' := [.int 0, .int (n - 1), .ref 649]) (M1 := M) 1 (fun n => rfl) hz
theorem hol_115 (hM : gNth M 633 = some (.inr (11, vs))) (h33 : gNth vs 33 = some (.ref 649)) (htr : gNth M 649 = some (.inl (3, .inl tr))) (hz : Ev none (e + 4) 187 (if w = 21 then 133 else 163) [some (.ref 633), some (.int x), some (.int c), some (.int t), some (.int (n + -1)), some (.int k), (some (.int w)), b] [.int (n + -1 - 1), .ref 649] M v M' 0 0) : Ev none (e + 4) 187 115 [some (.ref 633), some (.int x), some (.int c), some (.int t), some (.int n), some (.int k), (some (.int w)), b] [] M v M' 0 0 := by
  refine Ev.step (pc' := 119) (ls' := [some (.ref 633), some (.int x), some (.int c), some (.int t), some (.int (n + -1)), some (.int k), (some (.int w)), b]) (st' := [.ref 633]) (M1 := M) 2 (fun n => rfl) ?_
  refine Ev.step 1 (gs_3 rfl rfl (gf_83 hM h33)) ?_
  exact Ev.step (pc' := if w = 21 then 133 else 163) (ls' := [some (.ref 633), some (.int x), some (.int c), some (.int t), some (.int (n + -1)), some (.int k), (some (.int w)), b]) (st' := [.int (n + -1 - 1), .ref 649]) (M1 := M) 6 (fun n => rfl) hz
theorem hol_133 {y y2 : Int32} (hM : gNth M 633 = some (.inr (11, vs))) (h33 : gNth vs 33 = some (.ref 649)) (htr : gNth M 649 = some (.inl (3, .inl tr))) (hy : gAt tr (n - 1) = some y) (hy2 : gAt tr n = some y2) (hz : Ev none (e + 4) 187 190 [some (.ref 633), some (.int x), some (.int c), some (.int t), some (.int n), some (.int k), (some (.int w)), b] [.int (if y = 0 then 0 else if y2 = 0 then 0 else 1), .int (n - 1), .ref 649] M v M' 0 0) : Ev none (e + 4) 187 133 [some (.ref 633), some (.int x), some (.int c), some (.int t), some (.int n), some (.int k), (some (.int w)), b] [.int (n - 1), .ref 649] M v M' 0 0 := by
  refine Ev.step (pc' := 134) (ls' := [some (.ref 633), some (.int x), some (.int c), some (.int t), some (.int n), some (.int k), (some (.int w)), b]) (st' := [.ref 633, .int (n - 1), .ref 649]) (M1 := M) 1 (fun n => rfl) ?_
  refine Ev.step 1 (gs_3 rfl rfl (gf_83 hM h33)) ?_
  refine Ev.step (pc' := 141) (ls' := [some (.ref 633), some (.int x), some (.int c), some (.int t), some (.int n), some (.int k), (some (.int w)), b]) (st' := [.int (n - 1), .ref 649, .int (n - 1), .ref 649]) (M1 := M) 3 (fun n => rfl) ?_
  refine Ev.step 1 (gs_3 rfl rfl (ba_g htr hy)) ?_
  refine Ev.step (pc' := if y = 0 then 159 else 145) (ls' := [some (.ref 633), some (.int x), some (.int c), some (.int t), some (.int n), some (.int k), (some (.int w)), b]) (st' := [.int (n - 1), .ref 649]) (M1 := M) 1 (fun n => rfl) ?_
  by_cases h0 : y = 0
  · rw [if_pos h0] at hz ⊢
    exact Ev.step (pc' := 190) (ls' := [some (.ref 633), some (.int x), some (.int c), some (.int t), some (.int n), some (.int k), (some (.int w)), b]) (st' := [.int 0, .int (n - 1), .ref 649]) (M1 := M) 2 (fun n => rfl) hz
  rw [if_neg h0] at hz ⊢
  refine Ev.step (pc' := 146) (ls' := [some (.ref 633), some (.int x), some (.int c), some (.int t), some (.int n), some (.int k), (some (.int w)), b]) (st' := [.ref 633, .int (n - 1), .ref 649]) (M1 := M) 1 (fun n => rfl) ?_
  refine Ev.step 1 (gs_3 rfl rfl (gf_83 hM h33)) ?_
  refine Ev.step (pc' := 151) (ls' := [some (.ref 633), some (.int x), some (.int c), some (.int t), some (.int n), some (.int k), (some (.int w)), b]) (st' := [.int n, .ref 649, .int (n - 1), .ref 649]) (M1 := M) 1 (fun n => rfl) ?_
  refine Ev.step 1 (gs_3 rfl rfl (ba_g htr hy2)) ?_
  refine Ev.step (pc' := if y2 = 0 then 159 else 155) (ls' := [some (.ref 633), some (.int x), some (.int c), some (.int t), some (.int n), some (.int k), (some (.int w)), b]) (st' := [.int (n - 1), .ref 649]) (M1 := M) 1 (fun n => rfl) ?_
  by_cases h1 : y2 = 0
  · rw [if_pos h1] at hz ⊢
    exact Ev.step (pc' := 190) (ls' := [some (.ref 633), some (.int x), some (.int c), some (.int t), some (.int n), some (.int k), (some (.int w)), b]) (st' := [.int 0, .int (n - 1), .ref 649]) (M1 := M) 2 (fun n => rfl) hz
  · rw [if_neg h1] at hz ⊢
    exact Ev.step (pc' := 190) (ls' := [some (.ref 633), some (.int x), some (.int c), some (.int t), some (.int n), some (.int k), (some (.int w)), b]) (st' := [.int 1, .int (n - 1), .ref 649]) (M1 := M) 2 (fun n => rfl) hz
theorem hol_163 {y y2 : Int32} (hM : gNth M 633 = some (.inr (11, vs))) (h33 : gNth vs 33 = some (.ref 649)) (htr : gNth M 649 = some (.inl (3, .inl tr))) (hy : gAt tr (n - 1) = some y) (hy2 : gAt tr n = some y2) (hz : Ev none (e + 4) 187 190 [some (.ref 633), some (.int x), some (.int c), some (.int t), some (.int n), some (.int k), (some (.int w)), b] [.int (if y = 0 then if y2 = 0 then 0 else 1 else 1), .int (n - 1), .ref 649] M v M' 0 0) : Ev none (e + 4) 187 163 [some (.ref 633), some (.int x), some (.int c), some (.int t), some (.int n), some (.int k), (some (.int w)), b] [.int (n - 1), .ref 649] M v M' 0 0 := by
  refine Ev.step (pc' := 164) (ls' := [some (.ref 633), some (.int x), some (.int c), some (.int t), some (.int n), some (.int k), (some (.int w)), b]) (st' := [.ref 633, .int (n - 1), .ref 649]) (M1 := M) 1 (fun n => rfl) ?_
  refine Ev.step 1 (gs_3 rfl rfl (gf_83 hM h33)) ?_
  refine Ev.step (pc' := 171) (ls' := [some (.ref 633), some (.int x), some (.int c), some (.int t), some (.int n), some (.int k), (some (.int w)), b]) (st' := [.int (n - 1), .ref 649, .int (n - 1), .ref 649]) (M1 := M) 3 (fun n => rfl) ?_
  refine Ev.step 1 (gs_3 rfl rfl (ba_g htr hy)) ?_
  refine Ev.step (pc' := if y = 0 then 175 else 185) (ls' := [some (.ref 633), some (.int x), some (.int c), some (.int t), some (.int n), some (.int k), (some (.int w)), b]) (st' := [.int (n - 1), .ref 649]) (M1 := M) 1 (fun n => rfl) ?_
  by_cases h0 : y = 0
  · rw [if_pos h0] at hz ⊢
    refine Ev.step (pc' := 176) (ls' := [some (.ref 633), some (.int x), some (.int c), some (.int t), some (.int n), some (.int k), (some (.int w)), b]) (st' := [.ref 633, .int (n - 1), .ref 649]) (M1 := M) 1 (fun n => rfl) ?_
    refine Ev.step 1 (gs_3 rfl rfl (gf_83 hM h33)) ?_
    refine Ev.step (pc' := 181) (ls' := [some (.ref 633), some (.int x), some (.int c), some (.int t), some (.int n), some (.int k), (some (.int w)), b]) (st' := [.int n, .ref 649, .int (n - 1), .ref 649]) (M1 := M) 1 (fun n => rfl) ?_
    refine Ev.step 1 (gs_3 rfl rfl (ba_g htr hy2)) ?_
    refine Ev.step (pc' := if y2 = 0 then 189 else 185) (ls' := [some (.ref 633), some (.int x), some (.int c), some (.int t), some (.int n), some (.int k), (some (.int w)), b]) (st' := [.int (n - 1), .ref 649]) (M1 := M) 1 (fun n => rfl) ?_
    by_cases h1 : y2 = 0
    · rw [if_pos h1] at hz ⊢
      exact Ev.step (pc' := 190) (ls' := [some (.ref 633), some (.int x), some (.int c), some (.int t), some (.int n), some (.int k), (some (.int w)), b]) (st' := [.int 0, .int (n - 1), .ref 649]) (M1 := M) 1 (fun n => rfl) hz
    · rw [if_neg h1] at hz ⊢
      exact Ev.step (pc' := 190) (ls' := [some (.ref 633), some (.int x), some (.int c), some (.int t), some (.int n), some (.int k), (some (.int w)), b]) (st' := [.int 1, .int (n - 1), .ref 649]) (M1 := M) 2 (fun n => rfl) hz
  · rw [if_neg h0] at hz ⊢
    exact Ev.step (pc' := 190) (ls' := [some (.ref 633), some (.int x), some (.int c), some (.int t), some (.int n), some (.int k), (some (.int w)), b]) (st' := [.int 1, .int (n - 1), .ref 649]) (M1 := M) 2 (fun n => rfl) hz
theorem hol_s97 {z j y : Int32} (htr : gNth M 649 = some (.inl (3, .inl tr))) (hj : gAt tr j = some y) (hz : Ev none (e + 4) 187 354 [some (.ref 633), some (.int x), some (.int c), some (.int t), some (.int n), some (.int k), a, b] [] (gPut M 649 (.inl (3, .inl (gPut tr j.toNatClampNeg (vp_nar .boolean z))))) v M' 0 0) : Ev none (e + 4) 187 97 [some (.ref 633), some (.int x), some (.int c), some (.int t), some (.int n), some (.int k), a, b] [.int z, .int j, .ref 649] M v M' 0 0 := by
  refine Ev.step 1 (gs_4 rfl rfl (bs_g htr hj)) ?_
  exact Ev.step (pc' := 354) (ls' := [some (.ref 633), some (.int x), some (.int c), some (.int t), some (.int n), some (.int k), a, b]) (st' := []) (M1 := gPut M 649 (.inl (3, .inl (gPut tr j.toNatClampNeg (vp_nar .boolean z))))) 1 (fun n => rfl) hz
theorem hol_s190 {z j y : Int32} (htr : gNth M 649 = some (.inl (3, .inl tr))) (hj : gAt tr j = some y) (hz : Ev none (e + 4) 187 354 [some (.ref 633), some (.int x), some (.int c), some (.int t), some (.int n), some (.int k), a, b] [] (gPut M 649 (.inl (3, .inl (gPut tr j.toNatClampNeg (vp_nar .boolean z))))) v M' 0 0) : Ev none (e + 4) 187 190 [some (.ref 633), some (.int x), some (.int c), some (.int t), some (.int n), some (.int k), a, b] [.int z, .int j, .ref 649] M v M' 0 0 := by
  refine Ev.step 1 (gs_4 rfl rfl (bs_g htr hj)) ?_
  exact Ev.step (pc' := 354) (ls' := [some (.ref 633), some (.int x), some (.int c), some (.int t), some (.int n), some (.int k), a, b]) (st' := []) (M1 := gPut M 649 (.inl (3, .inl (gPut tr j.toNatClampNeg (vp_nar .boolean z))))) 1 (fun n => rfl) hz
theorem hol_s350 {z j y : Int32} (htr : gNth M 649 = some (.inl (3, .inl tr))) (hj : gAt tr j = some y) (hz : Ev none (e + 4) 187 354 [some (.ref 633), some (.int x), some (.int c), some (.int t), some (.int (n + 1)), some (.int k), a, b] [] (gPut M 649 (.inl (3, .inl (gPut tr j.toNatClampNeg (vp_nar .boolean z))))) v M' 0 0) : Ev none (e + 4) 187 350 [some (.ref 633), some (.int x), some (.int c), some (.int t), some (.int n), some (.int k), a, b] [.int z, .int j, .ref 649] M v M' 0 0 := by
  refine Ev.step 1 (gs_4 rfl rfl (bs_g htr hj)) ?_
  exact Ev.step (pc' := 354) (ls' := [some (.ref 633), some (.int x), some (.int c), some (.int t), some (.int (n + 1)), some (.int k), a, b]) (st' := []) (M1 := gPut M 649 (.inl (3, .inl (gPut tr j.toNatClampNeg (vp_nar .boolean z))))) 1 (fun n => rfl) hz
theorem hol_360 {y : Int32} (hM : gNth M 633 = some (.inr (11, vs))) (h33 : gNth vs 33 = some (.ref 649)) (htr : gNth M 649 = some (.inl (3, .inl tr))) (hy : gAt tr 0 = some y) (h01 : y = 0 ∨ y = 1) : Ev none (e + 4) 187 360 [some (.ref 633), some (.int x), some (.int c), some (.int t), some (.int n), some (.int k), a, b] [] M (some (.int y)) M 0 0 := by
  refine Ev.step (pc' := 361) (ls' := [some (.ref 633), some (.int x), some (.int c), some (.int t), some (.int n), some (.int k), a, b]) (st' := [.ref 633]) (M1 := M) 1 (fun n => rfl) ?_
  refine Ev.step 1 (gs_3 rfl rfl (gf_83 hM h33)) ?_
  refine Ev.step (pc' := 365) (ls' := [some (.ref 633), some (.int x), some (.int c), some (.int t), some (.int n), some (.int k), a, b]) (st' := [.int 0, .ref 649]) (M1 := M) 1 (fun n => rfl) ?_
  refine Ev.step 1 (gs_3 rfl rfl (ba_g htr hy)) ?_
  rcases h01 with rfl | rfl
  · exact Ev.ret (fun n => rfl)
  · exact Ev.ret (fun n => rfl)
end HOL2
