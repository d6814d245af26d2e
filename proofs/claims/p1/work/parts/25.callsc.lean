/-! PURE: the calls on the fresh objects -/
theorem pick_0_5 {x : Int32} (h1 : ¬ x < 0) (h2 : ¬ 5 < x) : x = 0 ∨ x = 1 ∨ x = 2 ∨ x = 3 ∨ x = 4 ∨ x = 5 := by
  simp only [Int32.lt_iff_toInt_lt] at h1 h2
  have el : (0 : Int32).toInt = 0 := by decide
  have eh : (5 : Int32).toInt = 5 := by decide
  have h : x.toInt = 0 ∨ x.toInt = 1 ∨ x.toInt = 2 ∨ x.toInt = 3 ∨ x.toInt = 4 ∨ x.toInt = 5 := by omega
  rcases h with h | h | h | h | h | h
  · exact Or.inl (Int32.toInt_inj.mp (h.trans (by decide)))
  · exact Or.inr (Or.inl (Int32.toInt_inj.mp (h.trans (by decide))))
  · exact Or.inr (Or.inr (Or.inl (Int32.toInt_inj.mp (h.trans (by decide)))))
  · exact Or.inr (Or.inr (Or.inr (Or.inl (Int32.toInt_inj.mp (h.trans (by decide))))))
  · exact Or.inr (Or.inr (Or.inr (Or.inr (Or.inl (Int32.toInt_inj.mp (h.trans (by decide)))))))
  · exact Or.inr (Or.inr (Or.inr (Or.inr (Or.inr (Int32.toInt_inj.mp (h.trans (by decide)))))))
set_option maxRecDepth 200000 in
set_option maxHeartbeats 4000000 in
theorem r85_0k : okR (goF none 123 999 85 0 [some (.ref 0), none, none] [] memP) (some (.int 0)) = true := by decide +kernel
theorem r85_0 : ∃ M1, Ev none 999 85 0 [some (.ref 0), none, none] [] memP (some (.int 0)) M1 0 0 := okR_ev r85_0k
set_option maxRecDepth 200000 in
set_option maxHeartbeats 4000000 in
theorem r184_1k : okR (goF none 10395 999 184 0 [some (.ref 0), none] [] memR) (some (.int 0)) = true := by decide +kernel
theorem r184_1 : ∃ M1, Ev none 999 184 0 [some (.ref 0), none] [] memR (some (.int 0)) M1 0 0 := okR_ev r184_1k
set_option maxRecDepth 200000 in
set_option maxHeartbeats 4000000 in
theorem ok_4 {x0 x1 x2 x3 x4 x5 : Int32} (hj : x0 &&& 63 = nI 4) : Okk x0 x1 x2 x3 x4 x5 := by
  obtain ⟨M1, A⟩ := r85_0
  obtain ⟨M2, B⟩ := r184_1
  exact lc_4 hj A B
set_option maxRecDepth 200000 in
set_option maxHeartbeats 4000000 in
theorem r94_0 : ∃ M1, Ev none 999 94 0 [some (.ref 0)] [] memP (none) M1 0 0 := by
  apply Exists.intro
  apply Ev.step (pc' := 11) (ls' := [some (.ref 0)]) (st' := []) (M1 := _) 5 (fun n => rfl)
  exact Ev.ret (fun n => rfl)
set_option maxRecDepth 200000 in
set_option maxHeartbeats 4000000 in
theorem r212_1k : okR (goF none 203 999 212 0 [some (.ref 0), none] [] memR) (none) = true := by decide +kernel
theorem r212_1 : ∃ M1, Ev none 999 212 0 [some (.ref 0), none] [] memR (none) M1 0 0 := okR_ev r212_1k
set_option maxRecDepth 200000 in
set_option maxHeartbeats 4000000 in
theorem ok_12 {x0 x1 x2 x3 x4 x5 : Int32} (hj : x0 &&& 63 = nI 12) : Okk x0 x1 x2 x3 x4 x5 := by
  obtain ⟨M1, A⟩ := r94_0
  obtain ⟨M2, B⟩ := r212_1
  exact lc_12 hj A B
set_option maxRecDepth 200000 in
set_option maxHeartbeats 4000000 in
theorem r92_0k : okR (goF none 4590 999 92 0 [some (.ref 0)] [] memP) (some (.int 0)) = true := by decide +kernel
theorem r92_0 : ∃ M1, Ev none 999 92 0 [some (.ref 0)] [] memP (some (.int 0)) M1 0 0 := okR_ev r92_0k
set_option maxRecDepth 200000 in
set_option maxHeartbeats 4000000 in
theorem r210_1k : okR (goF none 870 999 210 0 [some (.ref 0)] [] memR) (some (.int 0)) = true := by decide +kernel
theorem r210_1 : ∃ M1, Ev none 999 210 0 [some (.ref 0)] [] memR (some (.int 0)) M1 0 0 := okR_ev r210_1k
set_option maxRecDepth 200000 in
set_option maxHeartbeats 4000000 in
theorem ok_10 {x0 x1 x2 x3 x4 x5 : Int32} (hj : x0 &&& 63 = nI 10) : Okk x0 x1 x2 x3 x4 x5 := by
  obtain ⟨M1, A⟩ := r92_0
  obtain ⟨M2, B⟩ := r210_1
  exact lc_10 hj A B
set_option maxRecDepth 200000 in
set_option maxHeartbeats 4000000 in
theorem r97_0k : okR (goF none 4587 999 97 0 [some (.ref 0)] [] memP) (some (.int 0)) = true := by decide +kernel
theorem r97_0 : ∃ M1, Ev none 999 97 0 [some (.ref 0)] [] memP (some (.int 0)) M1 0 0 := okR_ev r97_0k
set_option maxRecDepth 200000 in
set_option maxHeartbeats 4000000 in
theorem r218_1k : okR (goF none 265 999 218 0 [some (.ref 0)] [] memR) (some (.int 0)) = true := by decide +kernel
theorem r218_1 : ∃ M1, Ev none 999 218 0 [some (.ref 0)] [] memR (some (.int 0)) M1 0 0 := okR_ev r218_1k
set_option maxRecDepth 200000 in
set_option maxHeartbeats 4000000 in
theorem ok_16 {x0 x1 x2 x3 x4 x5 : Int32} (hj : x0 &&& 63 = nI 16) : Okk x0 x1 x2 x3 x4 x5 := by
  obtain ⟨M1, A⟩ := r97_0
  obtain ⟨M2, B⟩ := r218_1
  exact lc_16 hj A B
set_option maxRecDepth 200000 in
set_option maxHeartbeats 4000000 in
theorem r98_0k : okR (goF none 4587 999 98 0 [some (.ref 0)] [] memP) (some (.int 0)) = true := by decide +kernel
theorem r98_0 : ∃ M1, Ev none 999 98 0 [some (.ref 0)] [] memP (some (.int 0)) M1 0 0 := okR_ev r98_0k
set_option maxRecDepth 200000 in
set_option maxHeartbeats 4000000 in
theorem r219_1k : okR (goF none 380 999 219 0 [some (.ref 0), none, none] [] memR) (some (.int 0)) = true := by decide +kernel
theorem r219_1 : ∃ M1, Ev none 999 219 0 [some (.ref 0), none, none] [] memR (some (.int 0)) M1 0 0 := okR_ev r219_1k
set_option maxRecDepth 200000 in
set_option maxHeartbeats 4000000 in
theorem ok_17 {x0 x1 x2 x3 x4 x5 : Int32} (hj : x0 &&& 63 = nI 17) : Okk x0 x1 x2 x3 x4 x5 := by
  obtain ⟨M1, A⟩ := r98_0
  obtain ⟨M2, B⟩ := r219_1
  exact lc_17 hj A B
set_option maxRecDepth 200000 in
set_option maxHeartbeats 4000000 in
theorem r86_0 (x1 : Int32) (g0 : x1 < 0) : ∃ M1, Ev none 999 86 0 [some (.ref 0), some (.int (x1)), none, none] [] memP (some (.int (-1000))) M1 0 0 := by
  apply Exists.intro
  apply Ev.step (pc' := 3) (ls' := [some (.ref 0), some (.int (x1)), none, none]) (st' := [.int 5, .int 0, .int (x1)]) (M1 := _) 3 (fun n => rfl)
  apply Ev.call0 (ls0 := [some (.int (x1)), some (.int 0), some (.int 5)]) (rest := []) (id := 126) (v1 := some (.int 0))  (fun n => rfl)
  · apply Ev.step (pc' := 2) (ls' := [some (.int (x1)), some (.int 0), some (.int 5)]) (st' := [.int 0, .int (x1)]) (M1 := _) 2 (fun n => rfl)
    apply Ev.step (pc' := if x1 < 0 then 14 else 5) (ls' := [some (.int (x1)), some (.int 0), some (.int 5)]) (st' := []) (M1 := _) 1 (fun n => rfl)
    rw [if_pos g0]
    apply Ev.step (pc' := 15) (ls' := [some (.int (x1)), some (.int 0), some (.int 5)]) (st' := [.int 0]) (M1 := _) 1 (fun n => rfl)
    exact Ev.ret (fun n => rfl)
  apply Ev.step (pc' := 20) (ls' := [some (.ref 0), some (.int (x1)), none, none]) (st' := [.int (-1000)]) (M1 := _) 6 (fun n => rfl)
  exact Ev.ret (fun n => rfl)
set_option maxRecDepth 200000 in
set_option maxHeartbeats 4000000 in
theorem r185_1 (x1 : Int32) (g0 : x1 < 0) : ∃ M1, Ev none 999 185 0 [some (.ref 0), some (.int (x1))] [] memR (some (.int (-1000))) M1 0 0 := by
  apply Exists.intro
  apply Ev.step (pc' := 6) (ls' := [some (.ref 0), some (.int (x1))]) (st' := [.ref 0]) (M1 := _) 4 (fun n => rfl)
  apply Ev.call0 (ls0 := [some (.ref 0)]) (rest := []) (id := 140) (v1 := none) (M1 := _) (fun n => rfl) ⟨11, rfl⟩
  apply Ev.step (pc' := 12) (ls' := [some (.ref 0), some (.int (x1))]) (st' := [.int 5, .int 0, .int (x1)]) (M1 := _) 3 (fun n => rfl)
  apply Ev.call0 (ls0 := [some (.int (x1)), some (.int 0), some (.int 5)]) (rest := []) (id := 141) (v1 := some (.int 0))  (fun n => rfl)
  · apply Ev.step (pc' := 2) (ls' := [some (.int (x1)), some (.int 0), some (.int 5)]) (st' := [.int 0, .int (x1)]) (M1 := _) 2 (fun n => rfl)
    apply Ev.step (pc' := if x1 < 0 then 14 else 5) (ls' := [some (.int (x1)), some (.int 0), some (.int 5)]) (st' := []) (M1 := _) 1 (fun n => rfl)
    rw [if_pos g0]
    apply Ev.step (pc' := 15) (ls' := [some (.int (x1)), some (.int 0), some (.int 5)]) (st' := [.int 0]) (M1 := _) 1 (fun n => rfl)
    exact Ev.ret (fun n => rfl)
  apply Ev.step (pc' := 32) (ls' := [some (.ref 0), some (.int (x1))]) (st' := [.int (-1000)]) (M1 := _) 2 (fun n => rfl)
  exact Ev.ret (fun n => rfl)
set_option maxRecDepth 200000 in
set_option maxHeartbeats 4000000 in
theorem r86_2 (x1 : Int32) (g0 : ¬ x1 < 0) (g1 : 5 < x1) : ∃ M1, Ev none 999 86 0 [some (.ref 0), some (.int (x1)), none, none] [] memP (some (.int (-1000))) M1 0 0 := by
  apply Exists.intro
  apply Ev.step (pc' := 3) (ls' := [some (.ref 0), some (.int (x1)), none, none]) (st' := [.int 5, .int 0, .int (x1)]) (M1 := _) 3 (fun n => rfl)
  apply Ev.call0 (ls0 := [some (.int (x1)), some (.int 0), some (.int 5)]) (rest := []) (id := 126) (v1 := some (.int 0))  (fun n => rfl)
  · apply Ev.step (pc' := 2) (ls' := [some (.int (x1)), some (.int 0), some (.int 5)]) (st' := [.int 0, .int (x1)]) (M1 := _) 2 (fun n => rfl)
    apply Ev.step (pc' := if x1 < 0 then 14 else 5) (ls' := [some (.int (x1)), some (.int 0), some (.int 5)]) (st' := []) (M1 := _) 1 (fun n => rfl)
    rw [if_neg g0]
    apply Ev.step (pc' := 7) (ls' := [some (.int (x1)), some (.int 0), some (.int 5)]) (st' := [.int 5, .int (x1)]) (M1 := _) 2 (fun n => rfl)
    apply Ev.step (pc' := if 5 < x1 then 14 else 10) (ls' := [some (.int (x1)), some (.int 0), some (.int 5)]) (st' := []) (M1 := _) 1 (fun n => rfl)
    rw [if_pos g1]
    apply Ev.step (pc' := 15) (ls' := [some (.int (x1)), some (.int 0), some (.int 5)]) (st' := [.int 0]) (M1 := _) 1 (fun n => rfl)
    exact Ev.ret (fun n => rfl)
  apply Ev.step (pc' := 20) (ls' := [some (.ref 0), some (.int (x1)), none, none]) (st' := [.int (-1000)]) (M1 := _) 6 (fun n => rfl)
  exact Ev.ret (fun n => rfl)
set_option maxRecDepth 200000 in
set_option maxHeartbeats 4000000 in
theorem r185_3 (x1 : Int32) (g0 : ¬ x1 < 0) (g1 : 5 < x1) : ∃ M1, Ev none 999 185 0 [some (.ref 0), some (.int (x1))] [] memR (some (.int (-1000))) M1 0 0 := by
  apply Exists.intro
  apply Ev.step (pc' := 6) (ls' := [some (.ref 0), some (.int (x1))]) (st' := [.ref 0]) (M1 := _) 4 (fun n => rfl)
  apply Ev.call0 (ls0 := [some (.ref 0)]) (rest := []) (id := 140) (v1 := none) (M1 := _) (fun n => rfl) ⟨11, rfl⟩
  apply Ev.step (pc' := 12) (ls' := [some (.ref 0), some (.int (x1))]) (st' := [.int 5, .int 0, .int (x1)]) (M1 := _) 3 (fun n => rfl)
  apply Ev.call0 (ls0 := [some (.int (x1)), some (.int 0), some (.int 5)]) (rest := []) (id := 141) (v1 := some (.int 0))  (fun n => rfl)
  · apply Ev.step (pc' := 2) (ls' := [some (.int (x1)), some (.int 0), some (.int 5)]) (st' := [.int 0, .int (x1)]) (M1 := _) 2 (fun n => rfl)
    apply Ev.step (pc' := if x1 < 0 then 14 else 5) (ls' := [some (.int (x1)), some (.int 0), some (.int 5)]) (st' := []) (M1 := _) 1 (fun n => rfl)
    rw [if_neg g0]
    apply Ev.step (pc' := 7) (ls' := [some (.int (x1)), some (.int 0), some (.int 5)]) (st' := [.int 5, .int (x1)]) (M1 := _) 2 (fun n => rfl)
    apply Ev.step (pc' := if 5 < x1 then 14 else 10) (ls' := [some (.int (x1)), some (.int 0), some (.int 5)]) (st' := []) (M1 := _) 1 (fun n => rfl)
    rw [if_pos g1]
    apply Ev.step (pc' := 15) (ls' := [some (.int (x1)), some (.int 0), some (.int 5)]) (st' := [.int 0]) (M1 := _) 1 (fun n => rfl)
    exact Ev.ret (fun n => rfl)
  apply Ev.step (pc' := 32) (ls' := [some (.ref 0), some (.int (x1))]) (st' := [.int (-1000)]) (M1 := _) 2 (fun n => rfl)
  exact Ev.ret (fun n => rfl)
set_option maxRecDepth 200000 in
set_option maxHeartbeats 4000000 in
theorem r86_4k : okR (goF none 134 999 86 0 [some (.ref 0), some (.int 0), none, none] [] memP) (some (.int 0)) = true := by decide +kernel
theorem r86_4 : ∃ M1, Ev none 999 86 0 [some (.ref 0), some (.int 0), none, none] [] memP (some (.int 0)) M1 0 0 := okR_ev r86_4k
set_option maxRecDepth 200000 in
set_option maxHeartbeats 4000000 in
theorem r185_5k : okR (goF none 10381 999 185 0 [some (.ref 0), some (.int 0)] [] memR) (some (.int 0)) = true := by decide +kernel
theorem r185_5 : ∃ M1, Ev none 999 185 0 [some (.ref 0), some (.int 0)] [] memR (some (.int 0)) M1 0 0 := okR_ev r185_5k
set_option maxRecDepth 200000 in
set_option maxHeartbeats 4000000 in
theorem r86_6k : okR (goF none 134 999 86 0 [some (.ref 0), some (.int 1), none, none] [] memP) (some (.int 0)) = true := by decide +kernel
theorem r86_6 : ∃ M1, Ev none 999 86 0 [some (.ref 0), some (.int 1), none, none] [] memP (some (.int 0)) M1 0 0 := okR_ev r86_6k
set_option maxRecDepth 200000 in
set_option maxHeartbeats 4000000 in
theorem r185_7k : okR (goF none 10381 999 185 0 [some (.ref 0), some (.int 1)] [] memR) (some (.int 0)) = true := by decide +kernel
theorem r185_7 : ∃ M1, Ev none 999 185 0 [some (.ref 0), some (.int 1)] [] memR (some (.int 0)) M1 0 0 := okR_ev r185_7k
set_option maxRecDepth 200000 in
set_option maxHeartbeats 4000000 in
theorem r86_8k : okR (goF none 134 999 86 0 [some (.ref 0), some (.int 2), none, none] [] memP) (some (.int 0)) = true := by decide +kernel
theorem r86_8 : ∃ M1, Ev none 999 86 0 [some (.ref 0), some (.int 2), none, none] [] memP (some (.int 0)) M1 0 0 := okR_ev r86_8k
set_option maxRecDepth 200000 in
set_option maxHeartbeats 4000000 in
theorem r185_9k : okR (goF none 10381 999 185 0 [some (.ref 0), some (.int 2)] [] memR) (some (.int 0)) = true := by decide +kernel
theorem r185_9 : ∃ M1, Ev none 999 185 0 [some (.ref 0), some (.int 2)] [] memR (some (.int 0)) M1 0 0 := okR_ev r185_9k
set_option maxRecDepth 200000 in
set_option maxHeartbeats 4000000 in
theorem r86_10k : okR (goF none 134 999 86 0 [some (.ref 0), some (.int 3), none, none] [] memP) (some (.int 0)) = true := by decide +kernel
theorem r86_10 : ∃ M1, Ev none 999 86 0 [some (.ref 0), some (.int 3), none, none] [] memP (some (.int 0)) M1 0 0 := okR_ev r86_10k
set_option maxRecDepth 200000 in
set_option maxHeartbeats 4000000 in
theorem r185_11k : okR (goF none 10381 999 185 0 [some (.ref 0), some (.int 3)] [] memR) (some (.int 0)) = true := by decide +kernel
theorem r185_11 : ∃ M1, Ev none 999 185 0 [some (.ref 0), some (.int 3)] [] memR (some (.int 0)) M1 0 0 := okR_ev r185_11k
set_option maxRecDepth 200000 in
set_option maxHeartbeats 4000000 in
theorem r86_12k : okR (goF none 134 999 86 0 [some (.ref 0), some (.int 4), none, none] [] memP) (some (.int 0)) = true := by decide +kernel
theorem r86_12 : ∃ M1, Ev none 999 86 0 [some (.ref 0), some (.int 4), none, none] [] memP (some (.int 0)) M1 0 0 := okR_ev r86_12k
set_option maxRecDepth 200000 in
set_option maxHeartbeats 4000000 in
theorem r185_13k : okR (goF none 10381 999 185 0 [some (.ref 0), some (.int 4)] [] memR) (some (.int 0)) = true := by decide +kernel
theorem r185_13 : ∃ M1, Ev none 999 185 0 [some (.ref 0), some (.int 4)] [] memR (some (.int 0)) M1 0 0 := okR_ev r185_13k
set_option maxRecDepth 200000 in
set_option maxHeartbeats 4000000 in
theorem r86_14k : okR (goF none 134 999 86 0 [some (.ref 0), some (.int 5), none, none] [] memP) (some (.int 0)) = true := by decide +kernel
theorem r86_14 : ∃ M1, Ev none 999 86 0 [some (.ref 0), some (.int 5), none, none] [] memP (some (.int 0)) M1 0 0 := okR_ev r86_14k
set_option maxRecDepth 200000 in
set_option maxHeartbeats 4000000 in
theorem r185_15k : okR (goF none 10381 999 185 0 [some (.ref 0), some (.int 5)] [] memR) (some (.int 0)) = true := by decide +kernel
theorem r185_15 : ∃ M1, Ev none 999 185 0 [some (.ref 0), some (.int 5)] [] memR (some (.int 0)) M1 0 0 := okR_ev r185_15k
set_option maxRecDepth 200000 in
set_option maxHeartbeats 4000000 in
theorem ok_5 {x0 x1 x2 x3 x4 x5 : Int32} (hj : x0 &&& 63 = nI 5) : Okk x0 x1 x2 x3 x4 x5 := by
  by_cases h1 : x1 < 0
  · skip
    obtain ⟨M1, A⟩ := (r86_0 x1 h1)
    obtain ⟨M2, B⟩ := (r185_1 x1 h1)
    exact lc_5 hj A B
  · skip
    by_cases h2 : 5 < x1
    · skip
      obtain ⟨M1, A⟩ := (r86_2 x1 h1 h2)
      obtain ⟨M2, B⟩ := (r185_3 x1 h1 h2)
      exact lc_5 hj A B
    · skip
      rcases pick_0_5 h1 h2 with rfl | rfl | rfl | rfl | rfl | rfl
      · skip
        obtain ⟨M1, A⟩ := r86_4
        obtain ⟨M2, B⟩ := r185_5
        exact lc_5 hj A B
      · skip
        obtain ⟨M1, A⟩ := r86_6
        obtain ⟨M2, B⟩ := r185_7
        exact lc_5 hj A B
      · skip
        obtain ⟨M1, A⟩ := r86_8
        obtain ⟨M2, B⟩ := r185_9
        exact lc_5 hj A B
      · skip
        obtain ⟨M1, A⟩ := r86_10
        obtain ⟨M2, B⟩ := r185_11
        exact lc_5 hj A B
      · skip
        obtain ⟨M1, A⟩ := r86_12
        obtain ⟨M2, B⟩ := r185_13
        exact lc_5 hj A B
      · skip
        obtain ⟨M1, A⟩ := r86_14
        obtain ⟨M2, B⟩ := r185_15
        exact lc_5 hj A B
