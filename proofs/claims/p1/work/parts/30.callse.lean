/-! PURE: calls on the fresh objects -/
set_option maxRecDepth 200000 in
set_option maxHeartbeats 4000000 in
theorem r91_0 (x1 : Int32) (g0 : x1 < 1) : ∃ M1, Ev none 999 91 0 [some (.ref 0), some (.int (x1))] [] memP (some (.int (-1))) M1 0 0 := by
  apply Exists.intro
  apply Ev.step (pc' := 5) (ls' := [some (.ref 0), some (.int (x1))]) (st' := [.int 400, .int 1, .int (x1)]) (M1 := _) 3 (fun n => rfl)
  apply Ev.call0 (ls0 := [some (.int (x1)), some (.int 1), some (.int 400)]) (rest := []) (id := 126) (v1 := some (.int 0))  (fun n => rfl)
  · apply Ev.step (pc' := 2) (ls' := [some (.int (x1)), some (.int 1), some (.int 400)]) (st' := [.int 1, .int (x1)]) (M1 := _) 2 (fun n => rfl)
    apply Ev.step (pc' := if x1 < 1 then 14 else 5) (ls' := [some (.int (x1)), some (.int 1), some (.int 400)]) (st' := []) (M1 := _) 1 (fun n => rfl)
    rw [if_pos g0]
    apply Ev.step (pc' := 15) (ls' := [some (.int (x1)), some (.int 1), some (.int 400)]) (st' := [.int 0]) (M1 := _) 1 (fun n => rfl)
    exact Ev.ret (fun n => rfl)
  apply Ev.step (pc' := 26) (ls' := [some (.ref 0), some (.int (x1))]) (st' := [.int (-1)]) (M1 := _) 2 (fun n => rfl)
  exact Ev.ret (fun n => rfl)
set_option maxRecDepth 200000 in
set_option maxHeartbeats 4000000 in
theorem r208_1 (x1 : Int32) (g0 : x1 < 1) : ∃ M1, Ev none 999 208 0 [some (.ref 0), some (.int (x1)), none] [] memR (some (.int (-1))) M1 0 0 := by
  apply Exists.intro
  apply Ev.step (pc' := 10) (ls' := [some (.ref 0), some (.int (x1)), none]) (st' := [.int 400, .int 1, .int (x1)]) (M1 := _) 6 (fun n => rfl)
  apply Ev.call0 (ls0 := [some (.int (x1)), some (.int 1), some (.int 400)]) (rest := []) (id := 141) (v1 := some (.int 0))  (fun n => rfl)
  · apply Ev.step (pc' := 2) (ls' := [some (.int (x1)), some (.int 1), some (.int 400)]) (st' := [.int 1, .int (x1)]) (M1 := _) 2 (fun n => rfl)
    apply Ev.step (pc' := if x1 < 1 then 14 else 5) (ls' := [some (.int (x1)), some (.int 1), some (.int 400)]) (st' := []) (M1 := _) 1 (fun n => rfl)
    rw [if_pos g0]
    apply Ev.step (pc' := 15) (ls' := [some (.int (x1)), some (.int 1), some (.int 400)]) (st' := [.int 0]) (M1 := _) 1 (fun n => rfl)
    exact Ev.ret (fun n => rfl)
  apply Ev.step (pc' := 33) (ls' := [some (.ref 0), some (.int (x1)), none]) (st' := [.int (-1)]) (M1 := _) 2 (fun n => rfl)
  exact Ev.ret (fun n => rfl)
set_option maxRecDepth 200000 in
set_option maxHeartbeats 4000000 in
theorem r91_2 (x1 : Int32) (g0 : ¬ x1 < 1) (g1 : 400 < x1) : ∃ M1, Ev none 999 91 0 [some (.ref 0), some (.int (x1))] [] memP (some (.int (-1))) M1 0 0 := by
  apply Exists.intro
  apply Ev.step (pc' := 5) (ls' := [some (.ref 0), some (.int (x1))]) (st' := [.int 400, .int 1, .int (x1)]) (M1 := _) 3 (fun n => rfl)
  apply Ev.call0 (ls0 := [some (.int (x1)), some (.int 1), some (.int 400)]) (rest := []) (id := 126) (v1 := some (.int 0))  (fun n => rfl)
  · apply Ev.step (pc' := 2) (ls' := [some (.int (x1)), some (.int 1), some (.int 400)]) (st' := [.int 1, .int (x1)]) (M1 := _) 2 (fun n => rfl)
    apply Ev.step (pc' := if x1 < 1 then 14 else 5) (ls' := [some (.int (x1)), some (.int 1), some (.int 400)]) (st' := []) (M1 := _) 1 (fun n => rfl)
    rw [if_neg g0]
    apply Ev.step (pc' := 7) (ls' := [some (.int (x1)), some (.int 1), some (.int 400)]) (st' := [.int 400, .int (x1)]) (M1 := _) 2 (fun n => rfl)
    apply Ev.step (pc' := if 400 < x1 then 14 else 10) (ls' := [some (.int (x1)), some (.int 1), some (.int 400)]) (st' := []) (M1 := _) 1 (fun n => rfl)
    rw [if_pos g1]
    apply Ev.step (pc' := 15) (ls' := [some (.int (x1)), some (.int 1), some (.int 400)]) (st' := [.int 0]) (M1 := _) 1 (fun n => rfl)
    exact Ev.ret (fun n => rfl)
  apply Ev.step (pc' := 26) (ls' := [some (.ref 0), some (.int (x1))]) (st' := [.int (-1)]) (M1 := _) 2 (fun n => rfl)
  exact Ev.ret (fun n => rfl)
set_option maxRecDepth 200000 in
set_option maxHeartbeats 4000000 in
theorem r208_3 (x1 : Int32) (g0 : ¬ x1 < 1) (g1 : 400 < x1) : ∃ M1, Ev none 999 208 0 [some (.ref 0), some (.int (x1)), none] [] memR (some (.int (-1))) M1 0 0 := by
  apply Exists.intro
  apply Ev.step (pc' := 10) (ls' := [some (.ref 0), some (.int (x1)), none]) (st' := [.int 400, .int 1, .int (x1)]) (M1 := _) 6 (fun n => rfl)
  apply Ev.call0 (ls0 := [some (.int (x1)), some (.int 1), some (.int 400)]) (rest := []) (id := 141) (v1 := some (.int 0))  (fun n => rfl)
  · apply Ev.step (pc' := 2) (ls' := [some (.int (x1)), some (.int 1), some (.int 400)]) (st' := [.int 1, .int (x1)]) (M1 := _) 2 (fun n => rfl)
    apply Ev.step (pc' := if x1 < 1 then 14 else 5) (ls' := [some (.int (x1)), some (.int 1), some (.int 400)]) (st' := []) (M1 := _) 1 (fun n => rfl)
    rw [if_neg g0]
    apply Ev.step (pc' := 7) (ls' := [some (.int (x1)), some (.int 1), some (.int 400)]) (st' := [.int 400, .int (x1)]) (M1 := _) 2 (fun n => rfl)
    apply Ev.step (pc' := if 400 < x1 then 14 else 10) (ls' := [some (.int (x1)), some (.int 1), some (.int 400)]) (st' := []) (M1 := _) 1 (fun n => rfl)
    rw [if_pos g1]
    apply Ev.step (pc' := 15) (ls' := [some (.int (x1)), some (.int 1), some (.int 400)]) (st' := [.int 0]) (M1 := _) 1 (fun n => rfl)
    exact Ev.ret (fun n => rfl)
  apply Ev.step (pc' := 33) (ls' := [some (.ref 0), some (.int (x1)), none]) (st' := [.int (-1)]) (M1 := _) 2 (fun n => rfl)
  exact Ev.ret (fun n => rfl)
set_option maxRecDepth 200000 in
set_option maxHeartbeats 4000000 in
theorem ok_9 {x0 x1 x2 x3 x4 x5 : Int32} (hj : x0 &&& 63 = nI 9) : Okk x0 x1 x2 x3 x4 x5 := by
  by_cases h1 : x1 < 1
  · skip
    obtain ⟨M1, A⟩ := (r91_0 x1 h1)
    obtain ⟨M2, B⟩ := (r208_1 x1 h1)
    exact lc_9 hj A B
  · skip
    by_cases h2 : 400 < x1
    · skip
      obtain ⟨M1, A⟩ := (r91_2 x1 h1 h2)
      obtain ⟨M2, B⟩ := (r208_3 x1 h1 h2)
      exact lc_9 hj A B
    · skip
      by_cases h3 : (0 + x1) ≤ 60000
      · skip
        obtain ⟨N, a1, a2, a3, rfl⟩ := nat_of h1 h2 (by decide)
        obtain ⟨M1, A⟩ := run_c h1 h2 h3 a3
        obtain ⟨M2, B⟩ := run_r h1 h2 h3 a3
        exact lc_9 hj A B
      · skip
        exfalso
        simp only [Int32.zero_add, Int32.lt_iff_toInt_lt, Int32.le_iff_toInt_le] at h1 h2 h3
        have e0 : (0 : Int32).toInt = 0 := by decide
        have e1 : (1 : Int32).toInt = 1 := by decide
        have e400 : (400 : Int32).toInt = 400 := by decide
        have e60000 : (60000 : Int32).toInt = 60000 := by decide
        omega
set_option maxRecDepth 200000 in
set_option maxHeartbeats 4000000 in
theorem r99_0 (x1 x2 : Int32) (g0 : x1 < 1) : ∃ M1, Ev none 999 99 0 [some (.ref 0), some (.int (x1)), some (.int (x2)), none] [] memP (some (.int (-2))) M1 0 0 := by
  apply Exists.intro
  apply Ev.step (pc' := 4) (ls' := [some (.ref 0), some (.int (x1)), some (.int (x2)), none]) (st' := [.int 40, .int 1, .int (x1)]) (M1 := _) 3 (fun n => rfl)
  apply Ev.call0 (ls0 := [some (.int (x1)), some (.int 1), some (.int 40)]) (rest := []) (id := 126) (v1 := some (.int 0))  (fun n => rfl)
  · apply Ev.step (pc' := 2) (ls' := [some (.int (x1)), some (.int 1), some (.int 40)]) (st' := [.int 1, .int (x1)]) (M1 := _) 2 (fun n => rfl)
    apply Ev.step (pc' := if x1 < 1 then 14 else 5) (ls' := [some (.int (x1)), some (.int 1), some (.int 40)]) (st' := []) (M1 := _) 1 (fun n => rfl)
    rw [if_pos g0]
    apply Ev.step (pc' := 15) (ls' := [some (.int (x1)), some (.int 1), some (.int 40)]) (st' := [.int 0]) (M1 := _) 1 (fun n => rfl)
    exact Ev.ret (fun n => rfl)
  apply Ev.step (pc' := 23) (ls' := [some (.ref 0), some (.int (x1)), some (.int (x2)), none]) (st' := [.int (-2)]) (M1 := _) 2 (fun n => rfl)
  exact Ev.ret (fun n => rfl)
set_option maxRecDepth 200000 in
set_option maxHeartbeats 4000000 in
theorem r224_1 (x1 x2 : Int32) (g0 : x1 < 1) : ∃ M1, Ev none 999 224 0 [some (.ref 0), some (.int (x1)), some (.int (x2)), none, none] [] memR (some (.int (-2))) M1 0 0 := by
  apply Exists.intro
  apply Ev.step (pc' := 9) (ls' := [some (.ref 0), some (.int (x1)), some (.int (x2)), none, none]) (st' := [.int 40, .int 1, .int (x1)]) (M1 := _) 6 (fun n => rfl)
  apply Ev.call0 (ls0 := [some (.int (x1)), some (.int 1), some (.int 40)]) (rest := []) (id := 141) (v1 := some (.int 0))  (fun n => rfl)
  · apply Ev.step (pc' := 2) (ls' := [some (.int (x1)), some (.int 1), some (.int 40)]) (st' := [.int 1, .int (x1)]) (M1 := _) 2 (fun n => rfl)
    apply Ev.step (pc' := if x1 < 1 then 14 else 5) (ls' := [some (.int (x1)), some (.int 1), some (.int 40)]) (st' := []) (M1 := _) 1 (fun n => rfl)
    rw [if_pos g0]
    apply Ev.step (pc' := 15) (ls' := [some (.int (x1)), some (.int 1), some (.int 40)]) (st' := [.int 0]) (M1 := _) 1 (fun n => rfl)
    exact Ev.ret (fun n => rfl)
  apply Ev.step (pc' := 28) (ls' := [some (.ref 0), some (.int (x1)), some (.int (x2)), none, none]) (st' := [.int (-2)]) (M1 := _) 2 (fun n => rfl)
  exact Ev.ret (fun n => rfl)
set_option maxRecDepth 200000 in
set_option maxHeartbeats 4000000 in
theorem r99_2 (x1 x2 : Int32) (g0 : ¬ x1 < 1) (g1 : 40 < x1) : ∃ M1, Ev none 999 99 0 [some (.ref 0), some (.int (x1)), some (.int (x2)), none] [] memP (some (.int (-2))) M1 0 0 := by
  apply Exists.intro
  apply Ev.step (pc' := 4) (ls' := [some (.ref 0), some (.int (x1)), some (.int (x2)), none]) (st' := [.int 40, .int 1, .int (x1)]) (M1 := _) 3 (fun n => rfl)
  apply Ev.call0 (ls0 := [some (.int (x1)), some (.int 1), some (.int 40)]) (rest := []) (id := 126) (v1 := some (.int 0))  (fun n => rfl)
  · apply Ev.step (pc' := 2) (ls' := [some (.int (x1)), some (.int 1), some (.int 40)]) (st' := [.int 1, .int (x1)]) (M1 := _) 2 (fun n => rfl)
    apply Ev.step (pc' := if x1 < 1 then 14 else 5) (ls' := [some (.int (x1)), some (.int 1), some (.int 40)]) (st' := []) (M1 := _) 1 (fun n => rfl)
    rw [if_neg g0]
    apply Ev.step (pc' := 7) (ls' := [some (.int (x1)), some (.int 1), some (.int 40)]) (st' := [.int 40, .int (x1)]) (M1 := _) 2 (fun n => rfl)
    apply Ev.step (pc' := if 40 < x1 then 14 else 10) (ls' := [some (.int (x1)), some (.int 1), some (.int 40)]) (st' := []) (M1 := _) 1 (fun n => rfl)
    rw [if_pos g1]
    apply Ev.step (pc' := 15) (ls' := [some (.int (x1)), some (.int 1), some (.int 40)]) (st' := [.int 0]) (M1 := _) 1 (fun n => rfl)
    exact Ev.ret (fun n => rfl)
  apply Ev.step (pc' := 23) (ls' := [some (.ref 0), some (.int (x1)), some (.int (x2)), none]) (st' := [.int (-2)]) (M1 := _) 2 (fun n => rfl)
  exact Ev.ret (fun n => rfl)
set_option maxRecDepth 200000 in
set_option maxHeartbeats 4000000 in
theorem r224_3 (x1 x2 : Int32) (g0 : ¬ x1 < 1) (g1 : 40 < x1) : ∃ M1, Ev none 999 224 0 [some (.ref 0), some (.int (x1)), some (.int (x2)), none, none] [] memR (some (.int (-2))) M1 0 0 := by
  apply Exists.intro
  apply Ev.step (pc' := 9) (ls' := [some (.ref 0), some (.int (x1)), some (.int (x2)), none, none]) (st' := [.int 40, .int 1, .int (x1)]) (M1 := _) 6 (fun n => rfl)
  apply Ev.call0 (ls0 := [some (.int (x1)), some (.int 1), some (.int 40)]) (rest := []) (id := 141) (v1 := some (.int 0))  (fun n => rfl)
  · apply Ev.step (pc' := 2) (ls' := [some (.int (x1)), some (.int 1), some (.int 40)]) (st' := [.int 1, .int (x1)]) (M1 := _) 2 (fun n => rfl)
    apply Ev.step (pc' := if x1 < 1 then 14 else 5) (ls' := [some (.int (x1)), some (.int 1), some (.int 40)]) (st' := []) (M1 := _) 1 (fun n => rfl)
    rw [if_neg g0]
    apply Ev.step (pc' := 7) (ls' := [some (.int (x1)), some (.int 1), some (.int 40)]) (st' := [.int 40, .int (x1)]) (M1 := _) 2 (fun n => rfl)
    apply Ev.step (pc' := if 40 < x1 then 14 else 10) (ls' := [some (.int (x1)), some (.int 1), some (.int 40)]) (st' := []) (M1 := _) 1 (fun n => rfl)
    rw [if_pos g1]
    apply Ev.step (pc' := 15) (ls' := [some (.int (x1)), some (.int 1), some (.int 40)]) (st' := [.int 0]) (M1 := _) 1 (fun n => rfl)
    exact Ev.ret (fun n => rfl)
  apply Ev.step (pc' := 28) (ls' := [some (.ref 0), some (.int (x1)), some (.int (x2)), none, none]) (st' := [.int (-2)]) (M1 := _) 2 (fun n => rfl)
  exact Ev.ret (fun n => rfl)
set_option maxRecDepth 200000 in
set_option maxHeartbeats 4000000 in
theorem r99_4 (x1 x2 : Int32) (g0 : ¬ x1 < 1) (g1 : ¬ 40 < x1) (g2 : x2 < 1) : ∃ M1, Ev none 999 99 0 [some (.ref 0), some (.int (x1)), some (.int (x2)), none] [] memP (some (.int (-2))) M1 0 0 := by
  apply Exists.intro
  apply Ev.step (pc' := 4) (ls' := [some (.ref 0), some (.int (x1)), some (.int (x2)), none]) (st' := [.int 40, .int 1, .int (x1)]) (M1 := _) 3 (fun n => rfl)
  apply Ev.call0 (ls0 := [some (.int (x1)), some (.int 1), some (.int 40)]) (rest := []) (id := 126) (v1 := some (.int 1))  (fun n => rfl)
  · apply Ev.step (pc' := 2) (ls' := [some (.int (x1)), some (.int 1), some (.int 40)]) (st' := [.int 1, .int (x1)]) (M1 := _) 2 (fun n => rfl)
    apply Ev.step (pc' := if x1 < 1 then 14 else 5) (ls' := [some (.int (x1)), some (.int 1), some (.int 40)]) (st' := []) (M1 := _) 1 (fun n => rfl)
    rw [if_neg g0]
    apply Ev.step (pc' := 7) (ls' := [some (.int (x1)), some (.int 1), some (.int 40)]) (st' := [.int 40, .int (x1)]) (M1 := _) 2 (fun n => rfl)
    apply Ev.step (pc' := if 40 < x1 then 14 else 10) (ls' := [some (.int (x1)), some (.int 1), some (.int 40)]) (st' := []) (M1 := _) 1 (fun n => rfl)
    rw [if_neg g1]
    apply Ev.step (pc' := 15) (ls' := [some (.int (x1)), some (.int 1), some (.int 40)]) (st' := [.int 1]) (M1 := _) 2 (fun n => rfl)
    exact Ev.ret (fun n => rfl)
  apply Ev.step (pc' := 15) (ls' := [some (.ref 0), some (.int (x1)), some (.int (x2)), none]) (st' := [.int 200, .int 1, .int (x2)]) (M1 := _) 4 (fun n => rfl)
  apply Ev.call0 (ls0 := [some (.int (x2)), some (.int 1), some (.int 200)]) (rest := []) (id := 126) (v1 := some (.int 0))  (fun n => rfl)
  · apply Ev.step (pc' := 2) (ls' := [some (.int (x2)), some (.int 1), some (.int 200)]) (st' := [.int 1, .int (x2)]) (M1 := _) 2 (fun n => rfl)
    apply Ev.step (pc' := if x2 < 1 then 14 else 5) (ls' := [some (.int (x2)), some (.int 1), some (.int 200)]) (st' := []) (M1 := _) 1 (fun n => rfl)
    rw [if_pos g2]
    apply Ev.step (pc' := 15) (ls' := [some (.int (x2)), some (.int 1), some (.int 200)]) (st' := [.int 0]) (M1 := _) 1 (fun n => rfl)
    exact Ev.ret (fun n => rfl)
  apply Ev.step (pc' := 23) (ls' := [some (.ref 0), some (.int (x1)), some (.int (x2)), none]) (st' := [.int (-2)]) (M1 := _) 2 (fun n => rfl)
  exact Ev.ret (fun n => rfl)
set_option maxRecDepth 200000 in
set_option maxHeartbeats 4000000 in
theorem r224_5 (x1 x2 : Int32) (g0 : ¬ x1 < 1) (g1 : ¬ 40 < x1) (g2 : x2 < 1) : ∃ M1, Ev none 999 224 0 [some (.ref 0), some (.int (x1)), some (.int (x2)), none, none] [] memR (some (.int (-2))) M1 0 0 := by
  apply Exists.intro
  apply Ev.step (pc' := 9) (ls' := [some (.ref 0), some (.int (x1)), some (.int (x2)), none, none]) (st' := [.int 40, .int 1, .int (x1)]) (M1 := _) 6 (fun n => rfl)
  apply Ev.call0 (ls0 := [some (.int (x1)), some (.int 1), some (.int 40)]) (rest := []) (id := 141) (v1 := some (.int 1))  (fun n => rfl)
  · apply Ev.step (pc' := 2) (ls' := [some (.int (x1)), some (.int 1), some (.int 40)]) (st' := [.int 1, .int (x1)]) (M1 := _) 2 (fun n => rfl)
    apply Ev.step (pc' := if x1 < 1 then 14 else 5) (ls' := [some (.int (x1)), some (.int 1), some (.int 40)]) (st' := []) (M1 := _) 1 (fun n => rfl)
    rw [if_neg g0]
    apply Ev.step (pc' := 7) (ls' := [some (.int (x1)), some (.int 1), some (.int 40)]) (st' := [.int 40, .int (x1)]) (M1 := _) 2 (fun n => rfl)
    apply Ev.step (pc' := if 40 < x1 then 14 else 10) (ls' := [some (.int (x1)), some (.int 1), some (.int 40)]) (st' := []) (M1 := _) 1 (fun n => rfl)
    rw [if_neg g1]
    apply Ev.step (pc' := 15) (ls' := [some (.int (x1)), some (.int 1), some (.int 40)]) (st' := [.int 1]) (M1 := _) 2 (fun n => rfl)
    exact Ev.ret (fun n => rfl)
  apply Ev.step (pc' := 20) (ls' := [some (.ref 0), some (.int (x1)), some (.int (x2)), none, none]) (st' := [.int 200, .int 1, .int (x2)]) (M1 := _) 4 (fun n => rfl)
  apply Ev.call0 (ls0 := [some (.int (x2)), some (.int 1), some (.int 200)]) (rest := []) (id := 141) (v1 := some (.int 0))  (fun n => rfl)
  · apply Ev.step (pc' := 2) (ls' := [some (.int (x2)), some (.int 1), some (.int 200)]) (st' := [.int 1, .int (x2)]) (M1 := _) 2 (fun n => rfl)
    apply Ev.step (pc' := if x2 < 1 then 14 else 5) (ls' := [some (.int (x2)), some (.int 1), some (.int 200)]) (st' := []) (M1 := _) 1 (fun n => rfl)
    rw [if_pos g2]
    apply Ev.step (pc' := 15) (ls' := [some (.int (x2)), some (.int 1), some (.int 200)]) (st' := [.int 0]) (M1 := _) 1 (fun n => rfl)
    exact Ev.ret (fun n => rfl)
  apply Ev.step (pc' := 28) (ls' := [some (.ref 0), some (.int (x1)), some (.int (x2)), none, none]) (st' := [.int (-2)]) (M1 := _) 2 (fun n => rfl)
  exact Ev.ret (fun n => rfl)
set_option maxRecDepth 200000 in
set_option maxHeartbeats 4000000 in
theorem r99_6 (x1 x2 : Int32) (g0 : ¬ x1 < 1) (g1 : ¬ 40 < x1) (g2 : ¬ x2 < 1) (g3 : 200 < x2) : ∃ M1, Ev none 999 99 0 [some (.ref 0), some (.int (x1)), some (.int (x2)), none] [] memP (some (.int (-2))) M1 0 0 := by
  apply Exists.intro
  apply Ev.step (pc' := 4) (ls' := [some (.ref 0), some (.int (x1)), some (.int (x2)), none]) (st' := [.int 40, .int 1, .int (x1)]) (M1 := _) 3 (fun n => rfl)
  apply Ev.call0 (ls0 := [some (.int (x1)), some (.int 1), some (.int 40)]) (rest := []) (id := 126) (v1 := some (.int 1))  (fun n => rfl)
  · apply Ev.step (pc' := 2) (ls' := [some (.int (x1)), some (.int 1), some (.int 40)]) (st' := [.int 1, .int (x1)]) (M1 := _) 2 (fun n => rfl)
    apply Ev.step (pc' := if x1 < 1 then 14 else 5) (ls' := [some (.int (x1)), some (.int 1), some (.int 40)]) (st' := []) (M1 := _) 1 (fun n => rfl)
    rw [if_neg g0]
    apply Ev.step (pc' := 7) (ls' := [some (.int (x1)), some (.int 1), some (.int 40)]) (st' := [.int 40, .int (x1)]) (M1 := _) 2 (fun n => rfl)
    apply Ev.step (pc' := if 40 < x1 then 14 else 10) (ls' := [some (.int (x1)), some (.int 1), some (.int 40)]) (st' := []) (M1 := _) 1 (fun n => rfl)
    rw [if_neg g1]
    apply Ev.step (pc' := 15) (ls' := [some (.int (x1)), some (.int 1), some (.int 40)]) (st' := [.int 1]) (M1 := _) 2 (fun n => rfl)
    exact Ev.ret (fun n => rfl)
  apply Ev.step (pc' := 15) (ls' := [some (.ref 0), some (.int (x1)), some (.int (x2)), none]) (st' := [.int 200, .int 1, .int (x2)]) (M1 := _) 4 (fun n => rfl)
  apply Ev.call0 (ls0 := [some (.int (x2)), some (.int 1), some (.int 200)]) (rest := []) (id := 126) (v1 := some (.int 0))  (fun n => rfl)
  · apply Ev.step (pc' := 2) (ls' := [some (.int (x2)), some (.int 1), some (.int 200)]) (st' := [.int 1, .int (x2)]) (M1 := _) 2 (fun n => rfl)
    apply Ev.step (pc' := if x2 < 1 then 14 else 5) (ls' := [some (.int (x2)), some (.int 1), some (.int 200)]) (st' := []) (M1 := _) 1 (fun n => rfl)
    rw [if_neg g2]
    apply Ev.step (pc' := 7) (ls' := [some (.int (x2)), some (.int 1), some (.int 200)]) (st' := [.int 200, .int (x2)]) (M1 := _) 2 (fun n => rfl)
    apply Ev.step (pc' := if 200 < x2 then 14 else 10) (ls' := [some (.int (x2)), some (.int 1), some (.int 200)]) (st' := []) (M1 := _) 1 (fun n => rfl)
    rw [if_pos g3]
    apply Ev.step (pc' := 15) (ls' := [some (.int (x2)), some (.int 1), some (.int 200)]) (st' := [.int 0]) (M1 := _) 1 (fun n => rfl)
    exact Ev.ret (fun n => rfl)
  apply Ev.step (pc' := 23) (ls' := [some (.ref 0), some (.int (x1)), some (.int (x2)), none]) (st' := [.int (-2)]) (M1 := _) 2 (fun n => rfl)
  exact Ev.ret (fun n => rfl)
set_option maxRecDepth 200000 in
set_option maxHeartbeats 4000000 in
theorem r224_7 (x1 x2 : Int32) (g0 : ¬ x1 < 1) (g1 : ¬ 40 < x1) (g2 : ¬ x2 < 1) (g3 : 200 < x2) : ∃ M1, Ev none 999 224 0 [some (.ref 0), some (.int (x1)), some (.int (x2)), none, none] [] memR (some (.int (-2))) M1 0 0 := by
  apply Exists.intro
  apply Ev.step (pc' := 9) (ls' := [some (.ref 0), some (.int (x1)), some (.int (x2)), none, none]) (st' := [.int 40, .int 1, .int (x1)]) (M1 := _) 6 (fun n => rfl)
  apply Ev.call0 (ls0 := [some (.int (x1)), some (.int 1), some (.int 40)]) (rest := []) (id := 141) (v1 := some (.int 1))  (fun n => rfl)
  · apply Ev.step (pc' := 2) (ls' := [some (.int (x1)), some (.int 1), some (.int 40)]) (st' := [.int 1, .int (x1)]) (M1 := _) 2 (fun n => rfl)
    apply Ev.step (pc' := if x1 < 1 then 14 else 5) (ls' := [some (.int (x1)), some (.int 1), some (.int 40)]) (st' := []) (M1 := _) 1 (fun n => rfl)
    rw [if_neg g0]
    apply Ev.step (pc' := 7) (ls' := [some (.int (x1)), some (.int 1), some (.int 40)]) (st' := [.int 40, .int (x1)]) (M1 := _) 2 (fun n => rfl)
    apply Ev.step (pc' := if 40 < x1 then 14 else 10) (ls' := [some (.int (x1)), some (.int 1), some (.int 40)]) (st' := []) (M1 := _) 1 (fun n => rfl)
    rw [if_neg g1]
    apply Ev.step (pc' := 15) (ls' := [some (.int (x1)), some (.int 1), some (.int 40)]) (st' := [.int 1]) (M1 := _) 2 (fun n => rfl)
    exact Ev.ret (fun n => rfl)
  apply Ev.step (pc' := 20) (ls' := [some (.ref 0), some (.int (x1)), some (.int (x2)), none, none]) (st' := [.int 200, .int 1, .int (x2)]) (M1 := _) 4 (fun n => rfl)
  apply Ev.call0 (ls0 := [some (.int (x2)), some (.int 1), some (.int 200)]) (rest := []) (id := 141) (v1 := some (.int 0))  (fun n => rfl)
  · apply Ev.step (pc' := 2) (ls' := [some (.int (x2)), some (.int 1), some (.int 200)]) (st' := [.int 1, .int (x2)]) (M1 := _) 2 (fun n => rfl)
    apply Ev.step (pc' := if x2 < 1 then 14 else 5) (ls' := [some (.int (x2)), some (.int 1), some (.int 200)]) (st' := []) (M1 := _) 1 (fun n => rfl)
    rw [if_neg g2]
    apply Ev.step (pc' := 7) (ls' := [some (.int (x2)), some (.int 1), some (.int 200)]) (st' := [.int 200, .int (x2)]) (M1 := _) 2 (fun n => rfl)
    apply Ev.step (pc' := if 200 < x2 then 14 else 10) (ls' := [some (.int (x2)), some (.int 1), some (.int 200)]) (st' := []) (M1 := _) 1 (fun n => rfl)
    rw [if_pos g3]
    apply Ev.step (pc' := 15) (ls' := [some (.int (x2)), some (.int 1), some (.int 200)]) (st' := [.int 0]) (M1 := _) 1 (fun n => rfl)
    exact Ev.ret (fun n => rfl)
  apply Ev.step (pc' := 28) (ls' := [some (.ref 0), some (.int (x1)), some (.int (x2)), none, none]) (st' := [.int (-2)]) (M1 := _) 2 (fun n => rfl)
  exact Ev.ret (fun n => rfl)
set_option maxRecDepth 200000 in
set_option maxHeartbeats 4000000 in
theorem ok_18 {x0 x1 x2 x3 x4 x5 : Int32} (hj : x0 &&& 63 = nI 18) : Okk x0 x1 x2 x3 x4 x5 := by
  by_cases h1 : x1 < 1
  · skip
    obtain ⟨M1, A⟩ := (r99_0 x1 x2 h1)
    obtain ⟨M2, B⟩ := (r224_1 x1 x2 h1)
    exact lc_18 hj A B
  · skip
    by_cases h2 : 40 < x1
    · skip
      obtain ⟨M1, A⟩ := (r99_2 x1 x2 h1 h2)
      obtain ⟨M2, B⟩ := (r224_3 x1 x2 h1 h2)
      exact lc_18 hj A B
    · skip
      by_cases h3 : x2 < 1
      · skip
        obtain ⟨M1, A⟩ := (r99_4 x1 x2 h1 h2 h3)
        obtain ⟨M2, B⟩ := (r224_5 x1 x2 h1 h2 h3)
        exact lc_18 hj A B
      · skip
        by_cases h4 : 200 < x2
        · skip
          obtain ⟨M1, A⟩ := (r99_6 x1 x2 h1 h2 h3 h4)
          obtain ⟨M2, B⟩ := (r224_7 x1 x2 h1 h2 h3 h4)
          exact lc_18 hj A B
        · skip
          obtain ⟨W, a1, a2, a3, rfl⟩ := nat_of h1 h2 (by decide)
          obtain ⟨K, b1, b2, b3, rfl⟩ := nat_of h3 h4 (by decide)
          obtain ⟨M1, A⟩ := rests_c h1 h2 h3 h4 a3 b3
          obtain ⟨M2, B⟩ := rests_r h1 h2 h3 h4 a3 b3
          exact lc_18 hj A B
set_option maxRecDepth 200000 in
set_option maxHeartbeats 4000000 in
theorem r105_0 (x1 x2 : Int32) (g0 : x1 < 1) : ∃ M1, Ev none 999 105 0 [some (.ref 0), some (.int (x1)), some (.int (x2)), none, none, none, none] [] memP (some (.int (-1))) M1 0 0 := by
  apply Exists.intro
  apply Ev.step (pc' := 3) (ls' := [some (.ref 0), some (.int (x1)), some (.int (x2)), none, none, none, none]) (st' := [.int (x2), .int (x1), .ref 0]) (M1 := _) 3 (fun n => rfl)
  apply Ev.call0 (ls0 := [some (.ref 0), some (.int (x1)), some (.int (x2))]) (rest := []) (id := 106) (v1 := some (.int 0))  (fun n => rfl)
  · apply Ev.step (pc' := 4) (ls' := [some (.ref 0), some (.int (x1)), some (.int (x2))]) (st' := [.int 20, .int 1, .int (x1)]) (M1 := _) 3 (fun n => rfl)
    apply Ev.call0 (ls0 := [some (.int (x1)), some (.int 1), some (.int 20)]) (rest := []) (id := 126) (v1 := some (.int 0))  (fun n => rfl)
    · apply Ev.step (pc' := 2) (ls' := [some (.int (x1)), some (.int 1), some (.int 20)]) (st' := [.int 1, .int (x1)]) (M1 := _) 2 (fun n => rfl)
      apply Ev.step (pc' := if x1 < 1 then 14 else 5) (ls' := [some (.int (x1)), some (.int 1), some (.int 20)]) (st' := []) (M1 := _) 1 (fun n => rfl)
      rw [if_pos g0]
      apply Ev.step (pc' := 15) (ls' := [some (.int (x1)), some (.int 1), some (.int 20)]) (st' := [.int 0]) (M1 := _) 1 (fun n => rfl)
      exact Ev.ret (fun n => rfl)
    apply Ev.step (pc' := 26) (ls' := [some (.ref 0), some (.int (x1)), some (.int (x2))]) (st' := [.int 0]) (M1 := _) 2 (fun n => rfl)
    exact Ev.ret (fun n => rfl)
  apply Ev.step (pc' := 10) (ls' := [some (.ref 0), some (.int (x1)), some (.int (x2)), none, none, none, none]) (st' := [.int (-1)]) (M1 := _) 2 (fun n => rfl)
  exact Ev.ret (fun n => rfl)
set_option maxRecDepth 200000 in
set_option maxHeartbeats 4000000 in
theorem r233_1 (x1 x2 : Int32) (g0 : x1 < 1) : ∃ M1, Ev none 999 233 0 [some (.ref 0), some (.int (x1)), some (.int (x2)), none, none, none, none] [] memR (some (.int (-1))) M1 0 0 := by
  apply Exists.intro
  apply Ev.step (pc' := 9) (ls' := [some (.ref 0), some (.int (x1)), some (.int (x2)), none, none, none, none]) (st' := [.int 20, .int 1, .int (x1)]) (M1 := _) 6 (fun n => rfl)
  apply Ev.call0 (ls0 := [some (.int (x1)), some (.int 1), some (.int 20)]) (rest := []) (id := 141) (v1 := some (.int 0))  (fun n => rfl)
  · apply Ev.step (pc' := 2) (ls' := [some (.int (x1)), some (.int 1), some (.int 20)]) (st' := [.int 1, .int (x1)]) (M1 := _) 2 (fun n => rfl)
    apply Ev.step (pc' := if x1 < 1 then 14 else 5) (ls' := [some (.int (x1)), some (.int 1), some (.int 20)]) (st' := []) (M1 := _) 1 (fun n => rfl)
    rw [if_pos g0]
    apply Ev.step (pc' := 15) (ls' := [some (.int (x1)), some (.int 1), some (.int 20)]) (st' := [.int 0]) (M1 := _) 1 (fun n => rfl)
    exact Ev.ret (fun n => rfl)
  apply Ev.step (pc' := 27) (ls' := [some (.ref 0), some (.int (x1)), some (.int (x2)), none, none, none, none]) (st' := [.int (-1)]) (M1 := _) 2 (fun n => rfl)
  exact Ev.ret (fun n => rfl)
set_option maxRecDepth 200000 in
set_option maxHeartbeats 4000000 in
theorem r105_2 (x1 x2 : Int32) (g0 : ¬ x1 < 1) (g1 : 20 < x1) : ∃ M1, Ev none 999 105 0 [some (.ref 0), some (.int (x1)), some (.int (x2)), none, none, none, none] [] memP (some (.int (-1))) M1 0 0 := by
  apply Exists.intro
  apply Ev.step (pc' := 3) (ls' := [some (.ref 0), some (.int (x1)), some (.int (x2)), none, none, none, none]) (st' := [.int (x2), .int (x1), .ref 0]) (M1 := _) 3 (fun n => rfl)
  apply Ev.call0 (ls0 := [some (.ref 0), some (.int (x1)), some (.int (x2))]) (rest := []) (id := 106) (v1 := some (.int 0))  (fun n => rfl)
  · apply Ev.step (pc' := 4) (ls' := [some (.ref 0), some (.int (x1)), some (.int (x2))]) (st' := [.int 20, .int 1, .int (x1)]) (M1 := _) 3 (fun n => rfl)
    apply Ev.call0 (ls0 := [some (.int (x1)), some (.int 1), some (.int 20)]) (rest := []) (id := 126) (v1 := some (.int 0))  (fun n => rfl)
    · apply Ev.step (pc' := 2) (ls' := [some (.int (x1)), some (.int 1), some (.int 20)]) (st' := [.int 1, .int (x1)]) (M1 := _) 2 (fun n => rfl)
      apply Ev.step (pc' := if x1 < 1 then 14 else 5) (ls' := [some (.int (x1)), some (.int 1), some (.int 20)]) (st' := []) (M1 := _) 1 (fun n => rfl)
      rw [if_neg g0]
      apply Ev.step (pc' := 7) (ls' := [some (.int (x1)), some (.int 1), some (.int 20)]) (st' := [.int 20, .int (x1)]) (M1 := _) 2 (fun n => rfl)
      apply Ev.step (pc' := if 20 < x1 then 14 else 10) (ls' := [some (.int (x1)), some (.int 1), some (.int 20)]) (st' := []) (M1 := _) 1 (fun n => rfl)
      rw [if_pos g1]
      apply Ev.step (pc' := 15) (ls' := [some (.int (x1)), some (.int 1), some (.int 20)]) (st' := [.int 0]) (M1 := _) 1 (fun n => rfl)
      exact Ev.ret (fun n => rfl)
    apply Ev.step (pc' := 26) (ls' := [some (.ref 0), some (.int (x1)), some (.int (x2))]) (st' := [.int 0]) (M1 := _) 2 (fun n => rfl)
    exact Ev.ret (fun n => rfl)
  apply Ev.step (pc' := 10) (ls' := [some (.ref 0), some (.int (x1)), some (.int (x2)), none, none, none, none]) (st' := [.int (-1)]) (M1 := _) 2 (fun n => rfl)
  exact Ev.ret (fun n => rfl)
set_option maxRecDepth 200000 in
set_option maxHeartbeats 4000000 in
theorem r233_3 (x1 x2 : Int32) (g0 : ¬ x1 < 1) (g1 : 20 < x1) : ∃ M1, Ev none 999 233 0 [some (.ref 0), some (.int (x1)), some (.int (x2)), none, none, none, none] [] memR (some (.int (-1))) M1 0 0 := by
  apply Exists.intro
  apply Ev.step (pc' := 9) (ls' := [some (.ref 0), some (.int (x1)), some (.int (x2)), none, none, none, none]) (st' := [.int 20, .int 1, .int (x1)]) (M1 := _) 6 (fun n => rfl)
  apply Ev.call0 (ls0 := [some (.int (x1)), some (.int 1), some (.int 20)]) (rest := []) (id := 141) (v1 := some (.int 0))  (fun n => rfl)
  · apply Ev.step (pc' := 2) (ls' := [some (.int (x1)), some (.int 1), some (.int 20)]) (st' := [.int 1, .int (x1)]) (M1 := _) 2 (fun n => rfl)
    apply Ev.step (pc' := if x1 < 1 then 14 else 5) (ls' := [some (.int (x1)), some (.int 1), some (.int 20)]) (st' := []) (M1 := _) 1 (fun n => rfl)
    rw [if_neg g0]
    apply Ev.step (pc' := 7) (ls' := [some (.int (x1)), some (.int 1), some (.int 20)]) (st' := [.int 20, .int (x1)]) (M1 := _) 2 (fun n => rfl)
    apply Ev.step (pc' := if 20 < x1 then 14 else 10) (ls' := [some (.int (x1)), some (.int 1), some (.int 20)]) (st' := []) (M1 := _) 1 (fun n => rfl)
    rw [if_pos g1]
    apply Ev.step (pc' := 15) (ls' := [some (.int (x1)), some (.int 1), some (.int 20)]) (st' := [.int 0]) (M1 := _) 1 (fun n => rfl)
    exact Ev.ret (fun n => rfl)
  apply Ev.step (pc' := 27) (ls' := [some (.ref 0), some (.int (x1)), some (.int (x2)), none, none, none, none]) (st' := [.int (-1)]) (M1 := _) 2 (fun n => rfl)
  exact Ev.ret (fun n => rfl)
set_option maxRecDepth 200000 in
set_option maxHeartbeats 4000000 in
theorem r105_4 (x1 x2 : Int32) (g0 : ¬ x1 < 1) (g1 : ¬ 20 < x1) (g2 : x2 < 1) : ∃ M1, Ev none 999 105 0 [some (.ref 0), some (.int (x1)), some (.int (x2)), none, none, none, none] [] memP (some (.int (-1))) M1 0 0 := by
  apply Exists.intro
  apply Ev.step (pc' := 3) (ls' := [some (.ref 0), some (.int (x1)), some (.int (x2)), none, none, none, none]) (st' := [.int (x2), .int (x1), .ref 0]) (M1 := _) 3 (fun n => rfl)
  apply Ev.call0 (ls0 := [some (.ref 0), some (.int (x1)), some (.int (x2))]) (rest := []) (id := 106) (v1 := some (.int 0))  (fun n => rfl)
  · apply Ev.step (pc' := 4) (ls' := [some (.ref 0), some (.int (x1)), some (.int (x2))]) (st' := [.int 20, .int 1, .int (x1)]) (M1 := _) 3 (fun n => rfl)
    apply Ev.call0 (ls0 := [some (.int (x1)), some (.int 1), some (.int 20)]) (rest := []) (id := 126) (v1 := some (.int 1))  (fun n => rfl)
    · apply Ev.step (pc' := 2) (ls' := [some (.int (x1)), some (.int 1), some (.int 20)]) (st' := [.int 1, .int (x1)]) (M1 := _) 2 (fun n => rfl)
      apply Ev.step (pc' := if x1 < 1 then 14 else 5) (ls' := [some (.int (x1)), some (.int 1), some (.int 20)]) (st' := []) (M1 := _) 1 (fun n => rfl)
      rw [if_neg g0]
      apply Ev.step (pc' := 7) (ls' := [some (.int (x1)), some (.int 1), some (.int 20)]) (st' := [.int 20, .int (x1)]) (M1 := _) 2 (fun n => rfl)
      apply Ev.step (pc' := if 20 < x1 then 14 else 10) (ls' := [some (.int (x1)), some (.int 1), some (.int 20)]) (st' := []) (M1 := _) 1 (fun n => rfl)
      rw [if_neg g1]
      apply Ev.step (pc' := 15) (ls' := [some (.int (x1)), some (.int 1), some (.int 20)]) (st' := [.int 1]) (M1 := _) 2 (fun n => rfl)
      exact Ev.ret (fun n => rfl)
    apply Ev.step (pc' := 15) (ls' := [some (.ref 0), some (.int (x1)), some (.int (x2))]) (st' := [.int 200, .int 1, .int (x2)]) (M1 := _) 4 (fun n => rfl)
    apply Ev.call0 (ls0 := [some (.int (x2)), some (.int 1), some (.int 200)]) (rest := []) (id := 126) (v1 := some (.int 0))  (fun n => rfl)
    · apply Ev.step (pc' := 2) (ls' := [some (.int (x2)), some (.int 1), some (.int 200)]) (st' := [.int 1, .int (x2)]) (M1 := _) 2 (fun n => rfl)
      apply Ev.step (pc' := if x2 < 1 then 14 else 5) (ls' := [some (.int (x2)), some (.int 1), some (.int 200)]) (st' := []) (M1 := _) 1 (fun n => rfl)
      rw [if_pos g2]
      apply Ev.step (pc' := 15) (ls' := [some (.int (x2)), some (.int 1), some (.int 200)]) (st' := [.int 0]) (M1 := _) 1 (fun n => rfl)
      exact Ev.ret (fun n => rfl)
    apply Ev.step (pc' := 26) (ls' := [some (.ref 0), some (.int (x1)), some (.int (x2))]) (st' := [.int 0]) (M1 := _) 2 (fun n => rfl)
    exact Ev.ret (fun n => rfl)
  apply Ev.step (pc' := 10) (ls' := [some (.ref 0), some (.int (x1)), some (.int (x2)), none, none, none, none]) (st' := [.int (-1)]) (M1 := _) 2 (fun n => rfl)
  exact Ev.ret (fun n => rfl)
set_option maxRecDepth 200000 in
set_option maxHeartbeats 4000000 in
theorem r233_5 (x1 x2 : Int32) (g0 : ¬ x1 < 1) (g1 : ¬ 20 < x1) (g2 : x2 < 1) : ∃ M1, Ev none 999 233 0 [some (.ref 0), some (.int (x1)), some (.int (x2)), none, none, none, none] [] memR (some (.int (-1))) M1 0 0 := by
  apply Exists.intro
  apply Ev.step (pc' := 9) (ls' := [some (.ref 0), some (.int (x1)), some (.int (x2)), none, none, none, none]) (st' := [.int 20, .int 1, .int (x1)]) (M1 := _) 6 (fun n => rfl)
  apply Ev.call0 (ls0 := [some (.int (x1)), some (.int 1), some (.int 20)]) (rest := []) (id := 141) (v1 := some (.int 1))  (fun n => rfl)
  · apply Ev.step (pc' := 2) (ls' := [some (.int (x1)), some (.int 1), some (.int 20)]) (st' := [.int 1, .int (x1)]) (M1 := _) 2 (fun n => rfl)
    apply Ev.step (pc' := if x1 < 1 then 14 else 5) (ls' := [some (.int (x1)), some (.int 1), some (.int 20)]) (st' := []) (M1 := _) 1 (fun n => rfl)
    rw [if_neg g0]
    apply Ev.step (pc' := 7) (ls' := [some (.int (x1)), some (.int 1), some (.int 20)]) (st' := [.int 20, .int (x1)]) (M1 := _) 2 (fun n => rfl)
    apply Ev.step (pc' := if 20 < x1 then 14 else 10) (ls' := [some (.int (x1)), some (.int 1), some (.int 20)]) (st' := []) (M1 := _) 1 (fun n => rfl)
    rw [if_neg g1]
    apply Ev.step (pc' := 15) (ls' := [some (.int (x1)), some (.int 1), some (.int 20)]) (st' := [.int 1]) (M1 := _) 2 (fun n => rfl)
    exact Ev.ret (fun n => rfl)
  apply Ev.step (pc' := 20) (ls' := [some (.ref 0), some (.int (x1)), some (.int (x2)), none, none, none, none]) (st' := [.int 200, .int 1, .int (x2)]) (M1 := _) 4 (fun n => rfl)
  apply Ev.call0 (ls0 := [some (.int (x2)), some (.int 1), some (.int 200)]) (rest := []) (id := 141) (v1 := some (.int 0))  (fun n => rfl)
  · apply Ev.step (pc' := 2) (ls' := [some (.int (x2)), some (.int 1), some (.int 200)]) (st' := [.int 1, .int (x2)]) (M1 := _) 2 (fun n => rfl)
    apply Ev.step (pc' := if x2 < 1 then 14 else 5) (ls' := [some (.int (x2)), some (.int 1), some (.int 200)]) (st' := []) (M1 := _) 1 (fun n => rfl)
    rw [if_pos g2]
    apply Ev.step (pc' := 15) (ls' := [some (.int (x2)), some (.int 1), some (.int 200)]) (st' := [.int 0]) (M1 := _) 1 (fun n => rfl)
    exact Ev.ret (fun n => rfl)
  apply Ev.step (pc' := 27) (ls' := [some (.ref 0), some (.int (x1)), some (.int (x2)), none, none, none, none]) (st' := [.int (-1)]) (M1 := _) 2 (fun n => rfl)
  exact Ev.ret (fun n => rfl)
set_option maxRecDepth 200000 in
set_option maxHeartbeats 4000000 in
theorem r105_6 (x1 x2 : Int32) (g0 : ¬ x1 < 1) (g1 : ¬ 20 < x1) (g2 : ¬ x2 < 1) (g3 : 200 < x2) : ∃ M1, Ev none 999 105 0 [some (.ref 0), some (.int (x1)), some (.int (x2)), none, none, none, none] [] memP (some (.int (-1))) M1 0 0 := by
  apply Exists.intro
  apply Ev.step (pc' := 3) (ls' := [some (.ref 0), some (.int (x1)), some (.int (x2)), none, none, none, none]) (st' := [.int (x2), .int (x1), .ref 0]) (M1 := _) 3 (fun n => rfl)
  apply Ev.call0 (ls0 := [some (.ref 0), some (.int (x1)), some (.int (x2))]) (rest := []) (id := 106) (v1 := some (.int 0))  (fun n => rfl)
  · apply Ev.step (pc' := 4) (ls' := [some (.ref 0), some (.int (x1)), some (.int (x2))]) (st' := [.int 20, .int 1, .int (x1)]) (M1 := _) 3 (fun n => rfl)
    apply Ev.call0 (ls0 := [some (.int (x1)), some (.int 1), some (.int 20)]) (rest := []) (id := 126) (v1 := some (.int 1))  (fun n => rfl)
    · apply Ev.step (pc' := 2) (ls' := [some (.int (x1)), some (.int 1), some (.int 20)]) (st' := [.int 1, .int (x1)]) (M1 := _) 2 (fun n => rfl)
      apply Ev.step (pc' := if x1 < 1 then 14 else 5) (ls' := [some (.int (x1)), some (.int 1), some (.int 20)]) (st' := []) (M1 := _) 1 (fun n => rfl)
      rw [if_neg g0]
      apply Ev.step (pc' := 7) (ls' := [some (.int (x1)), some (.int 1), some (.int 20)]) (st' := [.int 20, .int (x1)]) (M1 := _) 2 (fun n => rfl)
      apply Ev.step (pc' := if 20 < x1 then 14 else 10) (ls' := [some (.int (x1)), some (.int 1), some (.int 20)]) (st' := []) (M1 := _) 1 (fun n => rfl)
      rw [if_neg g1]
      apply Ev.step (pc' := 15) (ls' := [some (.int (x1)), some (.int 1), some (.int 20)]) (st' := [.int 1]) (M1 := _) 2 (fun n => rfl)
      exact Ev.ret (fun n => rfl)
    apply Ev.step (pc' := 15) (ls' := [some (.ref 0), some (.int (x1)), some (.int (x2))]) (st' := [.int 200, .int 1, .int (x2)]) (M1 := _) 4 (fun n => rfl)
    apply Ev.call0 (ls0 := [some (.int (x2)), some (.int 1), some (.int 200)]) (rest := []) (id := 126) (v1 := some (.int 0))  (fun n => rfl)
    · apply Ev.step (pc' := 2) (ls' := [some (.int (x2)), some (.int 1), some (.int 200)]) (st' := [.int 1, .int (x2)]) (M1 := _) 2 (fun n => rfl)
      apply Ev.step (pc' := if x2 < 1 then 14 else 5) (ls' := [some (.int (x2)), some (.int 1), some (.int 200)]) (st' := []) (M1 := _) 1 (fun n => rfl)
      rw [if_neg g2]
      apply Ev.step (pc' := 7) (ls' := [some (.int (x2)), some (.int 1), some (.int 200)]) (st' := [.int 200, .int (x2)]) (M1 := _) 2 (fun n => rfl)
      apply Ev.step (pc' := if 200 < x2 then 14 else 10) (ls' := [some (.int (x2)), some (.int 1), some (.int 200)]) (st' := []) (M1 := _) 1 (fun n => rfl)
      rw [if_pos g3]
      apply Ev.step (pc' := 15) (ls' := [some (.int (x2)), some (.int 1), some (.int 200)]) (st' := [.int 0]) (M1 := _) 1 (fun n => rfl)
      exact Ev.ret (fun n => rfl)
    apply Ev.step (pc' := 26) (ls' := [some (.ref 0), some (.int (x1)), some (.int (x2))]) (st' := [.int 0]) (M1 := _) 2 (fun n => rfl)
    exact Ev.ret (fun n => rfl)
  apply Ev.step (pc' := 10) (ls' := [some (.ref 0), some (.int (x1)), some (.int (x2)), none, none, none, none]) (st' := [.int (-1)]) (M1 := _) 2 (fun n => rfl)
  exact Ev.ret (fun n => rfl)
set_option maxRecDepth 200000 in
set_option maxHeartbeats 4000000 in
theorem r233_7 (x1 x2 : Int32) (g0 : ¬ x1 < 1) (g1 : ¬ 20 < x1) (g2 : ¬ x2 < 1) (g3 : 200 < x2) : ∃ M1, Ev none 999 233 0 [some (.ref 0), some (.int (x1)), some (.int (x2)), none, none, none, none] [] memR (some (.int (-1))) M1 0 0 := by
  apply Exists.intro
  apply Ev.step (pc' := 9) (ls' := [some (.ref 0), some (.int (x1)), some (.int (x2)), none, none, none, none]) (st' := [.int 20, .int 1, .int (x1)]) (M1 := _) 6 (fun n => rfl)
  apply Ev.call0 (ls0 := [some (.int (x1)), some (.int 1), some (.int 20)]) (rest := []) (id := 141) (v1 := some (.int 1))  (fun n => rfl)
  · apply Ev.step (pc' := 2) (ls' := [some (.int (x1)), some (.int 1), some (.int 20)]) (st' := [.int 1, .int (x1)]) (M1 := _) 2 (fun n => rfl)
    apply Ev.step (pc' := if x1 < 1 then 14 else 5) (ls' := [some (.int (x1)), some (.int 1), some (.int 20)]) (st' := []) (M1 := _) 1 (fun n => rfl)
    rw [if_neg g0]
    apply Ev.step (pc' := 7) (ls' := [some (.int (x1)), some (.int 1), some (.int 20)]) (st' := [.int 20, .int (x1)]) (M1 := _) 2 (fun n => rfl)
    apply Ev.step (pc' := if 20 < x1 then 14 else 10) (ls' := [some (.int (x1)), some (.int 1), some (.int 20)]) (st' := []) (M1 := _) 1 (fun n => rfl)
    rw [if_neg g1]
    apply Ev.step (pc' := 15) (ls' := [some (.int (x1)), some (.int 1), some (.int 20)]) (st' := [.int 1]) (M1 := _) 2 (fun n => rfl)
    exact Ev.ret (fun n => rfl)
  apply Ev.step (pc' := 20) (ls' := [some (.ref 0), some (.int (x1)), some (.int (x2)), none, none, none, none]) (st' := [.int 200, .int 1, .int (x2)]) (M1 := _) 4 (fun n => rfl)
  apply Ev.call0 (ls0 := [some (.int (x2)), some (.int 1), some (.int 200)]) (rest := []) (id := 141) (v1 := some (.int 0))  (fun n => rfl)
  · apply Ev.step (pc' := 2) (ls' := [some (.int (x2)), some (.int 1), some (.int 200)]) (st' := [.int 1, .int (x2)]) (M1 := _) 2 (fun n => rfl)
    apply Ev.step (pc' := if x2 < 1 then 14 else 5) (ls' := [some (.int (x2)), some (.int 1), some (.int 200)]) (st' := []) (M1 := _) 1 (fun n => rfl)
    rw [if_neg g2]
    apply Ev.step (pc' := 7) (ls' := [some (.int (x2)), some (.int 1), some (.int 200)]) (st' := [.int 200, .int (x2)]) (M1 := _) 2 (fun n => rfl)
    apply Ev.step (pc' := if 200 < x2 then 14 else 10) (ls' := [some (.int (x2)), some (.int 1), some (.int 200)]) (st' := []) (M1 := _) 1 (fun n => rfl)
    rw [if_pos g3]
    apply Ev.step (pc' := 15) (ls' := [some (.int (x2)), some (.int 1), some (.int 200)]) (st' := [.int 0]) (M1 := _) 1 (fun n => rfl)
    exact Ev.ret (fun n => rfl)
  apply Ev.step (pc' := 27) (ls' := [some (.ref 0), some (.int (x1)), some (.int (x2)), none, none, none, none]) (st' := [.int (-1)]) (M1 := _) 2 (fun n => rfl)
  exact Ev.ret (fun n => rfl)
set_option maxRecDepth 200000 in
set_option maxHeartbeats 4000000 in
theorem ok_23 {x0 x1 x2 x3 x4 x5 : Int32} (hj : x0 &&& 63 = nI 23) : Okk x0 x1 x2 x3 x4 x5 := by
  by_cases h1 : x1 < 1
  · skip
    obtain ⟨M1, A⟩ := (r105_0 x1 x2 h1)
    obtain ⟨M2, B⟩ := (r233_1 x1 x2 h1)
    exact lc_23 hj A B
  · skip
    by_cases h2 : 20 < x1
    · skip
      obtain ⟨M1, A⟩ := (r105_2 x1 x2 h1 h2)
      obtain ⟨M2, B⟩ := (r233_3 x1 x2 h1 h2)
      exact lc_23 hj A B
    · skip
      by_cases h3 : x2 < 1
      · skip
        obtain ⟨M1, A⟩ := (r105_4 x1 x2 h1 h2 h3)
        obtain ⟨M2, B⟩ := (r233_5 x1 x2 h1 h2 h3)
        exact lc_23 hj A B
      · skip
        by_cases h4 : 200 < x2
        · skip
          obtain ⟨M1, A⟩ := (r105_6 x1 x2 h1 h2 h3 h4)
          obtain ⟨M2, B⟩ := (r233_7 x1 x2 h1 h2 h3 h4)
          exact lc_23 hj A B
        · skip
          obtain ⟨W, a1, a2, a3, rfl⟩ := nat_of h1 h2 (by decide)
          obtain ⟨K, b1, b2, b3, rfl⟩ := nat_of h3 h4 (by decide)
          have c1 : (1 : Int32).toInt = 1 := by decide
          have c2 : (20 : Int32).toInt = 20 := by decide
          obtain ⟨M1, A⟩ := wait_c h1 h2 h3 h4 (by omega) (by omega) b3
          obtain ⟨M2, B⟩ := wait_r h1 h2 h3 h4 (by omega) (by omega) b3
          exact lc_23 hj A B
set_option maxRecDepth 200000 in
set_option maxHeartbeats 4000000 in
theorem r104_0 (x1 x2 x3 x4 : Int32) (g0 : x2 < 1) : ∃ M1, Ev none 999 104 0 [some (.ref 0), some (.int (x1)), some (.int (x2)), some (.int (x3)), some (.int (x4))] [] memP (some (.int (-1))) M1 0 0 := by
  apply Exists.intro
  apply Ev.step (pc' := 3) (ls' := [some (.ref 0), some (.int (x1)), some (.int (x2)), some (.int (x3)), some (.int (x4))]) (st' := [.int (x3), .int (x2), .ref 0]) (M1 := _) 3 (fun n => rfl)
  apply Ev.call0 (ls0 := [some (.ref 0), some (.int (x2)), some (.int (x3))]) (rest := []) (id := 106) (v1 := some (.int 0))  (fun n => rfl)
  · apply Ev.step (pc' := 4) (ls' := [some (.ref 0), some (.int (x2)), some (.int (x3))]) (st' := [.int 20, .int 1, .int (x2)]) (M1 := _) 3 (fun n => rfl)
    apply Ev.call0 (ls0 := [some (.int (x2)), some (.int 1), some (.int 20)]) (rest := []) (id := 126) (v1 := some (.int 0))  (fun n => rfl)
    · apply Ev.step (pc' := 2) (ls' := [some (.int (x2)), some (.int 1), some (.int 20)]) (st' := [.int 1, .int (x2)]) (M1 := _) 2 (fun n => rfl)
      apply Ev.step (pc' := if x2 < 1 then 14 else 5) (ls' := [some (.int (x2)), some (.int 1), some (.int 20)]) (st' := []) (M1 := _) 1 (fun n => rfl)
      rw [if_pos g0]
      apply Ev.step (pc' := 15) (ls' := [some (.int (x2)), some (.int 1), some (.int 20)]) (st' := [.int 0]) (M1 := _) 1 (fun n => rfl)
      exact Ev.ret (fun n => rfl)
    apply Ev.step (pc' := 26) (ls' := [some (.ref 0), some (.int (x2)), some (.int (x3))]) (st' := [.int 0]) (M1 := _) 2 (fun n => rfl)
    exact Ev.ret (fun n => rfl)
  apply Ev.step (pc' := 29) (ls' := [some (.ref 0), some (.int (x1)), some (.int (x2)), some (.int (x3)), some (.int (x4))]) (st' := [.int (-1)]) (M1 := _) 2 (fun n => rfl)
  exact Ev.ret (fun n => rfl)
set_option maxRecDepth 200000 in
set_option maxHeartbeats 4000000 in
theorem r232_1 (x1 x2 x3 x4 : Int32) (g0 : x2 < 1) : ∃ M1, Ev none 999 232 0 [some (.ref 0), some (.int (x1)), some (.int (x2)), some (.int (x3)), some (.int (x4))] [] memR (some (.int (-1))) M1 0 0 := by
  apply Exists.intro
  apply Ev.step (pc' := 9) (ls' := [some (.ref 0), some (.int (x1)), some (.int (x2)), some (.int (x3)), some (.int (x4))]) (st' := [.int 20, .int 1, .int (x2)]) (M1 := _) 6 (fun n => rfl)
  apply Ev.call0 (ls0 := [some (.int (x2)), some (.int 1), some (.int 20)]) (rest := []) (id := 141) (v1 := some (.int 0))  (fun n => rfl)
  · apply Ev.step (pc' := 2) (ls' := [some (.int (x2)), some (.int 1), some (.int 20)]) (st' := [.int 1, .int (x2)]) (M1 := _) 2 (fun n => rfl)
    apply Ev.step (pc' := if x2 < 1 then 14 else 5) (ls' := [some (.int (x2)), some (.int 1), some (.int 20)]) (st' := []) (M1 := _) 1 (fun n => rfl)
    rw [if_pos g0]
    apply Ev.step (pc' := 15) (ls' := [some (.int (x2)), some (.int 1), some (.int 20)]) (st' := [.int 0]) (M1 := _) 1 (fun n => rfl)
    exact Ev.ret (fun n => rfl)
  apply Ev.step (pc' := 46) (ls' := [some (.ref 0), some (.int (x1)), some (.int (x2)), some (.int (x3)), some (.int (x4))]) (st' := [.int (-1)]) (M1 := _) 2 (fun n => rfl)
  exact Ev.ret (fun n => rfl)
set_option maxRecDepth 200000 in
set_option maxHeartbeats 4000000 in
theorem r104_2 (x1 x2 x3 x4 : Int32) (g0 : ¬ x2 < 1) (g1 : 20 < x2) : ∃ M1, Ev none 999 104 0 [some (.ref 0), some (.int (x1)), some (.int (x2)), some (.int (x3)), some (.int (x4))] [] memP (some (.int (-1))) M1 0 0 := by
  apply Exists.intro
  apply Ev.step (pc' := 3) (ls' := [some (.ref 0), some (.int (x1)), some (.int (x2)), some (.int (x3)), some (.int (x4))]) (st' := [.int (x3), .int (x2), .ref 0]) (M1 := _) 3 (fun n => rfl)
  apply Ev.call0 (ls0 := [some (.ref 0), some (.int (x2)), some (.int (x3))]) (rest := []) (id := 106) (v1 := some (.int 0))  (fun n => rfl)
  · apply Ev.step (pc' := 4) (ls' := [some (.ref 0), some (.int (x2)), some (.int (x3))]) (st' := [.int 20, .int 1, .int (x2)]) (M1 := _) 3 (fun n => rfl)
    apply Ev.call0 (ls0 := [some (.int (x2)), some (.int 1), some (.int 20)]) (rest := []) (id := 126) (v1 := some (.int 0))  (fun n => rfl)
    · apply Ev.step (pc' := 2) (ls' := [some (.int (x2)), some (.int 1), some (.int 20)]) (st' := [.int 1, .int (x2)]) (M1 := _) 2 (fun n => rfl)
      apply Ev.step (pc' := if x2 < 1 then 14 else 5) (ls' := [some (.int (x2)), some (.int 1), some (.int 20)]) (st' := []) (M1 := _) 1 (fun n => rfl)
      rw [if_neg g0]
      apply Ev.step (pc' := 7) (ls' := [some (.int (x2)), some (.int 1), some (.int 20)]) (st' := [.int 20, .int (x2)]) (M1 := _) 2 (fun n => rfl)
      apply Ev.step (pc' := if 20 < x2 then 14 else 10) (ls' := [some (.int (x2)), some (.int 1), some (.int 20)]) (st' := []) (M1 := _) 1 (fun n => rfl)
      rw [if_pos g1]
      apply Ev.step (pc' := 15) (ls' := [some (.int (x2)), some (.int 1), some (.int 20)]) (st' := [.int 0]) (M1 := _) 1 (fun n => rfl)
      exact Ev.ret (fun n => rfl)
    apply Ev.step (pc' := 26) (ls' := [some (.ref 0), some (.int (x2)), some (.int (x3))]) (st' := [.int 0]) (M1 := _) 2 (fun n => rfl)
    exact Ev.ret (fun n => rfl)
  apply Ev.step (pc' := 29) (ls' := [some (.ref 0), some (.int (x1)), some (.int (x2)), some (.int (x3)), some (.int (x4))]) (st' := [.int (-1)]) (M1 := _) 2 (fun n => rfl)
  exact Ev.ret (fun n => rfl)
set_option maxRecDepth 200000 in
set_option maxHeartbeats 4000000 in
theorem r232_3 (x1 x2 x3 x4 : Int32) (g0 : ¬ x2 < 1) (g1 : 20 < x2) : ∃ M1, Ev none 999 232 0 [some (.ref 0), some (.int (x1)), some (.int (x2)), some (.int (x3)), some (.int (x4))] [] memR (some (.int (-1))) M1 0 0 := by
  apply Exists.intro
  apply Ev.step (pc' := 9) (ls' := [some (.ref 0), some (.int (x1)), some (.int (x2)), some (.int (x3)), some (.int (x4))]) (st' := [.int 20, .int 1, .int (x2)]) (M1 := _) 6 (fun n => rfl)
  apply Ev.call0 (ls0 := [some (.int (x2)), some (.int 1), some (.int 20)]) (rest := []) (id := 141) (v1 := some (.int 0))  (fun n => rfl)
  · apply Ev.step (pc' := 2) (ls' := [some (.int (x2)), some (.int 1), some (.int 20)]) (st' := [.int 1, .int (x2)]) (M1 := _) 2 (fun n => rfl)
    apply Ev.step (pc' := if x2 < 1 then 14 else 5) (ls' := [some (.int (x2)), some (.int 1), some (.int 20)]) (st' := []) (M1 := _) 1 (fun n => rfl)
    rw [if_neg g0]
    apply Ev.step (pc' := 7) (ls' := [some (.int (x2)), some (.int 1), some (.int 20)]) (st' := [.int 20, .int (x2)]) (M1 := _) 2 (fun n => rfl)
    apply Ev.step (pc' := if 20 < x2 then 14 else 10) (ls' := [some (.int (x2)), some (.int 1), some (.int 20)]) (st' := []) (M1 := _) 1 (fun n => rfl)
    rw [if_pos g1]
    apply Ev.step (pc' := 15) (ls' := [some (.int (x2)), some (.int 1), some (.int 20)]) (st' := [.int 0]) (M1 := _) 1 (fun n => rfl)
    exact Ev.ret (fun n => rfl)
  apply Ev.step (pc' := 46) (ls' := [some (.ref 0), some (.int (x1)), some (.int (x2)), some (.int (x3)), some (.int (x4))]) (st' := [.int (-1)]) (M1 := _) 2 (fun n => rfl)
  exact Ev.ret (fun n => rfl)
set_option maxRecDepth 200000 in
set_option maxHeartbeats 4000000 in
theorem r104_4 (x1 x2 x3 x4 : Int32) (g0 : ¬ x2 < 1) (g1 : ¬ 20 < x2) (g2 : x3 < 1) : ∃ M1, Ev none 999 104 0 [some (.ref 0), some (.int (x1)), some (.int (x2)), some (.int (x3)), some (.int (x4))] [] memP (some (.int (-1))) M1 0 0 := by
  apply Exists.intro
  apply Ev.step (pc' := 3) (ls' := [some (.ref 0), some (.int (x1)), some (.int (x2)), some (.int (x3)), some (.int (x4))]) (st' := [.int (x3), .int (x2), .ref 0]) (M1 := _) 3 (fun n => rfl)
  apply Ev.call0 (ls0 := [some (.ref 0), some (.int (x2)), some (.int (x3))]) (rest := []) (id := 106) (v1 := some (.int 0))  (fun n => rfl)
  · apply Ev.step (pc' := 4) (ls' := [some (.ref 0), some (.int (x2)), some (.int (x3))]) (st' := [.int 20, .int 1, .int (x2)]) (M1 := _) 3 (fun n => rfl)
    apply Ev.call0 (ls0 := [some (.int (x2)), some (.int 1), some (.int 20)]) (rest := []) (id := 126) (v1 := some (.int 1))  (fun n => rfl)
    · apply Ev.step (pc' := 2) (ls' := [some (.int (x2)), some (.int 1), some (.int 20)]) (st' := [.int 1, .int (x2)]) (M1 := _) 2 (fun n => rfl)
      apply Ev.step (pc' := if x2 < 1 then 14 else 5) (ls' := [some (.int (x2)), some (.int 1), some (.int 20)]) (st' := []) (M1 := _) 1 (fun n => rfl)
      rw [if_neg g0]
      apply Ev.step (pc' := 7) (ls' := [some (.int (x2)), some (.int 1), some (.int 20)]) (st' := [.int 20, .int (x2)]) (M1 := _) 2 (fun n => rfl)
      apply Ev.step (pc' := if 20 < x2 then 14 else 10) (ls' := [some (.int (x2)), some (.int 1), some (.int 20)]) (st' := []) (M1 := _) 1 (fun n => rfl)
      rw [if_neg g1]
      apply Ev.step (pc' := 15) (ls' := [some (.int (x2)), some (.int 1), some (.int 20)]) (st' := [.int 1]) (M1 := _) 2 (fun n => rfl)
      exact Ev.ret (fun n => rfl)
    apply Ev.step (pc' := 15) (ls' := [some (.ref 0), some (.int (x2)), some (.int (x3))]) (st' := [.int 200, .int 1, .int (x3)]) (M1 := _) 4 (fun n => rfl)
    apply Ev.call0 (ls0 := [some (.int (x3)), some (.int 1), some (.int 200)]) (rest := []) (id := 126) (v1 := some (.int 0))  (fun n => rfl)
    · apply Ev.step (pc' := 2) (ls' := [some (.int (x3)), some (.int 1), some (.int 200)]) (st' := [.int 1, .int (x3)]) (M1 := _) 2 (fun n => rfl)
      apply Ev.step (pc' := if x3 < 1 then 14 else 5) (ls' := [some (.int (x3)), some (.int 1), some (.int 200)]) (st' := []) (M1 := _) 1 (fun n => rfl)
      rw [if_pos g2]
      apply Ev.step (pc' := 15) (ls' := [some (.int (x3)), some (.int 1), some (.int 200)]) (st' := [.int 0]) (M1 := _) 1 (fun n => rfl)
      exact Ev.ret (fun n => rfl)
    apply Ev.step (pc' := 26) (ls' := [some (.ref 0), some (.int (x2)), some (.int (x3))]) (st' := [.int 0]) (M1 := _) 2 (fun n => rfl)
    exact Ev.ret (fun n => rfl)
  apply Ev.step (pc' := 29) (ls' := [some (.ref 0), some (.int (x1)), some (.int (x2)), some (.int (x3)), some (.int (x4))]) (st' := [.int (-1)]) (M1 := _) 2 (fun n => rfl)
  exact Ev.ret (fun n => rfl)
set_option maxRecDepth 200000 in
set_option maxHeartbeats 4000000 in
theorem r232_5 (x1 x2 x3 x4 : Int32) (g0 : ¬ x2 < 1) (g1 : ¬ 20 < x2) (g2 : x1 < 1) : ∃ M1, Ev none 999 232 0 [some (.ref 0), some (.int (x1)), some (.int (x2)), some (.int (x3)), some (.int (x4))] [] memR (some (.int (-1))) M1 0 0 := by
  apply Exists.intro
  apply Ev.step (pc' := 9) (ls' := [some (.ref 0), some (.int (x1)), some (.int (x2)), some (.int (x3)), some (.int (x4))]) (st' := [.int 20, .int 1, .int (x2)]) (M1 := _) 6 (fun n => rfl)
  apply Ev.call0 (ls0 := [some (.int (x2)), some (.int 1), some (.int 20)]) (rest := []) (id := 141) (v1 := some (.int 1))  (fun n => rfl)
  · apply Ev.step (pc' := 2) (ls' := [some (.int (x2)), some (.int 1), some (.int 20)]) (st' := [.int 1, .int (x2)]) (M1 := _) 2 (fun n => rfl)
    apply Ev.step (pc' := if x2 < 1 then 14 else 5) (ls' := [some (.int (x2)), some (.int 1), some (.int 20)]) (st' := []) (M1 := _) 1 (fun n => rfl)
    rw [if_neg g0]
    apply Ev.step (pc' := 7) (ls' := [some (.int (x2)), some (.int 1), some (.int 20)]) (st' := [.int 20, .int (x2)]) (M1 := _) 2 (fun n => rfl)
    apply Ev.step (pc' := if 20 < x2 then 14 else 10) (ls' := [some (.int (x2)), some (.int 1), some (.int 20)]) (st' := []) (M1 := _) 1 (fun n => rfl)
    rw [if_neg g1]
    apply Ev.step (pc' := 15) (ls' := [some (.int (x2)), some (.int 1), some (.int 20)]) (st' := [.int 1]) (M1 := _) 2 (fun n => rfl)
    exact Ev.ret (fun n => rfl)
  apply Ev.step (pc' := 18) (ls' := [some (.ref 0), some (.int (x1)), some (.int (x2)), some (.int (x3)), some (.int (x4))]) (st' := [.int (x2), .int 1, .int (x1)]) (M1 := _) 4 (fun n => rfl)
  apply Ev.call0 (ls0 := [some (.int (x1)), some (.int 1), some (.int (x2))]) (rest := []) (id := 141) (v1 := some (.int 0))  (fun n => rfl)
  · apply Ev.step (pc' := 2) (ls' := [some (.int (x1)), some (.int 1), some (.int (x2))]) (st' := [.int 1, .int (x1)]) (M1 := _) 2 (fun n => rfl)
    apply Ev.step (pc' := if x1 < 1 then 14 else 5) (ls' := [some (.int (x1)), some (.int 1), some (.int (x2))]) (st' := []) (M1 := _) 1 (fun n => rfl)
    rw [if_pos g2]
    apply Ev.step (pc' := 15) (ls' := [some (.int (x1)), some (.int 1), some (.int (x2))]) (st' := [.int 0]) (M1 := _) 1 (fun n => rfl)
    exact Ev.ret (fun n => rfl)
  apply Ev.step (pc' := 46) (ls' := [some (.ref 0), some (.int (x1)), some (.int (x2)), some (.int (x3)), some (.int (x4))]) (st' := [.int (-1)]) (M1 := _) 2 (fun n => rfl)
  exact Ev.ret (fun n => rfl)
set_option maxRecDepth 200000 in
set_option maxHeartbeats 4000000 in
theorem r104_6 (x1 x2 x3 x4 : Int32) (g0 : ¬ x2 < 1) (g1 : ¬ 20 < x2) (g2 : x3 < 1) : ∃ M1, Ev none 999 104 0 [some (.ref 0), some (.int (x1)), some (.int (x2)), some (.int (x3)), some (.int (x4))] [] memP (some (.int (-1))) M1 0 0 := by
  apply Exists.intro
  apply Ev.step (pc' := 3) (ls' := [some (.ref 0), some (.int (x1)), some (.int (x2)), some (.int (x3)), some (.int (x4))]) (st' := [.int (x3), .int (x2), .ref 0]) (M1 := _) 3 (fun n => rfl)
  apply Ev.call0 (ls0 := [some (.ref 0), some (.int (x2)), some (.int (x3))]) (rest := []) (id := 106) (v1 := some (.int 0))  (fun n => rfl)
  · apply Ev.step (pc' := 4) (ls' := [some (.ref 0), some (.int (x2)), some (.int (x3))]) (st' := [.int 20, .int 1, .int (x2)]) (M1 := _) 3 (fun n => rfl)
    apply Ev.call0 (ls0 := [some (.int (x2)), some (.int 1), some (.int 20)]) (rest := []) (id := 126) (v1 := some (.int 1))  (fun n => rfl)
    · apply Ev.step (pc' := 2) (ls' := [some (.int (x2)), some (.int 1), some (.int 20)]) (st' := [.int 1, .int (x2)]) (M1 := _) 2 (fun n => rfl)
      apply Ev.step (pc' := if x2 < 1 then 14 else 5) (ls' := [some (.int (x2)), some (.int 1), some (.int 20)]) (st' := []) (M1 := _) 1 (fun n => rfl)
      rw [if_neg g0]
      apply Ev.step (pc' := 7) (ls' := [some (.int (x2)), some (.int 1), some (.int 20)]) (st' := [.int 20, .int (x2)]) (M1 := _) 2 (fun n => rfl)
      apply Ev.step (pc' := if 20 < x2 then 14 else 10) (ls' := [some (.int (x2)), some (.int 1), some (.int 20)]) (st' := []) (M1 := _) 1 (fun n => rfl)
      rw [if_neg g1]
      apply Ev.step (pc' := 15) (ls' := [some (.int (x2)), some (.int 1), some (.int 20)]) (st' := [.int 1]) (M1 := _) 2 (fun n => rfl)
      exact Ev.ret (fun n => rfl)
    apply Ev.step (pc' := 15) (ls' := [some (.ref 0), some (.int (x2)), some (.int (x3))]) (st' := [.int 200, .int 1, .int (x3)]) (M1 := _) 4 (fun n => rfl)
    apply Ev.call0 (ls0 := [some (.int (x3)), some (.int 1), some (.int 200)]) (rest := []) (id := 126) (v1 := some (.int 0))  (fun n => rfl)
    · apply Ev.step (pc' := 2) (ls' := [some (.int (x3)), some (.int 1), some (.int 200)]) (st' := [.int 1, .int (x3)]) (M1 := _) 2 (fun n => rfl)
      apply Ev.step (pc' := if x3 < 1 then 14 else 5) (ls' := [some (.int (x3)), some (.int 1), some (.int 200)]) (st' := []) (M1 := _) 1 (fun n => rfl)
      rw [if_pos g2]
      apply Ev.step (pc' := 15) (ls' := [some (.int (x3)), some (.int 1), some (.int 200)]) (st' := [.int 0]) (M1 := _) 1 (fun n => rfl)
      exact Ev.ret (fun n => rfl)
    apply Ev.step (pc' := 26) (ls' := [some (.ref 0), some (.int (x2)), some (.int (x3))]) (st' := [.int 0]) (M1 := _) 2 (fun n => rfl)
    exact Ev.ret (fun n => rfl)
  apply Ev.step (pc' := 29) (ls' := [some (.ref 0), some (.int (x1)), some (.int (x2)), some (.int (x3)), some (.int (x4))]) (st' := [.int (-1)]) (M1 := _) 2 (fun n => rfl)
  exact Ev.ret (fun n => rfl)
set_option maxRecDepth 200000 in
set_option maxHeartbeats 4000000 in
theorem r232_7 (x1 x2 x3 x4 : Int32) (g0 : ¬ x2 < 1) (g1 : ¬ 20 < x2) (g2 : ¬ x1 < 1) (g3 : x2 < x1) : ∃ M1, Ev none 999 232 0 [some (.ref 0), some (.int (x1)), some (.int (x2)), some (.int (x3)), some (.int (x4))] [] memR (some (.int (-1))) M1 0 0 := by
  apply Exists.intro
  apply Ev.step (pc' := 9) (ls' := [some (.ref 0), some (.int (x1)), some (.int (x2)), some (.int (x3)), some (.int (x4))]) (st' := [.int 20, .int 1, .int (x2)]) (M1 := _) 6 (fun n => rfl)
  apply Ev.call0 (ls0 := [some (.int (x2)), some (.int 1), some (.int 20)]) (rest := []) (id := 141) (v1 := some (.int 1))  (fun n => rfl)
  · apply Ev.step (pc' := 2) (ls' := [some (.int (x2)), some (.int 1), some (.int 20)]) (st' := [.int 1, .int (x2)]) (M1 := _) 2 (fun n => rfl)
    apply Ev.step (pc' := if x2 < 1 then 14 else 5) (ls' := [some (.int (x2)), some (.int 1), some (.int 20)]) (st' := []) (M1 := _) 1 (fun n => rfl)
    rw [if_neg g0]
    apply Ev.step (pc' := 7) (ls' := [some (.int (x2)), some (.int 1), some (.int 20)]) (st' := [.int 20, .int (x2)]) (M1 := _) 2 (fun n => rfl)
    apply Ev.step (pc' := if 20 < x2 then 14 else 10) (ls' := [some (.int (x2)), some (.int 1), some (.int 20)]) (st' := []) (M1 := _) 1 (fun n => rfl)
    rw [if_neg g1]
    apply Ev.step (pc' := 15) (ls' := [some (.int (x2)), some (.int 1), some (.int 20)]) (st' := [.int 1]) (M1 := _) 2 (fun n => rfl)
    exact Ev.ret (fun n => rfl)
  apply Ev.step (pc' := 18) (ls' := [some (.ref 0), some (.int (x1)), some (.int (x2)), some (.int (x3)), some (.int (x4))]) (st' := [.int (x2), .int 1, .int (x1)]) (M1 := _) 4 (fun n => rfl)
  apply Ev.call0 (ls0 := [some (.int (x1)), some (.int 1), some (.int (x2))]) (rest := []) (id := 141) (v1 := some (.int 0))  (fun n => rfl)
  · apply Ev.step (pc' := 2) (ls' := [some (.int (x1)), some (.int 1), some (.int (x2))]) (st' := [.int 1, .int (x1)]) (M1 := _) 2 (fun n => rfl)
    apply Ev.step (pc' := if x1 < 1 then 14 else 5) (ls' := [some (.int (x1)), some (.int 1), some (.int (x2))]) (st' := []) (M1 := _) 1 (fun n => rfl)
    rw [if_neg g2]
    apply Ev.step (pc' := 7) (ls' := [some (.int (x1)), some (.int 1), some (.int (x2))]) (st' := [.int (x2), .int (x1)]) (M1 := _) 2 (fun n => rfl)
    apply Ev.step (pc' := if x2 < x1 then 14 else 10) (ls' := [some (.int (x1)), some (.int 1), some (.int (x2))]) (st' := []) (M1 := _) 1 (fun n => rfl)
    rw [if_pos g3]
    apply Ev.step (pc' := 15) (ls' := [some (.int (x1)), some (.int 1), some (.int (x2))]) (st' := [.int 0]) (M1 := _) 1 (fun n => rfl)
    exact Ev.ret (fun n => rfl)
  apply Ev.step (pc' := 46) (ls' := [some (.ref 0), some (.int (x1)), some (.int (x2)), some (.int (x3)), some (.int (x4))]) (st' := [.int (-1)]) (M1 := _) 2 (fun n => rfl)
  exact Ev.ret (fun n => rfl)
set_option maxRecDepth 200000 in
set_option maxHeartbeats 4000000 in
theorem r104_8 (x1 x2 x3 x4 : Int32) (g0 : ¬ x2 < 1) (g1 : ¬ 20 < x2) (g2 : x3 < 1) : ∃ M1, Ev none 999 104 0 [some (.ref 0), some (.int (x1)), some (.int (x2)), some (.int (x3)), some (.int (x4))] [] memP (some (.int (-1))) M1 0 0 := by
  apply Exists.intro
  apply Ev.step (pc' := 3) (ls' := [some (.ref 0), some (.int (x1)), some (.int (x2)), some (.int (x3)), some (.int (x4))]) (st' := [.int (x3), .int (x2), .ref 0]) (M1 := _) 3 (fun n => rfl)
  apply Ev.call0 (ls0 := [some (.ref 0), some (.int (x2)), some (.int (x3))]) (rest := []) (id := 106) (v1 := some (.int 0))  (fun n => rfl)
  · apply Ev.step (pc' := 4) (ls' := [some (.ref 0), some (.int (x2)), some (.int (x3))]) (st' := [.int 20, .int 1, .int (x2)]) (M1 := _) 3 (fun n => rfl)
    apply Ev.call0 (ls0 := [some (.int (x2)), some (.int 1), some (.int 20)]) (rest := []) (id := 126) (v1 := some (.int 1))  (fun n => rfl)
    · apply Ev.step (pc' := 2) (ls' := [some (.int (x2)), some (.int 1), some (.int 20)]) (st' := [.int 1, .int (x2)]) (M1 := _) 2 (fun n => rfl)
      apply Ev.step (pc' := if x2 < 1 then 14 else 5) (ls' := [some (.int (x2)), some (.int 1), some (.int 20)]) (st' := []) (M1 := _) 1 (fun n => rfl)
      rw [if_neg g0]
      apply Ev.step (pc' := 7) (ls' := [some (.int (x2)), some (.int 1), some (.int 20)]) (st' := [.int 20, .int (x2)]) (M1 := _) 2 (fun n => rfl)
      apply Ev.step (pc' := if 20 < x2 then 14 else 10) (ls' := [some (.int (x2)), some (.int 1), some (.int 20)]) (st' := []) (M1 := _) 1 (fun n => rfl)
      rw [if_neg g1]
      apply Ev.step (pc' := 15) (ls' := [some (.int (x2)), some (.int 1), some (.int 20)]) (st' := [.int 1]) (M1 := _) 2 (fun n => rfl)
      exact Ev.ret (fun n => rfl)
    apply Ev.step (pc' := 15) (ls' := [some (.ref 0), some (.int (x2)), some (.int (x3))]) (st' := [.int 200, .int 1, .int (x3)]) (M1 := _) 4 (fun n => rfl)
    apply Ev.call0 (ls0 := [some (.int (x3)), some (.int 1), some (.int 200)]) (rest := []) (id := 126) (v1 := some (.int 0))  (fun n => rfl)
    · apply Ev.step (pc' := 2) (ls' := [some (.int (x3)), some (.int 1), some (.int 200)]) (st' := [.int 1, .int (x3)]) (M1 := _) 2 (fun n => rfl)
      apply Ev.step (pc' := if x3 < 1 then 14 else 5) (ls' := [some (.int (x3)), some (.int 1), some (.int 200)]) (st' := []) (M1 := _) 1 (fun n => rfl)
      rw [if_pos g2]
      apply Ev.step (pc' := 15) (ls' := [some (.int (x3)), some (.int 1), some (.int 200)]) (st' := [.int 0]) (M1 := _) 1 (fun n => rfl)
      exact Ev.ret (fun n => rfl)
    apply Ev.step (pc' := 26) (ls' := [some (.ref 0), some (.int (x2)), some (.int (x3))]) (st' := [.int 0]) (M1 := _) 2 (fun n => rfl)
    exact Ev.ret (fun n => rfl)
  apply Ev.step (pc' := 29) (ls' := [some (.ref 0), some (.int (x1)), some (.int (x2)), some (.int (x3)), some (.int (x4))]) (st' := [.int (-1)]) (M1 := _) 2 (fun n => rfl)
  exact Ev.ret (fun n => rfl)
set_option maxRecDepth 200000 in
set_option maxHeartbeats 4000000 in
theorem r232_9 (x1 x2 x3 x4 : Int32) (g0 : ¬ x2 < 1) (g1 : ¬ 20 < x2) (g2 : ¬ x1 < 1) (g3 : ¬ x2 < x1) (g4 : x3 < 1) : ∃ M1, Ev none 999 232 0 [some (.ref 0), some (.int (x1)), some (.int (x2)), some (.int (x3)), some (.int (x4))] [] memR (some (.int (-1))) M1 0 0 := by
  apply Exists.intro
  apply Ev.step (pc' := 9) (ls' := [some (.ref 0), some (.int (x1)), some (.int (x2)), some (.int (x3)), some (.int (x4))]) (st' := [.int 20, .int 1, .int (x2)]) (M1 := _) 6 (fun n => rfl)
  apply Ev.call0 (ls0 := [some (.int (x2)), some (.int 1), some (.int 20)]) (rest := []) (id := 141) (v1 := some (.int 1))  (fun n => rfl)
  · apply Ev.step (pc' := 2) (ls' := [some (.int (x2)), some (.int 1), some (.int 20)]) (st' := [.int 1, .int (x2)]) (M1 := _) 2 (fun n => rfl)
    apply Ev.step (pc' := if x2 < 1 then 14 else 5) (ls' := [some (.int (x2)), some (.int 1), some (.int 20)]) (st' := []) (M1 := _) 1 (fun n => rfl)
    rw [if_neg g0]
    apply Ev.step (pc' := 7) (ls' := [some (.int (x2)), some (.int 1), some (.int 20)]) (st' := [.int 20, .int (x2)]) (M1 := _) 2 (fun n => rfl)
    apply Ev.step (pc' := if 20 < x2 then 14 else 10) (ls' := [some (.int (x2)), some (.int 1), some (.int 20)]) (st' := []) (M1 := _) 1 (fun n => rfl)
    rw [if_neg g1]
    apply Ev.step (pc' := 15) (ls' := [some (.int (x2)), some (.int 1), some (.int 20)]) (st' := [.int 1]) (M1 := _) 2 (fun n => rfl)
    exact Ev.ret (fun n => rfl)
  apply Ev.step (pc' := 18) (ls' := [some (.ref 0), some (.int (x1)), some (.int (x2)), some (.int (x3)), some (.int (x4))]) (st' := [.int (x2), .int 1, .int (x1)]) (M1 := _) 4 (fun n => rfl)
  apply Ev.call0 (ls0 := [some (.int (x1)), some (.int 1), some (.int (x2))]) (rest := []) (id := 141) (v1 := some (.int 1))  (fun n => rfl)
  · apply Ev.step (pc' := 2) (ls' := [some (.int (x1)), some (.int 1), some (.int (x2))]) (st' := [.int 1, .int (x1)]) (M1 := _) 2 (fun n => rfl)
    apply Ev.step (pc' := if x1 < 1 then 14 else 5) (ls' := [some (.int (x1)), some (.int 1), some (.int (x2))]) (st' := []) (M1 := _) 1 (fun n => rfl)
    rw [if_neg g2]
    apply Ev.step (pc' := 7) (ls' := [some (.int (x1)), some (.int 1), some (.int (x2))]) (st' := [.int (x2), .int (x1)]) (M1 := _) 2 (fun n => rfl)
    apply Ev.step (pc' := if x2 < x1 then 14 else 10) (ls' := [some (.int (x1)), some (.int 1), some (.int (x2))]) (st' := []) (M1 := _) 1 (fun n => rfl)
    rw [if_neg g3]
    apply Ev.step (pc' := 15) (ls' := [some (.int (x1)), some (.int 1), some (.int (x2))]) (st' := [.int 1]) (M1 := _) 2 (fun n => rfl)
    exact Ev.ret (fun n => rfl)
  apply Ev.step (pc' := 29) (ls' := [some (.ref 0), some (.int (x1)), some (.int (x2)), some (.int (x3)), some (.int (x4))]) (st' := [.int 200, .int 1, .int (x3)]) (M1 := _) 4 (fun n => rfl)
  apply Ev.call0 (ls0 := [some (.int (x3)), some (.int 1), some (.int 200)]) (rest := []) (id := 141) (v1 := some (.int 0))  (fun n => rfl)
  · apply Ev.step (pc' := 2) (ls' := [some (.int (x3)), some (.int 1), some (.int 200)]) (st' := [.int 1, .int (x3)]) (M1 := _) 2 (fun n => rfl)
    apply Ev.step (pc' := if x3 < 1 then 14 else 5) (ls' := [some (.int (x3)), some (.int 1), some (.int 200)]) (st' := []) (M1 := _) 1 (fun n => rfl)
    rw [if_pos g4]
    apply Ev.step (pc' := 15) (ls' := [some (.int (x3)), some (.int 1), some (.int 200)]) (st' := [.int 0]) (M1 := _) 1 (fun n => rfl)
    exact Ev.ret (fun n => rfl)
  apply Ev.step (pc' := 46) (ls' := [some (.ref 0), some (.int (x1)), some (.int (x2)), some (.int (x3)), some (.int (x4))]) (st' := [.int (-1)]) (M1 := _) 2 (fun n => rfl)
  exact Ev.ret (fun n => rfl)
set_option maxRecDepth 200000 in
set_option maxHeartbeats 4000000 in
theorem r104_10 (x1 x2 x3 x4 : Int32) (g0 : ¬ x2 < 1) (g1 : ¬ 20 < x2) (g2 : ¬ x3 < 1) (g3 : 200 < x3) : ∃ M1, Ev none 999 104 0 [some (.ref 0), some (.int (x1)), some (.int (x2)), some (.int (x3)), some (.int (x4))] [] memP (some (.int (-1))) M1 0 0 := by
  apply Exists.intro
  apply Ev.step (pc' := 3) (ls' := [some (.ref 0), some (.int (x1)), some (.int (x2)), some (.int (x3)), some (.int (x4))]) (st' := [.int (x3), .int (x2), .ref 0]) (M1 := _) 3 (fun n => rfl)
  apply Ev.call0 (ls0 := [some (.ref 0), some (.int (x2)), some (.int (x3))]) (rest := []) (id := 106) (v1 := some (.int 0))  (fun n => rfl)
  · apply Ev.step (pc' := 4) (ls' := [some (.ref 0), some (.int (x2)), some (.int (x3))]) (st' := [.int 20, .int 1, .int (x2)]) (M1 := _) 3 (fun n => rfl)
    apply Ev.call0 (ls0 := [some (.int (x2)), some (.int 1), some (.int 20)]) (rest := []) (id := 126) (v1 := some (.int 1))  (fun n => rfl)
    · apply Ev.step (pc' := 2) (ls' := [some (.int (x2)), some (.int 1), some (.int 20)]) (st' := [.int 1, .int (x2)]) (M1 := _) 2 (fun n => rfl)
      apply Ev.step (pc' := if x2 < 1 then 14 else 5) (ls' := [some (.int (x2)), some (.int 1), some (.int 20)]) (st' := []) (M1 := _) 1 (fun n => rfl)
      rw [if_neg g0]
      apply Ev.step (pc' := 7) (ls' := [some (.int (x2)), some (.int 1), some (.int 20)]) (st' := [.int 20, .int (x2)]) (M1 := _) 2 (fun n => rfl)
      apply Ev.step (pc' := if 20 < x2 then 14 else 10) (ls' := [some (.int (x2)), some (.int 1), some (.int 20)]) (st' := []) (M1 := _) 1 (fun n => rfl)
      rw [if_neg g1]
      apply Ev.step (pc' := 15) (ls' := [some (.int (x2)), some (.int 1), some (.int 20)]) (st' := [.int 1]) (M1 := _) 2 (fun n => rfl)
      exact Ev.ret (fun n => rfl)
    apply Ev.step (pc' := 15) (ls' := [some (.ref 0), some (.int (x2)), some (.int (x3))]) (st' := [.int 200, .int 1, .int (x3)]) (M1 := _) 4 (fun n => rfl)
    apply Ev.call0 (ls0 := [some (.int (x3)), some (.int 1), some (.int 200)]) (rest := []) (id := 126) (v1 := some (.int 0))  (fun n => rfl)
    · apply Ev.step (pc' := 2) (ls' := [some (.int (x3)), some (.int 1), some (.int 200)]) (st' := [.int 1, .int (x3)]) (M1 := _) 2 (fun n => rfl)
      apply Ev.step (pc' := if x3 < 1 then 14 else 5) (ls' := [some (.int (x3)), some (.int 1), some (.int 200)]) (st' := []) (M1 := _) 1 (fun n => rfl)
      rw [if_neg g2]
      apply Ev.step (pc' := 7) (ls' := [some (.int (x3)), some (.int 1), some (.int 200)]) (st' := [.int 200, .int (x3)]) (M1 := _) 2 (fun n => rfl)
      apply Ev.step (pc' := if 200 < x3 then 14 else 10) (ls' := [some (.int (x3)), some (.int 1), some (.int 200)]) (st' := []) (M1 := _) 1 (fun n => rfl)
      rw [if_pos g3]
      apply Ev.step (pc' := 15) (ls' := [some (.int (x3)), some (.int 1), some (.int 200)]) (st' := [.int 0]) (M1 := _) 1 (fun n => rfl)
      exact Ev.ret (fun n => rfl)
    apply Ev.step (pc' := 26) (ls' := [some (.ref 0), some (.int (x2)), some (.int (x3))]) (st' := [.int 0]) (M1 := _) 2 (fun n => rfl)
    exact Ev.ret (fun n => rfl)
  apply Ev.step (pc' := 29) (ls' := [some (.ref 0), some (.int (x1)), some (.int (x2)), some (.int (x3)), some (.int (x4))]) (st' := [.int (-1)]) (M1 := _) 2 (fun n => rfl)
  exact Ev.ret (fun n => rfl)
set_option maxRecDepth 200000 in
set_option maxHeartbeats 4000000 in
theorem r232_11 (x1 x2 x3 x4 : Int32) (g0 : ¬ x2 < 1) (g1 : ¬ 20 < x2) (g2 : x1 < 1) : ∃ M1, Ev none 999 232 0 [some (.ref 0), some (.int (x1)), some (.int (x2)), some (.int (x3)), some (.int (x4))] [] memR (some (.int (-1))) M1 0 0 := by
  apply Exists.intro
  apply Ev.step (pc' := 9) (ls' := [some (.ref 0), some (.int (x1)), some (.int (x2)), some (.int (x3)), some (.int (x4))]) (st' := [.int 20, .int 1, .int (x2)]) (M1 := _) 6 (fun n => rfl)
  apply Ev.call0 (ls0 := [some (.int (x2)), some (.int 1), some (.int 20)]) (rest := []) (id := 141) (v1 := some (.int 1))  (fun n => rfl)
  · apply Ev.step (pc' := 2) (ls' := [some (.int (x2)), some (.int 1), some (.int 20)]) (st' := [.int 1, .int (x2)]) (M1 := _) 2 (fun n => rfl)
    apply Ev.step (pc' := if x2 < 1 then 14 else 5) (ls' := [some (.int (x2)), some (.int 1), some (.int 20)]) (st' := []) (M1 := _) 1 (fun n => rfl)
    rw [if_neg g0]
    apply Ev.step (pc' := 7) (ls' := [some (.int (x2)), some (.int 1), some (.int 20)]) (st' := [.int 20, .int (x2)]) (M1 := _) 2 (fun n => rfl)
    apply Ev.step (pc' := if 20 < x2 then 14 else 10) (ls' := [some (.int (x2)), some (.int 1), some (.int 20)]) (st' := []) (M1 := _) 1 (fun n => rfl)
    rw [if_neg g1]
    apply Ev.step (pc' := 15) (ls' := [some (.int (x2)), some (.int 1), some (.int 20)]) (st' := [.int 1]) (M1 := _) 2 (fun n => rfl)
    exact Ev.ret (fun n => rfl)
  apply Ev.step (pc' := 18) (ls' := [some (.ref 0), some (.int (x1)), some (.int (x2)), some (.int (x3)), some (.int (x4))]) (st' := [.int (x2), .int 1, .int (x1)]) (M1 := _) 4 (fun n => rfl)
  apply Ev.call0 (ls0 := [some (.int (x1)), some (.int 1), some (.int (x2))]) (rest := []) (id := 141) (v1 := some (.int 0))  (fun n => rfl)
  · apply Ev.step (pc' := 2) (ls' := [some (.int (x1)), some (.int 1), some (.int (x2))]) (st' := [.int 1, .int (x1)]) (M1 := _) 2 (fun n => rfl)
    apply Ev.step (pc' := if x1 < 1 then 14 else 5) (ls' := [some (.int (x1)), some (.int 1), some (.int (x2))]) (st' := []) (M1 := _) 1 (fun n => rfl)
    rw [if_pos g2]
    apply Ev.step (pc' := 15) (ls' := [some (.int (x1)), some (.int 1), some (.int (x2))]) (st' := [.int 0]) (M1 := _) 1 (fun n => rfl)
    exact Ev.ret (fun n => rfl)
  apply Ev.step (pc' := 46) (ls' := [some (.ref 0), some (.int (x1)), some (.int (x2)), some (.int (x3)), some (.int (x4))]) (st' := [.int (-1)]) (M1 := _) 2 (fun n => rfl)
  exact Ev.ret (fun n => rfl)
set_option maxRecDepth 200000 in
set_option maxHeartbeats 4000000 in
theorem r104_12 (x1 x2 x3 x4 : Int32) (g0 : ¬ x2 < 1) (g1 : ¬ 20 < x2) (g2 : ¬ x3 < 1) (g3 : 200 < x3) : ∃ M1, Ev none 999 104 0 [some (.ref 0), some (.int (x1)), some (.int (x2)), some (.int (x3)), some (.int (x4))] [] memP (some (.int (-1))) M1 0 0 := by
  apply Exists.intro
  apply Ev.step (pc' := 3) (ls' := [some (.ref 0), some (.int (x1)), some (.int (x2)), some (.int (x3)), some (.int (x4))]) (st' := [.int (x3), .int (x2), .ref 0]) (M1 := _) 3 (fun n => rfl)
  apply Ev.call0 (ls0 := [some (.ref 0), some (.int (x2)), some (.int (x3))]) (rest := []) (id := 106) (v1 := some (.int 0))  (fun n => rfl)
  · apply Ev.step (pc' := 4) (ls' := [some (.ref 0), some (.int (x2)), some (.int (x3))]) (st' := [.int 20, .int 1, .int (x2)]) (M1 := _) 3 (fun n => rfl)
    apply Ev.call0 (ls0 := [some (.int (x2)), some (.int 1), some (.int 20)]) (rest := []) (id := 126) (v1 := some (.int 1))  (fun n => rfl)
    · apply Ev.step (pc' := 2) (ls' := [some (.int (x2)), some (.int 1), some (.int 20)]) (st' := [.int 1, .int (x2)]) (M1 := _) 2 (fun n => rfl)
      apply Ev.step (pc' := if x2 < 1 then 14 else 5) (ls' := [some (.int (x2)), some (.int 1), some (.int 20)]) (st' := []) (M1 := _) 1 (fun n => rfl)
      rw [if_neg g0]
      apply Ev.step (pc' := 7) (ls' := [some (.int (x2)), some (.int 1), some (.int 20)]) (st' := [.int 20, .int (x2)]) (M1 := _) 2 (fun n => rfl)
      apply Ev.step (pc' := if 20 < x2 then 14 else 10) (ls' := [some (.int (x2)), some (.int 1), some (.int 20)]) (st' := []) (M1 := _) 1 (fun n => rfl)
      rw [if_neg g1]
      apply Ev.step (pc' := 15) (ls' := [some (.int (x2)), some (.int 1), some (.int 20)]) (st' := [.int 1]) (M1 := _) 2 (fun n => rfl)
      exact Ev.ret (fun n => rfl)
    apply Ev.step (pc' := 15) (ls' := [some (.ref 0), some (.int (x2)), some (.int (x3))]) (st' := [.int 200, .int 1, .int (x3)]) (M1 := _) 4 (fun n => rfl)
    apply Ev.call0 (ls0 := [some (.int (x3)), some (.int 1), some (.int 200)]) (rest := []) (id := 126) (v1 := some (.int 0))  (fun n => rfl)
    · apply Ev.step (pc' := 2) (ls' := [some (.int (x3)), some (.int 1), some (.int 200)]) (st' := [.int 1, .int (x3)]) (M1 := _) 2 (fun n => rfl)
      apply Ev.step (pc' := if x3 < 1 then 14 else 5) (ls' := [some (.int (x3)), some (.int 1), some (.int 200)]) (st' := []) (M1 := _) 1 (fun n => rfl)
      rw [if_neg g2]
      apply Ev.step (pc' := 7) (ls' := [some (.int (x3)), some (.int 1), some (.int 200)]) (st' := [.int 200, .int (x3)]) (M1 := _) 2 (fun n => rfl)
      apply Ev.step (pc' := if 200 < x3 then 14 else 10) (ls' := [some (.int (x3)), some (.int 1), some (.int 200)]) (st' := []) (M1 := _) 1 (fun n => rfl)
      rw [if_pos g3]
      apply Ev.step (pc' := 15) (ls' := [some (.int (x3)), some (.int 1), some (.int 200)]) (st' := [.int 0]) (M1 := _) 1 (fun n => rfl)
      exact Ev.ret (fun n => rfl)
    apply Ev.step (pc' := 26) (ls' := [some (.ref 0), some (.int (x2)), some (.int (x3))]) (st' := [.int 0]) (M1 := _) 2 (fun n => rfl)
    exact Ev.ret (fun n => rfl)
  apply Ev.step (pc' := 29) (ls' := [some (.ref 0), some (.int (x1)), some (.int (x2)), some (.int (x3)), some (.int (x4))]) (st' := [.int (-1)]) (M1 := _) 2 (fun n => rfl)
  exact Ev.ret (fun n => rfl)
set_option maxRecDepth 200000 in
set_option maxHeartbeats 4000000 in
theorem r232_13 (x1 x2 x3 x4 : Int32) (g0 : ¬ x2 < 1) (g1 : ¬ 20 < x2) (g2 : ¬ x1 < 1) (g3 : x2 < x1) : ∃ M1, Ev none 999 232 0 [some (.ref 0), some (.int (x1)), some (.int (x2)), some (.int (x3)), some (.int (x4))] [] memR (some (.int (-1))) M1 0 0 := by
  apply Exists.intro
  apply Ev.step (pc' := 9) (ls' := [some (.ref 0), some (.int (x1)), some (.int (x2)), some (.int (x3)), some (.int (x4))]) (st' := [.int 20, .int 1, .int (x2)]) (M1 := _) 6 (fun n => rfl)
  apply Ev.call0 (ls0 := [some (.int (x2)), some (.int 1), some (.int 20)]) (rest := []) (id := 141) (v1 := some (.int 1))  (fun n => rfl)
  · apply Ev.step (pc' := 2) (ls' := [some (.int (x2)), some (.int 1), some (.int 20)]) (st' := [.int 1, .int (x2)]) (M1 := _) 2 (fun n => rfl)
    apply Ev.step (pc' := if x2 < 1 then 14 else 5) (ls' := [some (.int (x2)), some (.int 1), some (.int 20)]) (st' := []) (M1 := _) 1 (fun n => rfl)
    rw [if_neg g0]
    apply Ev.step (pc' := 7) (ls' := [some (.int (x2)), some (.int 1), some (.int 20)]) (st' := [.int 20, .int (x2)]) (M1 := _) 2 (fun n => rfl)
    apply Ev.step (pc' := if 20 < x2 then 14 else 10) (ls' := [some (.int (x2)), some (.int 1), some (.int 20)]) (st' := []) (M1 := _) 1 (fun n => rfl)
    rw [if_neg g1]
    apply Ev.step (pc' := 15) (ls' := [some (.int (x2)), some (.int 1), some (.int 20)]) (st' := [.int 1]) (M1 := _) 2 (fun n => rfl)
    exact Ev.ret (fun n => rfl)
  apply Ev.step (pc' := 18) (ls' := [some (.ref 0), some (.int (x1)), some (.int (x2)), some (.int (x3)), some (.int (x4))]) (st' := [.int (x2), .int 1, .int (x1)]) (M1 := _) 4 (fun n => rfl)
  apply Ev.call0 (ls0 := [some (.int (x1)), some (.int 1), some (.int (x2))]) (rest := []) (id := 141) (v1 := some (.int 0))  (fun n => rfl)
  · apply Ev.step (pc' := 2) (ls' := [some (.int (x1)), some (.int 1), some (.int (x2))]) (st' := [.int 1, .int (x1)]) (M1 := _) 2 (fun n => rfl)
    apply Ev.step (pc' := if x1 < 1 then 14 else 5) (ls' := [some (.int (x1)), some (.int 1), some (.int (x2))]) (st' := []) (M1 := _) 1 (fun n => rfl)
    rw [if_neg g2]
    apply Ev.step (pc' := 7) (ls' := [some (.int (x1)), some (.int 1), some (.int (x2))]) (st' := [.int (x2), .int (x1)]) (M1 := _) 2 (fun n => rfl)
    apply Ev.step (pc' := if x2 < x1 then 14 else 10) (ls' := [some (.int (x1)), some (.int 1), some (.int (x2))]) (st' := []) (M1 := _) 1 (fun n => rfl)
    rw [if_pos g3]
    apply Ev.step (pc' := 15) (ls' := [some (.int (x1)), some (.int 1), some (.int (x2))]) (st' := [.int 0]) (M1 := _) 1 (fun n => rfl)
    exact Ev.ret (fun n => rfl)
  apply Ev.step (pc' := 46) (ls' := [some (.ref 0), some (.int (x1)), some (.int (x2)), some (.int (x3)), some (.int (x4))]) (st' := [.int (-1)]) (M1 := _) 2 (fun n => rfl)
  exact Ev.ret (fun n => rfl)
set_option maxRecDepth 200000 in
set_option maxHeartbeats 4000000 in
theorem r104_14 (x1 x2 x3 x4 : Int32) (g0 : ¬ x2 < 1) (g1 : ¬ 20 < x2) (g2 : ¬ x3 < 1) (g3 : 200 < x3) : ∃ M1, Ev none 999 104 0 [some (.ref 0), some (.int (x1)), some (.int (x2)), some (.int (x3)), some (.int (x4))] [] memP (some (.int (-1))) M1 0 0 := by
  apply Exists.intro
  apply Ev.step (pc' := 3) (ls' := [some (.ref 0), some (.int (x1)), some (.int (x2)), some (.int (x3)), some (.int (x4))]) (st' := [.int (x3), .int (x2), .ref 0]) (M1 := _) 3 (fun n => rfl)
  apply Ev.call0 (ls0 := [some (.ref 0), some (.int (x2)), some (.int (x3))]) (rest := []) (id := 106) (v1 := some (.int 0))  (fun n => rfl)
  · apply Ev.step (pc' := 4) (ls' := [some (.ref 0), some (.int (x2)), some (.int (x3))]) (st' := [.int 20, .int 1, .int (x2)]) (M1 := _) 3 (fun n => rfl)
    apply Ev.call0 (ls0 := [some (.int (x2)), some (.int 1), some (.int 20)]) (rest := []) (id := 126) (v1 := some (.int 1))  (fun n => rfl)
    · apply Ev.step (pc' := 2) (ls' := [some (.int (x2)), some (.int 1), some (.int 20)]) (st' := [.int 1, .int (x2)]) (M1 := _) 2 (fun n => rfl)
      apply Ev.step (pc' := if x2 < 1 then 14 else 5) (ls' := [some (.int (x2)), some (.int 1), some (.int 20)]) (st' := []) (M1 := _) 1 (fun n => rfl)
      rw [if_neg g0]
      apply Ev.step (pc' := 7) (ls' := [some (.int (x2)), some (.int 1), some (.int 20)]) (st' := [.int 20, .int (x2)]) (M1 := _) 2 (fun n => rfl)
      apply Ev.step (pc' := if 20 < x2 then 14 else 10) (ls' := [some (.int (x2)), some (.int 1), some (.int 20)]) (st' := []) (M1 := _) 1 (fun n => rfl)
      rw [if_neg g1]
      apply Ev.step (pc' := 15) (ls' := [some (.int (x2)), some (.int 1), some (.int 20)]) (st' := [.int 1]) (M1 := _) 2 (fun n => rfl)
      exact Ev.ret (fun n => rfl)
    apply Ev.step (pc' := 15) (ls' := [some (.ref 0), some (.int (x2)), some (.int (x3))]) (st' := [.int 200, .int 1, .int (x3)]) (M1 := _) 4 (fun n => rfl)
    apply Ev.call0 (ls0 := [some (.int (x3)), some (.int 1), some (.int 200)]) (rest := []) (id := 126) (v1 := some (.int 0))  (fun n => rfl)
    · apply Ev.step (pc' := 2) (ls' := [some (.int (x3)), some (.int 1), some (.int 200)]) (st' := [.int 1, .int (x3)]) (M1 := _) 2 (fun n => rfl)
      apply Ev.step (pc' := if x3 < 1 then 14 else 5) (ls' := [some (.int (x3)), some (.int 1), some (.int 200)]) (st' := []) (M1 := _) 1 (fun n => rfl)
      rw [if_neg g2]
      apply Ev.step (pc' := 7) (ls' := [some (.int (x3)), some (.int 1), some (.int 200)]) (st' := [.int 200, .int (x3)]) (M1 := _) 2 (fun n => rfl)
      apply Ev.step (pc' := if 200 < x3 then 14 else 10) (ls' := [some (.int (x3)), some (.int 1), some (.int 200)]) (st' := []) (M1 := _) 1 (fun n => rfl)
      rw [if_pos g3]
      apply Ev.step (pc' := 15) (ls' := [some (.int (x3)), some (.int 1), some (.int 200)]) (st' := [.int 0]) (M1 := _) 1 (fun n => rfl)
      exact Ev.ret (fun n => rfl)
    apply Ev.step (pc' := 26) (ls' := [some (.ref 0), some (.int (x2)), some (.int (x3))]) (st' := [.int 0]) (M1 := _) 2 (fun n => rfl)
    exact Ev.ret (fun n => rfl)
  apply Ev.step (pc' := 29) (ls' := [some (.ref 0), some (.int (x1)), some (.int (x2)), some (.int (x3)), some (.int (x4))]) (st' := [.int (-1)]) (M1 := _) 2 (fun n => rfl)
  exact Ev.ret (fun n => rfl)
set_option maxRecDepth 200000 in
set_option maxHeartbeats 4000000 in
theorem r232_15 (x1 x2 x3 x4 : Int32) (g0 : ¬ x2 < 1) (g1 : ¬ 20 < x2) (g2 : ¬ x1 < 1) (g3 : ¬ x2 < x1) (g4 : ¬ x3 < 1) (g5 : 200 < x3) : ∃ M1, Ev none 999 232 0 [some (.ref 0), some (.int (x1)), some (.int (x2)), some (.int (x3)), some (.int (x4))] [] memR (some (.int (-1))) M1 0 0 := by
  apply Exists.intro
  apply Ev.step (pc' := 9) (ls' := [some (.ref 0), some (.int (x1)), some (.int (x2)), some (.int (x3)), some (.int (x4))]) (st' := [.int 20, .int 1, .int (x2)]) (M1 := _) 6 (fun n => rfl)
  apply Ev.call0 (ls0 := [some (.int (x2)), some (.int 1), some (.int 20)]) (rest := []) (id := 141) (v1 := some (.int 1))  (fun n => rfl)
  · apply Ev.step (pc' := 2) (ls' := [some (.int (x2)), some (.int 1), some (.int 20)]) (st' := [.int 1, .int (x2)]) (M1 := _) 2 (fun n => rfl)
    apply Ev.step (pc' := if x2 < 1 then 14 else 5) (ls' := [some (.int (x2)), some (.int 1), some (.int 20)]) (st' := []) (M1 := _) 1 (fun n => rfl)
    rw [if_neg g0]
    apply Ev.step (pc' := 7) (ls' := [some (.int (x2)), some (.int 1), some (.int 20)]) (st' := [.int 20, .int (x2)]) (M1 := _) 2 (fun n => rfl)
    apply Ev.step (pc' := if 20 < x2 then 14 else 10) (ls' := [some (.int (x2)), some (.int 1), some (.int 20)]) (st' := []) (M1 := _) 1 (fun n => rfl)
    rw [if_neg g1]
    apply Ev.step (pc' := 15) (ls' := [some (.int (x2)), some (.int 1), some (.int 20)]) (st' := [.int 1]) (M1 := _) 2 (fun n => rfl)
    exact Ev.ret (fun n => rfl)
  apply Ev.step (pc' := 18) (ls' := [some (.ref 0), some (.int (x1)), some (.int (x2)), some (.int (x3)), some (.int (x4))]) (st' := [.int (x2), .int 1, .int (x1)]) (M1 := _) 4 (fun n => rfl)
  apply Ev.call0 (ls0 := [some (.int (x1)), some (.int 1), some (.int (x2))]) (rest := []) (id := 141) (v1 := some (.int 1))  (fun n => rfl)
  · apply Ev.step (pc' := 2) (ls' := [some (.int (x1)), some (.int 1), some (.int (x2))]) (st' := [.int 1, .int (x1)]) (M1 := _) 2 (fun n => rfl)
    apply Ev.step (pc' := if x1 < 1 then 14 else 5) (ls' := [some (.int (x1)), some (.int 1), some (.int (x2))]) (st' := []) (M1 := _) 1 (fun n => rfl)
    rw [if_neg g2]
    apply Ev.step (pc' := 7) (ls' := [some (.int (x1)), some (.int 1), some (.int (x2))]) (st' := [.int (x2), .int (x1)]) (M1 := _) 2 (fun n => rfl)
    apply Ev.step (pc' := if x2 < x1 then 14 else 10) (ls' := [some (.int (x1)), some (.int 1), some (.int (x2))]) (st' := []) (M1 := _) 1 (fun n => rfl)
    rw [if_neg g3]
    apply Ev.step (pc' := 15) (ls' := [some (.int (x1)), some (.int 1), some (.int (x2))]) (st' := [.int 1]) (M1 := _) 2 (fun n => rfl)
    exact Ev.ret (fun n => rfl)
  apply Ev.step (pc' := 29) (ls' := [some (.ref 0), some (.int (x1)), some (.int (x2)), some (.int (x3)), some (.int (x4))]) (st' := [.int 200, .int 1, .int (x3)]) (M1 := _) 4 (fun n => rfl)
  apply Ev.call0 (ls0 := [some (.int (x3)), some (.int 1), some (.int 200)]) (rest := []) (id := 141) (v1 := some (.int 0))  (fun n => rfl)
  · apply Ev.step (pc' := 2) (ls' := [some (.int (x3)), some (.int 1), some (.int 200)]) (st' := [.int 1, .int (x3)]) (M1 := _) 2 (fun n => rfl)
    apply Ev.step (pc' := if x3 < 1 then 14 else 5) (ls' := [some (.int (x3)), some (.int 1), some (.int 200)]) (st' := []) (M1 := _) 1 (fun n => rfl)
    rw [if_neg g4]
    apply Ev.step (pc' := 7) (ls' := [some (.int (x3)), some (.int 1), some (.int 200)]) (st' := [.int 200, .int (x3)]) (M1 := _) 2 (fun n => rfl)
    apply Ev.step (pc' := if 200 < x3 then 14 else 10) (ls' := [some (.int (x3)), some (.int 1), some (.int 200)]) (st' := []) (M1 := _) 1 (fun n => rfl)
    rw [if_pos g5]
    apply Ev.step (pc' := 15) (ls' := [some (.int (x3)), some (.int 1), some (.int 200)]) (st' := [.int 0]) (M1 := _) 1 (fun n => rfl)
    exact Ev.ret (fun n => rfl)
  apply Ev.step (pc' := 46) (ls' := [some (.ref 0), some (.int (x1)), some (.int (x2)), some (.int (x3)), some (.int (x4))]) (st' := [.int (-1)]) (M1 := _) 2 (fun n => rfl)
  exact Ev.ret (fun n => rfl)
set_option maxRecDepth 200000 in
set_option maxHeartbeats 4000000 in
theorem r104_16 (x1 x2 x3 x4 : Int32) (g0 : ¬ x2 < 1) (g1 : ¬ 20 < x2) (g2 : ¬ x3 < 1) (g3 : ¬ 200 < x3) (g4 : x1 < 1) : ∃ M1, Ev none 999 104 0 [some (.ref 0), some (.int (x1)), some (.int (x2)), some (.int (x3)), some (.int (x4))] [] memP (some (.int (-1))) M1 0 0 := by
  apply Exists.intro
  apply Ev.step (pc' := 3) (ls' := [some (.ref 0), some (.int (x1)), some (.int (x2)), some (.int (x3)), some (.int (x4))]) (st' := [.int (x3), .int (x2), .ref 0]) (M1 := _) 3 (fun n => rfl)
  apply Ev.call0 (ls0 := [some (.ref 0), some (.int (x2)), some (.int (x3))]) (rest := []) (id := 106) (v1 := some (.int 1))  (fun n => rfl)
  · apply Ev.step (pc' := 4) (ls' := [some (.ref 0), some (.int (x2)), some (.int (x3))]) (st' := [.int 20, .int 1, .int (x2)]) (M1 := _) 3 (fun n => rfl)
    apply Ev.call0 (ls0 := [some (.int (x2)), some (.int 1), some (.int 20)]) (rest := []) (id := 126) (v1 := some (.int 1))  (fun n => rfl)
    · apply Ev.step (pc' := 2) (ls' := [some (.int (x2)), some (.int 1), some (.int 20)]) (st' := [.int 1, .int (x2)]) (M1 := _) 2 (fun n => rfl)
      apply Ev.step (pc' := if x2 < 1 then 14 else 5) (ls' := [some (.int (x2)), some (.int 1), some (.int 20)]) (st' := []) (M1 := _) 1 (fun n => rfl)
      rw [if_neg g0]
      apply Ev.step (pc' := 7) (ls' := [some (.int (x2)), some (.int 1), some (.int 20)]) (st' := [.int 20, .int (x2)]) (M1 := _) 2 (fun n => rfl)
      apply Ev.step (pc' := if 20 < x2 then 14 else 10) (ls' := [some (.int (x2)), some (.int 1), some (.int 20)]) (st' := []) (M1 := _) 1 (fun n => rfl)
      rw [if_neg g1]
      apply Ev.step (pc' := 15) (ls' := [some (.int (x2)), some (.int 1), some (.int 20)]) (st' := [.int 1]) (M1 := _) 2 (fun n => rfl)
      exact Ev.ret (fun n => rfl)
    apply Ev.step (pc' := 15) (ls' := [some (.ref 0), some (.int (x2)), some (.int (x3))]) (st' := [.int 200, .int 1, .int (x3)]) (M1 := _) 4 (fun n => rfl)
    apply Ev.call0 (ls0 := [some (.int (x3)), some (.int 1), some (.int 200)]) (rest := []) (id := 126) (v1 := some (.int 1))  (fun n => rfl)
    · apply Ev.step (pc' := 2) (ls' := [some (.int (x3)), some (.int 1), some (.int 200)]) (st' := [.int 1, .int (x3)]) (M1 := _) 2 (fun n => rfl)
      apply Ev.step (pc' := if x3 < 1 then 14 else 5) (ls' := [some (.int (x3)), some (.int 1), some (.int 200)]) (st' := []) (M1 := _) 1 (fun n => rfl)
      rw [if_neg g2]
      apply Ev.step (pc' := 7) (ls' := [some (.int (x3)), some (.int 1), some (.int 200)]) (st' := [.int 200, .int (x3)]) (M1 := _) 2 (fun n => rfl)
      apply Ev.step (pc' := if 200 < x3 then 14 else 10) (ls' := [some (.int (x3)), some (.int 1), some (.int 200)]) (st' := []) (M1 := _) 1 (fun n => rfl)
      rw [if_neg g3]
      apply Ev.step (pc' := 15) (ls' := [some (.int (x3)), some (.int 1), some (.int 200)]) (st' := [.int 1]) (M1 := _) 2 (fun n => rfl)
      exact Ev.ret (fun n => rfl)
    apply Ev.step (pc' := 26) (ls' := [some (.ref 0), some (.int (x2)), some (.int (x3))]) (st' := [.int 1]) (M1 := _) 3 (fun n => rfl)
    exact Ev.ret (fun n => rfl)
  apply Ev.step (pc' := 12) (ls' := [some (.ref 0), some (.int (x1)), some (.int (x2)), some (.int (x3)), some (.int (x4))]) (st' := [.int (x2), .int 1, .int (x1)]) (M1 := _) 4 (fun n => rfl)
  apply Ev.call0 (ls0 := [some (.int (x1)), some (.int 1), some (.int (x2))]) (rest := []) (id := 126) (v1 := some (.int 0))  (fun n => rfl)
  · apply Ev.step (pc' := 2) (ls' := [some (.int (x1)), some (.int 1), some (.int (x2))]) (st' := [.int 1, .int (x1)]) (M1 := _) 2 (fun n => rfl)
    apply Ev.step (pc' := if x1 < 1 then 14 else 5) (ls' := [some (.int (x1)), some (.int 1), some (.int (x2))]) (st' := []) (M1 := _) 1 (fun n => rfl)
    rw [if_pos g4]
    apply Ev.step (pc' := 15) (ls' := [some (.int (x1)), some (.int 1), some (.int (x2))]) (st' := [.int 0]) (M1 := _) 1 (fun n => rfl)
    exact Ev.ret (fun n => rfl)
  apply Ev.step (pc' := 29) (ls' := [some (.ref 0), some (.int (x1)), some (.int (x2)), some (.int (x3)), some (.int (x4))]) (st' := [.int (-1)]) (M1 := _) 2 (fun n => rfl)
  exact Ev.ret (fun n => rfl)
set_option maxRecDepth 200000 in
set_option maxHeartbeats 4000000 in
theorem r232_17 (x1 x2 x3 x4 : Int32) (g0 : ¬ x2 < 1) (g1 : ¬ 20 < x2) (g2 : x1 < 1) : ∃ M1, Ev none 999 232 0 [some (.ref 0), some (.int (x1)), some (.int (x2)), some (.int (x3)), some (.int (x4))] [] memR (some (.int (-1))) M1 0 0 := by
  apply Exists.intro
  apply Ev.step (pc' := 9) (ls' := [some (.ref 0), some (.int (x1)), some (.int (x2)), some (.int (x3)), some (.int (x4))]) (st' := [.int 20, .int 1, .int (x2)]) (M1 := _) 6 (fun n => rfl)
  apply Ev.call0 (ls0 := [some (.int (x2)), some (.int 1), some (.int 20)]) (rest := []) (id := 141) (v1 := some (.int 1))  (fun n => rfl)
  · apply Ev.step (pc' := 2) (ls' := [some (.int (x2)), some (.int 1), some (.int 20)]) (st' := [.int 1, .int (x2)]) (M1 := _) 2 (fun n => rfl)
    apply Ev.step (pc' := if x2 < 1 then 14 else 5) (ls' := [some (.int (x2)), some (.int 1), some (.int 20)]) (st' := []) (M1 := _) 1 (fun n => rfl)
    rw [if_neg g0]
    apply Ev.step (pc' := 7) (ls' := [some (.int (x2)), some (.int 1), some (.int 20)]) (st' := [.int 20, .int (x2)]) (M1 := _) 2 (fun n => rfl)
    apply Ev.step (pc' := if 20 < x2 then 14 else 10) (ls' := [some (.int (x2)), some (.int 1), some (.int 20)]) (st' := []) (M1 := _) 1 (fun n => rfl)
    rw [if_neg g1]
    apply Ev.step (pc' := 15) (ls' := [some (.int (x2)), some (.int 1), some (.int 20)]) (st' := [.int 1]) (M1 := _) 2 (fun n => rfl)
    exact Ev.ret (fun n => rfl)
  apply Ev.step (pc' := 18) (ls' := [some (.ref 0), some (.int (x1)), some (.int (x2)), some (.int (x3)), some (.int (x4))]) (st' := [.int (x2), .int 1, .int (x1)]) (M1 := _) 4 (fun n => rfl)
  apply Ev.call0 (ls0 := [some (.int (x1)), some (.int 1), some (.int (x2))]) (rest := []) (id := 141) (v1 := some (.int 0))  (fun n => rfl)
  · apply Ev.step (pc' := 2) (ls' := [some (.int (x1)), some (.int 1), some (.int (x2))]) (st' := [.int 1, .int (x1)]) (M1 := _) 2 (fun n => rfl)
    apply Ev.step (pc' := if x1 < 1 then 14 else 5) (ls' := [some (.int (x1)), some (.int 1), some (.int (x2))]) (st' := []) (M1 := _) 1 (fun n => rfl)
    rw [if_pos g2]
    apply Ev.step (pc' := 15) (ls' := [some (.int (x1)), some (.int 1), some (.int (x2))]) (st' := [.int 0]) (M1 := _) 1 (fun n => rfl)
    exact Ev.ret (fun n => rfl)
  apply Ev.step (pc' := 46) (ls' := [some (.ref 0), some (.int (x1)), some (.int (x2)), some (.int (x3)), some (.int (x4))]) (st' := [.int (-1)]) (M1 := _) 2 (fun n => rfl)
  exact Ev.ret (fun n => rfl)
set_option maxRecDepth 200000 in
set_option maxHeartbeats 4000000 in
theorem r104_18 (x1 x2 x3 x4 : Int32) (g0 : ¬ x2 < 1) (g1 : ¬ 20 < x2) (g2 : ¬ x3 < 1) (g3 : ¬ 200 < x3) (g4 : ¬ x1 < 1) (g5 : x2 < x1) : ∃ M1, Ev none 999 104 0 [some (.ref 0), some (.int (x1)), some (.int (x2)), some (.int (x3)), some (.int (x4))] [] memP (some (.int (-1))) M1 0 0 := by
  apply Exists.intro
  apply Ev.step (pc' := 3) (ls' := [some (.ref 0), some (.int (x1)), some (.int (x2)), some (.int (x3)), some (.int (x4))]) (st' := [.int (x3), .int (x2), .ref 0]) (M1 := _) 3 (fun n => rfl)
  apply Ev.call0 (ls0 := [some (.ref 0), some (.int (x2)), some (.int (x3))]) (rest := []) (id := 106) (v1 := some (.int 1))  (fun n => rfl)
  · apply Ev.step (pc' := 4) (ls' := [some (.ref 0), some (.int (x2)), some (.int (x3))]) (st' := [.int 20, .int 1, .int (x2)]) (M1 := _) 3 (fun n => rfl)
    apply Ev.call0 (ls0 := [some (.int (x2)), some (.int 1), some (.int 20)]) (rest := []) (id := 126) (v1 := some (.int 1))  (fun n => rfl)
    · apply Ev.step (pc' := 2) (ls' := [some (.int (x2)), some (.int 1), some (.int 20)]) (st' := [.int 1, .int (x2)]) (M1 := _) 2 (fun n => rfl)
      apply Ev.step (pc' := if x2 < 1 then 14 else 5) (ls' := [some (.int (x2)), some (.int 1), some (.int 20)]) (st' := []) (M1 := _) 1 (fun n => rfl)
      rw [if_neg g0]
      apply Ev.step (pc' := 7) (ls' := [some (.int (x2)), some (.int 1), some (.int 20)]) (st' := [.int 20, .int (x2)]) (M1 := _) 2 (fun n => rfl)
      apply Ev.step (pc' := if 20 < x2 then 14 else 10) (ls' := [some (.int (x2)), some (.int 1), some (.int 20)]) (st' := []) (M1 := _) 1 (fun n => rfl)
      rw [if_neg g1]
      apply Ev.step (pc' := 15) (ls' := [some (.int (x2)), some (.int 1), some (.int 20)]) (st' := [.int 1]) (M1 := _) 2 (fun n => rfl)
      exact Ev.ret (fun n => rfl)
    apply Ev.step (pc' := 15) (ls' := [some (.ref 0), some (.int (x2)), some (.int (x3))]) (st' := [.int 200, .int 1, .int (x3)]) (M1 := _) 4 (fun n => rfl)
    apply Ev.call0 (ls0 := [some (.int (x3)), some (.int 1), some (.int 200)]) (rest := []) (id := 126) (v1 := some (.int 1))  (fun n => rfl)
    · apply Ev.step (pc' := 2) (ls' := [some (.int (x3)), some (.int 1), some (.int 200)]) (st' := [.int 1, .int (x3)]) (M1 := _) 2 (fun n => rfl)
      apply Ev.step (pc' := if x3 < 1 then 14 else 5) (ls' := [some (.int (x3)), some (.int 1), some (.int 200)]) (st' := []) (M1 := _) 1 (fun n => rfl)
      rw [if_neg g2]
      apply Ev.step (pc' := 7) (ls' := [some (.int (x3)), some (.int 1), some (.int 200)]) (st' := [.int 200, .int (x3)]) (M1 := _) 2 (fun n => rfl)
      apply Ev.step (pc' := if 200 < x3 then 14 else 10) (ls' := [some (.int (x3)), some (.int 1), some (.int 200)]) (st' := []) (M1 := _) 1 (fun n => rfl)
      rw [if_neg g3]
      apply Ev.step (pc' := 15) (ls' := [some (.int (x3)), some (.int 1), some (.int 200)]) (st' := [.int 1]) (M1 := _) 2 (fun n => rfl)
      exact Ev.ret (fun n => rfl)
    apply Ev.step (pc' := 26) (ls' := [some (.ref 0), some (.int (x2)), some (.int (x3))]) (st' := [.int 1]) (M1 := _) 3 (fun n => rfl)
    exact Ev.ret (fun n => rfl)
  apply Ev.step (pc' := 12) (ls' := [some (.ref 0), some (.int (x1)), some (.int (x2)), some (.int (x3)), some (.int (x4))]) (st' := [.int (x2), .int 1, .int (x1)]) (M1 := _) 4 (fun n => rfl)
  apply Ev.call0 (ls0 := [some (.int (x1)), some (.int 1), some (.int (x2))]) (rest := []) (id := 126) (v1 := some (.int 0))  (fun n => rfl)
  · apply Ev.step (pc' := 2) (ls' := [some (.int (x1)), some (.int 1), some (.int (x2))]) (st' := [.int 1, .int (x1)]) (M1 := _) 2 (fun n => rfl)
    apply Ev.step (pc' := if x1 < 1 then 14 else 5) (ls' := [some (.int (x1)), some (.int 1), some (.int (x2))]) (st' := []) (M1 := _) 1 (fun n => rfl)
    rw [if_neg g4]
    apply Ev.step (pc' := 7) (ls' := [some (.int (x1)), some (.int 1), some (.int (x2))]) (st' := [.int (x2), .int (x1)]) (M1 := _) 2 (fun n => rfl)
    apply Ev.step (pc' := if x2 < x1 then 14 else 10) (ls' := [some (.int (x1)), some (.int 1), some (.int (x2))]) (st' := []) (M1 := _) 1 (fun n => rfl)
    rw [if_pos g5]
    apply Ev.step (pc' := 15) (ls' := [some (.int (x1)), some (.int 1), some (.int (x2))]) (st' := [.int 0]) (M1 := _) 1 (fun n => rfl)
    exact Ev.ret (fun n => rfl)
  apply Ev.step (pc' := 29) (ls' := [some (.ref 0), some (.int (x1)), some (.int (x2)), some (.int (x3)), some (.int (x4))]) (st' := [.int (-1)]) (M1 := _) 2 (fun n => rfl)
  exact Ev.ret (fun n => rfl)
set_option maxRecDepth 200000 in
set_option maxHeartbeats 4000000 in
theorem r232_19 (x1 x2 x3 x4 : Int32) (g0 : ¬ x2 < 1) (g1 : ¬ 20 < x2) (g2 : ¬ x1 < 1) (g3 : x2 < x1) : ∃ M1, Ev none 999 232 0 [some (.ref 0), some (.int (x1)), some (.int (x2)), some (.int (x3)), some (.int (x4))] [] memR (some (.int (-1))) M1 0 0 := by
  apply Exists.intro
  apply Ev.step (pc' := 9) (ls' := [some (.ref 0), some (.int (x1)), some (.int (x2)), some (.int (x3)), some (.int (x4))]) (st' := [.int 20, .int 1, .int (x2)]) (M1 := _) 6 (fun n => rfl)
  apply Ev.call0 (ls0 := [some (.int (x2)), some (.int 1), some (.int 20)]) (rest := []) (id := 141) (v1 := some (.int 1))  (fun n => rfl)
  · apply Ev.step (pc' := 2) (ls' := [some (.int (x2)), some (.int 1), some (.int 20)]) (st' := [.int 1, .int (x2)]) (M1 := _) 2 (fun n => rfl)
    apply Ev.step (pc' := if x2 < 1 then 14 else 5) (ls' := [some (.int (x2)), some (.int 1), some (.int 20)]) (st' := []) (M1 := _) 1 (fun n => rfl)
    rw [if_neg g0]
    apply Ev.step (pc' := 7) (ls' := [some (.int (x2)), some (.int 1), some (.int 20)]) (st' := [.int 20, .int (x2)]) (M1 := _) 2 (fun n => rfl)
    apply Ev.step (pc' := if 20 < x2 then 14 else 10) (ls' := [some (.int (x2)), some (.int 1), some (.int 20)]) (st' := []) (M1 := _) 1 (fun n => rfl)
    rw [if_neg g1]
    apply Ev.step (pc' := 15) (ls' := [some (.int (x2)), some (.int 1), some (.int 20)]) (st' := [.int 1]) (M1 := _) 2 (fun n => rfl)
    exact Ev.ret (fun n => rfl)
  apply Ev.step (pc' := 18) (ls' := [some (.ref 0), some (.int (x1)), some (.int (x2)), some (.int (x3)), some (.int (x4))]) (st' := [.int (x2), .int 1, .int (x1)]) (M1 := _) 4 (fun n => rfl)
  apply Ev.call0 (ls0 := [some (.int (x1)), some (.int 1), some (.int (x2))]) (rest := []) (id := 141) (v1 := some (.int 0))  (fun n => rfl)
  · apply Ev.step (pc' := 2) (ls' := [some (.int (x1)), some (.int 1), some (.int (x2))]) (st' := [.int 1, .int (x1)]) (M1 := _) 2 (fun n => rfl)
    apply Ev.step (pc' := if x1 < 1 then 14 else 5) (ls' := [some (.int (x1)), some (.int 1), some (.int (x2))]) (st' := []) (M1 := _) 1 (fun n => rfl)
    rw [if_neg g2]
    apply Ev.step (pc' := 7) (ls' := [some (.int (x1)), some (.int 1), some (.int (x2))]) (st' := [.int (x2), .int (x1)]) (M1 := _) 2 (fun n => rfl)
    apply Ev.step (pc' := if x2 < x1 then 14 else 10) (ls' := [some (.int (x1)), some (.int 1), some (.int (x2))]) (st' := []) (M1 := _) 1 (fun n => rfl)
    rw [if_pos g3]
    apply Ev.step (pc' := 15) (ls' := [some (.int (x1)), some (.int 1), some (.int (x2))]) (st' := [.int 0]) (M1 := _) 1 (fun n => rfl)
    exact Ev.ret (fun n => rfl)
  apply Ev.step (pc' := 46) (ls' := [some (.ref 0), some (.int (x1)), some (.int (x2)), some (.int (x3)), some (.int (x4))]) (st' := [.int (-1)]) (M1 := _) 2 (fun n => rfl)
  exact Ev.ret (fun n => rfl)
set_option maxRecDepth 200000 in
set_option maxHeartbeats 4000000 in
theorem r104_20 (x1 x2 x3 x4 : Int32) (g0 : ¬ x2 < 1) (g1 : ¬ 20 < x2) (g2 : ¬ x3 < 1) (g3 : ¬ 200 < x3) (g4 : ¬ x1 < 1) (g5 : ¬ x2 < x1) (g6 : x4 < 0) : ∃ M1, Ev none 999 104 0 [some (.ref 0), some (.int (x1)), some (.int (x2)), some (.int (x3)), some (.int (x4))] [] memP (some (.int (-1))) M1 0 0 := by
  apply Exists.intro
  apply Ev.step (pc' := 3) (ls' := [some (.ref 0), some (.int (x1)), some (.int (x2)), some (.int (x3)), some (.int (x4))]) (st' := [.int (x3), .int (x2), .ref 0]) (M1 := _) 3 (fun n => rfl)
  apply Ev.call0 (ls0 := [some (.ref 0), some (.int (x2)), some (.int (x3))]) (rest := []) (id := 106) (v1 := some (.int 1))  (fun n => rfl)
  · apply Ev.step (pc' := 4) (ls' := [some (.ref 0), some (.int (x2)), some (.int (x3))]) (st' := [.int 20, .int 1, .int (x2)]) (M1 := _) 3 (fun n => rfl)
    apply Ev.call0 (ls0 := [some (.int (x2)), some (.int 1), some (.int 20)]) (rest := []) (id := 126) (v1 := some (.int 1))  (fun n => rfl)
    · apply Ev.step (pc' := 2) (ls' := [some (.int (x2)), some (.int 1), some (.int 20)]) (st' := [.int 1, .int (x2)]) (M1 := _) 2 (fun n => rfl)
      apply Ev.step (pc' := if x2 < 1 then 14 else 5) (ls' := [some (.int (x2)), some (.int 1), some (.int 20)]) (st' := []) (M1 := _) 1 (fun n => rfl)
      rw [if_neg g0]
      apply Ev.step (pc' := 7) (ls' := [some (.int (x2)), some (.int 1), some (.int 20)]) (st' := [.int 20, .int (x2)]) (M1 := _) 2 (fun n => rfl)
      apply Ev.step (pc' := if 20 < x2 then 14 else 10) (ls' := [some (.int (x2)), some (.int 1), some (.int 20)]) (st' := []) (M1 := _) 1 (fun n => rfl)
      rw [if_neg g1]
      apply Ev.step (pc' := 15) (ls' := [some (.int (x2)), some (.int 1), some (.int 20)]) (st' := [.int 1]) (M1 := _) 2 (fun n => rfl)
      exact Ev.ret (fun n => rfl)
    apply Ev.step (pc' := 15) (ls' := [some (.ref 0), some (.int (x2)), some (.int (x3))]) (st' := [.int 200, .int 1, .int (x3)]) (M1 := _) 4 (fun n => rfl)
    apply Ev.call0 (ls0 := [some (.int (x3)), some (.int 1), some (.int 200)]) (rest := []) (id := 126) (v1 := some (.int 1))  (fun n => rfl)
    · apply Ev.step (pc' := 2) (ls' := [some (.int (x3)), some (.int 1), some (.int 200)]) (st' := [.int 1, .int (x3)]) (M1 := _) 2 (fun n => rfl)
      apply Ev.step (pc' := if x3 < 1 then 14 else 5) (ls' := [some (.int (x3)), some (.int 1), some (.int 200)]) (st' := []) (M1 := _) 1 (fun n => rfl)
      rw [if_neg g2]
      apply Ev.step (pc' := 7) (ls' := [some (.int (x3)), some (.int 1), some (.int 200)]) (st' := [.int 200, .int (x3)]) (M1 := _) 2 (fun n => rfl)
      apply Ev.step (pc' := if 200 < x3 then 14 else 10) (ls' := [some (.int (x3)), some (.int 1), some (.int 200)]) (st' := []) (M1 := _) 1 (fun n => rfl)
      rw [if_neg g3]
      apply Ev.step (pc' := 15) (ls' := [some (.int (x3)), some (.int 1), some (.int 200)]) (st' := [.int 1]) (M1 := _) 2 (fun n => rfl)
      exact Ev.ret (fun n => rfl)
    apply Ev.step (pc' := 26) (ls' := [some (.ref 0), some (.int (x2)), some (.int (x3))]) (st' := [.int 1]) (M1 := _) 3 (fun n => rfl)
    exact Ev.ret (fun n => rfl)
  apply Ev.step (pc' := 12) (ls' := [some (.ref 0), some (.int (x1)), some (.int (x2)), some (.int (x3)), some (.int (x4))]) (st' := [.int (x2), .int 1, .int (x1)]) (M1 := _) 4 (fun n => rfl)
  apply Ev.call0 (ls0 := [some (.int (x1)), some (.int 1), some (.int (x2))]) (rest := []) (id := 126) (v1 := some (.int 1))  (fun n => rfl)
  · apply Ev.step (pc' := 2) (ls' := [some (.int (x1)), some (.int 1), some (.int (x2))]) (st' := [.int 1, .int (x1)]) (M1 := _) 2 (fun n => rfl)
    apply Ev.step (pc' := if x1 < 1 then 14 else 5) (ls' := [some (.int (x1)), some (.int 1), some (.int (x2))]) (st' := []) (M1 := _) 1 (fun n => rfl)
    rw [if_neg g4]
    apply Ev.step (pc' := 7) (ls' := [some (.int (x1)), some (.int 1), some (.int (x2))]) (st' := [.int (x2), .int (x1)]) (M1 := _) 2 (fun n => rfl)
    apply Ev.step (pc' := if x2 < x1 then 14 else 10) (ls' := [some (.int (x1)), some (.int 1), some (.int (x2))]) (st' := []) (M1 := _) 1 (fun n => rfl)
    rw [if_neg g5]
    apply Ev.step (pc' := 15) (ls' := [some (.int (x1)), some (.int 1), some (.int (x2))]) (st' := [.int 1]) (M1 := _) 2 (fun n => rfl)
    exact Ev.ret (fun n => rfl)
  apply Ev.step (pc' := 22) (ls' := [some (.ref 0), some (.int (x1)), some (.int (x2)), some (.int (x3)), some (.int (x4))]) (st' := [.int 2, .int 0, .int (x4)]) (M1 := _) 4 (fun n => rfl)
  apply Ev.call0 (ls0 := [some (.int (x4)), some (.int 0), some (.int 2)]) (rest := []) (id := 126) (v1 := some (.int 0))  (fun n => rfl)
  · apply Ev.step (pc' := 2) (ls' := [some (.int (x4)), some (.int 0), some (.int 2)]) (st' := [.int 0, .int (x4)]) (M1 := _) 2 (fun n => rfl)
    apply Ev.step (pc' := if x4 < 0 then 14 else 5) (ls' := [some (.int (x4)), some (.int 0), some (.int 2)]) (st' := []) (M1 := _) 1 (fun n => rfl)
    rw [if_pos g6]
    apply Ev.step (pc' := 15) (ls' := [some (.int (x4)), some (.int 0), some (.int 2)]) (st' := [.int 0]) (M1 := _) 1 (fun n => rfl)
    exact Ev.ret (fun n => rfl)
  apply Ev.step (pc' := 29) (ls' := [some (.ref 0), some (.int (x1)), some (.int (x2)), some (.int (x3)), some (.int (x4))]) (st' := [.int (-1)]) (M1 := _) 2 (fun n => rfl)
  exact Ev.ret (fun n => rfl)
set_option maxRecDepth 200000 in
set_option maxHeartbeats 4000000 in
theorem r232_21 (x1 x2 x3 x4 : Int32) (g0 : ¬ x2 < 1) (g1 : ¬ 20 < x2) (g2 : ¬ x1 < 1) (g3 : ¬ x2 < x1) (g4 : ¬ x3 < 1) (g5 : ¬ 200 < x3) (g6 : x4 < 0) : ∃ M1, Ev none 999 232 0 [some (.ref 0), some (.int (x1)), some (.int (x2)), some (.int (x3)), some (.int (x4))] [] memR (some (.int (-1))) M1 0 0 := by
  apply Exists.intro
  apply Ev.step (pc' := 9) (ls' := [some (.ref 0), some (.int (x1)), some (.int (x2)), some (.int (x3)), some (.int (x4))]) (st' := [.int 20, .int 1, .int (x2)]) (M1 := _) 6 (fun n => rfl)
  apply Ev.call0 (ls0 := [some (.int (x2)), some (.int 1), some (.int 20)]) (rest := []) (id := 141) (v1 := some (.int 1))  (fun n => rfl)
  · apply Ev.step (pc' := 2) (ls' := [some (.int (x2)), some (.int 1), some (.int 20)]) (st' := [.int 1, .int (x2)]) (M1 := _) 2 (fun n => rfl)
    apply Ev.step (pc' := if x2 < 1 then 14 else 5) (ls' := [some (.int (x2)), some (.int 1), some (.int 20)]) (st' := []) (M1 := _) 1 (fun n => rfl)
    rw [if_neg g0]
    apply Ev.step (pc' := 7) (ls' := [some (.int (x2)), some (.int 1), some (.int 20)]) (st' := [.int 20, .int (x2)]) (M1 := _) 2 (fun n => rfl)
    apply Ev.step (pc' := if 20 < x2 then 14 else 10) (ls' := [some (.int (x2)), some (.int 1), some (.int 20)]) (st' := []) (M1 := _) 1 (fun n => rfl)
    rw [if_neg g1]
    apply Ev.step (pc' := 15) (ls' := [some (.int (x2)), some (.int 1), some (.int 20)]) (st' := [.int 1]) (M1 := _) 2 (fun n => rfl)
    exact Ev.ret (fun n => rfl)
  apply Ev.step (pc' := 18) (ls' := [some (.ref 0), some (.int (x1)), some (.int (x2)), some (.int (x3)), some (.int (x4))]) (st' := [.int (x2), .int 1, .int (x1)]) (M1 := _) 4 (fun n => rfl)
  apply Ev.call0 (ls0 := [some (.int (x1)), some (.int 1), some (.int (x2))]) (rest := []) (id := 141) (v1 := some (.int 1))  (fun n => rfl)
  · apply Ev.step (pc' := 2) (ls' := [some (.int (x1)), some (.int 1), some (.int (x2))]) (st' := [.int 1, .int (x1)]) (M1 := _) 2 (fun n => rfl)
    apply Ev.step (pc' := if x1 < 1 then 14 else 5) (ls' := [some (.int (x1)), some (.int 1), some (.int (x2))]) (st' := []) (M1 := _) 1 (fun n => rfl)
    rw [if_neg g2]
    apply Ev.step (pc' := 7) (ls' := [some (.int (x1)), some (.int 1), some (.int (x2))]) (st' := [.int (x2), .int (x1)]) (M1 := _) 2 (fun n => rfl)
    apply Ev.step (pc' := if x2 < x1 then 14 else 10) (ls' := [some (.int (x1)), some (.int 1), some (.int (x2))]) (st' := []) (M1 := _) 1 (fun n => rfl)
    rw [if_neg g3]
    apply Ev.step (pc' := 15) (ls' := [some (.int (x1)), some (.int 1), some (.int (x2))]) (st' := [.int 1]) (M1 := _) 2 (fun n => rfl)
    exact Ev.ret (fun n => rfl)
  apply Ev.step (pc' := 29) (ls' := [some (.ref 0), some (.int (x1)), some (.int (x2)), some (.int (x3)), some (.int (x4))]) (st' := [.int 200, .int 1, .int (x3)]) (M1 := _) 4 (fun n => rfl)
  apply Ev.call0 (ls0 := [some (.int (x3)), some (.int 1), some (.int 200)]) (rest := []) (id := 141) (v1 := some (.int 1))  (fun n => rfl)
  · apply Ev.step (pc' := 2) (ls' := [some (.int (x3)), some (.int 1), some (.int 200)]) (st' := [.int 1, .int (x3)]) (M1 := _) 2 (fun n => rfl)
    apply Ev.step (pc' := if x3 < 1 then 14 else 5) (ls' := [some (.int (x3)), some (.int 1), some (.int 200)]) (st' := []) (M1 := _) 1 (fun n => rfl)
    rw [if_neg g4]
    apply Ev.step (pc' := 7) (ls' := [some (.int (x3)), some (.int 1), some (.int 200)]) (st' := [.int 200, .int (x3)]) (M1 := _) 2 (fun n => rfl)
    apply Ev.step (pc' := if 200 < x3 then 14 else 10) (ls' := [some (.int (x3)), some (.int 1), some (.int 200)]) (st' := []) (M1 := _) 1 (fun n => rfl)
    rw [if_neg g5]
    apply Ev.step (pc' := 15) (ls' := [some (.int (x3)), some (.int 1), some (.int 200)]) (st' := [.int 1]) (M1 := _) 2 (fun n => rfl)
    exact Ev.ret (fun n => rfl)
  apply Ev.step (pc' := 39) (ls' := [some (.ref 0), some (.int (x1)), some (.int (x2)), some (.int (x3)), some (.int (x4))]) (st' := [.int 2, .int 0, .int (x4)]) (M1 := _) 4 (fun n => rfl)
  apply Ev.call0 (ls0 := [some (.int (x4)), some (.int 0), some (.int 2)]) (rest := []) (id := 141) (v1 := some (.int 0))  (fun n => rfl)
  · apply Ev.step (pc' := 2) (ls' := [some (.int (x4)), some (.int 0), some (.int 2)]) (st' := [.int 0, .int (x4)]) (M1 := _) 2 (fun n => rfl)
    apply Ev.step (pc' := if x4 < 0 then 14 else 5) (ls' := [some (.int (x4)), some (.int 0), some (.int 2)]) (st' := []) (M1 := _) 1 (fun n => rfl)
    rw [if_pos g6]
    apply Ev.step (pc' := 15) (ls' := [some (.int (x4)), some (.int 0), some (.int 2)]) (st' := [.int 0]) (M1 := _) 1 (fun n => rfl)
    exact Ev.ret (fun n => rfl)
  apply Ev.step (pc' := 46) (ls' := [some (.ref 0), some (.int (x1)), some (.int (x2)), some (.int (x3)), some (.int (x4))]) (st' := [.int (-1)]) (M1 := _) 2 (fun n => rfl)
  exact Ev.ret (fun n => rfl)
set_option maxRecDepth 200000 in
set_option maxHeartbeats 4000000 in
theorem r104_22 (x1 x2 x3 x4 : Int32) (g0 : ¬ x2 < 1) (g1 : ¬ 20 < x2) (g2 : ¬ x3 < 1) (g3 : ¬ 200 < x3) (g4 : ¬ x1 < 1) (g5 : ¬ x2 < x1) (g6 : ¬ x4 < 0) (g7 : 2 < x4) : ∃ M1, Ev none 999 104 0 [some (.ref 0), some (.int (x1)), some (.int (x2)), some (.int (x3)), some (.int (x4))] [] memP (some (.int (-1))) M1 0 0 := by
  apply Exists.intro
  apply Ev.step (pc' := 3) (ls' := [some (.ref 0), some (.int (x1)), some (.int (x2)), some (.int (x3)), some (.int (x4))]) (st' := [.int (x3), .int (x2), .ref 0]) (M1 := _) 3 (fun n => rfl)
  apply Ev.call0 (ls0 := [some (.ref 0), some (.int (x2)), some (.int (x3))]) (rest := []) (id := 106) (v1 := some (.int 1))  (fun n => rfl)
  · apply Ev.step (pc' := 4) (ls' := [some (.ref 0), some (.int (x2)), some (.int (x3))]) (st' := [.int 20, .int 1, .int (x2)]) (M1 := _) 3 (fun n => rfl)
    apply Ev.call0 (ls0 := [some (.int (x2)), some (.int 1), some (.int 20)]) (rest := []) (id := 126) (v1 := some (.int 1))  (fun n => rfl)
    · apply Ev.step (pc' := 2) (ls' := [some (.int (x2)), some (.int 1), some (.int 20)]) (st' := [.int 1, .int (x2)]) (M1 := _) 2 (fun n => rfl)
      apply Ev.step (pc' := if x2 < 1 then 14 else 5) (ls' := [some (.int (x2)), some (.int 1), some (.int 20)]) (st' := []) (M1 := _) 1 (fun n => rfl)
      rw [if_neg g0]
      apply Ev.step (pc' := 7) (ls' := [some (.int (x2)), some (.int 1), some (.int 20)]) (st' := [.int 20, .int (x2)]) (M1 := _) 2 (fun n => rfl)
      apply Ev.step (pc' := if 20 < x2 then 14 else 10) (ls' := [some (.int (x2)), some (.int 1), some (.int 20)]) (st' := []) (M1 := _) 1 (fun n => rfl)
      rw [if_neg g1]
      apply Ev.step (pc' := 15) (ls' := [some (.int (x2)), some (.int 1), some (.int 20)]) (st' := [.int 1]) (M1 := _) 2 (fun n => rfl)
      exact Ev.ret (fun n => rfl)
    apply Ev.step (pc' := 15) (ls' := [some (.ref 0), some (.int (x2)), some (.int (x3))]) (st' := [.int 200, .int 1, .int (x3)]) (M1 := _) 4 (fun n => rfl)
    apply Ev.call0 (ls0 := [some (.int (x3)), some (.int 1), some (.int 200)]) (rest := []) (id := 126) (v1 := some (.int 1))  (fun n => rfl)
    · apply Ev.step (pc' := 2) (ls' := [some (.int (x3)), some (.int 1), some (.int 200)]) (st' := [.int 1, .int (x3)]) (M1 := _) 2 (fun n => rfl)
      apply Ev.step (pc' := if x3 < 1 then 14 else 5) (ls' := [some (.int (x3)), some (.int 1), some (.int 200)]) (st' := []) (M1 := _) 1 (fun n => rfl)
      rw [if_neg g2]
      apply Ev.step (pc' := 7) (ls' := [some (.int (x3)), some (.int 1), some (.int 200)]) (st' := [.int 200, .int (x3)]) (M1 := _) 2 (fun n => rfl)
      apply Ev.step (pc' := if 200 < x3 then 14 else 10) (ls' := [some (.int (x3)), some (.int 1), some (.int 200)]) (st' := []) (M1 := _) 1 (fun n => rfl)
      rw [if_neg g3]
      apply Ev.step (pc' := 15) (ls' := [some (.int (x3)), some (.int 1), some (.int 200)]) (st' := [.int 1]) (M1 := _) 2 (fun n => rfl)
      exact Ev.ret (fun n => rfl)
    apply Ev.step (pc' := 26) (ls' := [some (.ref 0), some (.int (x2)), some (.int (x3))]) (st' := [.int 1]) (M1 := _) 3 (fun n => rfl)
    exact Ev.ret (fun n => rfl)
  apply Ev.step (pc' := 12) (ls' := [some (.ref 0), some (.int (x1)), some (.int (x2)), some (.int (x3)), some (.int (x4))]) (st' := [.int (x2), .int 1, .int (x1)]) (M1 := _) 4 (fun n => rfl)
  apply Ev.call0 (ls0 := [some (.int (x1)), some (.int 1), some (.int (x2))]) (rest := []) (id := 126) (v1 := some (.int 1))  (fun n => rfl)
  · apply Ev.step (pc' := 2) (ls' := [some (.int (x1)), some (.int 1), some (.int (x2))]) (st' := [.int 1, .int (x1)]) (M1 := _) 2 (fun n => rfl)
    apply Ev.step (pc' := if x1 < 1 then 14 else 5) (ls' := [some (.int (x1)), some (.int 1), some (.int (x2))]) (st' := []) (M1 := _) 1 (fun n => rfl)
    rw [if_neg g4]
    apply Ev.step (pc' := 7) (ls' := [some (.int (x1)), some (.int 1), some (.int (x2))]) (st' := [.int (x2), .int (x1)]) (M1 := _) 2 (fun n => rfl)
    apply Ev.step (pc' := if x2 < x1 then 14 else 10) (ls' := [some (.int (x1)), some (.int 1), some (.int (x2))]) (st' := []) (M1 := _) 1 (fun n => rfl)
    rw [if_neg g5]
    apply Ev.step (pc' := 15) (ls' := [some (.int (x1)), some (.int 1), some (.int (x2))]) (st' := [.int 1]) (M1 := _) 2 (fun n => rfl)
    exact Ev.ret (fun n => rfl)
  apply Ev.step (pc' := 22) (ls' := [some (.ref 0), some (.int (x1)), some (.int (x2)), some (.int (x3)), some (.int (x4))]) (st' := [.int 2, .int 0, .int (x4)]) (M1 := _) 4 (fun n => rfl)
  apply Ev.call0 (ls0 := [some (.int (x4)), some (.int 0), some (.int 2)]) (rest := []) (id := 126) (v1 := some (.int 0))  (fun n => rfl)
  · apply Ev.step (pc' := 2) (ls' := [some (.int (x4)), some (.int 0), some (.int 2)]) (st' := [.int 0, .int (x4)]) (M1 := _) 2 (fun n => rfl)
    apply Ev.step (pc' := if x4 < 0 then 14 else 5) (ls' := [some (.int (x4)), some (.int 0), some (.int 2)]) (st' := []) (M1 := _) 1 (fun n => rfl)
    rw [if_neg g6]
    apply Ev.step (pc' := 7) (ls' := [some (.int (x4)), some (.int 0), some (.int 2)]) (st' := [.int 2, .int (x4)]) (M1 := _) 2 (fun n => rfl)
    apply Ev.step (pc' := if 2 < x4 then 14 else 10) (ls' := [some (.int (x4)), some (.int 0), some (.int 2)]) (st' := []) (M1 := _) 1 (fun n => rfl)
    rw [if_pos g7]
    apply Ev.step (pc' := 15) (ls' := [some (.int (x4)), some (.int 0), some (.int 2)]) (st' := [.int 0]) (M1 := _) 1 (fun n => rfl)
    exact Ev.ret (fun n => rfl)
  apply Ev.step (pc' := 29) (ls' := [some (.ref 0), some (.int (x1)), some (.int (x2)), some (.int (x3)), some (.int (x4))]) (st' := [.int (-1)]) (M1 := _) 2 (fun n => rfl)
  exact Ev.ret (fun n => rfl)
set_option maxRecDepth 200000 in
set_option maxHeartbeats 4000000 in
theorem r232_23 (x1 x2 x3 x4 : Int32) (g0 : ¬ x2 < 1) (g1 : ¬ 20 < x2) (g2 : ¬ x1 < 1) (g3 : ¬ x2 < x1) (g4 : ¬ x3 < 1) (g5 : ¬ 200 < x3) (g6 : ¬ x4 < 0) (g7 : 2 < x4) : ∃ M1, Ev none 999 232 0 [some (.ref 0), some (.int (x1)), some (.int (x2)), some (.int (x3)), some (.int (x4))] [] memR (some (.int (-1))) M1 0 0 := by
  apply Exists.intro
  apply Ev.step (pc' := 9) (ls' := [some (.ref 0), some (.int (x1)), some (.int (x2)), some (.int (x3)), some (.int (x4))]) (st' := [.int 20, .int 1, .int (x2)]) (M1 := _) 6 (fun n => rfl)
  apply Ev.call0 (ls0 := [some (.int (x2)), some (.int 1), some (.int 20)]) (rest := []) (id := 141) (v1 := some (.int 1))  (fun n => rfl)
  · apply Ev.step (pc' := 2) (ls' := [some (.int (x2)), some (.int 1), some (.int 20)]) (st' := [.int 1, .int (x2)]) (M1 := _) 2 (fun n => rfl)
    apply Ev.step (pc' := if x2 < 1 then 14 else 5) (ls' := [some (.int (x2)), some (.int 1), some (.int 20)]) (st' := []) (M1 := _) 1 (fun n => rfl)
    rw [if_neg g0]
    apply Ev.step (pc' := 7) (ls' := [some (.int (x2)), some (.int 1), some (.int 20)]) (st' := [.int 20, .int (x2)]) (M1 := _) 2 (fun n => rfl)
    apply Ev.step (pc' := if 20 < x2 then 14 else 10) (ls' := [some (.int (x2)), some (.int 1), some (.int 20)]) (st' := []) (M1 := _) 1 (fun n => rfl)
    rw [if_neg g1]
    apply Ev.step (pc' := 15) (ls' := [some (.int (x2)), some (.int 1), some (.int 20)]) (st' := [.int 1]) (M1 := _) 2 (fun n => rfl)
    exact Ev.ret (fun n => rfl)
  apply Ev.step (pc' := 18) (ls' := [some (.ref 0), some (.int (x1)), some (.int (x2)), some (.int (x3)), some (.int (x4))]) (st' := [.int (x2), .int 1, .int (x1)]) (M1 := _) 4 (fun n => rfl)
  apply Ev.call0 (ls0 := [some (.int (x1)), some (.int 1), some (.int (x2))]) (rest := []) (id := 141) (v1 := some (.int 1))  (fun n => rfl)
  · apply Ev.step (pc' := 2) (ls' := [some (.int (x1)), some (.int 1), some (.int (x2))]) (st' := [.int 1, .int (x1)]) (M1 := _) 2 (fun n => rfl)
    apply Ev.step (pc' := if x1 < 1 then 14 else 5) (ls' := [some (.int (x1)), some (.int 1), some (.int (x2))]) (st' := []) (M1 := _) 1 (fun n => rfl)
    rw [if_neg g2]
    apply Ev.step (pc' := 7) (ls' := [some (.int (x1)), some (.int 1), some (.int (x2))]) (st' := [.int (x2), .int (x1)]) (M1 := _) 2 (fun n => rfl)
    apply Ev.step (pc' := if x2 < x1 then 14 else 10) (ls' := [some (.int (x1)), some (.int 1), some (.int (x2))]) (st' := []) (M1 := _) 1 (fun n => rfl)
    rw [if_neg g3]
    apply Ev.step (pc' := 15) (ls' := [some (.int (x1)), some (.int 1), some (.int (x2))]) (st' := [.int 1]) (M1 := _) 2 (fun n => rfl)
    exact Ev.ret (fun n => rfl)
  apply Ev.step (pc' := 29) (ls' := [some (.ref 0), some (.int (x1)), some (.int (x2)), some (.int (x3)), some (.int (x4))]) (st' := [.int 200, .int 1, .int (x3)]) (M1 := _) 4 (fun n => rfl)
  apply Ev.call0 (ls0 := [some (.int (x3)), some (.int 1), some (.int 200)]) (rest := []) (id := 141) (v1 := some (.int 1))  (fun n => rfl)
  · apply Ev.step (pc' := 2) (ls' := [some (.int (x3)), some (.int 1), some (.int 200)]) (st' := [.int 1, .int (x3)]) (M1 := _) 2 (fun n => rfl)
    apply Ev.step (pc' := if x3 < 1 then 14 else 5) (ls' := [some (.int (x3)), some (.int 1), some (.int 200)]) (st' := []) (M1 := _) 1 (fun n => rfl)
    rw [if_neg g4]
    apply Ev.step (pc' := 7) (ls' := [some (.int (x3)), some (.int 1), some (.int 200)]) (st' := [.int 200, .int (x3)]) (M1 := _) 2 (fun n => rfl)
    apply Ev.step (pc' := if 200 < x3 then 14 else 10) (ls' := [some (.int (x3)), some (.int 1), some (.int 200)]) (st' := []) (M1 := _) 1 (fun n => rfl)
    rw [if_neg g5]
    apply Ev.step (pc' := 15) (ls' := [some (.int (x3)), some (.int 1), some (.int 200)]) (st' := [.int 1]) (M1 := _) 2 (fun n => rfl)
    exact Ev.ret (fun n => rfl)
  apply Ev.step (pc' := 39) (ls' := [some (.ref 0), some (.int (x1)), some (.int (x2)), some (.int (x3)), some (.int (x4))]) (st' := [.int 2, .int 0, .int (x4)]) (M1 := _) 4 (fun n => rfl)
  apply Ev.call0 (ls0 := [some (.int (x4)), some (.int 0), some (.int 2)]) (rest := []) (id := 141) (v1 := some (.int 0))  (fun n => rfl)
  · apply Ev.step (pc' := 2) (ls' := [some (.int (x4)), some (.int 0), some (.int 2)]) (st' := [.int 0, .int (x4)]) (M1 := _) 2 (fun n => rfl)
    apply Ev.step (pc' := if x4 < 0 then 14 else 5) (ls' := [some (.int (x4)), some (.int 0), some (.int 2)]) (st' := []) (M1 := _) 1 (fun n => rfl)
    rw [if_neg g6]
    apply Ev.step (pc' := 7) (ls' := [some (.int (x4)), some (.int 0), some (.int 2)]) (st' := [.int 2, .int (x4)]) (M1 := _) 2 (fun n => rfl)
    apply Ev.step (pc' := if 2 < x4 then 14 else 10) (ls' := [some (.int (x4)), some (.int 0), some (.int 2)]) (st' := []) (M1 := _) 1 (fun n => rfl)
    rw [if_pos g7]
    apply Ev.step (pc' := 15) (ls' := [some (.int (x4)), some (.int 0), some (.int 2)]) (st' := [.int 0]) (M1 := _) 1 (fun n => rfl)
    exact Ev.ret (fun n => rfl)
  apply Ev.step (pc' := 46) (ls' := [some (.ref 0), some (.int (x1)), some (.int (x2)), some (.int (x3)), some (.int (x4))]) (st' := [.int (-1)]) (M1 := _) 2 (fun n => rfl)
  exact Ev.ret (fun n => rfl)
set_option maxRecDepth 200000 in
set_option maxHeartbeats 4000000 in
theorem ok_22 {x0 x1 x2 x3 x4 x5 : Int32} (hj : x0 &&& 63 = nI 22) : Okk x0 x1 x2 x3 x4 x5 := by
  by_cases h1 : x2 < 1
  · skip
    obtain ⟨M1, A⟩ := (r104_0 x1 x2 x3 x4 h1)
    obtain ⟨M2, B⟩ := (r232_1 x1 x2 x3 x4 h1)
    exact lc_22 hj A B
  · skip
    by_cases h2 : 20 < x2
    · skip
      obtain ⟨M1, A⟩ := (r104_2 x1 x2 x3 x4 h1 h2)
      obtain ⟨M2, B⟩ := (r232_3 x1 x2 x3 x4 h1 h2)
      exact lc_22 hj A B
    · skip
      by_cases h3 : x3 < 1
      · skip
        by_cases h4 : x1 < 1
        · skip
          obtain ⟨M1, A⟩ := (r104_4 x1 x2 x3 x4 h1 h2 h3)
          obtain ⟨M2, B⟩ := (r232_5 x1 x2 x3 x4 h1 h2 h4)
          exact lc_22 hj A B
        · skip
          by_cases h5 : x2 < x1
          · skip
            obtain ⟨M1, A⟩ := (r104_6 x1 x2 x3 x4 h1 h2 h3)
            obtain ⟨M2, B⟩ := (r232_7 x1 x2 x3 x4 h1 h2 h4 h5)
            exact lc_22 hj A B
          · skip
            obtain ⟨M1, A⟩ := (r104_8 x1 x2 x3 x4 h1 h2 h3)
            obtain ⟨M2, B⟩ := (r232_9 x1 x2 x3 x4 h1 h2 h4 h5 h3)
            exact lc_22 hj A B
      · skip
        by_cases h6 : 200 < x3
        · skip
          by_cases h7 : x1 < 1
          · skip
            obtain ⟨M1, A⟩ := (r104_10 x1 x2 x3 x4 h1 h2 h3 h6)
            obtain ⟨M2, B⟩ := (r232_11 x1 x2 x3 x4 h1 h2 h7)
            exact lc_22 hj A B
          · skip
            by_cases h8 : x2 < x1
            · skip
              obtain ⟨M1, A⟩ := (r104_12 x1 x2 x3 x4 h1 h2 h3 h6)
              obtain ⟨M2, B⟩ := (r232_13 x1 x2 x3 x4 h1 h2 h7 h8)
              exact lc_22 hj A B
            · skip
              obtain ⟨M1, A⟩ := (r104_14 x1 x2 x3 x4 h1 h2 h3 h6)
              obtain ⟨M2, B⟩ := (r232_15 x1 x2 x3 x4 h1 h2 h7 h8 h3 h6)
              exact lc_22 hj A B
        · skip
          by_cases h9 : x1 < 1
          · skip
            obtain ⟨M1, A⟩ := (r104_16 x1 x2 x3 x4 h1 h2 h3 h6 h9)
            obtain ⟨M2, B⟩ := (r232_17 x1 x2 x3 x4 h1 h2 h9)
            exact lc_22 hj A B
          · skip
            by_cases h10 : x2 < x1
            · skip
              obtain ⟨M1, A⟩ := (r104_18 x1 x2 x3 x4 h1 h2 h3 h6 h9 h10)
              obtain ⟨M2, B⟩ := (r232_19 x1 x2 x3 x4 h1 h2 h9 h10)
              exact lc_22 hj A B
            · skip
              by_cases h11 : x4 < 0
              · skip
                obtain ⟨M1, A⟩ := (r104_20 x1 x2 x3 x4 h1 h2 h3 h6 h9 h10 h11)
                obtain ⟨M2, B⟩ := (r232_21 x1 x2 x3 x4 h1 h2 h9 h10 h3 h6 h11)
                exact lc_22 hj A B
              · skip
                by_cases h12 : 2 < x4
                · skip
                  obtain ⟨M1, A⟩ := (r104_22 x1 x2 x3 x4 h1 h2 h3 h6 h9 h10 h11 h12)
                  obtain ⟨M2, B⟩ := (r232_23 x1 x2 x3 x4 h1 h2 h9 h10 h3 h6 h11 h12)
                  exact lc_22 hj A B
                · skip
                  have d1 : ¬ (20 : Int32) < x1 := by
                    simp only [Int32.lt_iff_toInt_lt] at h10 h2 ⊢
                    omega
                  obtain ⟨W, a1, a2, a3, rfl⟩ := nat_of h1 h2 (by decide)
                  obtain ⟨K, b1, b2, b3, rfl⟩ := nat_of h3 h6 (by decide)
                  obtain ⟨w, d2, d3, d4, rfl⟩ := nat_of h9 d1 (by decide)
                  have c1 : (1 : Int32).toInt = 1 := by decide
                  have c2 : (20 : Int32).toInt = 20 := by decide
                  rcases pick_0_2 h11 h12 with rfl | rfl | rfl
                  · obtain ⟨M1, A⟩ := paved_c0 h1 h2 h3 h6 h9 h10 (by omega) (by omega) b3
                    obtain ⟨M2, B⟩ := paved_r0 h1 h2 h3 h6 h9 h10 (by omega) (by omega) b3
                    exact lc_22 hj A B
                  · obtain ⟨M1, A⟩ := paved_c1 h1 h2 h3 h6 h9 h10 (by omega) (by omega) b3
                    obtain ⟨M2, B⟩ := paved_r1 h1 h2 h3 h6 h9 h10 (by omega) (by omega) b3
                    exact lc_22 hj A B
                  · obtain ⟨M1, A⟩ := paved_c2 h1 h2 h3 h6 h9 h10 (by omega) (by omega) b3
                    obtain ⟨M2, B⟩ := paved_r2 h1 h2 h3 h6 h9 h10 (by omega) (by omega) b3
                    exact lc_22 hj A B
