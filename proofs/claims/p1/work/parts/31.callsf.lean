/-! PURE: calls on the fresh objects -/
set_option maxRecDepth 200000 in
set_option maxHeartbeats 4000000 in
theorem r103_0 (x1 x2 x3 x4 : Int32) (g0 : x1 < 0) : ∃ M1, Ev none 999 103 0 [some (.ref 0), some (.int (x1)), some (.int (x2)), some (.int (x3)), some (.int (x4)), none, none, none, none, none, none] [] memP (some (.int (-2))) M1 0 0 := by
  apply Exists.intro
  apply Ev.step (pc' := 3) (ls' := [some (.ref 0), some (.int (x1)), some (.int (x2)), some (.int (x3)), some (.int (x4)), none, none, none, none, none, none]) (st' := [.int 5, .int 0, .int (x1)]) (M1 := _) 3 (fun n => rfl)
  apply Ev.call0 (ls0 := [some (.int (x1)), some (.int 0), some (.int 5)]) (rest := []) (id := 126) (v1 := some (.int 0))  (fun n => rfl)
  · apply Ev.step (pc' := 2) (ls' := [some (.int (x1)), some (.int 0), some (.int 5)]) (st' := [.int 0, .int (x1)]) (M1 := _) 2 (fun n => rfl)
    apply Ev.step (pc' := if x1 < 0 then 14 else 5) (ls' := [some (.int (x1)), some (.int 0), some (.int 5)]) (st' := []) (M1 := _) 1 (fun n => rfl)
    rw [if_pos g0]
    apply Ev.step (pc' := 15) (ls' := [some (.int (x1)), some (.int 0), some (.int 5)]) (st' := [.int 0]) (M1 := _) 1 (fun n => rfl)
    exact Ev.ret (fun n => rfl)
  apply Ev.step (pc' := 30) (ls' := [some (.ref 0), some (.int (x1)), some (.int (x2)), some (.int (x3)), some (.int (x4)), none, none, none, none, none, none]) (st' := [.int (-2)]) (M1 := _) 2 (fun n => rfl)
  exact Ev.ret (fun n => rfl)
set_option maxRecDepth 200000 in
set_option maxHeartbeats 4000000 in
theorem r230_1 (x1 x2 x3 x4 : Int32) (g0 : x1 < 0) : ∃ M1, Ev none 999 230 0 [some (.ref 0), some (.int (x1)), some (.int (x2)), some (.int (x3)), some (.int (x4)), none, none, none, none, none] [] memR (some (.int (-2))) M1 0 0 := by
  apply Exists.intro
  apply Ev.step (pc' := 8) (ls' := [some (.ref 0), some (.int (x1)), some (.int (x2)), some (.int (x3)), some (.int (x4)), none, none, none, none, none]) (st' := [.int 5, .int 0, .int (x1)]) (M1 := _) 6 (fun n => rfl)
  apply Ev.call0 (ls0 := [some (.int (x1)), some (.int 0), some (.int 5)]) (rest := []) (id := 141) (v1 := some (.int 0))  (fun n => rfl)
  · apply Ev.step (pc' := 2) (ls' := [some (.int (x1)), some (.int 0), some (.int 5)]) (st' := [.int 0, .int (x1)]) (M1 := _) 2 (fun n => rfl)
    apply Ev.step (pc' := if x1 < 0 then 14 else 5) (ls' := [some (.int (x1)), some (.int 0), some (.int 5)]) (st' := []) (M1 := _) 1 (fun n => rfl)
    rw [if_pos g0]
    apply Ev.step (pc' := 15) (ls' := [some (.int (x1)), some (.int 0), some (.int 5)]) (st' := [.int 0]) (M1 := _) 1 (fun n => rfl)
    exact Ev.ret (fun n => rfl)
  apply Ev.step (pc' := 35) (ls' := [some (.ref 0), some (.int (x1)), some (.int (x2)), some (.int (x3)), some (.int (x4)), none, none, none, none, none]) (st' := [.int (-2)]) (M1 := _) 2 (fun n => rfl)
  exact Ev.ret (fun n => rfl)
set_option maxRecDepth 200000 in
set_option maxHeartbeats 4000000 in
theorem r103_2 (x1 x2 x3 x4 : Int32) (g0 : ¬ x1 < 0) (g1 : 5 < x1) : ∃ M1, Ev none 999 103 0 [some (.ref 0), some (.int (x1)), some (.int (x2)), some (.int (x3)), some (.int (x4)), none, none, none, none, none, none] [] memP (some (.int (-2))) M1 0 0 := by
  apply Exists.intro
  apply Ev.step (pc' := 3) (ls' := [some (.ref 0), some (.int (x1)), some (.int (x2)), some (.int (x3)), some (.int (x4)), none, none, none, none, none, none]) (st' := [.int 5, .int 0, .int (x1)]) (M1 := _) 3 (fun n => rfl)
  apply Ev.call0 (ls0 := [some (.int (x1)), some (.int 0), some (.int 5)]) (rest := []) (id := 126) (v1 := some (.int 0))  (fun n => rfl)
  · apply Ev.step (pc' := 2) (ls' := [some (.int (x1)), some (.int 0), some (.int 5)]) (st' := [.int 0, .int (x1)]) (M1 := _) 2 (fun n => rfl)
    apply Ev.step (pc' := if x1 < 0 then 14 else 5) (ls' := [some (.int (x1)), some (.int 0), some (.int 5)]) (st' := []) (M1 := _) 1 (fun n => rfl)
    rw [if_neg g0]
    apply Ev.step (pc' := 7) (ls' := [some (.int (x1)), some (.int 0), some (.int 5)]) (st' := [.int 5, .int (x1)]) (M1 := _) 2 (fun n => rfl)
    apply Ev.step (pc' := if 5 < x1 then 14 else 10) (ls' := [some (.int (x1)), some (.int 0), some (.int 5)]) (st' := []) (M1 := _) 1 (fun n => rfl)
    rw [if_pos g1]
    apply Ev.step (pc' := 15) (ls' := [some (.int (x1)), some (.int 0), some (.int 5)]) (st' := [.int 0]) (M1 := _) 1 (fun n => rfl)
    exact Ev.ret (fun n => rfl)
  apply Ev.step (pc' := 30) (ls' := [some (.ref 0), some (.int (x1)), some (.int (x2)), some (.int (x3)), some (.int (x4)), none, none, none, none, none, none]) (st' := [.int (-2)]) (M1 := _) 2 (fun n => rfl)
  exact Ev.ret (fun n => rfl)
set_option maxRecDepth 200000 in
set_option maxHeartbeats 4000000 in
theorem r230_3 (x1 x2 x3 x4 : Int32) (g0 : ¬ x1 < 0) (g1 : 5 < x1) : ∃ M1, Ev none 999 230 0 [some (.ref 0), some (.int (x1)), some (.int (x2)), some (.int (x3)), some (.int (x4)), none, none, none, none, none] [] memR (some (.int (-2))) M1 0 0 := by
  apply Exists.intro
  apply Ev.step (pc' := 8) (ls' := [some (.ref 0), some (.int (x1)), some (.int (x2)), some (.int (x3)), some (.int (x4)), none, none, none, none, none]) (st' := [.int 5, .int 0, .int (x1)]) (M1 := _) 6 (fun n => rfl)
  apply Ev.call0 (ls0 := [some (.int (x1)), some (.int 0), some (.int 5)]) (rest := []) (id := 141) (v1 := some (.int 0))  (fun n => rfl)
  · apply Ev.step (pc' := 2) (ls' := [some (.int (x1)), some (.int 0), some (.int 5)]) (st' := [.int 0, .int (x1)]) (M1 := _) 2 (fun n => rfl)
    apply Ev.step (pc' := if x1 < 0 then 14 else 5) (ls' := [some (.int (x1)), some (.int 0), some (.int 5)]) (st' := []) (M1 := _) 1 (fun n => rfl)
    rw [if_neg g0]
    apply Ev.step (pc' := 7) (ls' := [some (.int (x1)), some (.int 0), some (.int 5)]) (st' := [.int 5, .int (x1)]) (M1 := _) 2 (fun n => rfl)
    apply Ev.step (pc' := if 5 < x1 then 14 else 10) (ls' := [some (.int (x1)), some (.int 0), some (.int 5)]) (st' := []) (M1 := _) 1 (fun n => rfl)
    rw [if_pos g1]
    apply Ev.step (pc' := 15) (ls' := [some (.int (x1)), some (.int 0), some (.int 5)]) (st' := [.int 0]) (M1 := _) 1 (fun n => rfl)
    exact Ev.ret (fun n => rfl)
  apply Ev.step (pc' := 35) (ls' := [some (.ref 0), some (.int (x1)), some (.int (x2)), some (.int (x3)), some (.int (x4)), none, none, none, none, none]) (st' := [.int (-2)]) (M1 := _) 2 (fun n => rfl)
  exact Ev.ret (fun n => rfl)
set_option maxRecDepth 200000 in
set_option maxHeartbeats 4000000 in
theorem r103_4 (x1 x2 x3 x4 : Int32) (g0 : ¬ x1 < 0) (g1 : ¬ 5 < x1) (g2 : x2 < 1) : ∃ M1, Ev none 999 103 0 [some (.ref 0), some (.int (x1)), some (.int (x2)), some (.int (x3)), some (.int (x4)), none, none, none, none, none, none] [] memP (some (.int (-2))) M1 0 0 := by
  apply Exists.intro
  apply Ev.step (pc' := 3) (ls' := [some (.ref 0), some (.int (x1)), some (.int (x2)), some (.int (x3)), some (.int (x4)), none, none, none, none, none, none]) (st' := [.int 5, .int 0, .int (x1)]) (M1 := _) 3 (fun n => rfl)
  apply Ev.call0 (ls0 := [some (.int (x1)), some (.int 0), some (.int 5)]) (rest := []) (id := 126) (v1 := some (.int 1))  (fun n => rfl)
  · apply Ev.step (pc' := 2) (ls' := [some (.int (x1)), some (.int 0), some (.int 5)]) (st' := [.int 0, .int (x1)]) (M1 := _) 2 (fun n => rfl)
    apply Ev.step (pc' := if x1 < 0 then 14 else 5) (ls' := [some (.int (x1)), some (.int 0), some (.int 5)]) (st' := []) (M1 := _) 1 (fun n => rfl)
    rw [if_neg g0]
    apply Ev.step (pc' := 7) (ls' := [some (.int (x1)), some (.int 0), some (.int 5)]) (st' := [.int 5, .int (x1)]) (M1 := _) 2 (fun n => rfl)
    apply Ev.step (pc' := if 5 < x1 then 14 else 10) (ls' := [some (.int (x1)), some (.int 0), some (.int 5)]) (st' := []) (M1 := _) 1 (fun n => rfl)
    rw [if_neg g1]
    apply Ev.step (pc' := 15) (ls' := [some (.int (x1)), some (.int 0), some (.int 5)]) (st' := [.int 1]) (M1 := _) 2 (fun n => rfl)
    exact Ev.ret (fun n => rfl)
  apply Ev.step (pc' := 12) (ls' := [some (.ref 0), some (.int (x1)), some (.int (x2)), some (.int (x3)), some (.int (x4)), none, none, none, none, none, none]) (st' := [.int 4, .int 1, .int (x2)]) (M1 := _) 4 (fun n => rfl)
  apply Ev.call0 (ls0 := [some (.int (x2)), some (.int 1), some (.int 4)]) (rest := []) (id := 126) (v1 := some (.int 0))  (fun n => rfl)
  · apply Ev.step (pc' := 2) (ls' := [some (.int (x2)), some (.int 1), some (.int 4)]) (st' := [.int 1, .int (x2)]) (M1 := _) 2 (fun n => rfl)
    apply Ev.step (pc' := if x2 < 1 then 14 else 5) (ls' := [some (.int (x2)), some (.int 1), some (.int 4)]) (st' := []) (M1 := _) 1 (fun n => rfl)
    rw [if_pos g2]
    apply Ev.step (pc' := 15) (ls' := [some (.int (x2)), some (.int 1), some (.int 4)]) (st' := [.int 0]) (M1 := _) 1 (fun n => rfl)
    exact Ev.ret (fun n => rfl)
  apply Ev.step (pc' := 30) (ls' := [some (.ref 0), some (.int (x1)), some (.int (x2)), some (.int (x3)), some (.int (x4)), none, none, none, none, none, none]) (st' := [.int (-2)]) (M1 := _) 2 (fun n => rfl)
  exact Ev.ret (fun n => rfl)
set_option maxRecDepth 200000 in
set_option maxHeartbeats 4000000 in
theorem r230_5 (x1 x2 x3 x4 : Int32) (g0 : ¬ x1 < 0) (g1 : ¬ 5 < x1) (g2 : x2 < 1) : ∃ M1, Ev none 999 230 0 [some (.ref 0), some (.int (x1)), some (.int (x2)), some (.int (x3)), some (.int (x4)), none, none, none, none, none] [] memR (some (.int (-2))) M1 0 0 := by
  apply Exists.intro
  apply Ev.step (pc' := 8) (ls' := [some (.ref 0), some (.int (x1)), some (.int (x2)), some (.int (x3)), some (.int (x4)), none, none, none, none, none]) (st' := [.int 5, .int 0, .int (x1)]) (M1 := _) 6 (fun n => rfl)
  apply Ev.call0 (ls0 := [some (.int (x1)), some (.int 0), some (.int 5)]) (rest := []) (id := 141) (v1 := some (.int 1))  (fun n => rfl)
  · apply Ev.step (pc' := 2) (ls' := [some (.int (x1)), some (.int 0), some (.int 5)]) (st' := [.int 0, .int (x1)]) (M1 := _) 2 (fun n => rfl)
    apply Ev.step (pc' := if x1 < 0 then 14 else 5) (ls' := [some (.int (x1)), some (.int 0), some (.int 5)]) (st' := []) (M1 := _) 1 (fun n => rfl)
    rw [if_neg g0]
    apply Ev.step (pc' := 7) (ls' := [some (.int (x1)), some (.int 0), some (.int 5)]) (st' := [.int 5, .int (x1)]) (M1 := _) 2 (fun n => rfl)
    apply Ev.step (pc' := if 5 < x1 then 14 else 10) (ls' := [some (.int (x1)), some (.int 0), some (.int 5)]) (st' := []) (M1 := _) 1 (fun n => rfl)
    rw [if_neg g1]
    apply Ev.step (pc' := 15) (ls' := [some (.int (x1)), some (.int 0), some (.int 5)]) (st' := [.int 1]) (M1 := _) 2 (fun n => rfl)
    exact Ev.ret (fun n => rfl)
  apply Ev.step (pc' := 17) (ls' := [some (.ref 0), some (.int (x1)), some (.int (x2)), some (.int (x3)), some (.int (x4)), none, none, none, none, none]) (st' := [.int 4, .int 1, .int (x2)]) (M1 := _) 4 (fun n => rfl)
  apply Ev.call0 (ls0 := [some (.int (x2)), some (.int 1), some (.int 4)]) (rest := []) (id := 141) (v1 := some (.int 0))  (fun n => rfl)
  · apply Ev.step (pc' := 2) (ls' := [some (.int (x2)), some (.int 1), some (.int 4)]) (st' := [.int 1, .int (x2)]) (M1 := _) 2 (fun n => rfl)
    apply Ev.step (pc' := if x2 < 1 then 14 else 5) (ls' := [some (.int (x2)), some (.int 1), some (.int 4)]) (st' := []) (M1 := _) 1 (fun n => rfl)
    rw [if_pos g2]
    apply Ev.step (pc' := 15) (ls' := [some (.int (x2)), some (.int 1), some (.int 4)]) (st' := [.int 0]) (M1 := _) 1 (fun n => rfl)
    exact Ev.ret (fun n => rfl)
  apply Ev.step (pc' := 35) (ls' := [some (.ref 0), some (.int (x1)), some (.int (x2)), some (.int (x3)), some (.int (x4)), none, none, none, none, none]) (st' := [.int (-2)]) (M1 := _) 2 (fun n => rfl)
  exact Ev.ret (fun n => rfl)
set_option maxRecDepth 200000 in
set_option maxHeartbeats 4000000 in
theorem r103_6 (x1 x2 x3 x4 : Int32) (g0 : ¬ x1 < 0) (g1 : ¬ 5 < x1) (g2 : ¬ x2 < 1) (g3 : 4 < x2) : ∃ M1, Ev none 999 103 0 [some (.ref 0), some (.int (x1)), some (.int (x2)), some (.int (x3)), some (.int (x4)), none, none, none, none, none, none] [] memP (some (.int (-2))) M1 0 0 := by
  apply Exists.intro
  apply Ev.step (pc' := 3) (ls' := [some (.ref 0), some (.int (x1)), some (.int (x2)), some (.int (x3)), some (.int (x4)), none, none, none, none, none, none]) (st' := [.int 5, .int 0, .int (x1)]) (M1 := _) 3 (fun n => rfl)
  apply Ev.call0 (ls0 := [some (.int (x1)), some (.int 0), some (.int 5)]) (rest := []) (id := 126) (v1 := some (.int 1))  (fun n => rfl)
  · apply Ev.step (pc' := 2) (ls' := [some (.int (x1)), some (.int 0), some (.int 5)]) (st' := [.int 0, .int (x1)]) (M1 := _) 2 (fun n => rfl)
    apply Ev.step (pc' := if x1 < 0 then 14 else 5) (ls' := [some (.int (x1)), some (.int 0), some (.int 5)]) (st' := []) (M1 := _) 1 (fun n => rfl)
    rw [if_neg g0]
    apply Ev.step (pc' := 7) (ls' := [some (.int (x1)), some (.int 0), some (.int 5)]) (st' := [.int 5, .int (x1)]) (M1 := _) 2 (fun n => rfl)
    apply Ev.step (pc' := if 5 < x1 then 14 else 10) (ls' := [some (.int (x1)), some (.int 0), some (.int 5)]) (st' := []) (M1 := _) 1 (fun n => rfl)
    rw [if_neg g1]
    apply Ev.step (pc' := 15) (ls' := [some (.int (x1)), some (.int 0), some (.int 5)]) (st' := [.int 1]) (M1 := _) 2 (fun n => rfl)
    exact Ev.ret (fun n => rfl)
  apply Ev.step (pc' := 12) (ls' := [some (.ref 0), some (.int (x1)), some (.int (x2)), some (.int (x3)), some (.int (x4)), none, none, none, none, none, none]) (st' := [.int 4, .int 1, .int (x2)]) (M1 := _) 4 (fun n => rfl)
  apply Ev.call0 (ls0 := [some (.int (x2)), some (.int 1), some (.int 4)]) (rest := []) (id := 126) (v1 := some (.int 0))  (fun n => rfl)
  · apply Ev.step (pc' := 2) (ls' := [some (.int (x2)), some (.int 1), some (.int 4)]) (st' := [.int 1, .int (x2)]) (M1 := _) 2 (fun n => rfl)
    apply Ev.step (pc' := if x2 < 1 then 14 else 5) (ls' := [some (.int (x2)), some (.int 1), some (.int 4)]) (st' := []) (M1 := _) 1 (fun n => rfl)
    rw [if_neg g2]
    apply Ev.step (pc' := 7) (ls' := [some (.int (x2)), some (.int 1), some (.int 4)]) (st' := [.int 4, .int (x2)]) (M1 := _) 2 (fun n => rfl)
    apply Ev.step (pc' := if 4 < x2 then 14 else 10) (ls' := [some (.int (x2)), some (.int 1), some (.int 4)]) (st' := []) (M1 := _) 1 (fun n => rfl)
    rw [if_pos g3]
    apply Ev.step (pc' := 15) (ls' := [some (.int (x2)), some (.int 1), some (.int 4)]) (st' := [.int 0]) (M1 := _) 1 (fun n => rfl)
    exact Ev.ret (fun n => rfl)
  apply Ev.step (pc' := 30) (ls' := [some (.ref 0), some (.int (x1)), some (.int (x2)), some (.int (x3)), some (.int (x4)), none, none, none, none, none, none]) (st' := [.int (-2)]) (M1 := _) 2 (fun n => rfl)
  exact Ev.ret (fun n => rfl)
set_option maxRecDepth 200000 in
set_option maxHeartbeats 4000000 in
theorem r230_7 (x1 x2 x3 x4 : Int32) (g0 : ¬ x1 < 0) (g1 : ¬ 5 < x1) (g2 : ¬ x2 < 1) (g3 : 4 < x2) : ∃ M1, Ev none 999 230 0 [some (.ref 0), some (.int (x1)), some (.int (x2)), some (.int (x3)), some (.int (x4)), none, none, none, none, none] [] memR (some (.int (-2))) M1 0 0 := by
  apply Exists.intro
  apply Ev.step (pc' := 8) (ls' := [some (.ref 0), some (.int (x1)), some (.int (x2)), some (.int (x3)), some (.int (x4)), none, none, none, none, none]) (st' := [.int 5, .int 0, .int (x1)]) (M1 := _) 6 (fun n => rfl)
  apply Ev.call0 (ls0 := [some (.int (x1)), some (.int 0), some (.int 5)]) (rest := []) (id := 141) (v1 := some (.int 1))  (fun n => rfl)
  · apply Ev.step (pc' := 2) (ls' := [some (.int (x1)), some (.int 0), some (.int 5)]) (st' := [.int 0, .int (x1)]) (M1 := _) 2 (fun n => rfl)
    apply Ev.step (pc' := if x1 < 0 then 14 else 5) (ls' := [some (.int (x1)), some (.int 0), some (.int 5)]) (st' := []) (M1 := _) 1 (fun n => rfl)
    rw [if_neg g0]
    apply Ev.step (pc' := 7) (ls' := [some (.int (x1)), some (.int 0), some (.int 5)]) (st' := [.int 5, .int (x1)]) (M1 := _) 2 (fun n => rfl)
    apply Ev.step (pc' := if 5 < x1 then 14 else 10) (ls' := [some (.int (x1)), some (.int 0), some (.int 5)]) (st' := []) (M1 := _) 1 (fun n => rfl)
    rw [if_neg g1]
    apply Ev.step (pc' := 15) (ls' := [some (.int (x1)), some (.int 0), some (.int 5)]) (st' := [.int 1]) (M1 := _) 2 (fun n => rfl)
    exact Ev.ret (fun n => rfl)
  apply Ev.step (pc' := 17) (ls' := [some (.ref 0), some (.int (x1)), some (.int (x2)), some (.int (x3)), some (.int (x4)), none, none, none, none, none]) (st' := [.int 4, .int 1, .int (x2)]) (M1 := _) 4 (fun n => rfl)
  apply Ev.call0 (ls0 := [some (.int (x2)), some (.int 1), some (.int 4)]) (rest := []) (id := 141) (v1 := some (.int 0))  (fun n => rfl)
  · apply Ev.step (pc' := 2) (ls' := [some (.int (x2)), some (.int 1), some (.int 4)]) (st' := [.int 1, .int (x2)]) (M1 := _) 2 (fun n => rfl)
    apply Ev.step (pc' := if x2 < 1 then 14 else 5) (ls' := [some (.int (x2)), some (.int 1), some (.int 4)]) (st' := []) (M1 := _) 1 (fun n => rfl)
    rw [if_neg g2]
    apply Ev.step (pc' := 7) (ls' := [some (.int (x2)), some (.int 1), some (.int 4)]) (st' := [.int 4, .int (x2)]) (M1 := _) 2 (fun n => rfl)
    apply Ev.step (pc' := if 4 < x2 then 14 else 10) (ls' := [some (.int (x2)), some (.int 1), some (.int 4)]) (st' := []) (M1 := _) 1 (fun n => rfl)
    rw [if_pos g3]
    apply Ev.step (pc' := 15) (ls' := [some (.int (x2)), some (.int 1), some (.int 4)]) (st' := [.int 0]) (M1 := _) 1 (fun n => rfl)
    exact Ev.ret (fun n => rfl)
  apply Ev.step (pc' := 35) (ls' := [some (.ref 0), some (.int (x1)), some (.int (x2)), some (.int (x3)), some (.int (x4)), none, none, none, none, none]) (st' := [.int (-2)]) (M1 := _) 2 (fun n => rfl)
  exact Ev.ret (fun n => rfl)
set_option maxRecDepth 200000 in
set_option maxHeartbeats 4000000 in
theorem r103_8 (x1 x2 x3 x4 : Int32) (g0 : ¬ x1 < 0) (g1 : ¬ 5 < x1) (g2 : ¬ x2 < 1) (g3 : ¬ 4 < x2) (g4 : x3 < 1) : ∃ M1, Ev none 999 103 0 [some (.ref 0), some (.int (x1)), some (.int (x2)), some (.int (x3)), some (.int (x4)), none, none, none, none, none, none] [] memP (some (.int (-2))) M1 0 0 := by
  apply Exists.intro
  apply Ev.step (pc' := 3) (ls' := [some (.ref 0), some (.int (x1)), some (.int (x2)), some (.int (x3)), some (.int (x4)), none, none, none, none, none, none]) (st' := [.int 5, .int 0, .int (x1)]) (M1 := _) 3 (fun n => rfl)
  apply Ev.call0 (ls0 := [some (.int (x1)), some (.int 0), some (.int 5)]) (rest := []) (id := 126) (v1 := some (.int 1))  (fun n => rfl)
  · apply Ev.step (pc' := 2) (ls' := [some (.int (x1)), some (.int 0), some (.int 5)]) (st' := [.int 0, .int (x1)]) (M1 := _) 2 (fun n => rfl)
    apply Ev.step (pc' := if x1 < 0 then 14 else 5) (ls' := [some (.int (x1)), some (.int 0), some (.int 5)]) (st' := []) (M1 := _) 1 (fun n => rfl)
    rw [if_neg g0]
    apply Ev.step (pc' := 7) (ls' := [some (.int (x1)), some (.int 0), some (.int 5)]) (st' := [.int 5, .int (x1)]) (M1 := _) 2 (fun n => rfl)
    apply Ev.step (pc' := if 5 < x1 then 14 else 10) (ls' := [some (.int (x1)), some (.int 0), some (.int 5)]) (st' := []) (M1 := _) 1 (fun n => rfl)
    rw [if_neg g1]
    apply Ev.step (pc' := 15) (ls' := [some (.int (x1)), some (.int 0), some (.int 5)]) (st' := [.int 1]) (M1 := _) 2 (fun n => rfl)
    exact Ev.ret (fun n => rfl)
  apply Ev.step (pc' := 12) (ls' := [some (.ref 0), some (.int (x1)), some (.int (x2)), some (.int (x3)), some (.int (x4)), none, none, none, none, none, none]) (st' := [.int 4, .int 1, .int (x2)]) (M1 := _) 4 (fun n => rfl)
  apply Ev.call0 (ls0 := [some (.int (x2)), some (.int 1), some (.int 4)]) (rest := []) (id := 126) (v1 := some (.int 1))  (fun n => rfl)
  · apply Ev.step (pc' := 2) (ls' := [some (.int (x2)), some (.int 1), some (.int 4)]) (st' := [.int 1, .int (x2)]) (M1 := _) 2 (fun n => rfl)
    apply Ev.step (pc' := if x2 < 1 then 14 else 5) (ls' := [some (.int (x2)), some (.int 1), some (.int 4)]) (st' := []) (M1 := _) 1 (fun n => rfl)
    rw [if_neg g2]
    apply Ev.step (pc' := 7) (ls' := [some (.int (x2)), some (.int 1), some (.int 4)]) (st' := [.int 4, .int (x2)]) (M1 := _) 2 (fun n => rfl)
    apply Ev.step (pc' := if 4 < x2 then 14 else 10) (ls' := [some (.int (x2)), some (.int 1), some (.int 4)]) (st' := []) (M1 := _) 1 (fun n => rfl)
    rw [if_neg g3]
    apply Ev.step (pc' := 15) (ls' := [some (.int (x2)), some (.int 1), some (.int 4)]) (st' := [.int 1]) (M1 := _) 2 (fun n => rfl)
    exact Ev.ret (fun n => rfl)
  apply Ev.step (pc' := 22) (ls' := [some (.ref 0), some (.int (x1)), some (.int (x2)), some (.int (x3)), some (.int (x4)), none, none, none, none, none, none]) (st' := [.int 100, .int 1, .int (x3)]) (M1 := _) 4 (fun n => rfl)
  apply Ev.call0 (ls0 := [some (.int (x3)), some (.int 1), some (.int 100)]) (rest := []) (id := 126) (v1 := some (.int 0))  (fun n => rfl)
  · apply Ev.step (pc' := 2) (ls' := [some (.int (x3)), some (.int 1), some (.int 100)]) (st' := [.int 1, .int (x3)]) (M1 := _) 2 (fun n => rfl)
    apply Ev.step (pc' := if x3 < 1 then 14 else 5) (ls' := [some (.int (x3)), some (.int 1), some (.int 100)]) (st' := []) (M1 := _) 1 (fun n => rfl)
    rw [if_pos g4]
    apply Ev.step (pc' := 15) (ls' := [some (.int (x3)), some (.int 1), some (.int 100)]) (st' := [.int 0]) (M1 := _) 1 (fun n => rfl)
    exact Ev.ret (fun n => rfl)
  apply Ev.step (pc' := 30) (ls' := [some (.ref 0), some (.int (x1)), some (.int (x2)), some (.int (x3)), some (.int (x4)), none, none, none, none, none, none]) (st' := [.int (-2)]) (M1 := _) 2 (fun n => rfl)
  exact Ev.ret (fun n => rfl)
set_option maxRecDepth 200000 in
set_option maxHeartbeats 4000000 in
theorem r230_9 (x1 x2 x3 x4 : Int32) (g0 : ¬ x1 < 0) (g1 : ¬ 5 < x1) (g2 : ¬ x2 < 1) (g3 : ¬ 4 < x2) (g4 : x3 < 1) : ∃ M1, Ev none 999 230 0 [some (.ref 0), some (.int (x1)), some (.int (x2)), some (.int (x3)), some (.int (x4)), none, none, none, none, none] [] memR (some (.int (-2))) M1 0 0 := by
  apply Exists.intro
  apply Ev.step (pc' := 8) (ls' := [some (.ref 0), some (.int (x1)), some (.int (x2)), some (.int (x3)), some (.int (x4)), none, none, none, none, none]) (st' := [.int 5, .int 0, .int (x1)]) (M1 := _) 6 (fun n => rfl)
  apply Ev.call0 (ls0 := [some (.int (x1)), some (.int 0), some (.int 5)]) (rest := []) (id := 141) (v1 := some (.int 1))  (fun n => rfl)
  · apply Ev.step (pc' := 2) (ls' := [some (.int (x1)), some (.int 0), some (.int 5)]) (st' := [.int 0, .int (x1)]) (M1 := _) 2 (fun n => rfl)
    apply Ev.step (pc' := if x1 < 0 then 14 else 5) (ls' := [some (.int (x1)), some (.int 0), some (.int 5)]) (st' := []) (M1 := _) 1 (fun n => rfl)
    rw [if_neg g0]
    apply Ev.step (pc' := 7) (ls' := [some (.int (x1)), some (.int 0), some (.int 5)]) (st' := [.int 5, .int (x1)]) (M1 := _) 2 (fun n => rfl)
    apply Ev.step (pc' := if 5 < x1 then 14 else 10) (ls' := [some (.int (x1)), some (.int 0), some (.int 5)]) (st' := []) (M1 := _) 1 (fun n => rfl)
    rw [if_neg g1]
    apply Ev.step (pc' := 15) (ls' := [some (.int (x1)), some (.int 0), some (.int 5)]) (st' := [.int 1]) (M1 := _) 2 (fun n => rfl)
    exact Ev.ret (fun n => rfl)
  apply Ev.step (pc' := 17) (ls' := [some (.ref 0), some (.int (x1)), some (.int (x2)), some (.int (x3)), some (.int (x4)), none, none, none, none, none]) (st' := [.int 4, .int 1, .int (x2)]) (M1 := _) 4 (fun n => rfl)
  apply Ev.call0 (ls0 := [some (.int (x2)), some (.int 1), some (.int 4)]) (rest := []) (id := 141) (v1 := some (.int 1))  (fun n => rfl)
  · apply Ev.step (pc' := 2) (ls' := [some (.int (x2)), some (.int 1), some (.int 4)]) (st' := [.int 1, .int (x2)]) (M1 := _) 2 (fun n => rfl)
    apply Ev.step (pc' := if x2 < 1 then 14 else 5) (ls' := [some (.int (x2)), some (.int 1), some (.int 4)]) (st' := []) (M1 := _) 1 (fun n => rfl)
    rw [if_neg g2]
    apply Ev.step (pc' := 7) (ls' := [some (.int (x2)), some (.int 1), some (.int 4)]) (st' := [.int 4, .int (x2)]) (M1 := _) 2 (fun n => rfl)
    apply Ev.step (pc' := if 4 < x2 then 14 else 10) (ls' := [some (.int (x2)), some (.int 1), some (.int 4)]) (st' := []) (M1 := _) 1 (fun n => rfl)
    rw [if_neg g3]
    apply Ev.step (pc' := 15) (ls' := [some (.int (x2)), some (.int 1), some (.int 4)]) (st' := [.int 1]) (M1 := _) 2 (fun n => rfl)
    exact Ev.ret (fun n => rfl)
  apply Ev.step (pc' := 27) (ls' := [some (.ref 0), some (.int (x1)), some (.int (x2)), some (.int (x3)), some (.int (x4)), none, none, none, none, none]) (st' := [.int 100, .int 1, .int (x3)]) (M1 := _) 4 (fun n => rfl)
  apply Ev.call0 (ls0 := [some (.int (x3)), some (.int 1), some (.int 100)]) (rest := []) (id := 141) (v1 := some (.int 0))  (fun n => rfl)
  · apply Ev.step (pc' := 2) (ls' := [some (.int (x3)), some (.int 1), some (.int 100)]) (st' := [.int 1, .int (x3)]) (M1 := _) 2 (fun n => rfl)
    apply Ev.step (pc' := if x3 < 1 then 14 else 5) (ls' := [some (.int (x3)), some (.int 1), some (.int 100)]) (st' := []) (M1 := _) 1 (fun n => rfl)
    rw [if_pos g4]
    apply Ev.step (pc' := 15) (ls' := [some (.int (x3)), some (.int 1), some (.int 100)]) (st' := [.int 0]) (M1 := _) 1 (fun n => rfl)
    exact Ev.ret (fun n => rfl)
  apply Ev.step (pc' := 35) (ls' := [some (.ref 0), some (.int (x1)), some (.int (x2)), some (.int (x3)), some (.int (x4)), none, none, none, none, none]) (st' := [.int (-2)]) (M1 := _) 2 (fun n => rfl)
  exact Ev.ret (fun n => rfl)
set_option maxRecDepth 200000 in
set_option maxHeartbeats 4000000 in
theorem r103_10 (x1 x2 x3 x4 : Int32) (g0 : ¬ x1 < 0) (g1 : ¬ 5 < x1) (g2 : ¬ x2 < 1) (g3 : ¬ 4 < x2) (g4 : ¬ x3 < 1) (g5 : 100 < x3) : ∃ M1, Ev none 999 103 0 [some (.ref 0), some (.int (x1)), some (.int (x2)), some (.int (x3)), some (.int (x4)), none, none, none, none, none, none] [] memP (some (.int (-2))) M1 0 0 := by
  apply Exists.intro
  apply Ev.step (pc' := 3) (ls' := [some (.ref 0), some (.int (x1)), some (.int (x2)), some (.int (x3)), some (.int (x4)), none, none, none, none, none, none]) (st' := [.int 5, .int 0, .int (x1)]) (M1 := _) 3 (fun n => rfl)
  apply Ev.call0 (ls0 := [some (.int (x1)), some (.int 0), some (.int 5)]) (rest := []) (id := 126) (v1 := some (.int 1))  (fun n => rfl)
  · apply Ev.step (pc' := 2) (ls' := [some (.int (x1)), some (.int 0), some (.int 5)]) (st' := [.int 0, .int (x1)]) (M1 := _) 2 (fun n => rfl)
    apply Ev.step (pc' := if x1 < 0 then 14 else 5) (ls' := [some (.int (x1)), some (.int 0), some (.int 5)]) (st' := []) (M1 := _) 1 (fun n => rfl)
    rw [if_neg g0]
    apply Ev.step (pc' := 7) (ls' := [some (.int (x1)), some (.int 0), some (.int 5)]) (st' := [.int 5, .int (x1)]) (M1 := _) 2 (fun n => rfl)
    apply Ev.step (pc' := if 5 < x1 then 14 else 10) (ls' := [some (.int (x1)), some (.int 0), some (.int 5)]) (st' := []) (M1 := _) 1 (fun n => rfl)
    rw [if_neg g1]
    apply Ev.step (pc' := 15) (ls' := [some (.int (x1)), some (.int 0), some (.int 5)]) (st' := [.int 1]) (M1 := _) 2 (fun n => rfl)
    exact Ev.ret (fun n => rfl)
  apply Ev.step (pc' := 12) (ls' := [some (.ref 0), some (.int (x1)), some (.int (x2)), some (.int (x3)), some (.int (x4)), none, none, none, none, none, none]) (st' := [.int 4, .int 1, .int (x2)]) (M1 := _) 4 (fun n => rfl)
  apply Ev.call0 (ls0 := [some (.int (x2)), some (.int 1), some (.int 4)]) (rest := []) (id := 126) (v1 := some (.int 1))  (fun n => rfl)
  · apply Ev.step (pc' := 2) (ls' := [some (.int (x2)), some (.int 1), some (.int 4)]) (st' := [.int 1, .int (x2)]) (M1 := _) 2 (fun n => rfl)
    apply Ev.step (pc' := if x2 < 1 then 14 else 5) (ls' := [some (.int (x2)), some (.int 1), some (.int 4)]) (st' := []) (M1 := _) 1 (fun n => rfl)
    rw [if_neg g2]
    apply Ev.step (pc' := 7) (ls' := [some (.int (x2)), some (.int 1), some (.int 4)]) (st' := [.int 4, .int (x2)]) (M1 := _) 2 (fun n => rfl)
    apply Ev.step (pc' := if 4 < x2 then 14 else 10) (ls' := [some (.int (x2)), some (.int 1), some (.int 4)]) (st' := []) (M1 := _) 1 (fun n => rfl)
    rw [if_neg g3]
    apply Ev.step (pc' := 15) (ls' := [some (.int (x2)), some (.int 1), some (.int 4)]) (st' := [.int 1]) (M1 := _) 2 (fun n => rfl)
    exact Ev.ret (fun n => rfl)
  apply Ev.step (pc' := 22) (ls' := [some (.ref 0), some (.int (x1)), some (.int (x2)), some (.int (x3)), some (.int (x4)), none, none, none, none, none, none]) (st' := [.int 100, .int 1, .int (x3)]) (M1 := _) 4 (fun n => rfl)
  apply Ev.call0 (ls0 := [some (.int (x3)), some (.int 1), some (.int 100)]) (rest := []) (id := 126) (v1 := some (.int 0))  (fun n => rfl)
  · apply Ev.step (pc' := 2) (ls' := [some (.int (x3)), some (.int 1), some (.int 100)]) (st' := [.int 1, .int (x3)]) (M1 := _) 2 (fun n => rfl)
    apply Ev.step (pc' := if x3 < 1 then 14 else 5) (ls' := [some (.int (x3)), some (.int 1), some (.int 100)]) (st' := []) (M1 := _) 1 (fun n => rfl)
    rw [if_neg g4]
    apply Ev.step (pc' := 7) (ls' := [some (.int (x3)), some (.int 1), some (.int 100)]) (st' := [.int 100, .int (x3)]) (M1 := _) 2 (fun n => rfl)
    apply Ev.step (pc' := if 100 < x3 then 14 else 10) (ls' := [some (.int (x3)), some (.int 1), some (.int 100)]) (st' := []) (M1 := _) 1 (fun n => rfl)
    rw [if_pos g5]
    apply Ev.step (pc' := 15) (ls' := [some (.int (x3)), some (.int 1), some (.int 100)]) (st' := [.int 0]) (M1 := _) 1 (fun n => rfl)
    exact Ev.ret (fun n => rfl)
  apply Ev.step (pc' := 30) (ls' := [some (.ref 0), some (.int (x1)), some (.int (x2)), some (.int (x3)), some (.int (x4)), none, none, none, none, none, none]) (st' := [.int (-2)]) (M1 := _) 2 (fun n => rfl)
  exact Ev.ret (fun n => rfl)
set_option maxRecDepth 200000 in
set_option maxHeartbeats 4000000 in
theorem r230_11 (x1 x2 x3 x4 : Int32) (g0 : ¬ x1 < 0) (g1 : ¬ 5 < x1) (g2 : ¬ x2 < 1) (g3 : ¬ 4 < x2) (g4 : ¬ x3 < 1) (g5 : 100 < x3) : ∃ M1, Ev none 999 230 0 [some (.ref 0), some (.int (x1)), some (.int (x2)), some (.int (x3)), some (.int (x4)), none, none, none, none, none] [] memR (some (.int (-2))) M1 0 0 := by
  apply Exists.intro
  apply Ev.step (pc' := 8) (ls' := [some (.ref 0), some (.int (x1)), some (.int (x2)), some (.int (x3)), some (.int (x4)), none, none, none, none, none]) (st' := [.int 5, .int 0, .int (x1)]) (M1 := _) 6 (fun n => rfl)
  apply Ev.call0 (ls0 := [some (.int (x1)), some (.int 0), some (.int 5)]) (rest := []) (id := 141) (v1 := some (.int 1))  (fun n => rfl)
  · apply Ev.step (pc' := 2) (ls' := [some (.int (x1)), some (.int 0), some (.int 5)]) (st' := [.int 0, .int (x1)]) (M1 := _) 2 (fun n => rfl)
    apply Ev.step (pc' := if x1 < 0 then 14 else 5) (ls' := [some (.int (x1)), some (.int 0), some (.int 5)]) (st' := []) (M1 := _) 1 (fun n => rfl)
    rw [if_neg g0]
    apply Ev.step (pc' := 7) (ls' := [some (.int (x1)), some (.int 0), some (.int 5)]) (st' := [.int 5, .int (x1)]) (M1 := _) 2 (fun n => rfl)
    apply Ev.step (pc' := if 5 < x1 then 14 else 10) (ls' := [some (.int (x1)), some (.int 0), some (.int 5)]) (st' := []) (M1 := _) 1 (fun n => rfl)
    rw [if_neg g1]
    apply Ev.step (pc' := 15) (ls' := [some (.int (x1)), some (.int 0), some (.int 5)]) (st' := [.int 1]) (M1 := _) 2 (fun n => rfl)
    exact Ev.ret (fun n => rfl)
  apply Ev.step (pc' := 17) (ls' := [some (.ref 0), some (.int (x1)), some (.int (x2)), some (.int (x3)), some (.int (x4)), none, none, none, none, none]) (st' := [.int 4, .int 1, .int (x2)]) (M1 := _) 4 (fun n => rfl)
  apply Ev.call0 (ls0 := [some (.int (x2)), some (.int 1), some (.int 4)]) (rest := []) (id := 141) (v1 := some (.int 1))  (fun n => rfl)
  · apply Ev.step (pc' := 2) (ls' := [some (.int (x2)), some (.int 1), some (.int 4)]) (st' := [.int 1, .int (x2)]) (M1 := _) 2 (fun n => rfl)
    apply Ev.step (pc' := if x2 < 1 then 14 else 5) (ls' := [some (.int (x2)), some (.int 1), some (.int 4)]) (st' := []) (M1 := _) 1 (fun n => rfl)
    rw [if_neg g2]
    apply Ev.step (pc' := 7) (ls' := [some (.int (x2)), some (.int 1), some (.int 4)]) (st' := [.int 4, .int (x2)]) (M1 := _) 2 (fun n => rfl)
    apply Ev.step (pc' := if 4 < x2 then 14 else 10) (ls' := [some (.int (x2)), some (.int 1), some (.int 4)]) (st' := []) (M1 := _) 1 (fun n => rfl)
    rw [if_neg g3]
    apply Ev.step (pc' := 15) (ls' := [some (.int (x2)), some (.int 1), some (.int 4)]) (st' := [.int 1]) (M1 := _) 2 (fun n => rfl)
    exact Ev.ret (fun n => rfl)
  apply Ev.step (pc' := 27) (ls' := [some (.ref 0), some (.int (x1)), some (.int (x2)), some (.int (x3)), some (.int (x4)), none, none, none, none, none]) (st' := [.int 100, .int 1, .int (x3)]) (M1 := _) 4 (fun n => rfl)
  apply Ev.call0 (ls0 := [some (.int (x3)), some (.int 1), some (.int 100)]) (rest := []) (id := 141) (v1 := some (.int 0))  (fun n => rfl)
  · apply Ev.step (pc' := 2) (ls' := [some (.int (x3)), some (.int 1), some (.int 100)]) (st' := [.int 1, .int (x3)]) (M1 := _) 2 (fun n => rfl)
    apply Ev.step (pc' := if x3 < 1 then 14 else 5) (ls' := [some (.int (x3)), some (.int 1), some (.int 100)]) (st' := []) (M1 := _) 1 (fun n => rfl)
    rw [if_neg g4]
    apply Ev.step (pc' := 7) (ls' := [some (.int (x3)), some (.int 1), some (.int 100)]) (st' := [.int 100, .int (x3)]) (M1 := _) 2 (fun n => rfl)
    apply Ev.step (pc' := if 100 < x3 then 14 else 10) (ls' := [some (.int (x3)), some (.int 1), some (.int 100)]) (st' := []) (M1 := _) 1 (fun n => rfl)
    rw [if_pos g5]
    apply Ev.step (pc' := 15) (ls' := [some (.int (x3)), some (.int 1), some (.int 100)]) (st' := [.int 0]) (M1 := _) 1 (fun n => rfl)
    exact Ev.ret (fun n => rfl)
  apply Ev.step (pc' := 35) (ls' := [some (.ref 0), some (.int (x1)), some (.int (x2)), some (.int (x3)), some (.int (x4)), none, none, none, none, none]) (st' := [.int (-2)]) (M1 := _) 2 (fun n => rfl)
  exact Ev.ret (fun n => rfl)
set_option maxRecDepth 200000 in
set_option maxHeartbeats 4000000 in
theorem r103_12 (x2 x3 x4 : Int32) (g0 : ¬ x2 < 1) (g1 : ¬ 4 < x2) (g2 : ¬ x3 < 1) (g3 : ¬ 100 < x3) : ∃ M1, Ev none 999 103 0 [some (.ref 0), some (.int 0), some (.int (x2)), some (.int (x3)), some (.int (x4)), none, none, none, none, none, none] [] memP (some (.int (-1))) M1 0 0 := by
  apply Exists.intro
  apply Ev.step (pc' := 3) (ls' := [some (.ref 0), some (.int 0), some (.int (x2)), some (.int (x3)), some (.int (x4)), none, none, none, none, none, none]) (st' := [.int 5, .int 0, .int 0]) (M1 := _) 3 (fun n => rfl)
  apply Ev.call0 (ls0 := [some (.int 0), some (.int 0), some (.int 5)]) (rest := []) (id := 126) (v1 := some (.int 1)) (M1 := _) (fun n => rfl) ⟨9, rfl⟩
  apply Ev.step (pc' := 12) (ls' := [some (.ref 0), some (.int 0), some (.int (x2)), some (.int (x3)), some (.int (x4)), none, none, none, none, none, none]) (st' := [.int 4, .int 1, .int (x2)]) (M1 := _) 4 (fun n => rfl)
  apply Ev.call0 (ls0 := [some (.int (x2)), some (.int 1), some (.int 4)]) (rest := []) (id := 126) (v1 := some (.int 1))  (fun n => rfl)
  · apply Ev.step (pc' := 2) (ls' := [some (.int (x2)), some (.int 1), some (.int 4)]) (st' := [.int 1, .int (x2)]) (M1 := _) 2 (fun n => rfl)
    apply Ev.step (pc' := if x2 < 1 then 14 else 5) (ls' := [some (.int (x2)), some (.int 1), some (.int 4)]) (st' := []) (M1 := _) 1 (fun n => rfl)
    rw [if_neg g0]
    apply Ev.step (pc' := 7) (ls' := [some (.int (x2)), some (.int 1), some (.int 4)]) (st' := [.int 4, .int (x2)]) (M1 := _) 2 (fun n => rfl)
    apply Ev.step (pc' := if 4 < x2 then 14 else 10) (ls' := [some (.int (x2)), some (.int 1), some (.int 4)]) (st' := []) (M1 := _) 1 (fun n => rfl)
    rw [if_neg g1]
    apply Ev.step (pc' := 15) (ls' := [some (.int (x2)), some (.int 1), some (.int 4)]) (st' := [.int 1]) (M1 := _) 2 (fun n => rfl)
    exact Ev.ret (fun n => rfl)
  apply Ev.step (pc' := 22) (ls' := [some (.ref 0), some (.int 0), some (.int (x2)), some (.int (x3)), some (.int (x4)), none, none, none, none, none, none]) (st' := [.int 100, .int 1, .int (x3)]) (M1 := _) 4 (fun n => rfl)
  apply Ev.call0 (ls0 := [some (.int (x3)), some (.int 1), some (.int 100)]) (rest := []) (id := 126) (v1 := some (.int 1))  (fun n => rfl)
  · apply Ev.step (pc' := 2) (ls' := [some (.int (x3)), some (.int 1), some (.int 100)]) (st' := [.int 1, .int (x3)]) (M1 := _) 2 (fun n => rfl)
    apply Ev.step (pc' := if x3 < 1 then 14 else 5) (ls' := [some (.int (x3)), some (.int 1), some (.int 100)]) (st' := []) (M1 := _) 1 (fun n => rfl)
    rw [if_neg g2]
    apply Ev.step (pc' := 7) (ls' := [some (.int (x3)), some (.int 1), some (.int 100)]) (st' := [.int 100, .int (x3)]) (M1 := _) 2 (fun n => rfl)
    apply Ev.step (pc' := if 100 < x3 then 14 else 10) (ls' := [some (.int (x3)), some (.int 1), some (.int 100)]) (st' := []) (M1 := _) 1 (fun n => rfl)
    rw [if_neg g3]
    apply Ev.step (pc' := 15) (ls' := [some (.int (x3)), some (.int 1), some (.int 100)]) (st' := [.int 1]) (M1 := _) 2 (fun n => rfl)
    exact Ev.ret (fun n => rfl)
  apply Ev.step (pc' := 44) (ls' := [some (.ref 0), some (.int 0), some (.int (x2)), some (.int (x3)), some (.int (x4)), some (.ref 138), none, none, none, none, none]) (st' := [.ref 138]) (M1 := _) 8 (fun n => rfl)
  apply Ev.call0 (ls0 := [some (.ref 138), none]) (rest := []) (id := 52) (v1 := some (.int (-1))) (M1 := _) (fun n => rfl) ⟨8, rfl⟩
  apply Ev.step (pc' := 56) (ls' := [some (.ref 0), some (.int 0), some (.int (x2)), some (.int (x3)), some (.int (x4)), some (.ref 138), some (.int (-1)), none, none, none, none]) (st' := [.int (-1)]) (M1 := _) 5 (fun n => rfl)
  exact Ev.ret (fun n => rfl)
set_option maxRecDepth 200000 in
set_option maxHeartbeats 4000000 in
theorem r230_13 (x2 x3 x4 : Int32) (g0 : ¬ x2 < 1) (g1 : ¬ 4 < x2) (g2 : ¬ x3 < 1) (g3 : ¬ 100 < x3) : ∃ M1, Ev none 999 230 0 [some (.ref 0), some (.int 0), some (.int (x2)), some (.int (x3)), some (.int (x4)), none, none, none, none, none] [] memR (some (.int (-1))) M1 0 0 := by
  apply Exists.intro
  apply Ev.step (pc' := 8) (ls' := [some (.ref 0), some (.int 0), some (.int (x2)), some (.int (x3)), some (.int (x4)), none, none, none, none, none]) (st' := [.int 5, .int 0, .int 0]) (M1 := _) 6 (fun n => rfl)
  apply Ev.call0 (ls0 := [some (.int 0), some (.int 0), some (.int 5)]) (rest := []) (id := 141) (v1 := some (.int 1)) (M1 := _) (fun n => rfl) ⟨9, rfl⟩
  apply Ev.step (pc' := 17) (ls' := [some (.ref 0), some (.int 0), some (.int (x2)), some (.int (x3)), some (.int (x4)), none, none, none, none, none]) (st' := [.int 4, .int 1, .int (x2)]) (M1 := _) 4 (fun n => rfl)
  apply Ev.call0 (ls0 := [some (.int (x2)), some (.int 1), some (.int 4)]) (rest := []) (id := 141) (v1 := some (.int 1))  (fun n => rfl)
  · apply Ev.step (pc' := 2) (ls' := [some (.int (x2)), some (.int 1), some (.int 4)]) (st' := [.int 1, .int (x2)]) (M1 := _) 2 (fun n => rfl)
    apply Ev.step (pc' := if x2 < 1 then 14 else 5) (ls' := [some (.int (x2)), some (.int 1), some (.int 4)]) (st' := []) (M1 := _) 1 (fun n => rfl)
    rw [if_neg g0]
    apply Ev.step (pc' := 7) (ls' := [some (.int (x2)), some (.int 1), some (.int 4)]) (st' := [.int 4, .int (x2)]) (M1 := _) 2 (fun n => rfl)
    apply Ev.step (pc' := if 4 < x2 then 14 else 10) (ls' := [some (.int (x2)), some (.int 1), some (.int 4)]) (st' := []) (M1 := _) 1 (fun n => rfl)
    rw [if_neg g1]
    apply Ev.step (pc' := 15) (ls' := [some (.int (x2)), some (.int 1), some (.int 4)]) (st' := [.int 1]) (M1 := _) 2 (fun n => rfl)
    exact Ev.ret (fun n => rfl)
  apply Ev.step (pc' := 27) (ls' := [some (.ref 0), some (.int 0), some (.int (x2)), some (.int (x3)), some (.int (x4)), none, none, none, none, none]) (st' := [.int 100, .int 1, .int (x3)]) (M1 := _) 4 (fun n => rfl)
  apply Ev.call0 (ls0 := [some (.int (x3)), some (.int 1), some (.int 100)]) (rest := []) (id := 141) (v1 := some (.int 1))  (fun n => rfl)
  · apply Ev.step (pc' := 2) (ls' := [some (.int (x3)), some (.int 1), some (.int 100)]) (st' := [.int 1, .int (x3)]) (M1 := _) 2 (fun n => rfl)
    apply Ev.step (pc' := if x3 < 1 then 14 else 5) (ls' := [some (.int (x3)), some (.int 1), some (.int 100)]) (st' := []) (M1 := _) 1 (fun n => rfl)
    rw [if_neg g2]
    apply Ev.step (pc' := 7) (ls' := [some (.int (x3)), some (.int 1), some (.int 100)]) (st' := [.int 100, .int (x3)]) (M1 := _) 2 (fun n => rfl)
    apply Ev.step (pc' := if 100 < x3 then 14 else 10) (ls' := [some (.int (x3)), some (.int 1), some (.int 100)]) (st' := []) (M1 := _) 1 (fun n => rfl)
    rw [if_neg g3]
    apply Ev.step (pc' := 15) (ls' := [some (.int (x3)), some (.int 1), some (.int 100)]) (st' := [.int 1]) (M1 := _) 2 (fun n => rfl)
    exact Ev.ret (fun n => rfl)
  apply Ev.step (pc' := 111) (ls' := [some (.ref 0), some (.int 0), some (.int (x2)), some (.int (x3)), some (.int (x4)), some (.int (-1)), some (.int 16), none, none, none]) (st' := [.int (-1)]) (M1 := _) 26 (fun n => rfl)
  exact Ev.ret (fun n => rfl)
set_option maxRecDepth 200000 in
set_option maxHeartbeats 4000000 in
theorem r103_14 (x2 x3 x4 : Int32) (g0 : ¬ x2 < 1) (g1 : ¬ 4 < x2) (g2 : ¬ x3 < 1) (g3 : ¬ 100 < x3) : ∃ M1, Ev none 999 103 0 [some (.ref 0), some (.int 1), some (.int (x2)), some (.int (x3)), some (.int (x4)), none, none, none, none, none, none] [] memP (some (.int (-1))) M1 0 0 := by
  apply Exists.intro
  apply Ev.step (pc' := 3) (ls' := [some (.ref 0), some (.int 1), some (.int (x2)), some (.int (x3)), some (.int (x4)), none, none, none, none, none, none]) (st' := [.int 5, .int 0, .int 1]) (M1 := _) 3 (fun n => rfl)
  apply Ev.call0 (ls0 := [some (.int 1), some (.int 0), some (.int 5)]) (rest := []) (id := 126) (v1 := some (.int 1)) (M1 := _) (fun n => rfl) ⟨9, rfl⟩
  apply Ev.step (pc' := 12) (ls' := [some (.ref 0), some (.int 1), some (.int (x2)), some (.int (x3)), some (.int (x4)), none, none, none, none, none, none]) (st' := [.int 4, .int 1, .int (x2)]) (M1 := _) 4 (fun n => rfl)
  apply Ev.call0 (ls0 := [some (.int (x2)), some (.int 1), some (.int 4)]) (rest := []) (id := 126) (v1 := some (.int 1))  (fun n => rfl)
  · apply Ev.step (pc' := 2) (ls' := [some (.int (x2)), some (.int 1), some (.int 4)]) (st' := [.int 1, .int (x2)]) (M1 := _) 2 (fun n => rfl)
    apply Ev.step (pc' := if x2 < 1 then 14 else 5) (ls' := [some (.int (x2)), some (.int 1), some (.int 4)]) (st' := []) (M1 := _) 1 (fun n => rfl)
    rw [if_neg g0]
    apply Ev.step (pc' := 7) (ls' := [some (.int (x2)), some (.int 1), some (.int 4)]) (st' := [.int 4, .int (x2)]) (M1 := _) 2 (fun n => rfl)
    apply Ev.step (pc' := if 4 < x2 then 14 else 10) (ls' := [some (.int (x2)), some (.int 1), some (.int 4)]) (st' := []) (M1 := _) 1 (fun n => rfl)
    rw [if_neg g1]
    apply Ev.step (pc' := 15) (ls' := [some (.int (x2)), some (.int 1), some (.int 4)]) (st' := [.int 1]) (M1 := _) 2 (fun n => rfl)
    exact Ev.ret (fun n => rfl)
  apply Ev.step (pc' := 22) (ls' := [some (.ref 0), some (.int 1), some (.int (x2)), some (.int (x3)), some (.int (x4)), none, none, none, none, none, none]) (st' := [.int 100, .int 1, .int (x3)]) (M1 := _) 4 (fun n => rfl)
  apply Ev.call0 (ls0 := [some (.int (x3)), some (.int 1), some (.int 100)]) (rest := []) (id := 126) (v1 := some (.int 1))  (fun n => rfl)
  · apply Ev.step (pc' := 2) (ls' := [some (.int (x3)), some (.int 1), some (.int 100)]) (st' := [.int 1, .int (x3)]) (M1 := _) 2 (fun n => rfl)
    apply Ev.step (pc' := if x3 < 1 then 14 else 5) (ls' := [some (.int (x3)), some (.int 1), some (.int 100)]) (st' := []) (M1 := _) 1 (fun n => rfl)
    rw [if_neg g2]
    apply Ev.step (pc' := 7) (ls' := [some (.int (x3)), some (.int 1), some (.int 100)]) (st' := [.int 100, .int (x3)]) (M1 := _) 2 (fun n => rfl)
    apply Ev.step (pc' := if 100 < x3 then 14 else 10) (ls' := [some (.int (x3)), some (.int 1), some (.int 100)]) (st' := []) (M1 := _) 1 (fun n => rfl)
    rw [if_neg g3]
    apply Ev.step (pc' := 15) (ls' := [some (.int (x3)), some (.int 1), some (.int 100)]) (st' := [.int 1]) (M1 := _) 2 (fun n => rfl)
    exact Ev.ret (fun n => rfl)
  apply Ev.step (pc' := 44) (ls' := [some (.ref 0), some (.int 1), some (.int (x2)), some (.int (x3)), some (.int (x4)), some (.ref 147), none, none, none, none, none]) (st' := [.ref 147]) (M1 := _) 8 (fun n => rfl)
  apply Ev.call0 (ls0 := [some (.ref 147), none]) (rest := []) (id := 52) (v1 := some (.int (-1))) (M1 := _) (fun n => rfl) ⟨8, rfl⟩
  apply Ev.step (pc' := 56) (ls' := [some (.ref 0), some (.int 1), some (.int (x2)), some (.int (x3)), some (.int (x4)), some (.ref 147), some (.int (-1)), none, none, none, none]) (st' := [.int (-1)]) (M1 := _) 5 (fun n => rfl)
  exact Ev.ret (fun n => rfl)
set_option maxRecDepth 200000 in
set_option maxHeartbeats 4000000 in
theorem r230_15 (x2 x3 x4 : Int32) (g0 : ¬ x2 < 1) (g1 : ¬ 4 < x2) (g2 : ¬ x3 < 1) (g3 : ¬ 100 < x3) : ∃ M1, Ev none 999 230 0 [some (.ref 0), some (.int 1), some (.int (x2)), some (.int (x3)), some (.int (x4)), none, none, none, none, none] [] memR (some (.int (-1))) M1 0 0 := by
  apply Exists.intro
  apply Ev.step (pc' := 8) (ls' := [some (.ref 0), some (.int 1), some (.int (x2)), some (.int (x3)), some (.int (x4)), none, none, none, none, none]) (st' := [.int 5, .int 0, .int 1]) (M1 := _) 6 (fun n => rfl)
  apply Ev.call0 (ls0 := [some (.int 1), some (.int 0), some (.int 5)]) (rest := []) (id := 141) (v1 := some (.int 1)) (M1 := _) (fun n => rfl) ⟨9, rfl⟩
  apply Ev.step (pc' := 17) (ls' := [some (.ref 0), some (.int 1), some (.int (x2)), some (.int (x3)), some (.int (x4)), none, none, none, none, none]) (st' := [.int 4, .int 1, .int (x2)]) (M1 := _) 4 (fun n => rfl)
  apply Ev.call0 (ls0 := [some (.int (x2)), some (.int 1), some (.int 4)]) (rest := []) (id := 141) (v1 := some (.int 1))  (fun n => rfl)
  · apply Ev.step (pc' := 2) (ls' := [some (.int (x2)), some (.int 1), some (.int 4)]) (st' := [.int 1, .int (x2)]) (M1 := _) 2 (fun n => rfl)
    apply Ev.step (pc' := if x2 < 1 then 14 else 5) (ls' := [some (.int (x2)), some (.int 1), some (.int 4)]) (st' := []) (M1 := _) 1 (fun n => rfl)
    rw [if_neg g0]
    apply Ev.step (pc' := 7) (ls' := [some (.int (x2)), some (.int 1), some (.int 4)]) (st' := [.int 4, .int (x2)]) (M1 := _) 2 (fun n => rfl)
    apply Ev.step (pc' := if 4 < x2 then 14 else 10) (ls' := [some (.int (x2)), some (.int 1), some (.int 4)]) (st' := []) (M1 := _) 1 (fun n => rfl)
    rw [if_neg g1]
    apply Ev.step (pc' := 15) (ls' := [some (.int (x2)), some (.int 1), some (.int 4)]) (st' := [.int 1]) (M1 := _) 2 (fun n => rfl)
    exact Ev.ret (fun n => rfl)
  apply Ev.step (pc' := 27) (ls' := [some (.ref 0), some (.int 1), some (.int (x2)), some (.int (x3)), some (.int (x4)), none, none, none, none, none]) (st' := [.int 100, .int 1, .int (x3)]) (M1 := _) 4 (fun n => rfl)
  apply Ev.call0 (ls0 := [some (.int (x3)), some (.int 1), some (.int 100)]) (rest := []) (id := 141) (v1 := some (.int 1))  (fun n => rfl)
  · apply Ev.step (pc' := 2) (ls' := [some (.int (x3)), some (.int 1), some (.int 100)]) (st' := [.int 1, .int (x3)]) (M1 := _) 2 (fun n => rfl)
    apply Ev.step (pc' := if x3 < 1 then 14 else 5) (ls' := [some (.int (x3)), some (.int 1), some (.int 100)]) (st' := []) (M1 := _) 1 (fun n => rfl)
    rw [if_neg g2]
    apply Ev.step (pc' := 7) (ls' := [some (.int (x3)), some (.int 1), some (.int 100)]) (st' := [.int 100, .int (x3)]) (M1 := _) 2 (fun n => rfl)
    apply Ev.step (pc' := if 100 < x3 then 14 else 10) (ls' := [some (.int (x3)), some (.int 1), some (.int 100)]) (st' := []) (M1 := _) 1 (fun n => rfl)
    rw [if_neg g3]
    apply Ev.step (pc' := 15) (ls' := [some (.int (x3)), some (.int 1), some (.int 100)]) (st' := [.int 1]) (M1 := _) 2 (fun n => rfl)
    exact Ev.ret (fun n => rfl)
  apply Ev.step (pc' := 111) (ls' := [some (.ref 0), some (.int 1), some (.int (x2)), some (.int (x3)), some (.int (x4)), some (.int (-1)), some (.int 32), none, none, none]) (st' := [.int (-1)]) (M1 := _) 26 (fun n => rfl)
  exact Ev.ret (fun n => rfl)
set_option maxRecDepth 200000 in
set_option maxHeartbeats 4000000 in
theorem r103_16 (x2 x3 x4 : Int32) (g0 : ¬ x2 < 1) (g1 : ¬ 4 < x2) (g2 : ¬ x3 < 1) (g3 : ¬ 100 < x3) : ∃ M1, Ev none 999 103 0 [some (.ref 0), some (.int 2), some (.int (x2)), some (.int (x3)), some (.int (x4)), none, none, none, none, none, none] [] memP (some (.int (-1))) M1 0 0 := by
  apply Exists.intro
  apply Ev.step (pc' := 3) (ls' := [some (.ref 0), some (.int 2), some (.int (x2)), some (.int (x3)), some (.int (x4)), none, none, none, none, none, none]) (st' := [.int 5, .int 0, .int 2]) (M1 := _) 3 (fun n => rfl)
  apply Ev.call0 (ls0 := [some (.int 2), some (.int 0), some (.int 5)]) (rest := []) (id := 126) (v1 := some (.int 1)) (M1 := _) (fun n => rfl) ⟨9, rfl⟩
  apply Ev.step (pc' := 12) (ls' := [some (.ref 0), some (.int 2), some (.int (x2)), some (.int (x3)), some (.int (x4)), none, none, none, none, none, none]) (st' := [.int 4, .int 1, .int (x2)]) (M1 := _) 4 (fun n => rfl)
  apply Ev.call0 (ls0 := [some (.int (x2)), some (.int 1), some (.int 4)]) (rest := []) (id := 126) (v1 := some (.int 1))  (fun n => rfl)
  · apply Ev.step (pc' := 2) (ls' := [some (.int (x2)), some (.int 1), some (.int 4)]) (st' := [.int 1, .int (x2)]) (M1 := _) 2 (fun n => rfl)
    apply Ev.step (pc' := if x2 < 1 then 14 else 5) (ls' := [some (.int (x2)), some (.int 1), some (.int 4)]) (st' := []) (M1 := _) 1 (fun n => rfl)
    rw [if_neg g0]
    apply Ev.step (pc' := 7) (ls' := [some (.int (x2)), some (.int 1), some (.int 4)]) (st' := [.int 4, .int (x2)]) (M1 := _) 2 (fun n => rfl)
    apply Ev.step (pc' := if 4 < x2 then 14 else 10) (ls' := [some (.int (x2)), some (.int 1), some (.int 4)]) (st' := []) (M1 := _) 1 (fun n => rfl)
    rw [if_neg g1]
    apply Ev.step (pc' := 15) (ls' := [some (.int (x2)), some (.int 1), some (.int 4)]) (st' := [.int 1]) (M1 := _) 2 (fun n => rfl)
    exact Ev.ret (fun n => rfl)
  apply Ev.step (pc' := 22) (ls' := [some (.ref 0), some (.int 2), some (.int (x2)), some (.int (x3)), some (.int (x4)), none, none, none, none, none, none]) (st' := [.int 100, .int 1, .int (x3)]) (M1 := _) 4 (fun n => rfl)
  apply Ev.call0 (ls0 := [some (.int (x3)), some (.int 1), some (.int 100)]) (rest := []) (id := 126) (v1 := some (.int 1))  (fun n => rfl)
  · apply Ev.step (pc' := 2) (ls' := [some (.int (x3)), some (.int 1), some (.int 100)]) (st' := [.int 1, .int (x3)]) (M1 := _) 2 (fun n => rfl)
    apply Ev.step (pc' := if x3 < 1 then 14 else 5) (ls' := [some (.int (x3)), some (.int 1), some (.int 100)]) (st' := []) (M1 := _) 1 (fun n => rfl)
    rw [if_neg g2]
    apply Ev.step (pc' := 7) (ls' := [some (.int (x3)), some (.int 1), some (.int 100)]) (st' := [.int 100, .int (x3)]) (M1 := _) 2 (fun n => rfl)
    apply Ev.step (pc' := if 100 < x3 then 14 else 10) (ls' := [some (.int (x3)), some (.int 1), some (.int 100)]) (st' := []) (M1 := _) 1 (fun n => rfl)
    rw [if_neg g3]
    apply Ev.step (pc' := 15) (ls' := [some (.int (x3)), some (.int 1), some (.int 100)]) (st' := [.int 1]) (M1 := _) 2 (fun n => rfl)
    exact Ev.ret (fun n => rfl)
  apply Ev.step (pc' := 44) (ls' := [some (.ref 0), some (.int 2), some (.int (x2)), some (.int (x3)), some (.int (x4)), some (.ref 156), none, none, none, none, none]) (st' := [.ref 156]) (M1 := _) 8 (fun n => rfl)
  apply Ev.call0 (ls0 := [some (.ref 156), none]) (rest := []) (id := 52) (v1 := some (.int (-1))) (M1 := _) (fun n => rfl) ⟨8, rfl⟩
  apply Ev.step (pc' := 56) (ls' := [some (.ref 0), some (.int 2), some (.int (x2)), some (.int (x3)), some (.int (x4)), some (.ref 156), some (.int (-1)), none, none, none, none]) (st' := [.int (-1)]) (M1 := _) 5 (fun n => rfl)
  exact Ev.ret (fun n => rfl)
set_option maxRecDepth 200000 in
set_option maxHeartbeats 4000000 in
theorem r230_17 (x2 x3 x4 : Int32) (g0 : ¬ x2 < 1) (g1 : ¬ 4 < x2) (g2 : ¬ x3 < 1) (g3 : ¬ 100 < x3) : ∃ M1, Ev none 999 230 0 [some (.ref 0), some (.int 2), some (.int (x2)), some (.int (x3)), some (.int (x4)), none, none, none, none, none] [] memR (some (.int (-1))) M1 0 0 := by
  apply Exists.intro
  apply Ev.step (pc' := 8) (ls' := [some (.ref 0), some (.int 2), some (.int (x2)), some (.int (x3)), some (.int (x4)), none, none, none, none, none]) (st' := [.int 5, .int 0, .int 2]) (M1 := _) 6 (fun n => rfl)
  apply Ev.call0 (ls0 := [some (.int 2), some (.int 0), some (.int 5)]) (rest := []) (id := 141) (v1 := some (.int 1)) (M1 := _) (fun n => rfl) ⟨9, rfl⟩
  apply Ev.step (pc' := 17) (ls' := [some (.ref 0), some (.int 2), some (.int (x2)), some (.int (x3)), some (.int (x4)), none, none, none, none, none]) (st' := [.int 4, .int 1, .int (x2)]) (M1 := _) 4 (fun n => rfl)
  apply Ev.call0 (ls0 := [some (.int (x2)), some (.int 1), some (.int 4)]) (rest := []) (id := 141) (v1 := some (.int 1))  (fun n => rfl)
  · apply Ev.step (pc' := 2) (ls' := [some (.int (x2)), some (.int 1), some (.int 4)]) (st' := [.int 1, .int (x2)]) (M1 := _) 2 (fun n => rfl)
    apply Ev.step (pc' := if x2 < 1 then 14 else 5) (ls' := [some (.int (x2)), some (.int 1), some (.int 4)]) (st' := []) (M1 := _) 1 (fun n => rfl)
    rw [if_neg g0]
    apply Ev.step (pc' := 7) (ls' := [some (.int (x2)), some (.int 1), some (.int 4)]) (st' := [.int 4, .int (x2)]) (M1 := _) 2 (fun n => rfl)
    apply Ev.step (pc' := if 4 < x2 then 14 else 10) (ls' := [some (.int (x2)), some (.int 1), some (.int 4)]) (st' := []) (M1 := _) 1 (fun n => rfl)
    rw [if_neg g1]
    apply Ev.step (pc' := 15) (ls' := [some (.int (x2)), some (.int 1), some (.int 4)]) (st' := [.int 1]) (M1 := _) 2 (fun n => rfl)
    exact Ev.ret (fun n => rfl)
  apply Ev.step (pc' := 27) (ls' := [some (.ref 0), some (.int 2), some (.int (x2)), some (.int (x3)), some (.int (x4)), none, none, none, none, none]) (st' := [.int 100, .int 1, .int (x3)]) (M1 := _) 4 (fun n => rfl)
  apply Ev.call0 (ls0 := [some (.int (x3)), some (.int 1), some (.int 100)]) (rest := []) (id := 141) (v1 := some (.int 1))  (fun n => rfl)
  · apply Ev.step (pc' := 2) (ls' := [some (.int (x3)), some (.int 1), some (.int 100)]) (st' := [.int 1, .int (x3)]) (M1 := _) 2 (fun n => rfl)
    apply Ev.step (pc' := if x3 < 1 then 14 else 5) (ls' := [some (.int (x3)), some (.int 1), some (.int 100)]) (st' := []) (M1 := _) 1 (fun n => rfl)
    rw [if_neg g2]
    apply Ev.step (pc' := 7) (ls' := [some (.int (x3)), some (.int 1), some (.int 100)]) (st' := [.int 100, .int (x3)]) (M1 := _) 2 (fun n => rfl)
    apply Ev.step (pc' := if 100 < x3 then 14 else 10) (ls' := [some (.int (x3)), some (.int 1), some (.int 100)]) (st' := []) (M1 := _) 1 (fun n => rfl)
    rw [if_neg g3]
    apply Ev.step (pc' := 15) (ls' := [some (.int (x3)), some (.int 1), some (.int 100)]) (st' := [.int 1]) (M1 := _) 2 (fun n => rfl)
    exact Ev.ret (fun n => rfl)
  apply Ev.step (pc' := 111) (ls' := [some (.ref 0), some (.int 2), some (.int (x2)), some (.int (x3)), some (.int (x4)), some (.int (-1)), some (.int 48), none, none, none]) (st' := [.int (-1)]) (M1 := _) 26 (fun n => rfl)
  exact Ev.ret (fun n => rfl)
set_option maxRecDepth 200000 in
set_option maxHeartbeats 4000000 in
theorem r103_18 (x2 x3 x4 : Int32) (g0 : ¬ x2 < 1) (g1 : ¬ 4 < x2) (g2 : ¬ x3 < 1) (g3 : ¬ 100 < x3) : ∃ M1, Ev none 999 103 0 [some (.ref 0), some (.int 3), some (.int (x2)), some (.int (x3)), some (.int (x4)), none, none, none, none, none, none] [] memP (some (.int (-1))) M1 0 0 := by
  apply Exists.intro
  apply Ev.step (pc' := 3) (ls' := [some (.ref 0), some (.int 3), some (.int (x2)), some (.int (x3)), some (.int (x4)), none, none, none, none, none, none]) (st' := [.int 5, .int 0, .int 3]) (M1 := _) 3 (fun n => rfl)
  apply Ev.call0 (ls0 := [some (.int 3), some (.int 0), some (.int 5)]) (rest := []) (id := 126) (v1 := some (.int 1)) (M1 := _) (fun n => rfl) ⟨9, rfl⟩
  apply Ev.step (pc' := 12) (ls' := [some (.ref 0), some (.int 3), some (.int (x2)), some (.int (x3)), some (.int (x4)), none, none, none, none, none, none]) (st' := [.int 4, .int 1, .int (x2)]) (M1 := _) 4 (fun n => rfl)
  apply Ev.call0 (ls0 := [some (.int (x2)), some (.int 1), some (.int 4)]) (rest := []) (id := 126) (v1 := some (.int 1))  (fun n => rfl)
  · apply Ev.step (pc' := 2) (ls' := [some (.int (x2)), some (.int 1), some (.int 4)]) (st' := [.int 1, .int (x2)]) (M1 := _) 2 (fun n => rfl)
    apply Ev.step (pc' := if x2 < 1 then 14 else 5) (ls' := [some (.int (x2)), some (.int 1), some (.int 4)]) (st' := []) (M1 := _) 1 (fun n => rfl)
    rw [if_neg g0]
    apply Ev.step (pc' := 7) (ls' := [some (.int (x2)), some (.int 1), some (.int 4)]) (st' := [.int 4, .int (x2)]) (M1 := _) 2 (fun n => rfl)
    apply Ev.step (pc' := if 4 < x2 then 14 else 10) (ls' := [some (.int (x2)), some (.int 1), some (.int 4)]) (st' := []) (M1 := _) 1 (fun n => rfl)
    rw [if_neg g1]
    apply Ev.step (pc' := 15) (ls' := [some (.int (x2)), some (.int 1), some (.int 4)]) (st' := [.int 1]) (M1 := _) 2 (fun n => rfl)
    exact Ev.ret (fun n => rfl)
  apply Ev.step (pc' := 22) (ls' := [some (.ref 0), some (.int 3), some (.int (x2)), some (.int (x3)), some (.int (x4)), none, none, none, none, none, none]) (st' := [.int 100, .int 1, .int (x3)]) (M1 := _) 4 (fun n => rfl)
  apply Ev.call0 (ls0 := [some (.int (x3)), some (.int 1), some (.int 100)]) (rest := []) (id := 126) (v1 := some (.int 1))  (fun n => rfl)
  · apply Ev.step (pc' := 2) (ls' := [some (.int (x3)), some (.int 1), some (.int 100)]) (st' := [.int 1, .int (x3)]) (M1 := _) 2 (fun n => rfl)
    apply Ev.step (pc' := if x3 < 1 then 14 else 5) (ls' := [some (.int (x3)), some (.int 1), some (.int 100)]) (st' := []) (M1 := _) 1 (fun n => rfl)
    rw [if_neg g2]
    apply Ev.step (pc' := 7) (ls' := [some (.int (x3)), some (.int 1), some (.int 100)]) (st' := [.int 100, .int (x3)]) (M1 := _) 2 (fun n => rfl)
    apply Ev.step (pc' := if 100 < x3 then 14 else 10) (ls' := [some (.int (x3)), some (.int 1), some (.int 100)]) (st' := []) (M1 := _) 1 (fun n => rfl)
    rw [if_neg g3]
    apply Ev.step (pc' := 15) (ls' := [some (.int (x3)), some (.int 1), some (.int 100)]) (st' := [.int 1]) (M1 := _) 2 (fun n => rfl)
    exact Ev.ret (fun n => rfl)
  apply Ev.step (pc' := 44) (ls' := [some (.ref 0), some (.int 3), some (.int (x2)), some (.int (x3)), some (.int (x4)), some (.ref 165), none, none, none, none, none]) (st' := [.ref 165]) (M1 := _) 8 (fun n => rfl)
  apply Ev.call0 (ls0 := [some (.ref 165), none]) (rest := []) (id := 52) (v1 := some (.int (-1))) (M1 := _) (fun n => rfl) ⟨8, rfl⟩
  apply Ev.step (pc' := 56) (ls' := [some (.ref 0), some (.int 3), some (.int (x2)), some (.int (x3)), some (.int (x4)), some (.ref 165), some (.int (-1)), none, none, none, none]) (st' := [.int (-1)]) (M1 := _) 5 (fun n => rfl)
  exact Ev.ret (fun n => rfl)
set_option maxRecDepth 200000 in
set_option maxHeartbeats 4000000 in
theorem r230_19 (x2 x3 x4 : Int32) (g0 : ¬ x2 < 1) (g1 : ¬ 4 < x2) (g2 : ¬ x3 < 1) (g3 : ¬ 100 < x3) : ∃ M1, Ev none 999 230 0 [some (.ref 0), some (.int 3), some (.int (x2)), some (.int (x3)), some (.int (x4)), none, none, none, none, none] [] memR (some (.int (-1))) M1 0 0 := by
  apply Exists.intro
  apply Ev.step (pc' := 8) (ls' := [some (.ref 0), some (.int 3), some (.int (x2)), some (.int (x3)), some (.int (x4)), none, none, none, none, none]) (st' := [.int 5, .int 0, .int 3]) (M1 := _) 6 (fun n => rfl)
  apply Ev.call0 (ls0 := [some (.int 3), some (.int 0), some (.int 5)]) (rest := []) (id := 141) (v1 := some (.int 1)) (M1 := _) (fun n => rfl) ⟨9, rfl⟩
  apply Ev.step (pc' := 17) (ls' := [some (.ref 0), some (.int 3), some (.int (x2)), some (.int (x3)), some (.int (x4)), none, none, none, none, none]) (st' := [.int 4, .int 1, .int (x2)]) (M1 := _) 4 (fun n => rfl)
  apply Ev.call0 (ls0 := [some (.int (x2)), some (.int 1), some (.int 4)]) (rest := []) (id := 141) (v1 := some (.int 1))  (fun n => rfl)
  · apply Ev.step (pc' := 2) (ls' := [some (.int (x2)), some (.int 1), some (.int 4)]) (st' := [.int 1, .int (x2)]) (M1 := _) 2 (fun n => rfl)
    apply Ev.step (pc' := if x2 < 1 then 14 else 5) (ls' := [some (.int (x2)), some (.int 1), some (.int 4)]) (st' := []) (M1 := _) 1 (fun n => rfl)
    rw [if_neg g0]
    apply Ev.step (pc' := 7) (ls' := [some (.int (x2)), some (.int 1), some (.int 4)]) (st' := [.int 4, .int (x2)]) (M1 := _) 2 (fun n => rfl)
    apply Ev.step (pc' := if 4 < x2 then 14 else 10) (ls' := [some (.int (x2)), some (.int 1), some (.int 4)]) (st' := []) (M1 := _) 1 (fun n => rfl)
    rw [if_neg g1]
    apply Ev.step (pc' := 15) (ls' := [some (.int (x2)), some (.int 1), some (.int 4)]) (st' := [.int 1]) (M1 := _) 2 (fun n => rfl)
    exact Ev.ret (fun n => rfl)
  apply Ev.step (pc' := 27) (ls' := [some (.ref 0), some (.int 3), some (.int (x2)), some (.int (x3)), some (.int (x4)), none, none, none, none, none]) (st' := [.int 100, .int 1, .int (x3)]) (M1 := _) 4 (fun n => rfl)
  apply Ev.call0 (ls0 := [some (.int (x3)), some (.int 1), some (.int 100)]) (rest := []) (id := 141) (v1 := some (.int 1))  (fun n => rfl)
  · apply Ev.step (pc' := 2) (ls' := [some (.int (x3)), some (.int 1), some (.int 100)]) (st' := [.int 1, .int (x3)]) (M1 := _) 2 (fun n => rfl)
    apply Ev.step (pc' := if x3 < 1 then 14 else 5) (ls' := [some (.int (x3)), some (.int 1), some (.int 100)]) (st' := []) (M1 := _) 1 (fun n => rfl)
    rw [if_neg g2]
    apply Ev.step (pc' := 7) (ls' := [some (.int (x3)), some (.int 1), some (.int 100)]) (st' := [.int 100, .int (x3)]) (M1 := _) 2 (fun n => rfl)
    apply Ev.step (pc' := if 100 < x3 then 14 else 10) (ls' := [some (.int (x3)), some (.int 1), some (.int 100)]) (st' := []) (M1 := _) 1 (fun n => rfl)
    rw [if_neg g3]
    apply Ev.step (pc' := 15) (ls' := [some (.int (x3)), some (.int 1), some (.int 100)]) (st' := [.int 1]) (M1 := _) 2 (fun n => rfl)
    exact Ev.ret (fun n => rfl)
  apply Ev.step (pc' := 111) (ls' := [some (.ref 0), some (.int 3), some (.int (x2)), some (.int (x3)), some (.int (x4)), some (.int (-1)), some (.int 64), none, none, none]) (st' := [.int (-1)]) (M1 := _) 26 (fun n => rfl)
  exact Ev.ret (fun n => rfl)
set_option maxRecDepth 200000 in
set_option maxHeartbeats 4000000 in
theorem r103_20 (x2 x3 x4 : Int32) (g0 : ¬ x2 < 1) (g1 : ¬ 4 < x2) (g2 : ¬ x3 < 1) (g3 : ¬ 100 < x3) : ∃ M1, Ev none 999 103 0 [some (.ref 0), some (.int 4), some (.int (x2)), some (.int (x3)), some (.int (x4)), none, none, none, none, none, none] [] memP (some (.int (-1))) M1 0 0 := by
  apply Exists.intro
  apply Ev.step (pc' := 3) (ls' := [some (.ref 0), some (.int 4), some (.int (x2)), some (.int (x3)), some (.int (x4)), none, none, none, none, none, none]) (st' := [.int 5, .int 0, .int 4]) (M1 := _) 3 (fun n => rfl)
  apply Ev.call0 (ls0 := [some (.int 4), some (.int 0), some (.int 5)]) (rest := []) (id := 126) (v1 := some (.int 1)) (M1 := _) (fun n => rfl) ⟨9, rfl⟩
  apply Ev.step (pc' := 12) (ls' := [some (.ref 0), some (.int 4), some (.int (x2)), some (.int (x3)), some (.int (x4)), none, none, none, none, none, none]) (st' := [.int 4, .int 1, .int (x2)]) (M1 := _) 4 (fun n => rfl)
  apply Ev.call0 (ls0 := [some (.int (x2)), some (.int 1), some (.int 4)]) (rest := []) (id := 126) (v1 := some (.int 1))  (fun n => rfl)
  · apply Ev.step (pc' := 2) (ls' := [some (.int (x2)), some (.int 1), some (.int 4)]) (st' := [.int 1, .int (x2)]) (M1 := _) 2 (fun n => rfl)
    apply Ev.step (pc' := if x2 < 1 then 14 else 5) (ls' := [some (.int (x2)), some (.int 1), some (.int 4)]) (st' := []) (M1 := _) 1 (fun n => rfl)
    rw [if_neg g0]
    apply Ev.step (pc' := 7) (ls' := [some (.int (x2)), some (.int 1), some (.int 4)]) (st' := [.int 4, .int (x2)]) (M1 := _) 2 (fun n => rfl)
    apply Ev.step (pc' := if 4 < x2 then 14 else 10) (ls' := [some (.int (x2)), some (.int 1), some (.int 4)]) (st' := []) (M1 := _) 1 (fun n => rfl)
    rw [if_neg g1]
    apply Ev.step (pc' := 15) (ls' := [some (.int (x2)), some (.int 1), some (.int 4)]) (st' := [.int 1]) (M1 := _) 2 (fun n => rfl)
    exact Ev.ret (fun n => rfl)
  apply Ev.step (pc' := 22) (ls' := [some (.ref 0), some (.int 4), some (.int (x2)), some (.int (x3)), some (.int (x4)), none, none, none, none, none, none]) (st' := [.int 100, .int 1, .int (x3)]) (M1 := _) 4 (fun n => rfl)
  apply Ev.call0 (ls0 := [some (.int (x3)), some (.int 1), some (.int 100)]) (rest := []) (id := 126) (v1 := some (.int 1))  (fun n => rfl)
  · apply Ev.step (pc' := 2) (ls' := [some (.int (x3)), some (.int 1), some (.int 100)]) (st' := [.int 1, .int (x3)]) (M1 := _) 2 (fun n => rfl)
    apply Ev.step (pc' := if x3 < 1 then 14 else 5) (ls' := [some (.int (x3)), some (.int 1), some (.int 100)]) (st' := []) (M1 := _) 1 (fun n => rfl)
    rw [if_neg g2]
    apply Ev.step (pc' := 7) (ls' := [some (.int (x3)), some (.int 1), some (.int 100)]) (st' := [.int 100, .int (x3)]) (M1 := _) 2 (fun n => rfl)
    apply Ev.step (pc' := if 100 < x3 then 14 else 10) (ls' := [some (.int (x3)), some (.int 1), some (.int 100)]) (st' := []) (M1 := _) 1 (fun n => rfl)
    rw [if_neg g3]
    apply Ev.step (pc' := 15) (ls' := [some (.int (x3)), some (.int 1), some (.int 100)]) (st' := [.int 1]) (M1 := _) 2 (fun n => rfl)
    exact Ev.ret (fun n => rfl)
  apply Ev.step (pc' := 44) (ls' := [some (.ref 0), some (.int 4), some (.int (x2)), some (.int (x3)), some (.int (x4)), some (.ref 174), none, none, none, none, none]) (st' := [.ref 174]) (M1 := _) 8 (fun n => rfl)
  apply Ev.call0 (ls0 := [some (.ref 174), none]) (rest := []) (id := 52) (v1 := some (.int (-1))) (M1 := _) (fun n => rfl) ⟨8, rfl⟩
  apply Ev.step (pc' := 56) (ls' := [some (.ref 0), some (.int 4), some (.int (x2)), some (.int (x3)), some (.int (x4)), some (.ref 174), some (.int (-1)), none, none, none, none]) (st' := [.int (-1)]) (M1 := _) 5 (fun n => rfl)
  exact Ev.ret (fun n => rfl)
set_option maxRecDepth 200000 in
set_option maxHeartbeats 4000000 in
theorem r230_21 (x2 x3 x4 : Int32) (g0 : ¬ x2 < 1) (g1 : ¬ 4 < x2) (g2 : ¬ x3 < 1) (g3 : ¬ 100 < x3) : ∃ M1, Ev none 999 230 0 [some (.ref 0), some (.int 4), some (.int (x2)), some (.int (x3)), some (.int (x4)), none, none, none, none, none] [] memR (some (.int (-1))) M1 0 0 := by
  apply Exists.intro
  apply Ev.step (pc' := 8) (ls' := [some (.ref 0), some (.int 4), some (.int (x2)), some (.int (x3)), some (.int (x4)), none, none, none, none, none]) (st' := [.int 5, .int 0, .int 4]) (M1 := _) 6 (fun n => rfl)
  apply Ev.call0 (ls0 := [some (.int 4), some (.int 0), some (.int 5)]) (rest := []) (id := 141) (v1 := some (.int 1)) (M1 := _) (fun n => rfl) ⟨9, rfl⟩
  apply Ev.step (pc' := 17) (ls' := [some (.ref 0), some (.int 4), some (.int (x2)), some (.int (x3)), some (.int (x4)), none, none, none, none, none]) (st' := [.int 4, .int 1, .int (x2)]) (M1 := _) 4 (fun n => rfl)
  apply Ev.call0 (ls0 := [some (.int (x2)), some (.int 1), some (.int 4)]) (rest := []) (id := 141) (v1 := some (.int 1))  (fun n => rfl)
  · apply Ev.step (pc' := 2) (ls' := [some (.int (x2)), some (.int 1), some (.int 4)]) (st' := [.int 1, .int (x2)]) (M1 := _) 2 (fun n => rfl)
    apply Ev.step (pc' := if x2 < 1 then 14 else 5) (ls' := [some (.int (x2)), some (.int 1), some (.int 4)]) (st' := []) (M1 := _) 1 (fun n => rfl)
    rw [if_neg g0]
    apply Ev.step (pc' := 7) (ls' := [some (.int (x2)), some (.int 1), some (.int 4)]) (st' := [.int 4, .int (x2)]) (M1 := _) 2 (fun n => rfl)
    apply Ev.step (pc' := if 4 < x2 then 14 else 10) (ls' := [some (.int (x2)), some (.int 1), some (.int 4)]) (st' := []) (M1 := _) 1 (fun n => rfl)
    rw [if_neg g1]
    apply Ev.step (pc' := 15) (ls' := [some (.int (x2)), some (.int 1), some (.int 4)]) (st' := [.int 1]) (M1 := _) 2 (fun n => rfl)
    exact Ev.ret (fun n => rfl)
  apply Ev.step (pc' := 27) (ls' := [some (.ref 0), some (.int 4), some (.int (x2)), some (.int (x3)), some (.int (x4)), none, none, none, none, none]) (st' := [.int 100, .int 1, .int (x3)]) (M1 := _) 4 (fun n => rfl)
  apply Ev.call0 (ls0 := [some (.int (x3)), some (.int 1), some (.int 100)]) (rest := []) (id := 141) (v1 := some (.int 1))  (fun n => rfl)
  · apply Ev.step (pc' := 2) (ls' := [some (.int (x3)), some (.int 1), some (.int 100)]) (st' := [.int 1, .int (x3)]) (M1 := _) 2 (fun n => rfl)
    apply Ev.step (pc' := if x3 < 1 then 14 else 5) (ls' := [some (.int (x3)), some (.int 1), some (.int 100)]) (st' := []) (M1 := _) 1 (fun n => rfl)
    rw [if_neg g2]
    apply Ev.step (pc' := 7) (ls' := [some (.int (x3)), some (.int 1), some (.int 100)]) (st' := [.int 100, .int (x3)]) (M1 := _) 2 (fun n => rfl)
    apply Ev.step (pc' := if 100 < x3 then 14 else 10) (ls' := [some (.int (x3)), some (.int 1), some (.int 100)]) (st' := []) (M1 := _) 1 (fun n => rfl)
    rw [if_neg g3]
    apply Ev.step (pc' := 15) (ls' := [some (.int (x3)), some (.int 1), some (.int 100)]) (st' := [.int 1]) (M1 := _) 2 (fun n => rfl)
    exact Ev.ret (fun n => rfl)
  apply Ev.step (pc' := 111) (ls' := [some (.ref 0), some (.int 4), some (.int (x2)), some (.int (x3)), some (.int (x4)), some (.int (-1)), some (.int 80), none, none, none]) (st' := [.int (-1)]) (M1 := _) 26 (fun n => rfl)
  exact Ev.ret (fun n => rfl)
set_option maxRecDepth 200000 in
set_option maxHeartbeats 4000000 in
theorem r103_22 (x2 x3 x4 : Int32) (g0 : ¬ x2 < 1) (g1 : ¬ 4 < x2) (g2 : ¬ x3 < 1) (g3 : ¬ 100 < x3) : ∃ M1, Ev none 999 103 0 [some (.ref 0), some (.int 5), some (.int (x2)), some (.int (x3)), some (.int (x4)), none, none, none, none, none, none] [] memP (some (.int (-1))) M1 0 0 := by
  apply Exists.intro
  apply Ev.step (pc' := 3) (ls' := [some (.ref 0), some (.int 5), some (.int (x2)), some (.int (x3)), some (.int (x4)), none, none, none, none, none, none]) (st' := [.int 5, .int 0, .int 5]) (M1 := _) 3 (fun n => rfl)
  apply Ev.call0 (ls0 := [some (.int 5), some (.int 0), some (.int 5)]) (rest := []) (id := 126) (v1 := some (.int 1)) (M1 := _) (fun n => rfl) ⟨9, rfl⟩
  apply Ev.step (pc' := 12) (ls' := [some (.ref 0), some (.int 5), some (.int (x2)), some (.int (x3)), some (.int (x4)), none, none, none, none, none, none]) (st' := [.int 4, .int 1, .int (x2)]) (M1 := _) 4 (fun n => rfl)
  apply Ev.call0 (ls0 := [some (.int (x2)), some (.int 1), some (.int 4)]) (rest := []) (id := 126) (v1 := some (.int 1))  (fun n => rfl)
  · apply Ev.step (pc' := 2) (ls' := [some (.int (x2)), some (.int 1), some (.int 4)]) (st' := [.int 1, .int (x2)]) (M1 := _) 2 (fun n => rfl)
    apply Ev.step (pc' := if x2 < 1 then 14 else 5) (ls' := [some (.int (x2)), some (.int 1), some (.int 4)]) (st' := []) (M1 := _) 1 (fun n => rfl)
    rw [if_neg g0]
    apply Ev.step (pc' := 7) (ls' := [some (.int (x2)), some (.int 1), some (.int 4)]) (st' := [.int 4, .int (x2)]) (M1 := _) 2 (fun n => rfl)
    apply Ev.step (pc' := if 4 < x2 then 14 else 10) (ls' := [some (.int (x2)), some (.int 1), some (.int 4)]) (st' := []) (M1 := _) 1 (fun n => rfl)
    rw [if_neg g1]
    apply Ev.step (pc' := 15) (ls' := [some (.int (x2)), some (.int 1), some (.int 4)]) (st' := [.int 1]) (M1 := _) 2 (fun n => rfl)
    exact Ev.ret (fun n => rfl)
  apply Ev.step (pc' := 22) (ls' := [some (.ref 0), some (.int 5), some (.int (x2)), some (.int (x3)), some (.int (x4)), none, none, none, none, none, none]) (st' := [.int 100, .int 1, .int (x3)]) (M1 := _) 4 (fun n => rfl)
  apply Ev.call0 (ls0 := [some (.int (x3)), some (.int 1), some (.int 100)]) (rest := []) (id := 126) (v1 := some (.int 1))  (fun n => rfl)
  · apply Ev.step (pc' := 2) (ls' := [some (.int (x3)), some (.int 1), some (.int 100)]) (st' := [.int 1, .int (x3)]) (M1 := _) 2 (fun n => rfl)
    apply Ev.step (pc' := if x3 < 1 then 14 else 5) (ls' := [some (.int (x3)), some (.int 1), some (.int 100)]) (st' := []) (M1 := _) 1 (fun n => rfl)
    rw [if_neg g2]
    apply Ev.step (pc' := 7) (ls' := [some (.int (x3)), some (.int 1), some (.int 100)]) (st' := [.int 100, .int (x3)]) (M1 := _) 2 (fun n => rfl)
    apply Ev.step (pc' := if 100 < x3 then 14 else 10) (ls' := [some (.int (x3)), some (.int 1), some (.int 100)]) (st' := []) (M1 := _) 1 (fun n => rfl)
    rw [if_neg g3]
    apply Ev.step (pc' := 15) (ls' := [some (.int (x3)), some (.int 1), some (.int 100)]) (st' := [.int 1]) (M1 := _) 2 (fun n => rfl)
    exact Ev.ret (fun n => rfl)
  apply Ev.step (pc' := 44) (ls' := [some (.ref 0), some (.int 5), some (.int (x2)), some (.int (x3)), some (.int (x4)), some (.ref 183), none, none, none, none, none]) (st' := [.ref 183]) (M1 := _) 8 (fun n => rfl)
  apply Ev.call0 (ls0 := [some (.ref 183), none]) (rest := []) (id := 52) (v1 := some (.int (-1))) (M1 := _) (fun n => rfl) ⟨8, rfl⟩
  apply Ev.step (pc' := 56) (ls' := [some (.ref 0), some (.int 5), some (.int (x2)), some (.int (x3)), some (.int (x4)), some (.ref 183), some (.int (-1)), none, none, none, none]) (st' := [.int (-1)]) (M1 := _) 5 (fun n => rfl)
  exact Ev.ret (fun n => rfl)
set_option maxRecDepth 200000 in
set_option maxHeartbeats 4000000 in
theorem r230_23 (x2 x3 x4 : Int32) (g0 : ¬ x2 < 1) (g1 : ¬ 4 < x2) (g2 : ¬ x3 < 1) (g3 : ¬ 100 < x3) : ∃ M1, Ev none 999 230 0 [some (.ref 0), some (.int 5), some (.int (x2)), some (.int (x3)), some (.int (x4)), none, none, none, none, none] [] memR (some (.int (-1))) M1 0 0 := by
  apply Exists.intro
  apply Ev.step (pc' := 8) (ls' := [some (.ref 0), some (.int 5), some (.int (x2)), some (.int (x3)), some (.int (x4)), none, none, none, none, none]) (st' := [.int 5, .int 0, .int 5]) (M1 := _) 6 (fun n => rfl)
  apply Ev.call0 (ls0 := [some (.int 5), some (.int 0), some (.int 5)]) (rest := []) (id := 141) (v1 := some (.int 1)) (M1 := _) (fun n => rfl) ⟨9, rfl⟩
  apply Ev.step (pc' := 17) (ls' := [some (.ref 0), some (.int 5), some (.int (x2)), some (.int (x3)), some (.int (x4)), none, none, none, none, none]) (st' := [.int 4, .int 1, .int (x2)]) (M1 := _) 4 (fun n => rfl)
  apply Ev.call0 (ls0 := [some (.int (x2)), some (.int 1), some (.int 4)]) (rest := []) (id := 141) (v1 := some (.int 1))  (fun n => rfl)
  · apply Ev.step (pc' := 2) (ls' := [some (.int (x2)), some (.int 1), some (.int 4)]) (st' := [.int 1, .int (x2)]) (M1 := _) 2 (fun n => rfl)
    apply Ev.step (pc' := if x2 < 1 then 14 else 5) (ls' := [some (.int (x2)), some (.int 1), some (.int 4)]) (st' := []) (M1 := _) 1 (fun n => rfl)
    rw [if_neg g0]
    apply Ev.step (pc' := 7) (ls' := [some (.int (x2)), some (.int 1), some (.int 4)]) (st' := [.int 4, .int (x2)]) (M1 := _) 2 (fun n => rfl)
    apply Ev.step (pc' := if 4 < x2 then 14 else 10) (ls' := [some (.int (x2)), some (.int 1), some (.int 4)]) (st' := []) (M1 := _) 1 (fun n => rfl)
    rw [if_neg g1]
    apply Ev.step (pc' := 15) (ls' := [some (.int (x2)), some (.int 1), some (.int 4)]) (st' := [.int 1]) (M1 := _) 2 (fun n => rfl)
    exact Ev.ret (fun n => rfl)
  apply Ev.step (pc' := 27) (ls' := [some (.ref 0), some (.int 5), some (.int (x2)), some (.int (x3)), some (.int (x4)), none, none, none, none, none]) (st' := [.int 100, .int 1, .int (x3)]) (M1 := _) 4 (fun n => rfl)
  apply Ev.call0 (ls0 := [some (.int (x3)), some (.int 1), some (.int 100)]) (rest := []) (id := 141) (v1 := some (.int 1))  (fun n => rfl)
  · apply Ev.step (pc' := 2) (ls' := [some (.int (x3)), some (.int 1), some (.int 100)]) (st' := [.int 1, .int (x3)]) (M1 := _) 2 (fun n => rfl)
    apply Ev.step (pc' := if x3 < 1 then 14 else 5) (ls' := [some (.int (x3)), some (.int 1), some (.int 100)]) (st' := []) (M1 := _) 1 (fun n => rfl)
    rw [if_neg g2]
    apply Ev.step (pc' := 7) (ls' := [some (.int (x3)), some (.int 1), some (.int 100)]) (st' := [.int 100, .int (x3)]) (M1 := _) 2 (fun n => rfl)
    apply Ev.step (pc' := if 100 < x3 then 14 else 10) (ls' := [some (.int (x3)), some (.int 1), some (.int 100)]) (st' := []) (M1 := _) 1 (fun n => rfl)
    rw [if_neg g3]
    apply Ev.step (pc' := 15) (ls' := [some (.int (x3)), some (.int 1), some (.int 100)]) (st' := [.int 1]) (M1 := _) 2 (fun n => rfl)
    exact Ev.ret (fun n => rfl)
  apply Ev.step (pc' := 111) (ls' := [some (.ref 0), some (.int 5), some (.int (x2)), some (.int (x3)), some (.int (x4)), some (.int (-1)), some (.int 96), none, none, none]) (st' := [.int (-1)]) (M1 := _) 26 (fun n => rfl)
  exact Ev.ret (fun n => rfl)
set_option maxRecDepth 200000 in
set_option maxHeartbeats 4000000 in
theorem ok_21 {x0 x1 x2 x3 x4 x5 : Int32} (hj : x0 &&& 63 = nI 21) : Okk x0 x1 x2 x3 x4 x5 := by
  by_cases h1 : x1 < 0
  · skip
    obtain ⟨M1, A⟩ := (r103_0 x1 x2 x3 x4 h1)
    obtain ⟨M2, B⟩ := (r230_1 x1 x2 x3 x4 h1)
    exact lc_21 hj A B
  · skip
    by_cases h2 : 5 < x1
    · skip
      obtain ⟨M1, A⟩ := (r103_2 x1 x2 x3 x4 h1 h2)
      obtain ⟨M2, B⟩ := (r230_3 x1 x2 x3 x4 h1 h2)
      exact lc_21 hj A B
    · skip
      by_cases h3 : x2 < 1
      · skip
        obtain ⟨M1, A⟩ := (r103_4 x1 x2 x3 x4 h1 h2 h3)
        obtain ⟨M2, B⟩ := (r230_5 x1 x2 x3 x4 h1 h2 h3)
        exact lc_21 hj A B
      · skip
        by_cases h4 : 4 < x2
        · skip
          obtain ⟨M1, A⟩ := (r103_6 x1 x2 x3 x4 h1 h2 h3 h4)
          obtain ⟨M2, B⟩ := (r230_7 x1 x2 x3 x4 h1 h2 h3 h4)
          exact lc_21 hj A B
        · skip
          by_cases h5 : x3 < 1
          · skip
            obtain ⟨M1, A⟩ := (r103_8 x1 x2 x3 x4 h1 h2 h3 h4 h5)
            obtain ⟨M2, B⟩ := (r230_9 x1 x2 x3 x4 h1 h2 h3 h4 h5)
            exact lc_21 hj A B
          · skip
            by_cases h6 : 100 < x3
            · skip
              obtain ⟨M1, A⟩ := (r103_10 x1 x2 x3 x4 h1 h2 h3 h4 h5 h6)
              obtain ⟨M2, B⟩ := (r230_11 x1 x2 x3 x4 h1 h2 h3 h4 h5 h6)
              exact lc_21 hj A B
            · skip
              rcases pick_0_5 h1 h2 with rfl | rfl | rfl | rfl | rfl | rfl
              · skip
                obtain ⟨M1, A⟩ := (r103_12 x2 x3 x4 h3 h4 h5 h6)
                obtain ⟨M2, B⟩ := (r230_13 x2 x3 x4 h3 h4 h5 h6)
                exact lc_21 hj A B
              · skip
                obtain ⟨M1, A⟩ := (r103_14 x2 x3 x4 h3 h4 h5 h6)
                obtain ⟨M2, B⟩ := (r230_15 x2 x3 x4 h3 h4 h5 h6)
                exact lc_21 hj A B
              · skip
                obtain ⟨M1, A⟩ := (r103_16 x2 x3 x4 h3 h4 h5 h6)
                obtain ⟨M2, B⟩ := (r230_17 x2 x3 x4 h3 h4 h5 h6)
                exact lc_21 hj A B
              · skip
                obtain ⟨M1, A⟩ := (r103_18 x2 x3 x4 h3 h4 h5 h6)
                obtain ⟨M2, B⟩ := (r230_19 x2 x3 x4 h3 h4 h5 h6)
                exact lc_21 hj A B
              · skip
                obtain ⟨M1, A⟩ := (r103_20 x2 x3 x4 h3 h4 h5 h6)
                obtain ⟨M2, B⟩ := (r230_21 x2 x3 x4 h3 h4 h5 h6)
                exact lc_21 hj A B
              · skip
                obtain ⟨M1, A⟩ := (r103_22 x2 x3 x4 h3 h4 h5 h6)
                obtain ⟨M2, B⟩ := (r230_23 x2 x3 x4 h3 h4 h5 h6)
                exact lc_21 hj A B
set_option maxRecDepth 200000 in
set_option maxHeartbeats 4000000 in
theorem r93_0 (x1 : Int32) (g0 : x1 < 1) : ∃ M1, Ev none 999 93 0 [some (.ref 0), some (.int (x1)), none, none] [] memP (some (.int 0)) M1 0 0 := by
  apply Exists.intro
  apply Ev.step (pc' := 5) (ls' := [some (.ref 0), some (.int (x1)), none, none]) (st' := [.int 200, .int 1, .int (x1)]) (M1 := _) 3 (fun n => rfl)
  apply Ev.call0 (ls0 := [some (.int (x1)), some (.int 1), some (.int 200)]) (rest := []) (id := 126) (v1 := some (.int 0))  (fun n => rfl)
  · apply Ev.step (pc' := 2) (ls' := [some (.int (x1)), some (.int 1), some (.int 200)]) (st' := [.int 1, .int (x1)]) (M1 := _) 2 (fun n => rfl)
    apply Ev.step (pc' := if x1 < 1 then 14 else 5) (ls' := [some (.int (x1)), some (.int 1), some (.int 200)]) (st' := []) (M1 := _) 1 (fun n => rfl)
    rw [if_pos g0]
    apply Ev.step (pc' := 15) (ls' := [some (.int (x1)), some (.int 1), some (.int 200)]) (st' := [.int 0]) (M1 := _) 1 (fun n => rfl)
    exact Ev.ret (fun n => rfl)
  apply Ev.step (pc' := 12) (ls' := [some (.ref 0), some (.int (x1)), none, none]) (st' := [.int 0]) (M1 := _) 2 (fun n => rfl)
  exact Ev.ret (fun n => rfl)
set_option maxRecDepth 200000 in
set_option maxHeartbeats 4000000 in
theorem r211_1 (x1 : Int32) (g0 : x1 < 1) : ∃ M1, Ev none 999 211 0 [some (.ref 0), some (.int (x1)), none] [] memR (some (.int 0)) M1 0 0 := by
  apply Exists.intro
  apply Ev.step (pc' := 10) (ls' := [some (.ref 0), some (.int (x1)), none]) (st' := [.int 200, .int 1, .int (x1)]) (M1 := _) 6 (fun n => rfl)
  apply Ev.call0 (ls0 := [some (.int (x1)), some (.int 1), some (.int 200)]) (rest := []) (id := 141) (v1 := some (.int 0))  (fun n => rfl)
  · apply Ev.step (pc' := 2) (ls' := [some (.int (x1)), some (.int 1), some (.int 200)]) (st' := [.int 1, .int (x1)]) (M1 := _) 2 (fun n => rfl)
    apply Ev.step (pc' := if x1 < 1 then 14 else 5) (ls' := [some (.int (x1)), some (.int 1), some (.int 200)]) (st' := []) (M1 := _) 1 (fun n => rfl)
    rw [if_pos g0]
    apply Ev.step (pc' := 15) (ls' := [some (.int (x1)), some (.int 1), some (.int 200)]) (st' := [.int 0]) (M1 := _) 1 (fun n => rfl)
    exact Ev.ret (fun n => rfl)
  apply Ev.step (pc' := 17) (ls' := [some (.ref 0), some (.int (x1)), none]) (st' := [.int 0]) (M1 := _) 2 (fun n => rfl)
  exact Ev.ret (fun n => rfl)
set_option maxRecDepth 200000 in
set_option maxHeartbeats 4000000 in
theorem r93_2 (x1 : Int32) (g0 : ¬ x1 < 1) (g1 : 200 < x1) : ∃ M1, Ev none 999 93 0 [some (.ref 0), some (.int (x1)), none, none] [] memP (some (.int 0)) M1 0 0 := by
  apply Exists.intro
  apply Ev.step (pc' := 5) (ls' := [some (.ref 0), some (.int (x1)), none, none]) (st' := [.int 200, .int 1, .int (x1)]) (M1 := _) 3 (fun n => rfl)
  apply Ev.call0 (ls0 := [some (.int (x1)), some (.int 1), some (.int 200)]) (rest := []) (id := 126) (v1 := some (.int 0))  (fun n => rfl)
  · apply Ev.step (pc' := 2) (ls' := [some (.int (x1)), some (.int 1), some (.int 200)]) (st' := [.int 1, .int (x1)]) (M1 := _) 2 (fun n => rfl)
    apply Ev.step (pc' := if x1 < 1 then 14 else 5) (ls' := [some (.int (x1)), some (.int 1), some (.int 200)]) (st' := []) (M1 := _) 1 (fun n => rfl)
    rw [if_neg g0]
    apply Ev.step (pc' := 7) (ls' := [some (.int (x1)), some (.int 1), some (.int 200)]) (st' := [.int 200, .int (x1)]) (M1 := _) 2 (fun n => rfl)
    apply Ev.step (pc' := if 200 < x1 then 14 else 10) (ls' := [some (.int (x1)), some (.int 1), some (.int 200)]) (st' := []) (M1 := _) 1 (fun n => rfl)
    rw [if_pos g1]
    apply Ev.step (pc' := 15) (ls' := [some (.int (x1)), some (.int 1), some (.int 200)]) (st' := [.int 0]) (M1 := _) 1 (fun n => rfl)
    exact Ev.ret (fun n => rfl)
  apply Ev.step (pc' := 12) (ls' := [some (.ref 0), some (.int (x1)), none, none]) (st' := [.int 0]) (M1 := _) 2 (fun n => rfl)
  exact Ev.ret (fun n => rfl)
set_option maxRecDepth 200000 in
set_option maxHeartbeats 4000000 in
theorem r211_3 (x1 : Int32) (g0 : ¬ x1 < 1) (g1 : 200 < x1) : ∃ M1, Ev none 999 211 0 [some (.ref 0), some (.int (x1)), none] [] memR (some (.int 0)) M1 0 0 := by
  apply Exists.intro
  apply Ev.step (pc' := 10) (ls' := [some (.ref 0), some (.int (x1)), none]) (st' := [.int 200, .int 1, .int (x1)]) (M1 := _) 6 (fun n => rfl)
  apply Ev.call0 (ls0 := [some (.int (x1)), some (.int 1), some (.int 200)]) (rest := []) (id := 141) (v1 := some (.int 0))  (fun n => rfl)
  · apply Ev.step (pc' := 2) (ls' := [some (.int (x1)), some (.int 1), some (.int 200)]) (st' := [.int 1, .int (x1)]) (M1 := _) 2 (fun n => rfl)
    apply Ev.step (pc' := if x1 < 1 then 14 else 5) (ls' := [some (.int (x1)), some (.int 1), some (.int 200)]) (st' := []) (M1 := _) 1 (fun n => rfl)
    rw [if_neg g0]
    apply Ev.step (pc' := 7) (ls' := [some (.int (x1)), some (.int 1), some (.int 200)]) (st' := [.int 200, .int (x1)]) (M1 := _) 2 (fun n => rfl)
    apply Ev.step (pc' := if 200 < x1 then 14 else 10) (ls' := [some (.int (x1)), some (.int 1), some (.int 200)]) (st' := []) (M1 := _) 1 (fun n => rfl)
    rw [if_pos g1]
    apply Ev.step (pc' := 15) (ls' := [some (.int (x1)), some (.int 1), some (.int 200)]) (st' := [.int 0]) (M1 := _) 1 (fun n => rfl)
    exact Ev.ret (fun n => rfl)
  apply Ev.step (pc' := 17) (ls' := [some (.ref 0), some (.int (x1)), none]) (st' := [.int 0]) (M1 := _) 2 (fun n => rfl)
  exact Ev.ret (fun n => rfl)
set_option maxRecDepth 200000 in
set_option maxHeartbeats 4000000 in
theorem r93_4 (x1 : Int32) (g0 : ¬ x1 < 1) (g1 : ¬ 200 < x1) : ∃ M1, Ev none 999 93 0 [some (.ref 0), some (.int (x1)), none, none] [] memP (some (.int 1)) M1 0 0 := by
  apply Exists.intro
  apply Ev.step (pc' := 5) (ls' := [some (.ref 0), some (.int (x1)), none, none]) (st' := [.int 200, .int 1, .int (x1)]) (M1 := _) 3 (fun n => rfl)
  apply Ev.call0 (ls0 := [some (.int (x1)), some (.int 1), some (.int 200)]) (rest := []) (id := 126) (v1 := some (.int 1))  (fun n => rfl)
  · apply Ev.step (pc' := 2) (ls' := [some (.int (x1)), some (.int 1), some (.int 200)]) (st' := [.int 1, .int (x1)]) (M1 := _) 2 (fun n => rfl)
    apply Ev.step (pc' := if x1 < 1 then 14 else 5) (ls' := [some (.int (x1)), some (.int 1), some (.int 200)]) (st' := []) (M1 := _) 1 (fun n => rfl)
    rw [if_neg g0]
    apply Ev.step (pc' := 7) (ls' := [some (.int (x1)), some (.int 1), some (.int 200)]) (st' := [.int 200, .int (x1)]) (M1 := _) 2 (fun n => rfl)
    apply Ev.step (pc' := if 200 < x1 then 14 else 10) (ls' := [some (.int (x1)), some (.int 1), some (.int 200)]) (st' := []) (M1 := _) 1 (fun n => rfl)
    rw [if_neg g1]
    apply Ev.step (pc' := 15) (ls' := [some (.int (x1)), some (.int 1), some (.int 200)]) (st' := [.int 1]) (M1 := _) 2 (fun n => rfl)
    exact Ev.ret (fun n => rfl)
  apply Ev.step (pc' := 20) (ls' := [some (.ref 0), some (.int (x1)), some (.int 0), none]) (st' := [.ref 8, .int 0]) (M1 := _) 6 (fun n => rfl)
  apply Ev.call0 (ls0 := [some (.ref 8)]) (rest := [.int 0]) (id := 6) (v1 := some (.int 16)) (M1 := _) (fun n => rfl) ⟨6, rfl⟩
  apply Ev.step (pc' := 20) (ls' := [some (.ref 0), some (.int (x1)), some (.int 1), some (.int 0)]) (st' := [.ref 8, .int 1]) (M1 := _) 28 (fun n => rfl)
  apply Ev.call0 (ls0 := [some (.ref 8)]) (rest := [.int 1]) (id := 6) (v1 := some (.int 16)) (M1 := _) (fun n => rfl) ⟨6, rfl⟩
  apply Ev.step (pc' := 20) (ls' := [some (.ref 0), some (.int (x1)), some (.int 2), some (.int 0)]) (st' := [.ref 8, .int 2]) (M1 := _) 28 (fun n => rfl)
  apply Ev.call0 (ls0 := [some (.ref 8)]) (rest := [.int 2]) (id := 6) (v1 := some (.int 16)) (M1 := _) (fun n => rfl) ⟨6, rfl⟩
  apply Ev.step (pc' := 20) (ls' := [some (.ref 0), some (.int (x1)), some (.int 3), some (.int 0)]) (st' := [.ref 8, .int 3]) (M1 := _) 28 (fun n => rfl)
  apply Ev.call0 (ls0 := [some (.ref 8)]) (rest := [.int 3]) (id := 6) (v1 := some (.int 16)) (M1 := _) (fun n => rfl) ⟨6, rfl⟩
  apply Ev.step (pc' := 20) (ls' := [some (.ref 0), some (.int (x1)), some (.int 4), some (.int 0)]) (st' := [.ref 8, .int 4]) (M1 := _) 28 (fun n => rfl)
  apply Ev.call0 (ls0 := [some (.ref 8)]) (rest := [.int 4]) (id := 6) (v1 := some (.int 16)) (M1 := _) (fun n => rfl) ⟨6, rfl⟩
  apply Ev.step (pc' := 20) (ls' := [some (.ref 0), some (.int (x1)), some (.int 5), some (.int 0)]) (st' := [.ref 8, .int 5]) (M1 := _) 28 (fun n => rfl)
  apply Ev.call0 (ls0 := [some (.ref 8)]) (rest := [.int 5]) (id := 6) (v1 := some (.int 16)) (M1 := _) (fun n => rfl) ⟨6, rfl⟩
  apply Ev.step (pc' := 20) (ls' := [some (.ref 0), some (.int (x1)), some (.int 6), some (.int 0)]) (st' := [.ref 8, .int 6]) (M1 := _) 28 (fun n => rfl)
  apply Ev.call0 (ls0 := [some (.ref 8)]) (rest := [.int 6]) (id := 6) (v1 := some (.int 16)) (M1 := _) (fun n => rfl) ⟨6, rfl⟩
  apply Ev.step (pc' := 20) (ls' := [some (.ref 0), some (.int (x1)), some (.int 7), some (.int 0)]) (st' := [.ref 8, .int 7]) (M1 := _) 28 (fun n => rfl)
  apply Ev.call0 (ls0 := [some (.ref 8)]) (rest := [.int 7]) (id := 6) (v1 := some (.int 16)) (M1 := _) (fun n => rfl) ⟨6, rfl⟩
  apply Ev.step (pc' := 20) (ls' := [some (.ref 0), some (.int (x1)), some (.int 8), some (.int 0)]) (st' := [.ref 8, .int 8]) (M1 := _) 28 (fun n => rfl)
  apply Ev.call0 (ls0 := [some (.ref 8)]) (rest := [.int 8]) (id := 6) (v1 := some (.int 16)) (M1 := _) (fun n => rfl) ⟨6, rfl⟩
  apply Ev.step (pc' := 20) (ls' := [some (.ref 0), some (.int (x1)), some (.int 9), some (.int 0)]) (st' := [.ref 8, .int 9]) (M1 := _) 28 (fun n => rfl)
  apply Ev.call0 (ls0 := [some (.ref 8)]) (rest := [.int 9]) (id := 6) (v1 := some (.int 16)) (M1 := _) (fun n => rfl) ⟨6, rfl⟩
  apply Ev.step (pc' := 20) (ls' := [some (.ref 0), some (.int (x1)), some (.int 10), some (.int 0)]) (st' := [.ref 8, .int 10]) (M1 := _) 28 (fun n => rfl)
  apply Ev.call0 (ls0 := [some (.ref 8)]) (rest := [.int 10]) (id := 6) (v1 := some (.int 16)) (M1 := _) (fun n => rfl) ⟨6, rfl⟩
  apply Ev.step (pc' := 20) (ls' := [some (.ref 0), some (.int (x1)), some (.int 11), some (.int 0)]) (st' := [.ref 8, .int 11]) (M1 := _) 28 (fun n => rfl)
  apply Ev.call0 (ls0 := [some (.ref 8)]) (rest := [.int 11]) (id := 6) (v1 := some (.int 16)) (M1 := _) (fun n => rfl) ⟨6, rfl⟩
  apply Ev.step (pc' := 20) (ls' := [some (.ref 0), some (.int (x1)), some (.int 12), some (.int 0)]) (st' := [.ref 8, .int 12]) (M1 := _) 28 (fun n => rfl)
  apply Ev.call0 (ls0 := [some (.ref 8)]) (rest := [.int 12]) (id := 6) (v1 := some (.int 16)) (M1 := _) (fun n => rfl) ⟨6, rfl⟩
  apply Ev.step (pc' := 20) (ls' := [some (.ref 0), some (.int (x1)), some (.int 13), some (.int 0)]) (st' := [.ref 8, .int 13]) (M1 := _) 28 (fun n => rfl)
  apply Ev.call0 (ls0 := [some (.ref 8)]) (rest := [.int 13]) (id := 6) (v1 := some (.int 16)) (M1 := _) (fun n => rfl) ⟨6, rfl⟩
  apply Ev.step (pc' := 20) (ls' := [some (.ref 0), some (.int (x1)), some (.int 14), some (.int 0)]) (st' := [.ref 8, .int 14]) (M1 := _) 28 (fun n => rfl)
  apply Ev.call0 (ls0 := [some (.ref 8)]) (rest := [.int 14]) (id := 6) (v1 := some (.int 16)) (M1 := _) (fun n => rfl) ⟨6, rfl⟩
  apply Ev.step (pc' := 20) (ls' := [some (.ref 0), some (.int (x1)), some (.int 15), some (.int 0)]) (st' := [.ref 8, .int 15]) (M1 := _) 28 (fun n => rfl)
  apply Ev.call0 (ls0 := [some (.ref 8)]) (rest := [.int 15]) (id := 6) (v1 := some (.int 16)) (M1 := _) (fun n => rfl) ⟨6, rfl⟩
  apply Ev.step (pc' := 20) (ls' := [some (.ref 0), some (.int (x1)), some (.int 16), some (.int 0)]) (st' := [.ref 8, .int 16]) (M1 := _) 28 (fun n => rfl)
  apply Ev.call0 (ls0 := [some (.ref 8)]) (rest := [.int 16]) (id := 6) (v1 := some (.int 16)) (M1 := _) (fun n => rfl) ⟨6, rfl⟩
  apply Ev.step (pc' := 83) (ls' := [some (.ref 0), some (.int (x1)), some (.int 16), some (.int 0)]) (st' := [.int 1]) (M1 := _) 2 (fun n => rfl)
  exact Ev.ret (fun n => rfl)
set_option maxRecDepth 200000 in
set_option maxHeartbeats 4000000 in
theorem r211_5 (x1 : Int32) (g0 : ¬ x1 < 1) (g1 : ¬ 200 < x1) (g2 : (0 + x1) ≤ 200) : ∃ M1, Ev none 999 211 0 [some (.ref 0), some (.int (x1)), none] [] memR (some (.int 1)) M1 0 0 := by
  apply Exists.intro
  apply Ev.step (pc' := 10) (ls' := [some (.ref 0), some (.int (x1)), none]) (st' := [.int 200, .int 1, .int (x1)]) (M1 := _) 6 (fun n => rfl)
  apply Ev.call0 (ls0 := [some (.int (x1)), some (.int 1), some (.int 200)]) (rest := []) (id := 141) (v1 := some (.int 1))  (fun n => rfl)
  · apply Ev.step (pc' := 2) (ls' := [some (.int (x1)), some (.int 1), some (.int 200)]) (st' := [.int 1, .int (x1)]) (M1 := _) 2 (fun n => rfl)
    apply Ev.step (pc' := if x1 < 1 then 14 else 5) (ls' := [some (.int (x1)), some (.int 1), some (.int 200)]) (st' := []) (M1 := _) 1 (fun n => rfl)
    rw [if_neg g0]
    apply Ev.step (pc' := 7) (ls' := [some (.int (x1)), some (.int 1), some (.int 200)]) (st' := [.int 200, .int (x1)]) (M1 := _) 2 (fun n => rfl)
    apply Ev.step (pc' := if 200 < x1 then 14 else 10) (ls' := [some (.int (x1)), some (.int 1), some (.int 200)]) (st' := []) (M1 := _) 1 (fun n => rfl)
    rw [if_neg g1]
    apply Ev.step (pc' := 15) (ls' := [some (.int (x1)), some (.int 1), some (.int 200)]) (st' := [.int 1]) (M1 := _) 2 (fun n => rfl)
    exact Ev.ret (fun n => rfl)
  apply Ev.step (pc' := 22) (ls' := [some (.ref 0), some (.int (x1)), some (.int 0)]) (st' := [.ref 0, .int 0]) (M1 := _) 5 (fun n => rfl)
  apply Ev.call0 (ls0 := [some (.ref 0)]) (rest := [.int 0]) (id := 145) (v1 := some (.int 16)) (M1 := _) (fun n => rfl) ⟨10, rfl⟩
  apply Ev.step (pc' := 31) (ls' := [some (.ref 0), some (.int (x1)), some (.int 0)]) (st' := [.int 0, .int 0, .ref 0]) (M1 := _) 4 (fun n => rfl)
  apply Ev.call0 (ls0 := [some (.ref 0), some (.int 0), some (.int 0)]) (rest := []) (id := 147) (v1 := some (.int 0)) (M1 := _) (fun n => rfl) ⟨11, rfl⟩
  apply Ev.step (pc' := 44) (ls' := [some (.ref 0), some (.int (x1)), some (.int 0)]) (st' := [.int 4, .int 0, .ref 0, .int 4, .int 0, .ref 0]) (M1 := _) 8 (fun n => rfl)
  apply Ev.call0 (ls0 := [some (.ref 0), some (.int 0), some (.int 4)]) (rest := [.int 4, .int 0, .ref 0]) (id := 147) (v1 := some (.int 0)) (M1 := _) (fun n => rfl) ⟨11, rfl⟩
  apply Ev.step (pc' := 52) (ls' := [some (.ref 0), some (.int (x1)), some (.int 0)]) (st' := [.int 200, .int ((0 + x1)), .int 4, .int 0, .ref 0]) (M1 := _) 3 (fun n => rfl)
  apply Ev.step (pc' := if (0 + x1) ≤ 200 then 61 else 55) (ls' := [some (.ref 0), some (.int (x1)), some (.int 0)]) (st' := [.int 4, .int 0, .ref 0]) (M1 := _) 1 (fun n => rfl)
  rw [if_pos g2]
  apply Ev.step (pc' := 64) (ls' := [some (.ref 0), some (.int (x1)), some (.int 0)]) (st' := [.int 4, .int 0, .ref 0, .int 4, .int 0, .ref 0]) (M1 := _) 3 (fun n => rfl)
  apply Ev.call0 (ls0 := [some (.ref 0), some (.int 0), some (.int 4)]) (rest := [.int 4, .int 0, .ref 0]) (id := 147) (v1 := some (.int 0)) (M1 := _) (fun n => rfl) ⟨11, rfl⟩
  apply Ev.step (pc' := 69) (ls' := [some (.ref 0), some (.int (x1)), some (.int 0)]) (st' := [.int ((0 + x1)), .int 4, .int 0, .ref 0]) (M1 := _) 2 (fun n => rfl)
  apply Ev.call0 (ls0 := [some (.ref 0), some (.int 0), some (.int 4), some (.int ((0 + x1)))]) (rest := []) (id := 148) (v1 := none) (M1 := _) (fun n => rfl) ⟨12, rfl⟩
  apply Ev.step (pc' := 22) (ls' := [some (.ref 0), some (.int (x1)), some (.int 1)]) (st' := [.ref 0, .int 1]) (M1 := _) 4 (fun n => rfl)
  apply Ev.call0 (ls0 := [some (.ref 0)]) (rest := [.int 1]) (id := 145) (v1 := some (.int 16)) (M1 := _) (fun n => rfl) ⟨10, rfl⟩
  apply Ev.step (pc' := 31) (ls' := [some (.ref 0), some (.int (x1)), some (.int 1)]) (st' := [.int 0, .int 1, .ref 0]) (M1 := _) 4 (fun n => rfl)
  apply Ev.call0 (ls0 := [some (.ref 0), some (.int 1), some (.int 0)]) (rest := []) (id := 147) (v1 := some (.int 0)) (M1 := _) (fun n => rfl) ⟨11, rfl⟩
  apply Ev.step (pc' := 44) (ls' := [some (.ref 0), some (.int (x1)), some (.int 1)]) (st' := [.int 4, .int 1, .ref 0, .int 4, .int 1, .ref 0]) (M1 := _) 8 (fun n => rfl)
  apply Ev.call0 (ls0 := [some (.ref 0), some (.int 1), some (.int 4)]) (rest := [.int 4, .int 1, .ref 0]) (id := 147) (v1 := some (.int 0)) (M1 := _) (fun n => rfl) ⟨11, rfl⟩
  apply Ev.step (pc' := 52) (ls' := [some (.ref 0), some (.int (x1)), some (.int 1)]) (st' := [.int 200, .int ((0 + x1)), .int 4, .int 1, .ref 0]) (M1 := _) 3 (fun n => rfl)
  apply Ev.step (pc' := if (0 + x1) ≤ 200 then 61 else 55) (ls' := [some (.ref 0), some (.int (x1)), some (.int 1)]) (st' := [.int 4, .int 1, .ref 0]) (M1 := _) 1 (fun n => rfl)
  rw [if_pos g2]
  apply Ev.step (pc' := 64) (ls' := [some (.ref 0), some (.int (x1)), some (.int 1)]) (st' := [.int 4, .int 1, .ref 0, .int 4, .int 1, .ref 0]) (M1 := _) 3 (fun n => rfl)
  apply Ev.call0 (ls0 := [some (.ref 0), some (.int 1), some (.int 4)]) (rest := [.int 4, .int 1, .ref 0]) (id := 147) (v1 := some (.int 0)) (M1 := _) (fun n => rfl) ⟨11, rfl⟩
  apply Ev.step (pc' := 69) (ls' := [some (.ref 0), some (.int (x1)), some (.int 1)]) (st' := [.int ((0 + x1)), .int 4, .int 1, .ref 0]) (M1 := _) 2 (fun n => rfl)
  apply Ev.call0 (ls0 := [some (.ref 0), some (.int 1), some (.int 4), some (.int ((0 + x1)))]) (rest := []) (id := 148) (v1 := none) (M1 := _) (fun n => rfl) ⟨12, rfl⟩
  apply Ev.step (pc' := 22) (ls' := [some (.ref 0), some (.int (x1)), some (.int 2)]) (st' := [.ref 0, .int 2]) (M1 := _) 4 (fun n => rfl)
  apply Ev.call0 (ls0 := [some (.ref 0)]) (rest := [.int 2]) (id := 145) (v1 := some (.int 16)) (M1 := _) (fun n => rfl) ⟨10, rfl⟩
  apply Ev.step (pc' := 31) (ls' := [some (.ref 0), some (.int (x1)), some (.int 2)]) (st' := [.int 0, .int 2, .ref 0]) (M1 := _) 4 (fun n => rfl)
  apply Ev.call0 (ls0 := [some (.ref 0), some (.int 2), some (.int 0)]) (rest := []) (id := 147) (v1 := some (.int 0)) (M1 := _) (fun n => rfl) ⟨11, rfl⟩
  apply Ev.step (pc' := 44) (ls' := [some (.ref 0), some (.int (x1)), some (.int 2)]) (st' := [.int 4, .int 2, .ref 0, .int 4, .int 2, .ref 0]) (M1 := _) 8 (fun n => rfl)
  apply Ev.call0 (ls0 := [some (.ref 0), some (.int 2), some (.int 4)]) (rest := [.int 4, .int 2, .ref 0]) (id := 147) (v1 := some (.int 0)) (M1 := _) (fun n => rfl) ⟨11, rfl⟩
  apply Ev.step (pc' := 52) (ls' := [some (.ref 0), some (.int (x1)), some (.int 2)]) (st' := [.int 200, .int ((0 + x1)), .int 4, .int 2, .ref 0]) (M1 := _) 3 (fun n => rfl)
  apply Ev.step (pc' := if (0 + x1) ≤ 200 then 61 else 55) (ls' := [some (.ref 0), some (.int (x1)), some (.int 2)]) (st' := [.int 4, .int 2, .ref 0]) (M1 := _) 1 (fun n => rfl)
  rw [if_pos g2]
  apply Ev.step (pc' := 64) (ls' := [some (.ref 0), some (.int (x1)), some (.int 2)]) (st' := [.int 4, .int 2, .ref 0, .int 4, .int 2, .ref 0]) (M1 := _) 3 (fun n => rfl)
  apply Ev.call0 (ls0 := [some (.ref 0), some (.int 2), some (.int 4)]) (rest := [.int 4, .int 2, .ref 0]) (id := 147) (v1 := some (.int 0)) (M1 := _) (fun n => rfl) ⟨11, rfl⟩
  apply Ev.step (pc' := 69) (ls' := [some (.ref 0), some (.int (x1)), some (.int 2)]) (st' := [.int ((0 + x1)), .int 4, .int 2, .ref 0]) (M1 := _) 2 (fun n => rfl)
  apply Ev.call0 (ls0 := [some (.ref 0), some (.int 2), some (.int 4), some (.int ((0 + x1)))]) (rest := []) (id := 148) (v1 := none) (M1 := _) (fun n => rfl) ⟨12, rfl⟩
  apply Ev.step (pc' := 22) (ls' := [some (.ref 0), some (.int (x1)), some (.int 3)]) (st' := [.ref 0, .int 3]) (M1 := _) 4 (fun n => rfl)
  apply Ev.call0 (ls0 := [some (.ref 0)]) (rest := [.int 3]) (id := 145) (v1 := some (.int 16)) (M1 := _) (fun n => rfl) ⟨10, rfl⟩
  apply Ev.step (pc' := 31) (ls' := [some (.ref 0), some (.int (x1)), some (.int 3)]) (st' := [.int 0, .int 3, .ref 0]) (M1 := _) 4 (fun n => rfl)
  apply Ev.call0 (ls0 := [some (.ref 0), some (.int 3), some (.int 0)]) (rest := []) (id := 147) (v1 := some (.int 0)) (M1 := _) (fun n => rfl) ⟨11, rfl⟩
  apply Ev.step (pc' := 44) (ls' := [some (.ref 0), some (.int (x1)), some (.int 3)]) (st' := [.int 4, .int 3, .ref 0, .int 4, .int 3, .ref 0]) (M1 := _) 8 (fun n => rfl)
  apply Ev.call0 (ls0 := [some (.ref 0), some (.int 3), some (.int 4)]) (rest := [.int 4, .int 3, .ref 0]) (id := 147) (v1 := some (.int 0)) (M1 := _) (fun n => rfl) ⟨11, rfl⟩
  apply Ev.step (pc' := 52) (ls' := [some (.ref 0), some (.int (x1)), some (.int 3)]) (st' := [.int 200, .int ((0 + x1)), .int 4, .int 3, .ref 0]) (M1 := _) 3 (fun n => rfl)
  apply Ev.step (pc' := if (0 + x1) ≤ 200 then 61 else 55) (ls' := [some (.ref 0), some (.int (x1)), some (.int 3)]) (st' := [.int 4, .int 3, .ref 0]) (M1 := _) 1 (fun n => rfl)
  rw [if_pos g2]
  apply Ev.step (pc' := 64) (ls' := [some (.ref 0), some (.int (x1)), some (.int 3)]) (st' := [.int 4, .int 3, .ref 0, .int 4, .int 3, .ref 0]) (M1 := _) 3 (fun n => rfl)
  apply Ev.call0 (ls0 := [some (.ref 0), some (.int 3), some (.int 4)]) (rest := [.int 4, .int 3, .ref 0]) (id := 147) (v1 := some (.int 0)) (M1 := _) (fun n => rfl) ⟨11, rfl⟩
  apply Ev.step (pc' := 69) (ls' := [some (.ref 0), some (.int (x1)), some (.int 3)]) (st' := [.int ((0 + x1)), .int 4, .int 3, .ref 0]) (M1 := _) 2 (fun n => rfl)
  apply Ev.call0 (ls0 := [some (.ref 0), some (.int 3), some (.int 4), some (.int ((0 + x1)))]) (rest := []) (id := 148) (v1 := none) (M1 := _) (fun n => rfl) ⟨12, rfl⟩
  apply Ev.step (pc' := 22) (ls' := [some (.ref 0), some (.int (x1)), some (.int 4)]) (st' := [.ref 0, .int 4]) (M1 := _) 4 (fun n => rfl)
  apply Ev.call0 (ls0 := [some (.ref 0)]) (rest := [.int 4]) (id := 145) (v1 := some (.int 16)) (M1 := _) (fun n => rfl) ⟨10, rfl⟩
  apply Ev.step (pc' := 31) (ls' := [some (.ref 0), some (.int (x1)), some (.int 4)]) (st' := [.int 0, .int 4, .ref 0]) (M1 := _) 4 (fun n => rfl)
  apply Ev.call0 (ls0 := [some (.ref 0), some (.int 4), some (.int 0)]) (rest := []) (id := 147) (v1 := some (.int 0)) (M1 := _) (fun n => rfl) ⟨11, rfl⟩
  apply Ev.step (pc' := 44) (ls' := [some (.ref 0), some (.int (x1)), some (.int 4)]) (st' := [.int 4, .int 4, .ref 0, .int 4, .int 4, .ref 0]) (M1 := _) 8 (fun n => rfl)
  apply Ev.call0 (ls0 := [some (.ref 0), some (.int 4), some (.int 4)]) (rest := [.int 4, .int 4, .ref 0]) (id := 147) (v1 := some (.int 0)) (M1 := _) (fun n => rfl) ⟨11, rfl⟩
  apply Ev.step (pc' := 52) (ls' := [some (.ref 0), some (.int (x1)), some (.int 4)]) (st' := [.int 200, .int ((0 + x1)), .int 4, .int 4, .ref 0]) (M1 := _) 3 (fun n => rfl)
  apply Ev.step (pc' := if (0 + x1) ≤ 200 then 61 else 55) (ls' := [some (.ref 0), some (.int (x1)), some (.int 4)]) (st' := [.int 4, .int 4, .ref 0]) (M1 := _) 1 (fun n => rfl)
  rw [if_pos g2]
  apply Ev.step (pc' := 64) (ls' := [some (.ref 0), some (.int (x1)), some (.int 4)]) (st' := [.int 4, .int 4, .ref 0, .int 4, .int 4, .ref 0]) (M1 := _) 3 (fun n => rfl)
  apply Ev.call0 (ls0 := [some (.ref 0), some (.int 4), some (.int 4)]) (rest := [.int 4, .int 4, .ref 0]) (id := 147) (v1 := some (.int 0)) (M1 := _) (fun n => rfl) ⟨11, rfl⟩
  apply Ev.step (pc' := 69) (ls' := [some (.ref 0), some (.int (x1)), some (.int 4)]) (st' := [.int ((0 + x1)), .int 4, .int 4, .ref 0]) (M1 := _) 2 (fun n => rfl)
  apply Ev.call0 (ls0 := [some (.ref 0), some (.int 4), some (.int 4), some (.int ((0 + x1)))]) (rest := []) (id := 148) (v1 := none) (M1 := _) (fun n => rfl) ⟨12, rfl⟩
  apply Ev.step (pc' := 22) (ls' := [some (.ref 0), some (.int (x1)), some (.int 5)]) (st' := [.ref 0, .int 5]) (M1 := _) 4 (fun n => rfl)
  apply Ev.call0 (ls0 := [some (.ref 0)]) (rest := [.int 5]) (id := 145) (v1 := some (.int 16)) (M1 := _) (fun n => rfl) ⟨10, rfl⟩
  apply Ev.step (pc' := 31) (ls' := [some (.ref 0), some (.int (x1)), some (.int 5)]) (st' := [.int 0, .int 5, .ref 0]) (M1 := _) 4 (fun n => rfl)
  apply Ev.call0 (ls0 := [some (.ref 0), some (.int 5), some (.int 0)]) (rest := []) (id := 147) (v1 := some (.int 0)) (M1 := _) (fun n => rfl) ⟨11, rfl⟩
  apply Ev.step (pc' := 44) (ls' := [some (.ref 0), some (.int (x1)), some (.int 5)]) (st' := [.int 4, .int 5, .ref 0, .int 4, .int 5, .ref 0]) (M1 := _) 8 (fun n => rfl)
  apply Ev.call0 (ls0 := [some (.ref 0), some (.int 5), some (.int 4)]) (rest := [.int 4, .int 5, .ref 0]) (id := 147) (v1 := some (.int 0)) (M1 := _) (fun n => rfl) ⟨11, rfl⟩
  apply Ev.step (pc' := 52) (ls' := [some (.ref 0), some (.int (x1)), some (.int 5)]) (st' := [.int 200, .int ((0 + x1)), .int 4, .int 5, .ref 0]) (M1 := _) 3 (fun n => rfl)
  apply Ev.step (pc' := if (0 + x1) ≤ 200 then 61 else 55) (ls' := [some (.ref 0), some (.int (x1)), some (.int 5)]) (st' := [.int 4, .int 5, .ref 0]) (M1 := _) 1 (fun n => rfl)
  rw [if_pos g2]
  apply Ev.step (pc' := 64) (ls' := [some (.ref 0), some (.int (x1)), some (.int 5)]) (st' := [.int 4, .int 5, .ref 0, .int 4, .int 5, .ref 0]) (M1 := _) 3 (fun n => rfl)
  apply Ev.call0 (ls0 := [some (.ref 0), some (.int 5), some (.int 4)]) (rest := [.int 4, .int 5, .ref 0]) (id := 147) (v1 := some (.int 0)) (M1 := _) (fun n => rfl) ⟨11, rfl⟩
  apply Ev.step (pc' := 69) (ls' := [some (.ref 0), some (.int (x1)), some (.int 5)]) (st' := [.int ((0 + x1)), .int 4, .int 5, .ref 0]) (M1 := _) 2 (fun n => rfl)
  apply Ev.call0 (ls0 := [some (.ref 0), some (.int 5), some (.int 4), some (.int ((0 + x1)))]) (rest := []) (id := 148) (v1 := none) (M1 := _) (fun n => rfl) ⟨12, rfl⟩
  apply Ev.step (pc' := 22) (ls' := [some (.ref 0), some (.int (x1)), some (.int 6)]) (st' := [.ref 0, .int 6]) (M1 := _) 4 (fun n => rfl)
  apply Ev.call0 (ls0 := [some (.ref 0)]) (rest := [.int 6]) (id := 145) (v1 := some (.int 16)) (M1 := _) (fun n => rfl) ⟨10, rfl⟩
  apply Ev.step (pc' := 31) (ls' := [some (.ref 0), some (.int (x1)), some (.int 6)]) (st' := [.int 0, .int 6, .ref 0]) (M1 := _) 4 (fun n => rfl)
  apply Ev.call0 (ls0 := [some (.ref 0), some (.int 6), some (.int 0)]) (rest := []) (id := 147) (v1 := some (.int 0)) (M1 := _) (fun n => rfl) ⟨11, rfl⟩
  apply Ev.step (pc' := 44) (ls' := [some (.ref 0), some (.int (x1)), some (.int 6)]) (st' := [.int 4, .int 6, .ref 0, .int 4, .int 6, .ref 0]) (M1 := _) 8 (fun n => rfl)
  apply Ev.call0 (ls0 := [some (.ref 0), some (.int 6), some (.int 4)]) (rest := [.int 4, .int 6, .ref 0]) (id := 147) (v1 := some (.int 0)) (M1 := _) (fun n => rfl) ⟨11, rfl⟩
  apply Ev.step (pc' := 52) (ls' := [some (.ref 0), some (.int (x1)), some (.int 6)]) (st' := [.int 200, .int ((0 + x1)), .int 4, .int 6, .ref 0]) (M1 := _) 3 (fun n => rfl)
  apply Ev.step (pc' := if (0 + x1) ≤ 200 then 61 else 55) (ls' := [some (.ref 0), some (.int (x1)), some (.int 6)]) (st' := [.int 4, .int 6, .ref 0]) (M1 := _) 1 (fun n => rfl)
  rw [if_pos g2]
  apply Ev.step (pc' := 64) (ls' := [some (.ref 0), some (.int (x1)), some (.int 6)]) (st' := [.int 4, .int 6, .ref 0, .int 4, .int 6, .ref 0]) (M1 := _) 3 (fun n => rfl)
  apply Ev.call0 (ls0 := [some (.ref 0), some (.int 6), some (.int 4)]) (rest := [.int 4, .int 6, .ref 0]) (id := 147) (v1 := some (.int 0)) (M1 := _) (fun n => rfl) ⟨11, rfl⟩
  apply Ev.step (pc' := 69) (ls' := [some (.ref 0), some (.int (x1)), some (.int 6)]) (st' := [.int ((0 + x1)), .int 4, .int 6, .ref 0]) (M1 := _) 2 (fun n => rfl)
  apply Ev.call0 (ls0 := [some (.ref 0), some (.int 6), some (.int 4), some (.int ((0 + x1)))]) (rest := []) (id := 148) (v1 := none) (M1 := _) (fun n => rfl) ⟨12, rfl⟩
  apply Ev.step (pc' := 22) (ls' := [some (.ref 0), some (.int (x1)), some (.int 7)]) (st' := [.ref 0, .int 7]) (M1 := _) 4 (fun n => rfl)
  apply Ev.call0 (ls0 := [some (.ref 0)]) (rest := [.int 7]) (id := 145) (v1 := some (.int 16)) (M1 := _) (fun n => rfl) ⟨10, rfl⟩
  apply Ev.step (pc' := 31) (ls' := [some (.ref 0), some (.int (x1)), some (.int 7)]) (st' := [.int 0, .int 7, .ref 0]) (M1 := _) 4 (fun n => rfl)
  apply Ev.call0 (ls0 := [some (.ref 0), some (.int 7), some (.int 0)]) (rest := []) (id := 147) (v1 := some (.int 0)) (M1 := _) (fun n => rfl) ⟨11, rfl⟩
  apply Ev.step (pc' := 44) (ls' := [some (.ref 0), some (.int (x1)), some (.int 7)]) (st' := [.int 4, .int 7, .ref 0, .int 4, .int 7, .ref 0]) (M1 := _) 8 (fun n => rfl)
  apply Ev.call0 (ls0 := [some (.ref 0), some (.int 7), some (.int 4)]) (rest := [.int 4, .int 7, .ref 0]) (id := 147) (v1 := some (.int 0)) (M1 := _) (fun n => rfl) ⟨11, rfl⟩
  apply Ev.step (pc' := 52) (ls' := [some (.ref 0), some (.int (x1)), some (.int 7)]) (st' := [.int 200, .int ((0 + x1)), .int 4, .int 7, .ref 0]) (M1 := _) 3 (fun n => rfl)
  apply Ev.step (pc' := if (0 + x1) ≤ 200 then 61 else 55) (ls' := [some (.ref 0), some (.int (x1)), some (.int 7)]) (st' := [.int 4, .int 7, .ref 0]) (M1 := _) 1 (fun n => rfl)
  rw [if_pos g2]
  apply Ev.step (pc' := 64) (ls' := [some (.ref 0), some (.int (x1)), some (.int 7)]) (st' := [.int 4, .int 7, .ref 0, .int 4, .int 7, .ref 0]) (M1 := _) 3 (fun n => rfl)
  apply Ev.call0 (ls0 := [some (.ref 0), some (.int 7), some (.int 4)]) (rest := [.int 4, .int 7, .ref 0]) (id := 147) (v1 := some (.int 0)) (M1 := _) (fun n => rfl) ⟨11, rfl⟩
  apply Ev.step (pc' := 69) (ls' := [some (.ref 0), some (.int (x1)), some (.int 7)]) (st' := [.int ((0 + x1)), .int 4, .int 7, .ref 0]) (M1 := _) 2 (fun n => rfl)
  apply Ev.call0 (ls0 := [some (.ref 0), some (.int 7), some (.int 4), some (.int ((0 + x1)))]) (rest := []) (id := 148) (v1 := none) (M1 := _) (fun n => rfl) ⟨12, rfl⟩
  apply Ev.step (pc' := 22) (ls' := [some (.ref 0), some (.int (x1)), some (.int 8)]) (st' := [.ref 0, .int 8]) (M1 := _) 4 (fun n => rfl)
  apply Ev.call0 (ls0 := [some (.ref 0)]) (rest := [.int 8]) (id := 145) (v1 := some (.int 16)) (M1 := _) (fun n => rfl) ⟨10, rfl⟩
  apply Ev.step (pc' := 31) (ls' := [some (.ref 0), some (.int (x1)), some (.int 8)]) (st' := [.int 0, .int 8, .ref 0]) (M1 := _) 4 (fun n => rfl)
  apply Ev.call0 (ls0 := [some (.ref 0), some (.int 8), some (.int 0)]) (rest := []) (id := 147) (v1 := some (.int 0)) (M1 := _) (fun n => rfl) ⟨11, rfl⟩
  apply Ev.step (pc' := 44) (ls' := [some (.ref 0), some (.int (x1)), some (.int 8)]) (st' := [.int 4, .int 8, .ref 0, .int 4, .int 8, .ref 0]) (M1 := _) 8 (fun n => rfl)
  apply Ev.call0 (ls0 := [some (.ref 0), some (.int 8), some (.int 4)]) (rest := [.int 4, .int 8, .ref 0]) (id := 147) (v1 := some (.int 0)) (M1 := _) (fun n => rfl) ⟨11, rfl⟩
  apply Ev.step (pc' := 52) (ls' := [some (.ref 0), some (.int (x1)), some (.int 8)]) (st' := [.int 200, .int ((0 + x1)), .int 4, .int 8, .ref 0]) (M1 := _) 3 (fun n => rfl)
  apply Ev.step (pc' := if (0 + x1) ≤ 200 then 61 else 55) (ls' := [some (.ref 0), some (.int (x1)), some (.int 8)]) (st' := [.int 4, .int 8, .ref 0]) (M1 := _) 1 (fun n => rfl)
  rw [if_pos g2]
  apply Ev.step (pc' := 64) (ls' := [some (.ref 0), some (.int (x1)), some (.int 8)]) (st' := [.int 4, .int 8, .ref 0, .int 4, .int 8, .ref 0]) (M1 := _) 3 (fun n => rfl)
  apply Ev.call0 (ls0 := [some (.ref 0), some (.int 8), some (.int 4)]) (rest := [.int 4, .int 8, .ref 0]) (id := 147) (v1 := some (.int 0)) (M1 := _) (fun n => rfl) ⟨11, rfl⟩
  apply Ev.step (pc' := 69) (ls' := [some (.ref 0), some (.int (x1)), some (.int 8)]) (st' := [.int ((0 + x1)), .int 4, .int 8, .ref 0]) (M1 := _) 2 (fun n => rfl)
  apply Ev.call0 (ls0 := [some (.ref 0), some (.int 8), some (.int 4), some (.int ((0 + x1)))]) (rest := []) (id := 148) (v1 := none) (M1 := _) (fun n => rfl) ⟨12, rfl⟩
  apply Ev.step (pc' := 22) (ls' := [some (.ref 0), some (.int (x1)), some (.int 9)]) (st' := [.ref 0, .int 9]) (M1 := _) 4 (fun n => rfl)
  apply Ev.call0 (ls0 := [some (.ref 0)]) (rest := [.int 9]) (id := 145) (v1 := some (.int 16)) (M1 := _) (fun n => rfl) ⟨10, rfl⟩
  apply Ev.step (pc' := 31) (ls' := [some (.ref 0), some (.int (x1)), some (.int 9)]) (st' := [.int 0, .int 9, .ref 0]) (M1 := _) 4 (fun n => rfl)
  apply Ev.call0 (ls0 := [some (.ref 0), some (.int 9), some (.int 0)]) (rest := []) (id := 147) (v1 := some (.int 0)) (M1 := _) (fun n => rfl) ⟨11, rfl⟩
  apply Ev.step (pc' := 44) (ls' := [some (.ref 0), some (.int (x1)), some (.int 9)]) (st' := [.int 4, .int 9, .ref 0, .int 4, .int 9, .ref 0]) (M1 := _) 8 (fun n => rfl)
  apply Ev.call0 (ls0 := [some (.ref 0), some (.int 9), some (.int 4)]) (rest := [.int 4, .int 9, .ref 0]) (id := 147) (v1 := some (.int 0)) (M1 := _) (fun n => rfl) ⟨11, rfl⟩
  apply Ev.step (pc' := 52) (ls' := [some (.ref 0), some (.int (x1)), some (.int 9)]) (st' := [.int 200, .int ((0 + x1)), .int 4, .int 9, .ref 0]) (M1 := _) 3 (fun n => rfl)
  apply Ev.step (pc' := if (0 + x1) ≤ 200 then 61 else 55) (ls' := [some (.ref 0), some (.int (x1)), some (.int 9)]) (st' := [.int 4, .int 9, .ref 0]) (M1 := _) 1 (fun n => rfl)
  rw [if_pos g2]
  apply Ev.step (pc' := 64) (ls' := [some (.ref 0), some (.int (x1)), some (.int 9)]) (st' := [.int 4, .int 9, .ref 0, .int 4, .int 9, .ref 0]) (M1 := _) 3 (fun n => rfl)
  apply Ev.call0 (ls0 := [some (.ref 0), some (.int 9), some (.int 4)]) (rest := [.int 4, .int 9, .ref 0]) (id := 147) (v1 := some (.int 0)) (M1 := _) (fun n => rfl) ⟨11, rfl⟩
  apply Ev.step (pc' := 69) (ls' := [some (.ref 0), some (.int (x1)), some (.int 9)]) (st' := [.int ((0 + x1)), .int 4, .int 9, .ref 0]) (M1 := _) 2 (fun n => rfl)
  apply Ev.call0 (ls0 := [some (.ref 0), some (.int 9), some (.int 4), some (.int ((0 + x1)))]) (rest := []) (id := 148) (v1 := none) (M1 := _) (fun n => rfl) ⟨12, rfl⟩
  apply Ev.step (pc' := 22) (ls' := [some (.ref 0), some (.int (x1)), some (.int 10)]) (st' := [.ref 0, .int 10]) (M1 := _) 4 (fun n => rfl)
  apply Ev.call0 (ls0 := [some (.ref 0)]) (rest := [.int 10]) (id := 145) (v1 := some (.int 16)) (M1 := _) (fun n => rfl) ⟨10, rfl⟩
  apply Ev.step (pc' := 31) (ls' := [some (.ref 0), some (.int (x1)), some (.int 10)]) (st' := [.int 0, .int 10, .ref 0]) (M1 := _) 4 (fun n => rfl)
  apply Ev.call0 (ls0 := [some (.ref 0), some (.int 10), some (.int 0)]) (rest := []) (id := 147) (v1 := some (.int 0)) (M1 := _) (fun n => rfl) ⟨11, rfl⟩
  apply Ev.step (pc' := 44) (ls' := [some (.ref 0), some (.int (x1)), some (.int 10)]) (st' := [.int 4, .int 10, .ref 0, .int 4, .int 10, .ref 0]) (M1 := _) 8 (fun n => rfl)
  apply Ev.call0 (ls0 := [some (.ref 0), some (.int 10), some (.int 4)]) (rest := [.int 4, .int 10, .ref 0]) (id := 147) (v1 := some (.int 0)) (M1 := _) (fun n => rfl) ⟨11, rfl⟩
  apply Ev.step (pc' := 52) (ls' := [some (.ref 0), some (.int (x1)), some (.int 10)]) (st' := [.int 200, .int ((0 + x1)), .int 4, .int 10, .ref 0]) (M1 := _) 3 (fun n => rfl)
  apply Ev.step (pc' := if (0 + x1) ≤ 200 then 61 else 55) (ls' := [some (.ref 0), some (.int (x1)), some (.int 10)]) (st' := [.int 4, .int 10, .ref 0]) (M1 := _) 1 (fun n => rfl)
  rw [if_pos g2]
  apply Ev.step (pc' := 64) (ls' := [some (.ref 0), some (.int (x1)), some (.int 10)]) (st' := [.int 4, .int 10, .ref 0, .int 4, .int 10, .ref 0]) (M1 := _) 3 (fun n => rfl)
  apply Ev.call0 (ls0 := [some (.ref 0), some (.int 10), some (.int 4)]) (rest := [.int 4, .int 10, .ref 0]) (id := 147) (v1 := some (.int 0)) (M1 := _) (fun n => rfl) ⟨11, rfl⟩
  apply Ev.step (pc' := 69) (ls' := [some (.ref 0), some (.int (x1)), some (.int 10)]) (st' := [.int ((0 + x1)), .int 4, .int 10, .ref 0]) (M1 := _) 2 (fun n => rfl)
  apply Ev.call0 (ls0 := [some (.ref 0), some (.int 10), some (.int 4), some (.int ((0 + x1)))]) (rest := []) (id := 148) (v1 := none) (M1 := _) (fun n => rfl) ⟨12, rfl⟩
  apply Ev.step (pc' := 22) (ls' := [some (.ref 0), some (.int (x1)), some (.int 11)]) (st' := [.ref 0, .int 11]) (M1 := _) 4 (fun n => rfl)
  apply Ev.call0 (ls0 := [some (.ref 0)]) (rest := [.int 11]) (id := 145) (v1 := some (.int 16)) (M1 := _) (fun n => rfl) ⟨10, rfl⟩
  apply Ev.step (pc' := 31) (ls' := [some (.ref 0), some (.int (x1)), some (.int 11)]) (st' := [.int 0, .int 11, .ref 0]) (M1 := _) 4 (fun n => rfl)
  apply Ev.call0 (ls0 := [some (.ref 0), some (.int 11), some (.int 0)]) (rest := []) (id := 147) (v1 := some (.int 0)) (M1 := _) (fun n => rfl) ⟨11, rfl⟩
  apply Ev.step (pc' := 44) (ls' := [some (.ref 0), some (.int (x1)), some (.int 11)]) (st' := [.int 4, .int 11, .ref 0, .int 4, .int 11, .ref 0]) (M1 := _) 8 (fun n => rfl)
  apply Ev.call0 (ls0 := [some (.ref 0), some (.int 11), some (.int 4)]) (rest := [.int 4, .int 11, .ref 0]) (id := 147) (v1 := some (.int 0)) (M1 := _) (fun n => rfl) ⟨11, rfl⟩
  apply Ev.step (pc' := 52) (ls' := [some (.ref 0), some (.int (x1)), some (.int 11)]) (st' := [.int 200, .int ((0 + x1)), .int 4, .int 11, .ref 0]) (M1 := _) 3 (fun n => rfl)
  apply Ev.step (pc' := if (0 + x1) ≤ 200 then 61 else 55) (ls' := [some (.ref 0), some (.int (x1)), some (.int 11)]) (st' := [.int 4, .int 11, .ref 0]) (M1 := _) 1 (fun n => rfl)
  rw [if_pos g2]
  apply Ev.step (pc' := 64) (ls' := [some (.ref 0), some (.int (x1)), some (.int 11)]) (st' := [.int 4, .int 11, .ref 0, .int 4, .int 11, .ref 0]) (M1 := _) 3 (fun n => rfl)
  apply Ev.call0 (ls0 := [some (.ref 0), some (.int 11), some (.int 4)]) (rest := [.int 4, .int 11, .ref 0]) (id := 147) (v1 := some (.int 0)) (M1 := _) (fun n => rfl) ⟨11, rfl⟩
  apply Ev.step (pc' := 69) (ls' := [some (.ref 0), some (.int (x1)), some (.int 11)]) (st' := [.int ((0 + x1)), .int 4, .int 11, .ref 0]) (M1 := _) 2 (fun n => rfl)
  apply Ev.call0 (ls0 := [some (.ref 0), some (.int 11), some (.int 4), some (.int ((0 + x1)))]) (rest := []) (id := 148) (v1 := none) (M1 := _) (fun n => rfl) ⟨12, rfl⟩
  apply Ev.step (pc' := 22) (ls' := [some (.ref 0), some (.int (x1)), some (.int 12)]) (st' := [.ref 0, .int 12]) (M1 := _) 4 (fun n => rfl)
  apply Ev.call0 (ls0 := [some (.ref 0)]) (rest := [.int 12]) (id := 145) (v1 := some (.int 16)) (M1 := _) (fun n => rfl) ⟨10, rfl⟩
  apply Ev.step (pc' := 31) (ls' := [some (.ref 0), some (.int (x1)), some (.int 12)]) (st' := [.int 0, .int 12, .ref 0]) (M1 := _) 4 (fun n => rfl)
  apply Ev.call0 (ls0 := [some (.ref 0), some (.int 12), some (.int 0)]) (rest := []) (id := 147) (v1 := some (.int 0)) (M1 := _) (fun n => rfl) ⟨11, rfl⟩
  apply Ev.step (pc' := 44) (ls' := [some (.ref 0), some (.int (x1)), some (.int 12)]) (st' := [.int 4, .int 12, .ref 0, .int 4, .int 12, .ref 0]) (M1 := _) 8 (fun n => rfl)
  apply Ev.call0 (ls0 := [some (.ref 0), some (.int 12), some (.int 4)]) (rest := [.int 4, .int 12, .ref 0]) (id := 147) (v1 := some (.int 0)) (M1 := _) (fun n => rfl) ⟨11, rfl⟩
  apply Ev.step (pc' := 52) (ls' := [some (.ref 0), some (.int (x1)), some (.int 12)]) (st' := [.int 200, .int ((0 + x1)), .int 4, .int 12, .ref 0]) (M1 := _) 3 (fun n => rfl)
  apply Ev.step (pc' := if (0 + x1) ≤ 200 then 61 else 55) (ls' := [some (.ref 0), some (.int (x1)), some (.int 12)]) (st' := [.int 4, .int 12, .ref 0]) (M1 := _) 1 (fun n => rfl)
  rw [if_pos g2]
  apply Ev.step (pc' := 64) (ls' := [some (.ref 0), some (.int (x1)), some (.int 12)]) (st' := [.int 4, .int 12, .ref 0, .int 4, .int 12, .ref 0]) (M1 := _) 3 (fun n => rfl)
  apply Ev.call0 (ls0 := [some (.ref 0), some (.int 12), some (.int 4)]) (rest := [.int 4, .int 12, .ref 0]) (id := 147) (v1 := some (.int 0)) (M1 := _) (fun n => rfl) ⟨11, rfl⟩
  apply Ev.step (pc' := 69) (ls' := [some (.ref 0), some (.int (x1)), some (.int 12)]) (st' := [.int ((0 + x1)), .int 4, .int 12, .ref 0]) (M1 := _) 2 (fun n => rfl)
  apply Ev.call0 (ls0 := [some (.ref 0), some (.int 12), some (.int 4), some (.int ((0 + x1)))]) (rest := []) (id := 148) (v1 := none) (M1 := _) (fun n => rfl) ⟨12, rfl⟩
  apply Ev.step (pc' := 22) (ls' := [some (.ref 0), some (.int (x1)), some (.int 13)]) (st' := [.ref 0, .int 13]) (M1 := _) 4 (fun n => rfl)
  apply Ev.call0 (ls0 := [some (.ref 0)]) (rest := [.int 13]) (id := 145) (v1 := some (.int 16)) (M1 := _) (fun n => rfl) ⟨10, rfl⟩
  apply Ev.step (pc' := 31) (ls' := [some (.ref 0), some (.int (x1)), some (.int 13)]) (st' := [.int 0, .int 13, .ref 0]) (M1 := _) 4 (fun n => rfl)
  apply Ev.call0 (ls0 := [some (.ref 0), some (.int 13), some (.int 0)]) (rest := []) (id := 147) (v1 := some (.int 0)) (M1 := _) (fun n => rfl) ⟨11, rfl⟩
  apply Ev.step (pc' := 44) (ls' := [some (.ref 0), some (.int (x1)), some (.int 13)]) (st' := [.int 4, .int 13, .ref 0, .int 4, .int 13, .ref 0]) (M1 := _) 8 (fun n => rfl)
  apply Ev.call0 (ls0 := [some (.ref 0), some (.int 13), some (.int 4)]) (rest := [.int 4, .int 13, .ref 0]) (id := 147) (v1 := some (.int 0)) (M1 := _) (fun n => rfl) ⟨11, rfl⟩
  apply Ev.step (pc' := 52) (ls' := [some (.ref 0), some (.int (x1)), some (.int 13)]) (st' := [.int 200, .int ((0 + x1)), .int 4, .int 13, .ref 0]) (M1 := _) 3 (fun n => rfl)
  apply Ev.step (pc' := if (0 + x1) ≤ 200 then 61 else 55) (ls' := [some (.ref 0), some (.int (x1)), some (.int 13)]) (st' := [.int 4, .int 13, .ref 0]) (M1 := _) 1 (fun n => rfl)
  rw [if_pos g2]
  apply Ev.step (pc' := 64) (ls' := [some (.ref 0), some (.int (x1)), some (.int 13)]) (st' := [.int 4, .int 13, .ref 0, .int 4, .int 13, .ref 0]) (M1 := _) 3 (fun n => rfl)
  apply Ev.call0 (ls0 := [some (.ref 0), some (.int 13), some (.int 4)]) (rest := [.int 4, .int 13, .ref 0]) (id := 147) (v1 := some (.int 0)) (M1 := _) (fun n => rfl) ⟨11, rfl⟩
  apply Ev.step (pc' := 69) (ls' := [some (.ref 0), some (.int (x1)), some (.int 13)]) (st' := [.int ((0 + x1)), .int 4, .int 13, .ref 0]) (M1 := _) 2 (fun n => rfl)
  apply Ev.call0 (ls0 := [some (.ref 0), some (.int 13), some (.int 4), some (.int ((0 + x1)))]) (rest := []) (id := 148) (v1 := none) (M1 := _) (fun n => rfl) ⟨12, rfl⟩
  apply Ev.step (pc' := 22) (ls' := [some (.ref 0), some (.int (x1)), some (.int 14)]) (st' := [.ref 0, .int 14]) (M1 := _) 4 (fun n => rfl)
  apply Ev.call0 (ls0 := [some (.ref 0)]) (rest := [.int 14]) (id := 145) (v1 := some (.int 16)) (M1 := _) (fun n => rfl) ⟨10, rfl⟩
  apply Ev.step (pc' := 31) (ls' := [some (.ref 0), some (.int (x1)), some (.int 14)]) (st' := [.int 0, .int 14, .ref 0]) (M1 := _) 4 (fun n => rfl)
  apply Ev.call0 (ls0 := [some (.ref 0), some (.int 14), some (.int 0)]) (rest := []) (id := 147) (v1 := some (.int 0)) (M1 := _) (fun n => rfl) ⟨11, rfl⟩
  apply Ev.step (pc' := 44) (ls' := [some (.ref 0), some (.int (x1)), some (.int 14)]) (st' := [.int 4, .int 14, .ref 0, .int 4, .int 14, .ref 0]) (M1 := _) 8 (fun n => rfl)
  apply Ev.call0 (ls0 := [some (.ref 0), some (.int 14), some (.int 4)]) (rest := [.int 4, .int 14, .ref 0]) (id := 147) (v1 := some (.int 0)) (M1 := _) (fun n => rfl) ⟨11, rfl⟩
  apply Ev.step (pc' := 52) (ls' := [some (.ref 0), some (.int (x1)), some (.int 14)]) (st' := [.int 200, .int ((0 + x1)), .int 4, .int 14, .ref 0]) (M1 := _) 3 (fun n => rfl)
  apply Ev.step (pc' := if (0 + x1) ≤ 200 then 61 else 55) (ls' := [some (.ref 0), some (.int (x1)), some (.int 14)]) (st' := [.int 4, .int 14, .ref 0]) (M1 := _) 1 (fun n => rfl)
  rw [if_pos g2]
  apply Ev.step (pc' := 64) (ls' := [some (.ref 0), some (.int (x1)), some (.int 14)]) (st' := [.int 4, .int 14, .ref 0, .int 4, .int 14, .ref 0]) (M1 := _) 3 (fun n => rfl)
  apply Ev.call0 (ls0 := [some (.ref 0), some (.int 14), some (.int 4)]) (rest := [.int 4, .int 14, .ref 0]) (id := 147) (v1 := some (.int 0)) (M1 := _) (fun n => rfl) ⟨11, rfl⟩
  apply Ev.step (pc' := 69) (ls' := [some (.ref 0), some (.int (x1)), some (.int 14)]) (st' := [.int ((0 + x1)), .int 4, .int 14, .ref 0]) (M1 := _) 2 (fun n => rfl)
  apply Ev.call0 (ls0 := [some (.ref 0), some (.int 14), some (.int 4), some (.int ((0 + x1)))]) (rest := []) (id := 148) (v1 := none) (M1 := _) (fun n => rfl) ⟨12, rfl⟩
  apply Ev.step (pc' := 22) (ls' := [some (.ref 0), some (.int (x1)), some (.int 15)]) (st' := [.ref 0, .int 15]) (M1 := _) 4 (fun n => rfl)
  apply Ev.call0 (ls0 := [some (.ref 0)]) (rest := [.int 15]) (id := 145) (v1 := some (.int 16)) (M1 := _) (fun n => rfl) ⟨10, rfl⟩
  apply Ev.step (pc' := 31) (ls' := [some (.ref 0), some (.int (x1)), some (.int 15)]) (st' := [.int 0, .int 15, .ref 0]) (M1 := _) 4 (fun n => rfl)
  apply Ev.call0 (ls0 := [some (.ref 0), some (.int 15), some (.int 0)]) (rest := []) (id := 147) (v1 := some (.int 0)) (M1 := _) (fun n => rfl) ⟨11, rfl⟩
  apply Ev.step (pc' := 44) (ls' := [some (.ref 0), some (.int (x1)), some (.int 15)]) (st' := [.int 4, .int 15, .ref 0, .int 4, .int 15, .ref 0]) (M1 := _) 8 (fun n => rfl)
  apply Ev.call0 (ls0 := [some (.ref 0), some (.int 15), some (.int 4)]) (rest := [.int 4, .int 15, .ref 0]) (id := 147) (v1 := some (.int 0)) (M1 := _) (fun n => rfl) ⟨11, rfl⟩
  apply Ev.step (pc' := 52) (ls' := [some (.ref 0), some (.int (x1)), some (.int 15)]) (st' := [.int 200, .int ((0 + x1)), .int 4, .int 15, .ref 0]) (M1 := _) 3 (fun n => rfl)
  apply Ev.step (pc' := if (0 + x1) ≤ 200 then 61 else 55) (ls' := [some (.ref 0), some (.int (x1)), some (.int 15)]) (st' := [.int 4, .int 15, .ref 0]) (M1 := _) 1 (fun n => rfl)
  rw [if_pos g2]
  apply Ev.step (pc' := 64) (ls' := [some (.ref 0), some (.int (x1)), some (.int 15)]) (st' := [.int 4, .int 15, .ref 0, .int 4, .int 15, .ref 0]) (M1 := _) 3 (fun n => rfl)
  apply Ev.call0 (ls0 := [some (.ref 0), some (.int 15), some (.int 4)]) (rest := [.int 4, .int 15, .ref 0]) (id := 147) (v1 := some (.int 0)) (M1 := _) (fun n => rfl) ⟨11, rfl⟩
  apply Ev.step (pc' := 69) (ls' := [some (.ref 0), some (.int (x1)), some (.int 15)]) (st' := [.int ((0 + x1)), .int 4, .int 15, .ref 0]) (M1 := _) 2 (fun n => rfl)
  apply Ev.call0 (ls0 := [some (.ref 0), some (.int 15), some (.int 4), some (.int ((0 + x1)))]) (rest := []) (id := 148) (v1 := none) (M1 := _) (fun n => rfl) ⟨12, rfl⟩
  apply Ev.step (pc' := 22) (ls' := [some (.ref 0), some (.int (x1)), some (.int 16)]) (st' := [.ref 0, .int 16]) (M1 := _) 4 (fun n => rfl)
  apply Ev.call0 (ls0 := [some (.ref 0)]) (rest := [.int 16]) (id := 145) (v1 := some (.int 16)) (M1 := _) (fun n => rfl) ⟨10, rfl⟩
  apply Ev.step (pc' := 79) (ls' := [some (.ref 0), some (.int (x1)), some (.int 16)]) (st' := [.int 1]) (M1 := _) 2 (fun n => rfl)
  exact Ev.ret (fun n => rfl)
set_option maxRecDepth 200000 in
set_option maxHeartbeats 4000000 in
theorem ok_11 {x0 x1 x2 x3 x4 x5 : Int32} (hj : x0 &&& 63 = nI 11) : Okk x0 x1 x2 x3 x4 x5 := by
  by_cases h1 : x1 < 1
  · skip
    obtain ⟨M1, A⟩ := (r93_0 x1 h1)
    obtain ⟨M2, B⟩ := (r211_1 x1 h1)
    exact lc_11 hj A B
  · skip
    by_cases h2 : 200 < x1
    · skip
      obtain ⟨M1, A⟩ := (r93_2 x1 h1 h2)
      obtain ⟨M2, B⟩ := (r211_3 x1 h1 h2)
      exact lc_11 hj A B
    · skip
      by_cases h3 : (0 + x1) ≤ 200
      · skip
        obtain ⟨M1, A⟩ := (r93_4 x1 h1 h2)
        obtain ⟨M2, B⟩ := (r211_5 x1 h1 h2 h3)
        exact lc_11 hj A B
      · skip
        exfalso
        simp only [Int32.zero_add, Int32.lt_iff_toInt_lt, Int32.le_iff_toInt_le] at h1 h2 h3
        have e0 : (0 : Int32).toInt = 0 := by decide
        have e1 : (1 : Int32).toInt = 1 := by decide
        have e200 : (200 : Int32).toInt = 200 := by decide
        omega
