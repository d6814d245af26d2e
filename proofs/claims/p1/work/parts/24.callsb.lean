/-! PURE: the calls on the fresh objects -/
theorem pick_0_2 {x : Int32} (h1 : ¬ x < 0) (h2 : ¬ 2 < x) : x = 0 ∨ x = 1 ∨ x = 2 := by
  simp only [Int32.lt_iff_toInt_lt] at h1 h2
  have el : (0 : Int32).toInt = 0 := by decide
  have eh : (2 : Int32).toInt = 2 := by decide
  have h : x.toInt = 0 ∨ x.toInt = 1 ∨ x.toInt = 2 := by omega
  rcases h with h | h | h
  · exact Or.inl (Int32.toInt_inj.mp (h.trans (by decide)))
  · exact Or.inr (Or.inl (Int32.toInt_inj.mp (h.trans (by decide))))
  · exact Or.inr (Or.inr (Int32.toInt_inj.mp (h.trans (by decide))))
theorem pick_0_15 {x : Int32} (h1 : ¬ x < 0) (h2 : ¬ 15 < x) : x = 0 ∨ x = 1 ∨ x = 2 ∨ x = 3 ∨ x = 4 ∨ x = 5 ∨ x = 6 ∨ x = 7 ∨ x = 8 ∨ x = 9 ∨ x = 10 ∨ x = 11 ∨ x = 12 ∨ x = 13 ∨ x = 14 ∨ x = 15 := by
  simp only [Int32.lt_iff_toInt_lt] at h1 h2
  have el : (0 : Int32).toInt = 0 := by decide
  have eh : (15 : Int32).toInt = 15 := by decide
  have h : x.toInt = 0 ∨ x.toInt = 1 ∨ x.toInt = 2 ∨ x.toInt = 3 ∨ x.toInt = 4 ∨ x.toInt = 5 ∨ x.toInt = 6 ∨ x.toInt = 7 ∨ x.toInt = 8 ∨ x.toInt = 9 ∨ x.toInt = 10 ∨ x.toInt = 11 ∨ x.toInt = 12 ∨ x.toInt = 13 ∨ x.toInt = 14 ∨ x.toInt = 15 := by omega
  rcases h with h | h | h | h | h | h | h | h | h | h | h | h | h | h | h | h
  · exact Or.inl (Int32.toInt_inj.mp (h.trans (by decide)))
  · exact Or.inr (Or.inl (Int32.toInt_inj.mp (h.trans (by decide))))
  · exact Or.inr (Or.inr (Or.inl (Int32.toInt_inj.mp (h.trans (by decide)))))
  · exact Or.inr (Or.inr (Or.inr (Or.inl (Int32.toInt_inj.mp (h.trans (by decide))))))
  · exact Or.inr (Or.inr (Or.inr (Or.inr (Or.inl (Int32.toInt_inj.mp (h.trans (by decide)))))))
  · exact Or.inr (Or.inr (Or.inr (Or.inr (Or.inr (Or.inl (Int32.toInt_inj.mp (h.trans (by decide))))))))
  · exact Or.inr (Or.inr (Or.inr (Or.inr (Or.inr (Or.inr (Or.inl (Int32.toInt_inj.mp (h.trans (by decide)))))))))
  · exact Or.inr (Or.inr (Or.inr (Or.inr (Or.inr (Or.inr (Or.inr (Or.inl (Int32.toInt_inj.mp (h.trans (by decide))))))))))
  · exact Or.inr (Or.inr (Or.inr (Or.inr (Or.inr (Or.inr (Or.inr (Or.inr (Or.inl (Int32.toInt_inj.mp (h.trans (by decide)))))))))))
  · exact Or.inr (Or.inr (Or.inr (Or.inr (Or.inr (Or.inr (Or.inr (Or.inr (Or.inr (Or.inl (Int32.toInt_inj.mp (h.trans (by decide))))))))))))
  · exact Or.inr (Or.inr (Or.inr (Or.inr (Or.inr (Or.inr (Or.inr (Or.inr (Or.inr (Or.inr (Or.inl (Int32.toInt_inj.mp (h.trans (by decide)))))))))))))
  · exact Or.inr (Or.inr (Or.inr (Or.inr (Or.inr (Or.inr (Or.inr (Or.inr (Or.inr (Or.inr (Or.inr (Or.inl (Int32.toInt_inj.mp (h.trans (by decide))))))))))))))
  · exact Or.inr (Or.inr (Or.inr (Or.inr (Or.inr (Or.inr (Or.inr (Or.inr (Or.inr (Or.inr (Or.inr (Or.inr (Or.inl (Int32.toInt_inj.mp (h.trans (by decide)))))))))))))))
  · exact Or.inr (Or.inr (Or.inr (Or.inr (Or.inr (Or.inr (Or.inr (Or.inr (Or.inr (Or.inr (Or.inr (Or.inr (Or.inr (Or.inl (Int32.toInt_inj.mp (h.trans (by decide))))))))))))))))
  · exact Or.inr (Or.inr (Or.inr (Or.inr (Or.inr (Or.inr (Or.inr (Or.inr (Or.inr (Or.inr (Or.inr (Or.inr (Or.inr (Or.inr (Or.inl (Int32.toInt_inj.mp (h.trans (by decide)))))))))))))))))
  · exact Or.inr (Or.inr (Or.inr (Or.inr (Or.inr (Or.inr (Or.inr (Or.inr (Or.inr (Or.inr (Or.inr (Or.inr (Or.inr (Or.inr (Or.inr (Int32.toInt_inj.mp (h.trans (by decide)))))))))))))))))
set_option maxRecDepth 200000 in
set_option maxHeartbeats 4000000 in
theorem r84_0 (x1 : Int32) (g0 : x1 < 0) : ∃ M1, Ev none 999 84 0 [some (.ref 0), some (.int (x1))] [] memP (some (.int (-1))) M1 0 0 := by
  apply Exists.intro
  apply Ev.step (pc' := 14) (ls' := [some (.ref 0), some (.int (x1))]) (st' := [.int (x1), .ref 0]) (M1 := _) 7 (fun n => rfl)
  apply Ev.call0 (ls0 := [some (.ref 0), some (.int (x1))]) (rest := []) (id := 127) (v1 := some (.int 0))  (fun n => rfl)
  · apply Ev.step (pc' := 6) (ls' := [some (.ref 0), some (.int (x1))]) (st' := [.ref 8, .int 0, .int (x1)]) (M1 := _) 4 (fun n => rfl)
    apply Ev.call0 (ls0 := [some (.ref 8)]) (rest := [.int 0, .int (x1)]) (id := 6) (v1 := some (.int 16)) (M1 := _) (fun n => rfl) ⟨6, rfl⟩
    apply Ev.step (pc' := 11) (ls' := [some (.ref 0), some (.int (x1))]) (st' := [.int 15, .int 0, .int (x1)]) (M1 := _) 2 (fun n => rfl)
    apply Ev.call0 (ls0 := [some (.int (x1)), some (.int 0), some (.int 15)]) (rest := []) (id := 126) (v1 := some (.int 0))  (fun n => rfl)
    · apply Ev.step (pc' := 2) (ls' := [some (.int (x1)), some (.int 0), some (.int 15)]) (st' := [.int 0, .int (x1)]) (M1 := _) 2 (fun n => rfl)
      apply Ev.step (pc' := if x1 < 0 then 14 else 5) (ls' := [some (.int (x1)), some (.int 0), some (.int 15)]) (st' := []) (M1 := _) 1 (fun n => rfl)
      rw [if_pos g0]
      apply Ev.step (pc' := 15) (ls' := [some (.int (x1)), some (.int 0), some (.int 15)]) (st' := [.int 0]) (M1 := _) 1 (fun n => rfl)
      exact Ev.ret (fun n => rfl)
    exact Ev.ret (fun n => rfl)
  apply Ev.step (pc' := 43) (ls' := [some (.ref 0), some (.int (x1))]) (st' := [.int (-1)]) (M1 := _) 2 (fun n => rfl)
  exact Ev.ret (fun n => rfl)
set_option maxRecDepth 200000 in
set_option maxHeartbeats 4000000 in
theorem r157_1 (x1 : Int32) (g0 : x1 < 0) : ∃ M1, Ev none 999 157 0 [some (.ref 0), some (.int (x1))] [] memR (some (.int (-1))) M1 0 0 := by
  apply Exists.intro
  apply Ev.step (pc' := 18) (ls' := [some (.ref 0), some (.int (x1))]) (st' := [.int (x1), .ref 0]) (M1 := _) 11 (fun n => rfl)
  apply Ev.call0 (ls0 := [some (.ref 0), some (.int (x1))]) (rest := []) (id := 146) (v1 := some (.int 0))  (fun n => rfl)
  · apply Ev.step (pc' := 3) (ls' := [some (.ref 0), some (.int (x1))]) (st' := [.ref 0, .int 0, .int (x1)]) (M1 := _) 3 (fun n => rfl)
    apply Ev.call0 (ls0 := [some (.ref 0)]) (rest := [.int 0, .int (x1)]) (id := 145) (v1 := some (.int 16)) (M1 := _) (fun n => rfl) ⟨10, rfl⟩
    apply Ev.step (pc' := 8) (ls' := [some (.ref 0), some (.int (x1))]) (st' := [.int 15, .int 0, .int (x1)]) (M1 := _) 2 (fun n => rfl)
    apply Ev.call0 (ls0 := [some (.int (x1)), some (.int 0), some (.int 15)]) (rest := []) (id := 141) (v1 := some (.int 0))  (fun n => rfl)
    · apply Ev.step (pc' := 2) (ls' := [some (.int (x1)), some (.int 0), some (.int 15)]) (st' := [.int 0, .int (x1)]) (M1 := _) 2 (fun n => rfl)
      apply Ev.step (pc' := if x1 < 0 then 14 else 5) (ls' := [some (.int (x1)), some (.int 0), some (.int 15)]) (st' := []) (M1 := _) 1 (fun n => rfl)
      rw [if_pos g0]
      apply Ev.step (pc' := 15) (ls' := [some (.int (x1)), some (.int 0), some (.int 15)]) (st' := [.int 0]) (M1 := _) 1 (fun n => rfl)
      exact Ev.ret (fun n => rfl)
    exact Ev.ret (fun n => rfl)
  apply Ev.step (pc' := 41) (ls' := [some (.ref 0), some (.int (x1))]) (st' := [.int (-1)]) (M1 := _) 2 (fun n => rfl)
  exact Ev.ret (fun n => rfl)
set_option maxRecDepth 200000 in
set_option maxHeartbeats 4000000 in
theorem r84_2 (x1 : Int32) (g0 : ¬ x1 < 0) (g1 : 15 < x1) : ∃ M1, Ev none 999 84 0 [some (.ref 0), some (.int (x1))] [] memP (some (.int (-1))) M1 0 0 := by
  apply Exists.intro
  apply Ev.step (pc' := 14) (ls' := [some (.ref 0), some (.int (x1))]) (st' := [.int (x1), .ref 0]) (M1 := _) 7 (fun n => rfl)
  apply Ev.call0 (ls0 := [some (.ref 0), some (.int (x1))]) (rest := []) (id := 127) (v1 := some (.int 0))  (fun n => rfl)
  · apply Ev.step (pc' := 6) (ls' := [some (.ref 0), some (.int (x1))]) (st' := [.ref 8, .int 0, .int (x1)]) (M1 := _) 4 (fun n => rfl)
    apply Ev.call0 (ls0 := [some (.ref 8)]) (rest := [.int 0, .int (x1)]) (id := 6) (v1 := some (.int 16)) (M1 := _) (fun n => rfl) ⟨6, rfl⟩
    apply Ev.step (pc' := 11) (ls' := [some (.ref 0), some (.int (x1))]) (st' := [.int 15, .int 0, .int (x1)]) (M1 := _) 2 (fun n => rfl)
    apply Ev.call0 (ls0 := [some (.int (x1)), some (.int 0), some (.int 15)]) (rest := []) (id := 126) (v1 := some (.int 0))  (fun n => rfl)
    · apply Ev.step (pc' := 2) (ls' := [some (.int (x1)), some (.int 0), some (.int 15)]) (st' := [.int 0, .int (x1)]) (M1 := _) 2 (fun n => rfl)
      apply Ev.step (pc' := if x1 < 0 then 14 else 5) (ls' := [some (.int (x1)), some (.int 0), some (.int 15)]) (st' := []) (M1 := _) 1 (fun n => rfl)
      rw [if_neg g0]
      apply Ev.step (pc' := 7) (ls' := [some (.int (x1)), some (.int 0), some (.int 15)]) (st' := [.int 15, .int (x1)]) (M1 := _) 2 (fun n => rfl)
      apply Ev.step (pc' := if 15 < x1 then 14 else 10) (ls' := [some (.int (x1)), some (.int 0), some (.int 15)]) (st' := []) (M1 := _) 1 (fun n => rfl)
      rw [if_pos g1]
      apply Ev.step (pc' := 15) (ls' := [some (.int (x1)), some (.int 0), some (.int 15)]) (st' := [.int 0]) (M1 := _) 1 (fun n => rfl)
      exact Ev.ret (fun n => rfl)
    exact Ev.ret (fun n => rfl)
  apply Ev.step (pc' := 43) (ls' := [some (.ref 0), some (.int (x1))]) (st' := [.int (-1)]) (M1 := _) 2 (fun n => rfl)
  exact Ev.ret (fun n => rfl)
set_option maxRecDepth 200000 in
set_option maxHeartbeats 4000000 in
theorem r157_3 (x1 : Int32) (g0 : ¬ x1 < 0) (g1 : 15 < x1) : ∃ M1, Ev none 999 157 0 [some (.ref 0), some (.int (x1))] [] memR (some (.int (-1))) M1 0 0 := by
  apply Exists.intro
  apply Ev.step (pc' := 18) (ls' := [some (.ref 0), some (.int (x1))]) (st' := [.int (x1), .ref 0]) (M1 := _) 11 (fun n => rfl)
  apply Ev.call0 (ls0 := [some (.ref 0), some (.int (x1))]) (rest := []) (id := 146) (v1 := some (.int 0))  (fun n => rfl)
  · apply Ev.step (pc' := 3) (ls' := [some (.ref 0), some (.int (x1))]) (st' := [.ref 0, .int 0, .int (x1)]) (M1 := _) 3 (fun n => rfl)
    apply Ev.call0 (ls0 := [some (.ref 0)]) (rest := [.int 0, .int (x1)]) (id := 145) (v1 := some (.int 16)) (M1 := _) (fun n => rfl) ⟨10, rfl⟩
    apply Ev.step (pc' := 8) (ls' := [some (.ref 0), some (.int (x1))]) (st' := [.int 15, .int 0, .int (x1)]) (M1 := _) 2 (fun n => rfl)
    apply Ev.call0 (ls0 := [some (.int (x1)), some (.int 0), some (.int 15)]) (rest := []) (id := 141) (v1 := some (.int 0))  (fun n => rfl)
    · apply Ev.step (pc' := 2) (ls' := [some (.int (x1)), some (.int 0), some (.int 15)]) (st' := [.int 0, .int (x1)]) (M1 := _) 2 (fun n => rfl)
      apply Ev.step (pc' := if x1 < 0 then 14 else 5) (ls' := [some (.int (x1)), some (.int 0), some (.int 15)]) (st' := []) (M1 := _) 1 (fun n => rfl)
      rw [if_neg g0]
      apply Ev.step (pc' := 7) (ls' := [some (.int (x1)), some (.int 0), some (.int 15)]) (st' := [.int 15, .int (x1)]) (M1 := _) 2 (fun n => rfl)
      apply Ev.step (pc' := if 15 < x1 then 14 else 10) (ls' := [some (.int (x1)), some (.int 0), some (.int 15)]) (st' := []) (M1 := _) 1 (fun n => rfl)
      rw [if_pos g1]
      apply Ev.step (pc' := 15) (ls' := [some (.int (x1)), some (.int 0), some (.int 15)]) (st' := [.int 0]) (M1 := _) 1 (fun n => rfl)
      exact Ev.ret (fun n => rfl)
    exact Ev.ret (fun n => rfl)
  apply Ev.step (pc' := 41) (ls' := [some (.ref 0), some (.int (x1))]) (st' := [.int (-1)]) (M1 := _) 2 (fun n => rfl)
  exact Ev.ret (fun n => rfl)
set_option maxRecDepth 200000 in
set_option maxHeartbeats 4000000 in
theorem r84_4 : ∃ M1, Ev none 999 84 0 [some (.ref 0), some (.int 0)] [] memP (some (.int 0)) M1 0 0 := by
  apply Exists.intro
  apply Ev.step (pc' := 14) (ls' := [some (.ref 0), some (.int 0)]) (st' := [.int 0, .ref 0]) (M1 := _) 7 (fun n => rfl)
  apply Ev.call0 (ls0 := [some (.ref 0), some (.int 0)]) (rest := []) (id := 127) (v1 := some (.int 1)) (M1 := _) (fun n => rfl) ⟨18, rfl⟩
  apply Ev.step (pc' := 25) (ls' := [some (.ref 0), some (.int 0)]) (st' := [.int 0, .ref 8]) (M1 := _) 4 (fun n => rfl)
  apply Ev.call0 (ls0 := [some (.ref 8), some (.int 0)]) (rest := []) (id := 7) (v1 := some (.int 1)) (M1 := _) (fun n => rfl) ⟨15, rfl⟩
  apply Ev.step (pc' := 36) (ls' := [some (.ref 0), some (.int 0)]) (st' := [.int 0, .ref 8]) (M1 := _) 4 (fun n => rfl)
  apply Ev.call0 (ls0 := [some (.ref 8), some (.int 0), none]) (rest := []) (id := 9) (v1 := some (.int 0)) (M1 := _) (fun n => rfl) ⟨8, rfl⟩
  apply Ev.step (pc' := 74) (ls' := [some (.ref 0), some (.int 0)]) (st' := [.int 0]) (M1 := _) 17 (fun n => rfl)
  exact Ev.ret (fun n => rfl)
set_option maxRecDepth 200000 in
set_option maxHeartbeats 4000000 in
theorem r157_5 : ∃ M1, Ev none 999 157 0 [some (.ref 0), some (.int 0)] [] memR (some (.int 0)) M1 0 0 := by
  apply Exists.intro
  apply Ev.step (pc' := 18) (ls' := [some (.ref 0), some (.int 0)]) (st' := [.int 0, .ref 0]) (M1 := _) 11 (fun n => rfl)
  apply Ev.call0 (ls0 := [some (.ref 0), some (.int 0)]) (rest := []) (id := 146) (v1 := some (.int 1)) (M1 := _) (fun n => rfl) ⟨18, rfl⟩
  apply Ev.step (pc' := 26) (ls' := [some (.ref 0), some (.int 0)]) (st' := [.int 0, .ref 0]) (M1 := _) 3 (fun n => rfl)
  apply Ev.call0 (ls0 := [some (.ref 0), some (.int 0)]) (rest := []) (id := 149) (v1 := some (.int 1)) (M1 := _) (fun n => rfl) ⟨26, rfl⟩
  apply Ev.step (pc' := 34) (ls' := [some (.ref 0), some (.int 0)]) (st' := [.int 0, .ref 0]) (M1 := _) 3 (fun n => rfl)
  apply Ev.call0 (ls0 := [some (.ref 0), some (.int 0), none]) (rest := []) (id := 158) (v1 := some (.int 0)) (M1 := _) (fun n => rfl) ⟨10, rfl⟩
  apply Ev.step (pc' := 74) (ls' := [some (.ref 0), some (.int 0)]) (st' := [.int 0]) (M1 := _) 25 (fun n => rfl)
  exact Ev.ret (fun n => rfl)
set_option maxRecDepth 200000 in
set_option maxHeartbeats 4000000 in
theorem r84_6 : ∃ M1, Ev none 999 84 0 [some (.ref 0), some (.int 1)] [] memP (some (.int 0)) M1 0 0 := by
  apply Exists.intro
  apply Ev.step (pc' := 14) (ls' := [some (.ref 0), some (.int 1)]) (st' := [.int 1, .ref 0]) (M1 := _) 7 (fun n => rfl)
  apply Ev.call0 (ls0 := [some (.ref 0), some (.int 1)]) (rest := []) (id := 127) (v1 := some (.int 1)) (M1 := _) (fun n => rfl) ⟨18, rfl⟩
  apply Ev.step (pc' := 25) (ls' := [some (.ref 0), some (.int 1)]) (st' := [.int 1, .ref 8]) (M1 := _) 4 (fun n => rfl)
  apply Ev.call0 (ls0 := [some (.ref 8), some (.int 1)]) (rest := []) (id := 7) (v1 := some (.int 1)) (M1 := _) (fun n => rfl) ⟨15, rfl⟩
  apply Ev.step (pc' := 36) (ls' := [some (.ref 0), some (.int 1)]) (st' := [.int 1, .ref 8]) (M1 := _) 4 (fun n => rfl)
  apply Ev.call0 (ls0 := [some (.ref 8), some (.int 1), none]) (rest := []) (id := 9) (v1 := some (.int 0)) (M1 := _) (fun n => rfl) ⟨8, rfl⟩
  apply Ev.step (pc' := 74) (ls' := [some (.ref 0), some (.int 1)]) (st' := [.int 0]) (M1 := _) 17 (fun n => rfl)
  exact Ev.ret (fun n => rfl)
set_option maxRecDepth 200000 in
set_option maxHeartbeats 4000000 in
theorem r157_7 : ∃ M1, Ev none 999 157 0 [some (.ref 0), some (.int 1)] [] memR (some (.int 0)) M1 0 0 := by
  apply Exists.intro
  apply Ev.step (pc' := 18) (ls' := [some (.ref 0), some (.int 1)]) (st' := [.int 1, .ref 0]) (M1 := _) 11 (fun n => rfl)
  apply Ev.call0 (ls0 := [some (.ref 0), some (.int 1)]) (rest := []) (id := 146) (v1 := some (.int 1)) (M1 := _) (fun n => rfl) ⟨18, rfl⟩
  apply Ev.step (pc' := 26) (ls' := [some (.ref 0), some (.int 1)]) (st' := [.int 1, .ref 0]) (M1 := _) 3 (fun n => rfl)
  apply Ev.call0 (ls0 := [some (.ref 0), some (.int 1)]) (rest := []) (id := 149) (v1 := some (.int 1)) (M1 := _) (fun n => rfl) ⟨26, rfl⟩
  apply Ev.step (pc' := 34) (ls' := [some (.ref 0), some (.int 1)]) (st' := [.int 1, .ref 0]) (M1 := _) 3 (fun n => rfl)
  apply Ev.call0 (ls0 := [some (.ref 0), some (.int 1), none]) (rest := []) (id := 158) (v1 := some (.int 0)) (M1 := _) (fun n => rfl) ⟨10, rfl⟩
  apply Ev.step (pc' := 74) (ls' := [some (.ref 0), some (.int 1)]) (st' := [.int 0]) (M1 := _) 25 (fun n => rfl)
  exact Ev.ret (fun n => rfl)
set_option maxRecDepth 200000 in
set_option maxHeartbeats 4000000 in
theorem r84_8 : ∃ M1, Ev none 999 84 0 [some (.ref 0), some (.int 2)] [] memP (some (.int 0)) M1 0 0 := by
  apply Exists.intro
  apply Ev.step (pc' := 14) (ls' := [some (.ref 0), some (.int 2)]) (st' := [.int 2, .ref 0]) (M1 := _) 7 (fun n => rfl)
  apply Ev.call0 (ls0 := [some (.ref 0), some (.int 2)]) (rest := []) (id := 127) (v1 := some (.int 1)) (M1 := _) (fun n => rfl) ⟨18, rfl⟩
  apply Ev.step (pc' := 25) (ls' := [some (.ref 0), some (.int 2)]) (st' := [.int 2, .ref 8]) (M1 := _) 4 (fun n => rfl)
  apply Ev.call0 (ls0 := [some (.ref 8), some (.int 2)]) (rest := []) (id := 7) (v1 := some (.int 1)) (M1 := _) (fun n => rfl) ⟨15, rfl⟩
  apply Ev.step (pc' := 36) (ls' := [some (.ref 0), some (.int 2)]) (st' := [.int 2, .ref 8]) (M1 := _) 4 (fun n => rfl)
  apply Ev.call0 (ls0 := [some (.ref 8), some (.int 2), none]) (rest := []) (id := 9) (v1 := some (.int 0)) (M1 := _) (fun n => rfl) ⟨8, rfl⟩
  apply Ev.step (pc' := 74) (ls' := [some (.ref 0), some (.int 2)]) (st' := [.int 0]) (M1 := _) 17 (fun n => rfl)
  exact Ev.ret (fun n => rfl)
set_option maxRecDepth 200000 in
set_option maxHeartbeats 4000000 in
theorem r157_9 : ∃ M1, Ev none 999 157 0 [some (.ref 0), some (.int 2)] [] memR (some (.int 0)) M1 0 0 := by
  apply Exists.intro
  apply Ev.step (pc' := 18) (ls' := [some (.ref 0), some (.int 2)]) (st' := [.int 2, .ref 0]) (M1 := _) 11 (fun n => rfl)
  apply Ev.call0 (ls0 := [some (.ref 0), some (.int 2)]) (rest := []) (id := 146) (v1 := some (.int 1)) (M1 := _) (fun n => rfl) ⟨18, rfl⟩
  apply Ev.step (pc' := 26) (ls' := [some (.ref 0), some (.int 2)]) (st' := [.int 2, .ref 0]) (M1 := _) 3 (fun n => rfl)
  apply Ev.call0 (ls0 := [some (.ref 0), some (.int 2)]) (rest := []) (id := 149) (v1 := some (.int 1)) (M1 := _) (fun n => rfl) ⟨26, rfl⟩
  apply Ev.step (pc' := 34) (ls' := [some (.ref 0), some (.int 2)]) (st' := [.int 2, .ref 0]) (M1 := _) 3 (fun n => rfl)
  apply Ev.call0 (ls0 := [some (.ref 0), some (.int 2), none]) (rest := []) (id := 158) (v1 := some (.int 0)) (M1 := _) (fun n => rfl) ⟨10, rfl⟩
  apply Ev.step (pc' := 74) (ls' := [some (.ref 0), some (.int 2)]) (st' := [.int 0]) (M1 := _) 25 (fun n => rfl)
  exact Ev.ret (fun n => rfl)
set_option maxRecDepth 200000 in
set_option maxHeartbeats 4000000 in
theorem r84_10 : ∃ M1, Ev none 999 84 0 [some (.ref 0), some (.int 3)] [] memP (some (.int 0)) M1 0 0 := by
  apply Exists.intro
  apply Ev.step (pc' := 14) (ls' := [some (.ref 0), some (.int 3)]) (st' := [.int 3, .ref 0]) (M1 := _) 7 (fun n => rfl)
  apply Ev.call0 (ls0 := [some (.ref 0), some (.int 3)]) (rest := []) (id := 127) (v1 := some (.int 1)) (M1 := _) (fun n => rfl) ⟨18, rfl⟩
  apply Ev.step (pc' := 25) (ls' := [some (.ref 0), some (.int 3)]) (st' := [.int 3, .ref 8]) (M1 := _) 4 (fun n => rfl)
  apply Ev.call0 (ls0 := [some (.ref 8), some (.int 3)]) (rest := []) (id := 7) (v1 := some (.int 1)) (M1 := _) (fun n => rfl) ⟨15, rfl⟩
  apply Ev.step (pc' := 36) (ls' := [some (.ref 0), some (.int 3)]) (st' := [.int 3, .ref 8]) (M1 := _) 4 (fun n => rfl)
  apply Ev.call0 (ls0 := [some (.ref 8), some (.int 3), none]) (rest := []) (id := 9) (v1 := some (.int 0)) (M1 := _) (fun n => rfl) ⟨8, rfl⟩
  apply Ev.step (pc' := 74) (ls' := [some (.ref 0), some (.int 3)]) (st' := [.int 0]) (M1 := _) 17 (fun n => rfl)
  exact Ev.ret (fun n => rfl)
set_option maxRecDepth 200000 in
set_option maxHeartbeats 4000000 in
theorem r157_11 : ∃ M1, Ev none 999 157 0 [some (.ref 0), some (.int 3)] [] memR (some (.int 0)) M1 0 0 := by
  apply Exists.intro
  apply Ev.step (pc' := 18) (ls' := [some (.ref 0), some (.int 3)]) (st' := [.int 3, .ref 0]) (M1 := _) 11 (fun n => rfl)
  apply Ev.call0 (ls0 := [some (.ref 0), some (.int 3)]) (rest := []) (id := 146) (v1 := some (.int 1)) (M1 := _) (fun n => rfl) ⟨18, rfl⟩
  apply Ev.step (pc' := 26) (ls' := [some (.ref 0), some (.int 3)]) (st' := [.int 3, .ref 0]) (M1 := _) 3 (fun n => rfl)
  apply Ev.call0 (ls0 := [some (.ref 0), some (.int 3)]) (rest := []) (id := 149) (v1 := some (.int 1)) (M1 := _) (fun n => rfl) ⟨26, rfl⟩
  apply Ev.step (pc' := 34) (ls' := [some (.ref 0), some (.int 3)]) (st' := [.int 3, .ref 0]) (M1 := _) 3 (fun n => rfl)
  apply Ev.call0 (ls0 := [some (.ref 0), some (.int 3), none]) (rest := []) (id := 158) (v1 := some (.int 0)) (M1 := _) (fun n => rfl) ⟨10, rfl⟩
  apply Ev.step (pc' := 74) (ls' := [some (.ref 0), some (.int 3)]) (st' := [.int 0]) (M1 := _) 25 (fun n => rfl)
  exact Ev.ret (fun n => rfl)
set_option maxRecDepth 200000 in
set_option maxHeartbeats 4000000 in
theorem r84_12 : ∃ M1, Ev none 999 84 0 [some (.ref 0), some (.int 4)] [] memP (some (.int 0)) M1 0 0 := by
  apply Exists.intro
  apply Ev.step (pc' := 14) (ls' := [some (.ref 0), some (.int 4)]) (st' := [.int 4, .ref 0]) (M1 := _) 7 (fun n => rfl)
  apply Ev.call0 (ls0 := [some (.ref 0), some (.int 4)]) (rest := []) (id := 127) (v1 := some (.int 1)) (M1 := _) (fun n => rfl) ⟨18, rfl⟩
  apply Ev.step (pc' := 25) (ls' := [some (.ref 0), some (.int 4)]) (st' := [.int 4, .ref 8]) (M1 := _) 4 (fun n => rfl)
  apply Ev.call0 (ls0 := [some (.ref 8), some (.int 4)]) (rest := []) (id := 7) (v1 := some (.int 1)) (M1 := _) (fun n => rfl) ⟨15, rfl⟩
  apply Ev.step (pc' := 36) (ls' := [some (.ref 0), some (.int 4)]) (st' := [.int 4, .ref 8]) (M1 := _) 4 (fun n => rfl)
  apply Ev.call0 (ls0 := [some (.ref 8), some (.int 4), none]) (rest := []) (id := 9) (v1 := some (.int 0)) (M1 := _) (fun n => rfl) ⟨8, rfl⟩
  apply Ev.step (pc' := 74) (ls' := [some (.ref 0), some (.int 4)]) (st' := [.int 0]) (M1 := _) 17 (fun n => rfl)
  exact Ev.ret (fun n => rfl)
set_option maxRecDepth 200000 in
set_option maxHeartbeats 4000000 in
theorem r157_13 : ∃ M1, Ev none 999 157 0 [some (.ref 0), some (.int 4)] [] memR (some (.int 0)) M1 0 0 := by
  apply Exists.intro
  apply Ev.step (pc' := 18) (ls' := [some (.ref 0), some (.int 4)]) (st' := [.int 4, .ref 0]) (M1 := _) 11 (fun n => rfl)
  apply Ev.call0 (ls0 := [some (.ref 0), some (.int 4)]) (rest := []) (id := 146) (v1 := some (.int 1)) (M1 := _) (fun n => rfl) ⟨18, rfl⟩
  apply Ev.step (pc' := 26) (ls' := [some (.ref 0), some (.int 4)]) (st' := [.int 4, .ref 0]) (M1 := _) 3 (fun n => rfl)
  apply Ev.call0 (ls0 := [some (.ref 0), some (.int 4)]) (rest := []) (id := 149) (v1 := some (.int 1)) (M1 := _) (fun n => rfl) ⟨26, rfl⟩
  apply Ev.step (pc' := 34) (ls' := [some (.ref 0), some (.int 4)]) (st' := [.int 4, .ref 0]) (M1 := _) 3 (fun n => rfl)
  apply Ev.call0 (ls0 := [some (.ref 0), some (.int 4), none]) (rest := []) (id := 158) (v1 := some (.int 0)) (M1 := _) (fun n => rfl) ⟨10, rfl⟩
  apply Ev.step (pc' := 74) (ls' := [some (.ref 0), some (.int 4)]) (st' := [.int 0]) (M1 := _) 25 (fun n => rfl)
  exact Ev.ret (fun n => rfl)
set_option maxRecDepth 200000 in
set_option maxHeartbeats 4000000 in
theorem r84_14 : ∃ M1, Ev none 999 84 0 [some (.ref 0), some (.int 5)] [] memP (some (.int 0)) M1 0 0 := by
  apply Exists.intro
  apply Ev.step (pc' := 14) (ls' := [some (.ref 0), some (.int 5)]) (st' := [.int 5, .ref 0]) (M1 := _) 7 (fun n => rfl)
  apply Ev.call0 (ls0 := [some (.ref 0), some (.int 5)]) (rest := []) (id := 127) (v1 := some (.int 1)) (M1 := _) (fun n => rfl) ⟨18, rfl⟩
  apply Ev.step (pc' := 25) (ls' := [some (.ref 0), some (.int 5)]) (st' := [.int 5, .ref 8]) (M1 := _) 4 (fun n => rfl)
  apply Ev.call0 (ls0 := [some (.ref 8), some (.int 5)]) (rest := []) (id := 7) (v1 := some (.int 1)) (M1 := _) (fun n => rfl) ⟨15, rfl⟩
  apply Ev.step (pc' := 36) (ls' := [some (.ref 0), some (.int 5)]) (st' := [.int 5, .ref 8]) (M1 := _) 4 (fun n => rfl)
  apply Ev.call0 (ls0 := [some (.ref 8), some (.int 5), none]) (rest := []) (id := 9) (v1 := some (.int 0)) (M1 := _) (fun n => rfl) ⟨8, rfl⟩
  apply Ev.step (pc' := 74) (ls' := [some (.ref 0), some (.int 5)]) (st' := [.int 0]) (M1 := _) 17 (fun n => rfl)
  exact Ev.ret (fun n => rfl)
set_option maxRecDepth 200000 in
set_option maxHeartbeats 4000000 in
theorem r157_15 : ∃ M1, Ev none 999 157 0 [some (.ref 0), some (.int 5)] [] memR (some (.int 0)) M1 0 0 := by
  apply Exists.intro
  apply Ev.step (pc' := 18) (ls' := [some (.ref 0), some (.int 5)]) (st' := [.int 5, .ref 0]) (M1 := _) 11 (fun n => rfl)
  apply Ev.call0 (ls0 := [some (.ref 0), some (.int 5)]) (rest := []) (id := 146) (v1 := some (.int 1)) (M1 := _) (fun n => rfl) ⟨18, rfl⟩
  apply Ev.step (pc' := 26) (ls' := [some (.ref 0), some (.int 5)]) (st' := [.int 5, .ref 0]) (M1 := _) 3 (fun n => rfl)
  apply Ev.call0 (ls0 := [some (.ref 0), some (.int 5)]) (rest := []) (id := 149) (v1 := some (.int 1)) (M1 := _) (fun n => rfl) ⟨26, rfl⟩
  apply Ev.step (pc' := 34) (ls' := [some (.ref 0), some (.int 5)]) (st' := [.int 5, .ref 0]) (M1 := _) 3 (fun n => rfl)
  apply Ev.call0 (ls0 := [some (.ref 0), some (.int 5), none]) (rest := []) (id := 158) (v1 := some (.int 0)) (M1 := _) (fun n => rfl) ⟨10, rfl⟩
  apply Ev.step (pc' := 74) (ls' := [some (.ref 0), some (.int 5)]) (st' := [.int 0]) (M1 := _) 25 (fun n => rfl)
  exact Ev.ret (fun n => rfl)
set_option maxRecDepth 200000 in
set_option maxHeartbeats 4000000 in
theorem r84_16 : ∃ M1, Ev none 999 84 0 [some (.ref 0), some (.int 6)] [] memP (some (.int 0)) M1 0 0 := by
  apply Exists.intro
  apply Ev.step (pc' := 14) (ls' := [some (.ref 0), some (.int 6)]) (st' := [.int 6, .ref 0]) (M1 := _) 7 (fun n => rfl)
  apply Ev.call0 (ls0 := [some (.ref 0), some (.int 6)]) (rest := []) (id := 127) (v1 := some (.int 1)) (M1 := _) (fun n => rfl) ⟨18, rfl⟩
  apply Ev.step (pc' := 25) (ls' := [some (.ref 0), some (.int 6)]) (st' := [.int 6, .ref 8]) (M1 := _) 4 (fun n => rfl)
  apply Ev.call0 (ls0 := [some (.ref 8), some (.int 6)]) (rest := []) (id := 7) (v1 := some (.int 1)) (M1 := _) (fun n => rfl) ⟨15, rfl⟩
  apply Ev.step (pc' := 36) (ls' := [some (.ref 0), some (.int 6)]) (st' := [.int 6, .ref 8]) (M1 := _) 4 (fun n => rfl)
  apply Ev.call0 (ls0 := [some (.ref 8), some (.int 6), none]) (rest := []) (id := 9) (v1 := some (.int 0)) (M1 := _) (fun n => rfl) ⟨8, rfl⟩
  apply Ev.step (pc' := 74) (ls' := [some (.ref 0), some (.int 6)]) (st' := [.int 0]) (M1 := _) 17 (fun n => rfl)
  exact Ev.ret (fun n => rfl)
set_option maxRecDepth 200000 in
set_option maxHeartbeats 4000000 in
theorem r157_17 : ∃ M1, Ev none 999 157 0 [some (.ref 0), some (.int 6)] [] memR (some (.int 0)) M1 0 0 := by
  apply Exists.intro
  apply Ev.step (pc' := 18) (ls' := [some (.ref 0), some (.int 6)]) (st' := [.int 6, .ref 0]) (M1 := _) 11 (fun n => rfl)
  apply Ev.call0 (ls0 := [some (.ref 0), some (.int 6)]) (rest := []) (id := 146) (v1 := some (.int 1)) (M1 := _) (fun n => rfl) ⟨18, rfl⟩
  apply Ev.step (pc' := 26) (ls' := [some (.ref 0), some (.int 6)]) (st' := [.int 6, .ref 0]) (M1 := _) 3 (fun n => rfl)
  apply Ev.call0 (ls0 := [some (.ref 0), some (.int 6)]) (rest := []) (id := 149) (v1 := some (.int 1)) (M1 := _) (fun n => rfl) ⟨26, rfl⟩
  apply Ev.step (pc' := 34) (ls' := [some (.ref 0), some (.int 6)]) (st' := [.int 6, .ref 0]) (M1 := _) 3 (fun n => rfl)
  apply Ev.call0 (ls0 := [some (.ref 0), some (.int 6), none]) (rest := []) (id := 158) (v1 := some (.int 0)) (M1 := _) (fun n => rfl) ⟨10, rfl⟩
  apply Ev.step (pc' := 74) (ls' := [some (.ref 0), some (.int 6)]) (st' := [.int 0]) (M1 := _) 25 (fun n => rfl)
  exact Ev.ret (fun n => rfl)
set_option maxRecDepth 200000 in
set_option maxHeartbeats 4000000 in
theorem r84_18 : ∃ M1, Ev none 999 84 0 [some (.ref 0), some (.int 7)] [] memP (some (.int 0)) M1 0 0 := by
  apply Exists.intro
  apply Ev.step (pc' := 14) (ls' := [some (.ref 0), some (.int 7)]) (st' := [.int 7, .ref 0]) (M1 := _) 7 (fun n => rfl)
  apply Ev.call0 (ls0 := [some (.ref 0), some (.int 7)]) (rest := []) (id := 127) (v1 := some (.int 1)) (M1 := _) (fun n => rfl) ⟨18, rfl⟩
  apply Ev.step (pc' := 25) (ls' := [some (.ref 0), some (.int 7)]) (st' := [.int 7, .ref 8]) (M1 := _) 4 (fun n => rfl)
  apply Ev.call0 (ls0 := [some (.ref 8), some (.int 7)]) (rest := []) (id := 7) (v1 := some (.int 1)) (M1 := _) (fun n => rfl) ⟨15, rfl⟩
  apply Ev.step (pc' := 36) (ls' := [some (.ref 0), some (.int 7)]) (st' := [.int 7, .ref 8]) (M1 := _) 4 (fun n => rfl)
  apply Ev.call0 (ls0 := [some (.ref 8), some (.int 7), none]) (rest := []) (id := 9) (v1 := some (.int 0)) (M1 := _) (fun n => rfl) ⟨8, rfl⟩
  apply Ev.step (pc' := 74) (ls' := [some (.ref 0), some (.int 7)]) (st' := [.int 0]) (M1 := _) 17 (fun n => rfl)
  exact Ev.ret (fun n => rfl)
set_option maxRecDepth 200000 in
set_option maxHeartbeats 4000000 in
theorem r157_19 : ∃ M1, Ev none 999 157 0 [some (.ref 0), some (.int 7)] [] memR (some (.int 0)) M1 0 0 := by
  apply Exists.intro
  apply Ev.step (pc' := 18) (ls' := [some (.ref 0), some (.int 7)]) (st' := [.int 7, .ref 0]) (M1 := _) 11 (fun n => rfl)
  apply Ev.call0 (ls0 := [some (.ref 0), some (.int 7)]) (rest := []) (id := 146) (v1 := some (.int 1)) (M1 := _) (fun n => rfl) ⟨18, rfl⟩
  apply Ev.step (pc' := 26) (ls' := [some (.ref 0), some (.int 7)]) (st' := [.int 7, .ref 0]) (M1 := _) 3 (fun n => rfl)
  apply Ev.call0 (ls0 := [some (.ref 0), some (.int 7)]) (rest := []) (id := 149) (v1 := some (.int 1)) (M1 := _) (fun n => rfl) ⟨26, rfl⟩
  apply Ev.step (pc' := 34) (ls' := [some (.ref 0), some (.int 7)]) (st' := [.int 7, .ref 0]) (M1 := _) 3 (fun n => rfl)
  apply Ev.call0 (ls0 := [some (.ref 0), some (.int 7), none]) (rest := []) (id := 158) (v1 := some (.int 0)) (M1 := _) (fun n => rfl) ⟨10, rfl⟩
  apply Ev.step (pc' := 74) (ls' := [some (.ref 0), some (.int 7)]) (st' := [.int 0]) (M1 := _) 25 (fun n => rfl)
  exact Ev.ret (fun n => rfl)
set_option maxRecDepth 200000 in
set_option maxHeartbeats 4000000 in
theorem r84_20 : ∃ M1, Ev none 999 84 0 [some (.ref 0), some (.int 8)] [] memP (some (.int 0)) M1 0 0 := by
  apply Exists.intro
  apply Ev.step (pc' := 14) (ls' := [some (.ref 0), some (.int 8)]) (st' := [.int 8, .ref 0]) (M1 := _) 7 (fun n => rfl)
  apply Ev.call0 (ls0 := [some (.ref 0), some (.int 8)]) (rest := []) (id := 127) (v1 := some (.int 1)) (M1 := _) (fun n => rfl) ⟨18, rfl⟩
  apply Ev.step (pc' := 25) (ls' := [some (.ref 0), some (.int 8)]) (st' := [.int 8, .ref 8]) (M1 := _) 4 (fun n => rfl)
  apply Ev.call0 (ls0 := [some (.ref 8), some (.int 8)]) (rest := []) (id := 7) (v1 := some (.int 1)) (M1 := _) (fun n => rfl) ⟨15, rfl⟩
  apply Ev.step (pc' := 36) (ls' := [some (.ref 0), some (.int 8)]) (st' := [.int 8, .ref 8]) (M1 := _) 4 (fun n => rfl)
  apply Ev.call0 (ls0 := [some (.ref 8), some (.int 8), none]) (rest := []) (id := 9) (v1 := some (.int 0)) (M1 := _) (fun n => rfl) ⟨8, rfl⟩
  apply Ev.step (pc' := 74) (ls' := [some (.ref 0), some (.int 8)]) (st' := [.int 0]) (M1 := _) 17 (fun n => rfl)
  exact Ev.ret (fun n => rfl)
set_option maxRecDepth 200000 in
set_option maxHeartbeats 4000000 in
theorem r157_21 : ∃ M1, Ev none 999 157 0 [some (.ref 0), some (.int 8)] [] memR (some (.int 0)) M1 0 0 := by
  apply Exists.intro
  apply Ev.step (pc' := 18) (ls' := [some (.ref 0), some (.int 8)]) (st' := [.int 8, .ref 0]) (M1 := _) 11 (fun n => rfl)
  apply Ev.call0 (ls0 := [some (.ref 0), some (.int 8)]) (rest := []) (id := 146) (v1 := some (.int 1)) (M1 := _) (fun n => rfl) ⟨18, rfl⟩
  apply Ev.step (pc' := 26) (ls' := [some (.ref 0), some (.int 8)]) (st' := [.int 8, .ref 0]) (M1 := _) 3 (fun n => rfl)
  apply Ev.call0 (ls0 := [some (.ref 0), some (.int 8)]) (rest := []) (id := 149) (v1 := some (.int 1)) (M1 := _) (fun n => rfl) ⟨26, rfl⟩
  apply Ev.step (pc' := 34) (ls' := [some (.ref 0), some (.int 8)]) (st' := [.int 8, .ref 0]) (M1 := _) 3 (fun n => rfl)
  apply Ev.call0 (ls0 := [some (.ref 0), some (.int 8), none]) (rest := []) (id := 158) (v1 := some (.int 0)) (M1 := _) (fun n => rfl) ⟨10, rfl⟩
  apply Ev.step (pc' := 74) (ls' := [some (.ref 0), some (.int 8)]) (st' := [.int 0]) (M1 := _) 25 (fun n => rfl)
  exact Ev.ret (fun n => rfl)
set_option maxRecDepth 200000 in
set_option maxHeartbeats 4000000 in
theorem r84_22 : ∃ M1, Ev none 999 84 0 [some (.ref 0), some (.int 9)] [] memP (some (.int 0)) M1 0 0 := by
  apply Exists.intro
  apply Ev.step (pc' := 14) (ls' := [some (.ref 0), some (.int 9)]) (st' := [.int 9, .ref 0]) (M1 := _) 7 (fun n => rfl)
  apply Ev.call0 (ls0 := [some (.ref 0), some (.int 9)]) (rest := []) (id := 127) (v1 := some (.int 1)) (M1 := _) (fun n => rfl) ⟨18, rfl⟩
  apply Ev.step (pc' := 25) (ls' := [some (.ref 0), some (.int 9)]) (st' := [.int 9, .ref 8]) (M1 := _) 4 (fun n => rfl)
  apply Ev.call0 (ls0 := [some (.ref 8), some (.int 9)]) (rest := []) (id := 7) (v1 := some (.int 1)) (M1 := _) (fun n => rfl) ⟨15, rfl⟩
  apply Ev.step (pc' := 36) (ls' := [some (.ref 0), some (.int 9)]) (st' := [.int 9, .ref 8]) (M1 := _) 4 (fun n => rfl)
  apply Ev.call0 (ls0 := [some (.ref 8), some (.int 9), none]) (rest := []) (id := 9) (v1 := some (.int 0)) (M1 := _) (fun n => rfl) ⟨8, rfl⟩
  apply Ev.step (pc' := 74) (ls' := [some (.ref 0), some (.int 9)]) (st' := [.int 0]) (M1 := _) 17 (fun n => rfl)
  exact Ev.ret (fun n => rfl)
set_option maxRecDepth 200000 in
set_option maxHeartbeats 4000000 in
theorem r157_23 : ∃ M1, Ev none 999 157 0 [some (.ref 0), some (.int 9)] [] memR (some (.int 0)) M1 0 0 := by
  apply Exists.intro
  apply Ev.step (pc' := 18) (ls' := [some (.ref 0), some (.int 9)]) (st' := [.int 9, .ref 0]) (M1 := _) 11 (fun n => rfl)
  apply Ev.call0 (ls0 := [some (.ref 0), some (.int 9)]) (rest := []) (id := 146) (v1 := some (.int 1)) (M1 := _) (fun n => rfl) ⟨18, rfl⟩
  apply Ev.step (pc' := 26) (ls' := [some (.ref 0), some (.int 9)]) (st' := [.int 9, .ref 0]) (M1 := _) 3 (fun n => rfl)
  apply Ev.call0 (ls0 := [some (.ref 0), some (.int 9)]) (rest := []) (id := 149) (v1 := some (.int 1)) (M1 := _) (fun n => rfl) ⟨26, rfl⟩
  apply Ev.step (pc' := 34) (ls' := [some (.ref 0), some (.int 9)]) (st' := [.int 9, .ref 0]) (M1 := _) 3 (fun n => rfl)
  apply Ev.call0 (ls0 := [some (.ref 0), some (.int 9), none]) (rest := []) (id := 158) (v1 := some (.int 0)) (M1 := _) (fun n => rfl) ⟨10, rfl⟩
  apply Ev.step (pc' := 74) (ls' := [some (.ref 0), some (.int 9)]) (st' := [.int 0]) (M1 := _) 25 (fun n => rfl)
  exact Ev.ret (fun n => rfl)
set_option maxRecDepth 200000 in
set_option maxHeartbeats 4000000 in
theorem r84_24 : ∃ M1, Ev none 999 84 0 [some (.ref 0), some (.int 10)] [] memP (some (.int 0)) M1 0 0 := by
  apply Exists.intro
  apply Ev.step (pc' := 14) (ls' := [some (.ref 0), some (.int 10)]) (st' := [.int 10, .ref 0]) (M1 := _) 7 (fun n => rfl)
  apply Ev.call0 (ls0 := [some (.ref 0), some (.int 10)]) (rest := []) (id := 127) (v1 := some (.int 1)) (M1 := _) (fun n => rfl) ⟨18, rfl⟩
  apply Ev.step (pc' := 25) (ls' := [some (.ref 0), some (.int 10)]) (st' := [.int 10, .ref 8]) (M1 := _) 4 (fun n => rfl)
  apply Ev.call0 (ls0 := [some (.ref 8), some (.int 10)]) (rest := []) (id := 7) (v1 := some (.int 1)) (M1 := _) (fun n => rfl) ⟨15, rfl⟩
  apply Ev.step (pc' := 36) (ls' := [some (.ref 0), some (.int 10)]) (st' := [.int 10, .ref 8]) (M1 := _) 4 (fun n => rfl)
  apply Ev.call0 (ls0 := [some (.ref 8), some (.int 10), none]) (rest := []) (id := 9) (v1 := some (.int 0)) (M1 := _) (fun n => rfl) ⟨8, rfl⟩
  apply Ev.step (pc' := 74) (ls' := [some (.ref 0), some (.int 10)]) (st' := [.int 0]) (M1 := _) 17 (fun n => rfl)
  exact Ev.ret (fun n => rfl)
set_option maxRecDepth 200000 in
set_option maxHeartbeats 4000000 in
theorem r157_25 : ∃ M1, Ev none 999 157 0 [some (.ref 0), some (.int 10)] [] memR (some (.int 0)) M1 0 0 := by
  apply Exists.intro
  apply Ev.step (pc' := 18) (ls' := [some (.ref 0), some (.int 10)]) (st' := [.int 10, .ref 0]) (M1 := _) 11 (fun n => rfl)
  apply Ev.call0 (ls0 := [some (.ref 0), some (.int 10)]) (rest := []) (id := 146) (v1 := some (.int 1)) (M1 := _) (fun n => rfl) ⟨18, rfl⟩
  apply Ev.step (pc' := 26) (ls' := [some (.ref 0), some (.int 10)]) (st' := [.int 10, .ref 0]) (M1 := _) 3 (fun n => rfl)
  apply Ev.call0 (ls0 := [some (.ref 0), some (.int 10)]) (rest := []) (id := 149) (v1 := some (.int 1)) (M1 := _) (fun n => rfl) ⟨26, rfl⟩
  apply Ev.step (pc' := 34) (ls' := [some (.ref 0), some (.int 10)]) (st' := [.int 10, .ref 0]) (M1 := _) 3 (fun n => rfl)
  apply Ev.call0 (ls0 := [some (.ref 0), some (.int 10), none]) (rest := []) (id := 158) (v1 := some (.int 0)) (M1 := _) (fun n => rfl) ⟨10, rfl⟩
  apply Ev.step (pc' := 74) (ls' := [some (.ref 0), some (.int 10)]) (st' := [.int 0]) (M1 := _) 25 (fun n => rfl)
  exact Ev.ret (fun n => rfl)
set_option maxRecDepth 200000 in
set_option maxHeartbeats 4000000 in
theorem r84_26 : ∃ M1, Ev none 999 84 0 [some (.ref 0), some (.int 11)] [] memP (some (.int 0)) M1 0 0 := by
  apply Exists.intro
  apply Ev.step (pc' := 14) (ls' := [some (.ref 0), some (.int 11)]) (st' := [.int 11, .ref 0]) (M1 := _) 7 (fun n => rfl)
  apply Ev.call0 (ls0 := [some (.ref 0), some (.int 11)]) (rest := []) (id := 127) (v1 := some (.int 1)) (M1 := _) (fun n => rfl) ⟨18, rfl⟩
  apply Ev.step (pc' := 25) (ls' := [some (.ref 0), some (.int 11)]) (st' := [.int 11, .ref 8]) (M1 := _) 4 (fun n => rfl)
  apply Ev.call0 (ls0 := [some (.ref 8), some (.int 11)]) (rest := []) (id := 7) (v1 := some (.int 1)) (M1 := _) (fun n => rfl) ⟨15, rfl⟩
  apply Ev.step (pc' := 36) (ls' := [some (.ref 0), some (.int 11)]) (st' := [.int 11, .ref 8]) (M1 := _) 4 (fun n => rfl)
  apply Ev.call0 (ls0 := [some (.ref 8), some (.int 11), none]) (rest := []) (id := 9) (v1 := some (.int 0)) (M1 := _) (fun n => rfl) ⟨8, rfl⟩
  apply Ev.step (pc' := 74) (ls' := [some (.ref 0), some (.int 11)]) (st' := [.int 0]) (M1 := _) 17 (fun n => rfl)
  exact Ev.ret (fun n => rfl)
set_option maxRecDepth 200000 in
set_option maxHeartbeats 4000000 in
theorem r157_27 : ∃ M1, Ev none 999 157 0 [some (.ref 0), some (.int 11)] [] memR (some (.int 0)) M1 0 0 := by
  apply Exists.intro
  apply Ev.step (pc' := 18) (ls' := [some (.ref 0), some (.int 11)]) (st' := [.int 11, .ref 0]) (M1 := _) 11 (fun n => rfl)
  apply Ev.call0 (ls0 := [some (.ref 0), some (.int 11)]) (rest := []) (id := 146) (v1 := some (.int 1)) (M1 := _) (fun n => rfl) ⟨18, rfl⟩
  apply Ev.step (pc' := 26) (ls' := [some (.ref 0), some (.int 11)]) (st' := [.int 11, .ref 0]) (M1 := _) 3 (fun n => rfl)
  apply Ev.call0 (ls0 := [some (.ref 0), some (.int 11)]) (rest := []) (id := 149) (v1 := some (.int 1)) (M1 := _) (fun n => rfl) ⟨26, rfl⟩
  apply Ev.step (pc' := 34) (ls' := [some (.ref 0), some (.int 11)]) (st' := [.int 11, .ref 0]) (M1 := _) 3 (fun n => rfl)
  apply Ev.call0 (ls0 := [some (.ref 0), some (.int 11), none]) (rest := []) (id := 158) (v1 := some (.int 0)) (M1 := _) (fun n => rfl) ⟨10, rfl⟩
  apply Ev.step (pc' := 74) (ls' := [some (.ref 0), some (.int 11)]) (st' := [.int 0]) (M1 := _) 25 (fun n => rfl)
  exact Ev.ret (fun n => rfl)
set_option maxRecDepth 200000 in
set_option maxHeartbeats 4000000 in
theorem r84_28 : ∃ M1, Ev none 999 84 0 [some (.ref 0), some (.int 12)] [] memP (some (.int 0)) M1 0 0 := by
  apply Exists.intro
  apply Ev.step (pc' := 14) (ls' := [some (.ref 0), some (.int 12)]) (st' := [.int 12, .ref 0]) (M1 := _) 7 (fun n => rfl)
  apply Ev.call0 (ls0 := [some (.ref 0), some (.int 12)]) (rest := []) (id := 127) (v1 := some (.int 1)) (M1 := _) (fun n => rfl) ⟨18, rfl⟩
  apply Ev.step (pc' := 25) (ls' := [some (.ref 0), some (.int 12)]) (st' := [.int 12, .ref 8]) (M1 := _) 4 (fun n => rfl)
  apply Ev.call0 (ls0 := [some (.ref 8), some (.int 12)]) (rest := []) (id := 7) (v1 := some (.int 1)) (M1 := _) (fun n => rfl) ⟨15, rfl⟩
  apply Ev.step (pc' := 36) (ls' := [some (.ref 0), some (.int 12)]) (st' := [.int 12, .ref 8]) (M1 := _) 4 (fun n => rfl)
  apply Ev.call0 (ls0 := [some (.ref 8), some (.int 12), none]) (rest := []) (id := 9) (v1 := some (.int 0)) (M1 := _) (fun n => rfl) ⟨8, rfl⟩
  apply Ev.step (pc' := 74) (ls' := [some (.ref 0), some (.int 12)]) (st' := [.int 0]) (M1 := _) 17 (fun n => rfl)
  exact Ev.ret (fun n => rfl)
set_option maxRecDepth 200000 in
set_option maxHeartbeats 4000000 in
theorem r157_29 : ∃ M1, Ev none 999 157 0 [some (.ref 0), some (.int 12)] [] memR (some (.int 0)) M1 0 0 := by
  apply Exists.intro
  apply Ev.step (pc' := 18) (ls' := [some (.ref 0), some (.int 12)]) (st' := [.int 12, .ref 0]) (M1 := _) 11 (fun n => rfl)
  apply Ev.call0 (ls0 := [some (.ref 0), some (.int 12)]) (rest := []) (id := 146) (v1 := some (.int 1)) (M1 := _) (fun n => rfl) ⟨18, rfl⟩
  apply Ev.step (pc' := 26) (ls' := [some (.ref 0), some (.int 12)]) (st' := [.int 12, .ref 0]) (M1 := _) 3 (fun n => rfl)
  apply Ev.call0 (ls0 := [some (.ref 0), some (.int 12)]) (rest := []) (id := 149) (v1 := some (.int 1)) (M1 := _) (fun n => rfl) ⟨26, rfl⟩
  apply Ev.step (pc' := 34) (ls' := [some (.ref 0), some (.int 12)]) (st' := [.int 12, .ref 0]) (M1 := _) 3 (fun n => rfl)
  apply Ev.call0 (ls0 := [some (.ref 0), some (.int 12), none]) (rest := []) (id := 158) (v1 := some (.int 0)) (M1 := _) (fun n => rfl) ⟨10, rfl⟩
  apply Ev.step (pc' := 74) (ls' := [some (.ref 0), some (.int 12)]) (st' := [.int 0]) (M1 := _) 25 (fun n => rfl)
  exact Ev.ret (fun n => rfl)
set_option maxRecDepth 200000 in
set_option maxHeartbeats 4000000 in
theorem r84_30 : ∃ M1, Ev none 999 84 0 [some (.ref 0), some (.int 13)] [] memP (some (.int 0)) M1 0 0 := by
  apply Exists.intro
  apply Ev.step (pc' := 14) (ls' := [some (.ref 0), some (.int 13)]) (st' := [.int 13, .ref 0]) (M1 := _) 7 (fun n => rfl)
  apply Ev.call0 (ls0 := [some (.ref 0), some (.int 13)]) (rest := []) (id := 127) (v1 := some (.int 1)) (M1 := _) (fun n => rfl) ⟨18, rfl⟩
  apply Ev.step (pc' := 25) (ls' := [some (.ref 0), some (.int 13)]) (st' := [.int 13, .ref 8]) (M1 := _) 4 (fun n => rfl)
  apply Ev.call0 (ls0 := [some (.ref 8), some (.int 13)]) (rest := []) (id := 7) (v1 := some (.int 1)) (M1 := _) (fun n => rfl) ⟨15, rfl⟩
  apply Ev.step (pc' := 36) (ls' := [some (.ref 0), some (.int 13)]) (st' := [.int 13, .ref 8]) (M1 := _) 4 (fun n => rfl)
  apply Ev.call0 (ls0 := [some (.ref 8), some (.int 13), none]) (rest := []) (id := 9) (v1 := some (.int 0)) (M1 := _) (fun n => rfl) ⟨8, rfl⟩
  apply Ev.step (pc' := 74) (ls' := [some (.ref 0), some (.int 13)]) (st' := [.int 0]) (M1 := _) 17 (fun n => rfl)
  exact Ev.ret (fun n => rfl)
set_option maxRecDepth 200000 in
set_option maxHeartbeats 4000000 in
theorem r157_31 : ∃ M1, Ev none 999 157 0 [some (.ref 0), some (.int 13)] [] memR (some (.int 0)) M1 0 0 := by
  apply Exists.intro
  apply Ev.step (pc' := 18) (ls' := [some (.ref 0), some (.int 13)]) (st' := [.int 13, .ref 0]) (M1 := _) 11 (fun n => rfl)
  apply Ev.call0 (ls0 := [some (.ref 0), some (.int 13)]) (rest := []) (id := 146) (v1 := some (.int 1)) (M1 := _) (fun n => rfl) ⟨18, rfl⟩
  apply Ev.step (pc' := 26) (ls' := [some (.ref 0), some (.int 13)]) (st' := [.int 13, .ref 0]) (M1 := _) 3 (fun n => rfl)
  apply Ev.call0 (ls0 := [some (.ref 0), some (.int 13)]) (rest := []) (id := 149) (v1 := some (.int 1)) (M1 := _) (fun n => rfl) ⟨26, rfl⟩
  apply Ev.step (pc' := 34) (ls' := [some (.ref 0), some (.int 13)]) (st' := [.int 13, .ref 0]) (M1 := _) 3 (fun n => rfl)
  apply Ev.call0 (ls0 := [some (.ref 0), some (.int 13), none]) (rest := []) (id := 158) (v1 := some (.int 0)) (M1 := _) (fun n => rfl) ⟨10, rfl⟩
  apply Ev.step (pc' := 74) (ls' := [some (.ref 0), some (.int 13)]) (st' := [.int 0]) (M1 := _) 25 (fun n => rfl)
  exact Ev.ret (fun n => rfl)
set_option maxRecDepth 200000 in
set_option maxHeartbeats 4000000 in
theorem r84_32 : ∃ M1, Ev none 999 84 0 [some (.ref 0), some (.int 14)] [] memP (some (.int 0)) M1 0 0 := by
  apply Exists.intro
  apply Ev.step (pc' := 14) (ls' := [some (.ref 0), some (.int 14)]) (st' := [.int 14, .ref 0]) (M1 := _) 7 (fun n => rfl)
  apply Ev.call0 (ls0 := [some (.ref 0), some (.int 14)]) (rest := []) (id := 127) (v1 := some (.int 1)) (M1 := _) (fun n => rfl) ⟨18, rfl⟩
  apply Ev.step (pc' := 25) (ls' := [some (.ref 0), some (.int 14)]) (st' := [.int 14, .ref 8]) (M1 := _) 4 (fun n => rfl)
  apply Ev.call0 (ls0 := [some (.ref 8), some (.int 14)]) (rest := []) (id := 7) (v1 := some (.int 1)) (M1 := _) (fun n => rfl) ⟨15, rfl⟩
  apply Ev.step (pc' := 36) (ls' := [some (.ref 0), some (.int 14)]) (st' := [.int 14, .ref 8]) (M1 := _) 4 (fun n => rfl)
  apply Ev.call0 (ls0 := [some (.ref 8), some (.int 14), none]) (rest := []) (id := 9) (v1 := some (.int 0)) (M1 := _) (fun n => rfl) ⟨8, rfl⟩
  apply Ev.step (pc' := 74) (ls' := [some (.ref 0), some (.int 14)]) (st' := [.int 0]) (M1 := _) 17 (fun n => rfl)
  exact Ev.ret (fun n => rfl)
set_option maxRecDepth 200000 in
set_option maxHeartbeats 4000000 in
theorem r157_33 : ∃ M1, Ev none 999 157 0 [some (.ref 0), some (.int 14)] [] memR (some (.int 0)) M1 0 0 := by
  apply Exists.intro
  apply Ev.step (pc' := 18) (ls' := [some (.ref 0), some (.int 14)]) (st' := [.int 14, .ref 0]) (M1 := _) 11 (fun n => rfl)
  apply Ev.call0 (ls0 := [some (.ref 0), some (.int 14)]) (rest := []) (id := 146) (v1 := some (.int 1)) (M1 := _) (fun n => rfl) ⟨18, rfl⟩
  apply Ev.step (pc' := 26) (ls' := [some (.ref 0), some (.int 14)]) (st' := [.int 14, .ref 0]) (M1 := _) 3 (fun n => rfl)
  apply Ev.call0 (ls0 := [some (.ref 0), some (.int 14)]) (rest := []) (id := 149) (v1 := some (.int 1)) (M1 := _) (fun n => rfl) ⟨26, rfl⟩
  apply Ev.step (pc' := 34) (ls' := [some (.ref 0), some (.int 14)]) (st' := [.int 14, .ref 0]) (M1 := _) 3 (fun n => rfl)
  apply Ev.call0 (ls0 := [some (.ref 0), some (.int 14), none]) (rest := []) (id := 158) (v1 := some (.int 0)) (M1 := _) (fun n => rfl) ⟨10, rfl⟩
  apply Ev.step (pc' := 74) (ls' := [some (.ref 0), some (.int 14)]) (st' := [.int 0]) (M1 := _) 25 (fun n => rfl)
  exact Ev.ret (fun n => rfl)
set_option maxRecDepth 200000 in
set_option maxHeartbeats 4000000 in
theorem r84_34 : ∃ M1, Ev none 999 84 0 [some (.ref 0), some (.int 15)] [] memP (some (.int 0)) M1 0 0 := by
  apply Exists.intro
  apply Ev.step (pc' := 14) (ls' := [some (.ref 0), some (.int 15)]) (st' := [.int 15, .ref 0]) (M1 := _) 7 (fun n => rfl)
  apply Ev.call0 (ls0 := [some (.ref 0), some (.int 15)]) (rest := []) (id := 127) (v1 := some (.int 1)) (M1 := _) (fun n => rfl) ⟨18, rfl⟩
  apply Ev.step (pc' := 25) (ls' := [some (.ref 0), some (.int 15)]) (st' := [.int 15, .ref 8]) (M1 := _) 4 (fun n => rfl)
  apply Ev.call0 (ls0 := [some (.ref 8), some (.int 15)]) (rest := []) (id := 7) (v1 := some (.int 1)) (M1 := _) (fun n => rfl) ⟨15, rfl⟩
  apply Ev.step (pc' := 36) (ls' := [some (.ref 0), some (.int 15)]) (st' := [.int 15, .ref 8]) (M1 := _) 4 (fun n => rfl)
  apply Ev.call0 (ls0 := [some (.ref 8), some (.int 15), none]) (rest := []) (id := 9) (v1 := some (.int 0)) (M1 := _) (fun n => rfl) ⟨8, rfl⟩
  apply Ev.step (pc' := 74) (ls' := [some (.ref 0), some (.int 15)]) (st' := [.int 0]) (M1 := _) 17 (fun n => rfl)
  exact Ev.ret (fun n => rfl)
set_option maxRecDepth 200000 in
set_option maxHeartbeats 4000000 in
theorem r157_35 : ∃ M1, Ev none 999 157 0 [some (.ref 0), some (.int 15)] [] memR (some (.int 0)) M1 0 0 := by
  apply Exists.intro
  apply Ev.step (pc' := 18) (ls' := [some (.ref 0), some (.int 15)]) (st' := [.int 15, .ref 0]) (M1 := _) 11 (fun n => rfl)
  apply Ev.call0 (ls0 := [some (.ref 0), some (.int 15)]) (rest := []) (id := 146) (v1 := some (.int 1)) (M1 := _) (fun n => rfl) ⟨18, rfl⟩
  apply Ev.step (pc' := 26) (ls' := [some (.ref 0), some (.int 15)]) (st' := [.int 15, .ref 0]) (M1 := _) 3 (fun n => rfl)
  apply Ev.call0 (ls0 := [some (.ref 0), some (.int 15)]) (rest := []) (id := 149) (v1 := some (.int 1)) (M1 := _) (fun n => rfl) ⟨26, rfl⟩
  apply Ev.step (pc' := 34) (ls' := [some (.ref 0), some (.int 15)]) (st' := [.int 15, .ref 0]) (M1 := _) 3 (fun n => rfl)
  apply Ev.call0 (ls0 := [some (.ref 0), some (.int 15), none]) (rest := []) (id := 158) (v1 := some (.int 0)) (M1 := _) (fun n => rfl) ⟨10, rfl⟩
  apply Ev.step (pc' := 74) (ls' := [some (.ref 0), some (.int 15)]) (st' := [.int 0]) (M1 := _) 25 (fun n => rfl)
  exact Ev.ret (fun n => rfl)
set_option maxRecDepth 200000 in
set_option maxHeartbeats 4000000 in
theorem ok_3 {x0 x1 x2 x3 x4 x5 : Int32} (hj : x0 &&& 63 = nI 3) : Okk x0 x1 x2 x3 x4 x5 := by
  by_cases h1 : x1 < 0
  · skip
    obtain ⟨M1, A⟩ := (r84_0 x1 h1)
    obtain ⟨M2, B⟩ := (r157_1 x1 h1)
    exact lc_3 hj A B
  · skip
    by_cases h2 : 15 < x1
    · skip
      obtain ⟨M1, A⟩ := (r84_2 x1 h1 h2)
      obtain ⟨M2, B⟩ := (r157_3 x1 h1 h2)
      exact lc_3 hj A B
    · skip
      rcases pick_0_15 h1 h2 with rfl | rfl | rfl | rfl | rfl | rfl | rfl | rfl | rfl | rfl | rfl | rfl | rfl | rfl | rfl | rfl
      · skip
        obtain ⟨M1, A⟩ := r84_4
        obtain ⟨M2, B⟩ := r157_5
        exact lc_3 hj A B
      · skip
        obtain ⟨M1, A⟩ := r84_6
        obtain ⟨M2, B⟩ := r157_7
        exact lc_3 hj A B
      · skip
        obtain ⟨M1, A⟩ := r84_8
        obtain ⟨M2, B⟩ := r157_9
        exact lc_3 hj A B
      · skip
        obtain ⟨M1, A⟩ := r84_10
        obtain ⟨M2, B⟩ := r157_11
        exact lc_3 hj A B
      · skip
        obtain ⟨M1, A⟩ := r84_12
        obtain ⟨M2, B⟩ := r157_13
        exact lc_3 hj A B
      · skip
        obtain ⟨M1, A⟩ := r84_14
        obtain ⟨M2, B⟩ := r157_15
        exact lc_3 hj A B
      · skip
        obtain ⟨M1, A⟩ := r84_16
        obtain ⟨M2, B⟩ := r157_17
        exact lc_3 hj A B
      · skip
        obtain ⟨M1, A⟩ := r84_18
        obtain ⟨M2, B⟩ := r157_19
        exact lc_3 hj A B
      · skip
        obtain ⟨M1, A⟩ := r84_20
        obtain ⟨M2, B⟩ := r157_21
        exact lc_3 hj A B
      · skip
        obtain ⟨M1, A⟩ := r84_22
        obtain ⟨M2, B⟩ := r157_23
        exact lc_3 hj A B
      · skip
        obtain ⟨M1, A⟩ := r84_24
        obtain ⟨M2, B⟩ := r157_25
        exact lc_3 hj A B
      · skip
        obtain ⟨M1, A⟩ := r84_26
        obtain ⟨M2, B⟩ := r157_27
        exact lc_3 hj A B
      · skip
        obtain ⟨M1, A⟩ := r84_28
        obtain ⟨M2, B⟩ := r157_29
        exact lc_3 hj A B
      · skip
        obtain ⟨M1, A⟩ := r84_30
        obtain ⟨M2, B⟩ := r157_31
        exact lc_3 hj A B
      · skip
        obtain ⟨M1, A⟩ := r84_32
        obtain ⟨M2, B⟩ := r157_33
        exact lc_3 hj A B
      · skip
        obtain ⟨M1, A⟩ := r84_34
        obtain ⟨M2, B⟩ := r157_35
        exact lc_3 hj A B
set_option maxRecDepth 200000 in
set_option maxHeartbeats 4000000 in
theorem r108_0 (x1 x2 : Int32) (g0 : x1 < 0) : ∃ M1, Ev none 999 108 0 [some (.ref 0), some (.int (x1)), some (.int (x2)), none] [] memP (some (.int (-2))) M1 0 0 := by
  apply Exists.intro
  apply Ev.step (pc' := 3) (ls' := [some (.ref 0), some (.int (x1)), some (.int (x2)), none]) (st' := [.int (x2), .int (x1), .ref 0]) (M1 := _) 3 (fun n => rfl)
  apply Ev.call0 (ls0 := [some (.ref 0), some (.int (x1)), some (.int (x2)), none, none]) (rest := []) (id := 109) (v1 := some (.int 0))  (fun n => rfl)
  · apply Ev.step (pc' := 2) (ls' := [some (.ref 0), some (.int (x1)), some (.int (x2)), none, none]) (st' := [.int (x1), .ref 0]) (M1 := _) 2 (fun n => rfl)
    apply Ev.call0 (ls0 := [some (.ref 0), some (.int (x1))]) (rest := []) (id := 127) (v1 := some (.int 0))  (fun n => rfl)
    · apply Ev.step (pc' := 6) (ls' := [some (.ref 0), some (.int (x1))]) (st' := [.ref 8, .int 0, .int (x1)]) (M1 := _) 4 (fun n => rfl)
      apply Ev.call0 (ls0 := [some (.ref 8)]) (rest := [.int 0, .int (x1)]) (id := 6) (v1 := some (.int 16)) (M1 := _) (fun n => rfl) ⟨6, rfl⟩
      apply Ev.step (pc' := 11) (ls' := [some (.ref 0), some (.int (x1))]) (st' := [.int 15, .int 0, .int (x1)]) (M1 := _) 2 (fun n => rfl)
      apply Ev.call0 (ls0 := [some (.int (x1)), some (.int 0), some (.int 15)]) (rest := []) (id := 126) (v1 := some (.int 0))  (fun n => rfl)
      · apply Ev.step (pc' := 2) (ls' := [some (.int (x1)), some (.int 0), some (.int 15)]) (st' := [.int 0, .int (x1)]) (M1 := _) 2 (fun n => rfl)
        apply Ev.step (pc' := if x1 < 0 then 14 else 5) (ls' := [some (.int (x1)), some (.int 0), some (.int 15)]) (st' := []) (M1 := _) 1 (fun n => rfl)
        rw [if_pos g0]
        apply Ev.step (pc' := 15) (ls' := [some (.int (x1)), some (.int 0), some (.int 15)]) (st' := [.int 0]) (M1 := _) 1 (fun n => rfl)
        exact Ev.ret (fun n => rfl)
      exact Ev.ret (fun n => rfl)
    apply Ev.step (pc' := 35) (ls' := [some (.ref 0), some (.int (x1)), some (.int (x2)), none, none]) (st' := [.int 0]) (M1 := _) 2 (fun n => rfl)
    exact Ev.ret (fun n => rfl)
  apply Ev.step (pc' := 30) (ls' := [some (.ref 0), some (.int (x1)), some (.int (x2)), some (.int (-2))]) (st' := [.int (-2)]) (M1 := _) 8 (fun n => rfl)
  exact Ev.ret (fun n => rfl)
set_option maxRecDepth 200000 in
set_option maxHeartbeats 4000000 in
theorem r236_1 (x1 x2 : Int32) (g0 : x1 < 0) : ∃ M1, Ev none 999 236 0 [some (.ref 0), some (.int (x1)), some (.int (x2)), none, none, none] [] memR (some (.int (-2))) M1 0 0 := by
  apply Exists.intro
  apply Ev.step (pc' := 6) (ls' := [some (.ref 0), some (.int (x1)), some (.int (x2)), none, none, none]) (st' := [.ref 0]) (M1 := _) 4 (fun n => rfl)
  apply Ev.call0 (ls0 := [some (.ref 0)]) (rest := []) (id := 140) (v1 := none) (M1 := _) (fun n => rfl) ⟨11, rfl⟩
  apply Ev.step (pc' := 11) (ls' := [some (.ref 0), some (.int (x1)), some (.int (x2)), none, none, none]) (st' := [.int (x1), .ref 0]) (M1 := _) 2 (fun n => rfl)
  apply Ev.call0 (ls0 := [some (.ref 0), some (.int (x1))]) (rest := []) (id := 146) (v1 := some (.int 0))  (fun n => rfl)
  · apply Ev.step (pc' := 3) (ls' := [some (.ref 0), some (.int (x1))]) (st' := [.ref 0, .int 0, .int (x1)]) (M1 := _) 3 (fun n => rfl)
    apply Ev.call0 (ls0 := [some (.ref 0)]) (rest := [.int 0, .int (x1)]) (id := 145) (v1 := some (.int 16)) (M1 := _) (fun n => rfl) ⟨10, rfl⟩
    apply Ev.step (pc' := 8) (ls' := [some (.ref 0), some (.int (x1))]) (st' := [.int 15, .int 0, .int (x1)]) (M1 := _) 2 (fun n => rfl)
    apply Ev.call0 (ls0 := [some (.int (x1)), some (.int 0), some (.int 15)]) (rest := []) (id := 141) (v1 := some (.int 0))  (fun n => rfl)
    · apply Ev.step (pc' := 2) (ls' := [some (.int (x1)), some (.int 0), some (.int 15)]) (st' := [.int 0, .int (x1)]) (M1 := _) 2 (fun n => rfl)
      apply Ev.step (pc' := if x1 < 0 then 14 else 5) (ls' := [some (.int (x1)), some (.int 0), some (.int 15)]) (st' := []) (M1 := _) 1 (fun n => rfl)
      rw [if_pos g0]
      apply Ev.step (pc' := 15) (ls' := [some (.int (x1)), some (.int 0), some (.int 15)]) (st' := [.int 0]) (M1 := _) 1 (fun n => rfl)
      exact Ev.ret (fun n => rfl)
    exact Ev.ret (fun n => rfl)
  apply Ev.step (pc' := 42) (ls' := [some (.ref 0), some (.int (x1)), some (.int (x2)), none, none, none]) (st' := [.int (-2)]) (M1 := _) 2 (fun n => rfl)
  exact Ev.ret (fun n => rfl)
set_option maxRecDepth 200000 in
set_option maxHeartbeats 4000000 in
theorem r108_2 (x1 x2 : Int32) (g0 : ¬ x1 < 0) (g1 : 15 < x1) : ∃ M1, Ev none 999 108 0 [some (.ref 0), some (.int (x1)), some (.int (x2)), none] [] memP (some (.int (-2))) M1 0 0 := by
  apply Exists.intro
  apply Ev.step (pc' := 3) (ls' := [some (.ref 0), some (.int (x1)), some (.int (x2)), none]) (st' := [.int (x2), .int (x1), .ref 0]) (M1 := _) 3 (fun n => rfl)
  apply Ev.call0 (ls0 := [some (.ref 0), some (.int (x1)), some (.int (x2)), none, none]) (rest := []) (id := 109) (v1 := some (.int 0))  (fun n => rfl)
  · apply Ev.step (pc' := 2) (ls' := [some (.ref 0), some (.int (x1)), some (.int (x2)), none, none]) (st' := [.int (x1), .ref 0]) (M1 := _) 2 (fun n => rfl)
    apply Ev.call0 (ls0 := [some (.ref 0), some (.int (x1))]) (rest := []) (id := 127) (v1 := some (.int 0))  (fun n => rfl)
    · apply Ev.step (pc' := 6) (ls' := [some (.ref 0), some (.int (x1))]) (st' := [.ref 8, .int 0, .int (x1)]) (M1 := _) 4 (fun n => rfl)
      apply Ev.call0 (ls0 := [some (.ref 8)]) (rest := [.int 0, .int (x1)]) (id := 6) (v1 := some (.int 16)) (M1 := _) (fun n => rfl) ⟨6, rfl⟩
      apply Ev.step (pc' := 11) (ls' := [some (.ref 0), some (.int (x1))]) (st' := [.int 15, .int 0, .int (x1)]) (M1 := _) 2 (fun n => rfl)
      apply Ev.call0 (ls0 := [some (.int (x1)), some (.int 0), some (.int 15)]) (rest := []) (id := 126) (v1 := some (.int 0))  (fun n => rfl)
      · apply Ev.step (pc' := 2) (ls' := [some (.int (x1)), some (.int 0), some (.int 15)]) (st' := [.int 0, .int (x1)]) (M1 := _) 2 (fun n => rfl)
        apply Ev.step (pc' := if x1 < 0 then 14 else 5) (ls' := [some (.int (x1)), some (.int 0), some (.int 15)]) (st' := []) (M1 := _) 1 (fun n => rfl)
        rw [if_neg g0]
        apply Ev.step (pc' := 7) (ls' := [some (.int (x1)), some (.int 0), some (.int 15)]) (st' := [.int 15, .int (x1)]) (M1 := _) 2 (fun n => rfl)
        apply Ev.step (pc' := if 15 < x1 then 14 else 10) (ls' := [some (.int (x1)), some (.int 0), some (.int 15)]) (st' := []) (M1 := _) 1 (fun n => rfl)
        rw [if_pos g1]
        apply Ev.step (pc' := 15) (ls' := [some (.int (x1)), some (.int 0), some (.int 15)]) (st' := [.int 0]) (M1 := _) 1 (fun n => rfl)
        exact Ev.ret (fun n => rfl)
      exact Ev.ret (fun n => rfl)
    apply Ev.step (pc' := 35) (ls' := [some (.ref 0), some (.int (x1)), some (.int (x2)), none, none]) (st' := [.int 0]) (M1 := _) 2 (fun n => rfl)
    exact Ev.ret (fun n => rfl)
  apply Ev.step (pc' := 30) (ls' := [some (.ref 0), some (.int (x1)), some (.int (x2)), some (.int (-2))]) (st' := [.int (-2)]) (M1 := _) 8 (fun n => rfl)
  exact Ev.ret (fun n => rfl)
set_option maxRecDepth 200000 in
set_option maxHeartbeats 4000000 in
theorem r236_3 (x1 x2 : Int32) (g0 : ¬ x1 < 0) (g1 : 15 < x1) : ∃ M1, Ev none 999 236 0 [some (.ref 0), some (.int (x1)), some (.int (x2)), none, none, none] [] memR (some (.int (-2))) M1 0 0 := by
  apply Exists.intro
  apply Ev.step (pc' := 6) (ls' := [some (.ref 0), some (.int (x1)), some (.int (x2)), none, none, none]) (st' := [.ref 0]) (M1 := _) 4 (fun n => rfl)
  apply Ev.call0 (ls0 := [some (.ref 0)]) (rest := []) (id := 140) (v1 := none) (M1 := _) (fun n => rfl) ⟨11, rfl⟩
  apply Ev.step (pc' := 11) (ls' := [some (.ref 0), some (.int (x1)), some (.int (x2)), none, none, none]) (st' := [.int (x1), .ref 0]) (M1 := _) 2 (fun n => rfl)
  apply Ev.call0 (ls0 := [some (.ref 0), some (.int (x1))]) (rest := []) (id := 146) (v1 := some (.int 0))  (fun n => rfl)
  · apply Ev.step (pc' := 3) (ls' := [some (.ref 0), some (.int (x1))]) (st' := [.ref 0, .int 0, .int (x1)]) (M1 := _) 3 (fun n => rfl)
    apply Ev.call0 (ls0 := [some (.ref 0)]) (rest := [.int 0, .int (x1)]) (id := 145) (v1 := some (.int 16)) (M1 := _) (fun n => rfl) ⟨10, rfl⟩
    apply Ev.step (pc' := 8) (ls' := [some (.ref 0), some (.int (x1))]) (st' := [.int 15, .int 0, .int (x1)]) (M1 := _) 2 (fun n => rfl)
    apply Ev.call0 (ls0 := [some (.int (x1)), some (.int 0), some (.int 15)]) (rest := []) (id := 141) (v1 := some (.int 0))  (fun n => rfl)
    · apply Ev.step (pc' := 2) (ls' := [some (.int (x1)), some (.int 0), some (.int 15)]) (st' := [.int 0, .int (x1)]) (M1 := _) 2 (fun n => rfl)
      apply Ev.step (pc' := if x1 < 0 then 14 else 5) (ls' := [some (.int (x1)), some (.int 0), some (.int 15)]) (st' := []) (M1 := _) 1 (fun n => rfl)
      rw [if_neg g0]
      apply Ev.step (pc' := 7) (ls' := [some (.int (x1)), some (.int 0), some (.int 15)]) (st' := [.int 15, .int (x1)]) (M1 := _) 2 (fun n => rfl)
      apply Ev.step (pc' := if 15 < x1 then 14 else 10) (ls' := [some (.int (x1)), some (.int 0), some (.int 15)]) (st' := []) (M1 := _) 1 (fun n => rfl)
      rw [if_pos g1]
      apply Ev.step (pc' := 15) (ls' := [some (.int (x1)), some (.int 0), some (.int 15)]) (st' := [.int 0]) (M1 := _) 1 (fun n => rfl)
      exact Ev.ret (fun n => rfl)
    exact Ev.ret (fun n => rfl)
  apply Ev.step (pc' := 42) (ls' := [some (.ref 0), some (.int (x1)), some (.int (x2)), none, none, none]) (st' := [.int (-2)]) (M1 := _) 2 (fun n => rfl)
  exact Ev.ret (fun n => rfl)
set_option maxRecDepth 200000 in
set_option maxHeartbeats 4000000 in
theorem r108_4 (x1 x2 : Int32) (g0 : ¬ x1 < 0) (g1 : ¬ 15 < x1) (g2 : x2 < 1) : ∃ M1, Ev none 999 108 0 [some (.ref 0), some (.int (x1)), some (.int (x2)), none] [] memP (some (.int (-2))) M1 0 0 := by
  apply Exists.intro
  apply Ev.step (pc' := 3) (ls' := [some (.ref 0), some (.int (x1)), some (.int (x2)), none]) (st' := [.int (x2), .int (x1), .ref 0]) (M1 := _) 3 (fun n => rfl)
  apply Ev.call0 (ls0 := [some (.ref 0), some (.int (x1)), some (.int (x2)), none, none]) (rest := []) (id := 109) (v1 := some (.int 0))  (fun n => rfl)
  · apply Ev.step (pc' := 2) (ls' := [some (.ref 0), some (.int (x1)), some (.int (x2)), none, none]) (st' := [.int (x1), .ref 0]) (M1 := _) 2 (fun n => rfl)
    apply Ev.call0 (ls0 := [some (.ref 0), some (.int (x1))]) (rest := []) (id := 127) (v1 := some (.int 1))  (fun n => rfl)
    · apply Ev.step (pc' := 6) (ls' := [some (.ref 0), some (.int (x1))]) (st' := [.ref 8, .int 0, .int (x1)]) (M1 := _) 4 (fun n => rfl)
      apply Ev.call0 (ls0 := [some (.ref 8)]) (rest := [.int 0, .int (x1)]) (id := 6) (v1 := some (.int 16)) (M1 := _) (fun n => rfl) ⟨6, rfl⟩
      apply Ev.step (pc' := 11) (ls' := [some (.ref 0), some (.int (x1))]) (st' := [.int 15, .int 0, .int (x1)]) (M1 := _) 2 (fun n => rfl)
      apply Ev.call0 (ls0 := [some (.int (x1)), some (.int 0), some (.int 15)]) (rest := []) (id := 126) (v1 := some (.int 1))  (fun n => rfl)
      · apply Ev.step (pc' := 2) (ls' := [some (.int (x1)), some (.int 0), some (.int 15)]) (st' := [.int 0, .int (x1)]) (M1 := _) 2 (fun n => rfl)
        apply Ev.step (pc' := if x1 < 0 then 14 else 5) (ls' := [some (.int (x1)), some (.int 0), some (.int 15)]) (st' := []) (M1 := _) 1 (fun n => rfl)
        rw [if_neg g0]
        apply Ev.step (pc' := 7) (ls' := [some (.int (x1)), some (.int 0), some (.int 15)]) (st' := [.int 15, .int (x1)]) (M1 := _) 2 (fun n => rfl)
        apply Ev.step (pc' := if 15 < x1 then 14 else 10) (ls' := [some (.int (x1)), some (.int 0), some (.int 15)]) (st' := []) (M1 := _) 1 (fun n => rfl)
        rw [if_neg g1]
        apply Ev.step (pc' := 15) (ls' := [some (.int (x1)), some (.int 0), some (.int 15)]) (st' := [.int 1]) (M1 := _) 2 (fun n => rfl)
        exact Ev.ret (fun n => rfl)
      exact Ev.ret (fun n => rfl)
    apply Ev.step (pc' := 12) (ls' := [some (.ref 0), some (.int (x1)), some (.int (x2)), none, none]) (st' := [.int 100, .int 1, .int (x2)]) (M1 := _) 4 (fun n => rfl)
    apply Ev.call0 (ls0 := [some (.int (x2)), some (.int 1), some (.int 100)]) (rest := []) (id := 126) (v1 := some (.int 0))  (fun n => rfl)
    · apply Ev.step (pc' := 2) (ls' := [some (.int (x2)), some (.int 1), some (.int 100)]) (st' := [.int 1, .int (x2)]) (M1 := _) 2 (fun n => rfl)
      apply Ev.step (pc' := if x2 < 1 then 14 else 5) (ls' := [some (.int (x2)), some (.int 1), some (.int 100)]) (st' := []) (M1 := _) 1 (fun n => rfl)
      rw [if_pos g2]
      apply Ev.step (pc' := 15) (ls' := [some (.int (x2)), some (.int 1), some (.int 100)]) (st' := [.int 0]) (M1 := _) 1 (fun n => rfl)
      exact Ev.ret (fun n => rfl)
    apply Ev.step (pc' := 35) (ls' := [some (.ref 0), some (.int (x1)), some (.int (x2)), none, none]) (st' := [.int 0]) (M1 := _) 2 (fun n => rfl)
    exact Ev.ret (fun n => rfl)
  apply Ev.step (pc' := 30) (ls' := [some (.ref 0), some (.int (x1)), some (.int (x2)), some (.int (-2))]) (st' := [.int (-2)]) (M1 := _) 8 (fun n => rfl)
  exact Ev.ret (fun n => rfl)
set_option maxRecDepth 200000 in
set_option maxHeartbeats 4000000 in
theorem r236_5 (x1 x2 : Int32) (g0 : ¬ x1 < 0) (g1 : ¬ 15 < x1) (g2 : x2 < 1) : ∃ M1, Ev none 999 236 0 [some (.ref 0), some (.int (x1)), some (.int (x2)), none, none, none] [] memR (some (.int (-2))) M1 0 0 := by
  apply Exists.intro
  apply Ev.step (pc' := 6) (ls' := [some (.ref 0), some (.int (x1)), some (.int (x2)), none, none, none]) (st' := [.ref 0]) (M1 := _) 4 (fun n => rfl)
  apply Ev.call0 (ls0 := [some (.ref 0)]) (rest := []) (id := 140) (v1 := none) (M1 := _) (fun n => rfl) ⟨11, rfl⟩
  apply Ev.step (pc' := 11) (ls' := [some (.ref 0), some (.int (x1)), some (.int (x2)), none, none, none]) (st' := [.int (x1), .ref 0]) (M1 := _) 2 (fun n => rfl)
  apply Ev.call0 (ls0 := [some (.ref 0), some (.int (x1))]) (rest := []) (id := 146) (v1 := some (.int 1))  (fun n => rfl)
  · apply Ev.step (pc' := 3) (ls' := [some (.ref 0), some (.int (x1))]) (st' := [.ref 0, .int 0, .int (x1)]) (M1 := _) 3 (fun n => rfl)
    apply Ev.call0 (ls0 := [some (.ref 0)]) (rest := [.int 0, .int (x1)]) (id := 145) (v1 := some (.int 16)) (M1 := _) (fun n => rfl) ⟨10, rfl⟩
    apply Ev.step (pc' := 8) (ls' := [some (.ref 0), some (.int (x1))]) (st' := [.int 15, .int 0, .int (x1)]) (M1 := _) 2 (fun n => rfl)
    apply Ev.call0 (ls0 := [some (.int (x1)), some (.int 0), some (.int 15)]) (rest := []) (id := 141) (v1 := some (.int 1))  (fun n => rfl)
    · apply Ev.step (pc' := 2) (ls' := [some (.int (x1)), some (.int 0), some (.int 15)]) (st' := [.int 0, .int (x1)]) (M1 := _) 2 (fun n => rfl)
      apply Ev.step (pc' := if x1 < 0 then 14 else 5) (ls' := [some (.int (x1)), some (.int 0), some (.int 15)]) (st' := []) (M1 := _) 1 (fun n => rfl)
      rw [if_neg g0]
      apply Ev.step (pc' := 7) (ls' := [some (.int (x1)), some (.int 0), some (.int 15)]) (st' := [.int 15, .int (x1)]) (M1 := _) 2 (fun n => rfl)
      apply Ev.step (pc' := if 15 < x1 then 14 else 10) (ls' := [some (.int (x1)), some (.int 0), some (.int 15)]) (st' := []) (M1 := _) 1 (fun n => rfl)
      rw [if_neg g1]
      apply Ev.step (pc' := 15) (ls' := [some (.int (x1)), some (.int 0), some (.int 15)]) (st' := [.int 1]) (M1 := _) 2 (fun n => rfl)
      exact Ev.ret (fun n => rfl)
    exact Ev.ret (fun n => rfl)
  apply Ev.step (pc' := 21) (ls' := [some (.ref 0), some (.int (x1)), some (.int (x2)), none, none, none]) (st' := [.int 100, .int 1, .int (x2)]) (M1 := _) 4 (fun n => rfl)
  apply Ev.call0 (ls0 := [some (.int (x2)), some (.int 1), some (.int 100)]) (rest := []) (id := 141) (v1 := some (.int 0))  (fun n => rfl)
  · apply Ev.step (pc' := 2) (ls' := [some (.int (x2)), some (.int 1), some (.int 100)]) (st' := [.int 1, .int (x2)]) (M1 := _) 2 (fun n => rfl)
    apply Ev.step (pc' := if x2 < 1 then 14 else 5) (ls' := [some (.int (x2)), some (.int 1), some (.int 100)]) (st' := []) (M1 := _) 1 (fun n => rfl)
    rw [if_pos g2]
    apply Ev.step (pc' := 15) (ls' := [some (.int (x2)), some (.int 1), some (.int 100)]) (st' := [.int 0]) (M1 := _) 1 (fun n => rfl)
    exact Ev.ret (fun n => rfl)
  apply Ev.step (pc' := 42) (ls' := [some (.ref 0), some (.int (x1)), some (.int (x2)), none, none, none]) (st' := [.int (-2)]) (M1 := _) 2 (fun n => rfl)
  exact Ev.ret (fun n => rfl)
set_option maxRecDepth 200000 in
set_option maxHeartbeats 4000000 in
theorem r108_6 (x1 x2 : Int32) (g0 : ¬ x1 < 0) (g1 : ¬ 15 < x1) (g2 : ¬ x2 < 1) (g3 : 100 < x2) : ∃ M1, Ev none 999 108 0 [some (.ref 0), some (.int (x1)), some (.int (x2)), none] [] memP (some (.int (-2))) M1 0 0 := by
  apply Exists.intro
  apply Ev.step (pc' := 3) (ls' := [some (.ref 0), some (.int (x1)), some (.int (x2)), none]) (st' := [.int (x2), .int (x1), .ref 0]) (M1 := _) 3 (fun n => rfl)
  apply Ev.call0 (ls0 := [some (.ref 0), some (.int (x1)), some (.int (x2)), none, none]) (rest := []) (id := 109) (v1 := some (.int 0))  (fun n => rfl)
  · apply Ev.step (pc' := 2) (ls' := [some (.ref 0), some (.int (x1)), some (.int (x2)), none, none]) (st' := [.int (x1), .ref 0]) (M1 := _) 2 (fun n => rfl)
    apply Ev.call0 (ls0 := [some (.ref 0), some (.int (x1))]) (rest := []) (id := 127) (v1 := some (.int 1))  (fun n => rfl)
    · apply Ev.step (pc' := 6) (ls' := [some (.ref 0), some (.int (x1))]) (st' := [.ref 8, .int 0, .int (x1)]) (M1 := _) 4 (fun n => rfl)
      apply Ev.call0 (ls0 := [some (.ref 8)]) (rest := [.int 0, .int (x1)]) (id := 6) (v1 := some (.int 16)) (M1 := _) (fun n => rfl) ⟨6, rfl⟩
      apply Ev.step (pc' := 11) (ls' := [some (.ref 0), some (.int (x1))]) (st' := [.int 15, .int 0, .int (x1)]) (M1 := _) 2 (fun n => rfl)
      apply Ev.call0 (ls0 := [some (.int (x1)), some (.int 0), some (.int 15)]) (rest := []) (id := 126) (v1 := some (.int 1))  (fun n => rfl)
      · apply Ev.step (pc' := 2) (ls' := [some (.int (x1)), some (.int 0), some (.int 15)]) (st' := [.int 0, .int (x1)]) (M1 := _) 2 (fun n => rfl)
        apply Ev.step (pc' := if x1 < 0 then 14 else 5) (ls' := [some (.int (x1)), some (.int 0), some (.int 15)]) (st' := []) (M1 := _) 1 (fun n => rfl)
        rw [if_neg g0]
        apply Ev.step (pc' := 7) (ls' := [some (.int (x1)), some (.int 0), some (.int 15)]) (st' := [.int 15, .int (x1)]) (M1 := _) 2 (fun n => rfl)
        apply Ev.step (pc' := if 15 < x1 then 14 else 10) (ls' := [some (.int (x1)), some (.int 0), some (.int 15)]) (st' := []) (M1 := _) 1 (fun n => rfl)
        rw [if_neg g1]
        apply Ev.step (pc' := 15) (ls' := [some (.int (x1)), some (.int 0), some (.int 15)]) (st' := [.int 1]) (M1 := _) 2 (fun n => rfl)
        exact Ev.ret (fun n => rfl)
      exact Ev.ret (fun n => rfl)
    apply Ev.step (pc' := 12) (ls' := [some (.ref 0), some (.int (x1)), some (.int (x2)), none, none]) (st' := [.int 100, .int 1, .int (x2)]) (M1 := _) 4 (fun n => rfl)
    apply Ev.call0 (ls0 := [some (.int (x2)), some (.int 1), some (.int 100)]) (rest := []) (id := 126) (v1 := some (.int 0))  (fun n => rfl)
    · apply Ev.step (pc' := 2) (ls' := [some (.int (x2)), some (.int 1), some (.int 100)]) (st' := [.int 1, .int (x2)]) (M1 := _) 2 (fun n => rfl)
      apply Ev.step (pc' := if x2 < 1 then 14 else 5) (ls' := [some (.int (x2)), some (.int 1), some (.int 100)]) (st' := []) (M1 := _) 1 (fun n => rfl)
      rw [if_neg g2]
      apply Ev.step (pc' := 7) (ls' := [some (.int (x2)), some (.int 1), some (.int 100)]) (st' := [.int 100, .int (x2)]) (M1 := _) 2 (fun n => rfl)
      apply Ev.step (pc' := if 100 < x2 then 14 else 10) (ls' := [some (.int (x2)), some (.int 1), some (.int 100)]) (st' := []) (M1 := _) 1 (fun n => rfl)
      rw [if_pos g3]
      apply Ev.step (pc' := 15) (ls' := [some (.int (x2)), some (.int 1), some (.int 100)]) (st' := [.int 0]) (M1 := _) 1 (fun n => rfl)
      exact Ev.ret (fun n => rfl)
    apply Ev.step (pc' := 35) (ls' := [some (.ref 0), some (.int (x1)), some (.int (x2)), none, none]) (st' := [.int 0]) (M1 := _) 2 (fun n => rfl)
    exact Ev.ret (fun n => rfl)
  apply Ev.step (pc' := 30) (ls' := [some (.ref 0), some (.int (x1)), some (.int (x2)), some (.int (-2))]) (st' := [.int (-2)]) (M1 := _) 8 (fun n => rfl)
  exact Ev.ret (fun n => rfl)
set_option maxRecDepth 200000 in
set_option maxHeartbeats 4000000 in
theorem r236_7 (x1 x2 : Int32) (g0 : ¬ x1 < 0) (g1 : ¬ 15 < x1) (g2 : ¬ x2 < 1) (g3 : 100 < x2) : ∃ M1, Ev none 999 236 0 [some (.ref 0), some (.int (x1)), some (.int (x2)), none, none, none] [] memR (some (.int (-2))) M1 0 0 := by
  apply Exists.intro
  apply Ev.step (pc' := 6) (ls' := [some (.ref 0), some (.int (x1)), some (.int (x2)), none, none, none]) (st' := [.ref 0]) (M1 := _) 4 (fun n => rfl)
  apply Ev.call0 (ls0 := [some (.ref 0)]) (rest := []) (id := 140) (v1 := none) (M1 := _) (fun n => rfl) ⟨11, rfl⟩
  apply Ev.step (pc' := 11) (ls' := [some (.ref 0), some (.int (x1)), some (.int (x2)), none, none, none]) (st' := [.int (x1), .ref 0]) (M1 := _) 2 (fun n => rfl)
  apply Ev.call0 (ls0 := [some (.ref 0), some (.int (x1))]) (rest := []) (id := 146) (v1 := some (.int 1))  (fun n => rfl)
  · apply Ev.step (pc' := 3) (ls' := [some (.ref 0), some (.int (x1))]) (st' := [.ref 0, .int 0, .int (x1)]) (M1 := _) 3 (fun n => rfl)
    apply Ev.call0 (ls0 := [some (.ref 0)]) (rest := [.int 0, .int (x1)]) (id := 145) (v1 := some (.int 16)) (M1 := _) (fun n => rfl) ⟨10, rfl⟩
    apply Ev.step (pc' := 8) (ls' := [some (.ref 0), some (.int (x1))]) (st' := [.int 15, .int 0, .int (x1)]) (M1 := _) 2 (fun n => rfl)
    apply Ev.call0 (ls0 := [some (.int (x1)), some (.int 0), some (.int 15)]) (rest := []) (id := 141) (v1 := some (.int 1))  (fun n => rfl)
    · apply Ev.step (pc' := 2) (ls' := [some (.int (x1)), some (.int 0), some (.int 15)]) (st' := [.int 0, .int (x1)]) (M1 := _) 2 (fun n => rfl)
      apply Ev.step (pc' := if x1 < 0 then 14 else 5) (ls' := [some (.int (x1)), some (.int 0), some (.int 15)]) (st' := []) (M1 := _) 1 (fun n => rfl)
      rw [if_neg g0]
      apply Ev.step (pc' := 7) (ls' := [some (.int (x1)), some (.int 0), some (.int 15)]) (st' := [.int 15, .int (x1)]) (M1 := _) 2 (fun n => rfl)
      apply Ev.step (pc' := if 15 < x1 then 14 else 10) (ls' := [some (.int (x1)), some (.int 0), some (.int 15)]) (st' := []) (M1 := _) 1 (fun n => rfl)
      rw [if_neg g1]
      apply Ev.step (pc' := 15) (ls' := [some (.int (x1)), some (.int 0), some (.int 15)]) (st' := [.int 1]) (M1 := _) 2 (fun n => rfl)
      exact Ev.ret (fun n => rfl)
    exact Ev.ret (fun n => rfl)
  apply Ev.step (pc' := 21) (ls' := [some (.ref 0), some (.int (x1)), some (.int (x2)), none, none, none]) (st' := [.int 100, .int 1, .int (x2)]) (M1 := _) 4 (fun n => rfl)
  apply Ev.call0 (ls0 := [some (.int (x2)), some (.int 1), some (.int 100)]) (rest := []) (id := 141) (v1 := some (.int 0))  (fun n => rfl)
  · apply Ev.step (pc' := 2) (ls' := [some (.int (x2)), some (.int 1), some (.int 100)]) (st' := [.int 1, .int (x2)]) (M1 := _) 2 (fun n => rfl)
    apply Ev.step (pc' := if x2 < 1 then 14 else 5) (ls' := [some (.int (x2)), some (.int 1), some (.int 100)]) (st' := []) (M1 := _) 1 (fun n => rfl)
    rw [if_neg g2]
    apply Ev.step (pc' := 7) (ls' := [some (.int (x2)), some (.int 1), some (.int 100)]) (st' := [.int 100, .int (x2)]) (M1 := _) 2 (fun n => rfl)
    apply Ev.step (pc' := if 100 < x2 then 14 else 10) (ls' := [some (.int (x2)), some (.int 1), some (.int 100)]) (st' := []) (M1 := _) 1 (fun n => rfl)
    rw [if_pos g3]
    apply Ev.step (pc' := 15) (ls' := [some (.int (x2)), some (.int 1), some (.int 100)]) (st' := [.int 0]) (M1 := _) 1 (fun n => rfl)
    exact Ev.ret (fun n => rfl)
  apply Ev.step (pc' := 42) (ls' := [some (.ref 0), some (.int (x1)), some (.int (x2)), none, none, none]) (st' := [.int (-2)]) (M1 := _) 2 (fun n => rfl)
  exact Ev.ret (fun n => rfl)
set_option maxRecDepth 200000 in
set_option maxHeartbeats 4000000 in
theorem r108_8 (x1 x2 : Int32) (g0 : ¬ x1 < 0) (g1 : ¬ 15 < x1) (g2 : ¬ x2 < 1) (g3 : ¬ 100 < x2) : ∃ M1, Ev none 999 108 0 [some (.ref 0), some (.int (x1)), some (.int (x2)), none] [] memP (some (.int (-2))) M1 0 0 := by
  apply Exists.intro
  apply Ev.step (pc' := 3) (ls' := [some (.ref 0), some (.int (x1)), some (.int (x2)), none]) (st' := [.int (x2), .int (x1), .ref 0]) (M1 := _) 3 (fun n => rfl)
  apply Ev.call0 (ls0 := [some (.ref 0), some (.int (x1)), some (.int (x2)), none, none]) (rest := []) (id := 109) (v1 := some (.int 0))  (fun n => rfl)
  · apply Ev.step (pc' := 2) (ls' := [some (.ref 0), some (.int (x1)), some (.int (x2)), none, none]) (st' := [.int (x1), .ref 0]) (M1 := _) 2 (fun n => rfl)
    apply Ev.call0 (ls0 := [some (.ref 0), some (.int (x1))]) (rest := []) (id := 127) (v1 := some (.int 1))  (fun n => rfl)
    · apply Ev.step (pc' := 6) (ls' := [some (.ref 0), some (.int (x1))]) (st' := [.ref 8, .int 0, .int (x1)]) (M1 := _) 4 (fun n => rfl)
      apply Ev.call0 (ls0 := [some (.ref 8)]) (rest := [.int 0, .int (x1)]) (id := 6) (v1 := some (.int 16)) (M1 := _) (fun n => rfl) ⟨6, rfl⟩
      apply Ev.step (pc' := 11) (ls' := [some (.ref 0), some (.int (x1))]) (st' := [.int 15, .int 0, .int (x1)]) (M1 := _) 2 (fun n => rfl)
      apply Ev.call0 (ls0 := [some (.int (x1)), some (.int 0), some (.int 15)]) (rest := []) (id := 126) (v1 := some (.int 1))  (fun n => rfl)
      · apply Ev.step (pc' := 2) (ls' := [some (.int (x1)), some (.int 0), some (.int 15)]) (st' := [.int 0, .int (x1)]) (M1 := _) 2 (fun n => rfl)
        apply Ev.step (pc' := if x1 < 0 then 14 else 5) (ls' := [some (.int (x1)), some (.int 0), some (.int 15)]) (st' := []) (M1 := _) 1 (fun n => rfl)
        rw [if_neg g0]
        apply Ev.step (pc' := 7) (ls' := [some (.int (x1)), some (.int 0), some (.int 15)]) (st' := [.int 15, .int (x1)]) (M1 := _) 2 (fun n => rfl)
        apply Ev.step (pc' := if 15 < x1 then 14 else 10) (ls' := [some (.int (x1)), some (.int 0), some (.int 15)]) (st' := []) (M1 := _) 1 (fun n => rfl)
        rw [if_neg g1]
        apply Ev.step (pc' := 15) (ls' := [some (.int (x1)), some (.int 0), some (.int 15)]) (st' := [.int 1]) (M1 := _) 2 (fun n => rfl)
        exact Ev.ret (fun n => rfl)
      exact Ev.ret (fun n => rfl)
    apply Ev.step (pc' := 12) (ls' := [some (.ref 0), some (.int (x1)), some (.int (x2)), none, none]) (st' := [.int 100, .int 1, .int (x2)]) (M1 := _) 4 (fun n => rfl)
    apply Ev.call0 (ls0 := [some (.int (x2)), some (.int 1), some (.int 100)]) (rest := []) (id := 126) (v1 := some (.int 1))  (fun n => rfl)
    · apply Ev.step (pc' := 2) (ls' := [some (.int (x2)), some (.int 1), some (.int 100)]) (st' := [.int 1, .int (x2)]) (M1 := _) 2 (fun n => rfl)
      apply Ev.step (pc' := if x2 < 1 then 14 else 5) (ls' := [some (.int (x2)), some (.int 1), some (.int 100)]) (st' := []) (M1 := _) 1 (fun n => rfl)
      rw [if_neg g2]
      apply Ev.step (pc' := 7) (ls' := [some (.int (x2)), some (.int 1), some (.int 100)]) (st' := [.int 100, .int (x2)]) (M1 := _) 2 (fun n => rfl)
      apply Ev.step (pc' := if 100 < x2 then 14 else 10) (ls' := [some (.int (x2)), some (.int 1), some (.int 100)]) (st' := []) (M1 := _) 1 (fun n => rfl)
      rw [if_neg g3]
      apply Ev.step (pc' := 15) (ls' := [some (.int (x2)), some (.int 1), some (.int 100)]) (st' := [.int 1]) (M1 := _) 2 (fun n => rfl)
      exact Ev.ret (fun n => rfl)
    apply Ev.step (pc' := 28) (ls' := [some (.ref 0), some (.int (x1)), some (.int (x2)), none, none]) (st' := [.int 12, .int 1, .int 0]) (M1 := _) 6 (fun n => rfl)
    apply Ev.call0 (ls0 := [some (.int 0), some (.int 1), some (.int 12)]) (rest := []) (id := 126) (v1 := some (.int 0)) (M1 := _) (fun n => rfl) ⟨5, rfl⟩
    apply Ev.step (pc' := 35) (ls' := [some (.ref 0), some (.int (x1)), some (.int (x2)), none, none]) (st' := [.int 0]) (M1 := _) 2 (fun n => rfl)
    exact Ev.ret (fun n => rfl)
  apply Ev.step (pc' := 30) (ls' := [some (.ref 0), some (.int (x1)), some (.int (x2)), some (.int (-2))]) (st' := [.int (-2)]) (M1 := _) 8 (fun n => rfl)
  exact Ev.ret (fun n => rfl)
set_option maxRecDepth 200000 in
set_option maxHeartbeats 4000000 in
theorem r236_9 (x1 x2 : Int32) (g0 : ¬ x1 < 0) (g1 : ¬ 15 < x1) (g2 : ¬ x2 < 1) (g3 : ¬ 100 < x2) : ∃ M1, Ev none 999 236 0 [some (.ref 0), some (.int (x1)), some (.int (x2)), none, none, none] [] memR (some (.int (-2))) M1 0 0 := by
  apply Exists.intro
  apply Ev.step (pc' := 6) (ls' := [some (.ref 0), some (.int (x1)), some (.int (x2)), none, none, none]) (st' := [.ref 0]) (M1 := _) 4 (fun n => rfl)
  apply Ev.call0 (ls0 := [some (.ref 0)]) (rest := []) (id := 140) (v1 := none) (M1 := _) (fun n => rfl) ⟨11, rfl⟩
  apply Ev.step (pc' := 11) (ls' := [some (.ref 0), some (.int (x1)), some (.int (x2)), none, none, none]) (st' := [.int (x1), .ref 0]) (M1 := _) 2 (fun n => rfl)
  apply Ev.call0 (ls0 := [some (.ref 0), some (.int (x1))]) (rest := []) (id := 146) (v1 := some (.int 1))  (fun n => rfl)
  · apply Ev.step (pc' := 3) (ls' := [some (.ref 0), some (.int (x1))]) (st' := [.ref 0, .int 0, .int (x1)]) (M1 := _) 3 (fun n => rfl)
    apply Ev.call0 (ls0 := [some (.ref 0)]) (rest := [.int 0, .int (x1)]) (id := 145) (v1 := some (.int 16)) (M1 := _) (fun n => rfl) ⟨10, rfl⟩
    apply Ev.step (pc' := 8) (ls' := [some (.ref 0), some (.int (x1))]) (st' := [.int 15, .int 0, .int (x1)]) (M1 := _) 2 (fun n => rfl)
    apply Ev.call0 (ls0 := [some (.int (x1)), some (.int 0), some (.int 15)]) (rest := []) (id := 141) (v1 := some (.int 1))  (fun n => rfl)
    · apply Ev.step (pc' := 2) (ls' := [some (.int (x1)), some (.int 0), some (.int 15)]) (st' := [.int 0, .int (x1)]) (M1 := _) 2 (fun n => rfl)
      apply Ev.step (pc' := if x1 < 0 then 14 else 5) (ls' := [some (.int (x1)), some (.int 0), some (.int 15)]) (st' := []) (M1 := _) 1 (fun n => rfl)
      rw [if_neg g0]
      apply Ev.step (pc' := 7) (ls' := [some (.int (x1)), some (.int 0), some (.int 15)]) (st' := [.int 15, .int (x1)]) (M1 := _) 2 (fun n => rfl)
      apply Ev.step (pc' := if 15 < x1 then 14 else 10) (ls' := [some (.int (x1)), some (.int 0), some (.int 15)]) (st' := []) (M1 := _) 1 (fun n => rfl)
      rw [if_neg g1]
      apply Ev.step (pc' := 15) (ls' := [some (.int (x1)), some (.int 0), some (.int 15)]) (st' := [.int 1]) (M1 := _) 2 (fun n => rfl)
      exact Ev.ret (fun n => rfl)
    exact Ev.ret (fun n => rfl)
  apply Ev.step (pc' := 21) (ls' := [some (.ref 0), some (.int (x1)), some (.int (x2)), none, none, none]) (st' := [.int 100, .int 1, .int (x2)]) (M1 := _) 4 (fun n => rfl)
  apply Ev.call0 (ls0 := [some (.int (x2)), some (.int 1), some (.int 100)]) (rest := []) (id := 141) (v1 := some (.int 1))  (fun n => rfl)
  · apply Ev.step (pc' := 2) (ls' := [some (.int (x2)), some (.int 1), some (.int 100)]) (st' := [.int 1, .int (x2)]) (M1 := _) 2 (fun n => rfl)
    apply Ev.step (pc' := if x2 < 1 then 14 else 5) (ls' := [some (.int (x2)), some (.int 1), some (.int 100)]) (st' := []) (M1 := _) 1 (fun n => rfl)
    rw [if_neg g2]
    apply Ev.step (pc' := 7) (ls' := [some (.int (x2)), some (.int 1), some (.int 100)]) (st' := [.int 100, .int (x2)]) (M1 := _) 2 (fun n => rfl)
    apply Ev.step (pc' := if 100 < x2 then 14 else 10) (ls' := [some (.int (x2)), some (.int 1), some (.int 100)]) (st' := []) (M1 := _) 1 (fun n => rfl)
    rw [if_neg g3]
    apply Ev.step (pc' := 15) (ls' := [some (.int (x2)), some (.int 1), some (.int 100)]) (st' := [.int 1]) (M1 := _) 2 (fun n => rfl)
    exact Ev.ret (fun n => rfl)
  apply Ev.step (pc' := 34) (ls' := [some (.ref 0), some (.int (x1)), some (.int (x2)), none, none, none]) (st' := [.int 12, .int 1, .int 0]) (M1 := _) 5 (fun n => rfl)
  apply Ev.call0 (ls0 := [some (.int 0), some (.int 1), some (.int 12)]) (rest := []) (id := 141) (v1 := some (.int 0)) (M1 := _) (fun n => rfl) ⟨5, rfl⟩
  apply Ev.step (pc' := 42) (ls' := [some (.ref 0), some (.int (x1)), some (.int (x2)), none, none, none]) (st' := [.int (-2)]) (M1 := _) 2 (fun n => rfl)
  exact Ev.ret (fun n => rfl)
set_option maxRecDepth 200000 in
set_option maxHeartbeats 4000000 in
theorem ok_24 {x0 x1 x2 x3 x4 x5 : Int32} (hj : x0 &&& 63 = nI 24) : Okk x0 x1 x2 x3 x4 x5 := by
  by_cases h1 : x1 < 0
  · skip
    obtain ⟨M1, A⟩ := (r108_0 x1 x2 h1)
    obtain ⟨M2, B⟩ := (r236_1 x1 x2 h1)
    exact lc_24 hj A B
  · skip
    by_cases h2 : 15 < x1
    · skip
      obtain ⟨M1, A⟩ := (r108_2 x1 x2 h1 h2)
      obtain ⟨M2, B⟩ := (r236_3 x1 x2 h1 h2)
      exact lc_24 hj A B
    · skip
      by_cases h3 : x2 < 1
      · skip
        obtain ⟨M1, A⟩ := (r108_4 x1 x2 h1 h2 h3)
        obtain ⟨M2, B⟩ := (r236_5 x1 x2 h1 h2 h3)
        exact lc_24 hj A B
      · skip
        by_cases h4 : 100 < x2
        · skip
          obtain ⟨M1, A⟩ := (r108_6 x1 x2 h1 h2 h3 h4)
          obtain ⟨M2, B⟩ := (r236_7 x1 x2 h1 h2 h3 h4)
          exact lc_24 hj A B
        · skip
          obtain ⟨M1, A⟩ := (r108_8 x1 x2 h1 h2 h3 h4)
          obtain ⟨M2, B⟩ := (r236_9 x1 x2 h1 h2 h3 h4)
          exact lc_24 hj A B
set_option maxRecDepth 200000 in
set_option maxHeartbeats 4000000 in
theorem r113_0 (x1 : Int32) (g0 : x1 < 0) : ∃ M1, Ev none 999 113 0 [some (.ref 0), some (.int (x1))] [] memP (some (.int (-1))) M1 0 0 := by
  apply Exists.intro
  apply Ev.step (pc' := 11) (ls' := [some (.ref 0), some (.int (x1))]) (st' := [.int 2, .int (-1), .int 0, .int (x1)]) (M1 := _) 7 (fun n => rfl)
  apply Ev.step (pc' := 16) (ls' := [some (.ref 0), some (.int (x1))]) (st' := [.int (-2), .int 0, .int (x1)]) (M1 := _) 3 (fun n => rfl)
  apply Ev.call0 (ls0 := [some (.int (x1)), some (.int 0), some (.int (-2))]) (rest := []) (id := 126) (v1 := some (.int 0))  (fun n => rfl)
  · apply Ev.step (pc' := 2) (ls' := [some (.int (x1)), some (.int 0), some (.int (-2))]) (st' := [.int 0, .int (x1)]) (M1 := _) 2 (fun n => rfl)
    apply Ev.step (pc' := if x1 < 0 then 14 else 5) (ls' := [some (.int (x1)), some (.int 0), some (.int (-2))]) (st' := []) (M1 := _) 1 (fun n => rfl)
    rw [if_pos g0]
    apply Ev.step (pc' := 15) (ls' := [some (.int (x1)), some (.int 0), some (.int (-2))]) (st' := [.int 0]) (M1 := _) 1 (fun n => rfl)
    exact Ev.ret (fun n => rfl)
  apply Ev.step (pc' := 32) (ls' := [some (.ref 0), some (.int (x1))]) (st' := [.int (-1)]) (M1 := _) 2 (fun n => rfl)
  exact Ev.ret (fun n => rfl)
set_option maxRecDepth 200000 in
set_option maxHeartbeats 4000000 in
theorem r237_1 (x1 : Int32) (g0 : x1 < 0) : ∃ M1, Ev none 999 237 0 [some (.ref 0), some (.int (x1))] [] memR (some (.int (-1))) M1 0 0 := by
  apply Exists.intro
  apply Ev.step (pc' := 13) (ls' := [some (.ref 0), some (.int (x1))]) (st' := [.int (-1), .int 0, .int (x1)]) (M1 := _) 9 (fun n => rfl)
  apply Ev.call0 (ls0 := [some (.int (x1)), some (.int 0), some (.int (-1))]) (rest := []) (id := 141) (v1 := some (.int 0))  (fun n => rfl)
  · apply Ev.step (pc' := 2) (ls' := [some (.int (x1)), some (.int 0), some (.int (-1))]) (st' := [.int 0, .int (x1)]) (M1 := _) 2 (fun n => rfl)
    apply Ev.step (pc' := if x1 < 0 then 14 else 5) (ls' := [some (.int (x1)), some (.int 0), some (.int (-1))]) (st' := []) (M1 := _) 1 (fun n => rfl)
    rw [if_pos g0]
    apply Ev.step (pc' := 15) (ls' := [some (.int (x1)), some (.int 0), some (.int (-1))]) (st' := [.int 0]) (M1 := _) 1 (fun n => rfl)
    exact Ev.ret (fun n => rfl)
  apply Ev.step (pc' := 29) (ls' := [some (.ref 0), some (.int (x1))]) (st' := [.int (-1)]) (M1 := _) 2 (fun n => rfl)
  exact Ev.ret (fun n => rfl)
set_option maxRecDepth 200000 in
set_option maxHeartbeats 4000000 in
theorem r113_2 (x1 : Int32) (g0 : ¬ x1 < 0) (g1 : (-2) < x1) : ∃ M1, Ev none 999 113 0 [some (.ref 0), some (.int (x1))] [] memP (some (.int (-1))) M1 0 0 := by
  apply Exists.intro
  apply Ev.step (pc' := 11) (ls' := [some (.ref 0), some (.int (x1))]) (st' := [.int 2, .int (-1), .int 0, .int (x1)]) (M1 := _) 7 (fun n => rfl)
  apply Ev.step (pc' := 16) (ls' := [some (.ref 0), some (.int (x1))]) (st' := [.int (-2), .int 0, .int (x1)]) (M1 := _) 3 (fun n => rfl)
  apply Ev.call0 (ls0 := [some (.int (x1)), some (.int 0), some (.int (-2))]) (rest := []) (id := 126) (v1 := some (.int 0))  (fun n => rfl)
  · apply Ev.step (pc' := 2) (ls' := [some (.int (x1)), some (.int 0), some (.int (-2))]) (st' := [.int 0, .int (x1)]) (M1 := _) 2 (fun n => rfl)
    apply Ev.step (pc' := if x1 < 0 then 14 else 5) (ls' := [some (.int (x1)), some (.int 0), some (.int (-2))]) (st' := []) (M1 := _) 1 (fun n => rfl)
    rw [if_neg g0]
    apply Ev.step (pc' := 7) (ls' := [some (.int (x1)), some (.int 0), some (.int (-2))]) (st' := [.int (-2), .int (x1)]) (M1 := _) 2 (fun n => rfl)
    apply Ev.step (pc' := if (-2) < x1 then 14 else 10) (ls' := [some (.int (x1)), some (.int 0), some (.int (-2))]) (st' := []) (M1 := _) 1 (fun n => rfl)
    rw [if_pos g1]
    apply Ev.step (pc' := 15) (ls' := [some (.int (x1)), some (.int 0), some (.int (-2))]) (st' := [.int 0]) (M1 := _) 1 (fun n => rfl)
    exact Ev.ret (fun n => rfl)
  apply Ev.step (pc' := 32) (ls' := [some (.ref 0), some (.int (x1))]) (st' := [.int (-1)]) (M1 := _) 2 (fun n => rfl)
  exact Ev.ret (fun n => rfl)
set_option maxRecDepth 200000 in
set_option maxHeartbeats 4000000 in
theorem r237_3 (x1 : Int32) (g0 : ¬ x1 < 0) (g1 : (-1) < x1) : ∃ M1, Ev none 999 237 0 [some (.ref 0), some (.int (x1))] [] memR (some (.int (-1))) M1 0 0 := by
  apply Exists.intro
  apply Ev.step (pc' := 13) (ls' := [some (.ref 0), some (.int (x1))]) (st' := [.int (-1), .int 0, .int (x1)]) (M1 := _) 9 (fun n => rfl)
  apply Ev.call0 (ls0 := [some (.int (x1)), some (.int 0), some (.int (-1))]) (rest := []) (id := 141) (v1 := some (.int 0))  (fun n => rfl)
  · apply Ev.step (pc' := 2) (ls' := [some (.int (x1)), some (.int 0), some (.int (-1))]) (st' := [.int 0, .int (x1)]) (M1 := _) 2 (fun n => rfl)
    apply Ev.step (pc' := if x1 < 0 then 14 else 5) (ls' := [some (.int (x1)), some (.int 0), some (.int (-1))]) (st' := []) (M1 := _) 1 (fun n => rfl)
    rw [if_neg g0]
    apply Ev.step (pc' := 7) (ls' := [some (.int (x1)), some (.int 0), some (.int (-1))]) (st' := [.int (-1), .int (x1)]) (M1 := _) 2 (fun n => rfl)
    apply Ev.step (pc' := if (-1) < x1 then 14 else 10) (ls' := [some (.int (x1)), some (.int 0), some (.int (-1))]) (st' := []) (M1 := _) 1 (fun n => rfl)
    rw [if_pos g1]
    apply Ev.step (pc' := 15) (ls' := [some (.int (x1)), some (.int 0), some (.int (-1))]) (st' := [.int 0]) (M1 := _) 1 (fun n => rfl)
    exact Ev.ret (fun n => rfl)
  apply Ev.step (pc' := 29) (ls' := [some (.ref 0), some (.int (x1))]) (st' := [.int (-1)]) (M1 := _) 2 (fun n => rfl)
  exact Ev.ret (fun n => rfl)
set_option maxRecDepth 200000 in
set_option maxHeartbeats 4000000 in
theorem ok_25 {x0 x1 x2 x3 x4 x5 : Int32} (hj : x0 &&& 63 = nI 25) : Okk x0 x1 x2 x3 x4 x5 := by
  by_cases h1 : x1 < 0
  · skip
    obtain ⟨M1, A⟩ := (r113_0 x1 h1)
    obtain ⟨M2, B⟩ := (r237_1 x1 h1)
    exact lc_25 hj A B
  · skip
    by_cases h2 : (-2) < x1
    · skip
      by_cases h3 : (-1) < x1
      · skip
        obtain ⟨M1, A⟩ := (r113_2 x1 h1 h2)
        obtain ⟨M2, B⟩ := (r237_3 x1 h1 h3)
        exact lc_25 hj A B
      · skip
        exfalso
        simp only [Int32.lt_iff_toInt_lt, Int32.le_iff_toInt_le] at h1 h2 h3
        have emm1m : ((-1) : Int32).toInt = (-1) := by decide
        have emm2m : ((-2) : Int32).toInt = (-2) := by decide
        have e0 : (0 : Int32).toInt = 0 := by decide
        omega
    · skip
      exfalso
      simp only [Int32.lt_iff_toInt_lt, Int32.le_iff_toInt_le] at h1 h2
      have emm2m : ((-2) : Int32).toInt = (-2) := by decide
      have e0 : (0 : Int32).toInt = 0 := by decide
      omega
set_option maxRecDepth 200000 in
set_option maxHeartbeats 4000000 in
theorem r114_0 (x1 x2 x3 x4 : Int32) (g0 : x1 < 0) : ∃ M1, Ev none 999 114 0 [some (.ref 0), some (.int (x1)), some (.int (x2)), some (.int (x3)), some (.int (x4)), none] [] memP (some (.int (-2))) M1 0 0 := by
  apply Exists.intro
  apply Ev.step (pc' := 2) (ls' := [some (.ref 0), some (.int (x1)), some (.int (x2)), some (.int (x3)), some (.int (x4)), none]) (st' := [.int (x1), .ref 0]) (M1 := _) 2 (fun n => rfl)
  apply Ev.call0 (ls0 := [some (.ref 0), some (.int (x1))]) (rest := []) (id := 130) (v1 := some (.int 0))  (fun n => rfl)
  · apply Ev.step (pc' := 11) (ls' := [some (.ref 0), some (.int (x1))]) (st' := [.int (-1), .int 0, .int (x1)]) (M1 := _) 7 (fun n => rfl)
    apply Ev.call0 (ls0 := [some (.int (x1)), some (.int 0), some (.int (-1))]) (rest := []) (id := 126) (v1 := some (.int 0))  (fun n => rfl)
    · apply Ev.step (pc' := 2) (ls' := [some (.int (x1)), some (.int 0), some (.int (-1))]) (st' := [.int 0, .int (x1)]) (M1 := _) 2 (fun n => rfl)
      apply Ev.step (pc' := if x1 < 0 then 14 else 5) (ls' := [some (.int (x1)), some (.int 0), some (.int (-1))]) (st' := []) (M1 := _) 1 (fun n => rfl)
      rw [if_pos g0]
      apply Ev.step (pc' := 15) (ls' := [some (.int (x1)), some (.int 0), some (.int (-1))]) (st' := [.int 0]) (M1 := _) 1 (fun n => rfl)
      exact Ev.ret (fun n => rfl)
    apply Ev.step (pc' := 37) (ls' := [some (.ref 0), some (.int (x1))]) (st' := [.int 0]) (M1 := _) 2 (fun n => rfl)
    exact Ev.ret (fun n => rfl)
  apply Ev.step (pc' := 18) (ls' := [some (.ref 0), some (.int (x1)), some (.int (x2)), some (.int (x3)), some (.int (x4)), none]) (st' := [.int (-2)]) (M1 := _) 2 (fun n => rfl)
  exact Ev.ret (fun n => rfl)
set_option maxRecDepth 200000 in
set_option maxHeartbeats 4000000 in
theorem r238_1 (x1 x2 x3 x4 : Int32) (g0 : x1 < 0) : ∃ M1, Ev none 999 238 0 [some (.ref 0), some (.int (x1)), some (.int (x2)), some (.int (x3)), some (.int (x4)), none, none] [] memR (some (.int (-2))) M1 0 0 := by
  apply Exists.intro
  apply Ev.step (pc' := 7) (ls' := [some (.ref 0), some (.int (x1)), some (.int (x2)), some (.int (x3)), some (.int (x4)), none, none]) (st' := [.int (x1), .ref 0]) (M1 := _) 5 (fun n => rfl)
  apply Ev.call0 (ls0 := [some (.ref 0), some (.int (x1))]) (rest := []) (id := 190) (v1 := some (.int 0))  (fun n => rfl)
  · apply Ev.step (pc' := 11) (ls' := [some (.ref 0), some (.int (x1))]) (st' := [.int (-1), .int 0, .int (x1)]) (M1 := _) 8 (fun n => rfl)
    apply Ev.call0 (ls0 := [some (.int (x1)), some (.int 0), some (.int (-1))]) (rest := []) (id := 141) (v1 := some (.int 0))  (fun n => rfl)
    · apply Ev.step (pc' := 2) (ls' := [some (.int (x1)), some (.int 0), some (.int (-1))]) (st' := [.int 0, .int (x1)]) (M1 := _) 2 (fun n => rfl)
      apply Ev.step (pc' := if x1 < 0 then 14 else 5) (ls' := [some (.int (x1)), some (.int 0), some (.int (-1))]) (st' := []) (M1 := _) 1 (fun n => rfl)
      rw [if_pos g0]
      apply Ev.step (pc' := 15) (ls' := [some (.int (x1)), some (.int 0), some (.int (-1))]) (st' := [.int 0]) (M1 := _) 1 (fun n => rfl)
      exact Ev.ret (fun n => rfl)
    apply Ev.step (pc' := 40) (ls' := [some (.ref 0), some (.int (x1))]) (st' := [.int 0]) (M1 := _) 2 (fun n => rfl)
    exact Ev.ret (fun n => rfl)
  apply Ev.step (pc' := 45) (ls' := [some (.ref 0), some (.int (x1)), some (.int (x2)), some (.int (x3)), some (.int (x4)), none, none]) (st' := [.int (-2)]) (M1 := _) 2 (fun n => rfl)
  exact Ev.ret (fun n => rfl)
set_option maxRecDepth 200000 in
set_option maxHeartbeats 4000000 in
theorem r114_2 (x1 x2 x3 x4 : Int32) (g0 : ¬ x1 < 0) (g1 : (-1) < x1) : ∃ M1, Ev none 999 114 0 [some (.ref 0), some (.int (x1)), some (.int (x2)), some (.int (x3)), some (.int (x4)), none] [] memP (some (.int (-2))) M1 0 0 := by
  apply Exists.intro
  apply Ev.step (pc' := 2) (ls' := [some (.ref 0), some (.int (x1)), some (.int (x2)), some (.int (x3)), some (.int (x4)), none]) (st' := [.int (x1), .ref 0]) (M1 := _) 2 (fun n => rfl)
  apply Ev.call0 (ls0 := [some (.ref 0), some (.int (x1))]) (rest := []) (id := 130) (v1 := some (.int 0))  (fun n => rfl)
  · apply Ev.step (pc' := 11) (ls' := [some (.ref 0), some (.int (x1))]) (st' := [.int (-1), .int 0, .int (x1)]) (M1 := _) 7 (fun n => rfl)
    apply Ev.call0 (ls0 := [some (.int (x1)), some (.int 0), some (.int (-1))]) (rest := []) (id := 126) (v1 := some (.int 0))  (fun n => rfl)
    · apply Ev.step (pc' := 2) (ls' := [some (.int (x1)), some (.int 0), some (.int (-1))]) (st' := [.int 0, .int (x1)]) (M1 := _) 2 (fun n => rfl)
      apply Ev.step (pc' := if x1 < 0 then 14 else 5) (ls' := [some (.int (x1)), some (.int 0), some (.int (-1))]) (st' := []) (M1 := _) 1 (fun n => rfl)
      rw [if_neg g0]
      apply Ev.step (pc' := 7) (ls' := [some (.int (x1)), some (.int 0), some (.int (-1))]) (st' := [.int (-1), .int (x1)]) (M1 := _) 2 (fun n => rfl)
      apply Ev.step (pc' := if (-1) < x1 then 14 else 10) (ls' := [some (.int (x1)), some (.int 0), some (.int (-1))]) (st' := []) (M1 := _) 1 (fun n => rfl)
      rw [if_pos g1]
      apply Ev.step (pc' := 15) (ls' := [some (.int (x1)), some (.int 0), some (.int (-1))]) (st' := [.int 0]) (M1 := _) 1 (fun n => rfl)
      exact Ev.ret (fun n => rfl)
    apply Ev.step (pc' := 37) (ls' := [some (.ref 0), some (.int (x1))]) (st' := [.int 0]) (M1 := _) 2 (fun n => rfl)
    exact Ev.ret (fun n => rfl)
  apply Ev.step (pc' := 18) (ls' := [some (.ref 0), some (.int (x1)), some (.int (x2)), some (.int (x3)), some (.int (x4)), none]) (st' := [.int (-2)]) (M1 := _) 2 (fun n => rfl)
  exact Ev.ret (fun n => rfl)
set_option maxRecDepth 200000 in
set_option maxHeartbeats 4000000 in
theorem r238_3 (x1 x2 x3 x4 : Int32) (g0 : ¬ x1 < 0) (g1 : (-1) < x1) : ∃ M1, Ev none 999 238 0 [some (.ref 0), some (.int (x1)), some (.int (x2)), some (.int (x3)), some (.int (x4)), none, none] [] memR (some (.int (-2))) M1 0 0 := by
  apply Exists.intro
  apply Ev.step (pc' := 7) (ls' := [some (.ref 0), some (.int (x1)), some (.int (x2)), some (.int (x3)), some (.int (x4)), none, none]) (st' := [.int (x1), .ref 0]) (M1 := _) 5 (fun n => rfl)
  apply Ev.call0 (ls0 := [some (.ref 0), some (.int (x1))]) (rest := []) (id := 190) (v1 := some (.int 0))  (fun n => rfl)
  · apply Ev.step (pc' := 11) (ls' := [some (.ref 0), some (.int (x1))]) (st' := [.int (-1), .int 0, .int (x1)]) (M1 := _) 8 (fun n => rfl)
    apply Ev.call0 (ls0 := [some (.int (x1)), some (.int 0), some (.int (-1))]) (rest := []) (id := 141) (v1 := some (.int 0))  (fun n => rfl)
    · apply Ev.step (pc' := 2) (ls' := [some (.int (x1)), some (.int 0), some (.int (-1))]) (st' := [.int 0, .int (x1)]) (M1 := _) 2 (fun n => rfl)
      apply Ev.step (pc' := if x1 < 0 then 14 else 5) (ls' := [some (.int (x1)), some (.int 0), some (.int (-1))]) (st' := []) (M1 := _) 1 (fun n => rfl)
      rw [if_neg g0]
      apply Ev.step (pc' := 7) (ls' := [some (.int (x1)), some (.int 0), some (.int (-1))]) (st' := [.int (-1), .int (x1)]) (M1 := _) 2 (fun n => rfl)
      apply Ev.step (pc' := if (-1) < x1 then 14 else 10) (ls' := [some (.int (x1)), some (.int 0), some (.int (-1))]) (st' := []) (M1 := _) 1 (fun n => rfl)
      rw [if_pos g1]
      apply Ev.step (pc' := 15) (ls' := [some (.int (x1)), some (.int 0), some (.int (-1))]) (st' := [.int 0]) (M1 := _) 1 (fun n => rfl)
      exact Ev.ret (fun n => rfl)
    apply Ev.step (pc' := 40) (ls' := [some (.ref 0), some (.int (x1))]) (st' := [.int 0]) (M1 := _) 2 (fun n => rfl)
    exact Ev.ret (fun n => rfl)
  apply Ev.step (pc' := 45) (ls' := [some (.ref 0), some (.int (x1)), some (.int (x2)), some (.int (x3)), some (.int (x4)), none, none]) (st' := [.int (-2)]) (M1 := _) 2 (fun n => rfl)
  exact Ev.ret (fun n => rfl)
set_option maxRecDepth 200000 in
set_option maxHeartbeats 4000000 in
theorem ok_26 {x0 x1 x2 x3 x4 x5 : Int32} (hj : x0 &&& 63 = nI 26) : Okk x0 x1 x2 x3 x4 x5 := by
  by_cases h1 : x1 < 0
  · skip
    obtain ⟨M1, A⟩ := (r114_0 x1 x2 x3 x4 h1)
    obtain ⟨M2, B⟩ := (r238_1 x1 x2 x3 x4 h1)
    exact lc_26 hj A B
  · skip
    by_cases h2 : (-1) < x1
    · skip
      obtain ⟨M1, A⟩ := (r114_2 x1 x2 x3 x4 h1 h2)
      obtain ⟨M2, B⟩ := (r238_3 x1 x2 x3 x4 h1 h2)
      exact lc_26 hj A B
    · skip
      exfalso
      simp only [Int32.lt_iff_toInt_lt, Int32.le_iff_toInt_le] at h1 h2
      have emm1m : ((-1) : Int32).toInt = (-1) := by decide
      have e0 : (0 : Int32).toInt = 0 := by decide
      omega
set_option maxRecDepth 200000 in
set_option maxHeartbeats 4000000 in
theorem r115_0 (x1 x2 x3 : Int32) (g0 : x1 < 0) : ∃ M1, Ev none 999 115 0 [some (.ref 0), some (.int (x1)), some (.int (x2)), some (.int (x3)), none] [] memP (some (.int (-2))) M1 0 0 := by
  apply Exists.intro
  apply Ev.step (pc' := 4) (ls' := [some (.ref 0), some (.int (x1)), some (.int (x2)), some (.int (x3)), none]) (st' := [.int (x3), .int (x2), .int (x1), .ref 0]) (M1 := _) 4 (fun n => rfl)
  apply Ev.call0 (ls0 := [some (.ref 0), some (.int (x1)), some (.int (x2)), some (.int (x3))]) (rest := []) (id := 132) (v1 := some (.int 0))  (fun n => rfl)
  · apply Ev.step (pc' := 3) (ls' := [some (.ref 0), some (.int (x1)), some (.int (x2)), some (.int (x3))]) (st' := [.int (x2), .int (x1), .ref 0]) (M1 := _) 3 (fun n => rfl)
    apply Ev.call0 (ls0 := [some (.ref 0), some (.int (x1)), some (.int (x2))]) (rest := []) (id := 129) (v1 := some (.int 0))  (fun n => rfl)
    · apply Ev.step (pc' := 2) (ls' := [some (.ref 0), some (.int (x1)), some (.int (x2))]) (st' := [.int (x1), .ref 0]) (M1 := _) 2 (fun n => rfl)
      apply Ev.call0 (ls0 := [some (.ref 0), some (.int (x1))]) (rest := []) (id := 128) (v1 := some (.int 0))  (fun n => rfl)
      · apply Ev.step (pc' := 11) (ls' := [some (.ref 0), some (.int (x1))]) (st' := [.int (-1), .int 0, .int (x1)]) (M1 := _) 7 (fun n => rfl)
        apply Ev.call0 (ls0 := [some (.int (x1)), some (.int 0), some (.int (-1))]) (rest := []) (id := 126) (v1 := some (.int 0))  (fun n => rfl)
        · apply Ev.step (pc' := 2) (ls' := [some (.int (x1)), some (.int 0), some (.int (-1))]) (st' := [.int 0, .int (x1)]) (M1 := _) 2 (fun n => rfl)
          apply Ev.step (pc' := if x1 < 0 then 14 else 5) (ls' := [some (.int (x1)), some (.int 0), some (.int (-1))]) (st' := []) (M1 := _) 1 (fun n => rfl)
          rw [if_pos g0]
          apply Ev.step (pc' := 15) (ls' := [some (.int (x1)), some (.int 0), some (.int (-1))]) (st' := [.int 0]) (M1 := _) 1 (fun n => rfl)
          exact Ev.ret (fun n => rfl)
        exact Ev.ret (fun n => rfl)
      apply Ev.step (pc' := 26) (ls' := [some (.ref 0), some (.int (x1)), some (.int (x2))]) (st' := [.int 0]) (M1 := _) 2 (fun n => rfl)
      exact Ev.ret (fun n => rfl)
    apply Ev.step (pc' := 23) (ls' := [some (.ref 0), some (.int (x1)), some (.int (x2)), some (.int (x3))]) (st' := [.int 0]) (M1 := _) 2 (fun n => rfl)
    exact Ev.ret (fun n => rfl)
  apply Ev.step (pc' := 12) (ls' := [some (.ref 0), some (.int (x1)), some (.int (x2)), some (.int (x3)), none]) (st' := [.int (-2)]) (M1 := _) 2 (fun n => rfl)
  exact Ev.ret (fun n => rfl)
set_option maxRecDepth 200000 in
set_option maxHeartbeats 4000000 in
theorem r241_1 (x1 x2 x3 : Int32) (g0 : x1 < 0) : ∃ M1, Ev none 999 241 0 [some (.ref 0), some (.int (x1)), some (.int (x2)), some (.int (x3)), none, none] [] memR (some (.int (-2))) M1 0 0 := by
  apply Exists.intro
  apply Ev.step (pc' := 9) (ls' := [some (.ref 0), some (.int (x1)), some (.int (x2)), some (.int (x3)), none, none]) (st' := [.int (x3), .int (x2), .int (x1), .ref 0]) (M1 := _) 7 (fun n => rfl)
  apply Ev.call0 (ls0 := [some (.ref 0), some (.int (x1)), some (.int (x2)), some (.int (x3))]) (rest := []) (id := 240) (v1 := some (.int 0))  (fun n => rfl)
  · apply Ev.step (pc' := 2) (ls' := [some (.ref 0), some (.int (x1)), some (.int (x2)), some (.int (x3))]) (st' := [.int (x1), .ref 0]) (M1 := _) 2 (fun n => rfl)
    apply Ev.call0 (ls0 := [some (.ref 0), some (.int (x1))]) (rest := []) (id := 153) (v1 := some (.int 0))  (fun n => rfl)
    · apply Ev.step (pc' := 10) (ls' := [some (.ref 0), some (.int (x1))]) (st' := [.int (-1), .int 0, .int (x1)]) (M1 := _) 8 (fun n => rfl)
      apply Ev.call0 (ls0 := [some (.int (x1)), some (.int 0), some (.int (-1))]) (rest := []) (id := 141) (v1 := some (.int 0))  (fun n => rfl)
      · apply Ev.step (pc' := 2) (ls' := [some (.int (x1)), some (.int 0), some (.int (-1))]) (st' := [.int 0, .int (x1)]) (M1 := _) 2 (fun n => rfl)
        apply Ev.step (pc' := if x1 < 0 then 14 else 5) (ls' := [some (.int (x1)), some (.int 0), some (.int (-1))]) (st' := []) (M1 := _) 1 (fun n => rfl)
        rw [if_pos g0]
        apply Ev.step (pc' := 15) (ls' := [some (.int (x1)), some (.int 0), some (.int (-1))]) (st' := [.int 0]) (M1 := _) 1 (fun n => rfl)
        exact Ev.ret (fun n => rfl)
      exact Ev.ret (fun n => rfl)
    apply Ev.step (pc' := 35) (ls' := [some (.ref 0), some (.int (x1)), some (.int (x2)), some (.int (x3))]) (st' := [.int 0]) (M1 := _) 2 (fun n => rfl)
    exact Ev.ret (fun n => rfl)
  apply Ev.step (pc' := 17) (ls' := [some (.ref 0), some (.int (x1)), some (.int (x2)), some (.int (x3)), none, none]) (st' := [.int (-2)]) (M1 := _) 2 (fun n => rfl)
  exact Ev.ret (fun n => rfl)
set_option maxRecDepth 200000 in
set_option maxHeartbeats 4000000 in
theorem r115_2 (x1 x2 x3 : Int32) (g0 : ¬ x1 < 0) (g1 : (-1) < x1) : ∃ M1, Ev none 999 115 0 [some (.ref 0), some (.int (x1)), some (.int (x2)), some (.int (x3)), none] [] memP (some (.int (-2))) M1 0 0 := by
  apply Exists.intro
  apply Ev.step (pc' := 4) (ls' := [some (.ref 0), some (.int (x1)), some (.int (x2)), some (.int (x3)), none]) (st' := [.int (x3), .int (x2), .int (x1), .ref 0]) (M1 := _) 4 (fun n => rfl)
  apply Ev.call0 (ls0 := [some (.ref 0), some (.int (x1)), some (.int (x2)), some (.int (x3))]) (rest := []) (id := 132) (v1 := some (.int 0))  (fun n => rfl)
  · apply Ev.step (pc' := 3) (ls' := [some (.ref 0), some (.int (x1)), some (.int (x2)), some (.int (x3))]) (st' := [.int (x2), .int (x1), .ref 0]) (M1 := _) 3 (fun n => rfl)
    apply Ev.call0 (ls0 := [some (.ref 0), some (.int (x1)), some (.int (x2))]) (rest := []) (id := 129) (v1 := some (.int 0))  (fun n => rfl)
    · apply Ev.step (pc' := 2) (ls' := [some (.ref 0), some (.int (x1)), some (.int (x2))]) (st' := [.int (x1), .ref 0]) (M1 := _) 2 (fun n => rfl)
      apply Ev.call0 (ls0 := [some (.ref 0), some (.int (x1))]) (rest := []) (id := 128) (v1 := some (.int 0))  (fun n => rfl)
      · apply Ev.step (pc' := 11) (ls' := [some (.ref 0), some (.int (x1))]) (st' := [.int (-1), .int 0, .int (x1)]) (M1 := _) 7 (fun n => rfl)
        apply Ev.call0 (ls0 := [some (.int (x1)), some (.int 0), some (.int (-1))]) (rest := []) (id := 126) (v1 := some (.int 0))  (fun n => rfl)
        · apply Ev.step (pc' := 2) (ls' := [some (.int (x1)), some (.int 0), some (.int (-1))]) (st' := [.int 0, .int (x1)]) (M1 := _) 2 (fun n => rfl)
          apply Ev.step (pc' := if x1 < 0 then 14 else 5) (ls' := [some (.int (x1)), some (.int 0), some (.int (-1))]) (st' := []) (M1 := _) 1 (fun n => rfl)
          rw [if_neg g0]
          apply Ev.step (pc' := 7) (ls' := [some (.int (x1)), some (.int 0), some (.int (-1))]) (st' := [.int (-1), .int (x1)]) (M1 := _) 2 (fun n => rfl)
          apply Ev.step (pc' := if (-1) < x1 then 14 else 10) (ls' := [some (.int (x1)), some (.int 0), some (.int (-1))]) (st' := []) (M1 := _) 1 (fun n => rfl)
          rw [if_pos g1]
          apply Ev.step (pc' := 15) (ls' := [some (.int (x1)), some (.int 0), some (.int (-1))]) (st' := [.int 0]) (M1 := _) 1 (fun n => rfl)
          exact Ev.ret (fun n => rfl)
        exact Ev.ret (fun n => rfl)
      apply Ev.step (pc' := 26) (ls' := [some (.ref 0), some (.int (x1)), some (.int (x2))]) (st' := [.int 0]) (M1 := _) 2 (fun n => rfl)
      exact Ev.ret (fun n => rfl)
    apply Ev.step (pc' := 23) (ls' := [some (.ref 0), some (.int (x1)), some (.int (x2)), some (.int (x3))]) (st' := [.int 0]) (M1 := _) 2 (fun n => rfl)
    exact Ev.ret (fun n => rfl)
  apply Ev.step (pc' := 12) (ls' := [some (.ref 0), some (.int (x1)), some (.int (x2)), some (.int (x3)), none]) (st' := [.int (-2)]) (M1 := _) 2 (fun n => rfl)
  exact Ev.ret (fun n => rfl)
set_option maxRecDepth 200000 in
set_option maxHeartbeats 4000000 in
theorem r241_3 (x1 x2 x3 : Int32) (g0 : ¬ x1 < 0) (g1 : (-1) < x1) : ∃ M1, Ev none 999 241 0 [some (.ref 0), some (.int (x1)), some (.int (x2)), some (.int (x3)), none, none] [] memR (some (.int (-2))) M1 0 0 := by
  apply Exists.intro
  apply Ev.step (pc' := 9) (ls' := [some (.ref 0), some (.int (x1)), some (.int (x2)), some (.int (x3)), none, none]) (st' := [.int (x3), .int (x2), .int (x1), .ref 0]) (M1 := _) 7 (fun n => rfl)
  apply Ev.call0 (ls0 := [some (.ref 0), some (.int (x1)), some (.int (x2)), some (.int (x3))]) (rest := []) (id := 240) (v1 := some (.int 0))  (fun n => rfl)
  · apply Ev.step (pc' := 2) (ls' := [some (.ref 0), some (.int (x1)), some (.int (x2)), some (.int (x3))]) (st' := [.int (x1), .ref 0]) (M1 := _) 2 (fun n => rfl)
    apply Ev.call0 (ls0 := [some (.ref 0), some (.int (x1))]) (rest := []) (id := 153) (v1 := some (.int 0))  (fun n => rfl)
    · apply Ev.step (pc' := 10) (ls' := [some (.ref 0), some (.int (x1))]) (st' := [.int (-1), .int 0, .int (x1)]) (M1 := _) 8 (fun n => rfl)
      apply Ev.call0 (ls0 := [some (.int (x1)), some (.int 0), some (.int (-1))]) (rest := []) (id := 141) (v1 := some (.int 0))  (fun n => rfl)
      · apply Ev.step (pc' := 2) (ls' := [some (.int (x1)), some (.int 0), some (.int (-1))]) (st' := [.int 0, .int (x1)]) (M1 := _) 2 (fun n => rfl)
        apply Ev.step (pc' := if x1 < 0 then 14 else 5) (ls' := [some (.int (x1)), some (.int 0), some (.int (-1))]) (st' := []) (M1 := _) 1 (fun n => rfl)
        rw [if_neg g0]
        apply Ev.step (pc' := 7) (ls' := [some (.int (x1)), some (.int 0), some (.int (-1))]) (st' := [.int (-1), .int (x1)]) (M1 := _) 2 (fun n => rfl)
        apply Ev.step (pc' := if (-1) < x1 then 14 else 10) (ls' := [some (.int (x1)), some (.int 0), some (.int (-1))]) (st' := []) (M1 := _) 1 (fun n => rfl)
        rw [if_pos g1]
        apply Ev.step (pc' := 15) (ls' := [some (.int (x1)), some (.int 0), some (.int (-1))]) (st' := [.int 0]) (M1 := _) 1 (fun n => rfl)
        exact Ev.ret (fun n => rfl)
      exact Ev.ret (fun n => rfl)
    apply Ev.step (pc' := 35) (ls' := [some (.ref 0), some (.int (x1)), some (.int (x2)), some (.int (x3))]) (st' := [.int 0]) (M1 := _) 2 (fun n => rfl)
    exact Ev.ret (fun n => rfl)
  apply Ev.step (pc' := 17) (ls' := [some (.ref 0), some (.int (x1)), some (.int (x2)), some (.int (x3)), none, none]) (st' := [.int (-2)]) (M1 := _) 2 (fun n => rfl)
  exact Ev.ret (fun n => rfl)
set_option maxRecDepth 200000 in
set_option maxHeartbeats 4000000 in
theorem ok_27 {x0 x1 x2 x3 x4 x5 : Int32} (hj : x0 &&& 63 = nI 27) : Okk x0 x1 x2 x3 x4 x5 := by
  by_cases h1 : x1 < 0
  · skip
    obtain ⟨M1, A⟩ := (r115_0 x1 x2 x3 h1)
    obtain ⟨M2, B⟩ := (r241_1 x1 x2 x3 h1)
    exact lc_27 hj A B
  · skip
    by_cases h2 : (-1) < x1
    · skip
      obtain ⟨M1, A⟩ := (r115_2 x1 x2 x3 h1 h2)
      obtain ⟨M2, B⟩ := (r241_3 x1 x2 x3 h1 h2)
      exact lc_27 hj A B
    · skip
      exfalso
      simp only [Int32.lt_iff_toInt_lt, Int32.le_iff_toInt_le] at h1 h2
      have emm1m : ((-1) : Int32).toInt = (-1) := by decide
      have e0 : (0 : Int32).toInt = 0 := by decide
      omega
set_option maxRecDepth 200000 in
set_option maxHeartbeats 4000000 in
theorem r116_0 (x1 : Int32) (g0 : x1 < 0) : ∃ M1, Ev none 999 116 0 [some (.ref 0), some (.int (x1))] [] memP (some (.int (-1))) M1 0 0 := by
  apply Exists.intro
  apply Ev.step (pc' := 12) (ls' := [some (.ref 0), some (.int (x1))]) (st' := [.int (-1), .int 0, .int (x1)]) (M1 := _) 6 (fun n => rfl)
  apply Ev.call0 (ls0 := [some (.int (x1)), some (.int 0), some (.int (-1))]) (rest := []) (id := 126) (v1 := some (.int 0))  (fun n => rfl)
  · apply Ev.step (pc' := 2) (ls' := [some (.int (x1)), some (.int 0), some (.int (-1))]) (st' := [.int 0, .int (x1)]) (M1 := _) 2 (fun n => rfl)
    apply Ev.step (pc' := if x1 < 0 then 14 else 5) (ls' := [some (.int (x1)), some (.int 0), some (.int (-1))]) (st' := []) (M1 := _) 1 (fun n => rfl)
    rw [if_pos g0]
    apply Ev.step (pc' := 15) (ls' := [some (.int (x1)), some (.int 0), some (.int (-1))]) (st' := [.int 0]) (M1 := _) 1 (fun n => rfl)
    exact Ev.ret (fun n => rfl)
  apply Ev.step (pc' := 28) (ls' := [some (.ref 0), some (.int (x1))]) (st' := [.int (-1)]) (M1 := _) 2 (fun n => rfl)
  exact Ev.ret (fun n => rfl)
set_option maxRecDepth 200000 in
set_option maxHeartbeats 4000000 in
theorem r242_1 (x1 : Int32) (g0 : x1 < 0) : ∃ M1, Ev none 999 242 0 [some (.ref 0), some (.int (x1))] [] memR (some (.int (-1))) M1 0 0 := by
  apply Exists.intro
  apply Ev.step (pc' := 13) (ls' := [some (.ref 0), some (.int (x1))]) (st' := [.int (-1), .int 0, .int (x1)]) (M1 := _) 9 (fun n => rfl)
  apply Ev.call0 (ls0 := [some (.int (x1)), some (.int 0), some (.int (-1))]) (rest := []) (id := 141) (v1 := some (.int 0))  (fun n => rfl)
  · apply Ev.step (pc' := 2) (ls' := [some (.int (x1)), some (.int 0), some (.int (-1))]) (st' := [.int 0, .int (x1)]) (M1 := _) 2 (fun n => rfl)
    apply Ev.step (pc' := if x1 < 0 then 14 else 5) (ls' := [some (.int (x1)), some (.int 0), some (.int (-1))]) (st' := []) (M1 := _) 1 (fun n => rfl)
    rw [if_pos g0]
    apply Ev.step (pc' := 15) (ls' := [some (.int (x1)), some (.int 0), some (.int (-1))]) (st' := [.int 0]) (M1 := _) 1 (fun n => rfl)
    exact Ev.ret (fun n => rfl)
  apply Ev.step (pc' := 29) (ls' := [some (.ref 0), some (.int (x1))]) (st' := [.int (-1)]) (M1 := _) 2 (fun n => rfl)
  exact Ev.ret (fun n => rfl)
set_option maxRecDepth 200000 in
set_option maxHeartbeats 4000000 in
theorem r116_2 (x1 : Int32) (g0 : ¬ x1 < 0) (g1 : (-1) < x1) : ∃ M1, Ev none 999 116 0 [some (.ref 0), some (.int (x1))] [] memP (some (.int (-1))) M1 0 0 := by
  apply Exists.intro
  apply Ev.step (pc' := 12) (ls' := [some (.ref 0), some (.int (x1))]) (st' := [.int (-1), .int 0, .int (x1)]) (M1 := _) 6 (fun n => rfl)
  apply Ev.call0 (ls0 := [some (.int (x1)), some (.int 0), some (.int (-1))]) (rest := []) (id := 126) (v1 := some (.int 0))  (fun n => rfl)
  · apply Ev.step (pc' := 2) (ls' := [some (.int (x1)), some (.int 0), some (.int (-1))]) (st' := [.int 0, .int (x1)]) (M1 := _) 2 (fun n => rfl)
    apply Ev.step (pc' := if x1 < 0 then 14 else 5) (ls' := [some (.int (x1)), some (.int 0), some (.int (-1))]) (st' := []) (M1 := _) 1 (fun n => rfl)
    rw [if_neg g0]
    apply Ev.step (pc' := 7) (ls' := [some (.int (x1)), some (.int 0), some (.int (-1))]) (st' := [.int (-1), .int (x1)]) (M1 := _) 2 (fun n => rfl)
    apply Ev.step (pc' := if (-1) < x1 then 14 else 10) (ls' := [some (.int (x1)), some (.int 0), some (.int (-1))]) (st' := []) (M1 := _) 1 (fun n => rfl)
    rw [if_pos g1]
    apply Ev.step (pc' := 15) (ls' := [some (.int (x1)), some (.int 0), some (.int (-1))]) (st' := [.int 0]) (M1 := _) 1 (fun n => rfl)
    exact Ev.ret (fun n => rfl)
  apply Ev.step (pc' := 28) (ls' := [some (.ref 0), some (.int (x1))]) (st' := [.int (-1)]) (M1 := _) 2 (fun n => rfl)
  exact Ev.ret (fun n => rfl)
set_option maxRecDepth 200000 in
set_option maxHeartbeats 4000000 in
theorem r242_3 (x1 : Int32) (g0 : ¬ x1 < 0) (g1 : (-1) < x1) : ∃ M1, Ev none 999 242 0 [some (.ref 0), some (.int (x1))] [] memR (some (.int (-1))) M1 0 0 := by
  apply Exists.intro
  apply Ev.step (pc' := 13) (ls' := [some (.ref 0), some (.int (x1))]) (st' := [.int (-1), .int 0, .int (x1)]) (M1 := _) 9 (fun n => rfl)
  apply Ev.call0 (ls0 := [some (.int (x1)), some (.int 0), some (.int (-1))]) (rest := []) (id := 141) (v1 := some (.int 0))  (fun n => rfl)
  · apply Ev.step (pc' := 2) (ls' := [some (.int (x1)), some (.int 0), some (.int (-1))]) (st' := [.int 0, .int (x1)]) (M1 := _) 2 (fun n => rfl)
    apply Ev.step (pc' := if x1 < 0 then 14 else 5) (ls' := [some (.int (x1)), some (.int 0), some (.int (-1))]) (st' := []) (M1 := _) 1 (fun n => rfl)
    rw [if_neg g0]
    apply Ev.step (pc' := 7) (ls' := [some (.int (x1)), some (.int 0), some (.int (-1))]) (st' := [.int (-1), .int (x1)]) (M1 := _) 2 (fun n => rfl)
    apply Ev.step (pc' := if (-1) < x1 then 14 else 10) (ls' := [some (.int (x1)), some (.int 0), some (.int (-1))]) (st' := []) (M1 := _) 1 (fun n => rfl)
    rw [if_pos g1]
    apply Ev.step (pc' := 15) (ls' := [some (.int (x1)), some (.int 0), some (.int (-1))]) (st' := [.int 0]) (M1 := _) 1 (fun n => rfl)
    exact Ev.ret (fun n => rfl)
  apply Ev.step (pc' := 29) (ls' := [some (.ref 0), some (.int (x1))]) (st' := [.int (-1)]) (M1 := _) 2 (fun n => rfl)
  exact Ev.ret (fun n => rfl)
set_option maxRecDepth 200000 in
set_option maxHeartbeats 4000000 in
theorem ok_28 {x0 x1 x2 x3 x4 x5 : Int32} (hj : x0 &&& 63 = nI 28) : Okk x0 x1 x2 x3 x4 x5 := by
  by_cases h1 : x1 < 0
  · skip
    obtain ⟨M1, A⟩ := (r116_0 x1 h1)
    obtain ⟨M2, B⟩ := (r242_1 x1 h1)
    exact lc_28 hj A B
  · skip
    by_cases h2 : (-1) < x1
    · skip
      obtain ⟨M1, A⟩ := (r116_2 x1 h1 h2)
      obtain ⟨M2, B⟩ := (r242_3 x1 h1 h2)
      exact lc_28 hj A B
    · skip
      exfalso
      simp only [Int32.lt_iff_toInt_lt, Int32.le_iff_toInt_le] at h1 h2
      have emm1m : ((-1) : Int32).toInt = (-1) := by decide
      have e0 : (0 : Int32).toInt = 0 := by decide
      omega
set_option maxRecDepth 200000 in
set_option maxHeartbeats 4000000 in
theorem r117_0 : ∃ M1, Ev none 999 117 0 [some (.ref 0), none] [] memP (some (.int (-1))) M1 0 0 := by
  apply Exists.intro
  apply Ev.step (pc' := 1) (ls' := [some (.ref 0), none]) (st' := [.ref 0]) (M1 := _) 1 (fun n => rfl)
  apply Ev.call0 (ls0 := [some (.ref 0), none, none, none, none, none]) (rest := []) (id := 118) (v1 := some (.int 0)) (M1 := _) (fun n => rfl) ⟨18, rfl⟩
  apply Ev.step (pc' := 32) (ls' := [some (.ref 0), some (.int (-1))]) (st' := [.int (-1)]) (M1 := _) 8 (fun n => rfl)
  exact Ev.ret (fun n => rfl)
set_option maxRecDepth 200000 in
set_option maxHeartbeats 4000000 in
theorem r243_1 : ∃ M1, Ev none 999 243 0 [some (.ref 0), none, none, none, none, none, none] [] memR (some (.int (-1))) M1 0 0 := by
  apply Exists.intro
  apply Ev.step (pc' := 6) (ls' := [some (.ref 0), none, none, none, none, none, none]) (st' := [.ref 0]) (M1 := _) 4 (fun n => rfl)
  apply Ev.call0 (ls0 := [some (.ref 0)]) (rest := []) (id := 140) (v1 := none) (M1 := _) (fun n => rfl) ⟨11, rfl⟩
  apply Ev.step (pc' := 28) (ls' := [some (.ref 0), some (.int 0), none, none, none, none, none]) (st' := [.int 5, .int 1, .int 0]) (M1 := _) 13 (fun n => rfl)
  apply Ev.call0 (ls0 := [some (.int 0), some (.int 1), some (.int 5)]) (rest := []) (id := 141) (v1 := some (.int 0)) (M1 := _) (fun n => rfl) ⟨5, rfl⟩
  apply Ev.step (pc' := 35) (ls' := [some (.ref 0), some (.int 0), none, none, none, none, none]) (st' := [.int (-1)]) (M1 := _) 2 (fun n => rfl)
  exact Ev.ret (fun n => rfl)
set_option maxRecDepth 200000 in
set_option maxHeartbeats 4000000 in
theorem ok_29 {x0 x1 x2 x3 x4 x5 : Int32} (hj : x0 &&& 63 = nI 29) : Okk x0 x1 x2 x3 x4 x5 := by
  obtain ⟨M1, A⟩ := r117_0
  obtain ⟨M2, B⟩ := r243_1
  exact lc_29 hj A B
set_option maxRecDepth 200000 in
set_option maxHeartbeats 4000000 in
theorem r119_0 (x1 x2 : Int32) (g0 : x1 < 0) : ∃ M1, Ev none 999 119 0 [some (.ref 0), some (.int (x1)), some (.int (x2))] [] memP (some (.int (-1))) M1 0 0 := by
  apply Exists.intro
  apply Ev.step (pc' := 11) (ls' := [some (.ref 0), some (.int (x1)), some (.int (x2))]) (st' := [.int (-1), .int 0, .int (x1)]) (M1 := _) 7 (fun n => rfl)
  apply Ev.call0 (ls0 := [some (.int (x1)), some (.int 0), some (.int (-1))]) (rest := []) (id := 126) (v1 := some (.int 0))  (fun n => rfl)
  · apply Ev.step (pc' := 2) (ls' := [some (.int (x1)), some (.int 0), some (.int (-1))]) (st' := [.int 0, .int (x1)]) (M1 := _) 2 (fun n => rfl)
    apply Ev.step (pc' := if x1 < 0 then 14 else 5) (ls' := [some (.int (x1)), some (.int 0), some (.int (-1))]) (st' := []) (M1 := _) 1 (fun n => rfl)
    rw [if_pos g0]
    apply Ev.step (pc' := 15) (ls' := [some (.int (x1)), some (.int 0), some (.int (-1))]) (st' := [.int 0]) (M1 := _) 1 (fun n => rfl)
    exact Ev.ret (fun n => rfl)
  apply Ev.step (pc' := 18) (ls' := [some (.ref 0), some (.int (x1)), some (.int (x2))]) (st' := [.int (-1)]) (M1 := _) 2 (fun n => rfl)
  exact Ev.ret (fun n => rfl)
set_option maxRecDepth 200000 in
set_option maxHeartbeats 4000000 in
theorem r245_1 (x1 x2 : Int32) (g0 : x1 < 0) : ∃ M1, Ev none 999 245 0 [some (.ref 0), some (.int (x1)), some (.int (x2))] [] memR (some (.int (-1))) M1 0 0 := by
  apply Exists.intro
  apply Ev.step (pc' := 13) (ls' := [some (.ref 0), some (.int (x1)), some (.int (x2))]) (st' := [.int (-1), .int 0, .int (x1)]) (M1 := _) 9 (fun n => rfl)
  apply Ev.call0 (ls0 := [some (.int (x1)), some (.int 0), some (.int (-1))]) (rest := []) (id := 141) (v1 := some (.int 0))  (fun n => rfl)
  · apply Ev.step (pc' := 2) (ls' := [some (.int (x1)), some (.int 0), some (.int (-1))]) (st' := [.int 0, .int (x1)]) (M1 := _) 2 (fun n => rfl)
    apply Ev.step (pc' := if x1 < 0 then 14 else 5) (ls' := [some (.int (x1)), some (.int 0), some (.int (-1))]) (st' := []) (M1 := _) 1 (fun n => rfl)
    rw [if_pos g0]
    apply Ev.step (pc' := 15) (ls' := [some (.int (x1)), some (.int 0), some (.int (-1))]) (st' := [.int 0]) (M1 := _) 1 (fun n => rfl)
    exact Ev.ret (fun n => rfl)
  apply Ev.step (pc' := 51) (ls' := [some (.ref 0), some (.int (x1)), some (.int (x2))]) (st' := [.int (-1)]) (M1 := _) 3 (fun n => rfl)
  exact Ev.ret (fun n => rfl)
set_option maxRecDepth 200000 in
set_option maxHeartbeats 4000000 in
theorem r119_2 (x1 x2 : Int32) (g0 : ¬ x1 < 0) (g1 : (-1) < x1) : ∃ M1, Ev none 999 119 0 [some (.ref 0), some (.int (x1)), some (.int (x2))] [] memP (some (.int (-1))) M1 0 0 := by
  apply Exists.intro
  apply Ev.step (pc' := 11) (ls' := [some (.ref 0), some (.int (x1)), some (.int (x2))]) (st' := [.int (-1), .int 0, .int (x1)]) (M1 := _) 7 (fun n => rfl)
  apply Ev.call0 (ls0 := [some (.int (x1)), some (.int 0), some (.int (-1))]) (rest := []) (id := 126) (v1 := some (.int 0))  (fun n => rfl)
  · apply Ev.step (pc' := 2) (ls' := [some (.int (x1)), some (.int 0), some (.int (-1))]) (st' := [.int 0, .int (x1)]) (M1 := _) 2 (fun n => rfl)
    apply Ev.step (pc' := if x1 < 0 then 14 else 5) (ls' := [some (.int (x1)), some (.int 0), some (.int (-1))]) (st' := []) (M1 := _) 1 (fun n => rfl)
    rw [if_neg g0]
    apply Ev.step (pc' := 7) (ls' := [some (.int (x1)), some (.int 0), some (.int (-1))]) (st' := [.int (-1), .int (x1)]) (M1 := _) 2 (fun n => rfl)
    apply Ev.step (pc' := if (-1) < x1 then 14 else 10) (ls' := [some (.int (x1)), some (.int 0), some (.int (-1))]) (st' := []) (M1 := _) 1 (fun n => rfl)
    rw [if_pos g1]
    apply Ev.step (pc' := 15) (ls' := [some (.int (x1)), some (.int 0), some (.int (-1))]) (st' := [.int 0]) (M1 := _) 1 (fun n => rfl)
    exact Ev.ret (fun n => rfl)
  apply Ev.step (pc' := 18) (ls' := [some (.ref 0), some (.int (x1)), some (.int (x2))]) (st' := [.int (-1)]) (M1 := _) 2 (fun n => rfl)
  exact Ev.ret (fun n => rfl)
set_option maxRecDepth 200000 in
set_option maxHeartbeats 4000000 in
theorem r245_3 (x1 x2 : Int32) (g0 : ¬ x1 < 0) (g1 : (-1) < x1) : ∃ M1, Ev none 999 245 0 [some (.ref 0), some (.int (x1)), some (.int (x2))] [] memR (some (.int (-1))) M1 0 0 := by
  apply Exists.intro
  apply Ev.step (pc' := 13) (ls' := [some (.ref 0), some (.int (x1)), some (.int (x2))]) (st' := [.int (-1), .int 0, .int (x1)]) (M1 := _) 9 (fun n => rfl)
  apply Ev.call0 (ls0 := [some (.int (x1)), some (.int 0), some (.int (-1))]) (rest := []) (id := 141) (v1 := some (.int 0))  (fun n => rfl)
  · apply Ev.step (pc' := 2) (ls' := [some (.int (x1)), some (.int 0), some (.int (-1))]) (st' := [.int 0, .int (x1)]) (M1 := _) 2 (fun n => rfl)
    apply Ev.step (pc' := if x1 < 0 then 14 else 5) (ls' := [some (.int (x1)), some (.int 0), some (.int (-1))]) (st' := []) (M1 := _) 1 (fun n => rfl)
    rw [if_neg g0]
    apply Ev.step (pc' := 7) (ls' := [some (.int (x1)), some (.int 0), some (.int (-1))]) (st' := [.int (-1), .int (x1)]) (M1 := _) 2 (fun n => rfl)
    apply Ev.step (pc' := if (-1) < x1 then 14 else 10) (ls' := [some (.int (x1)), some (.int 0), some (.int (-1))]) (st' := []) (M1 := _) 1 (fun n => rfl)
    rw [if_pos g1]
    apply Ev.step (pc' := 15) (ls' := [some (.int (x1)), some (.int 0), some (.int (-1))]) (st' := [.int 0]) (M1 := _) 1 (fun n => rfl)
    exact Ev.ret (fun n => rfl)
  apply Ev.step (pc' := 51) (ls' := [some (.ref 0), some (.int (x1)), some (.int (x2))]) (st' := [.int (-1)]) (M1 := _) 3 (fun n => rfl)
  exact Ev.ret (fun n => rfl)
set_option maxRecDepth 200000 in
set_option maxHeartbeats 4000000 in
theorem ok_30 {x0 x1 x2 x3 x4 x5 : Int32} (hj : x0 &&& 63 = nI 30) : Okk x0 x1 x2 x3 x4 x5 := by
  by_cases h1 : x1 < 0
  · skip
    obtain ⟨M1, A⟩ := (r119_0 x1 x2 h1)
    obtain ⟨M2, B⟩ := (r245_1 x1 x2 h1)
    exact lc_30 hj A B
  · skip
    by_cases h2 : (-1) < x1
    · skip
      obtain ⟨M1, A⟩ := (r119_2 x1 x2 h1 h2)
      obtain ⟨M2, B⟩ := (r245_3 x1 x2 h1 h2)
      exact lc_30 hj A B
    · skip
      exfalso
      simp only [Int32.lt_iff_toInt_lt, Int32.le_iff_toInt_le] at h1 h2
      have emm1m : ((-1) : Int32).toInt = (-1) := by decide
      have e0 : (0 : Int32).toInt = 0 := by decide
      omega
set_option maxRecDepth 200000 in
set_option maxHeartbeats 4000000 in
theorem r120_0 (x1 x2 : Int32) : ∃ M1, Ev none 999 120 0 [some (.ref 0), some (.int (x1)), some (.int (x2)), none] [] memP (some (.int (-1))) M1 0 0 := by
  apply Exists.intro
  apply Ev.step (pc' := 13) (ls' := [some (.ref 0), some (.int (x1)), some (.int (x2)), some (.int (-1))]) (st' := [.int 200, .int 1, .int 0]) (M1 := _) 7 (fun n => rfl)
  apply Ev.call0 (ls0 := [some (.int 0), some (.int 1), some (.int 200)]) (rest := []) (id := 126) (v1 := some (.int 0)) (M1 := _) (fun n => rfl) ⟨5, rfl⟩
  apply Ev.step (pc' := 44) (ls' := [some (.ref 0), some (.int (x1)), some (.int (x2)), some (.int (-1))]) (st' := [.int (-1)]) (M1 := _) 6 (fun n => rfl)
  exact Ev.ret (fun n => rfl)
set_option maxRecDepth 200000 in
set_option maxHeartbeats 4000000 in
theorem r246_1 (x1 x2 : Int32) (g0 : x1 < 0) : ∃ M1, Ev none 999 246 0 [some (.ref 0), some (.int (x1)), some (.int (x2)), none, none, none, none] [] memR (some (.int (-1))) M1 0 0 := by
  apply Exists.intro
  apply Ev.step (pc' := 6) (ls' := [some (.ref 0), some (.int (x1)), some (.int (x2)), none, none, none, none]) (st' := [.ref 0]) (M1 := _) 4 (fun n => rfl)
  apply Ev.call0 (ls0 := [some (.ref 0)]) (rest := []) (id := 140) (v1 := none) (M1 := _) (fun n => rfl) ⟨11, rfl⟩
  apply Ev.step (pc' := 13) (ls' := [some (.ref 0), some (.int (x1)), some (.int (x2)), none, none, none, none]) (st' := [.int 0, .int (x2), .int (x1), .ref 0]) (M1 := _) 4 (fun n => rfl)
  apply Ev.call0 (ls0 := [some (.ref 0), some (.int (x1)), some (.int (x2)), some (.int 0)]) (rest := []) (id := 240) (v1 := some (.int 0))  (fun n => rfl)
  · apply Ev.step (pc' := 2) (ls' := [some (.ref 0), some (.int (x1)), some (.int (x2)), some (.int 0)]) (st' := [.int (x1), .ref 0]) (M1 := _) 2 (fun n => rfl)
    apply Ev.call0 (ls0 := [some (.ref 0), some (.int (x1))]) (rest := []) (id := 153) (v1 := some (.int 0))  (fun n => rfl)
    · apply Ev.step (pc' := 10) (ls' := [some (.ref 0), some (.int (x1))]) (st' := [.int (-1), .int 0, .int (x1)]) (M1 := _) 8 (fun n => rfl)
      apply Ev.call0 (ls0 := [some (.int (x1)), some (.int 0), some (.int (-1))]) (rest := []) (id := 141) (v1 := some (.int 0))  (fun n => rfl)
      · apply Ev.step (pc' := 2) (ls' := [some (.int (x1)), some (.int 0), some (.int (-1))]) (st' := [.int 0, .int (x1)]) (M1 := _) 2 (fun n => rfl)
        apply Ev.step (pc' := if x1 < 0 then 14 else 5) (ls' := [some (.int (x1)), some (.int 0), some (.int (-1))]) (st' := []) (M1 := _) 1 (fun n => rfl)
        rw [if_pos g0]
        apply Ev.step (pc' := 15) (ls' := [some (.int (x1)), some (.int 0), some (.int (-1))]) (st' := [.int 0]) (M1 := _) 1 (fun n => rfl)
        exact Ev.ret (fun n => rfl)
      exact Ev.ret (fun n => rfl)
    apply Ev.step (pc' := 35) (ls' := [some (.ref 0), some (.int (x1)), some (.int (x2)), some (.int 0)]) (st' := [.int 0]) (M1 := _) 2 (fun n => rfl)
    exact Ev.ret (fun n => rfl)
  apply Ev.step (pc' := 34) (ls' := [some (.ref 0), some (.int (x1)), some (.int (x2)), none, none, none, none]) (st' := [.int (-1)]) (M1 := _) 2 (fun n => rfl)
  exact Ev.ret (fun n => rfl)
set_option maxRecDepth 200000 in
set_option maxHeartbeats 4000000 in
theorem r120_2 (x1 x2 : Int32) : ∃ M1, Ev none 999 120 0 [some (.ref 0), some (.int (x1)), some (.int (x2)), none] [] memP (some (.int (-1))) M1 0 0 := by
  apply Exists.intro
  apply Ev.step (pc' := 13) (ls' := [some (.ref 0), some (.int (x1)), some (.int (x2)), some (.int (-1))]) (st' := [.int 200, .int 1, .int 0]) (M1 := _) 7 (fun n => rfl)
  apply Ev.call0 (ls0 := [some (.int 0), some (.int 1), some (.int 200)]) (rest := []) (id := 126) (v1 := some (.int 0)) (M1 := _) (fun n => rfl) ⟨5, rfl⟩
  apply Ev.step (pc' := 44) (ls' := [some (.ref 0), some (.int (x1)), some (.int (x2)), some (.int (-1))]) (st' := [.int (-1)]) (M1 := _) 6 (fun n => rfl)
  exact Ev.ret (fun n => rfl)
set_option maxRecDepth 200000 in
set_option maxHeartbeats 4000000 in
theorem r246_3 (x1 x2 : Int32) (g0 : ¬ x1 < 0) (g1 : (-1) < x1) : ∃ M1, Ev none 999 246 0 [some (.ref 0), some (.int (x1)), some (.int (x2)), none, none, none, none] [] memR (some (.int (-1))) M1 0 0 := by
  apply Exists.intro
  apply Ev.step (pc' := 6) (ls' := [some (.ref 0), some (.int (x1)), some (.int (x2)), none, none, none, none]) (st' := [.ref 0]) (M1 := _) 4 (fun n => rfl)
  apply Ev.call0 (ls0 := [some (.ref 0)]) (rest := []) (id := 140) (v1 := none) (M1 := _) (fun n => rfl) ⟨11, rfl⟩
  apply Ev.step (pc' := 13) (ls' := [some (.ref 0), some (.int (x1)), some (.int (x2)), none, none, none, none]) (st' := [.int 0, .int (x2), .int (x1), .ref 0]) (M1 := _) 4 (fun n => rfl)
  apply Ev.call0 (ls0 := [some (.ref 0), some (.int (x1)), some (.int (x2)), some (.int 0)]) (rest := []) (id := 240) (v1 := some (.int 0))  (fun n => rfl)
  · apply Ev.step (pc' := 2) (ls' := [some (.ref 0), some (.int (x1)), some (.int (x2)), some (.int 0)]) (st' := [.int (x1), .ref 0]) (M1 := _) 2 (fun n => rfl)
    apply Ev.call0 (ls0 := [some (.ref 0), some (.int (x1))]) (rest := []) (id := 153) (v1 := some (.int 0))  (fun n => rfl)
    · apply Ev.step (pc' := 10) (ls' := [some (.ref 0), some (.int (x1))]) (st' := [.int (-1), .int 0, .int (x1)]) (M1 := _) 8 (fun n => rfl)
      apply Ev.call0 (ls0 := [some (.int (x1)), some (.int 0), some (.int (-1))]) (rest := []) (id := 141) (v1 := some (.int 0))  (fun n => rfl)
      · apply Ev.step (pc' := 2) (ls' := [some (.int (x1)), some (.int 0), some (.int (-1))]) (st' := [.int 0, .int (x1)]) (M1 := _) 2 (fun n => rfl)
        apply Ev.step (pc' := if x1 < 0 then 14 else 5) (ls' := [some (.int (x1)), some (.int 0), some (.int (-1))]) (st' := []) (M1 := _) 1 (fun n => rfl)
        rw [if_neg g0]
        apply Ev.step (pc' := 7) (ls' := [some (.int (x1)), some (.int 0), some (.int (-1))]) (st' := [.int (-1), .int (x1)]) (M1 := _) 2 (fun n => rfl)
        apply Ev.step (pc' := if (-1) < x1 then 14 else 10) (ls' := [some (.int (x1)), some (.int 0), some (.int (-1))]) (st' := []) (M1 := _) 1 (fun n => rfl)
        rw [if_pos g1]
        apply Ev.step (pc' := 15) (ls' := [some (.int (x1)), some (.int 0), some (.int (-1))]) (st' := [.int 0]) (M1 := _) 1 (fun n => rfl)
        exact Ev.ret (fun n => rfl)
      exact Ev.ret (fun n => rfl)
    apply Ev.step (pc' := 35) (ls' := [some (.ref 0), some (.int (x1)), some (.int (x2)), some (.int 0)]) (st' := [.int 0]) (M1 := _) 2 (fun n => rfl)
    exact Ev.ret (fun n => rfl)
  apply Ev.step (pc' := 34) (ls' := [some (.ref 0), some (.int (x1)), some (.int (x2)), none, none, none, none]) (st' := [.int (-1)]) (M1 := _) 2 (fun n => rfl)
  exact Ev.ret (fun n => rfl)
set_option maxRecDepth 200000 in
set_option maxHeartbeats 4000000 in
theorem ok_31 {x0 x1 x2 x3 x4 x5 : Int32} (hj : x0 &&& 63 = nI 31) : Okk x0 x1 x2 x3 x4 x5 := by
  by_cases h1 : x1 < 0
  · skip
    obtain ⟨M1, A⟩ := (r120_0 x1 x2)
    obtain ⟨M2, B⟩ := (r246_1 x1 x2 h1)
    exact lc_31 hj A B
  · skip
    by_cases h2 : (-1) < x1
    · skip
      obtain ⟨M1, A⟩ := (r120_2 x1 x2)
      obtain ⟨M2, B⟩ := (r246_3 x1 x2 h1 h2)
      exact lc_31 hj A B
    · skip
      exfalso
      simp only [Int32.lt_iff_toInt_lt, Int32.le_iff_toInt_le] at h1 h2
      have emm1m : ((-1) : Int32).toInt = (-1) := by decide
      have e0 : (0 : Int32).toInt = 0 := by decide
      omega
set_option maxRecDepth 200000 in
set_option maxHeartbeats 4000000 in
theorem r124_0 (x1 : Int32) (g0 : x1 < 0) : ∃ M1, Ev none 999 124 0 [some (.ref 0), some (.int (x1))] [] memP (some (.int 0)) M1 0 0 := by
  apply Exists.intro
  apply Ev.step (pc' := 3) (ls' := [some (.ref 0), some (.int (x1))]) (st' := [.int 2, .int 0, .int (x1)]) (M1 := _) 3 (fun n => rfl)
  apply Ev.call0 (ls0 := [some (.int (x1)), some (.int 0), some (.int 2)]) (rest := []) (id := 126) (v1 := some (.int 0))  (fun n => rfl)
  · apply Ev.step (pc' := 2) (ls' := [some (.int (x1)), some (.int 0), some (.int 2)]) (st' := [.int 0, .int (x1)]) (M1 := _) 2 (fun n => rfl)
    apply Ev.step (pc' := if x1 < 0 then 14 else 5) (ls' := [some (.int (x1)), some (.int 0), some (.int 2)]) (st' := []) (M1 := _) 1 (fun n => rfl)
    rw [if_pos g0]
    apply Ev.step (pc' := 15) (ls' := [some (.int (x1)), some (.int 0), some (.int 2)]) (st' := [.int 0]) (M1 := _) 1 (fun n => rfl)
    exact Ev.ret (fun n => rfl)
  apply Ev.step (pc' := 19) (ls' := [some (.ref 0), some (.int (x1))]) (st' := [.int 0]) (M1 := _) 2 (fun n => rfl)
  exact Ev.ret (fun n => rfl)
set_option maxRecDepth 200000 in
set_option maxHeartbeats 4000000 in
theorem r248_1 (x1 : Int32) (g0 : x1 < 0) : ∃ M1, Ev none 999 248 0 [some (.ref 0), some (.int (x1)), none] [] memR (some (.int 0)) M1 0 0 := by
  apply Exists.intro
  apply Ev.step (pc' := 8) (ls' := [some (.ref 0), some (.int (x1)), none]) (st' := [.int 2, .int 0, .int (x1)]) (M1 := _) 6 (fun n => rfl)
  apply Ev.call0 (ls0 := [some (.int (x1)), some (.int 0), some (.int 2)]) (rest := []) (id := 141) (v1 := some (.int 0))  (fun n => rfl)
  · apply Ev.step (pc' := 2) (ls' := [some (.int (x1)), some (.int 0), some (.int 2)]) (st' := [.int 0, .int (x1)]) (M1 := _) 2 (fun n => rfl)
    apply Ev.step (pc' := if x1 < 0 then 14 else 5) (ls' := [some (.int (x1)), some (.int 0), some (.int 2)]) (st' := []) (M1 := _) 1 (fun n => rfl)
    rw [if_pos g0]
    apply Ev.step (pc' := 15) (ls' := [some (.int (x1)), some (.int 0), some (.int 2)]) (st' := [.int 0]) (M1 := _) 1 (fun n => rfl)
    exact Ev.ret (fun n => rfl)
  apply Ev.step (pc' := 24) (ls' := [some (.ref 0), some (.int (x1)), none]) (st' := [.int 0]) (M1 := _) 2 (fun n => rfl)
  exact Ev.ret (fun n => rfl)
set_option maxRecDepth 200000 in
set_option maxHeartbeats 4000000 in
theorem r124_2 (x1 : Int32) (g0 : ¬ x1 < 0) (g1 : 2 < x1) : ∃ M1, Ev none 999 124 0 [some (.ref 0), some (.int (x1))] [] memP (some (.int 0)) M1 0 0 := by
  apply Exists.intro
  apply Ev.step (pc' := 3) (ls' := [some (.ref 0), some (.int (x1))]) (st' := [.int 2, .int 0, .int (x1)]) (M1 := _) 3 (fun n => rfl)
  apply Ev.call0 (ls0 := [some (.int (x1)), some (.int 0), some (.int 2)]) (rest := []) (id := 126) (v1 := some (.int 0))  (fun n => rfl)
  · apply Ev.step (pc' := 2) (ls' := [some (.int (x1)), some (.int 0), some (.int 2)]) (st' := [.int 0, .int (x1)]) (M1 := _) 2 (fun n => rfl)
    apply Ev.step (pc' := if x1 < 0 then 14 else 5) (ls' := [some (.int (x1)), some (.int 0), some (.int 2)]) (st' := []) (M1 := _) 1 (fun n => rfl)
    rw [if_neg g0]
    apply Ev.step (pc' := 7) (ls' := [some (.int (x1)), some (.int 0), some (.int 2)]) (st' := [.int 2, .int (x1)]) (M1 := _) 2 (fun n => rfl)
    apply Ev.step (pc' := if 2 < x1 then 14 else 10) (ls' := [some (.int (x1)), some (.int 0), some (.int 2)]) (st' := []) (M1 := _) 1 (fun n => rfl)
    rw [if_pos g1]
    apply Ev.step (pc' := 15) (ls' := [some (.int (x1)), some (.int 0), some (.int 2)]) (st' := [.int 0]) (M1 := _) 1 (fun n => rfl)
    exact Ev.ret (fun n => rfl)
  apply Ev.step (pc' := 19) (ls' := [some (.ref 0), some (.int (x1))]) (st' := [.int 0]) (M1 := _) 2 (fun n => rfl)
  exact Ev.ret (fun n => rfl)
set_option maxRecDepth 200000 in
set_option maxHeartbeats 4000000 in
theorem r248_3 (x1 : Int32) (g0 : ¬ x1 < 0) (g1 : 2 < x1) : ∃ M1, Ev none 999 248 0 [some (.ref 0), some (.int (x1)), none] [] memR (some (.int 0)) M1 0 0 := by
  apply Exists.intro
  apply Ev.step (pc' := 8) (ls' := [some (.ref 0), some (.int (x1)), none]) (st' := [.int 2, .int 0, .int (x1)]) (M1 := _) 6 (fun n => rfl)
  apply Ev.call0 (ls0 := [some (.int (x1)), some (.int 0), some (.int 2)]) (rest := []) (id := 141) (v1 := some (.int 0))  (fun n => rfl)
  · apply Ev.step (pc' := 2) (ls' := [some (.int (x1)), some (.int 0), some (.int 2)]) (st' := [.int 0, .int (x1)]) (M1 := _) 2 (fun n => rfl)
    apply Ev.step (pc' := if x1 < 0 then 14 else 5) (ls' := [some (.int (x1)), some (.int 0), some (.int 2)]) (st' := []) (M1 := _) 1 (fun n => rfl)
    rw [if_neg g0]
    apply Ev.step (pc' := 7) (ls' := [some (.int (x1)), some (.int 0), some (.int 2)]) (st' := [.int 2, .int (x1)]) (M1 := _) 2 (fun n => rfl)
    apply Ev.step (pc' := if 2 < x1 then 14 else 10) (ls' := [some (.int (x1)), some (.int 0), some (.int 2)]) (st' := []) (M1 := _) 1 (fun n => rfl)
    rw [if_pos g1]
    apply Ev.step (pc' := 15) (ls' := [some (.int (x1)), some (.int 0), some (.int 2)]) (st' := [.int 0]) (M1 := _) 1 (fun n => rfl)
    exact Ev.ret (fun n => rfl)
  apply Ev.step (pc' := 24) (ls' := [some (.ref 0), some (.int (x1)), none]) (st' := [.int 0]) (M1 := _) 2 (fun n => rfl)
  exact Ev.ret (fun n => rfl)
set_option maxRecDepth 200000 in
set_option maxHeartbeats 4000000 in
theorem r124_4 : ∃ M1, Ev none 999 124 0 [some (.ref 0), some (.int 0)] [] memP (some (.int 0)) M1 0 0 := by
  apply Exists.intro
  apply Ev.step (pc' := 3) (ls' := [some (.ref 0), some (.int 0)]) (st' := [.int 2, .int 0, .int 0]) (M1 := _) 3 (fun n => rfl)
  apply Ev.call0 (ls0 := [some (.int 0), some (.int 0), some (.int 2)]) (rest := []) (id := 126) (v1 := some (.int 1)) (M1 := _) (fun n => rfl) ⟨9, rfl⟩
  apply Ev.step (pc' := 19) (ls' := [some (.ref 0), some (.int 0)]) (st' := [.int 0]) (M1 := _) 7 (fun n => rfl)
  exact Ev.ret (fun n => rfl)
set_option maxRecDepth 200000 in
set_option maxHeartbeats 4000000 in
theorem r248_5 : ∃ M1, Ev none 999 248 0 [some (.ref 0), some (.int 0), none] [] memR (some (.int 0)) M1 0 0 := by
  apply Exists.intro
  apply Ev.step (pc' := 8) (ls' := [some (.ref 0), some (.int 0), none]) (st' := [.int 2, .int 0, .int 0]) (M1 := _) 6 (fun n => rfl)
  apply Ev.call0 (ls0 := [some (.int 0), some (.int 0), some (.int 2)]) (rest := []) (id := 141) (v1 := some (.int 1)) (M1 := _) (fun n => rfl) ⟨9, rfl⟩
  apply Ev.step (pc' := 24) (ls' := [some (.ref 0), some (.int 0), none]) (st' := [.int 0]) (M1 := _) 7 (fun n => rfl)
  exact Ev.ret (fun n => rfl)
set_option maxRecDepth 200000 in
set_option maxHeartbeats 4000000 in
theorem r124_6 : ∃ M1, Ev none 999 124 0 [some (.ref 0), some (.int 1)] [] memP (some (.int 0)) M1 0 0 := by
  apply Exists.intro
  apply Ev.step (pc' := 3) (ls' := [some (.ref 0), some (.int 1)]) (st' := [.int 2, .int 0, .int 1]) (M1 := _) 3 (fun n => rfl)
  apply Ev.call0 (ls0 := [some (.int 1), some (.int 0), some (.int 2)]) (rest := []) (id := 126) (v1 := some (.int 1)) (M1 := _) (fun n => rfl) ⟨9, rfl⟩
  apply Ev.step (pc' := 19) (ls' := [some (.ref 0), some (.int 1)]) (st' := [.int 0]) (M1 := _) 7 (fun n => rfl)
  exact Ev.ret (fun n => rfl)
set_option maxRecDepth 200000 in
set_option maxHeartbeats 4000000 in
theorem r248_7 : ∃ M1, Ev none 999 248 0 [some (.ref 0), some (.int 1), none] [] memR (some (.int 0)) M1 0 0 := by
  apply Exists.intro
  apply Ev.step (pc' := 8) (ls' := [some (.ref 0), some (.int 1), none]) (st' := [.int 2, .int 0, .int 1]) (M1 := _) 6 (fun n => rfl)
  apply Ev.call0 (ls0 := [some (.int 1), some (.int 0), some (.int 2)]) (rest := []) (id := 141) (v1 := some (.int 1)) (M1 := _) (fun n => rfl) ⟨9, rfl⟩
  apply Ev.step (pc' := 24) (ls' := [some (.ref 0), some (.int 1), none]) (st' := [.int 0]) (M1 := _) 7 (fun n => rfl)
  exact Ev.ret (fun n => rfl)
set_option maxRecDepth 200000 in
set_option maxHeartbeats 4000000 in
theorem r124_8 : ∃ M1, Ev none 999 124 0 [some (.ref 0), some (.int 2)] [] memP (some (.int 0)) M1 0 0 := by
  apply Exists.intro
  apply Ev.step (pc' := 3) (ls' := [some (.ref 0), some (.int 2)]) (st' := [.int 2, .int 0, .int 2]) (M1 := _) 3 (fun n => rfl)
  apply Ev.call0 (ls0 := [some (.int 2), some (.int 0), some (.int 2)]) (rest := []) (id := 126) (v1 := some (.int 1)) (M1 := _) (fun n => rfl) ⟨9, rfl⟩
  apply Ev.step (pc' := 19) (ls' := [some (.ref 0), some (.int 2)]) (st' := [.int 0]) (M1 := _) 7 (fun n => rfl)
  exact Ev.ret (fun n => rfl)
set_option maxRecDepth 200000 in
set_option maxHeartbeats 4000000 in
theorem r248_9 : ∃ M1, Ev none 999 248 0 [some (.ref 0), some (.int 2), none] [] memR (some (.int 0)) M1 0 0 := by
  apply Exists.intro
  apply Ev.step (pc' := 8) (ls' := [some (.ref 0), some (.int 2), none]) (st' := [.int 2, .int 0, .int 2]) (M1 := _) 6 (fun n => rfl)
  apply Ev.call0 (ls0 := [some (.int 2), some (.int 0), some (.int 2)]) (rest := []) (id := 141) (v1 := some (.int 1)) (M1 := _) (fun n => rfl) ⟨9, rfl⟩
  apply Ev.step (pc' := 24) (ls' := [some (.ref 0), some (.int 2), none]) (st' := [.int 0]) (M1 := _) 7 (fun n => rfl)
  exact Ev.ret (fun n => rfl)
set_option maxRecDepth 200000 in
set_option maxHeartbeats 4000000 in
theorem ok_33 {x0 x1 x2 x3 x4 x5 : Int32} (hj : x0 &&& 63 = nI 33) : Okk x0 x1 x2 x3 x4 x5 := by
  by_cases h1 : x1 < 0
  · skip
    obtain ⟨M1, A⟩ := (r124_0 x1 h1)
    obtain ⟨M2, B⟩ := (r248_1 x1 h1)
    exact lc_33 hj A B
  · skip
    by_cases h2 : 2 < x1
    · skip
      obtain ⟨M1, A⟩ := (r124_2 x1 h1 h2)
      obtain ⟨M2, B⟩ := (r248_3 x1 h1 h2)
      exact lc_33 hj A B
    · skip
      rcases pick_0_2 h1 h2 with rfl | rfl | rfl
      · skip
        obtain ⟨M1, A⟩ := r124_4
        obtain ⟨M2, B⟩ := r248_5
        exact lc_33 hj A B
      · skip
        obtain ⟨M1, A⟩ := r124_6
        obtain ⟨M2, B⟩ := r248_7
        exact lc_33 hj A B
      · skip
        obtain ⟨M1, A⟩ := r124_8
        obtain ⟨M2, B⟩ := r248_9
        exact lc_33 hj A B
