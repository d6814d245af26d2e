/-! PURE: the calls on the fresh objects -/
theorem pick_0_9 {x : Int32} (h1 : ¬ x < 0) (h2 : ¬ 9 < x) : x = 0 ∨ x = 1 ∨ x = 2 ∨ x = 3 ∨ x = 4 ∨ x = 5 ∨ x = 6 ∨ x = 7 ∨ x = 8 ∨ x = 9 := by
  simp only [Int32.lt_iff_toInt_lt] at h1 h2
  have el : (0 : Int32).toInt = 0 := by decide
  have eh : (9 : Int32).toInt = 9 := by decide
  have h : x.toInt = 0 ∨ x.toInt = 1 ∨ x.toInt = 2 ∨ x.toInt = 3 ∨ x.toInt = 4 ∨ x.toInt = 5 ∨ x.toInt = 6 ∨ x.toInt = 7 ∨ x.toInt = 8 ∨ x.toInt = 9 := by omega
  rcases h with h | h | h | h | h | h | h | h | h | h
  · exact Or.inl (Int32.toInt_inj.mp (h.trans (by decide)))
  · exact Or.inr (Or.inl (Int32.toInt_inj.mp (h.trans (by decide))))
  · exact Or.inr (Or.inr (Or.inl (Int32.toInt_inj.mp (h.trans (by decide)))))
  · exact Or.inr (Or.inr (Or.inr (Or.inl (Int32.toInt_inj.mp (h.trans (by decide))))))
  · exact Or.inr (Or.inr (Or.inr (Or.inr (Or.inl (Int32.toInt_inj.mp (h.trans (by decide)))))))
  · exact Or.inr (Or.inr (Or.inr (Or.inr (Or.inr (Or.inl (Int32.toInt_inj.mp (h.trans (by decide))))))))
  · exact Or.inr (Or.inr (Or.inr (Or.inr (Or.inr (Or.inr (Or.inl (Int32.toInt_inj.mp (h.trans (by decide)))))))))
  · exact Or.inr (Or.inr (Or.inr (Or.inr (Or.inr (Or.inr (Or.inr (Or.inl (Int32.toInt_inj.mp (h.trans (by decide))))))))))
  · exact Or.inr (Or.inr (Or.inr (Or.inr (Or.inr (Or.inr (Or.inr (Or.inr (Or.inl (Int32.toInt_inj.mp (h.trans (by decide)))))))))))
  · exact Or.inr (Or.inr (Or.inr (Or.inr (Or.inr (Or.inr (Or.inr (Or.inr (Or.inr (Int32.toInt_inj.mp (h.trans (by decide)))))))))))
set_option maxRecDepth 200000 in
set_option maxHeartbeats 4000000 in
theorem r125_0 (x1 : Int32) (g0 : x1 < 0) : ∃ M1, Ev none 999 125 0 [some (.ref 0), some (.int (x1))] [] memP (some (.int (-1))) M1 0 0 := by
  apply Exists.intro
  apply Ev.step (pc' := 1) (ls' := [some (.ref 0), some (.int (x1))]) (st' := [.int (x1)]) (M1 := _) 1 (fun n => rfl)
  apply Ev.step (pc' := _) (ls' := [some (.ref 0), some (.int (x1))]) (st' := []) (M1 := _) 1 (fun n => rfl)
  rw [if_pos (show (x1).toInt < 0 ∨ 9 < (x1).toInt from Or.inl (Int32.lt_iff_toInt_lt.mp g0))]
  apply Ev.step (pc' := 137) (ls' := [some (.ref 0), some (.int (x1))]) (st' := [.int (-1)]) (M1 := _) 1 (fun n => rfl)
  exact Ev.ret (fun n => rfl)
set_option maxRecDepth 200000 in
set_option maxHeartbeats 4000000 in
theorem r249_1 (x1 : Int32) (g0 : x1 < 0) : ∃ M1, Ev none 999 249 0 [some (.ref 0), some (.int (x1)), none, none] [] memR (some (.int (-1))) M1 0 0 := by
  apply Exists.intro
  apply Ev.step (pc' := 44) (ls' := [some (.ref 0), some (.int (x1)), some (.int 0), some (.int 0)]) (st' := [.int (x1)]) (M1 := _) 14 (fun n => rfl)
  apply Ev.step (pc' := _) (ls' := [some (.ref 0), some (.int (x1)), some (.int 0), some (.int 0)]) (st' := []) (M1 := _) 1 (fun n => rfl)
  rw [if_pos (show (x1).toInt < 0 ∨ 9 < (x1).toInt from Or.inl (Int32.lt_iff_toInt_lt.mp g0))]
  apply Ev.step (pc' := 174) (ls' := [some (.ref 0), some (.int (x1)), some (.int 0), some (.int 0)]) (st' := [.int (-1)]) (M1 := _) 1 (fun n => rfl)
  exact Ev.ret (fun n => rfl)
set_option maxRecDepth 200000 in
set_option maxHeartbeats 4000000 in
theorem r125_2 (x1 : Int32) (g0 : ¬ x1 < 0) (g1 : 9 < x1) : ∃ M1, Ev none 999 125 0 [some (.ref 0), some (.int (x1))] [] memP (some (.int (-1))) M1 0 0 := by
  apply Exists.intro
  apply Ev.step (pc' := 1) (ls' := [some (.ref 0), some (.int (x1))]) (st' := [.int (x1)]) (M1 := _) 1 (fun n => rfl)
  apply Ev.step (pc' := _) (ls' := [some (.ref 0), some (.int (x1))]) (st' := []) (M1 := _) 1 (fun n => rfl)
  rw [if_pos (show (x1).toInt < 0 ∨ 9 < (x1).toInt from Or.inr (Int32.lt_iff_toInt_lt.mp g1))]
  apply Ev.step (pc' := 137) (ls' := [some (.ref 0), some (.int (x1))]) (st' := [.int (-1)]) (M1 := _) 1 (fun n => rfl)
  exact Ev.ret (fun n => rfl)
set_option maxRecDepth 200000 in
set_option maxHeartbeats 4000000 in
theorem r249_3 (x1 : Int32) (g0 : ¬ x1 < 0) (g1 : 9 < x1) : ∃ M1, Ev none 999 249 0 [some (.ref 0), some (.int (x1)), none, none] [] memR (some (.int (-1))) M1 0 0 := by
  apply Exists.intro
  apply Ev.step (pc' := 44) (ls' := [some (.ref 0), some (.int (x1)), some (.int 0), some (.int 0)]) (st' := [.int (x1)]) (M1 := _) 14 (fun n => rfl)
  apply Ev.step (pc' := _) (ls' := [some (.ref 0), some (.int (x1)), some (.int 0), some (.int 0)]) (st' := []) (M1 := _) 1 (fun n => rfl)
  rw [if_pos (show (x1).toInt < 0 ∨ 9 < (x1).toInt from Or.inr (Int32.lt_iff_toInt_lt.mp g1))]
  apply Ev.step (pc' := 174) (ls' := [some (.ref 0), some (.int (x1)), some (.int 0), some (.int 0)]) (st' := [.int (-1)]) (M1 := _) 1 (fun n => rfl)
  exact Ev.ret (fun n => rfl)
set_option maxRecDepth 200000 in
set_option maxHeartbeats 4000000 in
theorem r125_4 : ∃ M1, Ev none 999 125 0 [some (.ref 0), some (.int 0)] [] memP (some (.int 4)) M1 0 0 := by
  apply Exists.intro
  apply Ev.step (pc' := 63) (ls' := [some (.ref 0), some (.int 0)]) (st' := [.int 4]) (M1 := _) 5 (fun n => rfl)
  exact Ev.ret (fun n => rfl)
set_option maxRecDepth 200000 in
set_option maxHeartbeats 4000000 in
theorem r249_5 : ∃ M1, Ev none 999 249 0 [some (.ref 0), some (.int 0), none, none] [] memR (some (.int 4)) M1 0 0 := by
  apply Exists.intro
  apply Ev.step (pc' := 106) (ls' := [some (.ref 0), some (.int 0), some (.int 0), some (.int 0)]) (st' := [.int 4]) (M1 := _) 19 (fun n => rfl)
  exact Ev.ret (fun n => rfl)
set_option maxRecDepth 200000 in
set_option maxHeartbeats 4000000 in
theorem r125_6 : ∃ M1, Ev none 999 125 0 [some (.ref 0), some (.int 1)] [] memP (some (.int 4)) M1 0 0 := by
  apply Exists.intro
  apply Ev.step (pc' := 71) (ls' := [some (.ref 0), some (.int 1)]) (st' := [.int 4]) (M1 := _) 5 (fun n => rfl)
  exact Ev.ret (fun n => rfl)
set_option maxRecDepth 200000 in
set_option maxHeartbeats 4000000 in
theorem r249_7 : ∃ M1, Ev none 999 249 0 [some (.ref 0), some (.int 1), none, none] [] memR (some (.int 4)) M1 0 0 := by
  apply Exists.intro
  apply Ev.step (pc' := 113) (ls' := [some (.ref 0), some (.int 1), some (.int 0), some (.int 0)]) (st' := [.int 4]) (M1 := _) 19 (fun n => rfl)
  exact Ev.ret (fun n => rfl)
set_option maxRecDepth 200000 in
set_option maxHeartbeats 4000000 in
theorem r125_8 : ∃ M1, Ev none 999 125 0 [some (.ref 0), some (.int 2)] [] memP (some (.int 0)) M1 0 0 := by
  apply Exists.intro
  apply Ev.step (pc' := 79) (ls' := [some (.ref 0), some (.int 2)]) (st' := [.int 0]) (M1 := _) 5 (fun n => rfl)
  exact Ev.ret (fun n => rfl)
set_option maxRecDepth 200000 in
set_option maxHeartbeats 4000000 in
theorem r249_9 : ∃ M1, Ev none 999 249 0 [some (.ref 0), some (.int 2), none, none] [] memR (some (.int 0)) M1 0 0 := by
  apply Exists.intro
  apply Ev.step (pc' := 120) (ls' := [some (.ref 0), some (.int 2), some (.int 0), some (.int 0)]) (st' := [.int 0]) (M1 := _) 19 (fun n => rfl)
  exact Ev.ret (fun n => rfl)
set_option maxRecDepth 200000 in
set_option maxHeartbeats 4000000 in
theorem r125_10 : ∃ M1, Ev none 999 125 0 [some (.ref 0), some (.int 3)] [] memP (some (.int 0)) M1 0 0 := by
  apply Exists.intro
  apply Ev.step (pc' := 84) (ls' := [some (.ref 0), some (.int 3)]) (st' := [.ref 8]) (M1 := _) 4 (fun n => rfl)
  apply Ev.call0 (ls0 := [some (.ref 8), none, none]) (rest := []) (id := 11) (v1 := some (.int 0)) (M1 := _) (fun n => rfl) ⟨10, rfl⟩
  exact Ev.ret (fun n => rfl)
set_option maxRecDepth 200000 in
set_option maxHeartbeats 4000000 in
theorem r249_11 : ∃ M1, Ev none 999 249 0 [some (.ref 0), some (.int 3), none, none] [] memR (some (.int 0)) M1 0 0 := by
  apply Exists.intro
  apply Ev.step (pc' := 122) (ls' := [some (.ref 0), some (.int 3), some (.int 0), some (.int 0)]) (st' := [.int 0]) (M1 := _) 16 (fun n => rfl)
  exact Ev.ret (fun n => rfl)
set_option maxRecDepth 200000 in
set_option maxHeartbeats 4000000 in
theorem r125_12 : ∃ M1, Ev none 999 125 0 [some (.ref 0), some (.int 4)] [] memP (some (.int 0)) M1 0 0 := by
  apply Exists.intro
  apply Ev.step (pc' := 95) (ls' := [some (.ref 0), some (.int 4)]) (st' := [.int 0]) (M1 := _) 5 (fun n => rfl)
  exact Ev.ret (fun n => rfl)
set_option maxRecDepth 200000 in
set_option maxHeartbeats 4000000 in
theorem r249_13 : ∃ M1, Ev none 999 249 0 [some (.ref 0), some (.int 4), none, none] [] memR (some (.int 0)) M1 0 0 := by
  apply Exists.intro
  apply Ev.step (pc' := 131) (ls' := [some (.ref 0), some (.int 4), some (.int 0), some (.int 0)]) (st' := [.int 0]) (M1 := _) 19 (fun n => rfl)
  exact Ev.ret (fun n => rfl)
set_option maxRecDepth 200000 in
set_option maxHeartbeats 4000000 in
theorem r125_14 : ∃ M1, Ev none 999 125 0 [some (.ref 0), some (.int 5)] [] memP (some (.int 0)) M1 0 0 := by
  apply Exists.intro
  apply Ev.step (pc' := 103) (ls' := [some (.ref 0), some (.int 5)]) (st' := [.int 0]) (M1 := _) 5 (fun n => rfl)
  exact Ev.ret (fun n => rfl)
set_option maxRecDepth 200000 in
set_option maxHeartbeats 4000000 in
theorem r249_15 : ∃ M1, Ev none 999 249 0 [some (.ref 0), some (.int 5), none, none] [] memR (some (.int 0)) M1 0 0 := by
  apply Exists.intro
  apply Ev.step (pc' := 140) (ls' := [some (.ref 0), some (.int 5), some (.int 0), some (.int 0)]) (st' := [.int 0]) (M1 := _) 19 (fun n => rfl)
  exact Ev.ret (fun n => rfl)
set_option maxRecDepth 200000 in
set_option maxHeartbeats 4000000 in
theorem r125_16 : ∃ M1, Ev none 999 125 0 [some (.ref 0), some (.int 6)] [] memP (some (.int 0)) M1 0 0 := by
  apply Exists.intro
  apply Ev.step (pc' := 111) (ls' := [some (.ref 0), some (.int 6)]) (st' := [.int 0]) (M1 := _) 5 (fun n => rfl)
  exact Ev.ret (fun n => rfl)
set_option maxRecDepth 200000 in
set_option maxHeartbeats 4000000 in
theorem r249_17 : ∃ M1, Ev none 999 249 0 [some (.ref 0), some (.int 6), none, none] [] memR (some (.int 0)) M1 0 0 := by
  apply Exists.intro
  apply Ev.step (pc' := 149) (ls' := [some (.ref 0), some (.int 6), some (.int 0), some (.int 0)]) (st' := [.int 0]) (M1 := _) 19 (fun n => rfl)
  exact Ev.ret (fun n => rfl)
set_option maxRecDepth 200000 in
set_option maxHeartbeats 4000000 in
theorem r125_18 : ∃ M1, Ev none 999 125 0 [some (.ref 0), some (.int 7)] [] memP (some (.int 0)) M1 0 0 := by
  apply Exists.intro
  apply Ev.step (pc' := 119) (ls' := [some (.ref 0), some (.int 7)]) (st' := [.int 0]) (M1 := _) 5 (fun n => rfl)
  exact Ev.ret (fun n => rfl)
set_option maxRecDepth 200000 in
set_option maxHeartbeats 4000000 in
theorem r249_19 : ∃ M1, Ev none 999 249 0 [some (.ref 0), some (.int 7), none, none] [] memR (some (.int 0)) M1 0 0 := by
  apply Exists.intro
  apply Ev.step (pc' := 158) (ls' := [some (.ref 0), some (.int 7), some (.int 0), some (.int 0)]) (st' := [.int 0]) (M1 := _) 19 (fun n => rfl)
  exact Ev.ret (fun n => rfl)
set_option maxRecDepth 200000 in
set_option maxHeartbeats 4000000 in
theorem r125_20 : ∃ M1, Ev none 999 125 0 [some (.ref 0), some (.int 8)] [] memP (some (.int 0)) M1 0 0 := by
  apply Exists.intro
  apply Ev.step (pc' := 127) (ls' := [some (.ref 0), some (.int 8)]) (st' := [.int 0]) (M1 := _) 5 (fun n => rfl)
  exact Ev.ret (fun n => rfl)
set_option maxRecDepth 200000 in
set_option maxHeartbeats 4000000 in
theorem r249_21 : ∃ M1, Ev none 999 249 0 [some (.ref 0), some (.int 8), none, none] [] memR (some (.int 0)) M1 0 0 := by
  apply Exists.intro
  apply Ev.step (pc' := 167) (ls' := [some (.ref 0), some (.int 8), some (.int 0), some (.int 0)]) (st' := [.int 0]) (M1 := _) 19 (fun n => rfl)
  exact Ev.ret (fun n => rfl)
set_option maxRecDepth 200000 in
set_option maxHeartbeats 4000000 in
theorem r125_22 : ∃ M1, Ev none 999 125 0 [some (.ref 0), some (.int 9)] [] memP (some (.int 0)) M1 0 0 := by
  apply Exists.intro
  apply Ev.step (pc' := 135) (ls' := [some (.ref 0), some (.int 9)]) (st' := [.int 0]) (M1 := _) 5 (fun n => rfl)
  exact Ev.ret (fun n => rfl)
set_option maxRecDepth 200000 in
set_option maxHeartbeats 4000000 in
theorem r249_23 : ∃ M1, Ev none 999 249 0 [some (.ref 0), some (.int 9), none, none] [] memR (some (.int 0)) M1 0 0 := by
  apply Exists.intro
  apply Ev.step (pc' := 172) (ls' := [some (.ref 0), some (.int 9), some (.int 0), some (.int 0)]) (st' := [.int 0]) (M1 := _) 17 (fun n => rfl)
  exact Ev.ret (fun n => rfl)
set_option maxRecDepth 200000 in
set_option maxHeartbeats 4000000 in
theorem ok_34 {x0 x1 x2 x3 x4 x5 : Int32} (hj : x0 &&& 63 = nI 34) : Okk x0 x1 x2 x3 x4 x5 := by
  by_cases h1 : x1 < 0
  · skip
    obtain ⟨M1, A⟩ := (r125_0 x1 h1)
    obtain ⟨M2, B⟩ := (r249_1 x1 h1)
    exact lc_34 hj A B
  · skip
    by_cases h2 : 9 < x1
    · skip
      obtain ⟨M1, A⟩ := (r125_2 x1 h1 h2)
      obtain ⟨M2, B⟩ := (r249_3 x1 h1 h2)
      exact lc_34 hj A B
    · skip
      rcases pick_0_9 h1 h2 with rfl | rfl | rfl | rfl | rfl | rfl | rfl | rfl | rfl | rfl
      · skip
        obtain ⟨M1, A⟩ := r125_4
        obtain ⟨M2, B⟩ := r249_5
        exact lc_34 hj A B
      · skip
        obtain ⟨M1, A⟩ := r125_6
        obtain ⟨M2, B⟩ := r249_7
        exact lc_34 hj A B
      · skip
        obtain ⟨M1, A⟩ := r125_8
        obtain ⟨M2, B⟩ := r249_9
        exact lc_34 hj A B
      · skip
        obtain ⟨M1, A⟩ := r125_10
        obtain ⟨M2, B⟩ := r249_11
        exact lc_34 hj A B
      · skip
        obtain ⟨M1, A⟩ := r125_12
        obtain ⟨M2, B⟩ := r249_13
        exact lc_34 hj A B
      · skip
        obtain ⟨M1, A⟩ := r125_14
        obtain ⟨M2, B⟩ := r249_15
        exact lc_34 hj A B
      · skip
        obtain ⟨M1, A⟩ := r125_16
        obtain ⟨M2, B⟩ := r249_17
        exact lc_34 hj A B
      · skip
        obtain ⟨M1, A⟩ := r125_18
        obtain ⟨M2, B⟩ := r249_19
        exact lc_34 hj A B
      · skip
        obtain ⟨M1, A⟩ := r125_20
        obtain ⟨M2, B⟩ := r249_21
        exact lc_34 hj A B
      · skip
        obtain ⟨M1, A⟩ := r125_22
        obtain ⟨M2, B⟩ := r249_23
        exact lc_34 hj A B
