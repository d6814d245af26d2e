/-! PURE: the calls on the fresh objects -/
/-- a run that makes nothing and answers so -/
noncomputable def okR (r : Rs) (v : Option Value) : Bool := match r with
  | some (w, _, c, s) => (match v, w with
    | none, none => true
    | some x, some y => decide (x = y)
    | _, _ => false) && (Nat.beq c 0 && Nat.beq s 0)
  | none => false
theorem okR_ev {n id : Nat} {ls : Lo} {M : Mem} {v : Option Value} (h : okR (goF none n 999 id 0 ls [] M) v = true) : ∃ M1, Ev none 999 id 0 ls [] M v M1 0 0 := by
  cases hr : goF none n 999 id 0 ls [] M with
  | none => rw [hr] at h; cases h
  | some q =>
    obtain ⟨w, M', c, s⟩ := q
    rw [hr] at h
    unfold okR at h
    rw [Bool.and_eq_true, Bool.and_eq_true] at h
    obtain ⟨h1, h2, h3⟩ := h
    have e2 := Nat.eq_of_beq_eq_true h2
    have e3 := Nat.eq_of_beq_eq_true h3
    subst e2 e3
    have e1 : w = v := by
      cases v with
      | none => cases w with
        | none => rfl
        | some y => cases h1
      | some x => cases w with
        | none => cases h1
        | some y => rw [of_decide_eq_true h1]
    subst e1
    exact ⟨M', Ev.of hr none⟩
theorem pick_4_16 {x : Int32} (h1 : ¬ x < 4) (h2 : ¬ 16 < x) : x = 4 ∨ x = 5 ∨ x = 6 ∨ x = 7 ∨ x = 8 ∨ x = 9 ∨ x = 10 ∨ x = 11 ∨ x = 12 ∨ x = 13 ∨ x = 14 ∨ x = 15 ∨ x = 16 := by
  simp only [Int32.lt_iff_toInt_lt] at h1 h2
  have el : (4 : Int32).toInt = 4 := by decide
  have eh : (16 : Int32).toInt = 16 := by decide
  have h : x.toInt = 4 ∨ x.toInt = 5 ∨ x.toInt = 6 ∨ x.toInt = 7 ∨ x.toInt = 8 ∨ x.toInt = 9 ∨ x.toInt = 10 ∨ x.toInt = 11 ∨ x.toInt = 12 ∨ x.toInt = 13 ∨ x.toInt = 14 ∨ x.toInt = 15 ∨ x.toInt = 16 := by omega
  rcases h with h | h | h | h | h | h | h | h | h | h | h | h | h
  · exact Or.inl (Int32.toInt_inj.mp (h.trans (by decide)))
  · exact Or.inr (Or.inl (Int32.toInt_inj.mp (h.trans (by decide))))
  · exact Or.inr (Or.inr (Or.inl (Int32.toInt_inj.mp (h.trans (by decide)))))
  · exact Or.inr (Or.inr (Or.inr (Or.inl (Int32.toInt_inj.mp (h.trans (by decide))))))
  · exact Or.inr (Or.inr (Or.inr (Or.inr (Or.inl (Int32.toInt_inj.mp (h.trans (by decide)))))))
  · exact Or.inr (Or.inr (Or.inr (Or.inr (Or.inr (Or.inl (Int32.toInt_inj.mp (h.trans (by decide))))))))
  · exact Or.inr (Or.inr (Or.inr (Or.inr (Or.inr (Or.inr (Or.inl (Int32.toInt_inj.mp (h.trans (by decide)))))))))
  · exact Or.inr (Or.inr (Or.inr (Or.inr (Or.inr (Or.inr (Or.inr (Or.inl (Int32.toInt_inj.mp (h.trans (by decide))))))))))
  · exact Or.inr (Or.inr (Or.inr (Or.inr (Or.inr (Or.inr (Or.inr (Or.inr (Or.inl (Int32.toInt_inj.mp (h.trans (by decide)))))))))))
  · exact Or.inr (Or.inr (Or.inr (Or.inr (Or.inr (Or.inr (Or.inr (Or.inr (Or.inr (Or.inl (Int32.toInt_inj.mp (h.trans (by decide))))))))))))
  · exact Or.inr (Or.inr (Or.inr (Or.inr (Or.inr (Or.inr (Or.inr (Or.inr (Or.inr (Or.inr (Or.inl (Int32.toInt_inj.mp (h.trans (by decide)))))))))))))
  · exact Or.inr (Or.inr (Or.inr (Or.inr (Or.inr (Or.inr (Or.inr (Or.inr (Or.inr (Or.inr (Or.inr (Or.inl (Int32.toInt_inj.mp (h.trans (by decide))))))))))))))
  · exact Or.inr (Or.inr (Or.inr (Or.inr (Or.inr (Or.inr (Or.inr (Or.inr (Or.inr (Or.inr (Or.inr (Or.inr (Int32.toInt_inj.mp (h.trans (by decide))))))))))))))
set_option maxRecDepth 200000 in
set_option maxHeartbeats 4000000 in
theorem rfa (x1 x2 x3 x4 x5 : Int32) : ∃ M1, Ev none 999 80 0 [some (.ref 0), some (.int x1), some (.int x2), some (.int x3), some (.int x4), some (.int x5)] [] memP (some (.int 20)) M1 0 0 := ⟨_, 80, rfl⟩
set_option maxRecDepth 200000 in
set_option maxHeartbeats 4000000 in
theorem rfb (x1 x2 x3 x4 x5 : Int32) : ∃ M1, Ev none 999 137 0 [some (.ref 0), some (.int x1), some (.int x2), some (.int x3), some (.int x4), some (.int x5)] [] memR (some (.int 20)) M1 0 0 := ⟨_, 120, rfl⟩
set_option maxRecDepth 200000 in
set_option maxHeartbeats 4000000 in
theorem ok_0 {x0 x1 x2 x3 x4 x5 : Int32} (hj : x0 &&& 63 = nI 0) : Okk x0 x1 x2 x3 x4 x5 := by
  obtain ⟨M1, A⟩ := rfa x1 x2 x3 x4 x5
  obtain ⟨M2, B⟩ := rfb x1 x2 x3 x4 x5
  exact lc_0 hj A B
set_option maxRecDepth 200000 in
set_option maxHeartbeats 4000000 in
theorem r81_0 (x1 : Int32) (g0 : x1 < 0) : ∃ M1, Ev none 999 81 0 [some (.ref 0), some (.int (x1))] [] memP (some (.int 0)) M1 0 0 := by
  apply Exists.intro
  apply Ev.step (pc' := 1) (ls' := [some (.ref 0), some (.int (x1))]) (st' := [.int (x1)]) (M1 := _) 1 (fun n => rfl)
  apply Ev.step (pc' := if x1 < 0 then 15 else 4) (ls' := [some (.ref 0), some (.int (x1))]) (st' := []) (M1 := _) 1 (fun n => rfl)
  rw [if_pos g0]
  apply Ev.step (pc' := 16) (ls' := [some (.ref 0), some (.int (x1))]) (st' := [.int 0]) (M1 := _) 1 (fun n => rfl)
  exact Ev.ret (fun n => rfl)
set_option maxRecDepth 200000 in
set_option maxHeartbeats 4000000 in
theorem r139_1 (x1 : Int32) (g0 : x1 < 0) : ∃ M1, Ev none 999 139 0 [some (.ref 0), some (.int (x1))] [] memR (some (.int 0)) M1 0 0 := by
  apply Exists.intro
  apply Ev.step (pc' := 6) (ls' := [some (.ref 0), some (.int (x1))]) (st' := [.int (x1)]) (M1 := _) 4 (fun n => rfl)
  apply Ev.step (pc' := if x1 < 0 then 17 else 9) (ls' := [some (.ref 0), some (.int (x1))]) (st' := []) (M1 := _) 1 (fun n => rfl)
  rw [if_pos g0]
  apply Ev.step (pc' := 18) (ls' := [some (.ref 0), some (.int (x1))]) (st' := [.int 0]) (M1 := _) 1 (fun n => rfl)
  exact Ev.ret (fun n => rfl)
set_option maxRecDepth 200000 in
set_option maxHeartbeats 4000000 in
theorem r81_2 (x1 : Int32) (g0 : ¬ x1 < 0) (g1 : x1 ≤ 0) : ∃ M1, Ev none 999 81 0 [some (.ref 0), some (.int (x1))] [] memP (some (.int 1)) M1 0 0 := by
  apply Exists.intro
  apply Ev.step (pc' := 1) (ls' := [some (.ref 0), some (.int (x1))]) (st' := [.int (x1)]) (M1 := _) 1 (fun n => rfl)
  apply Ev.step (pc' := if x1 < 0 then 15 else 4) (ls' := [some (.ref 0), some (.int (x1))]) (st' := []) (M1 := _) 1 (fun n => rfl)
  rw [if_neg g0]
  apply Ev.step (pc' := 12) (ls' := [some (.ref 0), some (.int (x1))]) (st' := [.int 0, .int (x1)]) (M1 := _) 4 (fun n => rfl)
  apply Ev.step (pc' := if x1 ≤ 0 then 17 else 15) (ls' := [some (.ref 0), some (.int (x1))]) (st' := []) (M1 := _) 1 (fun n => rfl)
  rw [if_pos g1]
  apply Ev.step (pc' := 26) (ls' := [some (.ref 0), some (.int (x1))]) (st' := [.int 1]) (M1 := _) 5 (fun n => rfl)
  exact Ev.ret (fun n => rfl)
set_option maxRecDepth 200000 in
set_option maxHeartbeats 4000000 in
theorem r139_3 (x1 : Int32) (g0 : ¬ x1 < 0) (g1 : x1 ≤ 0) : ∃ M1, Ev none 999 139 0 [some (.ref 0), some (.int (x1))] [] memR (some (.int 1)) M1 0 0 := by
  apply Exists.intro
  apply Ev.step (pc' := 6) (ls' := [some (.ref 0), some (.int (x1))]) (st' := [.int (x1)]) (M1 := _) 4 (fun n => rfl)
  apply Ev.step (pc' := if x1 < 0 then 17 else 9) (ls' := [some (.ref 0), some (.int (x1))]) (st' := []) (M1 := _) 1 (fun n => rfl)
  rw [if_neg g0]
  apply Ev.step (pc' := 14) (ls' := [some (.ref 0), some (.int (x1))]) (st' := [.int 0, .int (x1)]) (M1 := _) 3 (fun n => rfl)
  apply Ev.step (pc' := if x1 ≤ 0 then 19 else 17) (ls' := [some (.ref 0), some (.int (x1))]) (st' := []) (M1 := _) 1 (fun n => rfl)
  rw [if_pos g1]
  apply Ev.step (pc' := 25) (ls' := [some (.ref 0), some (.int (x1))]) (st' := [.int 1]) (M1 := _) 4 (fun n => rfl)
  exact Ev.ret (fun n => rfl)
set_option maxRecDepth 200000 in
set_option maxHeartbeats 4000000 in
theorem r81_4 (x1 : Int32) (g0 : ¬ x1 < 0) (g1 : ¬ x1 ≤ 0) : ∃ M1, Ev none 999 81 0 [some (.ref 0), some (.int (x1))] [] memP (some (.int 0)) M1 0 0 := by
  apply Exists.intro
  apply Ev.step (pc' := 1) (ls' := [some (.ref 0), some (.int (x1))]) (st' := [.int (x1)]) (M1 := _) 1 (fun n => rfl)
  apply Ev.step (pc' := if x1 < 0 then 15 else 4) (ls' := [some (.ref 0), some (.int (x1))]) (st' := []) (M1 := _) 1 (fun n => rfl)
  rw [if_neg g0]
  apply Ev.step (pc' := 12) (ls' := [some (.ref 0), some (.int (x1))]) (st' := [.int 0, .int (x1)]) (M1 := _) 4 (fun n => rfl)
  apply Ev.step (pc' := if x1 ≤ 0 then 17 else 15) (ls' := [some (.ref 0), some (.int (x1))]) (st' := []) (M1 := _) 1 (fun n => rfl)
  rw [if_neg g1]
  apply Ev.step (pc' := 16) (ls' := [some (.ref 0), some (.int (x1))]) (st' := [.int 0]) (M1 := _) 1 (fun n => rfl)
  exact Ev.ret (fun n => rfl)
set_option maxRecDepth 200000 in
set_option maxHeartbeats 4000000 in
theorem r139_5 (x1 : Int32) (g0 : ¬ x1 < 0) (g1 : ¬ x1 ≤ 0) : ∃ M1, Ev none 999 139 0 [some (.ref 0), some (.int (x1))] [] memR (some (.int 0)) M1 0 0 := by
  apply Exists.intro
  apply Ev.step (pc' := 6) (ls' := [some (.ref 0), some (.int (x1))]) (st' := [.int (x1)]) (M1 := _) 4 (fun n => rfl)
  apply Ev.step (pc' := if x1 < 0 then 17 else 9) (ls' := [some (.ref 0), some (.int (x1))]) (st' := []) (M1 := _) 1 (fun n => rfl)
  rw [if_neg g0]
  apply Ev.step (pc' := 14) (ls' := [some (.ref 0), some (.int (x1))]) (st' := [.int 0, .int (x1)]) (M1 := _) 3 (fun n => rfl)
  apply Ev.step (pc' := if x1 ≤ 0 then 19 else 17) (ls' := [some (.ref 0), some (.int (x1))]) (st' := []) (M1 := _) 1 (fun n => rfl)
  rw [if_neg g1]
  apply Ev.step (pc' := 18) (ls' := [some (.ref 0), some (.int (x1))]) (st' := [.int 0]) (M1 := _) 1 (fun n => rfl)
  exact Ev.ret (fun n => rfl)
set_option maxRecDepth 200000 in
set_option maxHeartbeats 4000000 in
theorem ok_1 {x0 x1 x2 x3 x4 x5 : Int32} (hj : x0 &&& 63 = nI 1) : Okk x0 x1 x2 x3 x4 x5 := by
  by_cases h1 : x1 < 0
  · skip
    obtain ⟨M1, A⟩ := (r81_0 x1 h1)
    obtain ⟨M2, B⟩ := (r139_1 x1 h1)
    exact lc_1 hj A B
  · skip
    by_cases h2 : x1 ≤ 0
    · skip
      obtain ⟨M1, A⟩ := (r81_2 x1 h1 h2)
      obtain ⟨M2, B⟩ := (r139_3 x1 h1 h2)
      exact lc_1 hj A B
    · skip
      obtain ⟨M1, A⟩ := (r81_4 x1 h1 h2)
      obtain ⟨M2, B⟩ := (r139_5 x1 h1 h2)
      exact lc_1 hj A B
set_option maxRecDepth 200000 in
set_option maxHeartbeats 4000000 in
theorem r82_0 (x1 x2 : Int32) (g0 : x1 < 4) : ∃ M1, Ev none 999 82 0 [some (.ref 0), some (.int (x1)), some (.int (x2)), none] [] memP (some (.int 0)) M1 0 0 := by
  apply Exists.intro
  apply Ev.step (pc' := 3) (ls' := [some (.ref 0), some (.int (x1)), some (.int (x2)), none]) (st' := [.int (x2), .int (x1), .ref 0]) (M1 := _) 3 (fun n => rfl)
  apply Ev.call0 (ls0 := [some (.ref 0), some (.int (x1)), some (.int (x2)), none]) (rest := []) (id := 83) (v1 := some (.int 0))  (fun n => rfl)
  · apply Ev.step (pc' := 4) (ls' := [some (.ref 0), some (.int (x1)), some (.int (x2)), none]) (st' := [.int 16, .int 4, .int (x1)]) (M1 := _) 3 (fun n => rfl)
    apply Ev.call0 (ls0 := [some (.int (x1)), some (.int 4), some (.int 16)]) (rest := []) (id := 126) (v1 := some (.int 0))  (fun n => rfl)
    · apply Ev.step (pc' := 2) (ls' := [some (.int (x1)), some (.int 4), some (.int 16)]) (st' := [.int 4, .int (x1)]) (M1 := _) 2 (fun n => rfl)
      apply Ev.step (pc' := if x1 < 4 then 14 else 5) (ls' := [some (.int (x1)), some (.int 4), some (.int 16)]) (st' := []) (M1 := _) 1 (fun n => rfl)
      rw [if_pos g0]
      apply Ev.step (pc' := 15) (ls' := [some (.int (x1)), some (.int 4), some (.int 16)]) (st' := [.int 0]) (M1 := _) 1 (fun n => rfl)
      exact Ev.ret (fun n => rfl)
    apply Ev.step (pc' := 34) (ls' := [some (.ref 0), some (.int (x1)), some (.int (x2)), none]) (st' := [.int 0]) (M1 := _) 2 (fun n => rfl)
    exact Ev.ret (fun n => rfl)
  apply Ev.step (pc' := 33) (ls' := [some (.ref 0), some (.int (x1)), some (.int (x2)), some (.int 0)]) (st' := [.int 0]) (M1 := _) 8 (fun n => rfl)
  exact Ev.ret (fun n => rfl)
set_option maxRecDepth 200000 in
set_option maxHeartbeats 4000000 in
theorem r156_1 (x1 x2 : Int32) (g0 : x1 < 4) : ∃ M1, Ev none 999 156 0 [some (.ref 0), some (.int (x1)), some (.int (x2)), none] [] memR (some (.int 0)) M1 0 0 := by
  apply Exists.intro
  apply Ev.step (pc' := 6) (ls' := [some (.ref 0), some (.int (x1)), some (.int (x2)), none]) (st' := [.ref 0]) (M1 := _) 4 (fun n => rfl)
  apply Ev.call0 (ls0 := [some (.ref 0)]) (rest := []) (id := 140) (v1 := none) (M1 := _) (fun n => rfl) ⟨11, rfl⟩
  apply Ev.step (pc' := 13) (ls' := [some (.ref 0), some (.int (x1)), some (.int (x2)), none]) (st' := [.int 16, .int 4, .int (x1)]) (M1 := _) 3 (fun n => rfl)
  apply Ev.call0 (ls0 := [some (.int (x1)), some (.int 4), some (.int 16)]) (rest := []) (id := 141) (v1 := some (.int 0))  (fun n => rfl)
  · apply Ev.step (pc' := 2) (ls' := [some (.int (x1)), some (.int 4), some (.int 16)]) (st' := [.int 4, .int (x1)]) (M1 := _) 2 (fun n => rfl)
    apply Ev.step (pc' := if x1 < 4 then 14 else 5) (ls' := [some (.int (x1)), some (.int 4), some (.int 16)]) (st' := []) (M1 := _) 1 (fun n => rfl)
    rw [if_pos g0]
    apply Ev.step (pc' := 15) (ls' := [some (.int (x1)), some (.int 4), some (.int 16)]) (st' := [.int 0]) (M1 := _) 1 (fun n => rfl)
    exact Ev.ret (fun n => rfl)
  apply Ev.step (pc' := 40) (ls' := [some (.ref 0), some (.int (x1)), some (.int (x2)), none]) (st' := [.int 0]) (M1 := _) 2 (fun n => rfl)
  exact Ev.ret (fun n => rfl)
set_option maxRecDepth 200000 in
set_option maxHeartbeats 4000000 in
theorem r82_2 (x1 x2 : Int32) (g0 : ¬ x1 < 4) (g1 : 16 < x1) : ∃ M1, Ev none 999 82 0 [some (.ref 0), some (.int (x1)), some (.int (x2)), none] [] memP (some (.int 0)) M1 0 0 := by
  apply Exists.intro
  apply Ev.step (pc' := 3) (ls' := [some (.ref 0), some (.int (x1)), some (.int (x2)), none]) (st' := [.int (x2), .int (x1), .ref 0]) (M1 := _) 3 (fun n => rfl)
  apply Ev.call0 (ls0 := [some (.ref 0), some (.int (x1)), some (.int (x2)), none]) (rest := []) (id := 83) (v1 := some (.int 0))  (fun n => rfl)
  · apply Ev.step (pc' := 4) (ls' := [some (.ref 0), some (.int (x1)), some (.int (x2)), none]) (st' := [.int 16, .int 4, .int (x1)]) (M1 := _) 3 (fun n => rfl)
    apply Ev.call0 (ls0 := [some (.int (x1)), some (.int 4), some (.int 16)]) (rest := []) (id := 126) (v1 := some (.int 0))  (fun n => rfl)
    · apply Ev.step (pc' := 2) (ls' := [some (.int (x1)), some (.int 4), some (.int 16)]) (st' := [.int 4, .int (x1)]) (M1 := _) 2 (fun n => rfl)
      apply Ev.step (pc' := if x1 < 4 then 14 else 5) (ls' := [some (.int (x1)), some (.int 4), some (.int 16)]) (st' := []) (M1 := _) 1 (fun n => rfl)
      rw [if_neg g0]
      apply Ev.step (pc' := 7) (ls' := [some (.int (x1)), some (.int 4), some (.int 16)]) (st' := [.int 16, .int (x1)]) (M1 := _) 2 (fun n => rfl)
      apply Ev.step (pc' := if 16 < x1 then 14 else 10) (ls' := [some (.int (x1)), some (.int 4), some (.int 16)]) (st' := []) (M1 := _) 1 (fun n => rfl)
      rw [if_pos g1]
      apply Ev.step (pc' := 15) (ls' := [some (.int (x1)), some (.int 4), some (.int 16)]) (st' := [.int 0]) (M1 := _) 1 (fun n => rfl)
      exact Ev.ret (fun n => rfl)
    apply Ev.step (pc' := 34) (ls' := [some (.ref 0), some (.int (x1)), some (.int (x2)), none]) (st' := [.int 0]) (M1 := _) 2 (fun n => rfl)
    exact Ev.ret (fun n => rfl)
  apply Ev.step (pc' := 33) (ls' := [some (.ref 0), some (.int (x1)), some (.int (x2)), some (.int 0)]) (st' := [.int 0]) (M1 := _) 8 (fun n => rfl)
  exact Ev.ret (fun n => rfl)
set_option maxRecDepth 200000 in
set_option maxHeartbeats 4000000 in
theorem r156_3 (x1 x2 : Int32) (g0 : ¬ x1 < 4) (g1 : 16 < x1) : ∃ M1, Ev none 999 156 0 [some (.ref 0), some (.int (x1)), some (.int (x2)), none] [] memR (some (.int 0)) M1 0 0 := by
  apply Exists.intro
  apply Ev.step (pc' := 6) (ls' := [some (.ref 0), some (.int (x1)), some (.int (x2)), none]) (st' := [.ref 0]) (M1 := _) 4 (fun n => rfl)
  apply Ev.call0 (ls0 := [some (.ref 0)]) (rest := []) (id := 140) (v1 := none) (M1 := _) (fun n => rfl) ⟨11, rfl⟩
  apply Ev.step (pc' := 13) (ls' := [some (.ref 0), some (.int (x1)), some (.int (x2)), none]) (st' := [.int 16, .int 4, .int (x1)]) (M1 := _) 3 (fun n => rfl)
  apply Ev.call0 (ls0 := [some (.int (x1)), some (.int 4), some (.int 16)]) (rest := []) (id := 141) (v1 := some (.int 0))  (fun n => rfl)
  · apply Ev.step (pc' := 2) (ls' := [some (.int (x1)), some (.int 4), some (.int 16)]) (st' := [.int 4, .int (x1)]) (M1 := _) 2 (fun n => rfl)
    apply Ev.step (pc' := if x1 < 4 then 14 else 5) (ls' := [some (.int (x1)), some (.int 4), some (.int 16)]) (st' := []) (M1 := _) 1 (fun n => rfl)
    rw [if_neg g0]
    apply Ev.step (pc' := 7) (ls' := [some (.int (x1)), some (.int 4), some (.int 16)]) (st' := [.int 16, .int (x1)]) (M1 := _) 2 (fun n => rfl)
    apply Ev.step (pc' := if 16 < x1 then 14 else 10) (ls' := [some (.int (x1)), some (.int 4), some (.int 16)]) (st' := []) (M1 := _) 1 (fun n => rfl)
    rw [if_pos g1]
    apply Ev.step (pc' := 15) (ls' := [some (.int (x1)), some (.int 4), some (.int 16)]) (st' := [.int 0]) (M1 := _) 1 (fun n => rfl)
    exact Ev.ret (fun n => rfl)
  apply Ev.step (pc' := 40) (ls' := [some (.ref 0), some (.int (x1)), some (.int (x2)), none]) (st' := [.int 0]) (M1 := _) 2 (fun n => rfl)
  exact Ev.ret (fun n => rfl)
set_option maxRecDepth 200000 in
set_option maxHeartbeats 4000000 in
theorem r82_4 (x1 x2 : Int32) (g0 : ¬ x1 < 4) (g1 : ¬ 16 < x1) (g2 : x2 < 4) : ∃ M1, Ev none 999 82 0 [some (.ref 0), some (.int (x1)), some (.int (x2)), none] [] memP (some (.int 0)) M1 0 0 := by
  apply Exists.intro
  apply Ev.step (pc' := 3) (ls' := [some (.ref 0), some (.int (x1)), some (.int (x2)), none]) (st' := [.int (x2), .int (x1), .ref 0]) (M1 := _) 3 (fun n => rfl)
  apply Ev.call0 (ls0 := [some (.ref 0), some (.int (x1)), some (.int (x2)), none]) (rest := []) (id := 83) (v1 := some (.int 0))  (fun n => rfl)
  · apply Ev.step (pc' := 4) (ls' := [some (.ref 0), some (.int (x1)), some (.int (x2)), none]) (st' := [.int 16, .int 4, .int (x1)]) (M1 := _) 3 (fun n => rfl)
    apply Ev.call0 (ls0 := [some (.int (x1)), some (.int 4), some (.int 16)]) (rest := []) (id := 126) (v1 := some (.int 1))  (fun n => rfl)
    · apply Ev.step (pc' := 2) (ls' := [some (.int (x1)), some (.int 4), some (.int 16)]) (st' := [.int 4, .int (x1)]) (M1 := _) 2 (fun n => rfl)
      apply Ev.step (pc' := if x1 < 4 then 14 else 5) (ls' := [some (.int (x1)), some (.int 4), some (.int 16)]) (st' := []) (M1 := _) 1 (fun n => rfl)
      rw [if_neg g0]
      apply Ev.step (pc' := 7) (ls' := [some (.int (x1)), some (.int 4), some (.int 16)]) (st' := [.int 16, .int (x1)]) (M1 := _) 2 (fun n => rfl)
      apply Ev.step (pc' := if 16 < x1 then 14 else 10) (ls' := [some (.int (x1)), some (.int 4), some (.int 16)]) (st' := []) (M1 := _) 1 (fun n => rfl)
      rw [if_neg g1]
      apply Ev.step (pc' := 15) (ls' := [some (.int (x1)), some (.int 4), some (.int 16)]) (st' := [.int 1]) (M1 := _) 2 (fun n => rfl)
      exact Ev.ret (fun n => rfl)
    apply Ev.step (pc' := 14) (ls' := [some (.ref 0), some (.int (x1)), some (.int (x2)), none]) (st' := [.int 16, .int 4, .int (x2)]) (M1 := _) 4 (fun n => rfl)
    apply Ev.call0 (ls0 := [some (.int (x2)), some (.int 4), some (.int 16)]) (rest := []) (id := 126) (v1 := some (.int 0))  (fun n => rfl)
    · apply Ev.step (pc' := 2) (ls' := [some (.int (x2)), some (.int 4), some (.int 16)]) (st' := [.int 4, .int (x2)]) (M1 := _) 2 (fun n => rfl)
      apply Ev.step (pc' := if x2 < 4 then 14 else 5) (ls' := [some (.int (x2)), some (.int 4), some (.int 16)]) (st' := []) (M1 := _) 1 (fun n => rfl)
      rw [if_pos g2]
      apply Ev.step (pc' := 15) (ls' := [some (.int (x2)), some (.int 4), some (.int 16)]) (st' := [.int 0]) (M1 := _) 1 (fun n => rfl)
      exact Ev.ret (fun n => rfl)
    apply Ev.step (pc' := 34) (ls' := [some (.ref 0), some (.int (x1)), some (.int (x2)), none]) (st' := [.int 0]) (M1 := _) 2 (fun n => rfl)
    exact Ev.ret (fun n => rfl)
  apply Ev.step (pc' := 33) (ls' := [some (.ref 0), some (.int (x1)), some (.int (x2)), some (.int 0)]) (st' := [.int 0]) (M1 := _) 8 (fun n => rfl)
  exact Ev.ret (fun n => rfl)
set_option maxRecDepth 200000 in
set_option maxHeartbeats 4000000 in
theorem r156_5 (x1 x2 : Int32) (g0 : ¬ x1 < 4) (g1 : ¬ 16 < x1) (g2 : x2 < 4) : ∃ M1, Ev none 999 156 0 [some (.ref 0), some (.int (x1)), some (.int (x2)), none] [] memR (some (.int 0)) M1 0 0 := by
  apply Exists.intro
  apply Ev.step (pc' := 6) (ls' := [some (.ref 0), some (.int (x1)), some (.int (x2)), none]) (st' := [.ref 0]) (M1 := _) 4 (fun n => rfl)
  apply Ev.call0 (ls0 := [some (.ref 0)]) (rest := []) (id := 140) (v1 := none) (M1 := _) (fun n => rfl) ⟨11, rfl⟩
  apply Ev.step (pc' := 13) (ls' := [some (.ref 0), some (.int (x1)), some (.int (x2)), none]) (st' := [.int 16, .int 4, .int (x1)]) (M1 := _) 3 (fun n => rfl)
  apply Ev.call0 (ls0 := [some (.int (x1)), some (.int 4), some (.int 16)]) (rest := []) (id := 141) (v1 := some (.int 1))  (fun n => rfl)
  · apply Ev.step (pc' := 2) (ls' := [some (.int (x1)), some (.int 4), some (.int 16)]) (st' := [.int 4, .int (x1)]) (M1 := _) 2 (fun n => rfl)
    apply Ev.step (pc' := if x1 < 4 then 14 else 5) (ls' := [some (.int (x1)), some (.int 4), some (.int 16)]) (st' := []) (M1 := _) 1 (fun n => rfl)
    rw [if_neg g0]
    apply Ev.step (pc' := 7) (ls' := [some (.int (x1)), some (.int 4), some (.int 16)]) (st' := [.int 16, .int (x1)]) (M1 := _) 2 (fun n => rfl)
    apply Ev.step (pc' := if 16 < x1 then 14 else 10) (ls' := [some (.int (x1)), some (.int 4), some (.int 16)]) (st' := []) (M1 := _) 1 (fun n => rfl)
    rw [if_neg g1]
    apply Ev.step (pc' := 15) (ls' := [some (.int (x1)), some (.int 4), some (.int 16)]) (st' := [.int 1]) (M1 := _) 2 (fun n => rfl)
    exact Ev.ret (fun n => rfl)
  apply Ev.step (pc' := 23) (ls' := [some (.ref 0), some (.int (x1)), some (.int (x2)), none]) (st' := [.int 16, .int 4, .int (x2)]) (M1 := _) 4 (fun n => rfl)
  apply Ev.call0 (ls0 := [some (.int (x2)), some (.int 4), some (.int 16)]) (rest := []) (id := 141) (v1 := some (.int 0))  (fun n => rfl)
  · apply Ev.step (pc' := 2) (ls' := [some (.int (x2)), some (.int 4), some (.int 16)]) (st' := [.int 4, .int (x2)]) (M1 := _) 2 (fun n => rfl)
    apply Ev.step (pc' := if x2 < 4 then 14 else 5) (ls' := [some (.int (x2)), some (.int 4), some (.int 16)]) (st' := []) (M1 := _) 1 (fun n => rfl)
    rw [if_pos g2]
    apply Ev.step (pc' := 15) (ls' := [some (.int (x2)), some (.int 4), some (.int 16)]) (st' := [.int 0]) (M1 := _) 1 (fun n => rfl)
    exact Ev.ret (fun n => rfl)
  apply Ev.step (pc' := 40) (ls' := [some (.ref 0), some (.int (x1)), some (.int (x2)), none]) (st' := [.int 0]) (M1 := _) 2 (fun n => rfl)
  exact Ev.ret (fun n => rfl)
set_option maxRecDepth 200000 in
set_option maxHeartbeats 4000000 in
theorem r82_6 (x1 x2 : Int32) (g0 : ¬ x1 < 4) (g1 : ¬ 16 < x1) (g2 : ¬ x2 < 4) (g3 : 16 < x2) : ∃ M1, Ev none 999 82 0 [some (.ref 0), some (.int (x1)), some (.int (x2)), none] [] memP (some (.int 0)) M1 0 0 := by
  apply Exists.intro
  apply Ev.step (pc' := 3) (ls' := [some (.ref 0), some (.int (x1)), some (.int (x2)), none]) (st' := [.int (x2), .int (x1), .ref 0]) (M1 := _) 3 (fun n => rfl)
  apply Ev.call0 (ls0 := [some (.ref 0), some (.int (x1)), some (.int (x2)), none]) (rest := []) (id := 83) (v1 := some (.int 0))  (fun n => rfl)
  · apply Ev.step (pc' := 4) (ls' := [some (.ref 0), some (.int (x1)), some (.int (x2)), none]) (st' := [.int 16, .int 4, .int (x1)]) (M1 := _) 3 (fun n => rfl)
    apply Ev.call0 (ls0 := [some (.int (x1)), some (.int 4), some (.int 16)]) (rest := []) (id := 126) (v1 := some (.int 1))  (fun n => rfl)
    · apply Ev.step (pc' := 2) (ls' := [some (.int (x1)), some (.int 4), some (.int 16)]) (st' := [.int 4, .int (x1)]) (M1 := _) 2 (fun n => rfl)
      apply Ev.step (pc' := if x1 < 4 then 14 else 5) (ls' := [some (.int (x1)), some (.int 4), some (.int 16)]) (st' := []) (M1 := _) 1 (fun n => rfl)
      rw [if_neg g0]
      apply Ev.step (pc' := 7) (ls' := [some (.int (x1)), some (.int 4), some (.int 16)]) (st' := [.int 16, .int (x1)]) (M1 := _) 2 (fun n => rfl)
      apply Ev.step (pc' := if 16 < x1 then 14 else 10) (ls' := [some (.int (x1)), some (.int 4), some (.int 16)]) (st' := []) (M1 := _) 1 (fun n => rfl)
      rw [if_neg g1]
      apply Ev.step (pc' := 15) (ls' := [some (.int (x1)), some (.int 4), some (.int 16)]) (st' := [.int 1]) (M1 := _) 2 (fun n => rfl)
      exact Ev.ret (fun n => rfl)
    apply Ev.step (pc' := 14) (ls' := [some (.ref 0), some (.int (x1)), some (.int (x2)), none]) (st' := [.int 16, .int 4, .int (x2)]) (M1 := _) 4 (fun n => rfl)
    apply Ev.call0 (ls0 := [some (.int (x2)), some (.int 4), some (.int 16)]) (rest := []) (id := 126) (v1 := some (.int 0))  (fun n => rfl)
    · apply Ev.step (pc' := 2) (ls' := [some (.int (x2)), some (.int 4), some (.int 16)]) (st' := [.int 4, .int (x2)]) (M1 := _) 2 (fun n => rfl)
      apply Ev.step (pc' := if x2 < 4 then 14 else 5) (ls' := [some (.int (x2)), some (.int 4), some (.int 16)]) (st' := []) (M1 := _) 1 (fun n => rfl)
      rw [if_neg g2]
      apply Ev.step (pc' := 7) (ls' := [some (.int (x2)), some (.int 4), some (.int 16)]) (st' := [.int 16, .int (x2)]) (M1 := _) 2 (fun n => rfl)
      apply Ev.step (pc' := if 16 < x2 then 14 else 10) (ls' := [some (.int (x2)), some (.int 4), some (.int 16)]) (st' := []) (M1 := _) 1 (fun n => rfl)
      rw [if_pos g3]
      apply Ev.step (pc' := 15) (ls' := [some (.int (x2)), some (.int 4), some (.int 16)]) (st' := [.int 0]) (M1 := _) 1 (fun n => rfl)
      exact Ev.ret (fun n => rfl)
    apply Ev.step (pc' := 34) (ls' := [some (.ref 0), some (.int (x1)), some (.int (x2)), none]) (st' := [.int 0]) (M1 := _) 2 (fun n => rfl)
    exact Ev.ret (fun n => rfl)
  apply Ev.step (pc' := 33) (ls' := [some (.ref 0), some (.int (x1)), some (.int (x2)), some (.int 0)]) (st' := [.int 0]) (M1 := _) 8 (fun n => rfl)
  exact Ev.ret (fun n => rfl)
set_option maxRecDepth 200000 in
set_option maxHeartbeats 4000000 in
theorem r156_7 (x1 x2 : Int32) (g0 : ¬ x1 < 4) (g1 : ¬ 16 < x1) (g2 : ¬ x2 < 4) (g3 : 16 < x2) : ∃ M1, Ev none 999 156 0 [some (.ref 0), some (.int (x1)), some (.int (x2)), none] [] memR (some (.int 0)) M1 0 0 := by
  apply Exists.intro
  apply Ev.step (pc' := 6) (ls' := [some (.ref 0), some (.int (x1)), some (.int (x2)), none]) (st' := [.ref 0]) (M1 := _) 4 (fun n => rfl)
  apply Ev.call0 (ls0 := [some (.ref 0)]) (rest := []) (id := 140) (v1 := none) (M1 := _) (fun n => rfl) ⟨11, rfl⟩
  apply Ev.step (pc' := 13) (ls' := [some (.ref 0), some (.int (x1)), some (.int (x2)), none]) (st' := [.int 16, .int 4, .int (x1)]) (M1 := _) 3 (fun n => rfl)
  apply Ev.call0 (ls0 := [some (.int (x1)), some (.int 4), some (.int 16)]) (rest := []) (id := 141) (v1 := some (.int 1))  (fun n => rfl)
  · apply Ev.step (pc' := 2) (ls' := [some (.int (x1)), some (.int 4), some (.int 16)]) (st' := [.int 4, .int (x1)]) (M1 := _) 2 (fun n => rfl)
    apply Ev.step (pc' := if x1 < 4 then 14 else 5) (ls' := [some (.int (x1)), some (.int 4), some (.int 16)]) (st' := []) (M1 := _) 1 (fun n => rfl)
    rw [if_neg g0]
    apply Ev.step (pc' := 7) (ls' := [some (.int (x1)), some (.int 4), some (.int 16)]) (st' := [.int 16, .int (x1)]) (M1 := _) 2 (fun n => rfl)
    apply Ev.step (pc' := if 16 < x1 then 14 else 10) (ls' := [some (.int (x1)), some (.int 4), some (.int 16)]) (st' := []) (M1 := _) 1 (fun n => rfl)
    rw [if_neg g1]
    apply Ev.step (pc' := 15) (ls' := [some (.int (x1)), some (.int 4), some (.int 16)]) (st' := [.int 1]) (M1 := _) 2 (fun n => rfl)
    exact Ev.ret (fun n => rfl)
  apply Ev.step (pc' := 23) (ls' := [some (.ref 0), some (.int (x1)), some (.int (x2)), none]) (st' := [.int 16, .int 4, .int (x2)]) (M1 := _) 4 (fun n => rfl)
  apply Ev.call0 (ls0 := [some (.int (x2)), some (.int 4), some (.int 16)]) (rest := []) (id := 141) (v1 := some (.int 0))  (fun n => rfl)
  · apply Ev.step (pc' := 2) (ls' := [some (.int (x2)), some (.int 4), some (.int 16)]) (st' := [.int 4, .int (x2)]) (M1 := _) 2 (fun n => rfl)
    apply Ev.step (pc' := if x2 < 4 then 14 else 5) (ls' := [some (.int (x2)), some (.int 4), some (.int 16)]) (st' := []) (M1 := _) 1 (fun n => rfl)
    rw [if_neg g2]
    apply Ev.step (pc' := 7) (ls' := [some (.int (x2)), some (.int 4), some (.int 16)]) (st' := [.int 16, .int (x2)]) (M1 := _) 2 (fun n => rfl)
    apply Ev.step (pc' := if 16 < x2 then 14 else 10) (ls' := [some (.int (x2)), some (.int 4), some (.int 16)]) (st' := []) (M1 := _) 1 (fun n => rfl)
    rw [if_pos g3]
    apply Ev.step (pc' := 15) (ls' := [some (.int (x2)), some (.int 4), some (.int 16)]) (st' := [.int 0]) (M1 := _) 1 (fun n => rfl)
    exact Ev.ret (fun n => rfl)
  apply Ev.step (pc' := 40) (ls' := [some (.ref 0), some (.int (x1)), some (.int (x2)), none]) (st' := [.int 0]) (M1 := _) 2 (fun n => rfl)
  exact Ev.ret (fun n => rfl)
set_option maxRecDepth 200000 in
set_option maxHeartbeats 4000000 in
theorem r82_8 (x1 x2 : Int32) (g0 : ¬ x1 < 4) (g1 : ¬ 16 < x1) (g2 : ¬ x2 < 4) (g3 : ¬ 16 < x2) (g4 : ¬ 0 = (x1 * x2)) : ∃ M1, Ev none 999 82 0 [some (.ref 0), some (.int (x1)), some (.int (x2)), none] [] memP (some (.int 0)) M1 0 0 := by
  apply Exists.intro
  apply Ev.step (pc' := 3) (ls' := [some (.ref 0), some (.int (x1)), some (.int (x2)), none]) (st' := [.int (x2), .int (x1), .ref 0]) (M1 := _) 3 (fun n => rfl)
  apply Ev.call0 (ls0 := [some (.ref 0), some (.int (x1)), some (.int (x2)), none]) (rest := []) (id := 83) (v1 := some (.int 0))  (fun n => rfl)
  · apply Ev.step (pc' := 4) (ls' := [some (.ref 0), some (.int (x1)), some (.int (x2)), none]) (st' := [.int 16, .int 4, .int (x1)]) (M1 := _) 3 (fun n => rfl)
    apply Ev.call0 (ls0 := [some (.int (x1)), some (.int 4), some (.int 16)]) (rest := []) (id := 126) (v1 := some (.int 1))  (fun n => rfl)
    · apply Ev.step (pc' := 2) (ls' := [some (.int (x1)), some (.int 4), some (.int 16)]) (st' := [.int 4, .int (x1)]) (M1 := _) 2 (fun n => rfl)
      apply Ev.step (pc' := if x1 < 4 then 14 else 5) (ls' := [some (.int (x1)), some (.int 4), some (.int 16)]) (st' := []) (M1 := _) 1 (fun n => rfl)
      rw [if_neg g0]
      apply Ev.step (pc' := 7) (ls' := [some (.int (x1)), some (.int 4), some (.int 16)]) (st' := [.int 16, .int (x1)]) (M1 := _) 2 (fun n => rfl)
      apply Ev.step (pc' := if 16 < x1 then 14 else 10) (ls' := [some (.int (x1)), some (.int 4), some (.int 16)]) (st' := []) (M1 := _) 1 (fun n => rfl)
      rw [if_neg g1]
      apply Ev.step (pc' := 15) (ls' := [some (.int (x1)), some (.int 4), some (.int 16)]) (st' := [.int 1]) (M1 := _) 2 (fun n => rfl)
      exact Ev.ret (fun n => rfl)
    apply Ev.step (pc' := 14) (ls' := [some (.ref 0), some (.int (x1)), some (.int (x2)), none]) (st' := [.int 16, .int 4, .int (x2)]) (M1 := _) 4 (fun n => rfl)
    apply Ev.call0 (ls0 := [some (.int (x2)), some (.int 4), some (.int 16)]) (rest := []) (id := 126) (v1 := some (.int 1))  (fun n => rfl)
    · apply Ev.step (pc' := 2) (ls' := [some (.int (x2)), some (.int 4), some (.int 16)]) (st' := [.int 4, .int (x2)]) (M1 := _) 2 (fun n => rfl)
      apply Ev.step (pc' := if x2 < 4 then 14 else 5) (ls' := [some (.int (x2)), some (.int 4), some (.int 16)]) (st' := []) (M1 := _) 1 (fun n => rfl)
      rw [if_neg g2]
      apply Ev.step (pc' := 7) (ls' := [some (.int (x2)), some (.int 4), some (.int 16)]) (st' := [.int 16, .int (x2)]) (M1 := _) 2 (fun n => rfl)
      apply Ev.step (pc' := if 16 < x2 then 14 else 10) (ls' := [some (.int (x2)), some (.int 4), some (.int 16)]) (st' := []) (M1 := _) 1 (fun n => rfl)
      rw [if_neg g3]
      apply Ev.step (pc' := 15) (ls' := [some (.int (x2)), some (.int 4), some (.int 16)]) (st' := [.int 1]) (M1 := _) 2 (fun n => rfl)
      exact Ev.ret (fun n => rfl)
    apply Ev.step (pc' := 30) (ls' := [some (.ref 0), some (.int (x1)), some (.int (x2)), none]) (st' := [.int ((x1 * x2)), .int 0]) (M1 := _) 7 (fun n => rfl)
    apply Ev.step (pc' := if 0 = (x1 * x2) then 35 else 33) (ls' := [some (.ref 0), some (.int (x1)), some (.int (x2)), none]) (st' := []) (M1 := _) 1 (fun n => rfl)
    rw [if_neg g4]
    apply Ev.step (pc' := 34) (ls' := [some (.ref 0), some (.int (x1)), some (.int (x2)), none]) (st' := [.int 0]) (M1 := _) 1 (fun n => rfl)
    exact Ev.ret (fun n => rfl)
  apply Ev.step (pc' := 33) (ls' := [some (.ref 0), some (.int (x1)), some (.int (x2)), some (.int 0)]) (st' := [.int 0]) (M1 := _) 8 (fun n => rfl)
  exact Ev.ret (fun n => rfl)
set_option maxRecDepth 200000 in
set_option maxHeartbeats 4000000 in
theorem r156_9 (x1 x2 : Int32) (g0 : ¬ x1 < 4) (g1 : ¬ 16 < x1) (g2 : ¬ x2 < 4) (g3 : ¬ 16 < x2) (g4 : ¬ 0 = (x1 * x2)) : ∃ M1, Ev none 999 156 0 [some (.ref 0), some (.int (x1)), some (.int (x2)), none] [] memR (some (.int 0)) M1 0 0 := by
  apply Exists.intro
  apply Ev.step (pc' := 6) (ls' := [some (.ref 0), some (.int (x1)), some (.int (x2)), none]) (st' := [.ref 0]) (M1 := _) 4 (fun n => rfl)
  apply Ev.call0 (ls0 := [some (.ref 0)]) (rest := []) (id := 140) (v1 := none) (M1 := _) (fun n => rfl) ⟨11, rfl⟩
  apply Ev.step (pc' := 13) (ls' := [some (.ref 0), some (.int (x1)), some (.int (x2)), none]) (st' := [.int 16, .int 4, .int (x1)]) (M1 := _) 3 (fun n => rfl)
  apply Ev.call0 (ls0 := [some (.int (x1)), some (.int 4), some (.int 16)]) (rest := []) (id := 141) (v1 := some (.int 1))  (fun n => rfl)
  · apply Ev.step (pc' := 2) (ls' := [some (.int (x1)), some (.int 4), some (.int 16)]) (st' := [.int 4, .int (x1)]) (M1 := _) 2 (fun n => rfl)
    apply Ev.step (pc' := if x1 < 4 then 14 else 5) (ls' := [some (.int (x1)), some (.int 4), some (.int 16)]) (st' := []) (M1 := _) 1 (fun n => rfl)
    rw [if_neg g0]
    apply Ev.step (pc' := 7) (ls' := [some (.int (x1)), some (.int 4), some (.int 16)]) (st' := [.int 16, .int (x1)]) (M1 := _) 2 (fun n => rfl)
    apply Ev.step (pc' := if 16 < x1 then 14 else 10) (ls' := [some (.int (x1)), some (.int 4), some (.int 16)]) (st' := []) (M1 := _) 1 (fun n => rfl)
    rw [if_neg g1]
    apply Ev.step (pc' := 15) (ls' := [some (.int (x1)), some (.int 4), some (.int 16)]) (st' := [.int 1]) (M1 := _) 2 (fun n => rfl)
    exact Ev.ret (fun n => rfl)
  apply Ev.step (pc' := 23) (ls' := [some (.ref 0), some (.int (x1)), some (.int (x2)), none]) (st' := [.int 16, .int 4, .int (x2)]) (M1 := _) 4 (fun n => rfl)
  apply Ev.call0 (ls0 := [some (.int (x2)), some (.int 4), some (.int 16)]) (rest := []) (id := 141) (v1 := some (.int 1))  (fun n => rfl)
  · apply Ev.step (pc' := 2) (ls' := [some (.int (x2)), some (.int 4), some (.int 16)]) (st' := [.int 4, .int (x2)]) (M1 := _) 2 (fun n => rfl)
    apply Ev.step (pc' := if x2 < 4 then 14 else 5) (ls' := [some (.int (x2)), some (.int 4), some (.int 16)]) (st' := []) (M1 := _) 1 (fun n => rfl)
    rw [if_neg g2]
    apply Ev.step (pc' := 7) (ls' := [some (.int (x2)), some (.int 4), some (.int 16)]) (st' := [.int 16, .int (x2)]) (M1 := _) 2 (fun n => rfl)
    apply Ev.step (pc' := if 16 < x2 then 14 else 10) (ls' := [some (.int (x2)), some (.int 4), some (.int 16)]) (st' := []) (M1 := _) 1 (fun n => rfl)
    rw [if_neg g3]
    apply Ev.step (pc' := 15) (ls' := [some (.int (x2)), some (.int 4), some (.int 16)]) (st' := [.int 1]) (M1 := _) 2 (fun n => rfl)
    exact Ev.ret (fun n => rfl)
  apply Ev.step (pc' := 36) (ls' := [some (.ref 0), some (.int (x1)), some (.int (x2)), none]) (st' := [.int ((x1 * x2)), .int 0]) (M1 := _) 6 (fun n => rfl)
  apply Ev.step (pc' := if 0 = (x1 * x2) then 41 else 39) (ls' := [some (.ref 0), some (.int (x1)), some (.int (x2)), none]) (st' := []) (M1 := _) 1 (fun n => rfl)
  rw [if_neg g4]
  apply Ev.step (pc' := 40) (ls' := [some (.ref 0), some (.int (x1)), some (.int (x2)), none]) (st' := [.int 0]) (M1 := _) 1 (fun n => rfl)
  exact Ev.ret (fun n => rfl)
set_option maxRecDepth 200000 in
set_option maxHeartbeats 4000000 in
theorem ok_2 {x0 x1 x2 x3 x4 x5 : Int32} (hj : x0 &&& 63 = nI 2) : Okk x0 x1 x2 x3 x4 x5 := by
  by_cases h1 : x1 < 4
  · skip
    obtain ⟨M1, A⟩ := (r82_0 x1 x2 h1)
    obtain ⟨M2, B⟩ := (r156_1 x1 x2 h1)
    exact lc_2 hj A B
  · skip
    by_cases h2 : 16 < x1
    · skip
      obtain ⟨M1, A⟩ := (r82_2 x1 x2 h1 h2)
      obtain ⟨M2, B⟩ := (r156_3 x1 x2 h1 h2)
      exact lc_2 hj A B
    · skip
      by_cases h3 : x2 < 4
      · skip
        obtain ⟨M1, A⟩ := (r82_4 x1 x2 h1 h2 h3)
        obtain ⟨M2, B⟩ := (r156_5 x1 x2 h1 h2 h3)
        exact lc_2 hj A B
      · skip
        by_cases h4 : 16 < x2
        · skip
          obtain ⟨M1, A⟩ := (r82_6 x1 x2 h1 h2 h3 h4)
          obtain ⟨M2, B⟩ := (r156_7 x1 x2 h1 h2 h3 h4)
          exact lc_2 hj A B
        · skip
          by_cases h5 : 0 = (x1 * x2)
          · skip
            exfalso
            rcases pick_4_16 h1 h2 with rfl | rfl | rfl | rfl | rfl | rfl | rfl | rfl | rfl | rfl | rfl | rfl | rfl
            all_goals (rcases pick_4_16 h3 h4 with rfl | rfl | rfl | rfl | rfl | rfl | rfl | rfl | rfl | rfl | rfl | rfl | rfl <;> exact absurd h5 (by decide))
          · skip
            obtain ⟨M1, A⟩ := (r82_8 x1 x2 h1 h2 h3 h4 h5)
            obtain ⟨M2, B⟩ := (r156_9 x1 x2 h1 h2 h3 h4 h5)
            exact lc_2 hj A B
set_option maxRecDepth 200000 in
set_option maxHeartbeats 4000000 in
theorem r88_0 : ∃ M1, Ev none 999 88 0 [some (.ref 0)] [] memP (some (.int 0)) M1 0 0 := by
  apply Exists.intro
  apply Ev.step (pc' := 4) (ls' := [some (.ref 0)]) (st' := [.int 0]) (M1 := _) 2 (fun n => rfl)
  exact Ev.ret (fun n => rfl)
set_option maxRecDepth 200000 in
set_option maxHeartbeats 4000000 in
theorem r186_1 : ∃ M1, Ev none 999 186 0 [some (.ref 0)] [] memR (some (.int 0)) M1 0 0 := by
  apply Exists.intro
  apply Ev.step (pc' := 9) (ls' := [some (.ref 0)]) (st' := [.int 0]) (M1 := _) 5 (fun n => rfl)
  exact Ev.ret (fun n => rfl)
set_option maxRecDepth 200000 in
set_option maxHeartbeats 4000000 in
theorem ok_6 {x0 x1 x2 x3 x4 x5 : Int32} (hj : x0 &&& 63 = nI 6) : Okk x0 x1 x2 x3 x4 x5 := by
  obtain ⟨M1, A⟩ := r88_0
  obtain ⟨M2, B⟩ := r186_1
  exact lc_6 hj A B
set_option maxRecDepth 200000 in
set_option maxHeartbeats 4000000 in
theorem r89_0 (x1 x2 x3 x4 x5 : Int32) (g0 : x1 < 0) : ∃ M1, Ev none 999 89 0 [some (.ref 0), some (.int (x1)), some (.int (x2)), some (.int (x3)), some (.int (x4)), some (.int (x5)), none] [] memP (some (.int (-1))) M1 0 0 := by
  apply Exists.intro
  apply Ev.step (pc' := 15) (ls' := [some (.ref 0), some (.int (x1)), some (.int (x2)), some (.int (x3)), some (.int (x4)), some (.int (x5)), none]) (st' := [.int (x2), .int (x1), .ref 0]) (M1 := _) 8 (fun n => rfl)
  apply Ev.call0 (ls0 := [some (.ref 0), some (.int (x1)), some (.int (x2))]) (rest := []) (id := 129) (v1 := some (.int 0))  (fun n => rfl)
  · apply Ev.step (pc' := 2) (ls' := [some (.ref 0), some (.int (x1)), some (.int (x2))]) (st' := [.int (x1), .ref 0]) (M1 := _) 2 (fun n => rfl)
    apply Ev.call0 (ls0 := [some (.ref 0), some (.int (x1))]) (rest := []) (id := 128) (v1 := some (.int 0))  (fun n => rfl)
    · apply Ev.step (pc' := 11) (ls' := [some (.ref 0), some (.int (x1))]) (st' := [.int (-1), .int 0, .int (x1)]) (M1 := _) 7 (fun n => rfl)
      apply Ev.call0 (ls0 := [some (.int (x1)), some (.int 0), some (.int (-1))]) (rest := []) (id := 126) (v1 := some (.int 0))  (fun n => rfl)
      · apply Ev.step (pc' := 2) (ls' := [some (.int (x1)), some (.int 0), some (.int (-1))]) (st' := [.int 0, .int (x1)]) (M1 := _) 2 (fun n => rfl)
        apply Ev.step (pc' := if x1 < 0 then 14 else 5) (ls' := [some (.int (x1)), some (.int 0), some (.int (-1))]) (st' := []) (M1 := _) 1 (fun n => rfl)
        rw [if_pos g0]
        apply Ev.step (pc' := 15) (ls' := [some (.int (x1)), some (.int 0), some (.int (-1))]) (st' := [.int 0]) (M1 := _) 1 (fun n => rfl)
        exact Ev.ret (fun n => rfl)
      exact Ev.ret (fun n => rfl)
    apply Ev.step (pc' := 26) (ls' := [some (.ref 0), some (.int (x1)), some (.int (x2))]) (st' := [.int 0]) (M1 := _) 2 (fun n => rfl)
    exact Ev.ret (fun n => rfl)
  apply Ev.step (pc' := 31) (ls' := [some (.ref 0), some (.int (x1)), some (.int (x2)), some (.int (x3)), some (.int (x4)), some (.int (x5)), none]) (st' := [.int (-1)]) (M1 := _) 2 (fun n => rfl)
  exact Ev.ret (fun n => rfl)
set_option maxRecDepth 200000 in
set_option maxHeartbeats 4000000 in
theorem r191_1 (x1 x2 x3 x4 x5 : Int32) (g0 : x1 < 0) : ∃ M1, Ev none 999 191 0 [some (.ref 0), some (.int (x1)), some (.int (x2)), some (.int (x3)), some (.int (x4)), some (.int (x5)), none] [] memR (some (.int (-1))) M1 0 0 := by
  apply Exists.intro
  apply Ev.step (pc' := 19) (ls' := [some (.ref 0), some (.int (x1)), some (.int (x2)), some (.int (x3)), some (.int (x4)), some (.int (x5)), none]) (st' := [.int (x1), .ref 0]) (M1 := _) 11 (fun n => rfl)
  apply Ev.call0 (ls0 := [some (.ref 0), some (.int (x1))]) (rest := []) (id := 153) (v1 := some (.int 0))  (fun n => rfl)
  · apply Ev.step (pc' := 10) (ls' := [some (.ref 0), some (.int (x1))]) (st' := [.int (-1), .int 0, .int (x1)]) (M1 := _) 8 (fun n => rfl)
    apply Ev.call0 (ls0 := [some (.int (x1)), some (.int 0), some (.int (-1))]) (rest := []) (id := 141) (v1 := some (.int 0))  (fun n => rfl)
    · apply Ev.step (pc' := 2) (ls' := [some (.int (x1)), some (.int 0), some (.int (-1))]) (st' := [.int 0, .int (x1)]) (M1 := _) 2 (fun n => rfl)
      apply Ev.step (pc' := if x1 < 0 then 14 else 5) (ls' := [some (.int (x1)), some (.int 0), some (.int (-1))]) (st' := []) (M1 := _) 1 (fun n => rfl)
      rw [if_pos g0]
      apply Ev.step (pc' := 15) (ls' := [some (.int (x1)), some (.int 0), some (.int (-1))]) (st' := [.int 0]) (M1 := _) 1 (fun n => rfl)
      exact Ev.ret (fun n => rfl)
    exact Ev.ret (fun n => rfl)
  apply Ev.step (pc' := 72) (ls' := [some (.ref 0), some (.int (x1)), some (.int (x2)), some (.int (x3)), some (.int (x4)), some (.int (x5)), none]) (st' := [.int (-1)]) (M1 := _) 2 (fun n => rfl)
  exact Ev.ret (fun n => rfl)
set_option maxRecDepth 200000 in
set_option maxHeartbeats 4000000 in
theorem r89_2 (x1 x2 x3 x4 x5 : Int32) (g0 : ¬ x1 < 0) (g1 : (-1) < x1) : ∃ M1, Ev none 999 89 0 [some (.ref 0), some (.int (x1)), some (.int (x2)), some (.int (x3)), some (.int (x4)), some (.int (x5)), none] [] memP (some (.int (-1))) M1 0 0 := by
  apply Exists.intro
  apply Ev.step (pc' := 15) (ls' := [some (.ref 0), some (.int (x1)), some (.int (x2)), some (.int (x3)), some (.int (x4)), some (.int (x5)), none]) (st' := [.int (x2), .int (x1), .ref 0]) (M1 := _) 8 (fun n => rfl)
  apply Ev.call0 (ls0 := [some (.ref 0), some (.int (x1)), some (.int (x2))]) (rest := []) (id := 129) (v1 := some (.int 0))  (fun n => rfl)
  · apply Ev.step (pc' := 2) (ls' := [some (.ref 0), some (.int (x1)), some (.int (x2))]) (st' := [.int (x1), .ref 0]) (M1 := _) 2 (fun n => rfl)
    apply Ev.call0 (ls0 := [some (.ref 0), some (.int (x1))]) (rest := []) (id := 128) (v1 := some (.int 0))  (fun n => rfl)
    · apply Ev.step (pc' := 11) (ls' := [some (.ref 0), some (.int (x1))]) (st' := [.int (-1), .int 0, .int (x1)]) (M1 := _) 7 (fun n => rfl)
      apply Ev.call0 (ls0 := [some (.int (x1)), some (.int 0), some (.int (-1))]) (rest := []) (id := 126) (v1 := some (.int 0))  (fun n => rfl)
      · apply Ev.step (pc' := 2) (ls' := [some (.int (x1)), some (.int 0), some (.int (-1))]) (st' := [.int 0, .int (x1)]) (M1 := _) 2 (fun n => rfl)
        apply Ev.step (pc' := if x1 < 0 then 14 else 5) (ls' := [some (.int (x1)), some (.int 0), some (.int (-1))]) (st' := []) (M1 := _) 1 (fun n => rfl)
        rw [if_neg g0]
        apply Ev.step (pc' := 7) (ls' := [some (.int (x1)), some (.int 0), some (.int (-1))]) (st' := [.int (-1), .int (x1)]) (M1 := _) 2 (fun n => rfl)
        apply Ev.step (pc' := if (-1) < x1 then 14 else 10) (ls' := [some (.int (x1)), some (.int 0), some (.int (-1))]) (st' := []) (M1 := _) 1 (fun n => rfl)
        rw [if_pos g1]
        apply Ev.step (pc' := 15) (ls' := [some (.int (x1)), some (.int 0), some (.int (-1))]) (st' := [.int 0]) (M1 := _) 1 (fun n => rfl)
        exact Ev.ret (fun n => rfl)
      exact Ev.ret (fun n => rfl)
    apply Ev.step (pc' := 26) (ls' := [some (.ref 0), some (.int (x1)), some (.int (x2))]) (st' := [.int 0]) (M1 := _) 2 (fun n => rfl)
    exact Ev.ret (fun n => rfl)
  apply Ev.step (pc' := 31) (ls' := [some (.ref 0), some (.int (x1)), some (.int (x2)), some (.int (x3)), some (.int (x4)), some (.int (x5)), none]) (st' := [.int (-1)]) (M1 := _) 2 (fun n => rfl)
  exact Ev.ret (fun n => rfl)
set_option maxRecDepth 200000 in
set_option maxHeartbeats 4000000 in
theorem r191_3 (x1 x2 x3 x4 x5 : Int32) (g0 : ¬ x1 < 0) (g1 : (-1) < x1) : ∃ M1, Ev none 999 191 0 [some (.ref 0), some (.int (x1)), some (.int (x2)), some (.int (x3)), some (.int (x4)), some (.int (x5)), none] [] memR (some (.int (-1))) M1 0 0 := by
  apply Exists.intro
  apply Ev.step (pc' := 19) (ls' := [some (.ref 0), some (.int (x1)), some (.int (x2)), some (.int (x3)), some (.int (x4)), some (.int (x5)), none]) (st' := [.int (x1), .ref 0]) (M1 := _) 11 (fun n => rfl)
  apply Ev.call0 (ls0 := [some (.ref 0), some (.int (x1))]) (rest := []) (id := 153) (v1 := some (.int 0))  (fun n => rfl)
  · apply Ev.step (pc' := 10) (ls' := [some (.ref 0), some (.int (x1))]) (st' := [.int (-1), .int 0, .int (x1)]) (M1 := _) 8 (fun n => rfl)
    apply Ev.call0 (ls0 := [some (.int (x1)), some (.int 0), some (.int (-1))]) (rest := []) (id := 141) (v1 := some (.int 0))  (fun n => rfl)
    · apply Ev.step (pc' := 2) (ls' := [some (.int (x1)), some (.int 0), some (.int (-1))]) (st' := [.int 0, .int (x1)]) (M1 := _) 2 (fun n => rfl)
      apply Ev.step (pc' := if x1 < 0 then 14 else 5) (ls' := [some (.int (x1)), some (.int 0), some (.int (-1))]) (st' := []) (M1 := _) 1 (fun n => rfl)
      rw [if_neg g0]
      apply Ev.step (pc' := 7) (ls' := [some (.int (x1)), some (.int 0), some (.int (-1))]) (st' := [.int (-1), .int (x1)]) (M1 := _) 2 (fun n => rfl)
      apply Ev.step (pc' := if (-1) < x1 then 14 else 10) (ls' := [some (.int (x1)), some (.int 0), some (.int (-1))]) (st' := []) (M1 := _) 1 (fun n => rfl)
      rw [if_pos g1]
      apply Ev.step (pc' := 15) (ls' := [some (.int (x1)), some (.int 0), some (.int (-1))]) (st' := [.int 0]) (M1 := _) 1 (fun n => rfl)
      exact Ev.ret (fun n => rfl)
    exact Ev.ret (fun n => rfl)
  apply Ev.step (pc' := 72) (ls' := [some (.ref 0), some (.int (x1)), some (.int (x2)), some (.int (x3)), some (.int (x4)), some (.int (x5)), none]) (st' := [.int (-1)]) (M1 := _) 2 (fun n => rfl)
  exact Ev.ret (fun n => rfl)
set_option maxRecDepth 200000 in
set_option maxHeartbeats 4000000 in
theorem ok_7 {x0 x1 x2 x3 x4 x5 : Int32} (hj : x0 &&& 63 = nI 7) : Okk x0 x1 x2 x3 x4 x5 := by
  by_cases h1 : x1 < 0
  · skip
    obtain ⟨M1, A⟩ := (r89_0 x1 x2 x3 x4 x5 h1)
    obtain ⟨M2, B⟩ := (r191_1 x1 x2 x3 x4 x5 h1)
    exact lc_7 hj A B
  · skip
    by_cases h2 : (-1) < x1
    · skip
      obtain ⟨M1, A⟩ := (r89_2 x1 x2 x3 x4 x5 h1 h2)
      obtain ⟨M2, B⟩ := (r191_3 x1 x2 x3 x4 x5 h1 h2)
      exact lc_7 hj A B
    · skip
      exfalso
      simp only [Int32.lt_iff_toInt_lt, Int32.le_iff_toInt_le] at h1 h2
      have emm1m : ((-1) : Int32).toInt = (-1) := by decide
      have e0 : (0 : Int32).toInt = 0 := by decide
      omega
set_option maxRecDepth 200000 in
set_option maxHeartbeats 4000000 in
theorem r90_0 (x1 : Int32) (g0 : x1 < 0) : ∃ M1, Ev none 999 90 0 [some (.ref 0), some (.int (x1))] [] memP (some (.int 0)) M1 0 0 := by
  apply Exists.intro
  apply Ev.step (pc' := 2) (ls' := [some (.ref 0), some (.int (x1))]) (st' := [.int (x1), .ref 0]) (M1 := _) 2 (fun n => rfl)
  apply Ev.call0 (ls0 := [some (.ref 0), some (.int (x1))]) (rest := []) (id := 130) (v1 := some (.int 0))  (fun n => rfl)
  · apply Ev.step (pc' := 11) (ls' := [some (.ref 0), some (.int (x1))]) (st' := [.int (-1), .int 0, .int (x1)]) (M1 := _) 7 (fun n => rfl)
    apply Ev.call0 (ls0 := [some (.int (x1)), some (.int 0), some (.int (-1))]) (rest := []) (id := 126) (v1 := some (.int 0))  (fun n => rfl)
    · apply Ev.step (pc' := 2) (ls' := [some (.int (x1)), some (.int 0), some (.int (-1))]) (st' := [.int 0, .int (x1)]) (M1 := _) 2 (fun n => rfl)
      apply Ev.step (pc' := if x1 < 0 then 14 else 5) (ls' := [some (.int (x1)), some (.int 0), some (.int (-1))]) (st' := []) (M1 := _) 1 (fun n => rfl)
      rw [if_pos g0]
      apply Ev.step (pc' := 15) (ls' := [some (.int (x1)), some (.int 0), some (.int (-1))]) (st' := [.int 0]) (M1 := _) 1 (fun n => rfl)
      exact Ev.ret (fun n => rfl)
    apply Ev.step (pc' := 37) (ls' := [some (.ref 0), some (.int (x1))]) (st' := [.int 0]) (M1 := _) 2 (fun n => rfl)
    exact Ev.ret (fun n => rfl)
  apply Ev.step (pc' := 9) (ls' := [some (.ref 0), some (.int (x1))]) (st' := [.int 0]) (M1 := _) 2 (fun n => rfl)
  exact Ev.ret (fun n => rfl)
set_option maxRecDepth 200000 in
set_option maxHeartbeats 4000000 in
theorem r192_1 (x1 : Int32) (g0 : x1 < 0) : ∃ M1, Ev none 999 192 0 [some (.ref 0), some (.int (x1))] [] memR (some (.int 0)) M1 0 0 := by
  apply Exists.intro
  apply Ev.step (pc' := 7) (ls' := [some (.ref 0), some (.int (x1))]) (st' := [.int (x1), .ref 0]) (M1 := _) 5 (fun n => rfl)
  apply Ev.call0 (ls0 := [some (.ref 0), some (.int (x1))]) (rest := []) (id := 190) (v1 := some (.int 0))  (fun n => rfl)
  · apply Ev.step (pc' := 11) (ls' := [some (.ref 0), some (.int (x1))]) (st' := [.int (-1), .int 0, .int (x1)]) (M1 := _) 8 (fun n => rfl)
    apply Ev.call0 (ls0 := [some (.int (x1)), some (.int 0), some (.int (-1))]) (rest := []) (id := 141) (v1 := some (.int 0))  (fun n => rfl)
    · apply Ev.step (pc' := 2) (ls' := [some (.int (x1)), some (.int 0), some (.int (-1))]) (st' := [.int 0, .int (x1)]) (M1 := _) 2 (fun n => rfl)
      apply Ev.step (pc' := if x1 < 0 then 14 else 5) (ls' := [some (.int (x1)), some (.int 0), some (.int (-1))]) (st' := []) (M1 := _) 1 (fun n => rfl)
      rw [if_pos g0]
      apply Ev.step (pc' := 15) (ls' := [some (.int (x1)), some (.int 0), some (.int (-1))]) (st' := [.int 0]) (M1 := _) 1 (fun n => rfl)
      exact Ev.ret (fun n => rfl)
    apply Ev.step (pc' := 40) (ls' := [some (.ref 0), some (.int (x1))]) (st' := [.int 0]) (M1 := _) 2 (fun n => rfl)
    exact Ev.ret (fun n => rfl)
  apply Ev.step (pc' := 14) (ls' := [some (.ref 0), some (.int (x1))]) (st' := [.int 0]) (M1 := _) 2 (fun n => rfl)
  exact Ev.ret (fun n => rfl)
set_option maxRecDepth 200000 in
set_option maxHeartbeats 4000000 in
theorem r90_2 (x1 : Int32) (g0 : ¬ x1 < 0) (g1 : (-1) < x1) : ∃ M1, Ev none 999 90 0 [some (.ref 0), some (.int (x1))] [] memP (some (.int 0)) M1 0 0 := by
  apply Exists.intro
  apply Ev.step (pc' := 2) (ls' := [some (.ref 0), some (.int (x1))]) (st' := [.int (x1), .ref 0]) (M1 := _) 2 (fun n => rfl)
  apply Ev.call0 (ls0 := [some (.ref 0), some (.int (x1))]) (rest := []) (id := 130) (v1 := some (.int 0))  (fun n => rfl)
  · apply Ev.step (pc' := 11) (ls' := [some (.ref 0), some (.int (x1))]) (st' := [.int (-1), .int 0, .int (x1)]) (M1 := _) 7 (fun n => rfl)
    apply Ev.call0 (ls0 := [some (.int (x1)), some (.int 0), some (.int (-1))]) (rest := []) (id := 126) (v1 := some (.int 0))  (fun n => rfl)
    · apply Ev.step (pc' := 2) (ls' := [some (.int (x1)), some (.int 0), some (.int (-1))]) (st' := [.int 0, .int (x1)]) (M1 := _) 2 (fun n => rfl)
      apply Ev.step (pc' := if x1 < 0 then 14 else 5) (ls' := [some (.int (x1)), some (.int 0), some (.int (-1))]) (st' := []) (M1 := _) 1 (fun n => rfl)
      rw [if_neg g0]
      apply Ev.step (pc' := 7) (ls' := [some (.int (x1)), some (.int 0), some (.int (-1))]) (st' := [.int (-1), .int (x1)]) (M1 := _) 2 (fun n => rfl)
      apply Ev.step (pc' := if (-1) < x1 then 14 else 10) (ls' := [some (.int (x1)), some (.int 0), some (.int (-1))]) (st' := []) (M1 := _) 1 (fun n => rfl)
      rw [if_pos g1]
      apply Ev.step (pc' := 15) (ls' := [some (.int (x1)), some (.int 0), some (.int (-1))]) (st' := [.int 0]) (M1 := _) 1 (fun n => rfl)
      exact Ev.ret (fun n => rfl)
    apply Ev.step (pc' := 37) (ls' := [some (.ref 0), some (.int (x1))]) (st' := [.int 0]) (M1 := _) 2 (fun n => rfl)
    exact Ev.ret (fun n => rfl)
  apply Ev.step (pc' := 9) (ls' := [some (.ref 0), some (.int (x1))]) (st' := [.int 0]) (M1 := _) 2 (fun n => rfl)
  exact Ev.ret (fun n => rfl)
set_option maxRecDepth 200000 in
set_option maxHeartbeats 4000000 in
theorem r192_3 (x1 : Int32) (g0 : ¬ x1 < 0) (g1 : (-1) < x1) : ∃ M1, Ev none 999 192 0 [some (.ref 0), some (.int (x1))] [] memR (some (.int 0)) M1 0 0 := by
  apply Exists.intro
  apply Ev.step (pc' := 7) (ls' := [some (.ref 0), some (.int (x1))]) (st' := [.int (x1), .ref 0]) (M1 := _) 5 (fun n => rfl)
  apply Ev.call0 (ls0 := [some (.ref 0), some (.int (x1))]) (rest := []) (id := 190) (v1 := some (.int 0))  (fun n => rfl)
  · apply Ev.step (pc' := 11) (ls' := [some (.ref 0), some (.int (x1))]) (st' := [.int (-1), .int 0, .int (x1)]) (M1 := _) 8 (fun n => rfl)
    apply Ev.call0 (ls0 := [some (.int (x1)), some (.int 0), some (.int (-1))]) (rest := []) (id := 141) (v1 := some (.int 0))  (fun n => rfl)
    · apply Ev.step (pc' := 2) (ls' := [some (.int (x1)), some (.int 0), some (.int (-1))]) (st' := [.int 0, .int (x1)]) (M1 := _) 2 (fun n => rfl)
      apply Ev.step (pc' := if x1 < 0 then 14 else 5) (ls' := [some (.int (x1)), some (.int 0), some (.int (-1))]) (st' := []) (M1 := _) 1 (fun n => rfl)
      rw [if_neg g0]
      apply Ev.step (pc' := 7) (ls' := [some (.int (x1)), some (.int 0), some (.int (-1))]) (st' := [.int (-1), .int (x1)]) (M1 := _) 2 (fun n => rfl)
      apply Ev.step (pc' := if (-1) < x1 then 14 else 10) (ls' := [some (.int (x1)), some (.int 0), some (.int (-1))]) (st' := []) (M1 := _) 1 (fun n => rfl)
      rw [if_pos g1]
      apply Ev.step (pc' := 15) (ls' := [some (.int (x1)), some (.int 0), some (.int (-1))]) (st' := [.int 0]) (M1 := _) 1 (fun n => rfl)
      exact Ev.ret (fun n => rfl)
    apply Ev.step (pc' := 40) (ls' := [some (.ref 0), some (.int (x1))]) (st' := [.int 0]) (M1 := _) 2 (fun n => rfl)
    exact Ev.ret (fun n => rfl)
  apply Ev.step (pc' := 14) (ls' := [some (.ref 0), some (.int (x1))]) (st' := [.int 0]) (M1 := _) 2 (fun n => rfl)
  exact Ev.ret (fun n => rfl)
set_option maxRecDepth 200000 in
set_option maxHeartbeats 4000000 in
theorem ok_8 {x0 x1 x2 x3 x4 x5 : Int32} (hj : x0 &&& 63 = nI 8) : Okk x0 x1 x2 x3 x4 x5 := by
  by_cases h1 : x1 < 0
  · skip
    obtain ⟨M1, A⟩ := (r90_0 x1 h1)
    obtain ⟨M2, B⟩ := (r192_1 x1 h1)
    exact lc_8 hj A B
  · skip
    by_cases h2 : (-1) < x1
    · skip
      obtain ⟨M1, A⟩ := (r90_2 x1 h1 h2)
      obtain ⟨M2, B⟩ := (r192_3 x1 h1 h2)
      exact lc_8 hj A B
    · skip
      exfalso
      simp only [Int32.lt_iff_toInt_lt, Int32.le_iff_toInt_le] at h1 h2
      have emm1m : ((-1) : Int32).toInt = (-1) := by decide
      have e0 : (0 : Int32).toInt = 0 := by decide
      omega
set_option maxRecDepth 200000 in
set_option maxHeartbeats 4000000 in
theorem r96_0 (x1 x2 : Int32) (g0 : x1 < 0) : ∃ M1, Ev none 999 96 0 [some (.ref 0), some (.int (x1)), some (.int (x2)), none] [] memP (some (.int (-1))) M1 0 0 := by
  apply Exists.intro
  apply Ev.step (pc' := 11) (ls' := [some (.ref 0), some (.int (x1)), some (.int (x2)), none]) (st' := [.int (-1), .int 0, .int (x1)]) (M1 := _) 7 (fun n => rfl)
  apply Ev.call0 (ls0 := [some (.int (x1)), some (.int 0), some (.int (-1))]) (rest := []) (id := 126) (v1 := some (.int 0))  (fun n => rfl)
  · apply Ev.step (pc' := 2) (ls' := [some (.int (x1)), some (.int 0), some (.int (-1))]) (st' := [.int 0, .int (x1)]) (M1 := _) 2 (fun n => rfl)
    apply Ev.step (pc' := if x1 < 0 then 14 else 5) (ls' := [some (.int (x1)), some (.int 0), some (.int (-1))]) (st' := []) (M1 := _) 1 (fun n => rfl)
    rw [if_pos g0]
    apply Ev.step (pc' := 15) (ls' := [some (.int (x1)), some (.int 0), some (.int (-1))]) (st' := [.int 0]) (M1 := _) 1 (fun n => rfl)
    exact Ev.ret (fun n => rfl)
  apply Ev.step (pc' := 18) (ls' := [some (.ref 0), some (.int (x1)), some (.int (x2)), none]) (st' := [.int (-1)]) (M1 := _) 2 (fun n => rfl)
  exact Ev.ret (fun n => rfl)
set_option maxRecDepth 200000 in
set_option maxHeartbeats 4000000 in
theorem r216_1 (x1 x2 : Int32) (g0 : x1 < 0) : ∃ M1, Ev none 999 216 0 [some (.ref 0), some (.int (x1)), some (.int (x2))] [] memR (some (.int (-1))) M1 0 0 := by
  apply Exists.intro
  apply Ev.step (pc' := 17) (ls' := [some (.ref 0), some (.int (x1)), some (.int (x2))]) (st' := [.int (-1), .int 0, .int (x1)]) (M1 := _) 11 (fun n => rfl)
  apply Ev.call0 (ls0 := [some (.int (x1)), some (.int 0), some (.int (-1))]) (rest := []) (id := 141) (v1 := some (.int 0))  (fun n => rfl)
  · apply Ev.step (pc' := 2) (ls' := [some (.int (x1)), some (.int 0), some (.int (-1))]) (st' := [.int 0, .int (x1)]) (M1 := _) 2 (fun n => rfl)
    apply Ev.step (pc' := if x1 < 0 then 14 else 5) (ls' := [some (.int (x1)), some (.int 0), some (.int (-1))]) (st' := []) (M1 := _) 1 (fun n => rfl)
    rw [if_pos g0]
    apply Ev.step (pc' := 15) (ls' := [some (.int (x1)), some (.int 0), some (.int (-1))]) (st' := [.int 0]) (M1 := _) 1 (fun n => rfl)
    exact Ev.ret (fun n => rfl)
  apply Ev.step (pc' := 51) (ls' := [some (.ref 0), some (.int (x1)), some (.int (x2))]) (st' := [.int (-1)]) (M1 := _) 2 (fun n => rfl)
  exact Ev.ret (fun n => rfl)
set_option maxRecDepth 200000 in
set_option maxHeartbeats 4000000 in
theorem r96_2 (x1 x2 : Int32) (g0 : ¬ x1 < 0) (g1 : (-1) < x1) : ∃ M1, Ev none 999 96 0 [some (.ref 0), some (.int (x1)), some (.int (x2)), none] [] memP (some (.int (-1))) M1 0 0 := by
  apply Exists.intro
  apply Ev.step (pc' := 11) (ls' := [some (.ref 0), some (.int (x1)), some (.int (x2)), none]) (st' := [.int (-1), .int 0, .int (x1)]) (M1 := _) 7 (fun n => rfl)
  apply Ev.call0 (ls0 := [some (.int (x1)), some (.int 0), some (.int (-1))]) (rest := []) (id := 126) (v1 := some (.int 0))  (fun n => rfl)
  · apply Ev.step (pc' := 2) (ls' := [some (.int (x1)), some (.int 0), some (.int (-1))]) (st' := [.int 0, .int (x1)]) (M1 := _) 2 (fun n => rfl)
    apply Ev.step (pc' := if x1 < 0 then 14 else 5) (ls' := [some (.int (x1)), some (.int 0), some (.int (-1))]) (st' := []) (M1 := _) 1 (fun n => rfl)
    rw [if_neg g0]
    apply Ev.step (pc' := 7) (ls' := [some (.int (x1)), some (.int 0), some (.int (-1))]) (st' := [.int (-1), .int (x1)]) (M1 := _) 2 (fun n => rfl)
    apply Ev.step (pc' := if (-1) < x1 then 14 else 10) (ls' := [some (.int (x1)), some (.int 0), some (.int (-1))]) (st' := []) (M1 := _) 1 (fun n => rfl)
    rw [if_pos g1]
    apply Ev.step (pc' := 15) (ls' := [some (.int (x1)), some (.int 0), some (.int (-1))]) (st' := [.int 0]) (M1 := _) 1 (fun n => rfl)
    exact Ev.ret (fun n => rfl)
  apply Ev.step (pc' := 18) (ls' := [some (.ref 0), some (.int (x1)), some (.int (x2)), none]) (st' := [.int (-1)]) (M1 := _) 2 (fun n => rfl)
  exact Ev.ret (fun n => rfl)
set_option maxRecDepth 200000 in
set_option maxHeartbeats 4000000 in
theorem r216_3 (x1 x2 : Int32) (g0 : ¬ x1 < 0) (g1 : (-1) < x1) : ∃ M1, Ev none 999 216 0 [some (.ref 0), some (.int (x1)), some (.int (x2))] [] memR (some (.int (-1))) M1 0 0 := by
  apply Exists.intro
  apply Ev.step (pc' := 17) (ls' := [some (.ref 0), some (.int (x1)), some (.int (x2))]) (st' := [.int (-1), .int 0, .int (x1)]) (M1 := _) 11 (fun n => rfl)
  apply Ev.call0 (ls0 := [some (.int (x1)), some (.int 0), some (.int (-1))]) (rest := []) (id := 141) (v1 := some (.int 0))  (fun n => rfl)
  · apply Ev.step (pc' := 2) (ls' := [some (.int (x1)), some (.int 0), some (.int (-1))]) (st' := [.int 0, .int (x1)]) (M1 := _) 2 (fun n => rfl)
    apply Ev.step (pc' := if x1 < 0 then 14 else 5) (ls' := [some (.int (x1)), some (.int 0), some (.int (-1))]) (st' := []) (M1 := _) 1 (fun n => rfl)
    rw [if_neg g0]
    apply Ev.step (pc' := 7) (ls' := [some (.int (x1)), some (.int 0), some (.int (-1))]) (st' := [.int (-1), .int (x1)]) (M1 := _) 2 (fun n => rfl)
    apply Ev.step (pc' := if (-1) < x1 then 14 else 10) (ls' := [some (.int (x1)), some (.int 0), some (.int (-1))]) (st' := []) (M1 := _) 1 (fun n => rfl)
    rw [if_pos g1]
    apply Ev.step (pc' := 15) (ls' := [some (.int (x1)), some (.int 0), some (.int (-1))]) (st' := [.int 0]) (M1 := _) 1 (fun n => rfl)
    exact Ev.ret (fun n => rfl)
  apply Ev.step (pc' := 51) (ls' := [some (.ref 0), some (.int (x1)), some (.int (x2))]) (st' := [.int (-1)]) (M1 := _) 2 (fun n => rfl)
  exact Ev.ret (fun n => rfl)
set_option maxRecDepth 200000 in
set_option maxHeartbeats 4000000 in
theorem ok_15 {x0 x1 x2 x3 x4 x5 : Int32} (hj : x0 &&& 63 = nI 15) : Okk x0 x1 x2 x3 x4 x5 := by
  by_cases h1 : x1 < 0
  · skip
    obtain ⟨M1, A⟩ := (r96_0 x1 x2 h1)
    obtain ⟨M2, B⟩ := (r216_1 x1 x2 h1)
    exact lc_15 hj A B
  · skip
    by_cases h2 : (-1) < x1
    · skip
      obtain ⟨M1, A⟩ := (r96_2 x1 x2 h1 h2)
      obtain ⟨M2, B⟩ := (r216_3 x1 x2 h1 h2)
      exact lc_15 hj A B
    · skip
      exfalso
      simp only [Int32.lt_iff_toInt_lt, Int32.le_iff_toInt_le] at h1 h2
      have emm1m : ((-1) : Int32).toInt = (-1) := by decide
      have e0 : (0 : Int32).toInt = 0 := by decide
      omega
set_option maxRecDepth 200000 in
set_option maxHeartbeats 4000000 in
theorem r100_0 : ∃ M1, Ev none 999 100 0 [some (.ref 0), none] [] memP (some (.int (-2))) M1 0 0 := by
  apply Exists.intro
  apply Ev.step (pc' := 1) (ls' := [some (.ref 0), none]) (st' := [.ref 0]) (M1 := _) 1 (fun n => rfl)
  apply Ev.call0 (ls0 := [some (.ref 0), none, none, none, none]) (rest := []) (id := 101) (v1 := some (.int (-2))) (M1 := _) (fun n => rfl) ⟨16, rfl⟩
  apply Ev.step (pc' := 14) (ls' := [some (.ref 0), some (.int (-2))]) (st' := [.int (-2)]) (M1 := _) 6 (fun n => rfl)
  exact Ev.ret (fun n => rfl)
set_option maxRecDepth 200000 in
set_option maxHeartbeats 4000000 in
theorem r226_1 : ∃ M1, Ev none 999 226 0 [some (.ref 0), none, none, none, none, none, none, none] [] memR (some (.int (-2))) M1 0 0 := by
  apply Exists.intro
  apply Ev.step (pc' := 6) (ls' := [some (.ref 0), none, none, none, none, none, none, none]) (st' := [.ref 0]) (M1 := _) 4 (fun n => rfl)
  apply Ev.call0 (ls0 := [some (.ref 0)]) (rest := []) (id := 140) (v1 := none) (M1 := _) (fun n => rfl) ⟨11, rfl⟩
  apply Ev.step (pc' := 16) (ls' := [some (.ref 0), none, none, none, none, none, none, none]) (st' := [.int 6, .int 2, .int 0]) (M1 := _) 4 (fun n => rfl)
  apply Ev.call0 (ls0 := [some (.int 0), some (.int 2), some (.int 6)]) (rest := []) (id := 141) (v1 := some (.int 0)) (M1 := _) (fun n => rfl) ⟨5, rfl⟩
  apply Ev.step (pc' := 24) (ls' := [some (.ref 0), none, none, none, none, none, none, none]) (st' := [.int (-2)]) (M1 := _) 2 (fun n => rfl)
  exact Ev.ret (fun n => rfl)
set_option maxRecDepth 200000 in
set_option maxHeartbeats 4000000 in
theorem ok_19 {x0 x1 x2 x3 x4 x5 : Int32} (hj : x0 &&& 63 = nI 19) : Okk x0 x1 x2 x3 x4 x5 := by
  obtain ⟨M1, A⟩ := r100_0
  obtain ⟨M2, B⟩ := r226_1
  exact lc_19 hj A B
set_option maxRecDepth 200000 in
set_option maxHeartbeats 4000000 in
theorem r102_0 (x1 x2 : Int32) (g0 : x1 < 0) : ∃ M1, Ev none 999 102 0 [some (.ref 0), some (.int (x1)), some (.int (x2))] [] memP (some (.int (-2))) M1 0 0 := by
  apply Exists.intro
  apply Ev.step (pc' := 3) (ls' := [some (.ref 0), some (.int (x1)), some (.int (x2))]) (st' := [.int (x2), .int (x1), .ref 0]) (M1 := _) 3 (fun n => rfl)
  apply Ev.call0 (ls0 := [some (.ref 0), some (.int (x1)), some (.int (x2))]) (rest := []) (id := 129) (v1 := some (.int 0))  (fun n => rfl)
  · apply Ev.step (pc' := 2) (ls' := [some (.ref 0), some (.int (x1)), some (.int (x2))]) (st' := [.int (x1), .ref 0]) (M1 := _) 2 (fun n => rfl)
    apply Ev.call0 (ls0 := [some (.ref 0), some (.int (x1))]) (rest := []) (id := 128) (v1 := some (.int 0))  (fun n => rfl)
    · apply Ev.step (pc' := 11) (ls' := [some (.ref 0), some (.int (x1))]) (st' := [.int (-1), .int 0, .int (x1)]) (M1 := _) 7 (fun n => rfl)
      apply Ev.call0 (ls0 := [some (.int (x1)), some (.int 0), some (.int (-1))]) (rest := []) (id := 126) (v1 := some (.int 0))  (fun n => rfl)
      · apply Ev.step (pc' := 2) (ls' := [some (.int (x1)), some (.int 0), some (.int (-1))]) (st' := [.int 0, .int (x1)]) (M1 := _) 2 (fun n => rfl)
        apply Ev.step (pc' := if x1 < 0 then 14 else 5) (ls' := [some (.int (x1)), some (.int 0), some (.int (-1))]) (st' := []) (M1 := _) 1 (fun n => rfl)
        rw [if_pos g0]
        apply Ev.step (pc' := 15) (ls' := [some (.int (x1)), some (.int 0), some (.int (-1))]) (st' := [.int 0]) (M1 := _) 1 (fun n => rfl)
        exact Ev.ret (fun n => rfl)
      exact Ev.ret (fun n => rfl)
    apply Ev.step (pc' := 26) (ls' := [some (.ref 0), some (.int (x1)), some (.int (x2))]) (st' := [.int 0]) (M1 := _) 2 (fun n => rfl)
    exact Ev.ret (fun n => rfl)
  apply Ev.step (pc' := 11) (ls' := [some (.ref 0), some (.int (x1)), some (.int (x2))]) (st' := [.int (-2)]) (M1 := _) 2 (fun n => rfl)
  exact Ev.ret (fun n => rfl)
set_option maxRecDepth 200000 in
set_option maxHeartbeats 4000000 in
theorem r229_1 (x1 x2 : Int32) (g0 : x1 < 0) : ∃ M1, Ev none 999 229 0 [some (.ref 0), some (.int (x1)), some (.int (x2)), none, none] [] memR (some (.int (-2))) M1 0 0 := by
  apply Exists.intro
  apply Ev.step (pc' := 7) (ls' := [some (.ref 0), some (.int (x1)), some (.int (x2)), none, none]) (st' := [.int (x1), .ref 0]) (M1 := _) 5 (fun n => rfl)
  apply Ev.call0 (ls0 := [some (.ref 0), some (.int (x1))]) (rest := []) (id := 153) (v1 := some (.int 0))  (fun n => rfl)
  · apply Ev.step (pc' := 10) (ls' := [some (.ref 0), some (.int (x1))]) (st' := [.int (-1), .int 0, .int (x1)]) (M1 := _) 8 (fun n => rfl)
    apply Ev.call0 (ls0 := [some (.int (x1)), some (.int 0), some (.int (-1))]) (rest := []) (id := 141) (v1 := some (.int 0))  (fun n => rfl)
    · apply Ev.step (pc' := 2) (ls' := [some (.int (x1)), some (.int 0), some (.int (-1))]) (st' := [.int 0, .int (x1)]) (M1 := _) 2 (fun n => rfl)
      apply Ev.step (pc' := if x1 < 0 then 14 else 5) (ls' := [some (.int (x1)), some (.int 0), some (.int (-1))]) (st' := []) (M1 := _) 1 (fun n => rfl)
      rw [if_pos g0]
      apply Ev.step (pc' := 15) (ls' := [some (.int (x1)), some (.int 0), some (.int (-1))]) (st' := [.int 0]) (M1 := _) 1 (fun n => rfl)
      exact Ev.ret (fun n => rfl)
    exact Ev.ret (fun n => rfl)
  apply Ev.step (pc' := 28) (ls' := [some (.ref 0), some (.int (x1)), some (.int (x2)), none, none]) (st' := [.int (-2)]) (M1 := _) 2 (fun n => rfl)
  exact Ev.ret (fun n => rfl)
set_option maxRecDepth 200000 in
set_option maxHeartbeats 4000000 in
theorem r102_2 (x1 x2 : Int32) (g0 : ¬ x1 < 0) (g1 : (-1) < x1) : ∃ M1, Ev none 999 102 0 [some (.ref 0), some (.int (x1)), some (.int (x2))] [] memP (some (.int (-2))) M1 0 0 := by
  apply Exists.intro
  apply Ev.step (pc' := 3) (ls' := [some (.ref 0), some (.int (x1)), some (.int (x2))]) (st' := [.int (x2), .int (x1), .ref 0]) (M1 := _) 3 (fun n => rfl)
  apply Ev.call0 (ls0 := [some (.ref 0), some (.int (x1)), some (.int (x2))]) (rest := []) (id := 129) (v1 := some (.int 0))  (fun n => rfl)
  · apply Ev.step (pc' := 2) (ls' := [some (.ref 0), some (.int (x1)), some (.int (x2))]) (st' := [.int (x1), .ref 0]) (M1 := _) 2 (fun n => rfl)
    apply Ev.call0 (ls0 := [some (.ref 0), some (.int (x1))]) (rest := []) (id := 128) (v1 := some (.int 0))  (fun n => rfl)
    · apply Ev.step (pc' := 11) (ls' := [some (.ref 0), some (.int (x1))]) (st' := [.int (-1), .int 0, .int (x1)]) (M1 := _) 7 (fun n => rfl)
      apply Ev.call0 (ls0 := [some (.int (x1)), some (.int 0), some (.int (-1))]) (rest := []) (id := 126) (v1 := some (.int 0))  (fun n => rfl)
      · apply Ev.step (pc' := 2) (ls' := [some (.int (x1)), some (.int 0), some (.int (-1))]) (st' := [.int 0, .int (x1)]) (M1 := _) 2 (fun n => rfl)
        apply Ev.step (pc' := if x1 < 0 then 14 else 5) (ls' := [some (.int (x1)), some (.int 0), some (.int (-1))]) (st' := []) (M1 := _) 1 (fun n => rfl)
        rw [if_neg g0]
        apply Ev.step (pc' := 7) (ls' := [some (.int (x1)), some (.int 0), some (.int (-1))]) (st' := [.int (-1), .int (x1)]) (M1 := _) 2 (fun n => rfl)
        apply Ev.step (pc' := if (-1) < x1 then 14 else 10) (ls' := [some (.int (x1)), some (.int 0), some (.int (-1))]) (st' := []) (M1 := _) 1 (fun n => rfl)
        rw [if_pos g1]
        apply Ev.step (pc' := 15) (ls' := [some (.int (x1)), some (.int 0), some (.int (-1))]) (st' := [.int 0]) (M1 := _) 1 (fun n => rfl)
        exact Ev.ret (fun n => rfl)
      exact Ev.ret (fun n => rfl)
    apply Ev.step (pc' := 26) (ls' := [some (.ref 0), some (.int (x1)), some (.int (x2))]) (st' := [.int 0]) (M1 := _) 2 (fun n => rfl)
    exact Ev.ret (fun n => rfl)
  apply Ev.step (pc' := 11) (ls' := [some (.ref 0), some (.int (x1)), some (.int (x2))]) (st' := [.int (-2)]) (M1 := _) 2 (fun n => rfl)
  exact Ev.ret (fun n => rfl)
set_option maxRecDepth 200000 in
set_option maxHeartbeats 4000000 in
theorem r229_3 (x1 x2 : Int32) (g0 : ¬ x1 < 0) (g1 : (-1) < x1) : ∃ M1, Ev none 999 229 0 [some (.ref 0), some (.int (x1)), some (.int (x2)), none, none] [] memR (some (.int (-2))) M1 0 0 := by
  apply Exists.intro
  apply Ev.step (pc' := 7) (ls' := [some (.ref 0), some (.int (x1)), some (.int (x2)), none, none]) (st' := [.int (x1), .ref 0]) (M1 := _) 5 (fun n => rfl)
  apply Ev.call0 (ls0 := [some (.ref 0), some (.int (x1))]) (rest := []) (id := 153) (v1 := some (.int 0))  (fun n => rfl)
  · apply Ev.step (pc' := 10) (ls' := [some (.ref 0), some (.int (x1))]) (st' := [.int (-1), .int 0, .int (x1)]) (M1 := _) 8 (fun n => rfl)
    apply Ev.call0 (ls0 := [some (.int (x1)), some (.int 0), some (.int (-1))]) (rest := []) (id := 141) (v1 := some (.int 0))  (fun n => rfl)
    · apply Ev.step (pc' := 2) (ls' := [some (.int (x1)), some (.int 0), some (.int (-1))]) (st' := [.int 0, .int (x1)]) (M1 := _) 2 (fun n => rfl)
      apply Ev.step (pc' := if x1 < 0 then 14 else 5) (ls' := [some (.int (x1)), some (.int 0), some (.int (-1))]) (st' := []) (M1 := _) 1 (fun n => rfl)
      rw [if_neg g0]
      apply Ev.step (pc' := 7) (ls' := [some (.int (x1)), some (.int 0), some (.int (-1))]) (st' := [.int (-1), .int (x1)]) (M1 := _) 2 (fun n => rfl)
      apply Ev.step (pc' := if (-1) < x1 then 14 else 10) (ls' := [some (.int (x1)), some (.int 0), some (.int (-1))]) (st' := []) (M1 := _) 1 (fun n => rfl)
      rw [if_pos g1]
      apply Ev.step (pc' := 15) (ls' := [some (.int (x1)), some (.int 0), some (.int (-1))]) (st' := [.int 0]) (M1 := _) 1 (fun n => rfl)
      exact Ev.ret (fun n => rfl)
    exact Ev.ret (fun n => rfl)
  apply Ev.step (pc' := 28) (ls' := [some (.ref 0), some (.int (x1)), some (.int (x2)), none, none]) (st' := [.int (-2)]) (M1 := _) 2 (fun n => rfl)
  exact Ev.ret (fun n => rfl)
set_option maxRecDepth 200000 in
set_option maxHeartbeats 4000000 in
theorem ok_20 {x0 x1 x2 x3 x4 x5 : Int32} (hj : x0 &&& 63 = nI 20) : Okk x0 x1 x2 x3 x4 x5 := by
  by_cases h1 : x1 < 0
  · skip
    obtain ⟨M1, A⟩ := (r102_0 x1 x2 h1)
    obtain ⟨M2, B⟩ := (r229_1 x1 x2 h1)
    exact lc_20 hj A B
  · skip
    by_cases h2 : (-1) < x1
    · skip
      obtain ⟨M1, A⟩ := (r102_2 x1 x2 h1 h2)
      obtain ⟨M2, B⟩ := (r229_3 x1 x2 h1 h2)
      exact lc_20 hj A B
    · skip
      exfalso
      simp only [Int32.lt_iff_toInt_lt, Int32.le_iff_toInt_le] at h1 h2
      have emm1m : ((-1) : Int32).toInt = (-1) := by decide
      have e0 : (0 : Int32).toInt = 0 := by decide
      omega
