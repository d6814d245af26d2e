/-! THE REFERENCE'S cell: pieces (made by gref9.py) -/
noncomputable def A_135 (M : Mem) (is : Int32) : Int32 := if is = 0 then is else is
noncomputable def X_135 (M : Mem) (is : Int32) : Mem := if is = 0 then (wF M 633 0 0) else (wF M 633 0 1)
theorem g_135 {e : Nat} {M M' : Mem} {v : Option Value} {is : Int32} (hS : SQ M) (H : Ev none e 135 0 [some (.ref 633), some (.int is)] [] M v M' 0 0) : v = some (.int (A_135 M is)) ∧ M' = X_135 M is := by
  unfold A_135 X_135
  have H : Ev none e 135 (if is = 0 then 9 else 5) [some (.ref 633), some (.int is)] [.ref 633] M v M' 0 0 := Ev.back 3 (fun n => rfl) H
  by_cases h1 : is = 0
  · rw [if_pos h1] at H
    have H : Ev none e 135 10 [some (.ref 633), some (.int is)] [.int 0, .ref 633] M v M' 0 0 := Ev.back 1 (fun n => rfl) H
    obtain ⟨N3, eN3⟩ : ∃ N, N = (wF M 633 0 0) := ⟨_, rfl⟩
    have hN3 : SQ N3 := by rw [eN3]; exact hS.kf
    have H : Ev none e 135 13 [some (.ref 633), some (.int is)] [] N3 v M' 0 0 := by rw [eN3]; exact Ev.pfi rfl rfl rfl hS.1 qa_633 qi_61_0 H
    have H : Ev none e 135 14 [some (.ref 633), some (.int is)] [.int is] N3 v M' 0 0 := Ev.back 1 (fun n => rfl) H
    obtain ⟨p1, p2⟩ := Ev.retz rfl rfl H
    subst eN3
    exact ⟨by rw [if_pos h1]; exact p1, by rw [if_pos h1]; exact p2⟩
  · rw [if_neg h1] at H
    have H : Ev none e 135 10 [some (.ref 633), some (.int is)] [.int 1, .ref 633] M v M' 0 0 := Ev.back 2 (fun n => rfl) H
    obtain ⟨N5, eN5⟩ : ∃ N, N = (wF M 633 0 1) := ⟨_, rfl⟩
    have hN5 : SQ N5 := by rw [eN5]; exact hS.kf
    have H : Ev none e 135 13 [some (.ref 633), some (.int is)] [] N5 v M' 0 0 := by rw [eN5]; exact Ev.pfi rfl rfl rfl hS.1 qa_633 qi_61_0 H
    have H : Ev none e 135 14 [some (.ref 633), some (.int is)] [.int is] N5 v M' 0 0 := Ev.back 1 (fun n => rfl) H
    obtain ⟨p1, p2⟩ := Ev.retz rfl rfl H
    subst eN5
    exact ⟨by rw [if_neg h1]; exact p1, by rw [if_neg h1]; exact p2⟩
theorem X_135_sx {M : Mem} {is : Int32} (hS : SQ M) : SQ (X_135 M is) := by
  unfold X_135
  split
  · exact hS.kf
  · exact hS.kf
theorem rce_27 {e : Nat} {M M' : Mem} {v : Option Value} {c k y : Int32} (hS : SQ M) (H : Ev none e 214 27 [some (.ref 633), some (.int c), some (.int k)] [.int y] M v M' 0 0) : (y = 0 ∧ 7 ≤ k ∧ k = 7 ∧ (G_150 M c) = 0 ∧ v = some (.int 0) ∧ M' = M) ∨ (y = 0 ∧ 7 ≤ k ∧ k = 7 ∧ ¬ ((G_150 M c) = 0) ∧ v = some (.int 1) ∧ M' = M) ∨ (y = 0 ∧ 7 ≤ k ∧ ¬ (k = 7) ∧ (G_151 M c) = 0 ∧ v = some (.int 0) ∧ M' = M) ∨ (y = 0 ∧ 7 ≤ k ∧ ¬ (k = 7) ∧ ¬ ((G_151 M c) = 0) ∧ v = some (.int 1) ∧ M' = M) ∨ (y = 0 ∧ ¬ (7 ≤ k) ∧ v = some (.int (G_146 M c k)) ∧ M' = M) ∨ (¬ (y = 0) ∧ v = some (.int 0) ∧ M' = M) := by
  have H : Ev none e 214 (if y = 0 then 32 else 30) [some (.ref 633), some (.int c), some (.int k)] [] M v M' 0 0 := Ev.back 1 (fun n => rfl) H
  by_cases h1 : y = 0
  · rw [if_pos h1] at H
    have H : Ev none e 214 (if 7 ≤ k then 47 else 38) [some (.ref 633), some (.int c), some (.int k)] [] M v M' 0 0 := Ev.back 3 (fun n => rfl) H
    by_cases h2 : 7 ≤ k
    · rw [if_pos h2] at H
      have H : Ev none e 214 (if k = 7 then 53 else 69) [some (.ref 633), some (.int c), some (.int k)] [] M v M' 0 0 := Ev.back 3 (fun n => rfl) H
      by_cases h3 : k = 7
      · rw [if_pos h3] at H
        have H : Ev none e 214 55 [some (.ref 633), some (.int c), some (.int k)] [.int c, .ref 633] M v M' 0 0 := Ev.back 2 (fun n => rfl) H
        obtain ⟨e1, rfl⟩ := Ev.dpos rfl rfl H
        obtain ⟨vK4, MK4, K4, H⟩ := Ev.callb (fun n_ => gs_7 rfl rfl (show gCal (.invokevirtual 140) 11 (.int c :: .ref 633 :: []) M = some (.inr (150, [some (.ref 633), some (.int c)], [])) from by show @cond (Option ((List Value × Mem) ⊕ (Nat × Lo × List Value))) (true && gRecv M (.ref 633) 11 && gRoom [] && true) (some (.inr (150, [some (.ref 633), some (.int c)], []))) none = _; rw [recv_s hS.1 qa_633 qo_61]; rfl)) H
        obtain ⟨pK4, qK4⟩ := g_150 hS K4
        rw [pK4, qK4] at H
        have H : Ev none (e1 + 1) 214 58 [some (.ref 633), some (.int c), some (.int k)] [.int (G_150 M c)] M v M' 0 0 := H
        have H : Ev none (e1 + 1) 214 (if (G_150 M c) = 0 then 65 else 61) [some (.ref 633), some (.int c), some (.int k)] [] M v M' 0 0 := Ev.back 1 (fun n => rfl) H
        by_cases h5 : (G_150 M c) = 0
        · rw [if_pos h5] at H
          have H : Ev none (e1 + 1) 214 82 [some (.ref 633), some (.int c), some (.int k)] [.int 0] M v M' 0 0 := Ev.back 2 (fun n => rfl) H
          obtain ⟨z1, z2⟩ := Ev.retz rfl rfl H
          exact Or.inl ⟨h1, h2, h3, h5, z1, z2⟩
        · rw [if_neg h5] at H
          have H : Ev none (e1 + 1) 214 82 [some (.ref 633), some (.int c), some (.int k)] [.int 1] M v M' 0 0 := Ev.back 2 (fun n => rfl) H
          obtain ⟨z1, z2⟩ := Ev.retz rfl rfl H
          exact Or.inr (Or.inl ⟨h1, h2, h3, h5, z1, z2⟩)
      · rw [if_neg h3] at H
        have H : Ev none e 214 71 [some (.ref 633), some (.int c), some (.int k)] [.int c, .ref 633] M v M' 0 0 := Ev.back 2 (fun n => rfl) H
        obtain ⟨e1, rfl⟩ := Ev.dpos rfl rfl H
        obtain ⟨vK6, MK6, K6, H⟩ := Ev.callb (fun n_ => gs_7 rfl rfl (show gCal (.invokevirtual 331) 11 (.int c :: .ref 633 :: []) M = some (.inr (151, [some (.ref 633), some (.int c)], [])) from by show @cond (Option ((List Value × Mem) ⊕ (Nat × Lo × List Value))) (true && gRecv M (.ref 633) 11 && gRoom [] && true) (some (.inr (151, [some (.ref 633), some (.int c)], []))) none = _; rw [recv_s hS.1 qa_633 qo_61]; rfl)) H
        obtain ⟨pK6, qK6⟩ := g_151 hS K6
        rw [pK6, qK6] at H
        have H : Ev none (e1 + 1) 214 74 [some (.ref 633), some (.int c), some (.int k)] [.int (G_151 M c)] M v M' 0 0 := H
        have H : Ev none (e1 + 1) 214 (if (G_151 M c) = 0 then 81 else 77) [some (.ref 633), some (.int c), some (.int k)] [] M v M' 0 0 := Ev.back 1 (fun n => rfl) H
        by_cases h7 : (G_151 M c) = 0
        · rw [if_pos h7] at H
          have H : Ev none (e1 + 1) 214 82 [some (.ref 633), some (.int c), some (.int k)] [.int 0] M v M' 0 0 := Ev.back 1 (fun n => rfl) H
          obtain ⟨z1, z2⟩ := Ev.retz rfl rfl H
          exact Or.inr (Or.inr (Or.inl ⟨h1, h2, h3, h7, z1, z2⟩))
        · rw [if_neg h7] at H
          have H : Ev none (e1 + 1) 214 82 [some (.ref 633), some (.int c), some (.int k)] [.int 1] M v M' 0 0 := Ev.back 2 (fun n => rfl) H
          obtain ⟨z1, z2⟩ := Ev.retz rfl rfl H
          exact Or.inr (Or.inr (Or.inr (Or.inl ⟨h1, h2, h3, h7, z1, z2⟩)))
    · rw [if_neg h2] at H
      have H : Ev none e 214 41 [some (.ref 633), some (.int c), some (.int k)] [.int k, .int c, .ref 633] M v M' 0 0 := Ev.back 3 (fun n => rfl) H
      obtain ⟨e1, rfl⟩ := Ev.dpos rfl rfl H
      obtain ⟨vK8, MK8, K8, H⟩ := Ev.callb (fun n_ => gs_7 rfl rfl (show gCal (.invokevirtual 136) 11 (.int k :: .int c :: .ref 633 :: []) M = some (.inr (146, [some (.ref 633), some (.int c), some (.int k)], [])) from by show @cond (Option ((List Value × Mem) ⊕ (Nat × Lo × List Value))) (true && gRecv M (.ref 633) 11 && gRoom [] && true) (some (.inr (146, [some (.ref 633), some (.int c), some (.int k)], []))) none = _; rw [recv_s hS.1 qa_633 qo_61]; rfl)) H
      obtain ⟨pK8, qK8⟩ := g_146 hS K8
      rw [pK8, qK8] at H
      have H : Ev none (e1 + 1) 214 44 [some (.ref 633), some (.int c), some (.int k)] [.int (G_146 M c k)] M v M' 0 0 := H
      have H : Ev none (e1 + 1) 214 82 [some (.ref 633), some (.int c), some (.int k)] [.int (G_146 M c k)] M v M' 0 0 := Ev.back 1 (fun n => rfl) H
      obtain ⟨z1, z2⟩ := Ev.retz rfl rfl H
      exact Or.inr (Or.inr (Or.inr (Or.inr (Or.inl ⟨h1, h2, z1, z2⟩))))
  · rw [if_neg h1] at H
    have H : Ev none e 214 31 [some (.ref 633), some (.int c), some (.int k)] [.int 0] M v M' 0 0 := Ev.back 1 (fun n => rfl) H
    obtain ⟨z1, z2⟩ := Ev.retz rfl rfl H
    exact Or.inr (Or.inr (Or.inr (Or.inr (Or.inr (⟨h1, z1, z2⟩)))))
