/-! THE REFERENCE'S other calls: pieces (made by gref5.py) -/
theorem ntb_0 {e : Nat} {M M' : Mem} {v : Option Value} (hS : SQ M) (H : Ev none e 220 0 [some (.ref 633), some (.ref 651), none] [] M v M' 0 0) : Ev none e 220 2 [some (.ref 633), some (.ref 651), some (.int 0)] [] M v M' 0 0 := by
  have H : Ev none e 220 2 [some (.ref 633), some (.ref 651), some (.int 0)] [] M v M' 0 0 := Ev.back 2 (fun n => rfl) H
  have HF := H
  exact HF
theorem ntb_2 {e : Nat} {M M' : Mem} {v : Option Value} {c : Int32} (hS : SQ M) (H : Ev none e 220 2 [some (.ref 633), some (.ref 651), some (.int c)] [] M v M' 0 0) : ((G_144 M) ≤ c ∧ v = none ∧ M' = M) ∨ (¬ ((G_144 M) ≤ c) ∧ (0 ≤ c.toInt ∧ c.toInt < 256) ∧ Ev none e 220 2 [some (.ref 633), some (.ref 651), some (.int (c + 1))] [] (wI M 651 c.toNatClampNeg (vp_nar .boolean (G_150 M c))) v M' 0 0) := by
  have H : Ev none e 220 4 [some (.ref 633), some (.ref 651), some (.int c)] [.ref 633, .int c] M v M' 0 0 := Ev.back 2 (fun n => rfl) H
  obtain ⟨e1, rfl⟩ := Ev.dpos rfl rfl H
  obtain ⟨vK1, MK1, K1, H⟩ := Ev.callb (fun n_ => gs_7 rfl rfl (show gCal (.invokevirtual 128) 11 (.ref 633 :: [.int c]) M = some (.inr (144, [some (.ref 633)], [.int c])) from by show @cond (Option ((List Value × Mem) ⊕ (Nat × Lo × List Value))) (true && gRecv M (.ref 633) 11 && gRoom [.int c] && true) (some (.inr (144, [some (.ref 633)], [.int c]))) none = _; rw [recv_s hS.1 qa_633 qo_61]; rfl)) H
  obtain ⟨pK1, qK1⟩ := g_144 hS K1
  rw [pK1, qK1] at H
  have H : Ev none (e1 + 1) 220 7 [some (.ref 633), some (.ref 651), some (.int c)] [.int (G_144 M), .int c] M v M' 0 0 := H
  have H : Ev none (e1 + 1) 220 (if (G_144 M) ≤ c then 24 else 10) [some (.ref 633), some (.ref 651), some (.int c)] [] M v M' 0 0 := Ev.back 1 (fun n => rfl) H
  by_cases h2 : (G_144 M) ≤ c
  · rw [if_pos h2] at H
    obtain ⟨z1, z2⟩ := Ev.retb (fun n => rfl) H
    exact Or.inl ⟨h2, z1, z2⟩
  · rw [if_neg h2] at H
    have H : Ev none (e1 + 1) 220 14 [some (.ref 633), some (.ref 651), some (.int c)] [.int c, .ref 633, .int c, .ref 651] M v M' 0 0 := Ev.back 4 (fun n => rfl) H
    obtain ⟨vK3, MK3, K3, H⟩ := Ev.callb (fun n_ => gs_7 rfl rfl (show gCal (.invokevirtual 140) 11 (.int c :: .ref 633 :: [.int c, .ref 651]) M = some (.inr (150, [some (.ref 633), some (.int c)], [.int c, .ref 651])) from by show @cond (Option ((List Value × Mem) ⊕ (Nat × Lo × List Value))) (true && gRecv M (.ref 633) 11 && gRoom [.int c, .ref 651] && true) (some (.inr (150, [some (.ref 633), some (.int c)], [.int c, .ref 651]))) none = _; rw [recv_s hS.1 qa_633 qo_61]; rfl)) H
    obtain ⟨pK3, qK3⟩ := g_150 hS K3
    rw [pK3, qK3] at H
    have H : Ev none (e1 + 1) 220 17 [some (.ref 633), some (.ref 651), some (.int c)] [.int (G_150 M c), .int c, .ref 651] M v M' 0 0 := H
    obtain ⟨b4, H⟩ := Ev.bas3 rfl rfl hS.1 qa_651 qw_79 H
    obtain ⟨N5, eN5⟩ : ∃ N, N = (wI M 651 c.toNatClampNeg (vp_nar .boolean (G_150 M c))) := ⟨_, rfl⟩
    have hN5 : SQ N5 := by rw [eN5]; exact hS.ki
    have H : Ev none (e1 + 1) 220 18 [some (.ref 633), some (.ref 651), some (.int c)] [] N5 v M' 0 0 := by rw [eN5]; exact H
    have H : Ev none (e1 + 1) 220 2 [some (.ref 633), some (.ref 651), some (.int (c + 1))] [] N5 v M' 0 0 := Ev.back 2 (fun n => rfl) H
    have HF := H
    subst eN5
    exact Or.inr (⟨h2, b4, HF⟩)
theorem ntd_0 {e : Nat} {M M' : Mem} {v : Option Value} (hS : SQ M) (H : Ev none e 220 0 [some (.ref 633), some (.ref 652), none] [] M v M' 0 0) : Ev none e 220 2 [some (.ref 633), some (.ref 652), some (.int 0)] [] M v M' 0 0 := by
  have H : Ev none e 220 2 [some (.ref 633), some (.ref 652), some (.int 0)] [] M v M' 0 0 := Ev.back 2 (fun n => rfl) H
  have HF := H
  exact HF
theorem ntd_2 {e : Nat} {M M' : Mem} {v : Option Value} {c : Int32} (hS : SQ M) (H : Ev none e 220 2 [some (.ref 633), some (.ref 652), some (.int c)] [] M v M' 0 0) : ((G_144 M) ≤ c ∧ v = none ∧ M' = M) ∨ (¬ ((G_144 M) ≤ c) ∧ (0 ≤ c.toInt ∧ c.toInt < 256) ∧ Ev none e 220 2 [some (.ref 633), some (.ref 652), some (.int (c + 1))] [] (wI M 652 c.toNatClampNeg (vp_nar .boolean (G_150 M c))) v M' 0 0) := by
  have H : Ev none e 220 4 [some (.ref 633), some (.ref 652), some (.int c)] [.ref 633, .int c] M v M' 0 0 := Ev.back 2 (fun n => rfl) H
  obtain ⟨e1, rfl⟩ := Ev.dpos rfl rfl H
  obtain ⟨vK1, MK1, K1, H⟩ := Ev.callb (fun n_ => gs_7 rfl rfl (show gCal (.invokevirtual 128) 11 (.ref 633 :: [.int c]) M = some (.inr (144, [some (.ref 633)], [.int c])) from by show @cond (Option ((List Value × Mem) ⊕ (Nat × Lo × List Value))) (true && gRecv M (.ref 633) 11 && gRoom [.int c] && true) (some (.inr (144, [some (.ref 633)], [.int c]))) none = _; rw [recv_s hS.1 qa_633 qo_61]; rfl)) H
  obtain ⟨pK1, qK1⟩ := g_144 hS K1
  rw [pK1, qK1] at H
  have H : Ev none (e1 + 1) 220 7 [some (.ref 633), some (.ref 652), some (.int c)] [.int (G_144 M), .int c] M v M' 0 0 := H
  have H : Ev none (e1 + 1) 220 (if (G_144 M) ≤ c then 24 else 10) [some (.ref 633), some (.ref 652), some (.int c)] [] M v M' 0 0 := Ev.back 1 (fun n => rfl) H
  by_cases h2 : (G_144 M) ≤ c
  · rw [if_pos h2] at H
    obtain ⟨z1, z2⟩ := Ev.retb (fun n => rfl) H
    exact Or.inl ⟨h2, z1, z2⟩
  · rw [if_neg h2] at H
    have H : Ev none (e1 + 1) 220 14 [some (.ref 633), some (.ref 652), some (.int c)] [.int c, .ref 633, .int c, .ref 652] M v M' 0 0 := Ev.back 4 (fun n => rfl) H
    obtain ⟨vK3, MK3, K3, H⟩ := Ev.callb (fun n_ => gs_7 rfl rfl (show gCal (.invokevirtual 140) 11 (.int c :: .ref 633 :: [.int c, .ref 652]) M = some (.inr (150, [some (.ref 633), some (.int c)], [.int c, .ref 652])) from by show @cond (Option ((List Value × Mem) ⊕ (Nat × Lo × List Value))) (true && gRecv M (.ref 633) 11 && gRoom [.int c, .ref 652] && true) (some (.inr (150, [some (.ref 633), some (.int c)], [.int c, .ref 652]))) none = _; rw [recv_s hS.1 qa_633 qo_61]; rfl)) H
    obtain ⟨pK3, qK3⟩ := g_150 hS K3
    rw [pK3, qK3] at H
    have H : Ev none (e1 + 1) 220 17 [some (.ref 633), some (.ref 652), some (.int c)] [.int (G_150 M c), .int c, .ref 652] M v M' 0 0 := H
    obtain ⟨b4, H⟩ := Ev.bas3 rfl rfl hS.1 qa_652 qw_80 H
    obtain ⟨N5, eN5⟩ : ∃ N, N = (wI M 652 c.toNatClampNeg (vp_nar .boolean (G_150 M c))) := ⟨_, rfl⟩
    have hN5 : SQ N5 := by rw [eN5]; exact hS.ki
    have H : Ev none (e1 + 1) 220 18 [some (.ref 633), some (.ref 652), some (.int c)] [] N5 v M' 0 0 := by rw [eN5]; exact H
    have H : Ev none (e1 + 1) 220 2 [some (.ref 633), some (.ref 652), some (.int (c + 1))] [] N5 v M' 0 0 := Ev.back 2 (fun n => rfl) H
    have HF := H
    subst eN5
    exact Or.inr (⟨h2, b4, HF⟩)
theorem nte_0 {e : Nat} {M M' : Mem} {v : Option Value} (hS : SQ M) (H : Ev none e 220 0 [some (.ref 633), some (.ref 653), none] [] M v M' 0 0) : Ev none e 220 2 [some (.ref 633), some (.ref 653), some (.int 0)] [] M v M' 0 0 := by
  have H : Ev none e 220 2 [some (.ref 633), some (.ref 653), some (.int 0)] [] M v M' 0 0 := Ev.back 2 (fun n => rfl) H
  have HF := H
  exact HF
theorem nte_2 {e : Nat} {M M' : Mem} {v : Option Value} {c : Int32} (hS : SQ M) (H : Ev none e 220 2 [some (.ref 633), some (.ref 653), some (.int c)] [] M v M' 0 0) : ((G_144 M) ≤ c ∧ v = none ∧ M' = M) ∨ (¬ ((G_144 M) ≤ c) ∧ (0 ≤ c.toInt ∧ c.toInt < 256) ∧ Ev none e 220 2 [some (.ref 633), some (.ref 653), some (.int (c + 1))] [] (wI M 653 c.toNatClampNeg (vp_nar .boolean (G_150 M c))) v M' 0 0) := by
  have H : Ev none e 220 4 [some (.ref 633), some (.ref 653), some (.int c)] [.ref 633, .int c] M v M' 0 0 := Ev.back 2 (fun n => rfl) H
  obtain ⟨e1, rfl⟩ := Ev.dpos rfl rfl H
  obtain ⟨vK1, MK1, K1, H⟩ := Ev.callb (fun n_ => gs_7 rfl rfl (show gCal (.invokevirtual 128) 11 (.ref 633 :: [.int c]) M = some (.inr (144, [some (.ref 633)], [.int c])) from by show @cond (Option ((List Value × Mem) ⊕ (Nat × Lo × List Value))) (true && gRecv M (.ref 633) 11 && gRoom [.int c] && true) (some (.inr (144, [some (.ref 633)], [.int c]))) none = _; rw [recv_s hS.1 qa_633 qo_61]; rfl)) H
  obtain ⟨pK1, qK1⟩ := g_144 hS K1
  rw [pK1, qK1] at H
  have H : Ev none (e1 + 1) 220 7 [some (.ref 633), some (.ref 653), some (.int c)] [.int (G_144 M), .int c] M v M' 0 0 := H
  have H : Ev none (e1 + 1) 220 (if (G_144 M) ≤ c then 24 else 10) [some (.ref 633), some (.ref 653), some (.int c)] [] M v M' 0 0 := Ev.back 1 (fun n => rfl) H
  by_cases h2 : (G_144 M) ≤ c
  · rw [if_pos h2] at H
    obtain ⟨z1, z2⟩ := Ev.retb (fun n => rfl) H
    exact Or.inl ⟨h2, z1, z2⟩
  · rw [if_neg h2] at H
    have H : Ev none (e1 + 1) 220 14 [some (.ref 633), some (.ref 653), some (.int c)] [.int c, .ref 633, .int c, .ref 653] M v M' 0 0 := Ev.back 4 (fun n => rfl) H
    obtain ⟨vK3, MK3, K3, H⟩ := Ev.callb (fun n_ => gs_7 rfl rfl (show gCal (.invokevirtual 140) 11 (.int c :: .ref 633 :: [.int c, .ref 653]) M = some (.inr (150, [some (.ref 633), some (.int c)], [.int c, .ref 653])) from by show @cond (Option ((List Value × Mem) ⊕ (Nat × Lo × List Value))) (true && gRecv M (.ref 633) 11 && gRoom [.int c, .ref 653] && true) (some (.inr (150, [some (.ref 633), some (.int c)], [.int c, .ref 653]))) none = _; rw [recv_s hS.1 qa_633 qo_61]; rfl)) H
    obtain ⟨pK3, qK3⟩ := g_150 hS K3
    rw [pK3, qK3] at H
    have H : Ev none (e1 + 1) 220 17 [some (.ref 633), some (.ref 653), some (.int c)] [.int (G_150 M c), .int c, .ref 653] M v M' 0 0 := H
    obtain ⟨b4, H⟩ := Ev.bas3 rfl rfl hS.1 qa_653 qw_81 H
    obtain ⟨N5, eN5⟩ : ∃ N, N = (wI M 653 c.toNatClampNeg (vp_nar .boolean (G_150 M c))) := ⟨_, rfl⟩
    have hN5 : SQ N5 := by rw [eN5]; exact hS.ki
    have H : Ev none (e1 + 1) 220 18 [some (.ref 633), some (.ref 653), some (.int c)] [] N5 v M' 0 0 := by rw [eN5]; exact H
    have H : Ev none (e1 + 1) 220 2 [some (.ref 633), some (.ref 653), some (.int (c + 1))] [] N5 v M' 0 0 := Ev.back 2 (fun n => rfl) H
    have HF := H
    subst eN5
    exact Or.inr (⟨h2, b4, HF⟩)
theorem inq_0 {e : Nat} {M M' : Mem} {v : Option Value} (hS : SQ M) (H : Ev none e 221 0 [some (.ref 633), some (.ref 651), none] [] M v M' 0 0) : Ev none e 221 2 [some (.ref 633), some (.ref 651), some (.int 0)] [] M v M' 0 0 := by
  have H : Ev none e 221 2 [some (.ref 633), some (.ref 651), some (.int 0)] [] M v M' 0 0 := Ev.back 2 (fun n => rfl) H
  have HF := H
  exact HF
theorem inq_2 {e : Nat} {M M' : Mem} {v : Option Value} {c : Int32} (hS : SQ M) (H : Ev none e 221 2 [some (.ref 633), some (.ref 651), some (.int c)] [] M v M' 0 0) : ((G_144 M) ≤ c ∧ v = some (.int 1) ∧ M' = M) ∨ (¬ ((G_144 M) ≤ c) ∧ (rI M 651 c) = (G_150 M c) ∧ (0 ≤ c.toInt ∧ c.toInt < 256) ∧ Ev none e 221 2 [some (.ref 633), some (.ref 651), some (.int (c + 1))] [] M v M' 0 0) ∨ (¬ ((G_144 M) ≤ c) ∧ ¬ ((rI M 651 c) = (G_150 M c)) ∧ (0 ≤ c.toInt ∧ c.toInt < 256) ∧ v = some (.int 0) ∧ M' = M) := by
  have H : Ev none e 221 4 [some (.ref 633), some (.ref 651), some (.int c)] [.ref 633, .int c] M v M' 0 0 := Ev.back 2 (fun n => rfl) H
  obtain ⟨e1, rfl⟩ := Ev.dpos rfl rfl H
  obtain ⟨vK1, MK1, K1, H⟩ := Ev.callb (fun n_ => gs_7 rfl rfl (show gCal (.invokevirtual 128) 11 (.ref 633 :: [.int c]) M = some (.inr (144, [some (.ref 633)], [.int c])) from by show @cond (Option ((List Value × Mem) ⊕ (Nat × Lo × List Value))) (true && gRecv M (.ref 633) 11 && gRoom [.int c] && true) (some (.inr (144, [some (.ref 633)], [.int c]))) none = _; rw [recv_s hS.1 qa_633 qo_61]; rfl)) H
  obtain ⟨pK1, qK1⟩ := g_144 hS K1
  rw [pK1, qK1] at H
  have H : Ev none (e1 + 1) 221 7 [some (.ref 633), some (.ref 651), some (.int c)] [.int (G_144 M), .int c] M v M' 0 0 := H
  have H : Ev none (e1 + 1) 221 (if (G_144 M) ≤ c then 29 else 10) [some (.ref 633), some (.ref 651), some (.int c)] [] M v M' 0 0 := Ev.back 1 (fun n => rfl) H
  by_cases h2 : (G_144 M) ≤ c
  · rw [if_pos h2] at H
    have H : Ev none (e1 + 1) 221 30 [some (.ref 633), some (.ref 651), some (.int c)] [.int 1] M v M' 0 0 := Ev.back 1 (fun n => rfl) H
    obtain ⟨z1, z2⟩ := Ev.retz rfl rfl H
    exact Or.inl ⟨h2, z1, z2⟩
  · rw [if_neg h2] at H
    have H : Ev none (e1 + 1) 221 12 [some (.ref 633), some (.ref 651), some (.int c)] [.int c, .ref 651] M v M' 0 0 := Ev.back 2 (fun n => rfl) H
    obtain ⟨b3, H⟩ := Ev.bal rfl rfl hS.1 qa_651 qw_79 (Or.inr rfl) H
    have H : Ev none (e1 + 1) 221 13 [some (.ref 633), some (.ref 651), some (.int c)] [.int (rI M 651 c)] M v M' 0 0 := H
    have H : Ev none (e1 + 1) 221 15 [some (.ref 633), some (.ref 651), some (.int c)] [.int c, .ref 633, .int (rI M 651 c)] M v M' 0 0 := Ev.back 2 (fun n => rfl) H
    obtain ⟨vK4, MK4, K4, H⟩ := Ev.callb (fun n_ => gs_7 rfl rfl (show gCal (.invokevirtual 140) 11 (.int c :: .ref 633 :: [.int (rI M 651 c)]) M = some (.inr (150, [some (.ref 633), some (.int c)], [.int (rI M 651 c)])) from by show @cond (Option ((List Value × Mem) ⊕ (Nat × Lo × List Value))) (true && gRecv M (.ref 633) 11 && gRoom [.int (rI M 651 c)] && true) (some (.inr (150, [some (.ref 633), some (.int c)], [.int (rI M 651 c)]))) none = _; rw [recv_s hS.1 qa_633 qo_61]; rfl)) H
    obtain ⟨pK4, qK4⟩ := g_150 hS K4
    rw [pK4, qK4] at H
    have H : Ev none (e1 + 1) 221 18 [some (.ref 633), some (.ref 651), some (.int c)] [.int (G_150 M c), .int (rI M 651 c)] M v M' 0 0 := H
    have H : Ev none (e1 + 1) 221 (if (rI M 651 c) = (G_150 M c) then 23 else 21) [some (.ref 633), some (.ref 651), some (.int c)] [] M v M' 0 0 := Ev.back 1 (fun n => rfl) H
    by_cases h5 : (rI M 651 c) = (G_150 M c)
    · rw [if_pos h5] at H
      have H : Ev none (e1 + 1) 221 2 [some (.ref 633), some (.ref 651), some (.int (c + 1))] [] M v M' 0 0 := Ev.back 2 (fun n => rfl) H
      have HF := H
      exact Or.inr (Or.inl ⟨h2, h5, b3, HF⟩)
    · rw [if_neg h5] at H
      have H : Ev none (e1 + 1) 221 22 [some (.ref 633), some (.ref 651), some (.int c)] [.int 0] M v M' 0 0 := Ev.back 1 (fun n => rfl) H
      obtain ⟨z1, z2⟩ := Ev.retz rfl rfl H
      exact Or.inr (Or.inr (⟨h2, h5, b3, z1, z2⟩))
theorem rgq_0 {e : Nat} {M M' : Mem} {v : Option Value} {t : Int32} (hS : SQ M) (H : Ev none e 222 0 [some (.ref 633), some (.int t), none] [] M v M' 0 0) : Ev none e 222 2 [some (.ref 633), some (.int t), some (.int 0)] [] M v M' 0 0 := by
  have H : Ev none e 222 2 [some (.ref 633), some (.int t), some (.int 0)] [] M v M' 0 0 := Ev.back 2 (fun n => rfl) H
  have HF := H
  exact HF
theorem rgq_2 {e : Nat} {M M' : Mem} {v : Option Value} {t i : Int32} (hS : SQ M) (H : Ev none e 222 2 [some (.ref 633), some (.int t), some (.int i)] [] M v M' 0 0) : (t ≤ i ∧ (∃ e1 v1 M1, e = e1 + 1 ∧ Ev none e1 208 0 [some (.ref 633), none, none, none] [] M v1 M1 0 0 ∧ Ev none e 222 21 [some (.ref 633), some (.int t), some (.int i)] (v1.toList ++ []) M1 v M' 0 0)) ∨ (¬ (t ≤ i) ∧ (∃ e1 v1 M1, e = e1 + 1 ∧ Ev none e1 204 0 [some (.ref 633), none, none, none] [] M v1 M1 0 0 ∧ Ev none e 222 11 [some (.ref 633), some (.int t), some (.int i)] (v1.toList ++ []) M1 v M' 0 0)) := by
  have H : Ev none e 222 (if t ≤ i then 17 else 7) [some (.ref 633), some (.int t), some (.int i)] [] M v M' 0 0 := Ev.back 3 (fun n => rfl) H
  by_cases h1 : t ≤ i
  · rw [if_pos h1] at H
    have H : Ev none e 222 18 [some (.ref 633), some (.int t), some (.int i)] [.ref 633] M v M' 0 0 := Ev.back 1 (fun n => rfl) H
    obtain ⟨e1, rfl⟩ := Ev.dpos rfl rfl H
    obtain ⟨vK2, MK2, K2, H⟩ := Ev.callb (fun n_ => gs_7 rfl rfl (show gCal (.invokevirtual 426) 11 (.ref 633 :: []) M = some (.inr (208, [some (.ref 633), none, none, none], [])) from by show @cond (Option ((List Value × Mem) ⊕ (Nat × Lo × List Value))) (true && gRecv M (.ref 633) 11 && gRoom [] && true) (some (.inr (208, [some (.ref 633), none, none, none], []))) none = _; rw [recv_s hS.1 qa_633 qo_61]; rfl)) H
    have K2 : Ev none e1 208 0 [some (.ref 633), none, none, none] [] M vK2 MK2 0 0 := K2
    have HF := H
    exact Or.inl ⟨h1, ⟨e1, vK2, MK2, rfl, K2, HF⟩⟩
  · rw [if_neg h1] at H
    have H : Ev none e 222 8 [some (.ref 633), some (.int t), some (.int i)] [.ref 633] M v M' 0 0 := Ev.back 1 (fun n => rfl) H
    obtain ⟨e1, rfl⟩ := Ev.dpos rfl rfl H
    obtain ⟨vK3, MK3, K3, H⟩ := Ev.callb (fun n_ => gs_7 rfl rfl (show gCal (.invokevirtual 423) 11 (.ref 633 :: []) M = some (.inr (204, [some (.ref 633), none, none, none], [])) from by show @cond (Option ((List Value × Mem) ⊕ (Nat × Lo × List Value))) (true && gRecv M (.ref 633) 11 && gRoom [] && true) (some (.inr (204, [some (.ref 633), none, none, none], []))) none = _; rw [recv_s hS.1 qa_633 qo_61]; rfl)) H
    have K3 : Ev none e1 204 0 [some (.ref 633), none, none, none] [] M vK3 MK3 0 0 := K3
    have HF := H
    exact Or.inr (⟨h1, ⟨e1, vK3, MK3, rfl, K3, HF⟩⟩)
theorem rgq_11 {e : Nat} {M M' : Mem} {v : Option Value} {t i : Int32} (hS : SQ M) (H : Ev none e 222 11 [some (.ref 633), some (.int t), some (.int i)] [] M v M' 0 0) : Ev none e 222 2 [some (.ref 633), some (.int t), some (.int (i + 1))] [] M v M' 0 0 := by
  have H : Ev none e 222 2 [some (.ref 633), some (.int t), some (.int (i + 1))] [] M v M' 0 0 := Ev.back 2 (fun n => rfl) H
  have HF := H
  exact HF
theorem rgq_21 {e : Nat} {M M' : Mem} {v : Option Value} {t i : Int32} (hS : SQ M) (H : Ev none e 222 21 [some (.ref 633), some (.int t), some (.int i)] [] M v M' 0 0) : v = none ∧ M' = M := by
  obtain ⟨z1, z2⟩ := Ev.retb (fun n => rfl) H
  exact ⟨z1, z2⟩
theorem rrs_0 {e : Nat} {M M' : Mem} {v : Option Value} {w t : Int32} (hS : SQ M) (H : Ev none e 223 0 [some (.ref 633), some (.int w), some (.int t), none, none] [] M v M' 0 0) : ((G_140 (wF M 633 0 0) w 1 40) = 0 ∧ v = some (.int (-2)) ∧ M' = (wF M 633 0 0)) ∨ (¬ ((G_140 (wF M 633 0 0) w 1 40) = 0) ∧ (G_140 (wF M 633 0 0) t 1 200) = 0 ∧ v = some (.int (-2)) ∧ M' = (wF M 633 0 0)) ∨ (¬ ((G_140 (wF M 633 0 0) w 1 40) = 0) ∧ ¬ ((G_140 (wF M 633 0 0) t 1 200) = 0) ∧ (∃ e1 v1 M1, e = e1 + 1 ∧ Ev none e1 153 0 [some (.ref 633), none] [] (wF M 633 0 0) v1 M1 0 0 ∧ Ev none e 223 33 [some (.ref 633), some (.int w), some (.int t), none, none] (v1.toList ++ []) M1 v M' 0 0)) := by
  have H : Ev none e 223 2 [some (.ref 633), some (.int w), some (.int t), none, none] [.int 0, .ref 633] M v M' 0 0 := Ev.back 2 (fun n => rfl) H
  obtain ⟨N2, eN2⟩ : ∃ N, N = (wF M 633 0 0) := ⟨_, rfl⟩
  have hN2 : SQ N2 := by rw [eN2]; exact hS.kf
  have H : Ev none e 223 5 [some (.ref 633), some (.int w), some (.int t), none, none] [] N2 v M' 0 0 := by rw [eN2]; exact Ev.pfi rfl rfl rfl hS.1 qa_633 qi_61_0 H
  have H : Ev none e 223 9 [some (.ref 633), some (.int w), some (.int t), none, none] [.int 40, .int 1, .int w] N2 v M' 0 0 := Ev.back 3 (fun n => rfl) H
  obtain ⟨e1, rfl⟩ := Ev.dpos rfl rfl H
  obtain ⟨vK3, MK3, K3, H⟩ := Ev.callb (fun n => rfl) H
  obtain ⟨pK3, qK3⟩ := g_140 hN2 K3
  rw [pK3, qK3] at H
  have H : Ev none (e1 + 1) 223 12 [some (.ref 633), some (.int w), some (.int t), none, none] [.int (G_140 N2 w 1 40)] N2 v M' 0 0 := H
  have H : Ev none (e1 + 1) 223 (if (G_140 N2 w 1 40) = 0 then 26 else 15) [some (.ref 633), some (.int w), some (.int t), none, none] [] N2 v M' 0 0 := Ev.back 1 (fun n => rfl) H
  by_cases h4 : (G_140 N2 w 1 40) = 0
  · rw [if_pos h4] at H
    have H : Ev none (e1 + 1) 223 28 [some (.ref 633), some (.int w), some (.int t), none, none] [.int (-2)] N2 v M' 0 0 := Ev.back 1 (fun n => rfl) H
    obtain ⟨z1, z2⟩ := Ev.retz rfl rfl H
    subst eN2
    exact Or.inl ⟨h4, z1, z2⟩
  · rw [if_neg h4] at H
    have H : Ev none (e1 + 1) 223 20 [some (.ref 633), some (.int w), some (.int t), none, none] [.int 200, .int 1, .int t] N2 v M' 0 0 := Ev.back 3 (fun n => rfl) H
    obtain ⟨vK5, MK5, K5, H⟩ := Ev.callb (fun n => rfl) H
    obtain ⟨pK5, qK5⟩ := g_140 hN2 K5
    rw [pK5, qK5] at H
    have H : Ev none (e1 + 1) 223 23 [some (.ref 633), some (.int w), some (.int t), none, none] [.int (G_140 N2 t 1 200)] N2 v M' 0 0 := H
    have H : Ev none (e1 + 1) 223 (if (G_140 N2 t 1 200) = 0 then 26 else 29) [some (.ref 633), some (.int w), some (.int t), none, none] [] N2 v M' 0 0 := Ev.back 1 (fun n => rfl) H
    by_cases h6 : (G_140 N2 t 1 200) = 0
    · rw [if_pos h6] at H
      have H : Ev none (e1 + 1) 223 28 [some (.ref 633), some (.int w), some (.int t), none, none] [.int (-2)] N2 v M' 0 0 := Ev.back 1 (fun n => rfl) H
      obtain ⟨z1, z2⟩ := Ev.retz rfl rfl H
      subst eN2
      exact Or.inr (Or.inl ⟨h4, h6, z1, z2⟩)
    · rw [if_neg h6] at H
      have H : Ev none (e1 + 1) 223 30 [some (.ref 633), some (.int w), some (.int t), none, none] [.ref 633] N2 v M' 0 0 := Ev.back 1 (fun n => rfl) H
      obtain ⟨vK7, MK7, K7, H⟩ := Ev.callb (fun n_ => gs_7 rfl rfl (show gCal (.invokevirtual 445) 11 (.ref 633 :: []) N2 = some (.inr (153, [some (.ref 633), none], [])) from by show @cond (Option ((List Value × Mem) ⊕ (Nat × Lo × List Value))) (true && gRecv N2 (.ref 633) 11 && gRoom [] && true) (some (.inr (153, [some (.ref 633), none], []))) none = _; rw [recv_s hN2.1 qa_633 qo_61]; rfl)) H
      have K7 : Ev none e1 153 0 [some (.ref 633), none] [] N2 vK7 MK7 0 0 := K7
      have HF := H
      subst eN2
      exact Or.inr (Or.inr (⟨h4, h6, ⟨e1, vK7, MK7, rfl, K7, HF⟩⟩))
theorem rrs_33 {e : Nat} {M M' : Mem} {v : Option Value} {w t : Int32} (hS : SQ M) (H : Ev none e 223 33 [some (.ref 633), some (.int w), some (.int t), none, none] [] M v M' 0 0) : Ev none e 223 38 [some (.ref 633), some (.int w), some (.int t), some (.int (-1)), some (.int 1)] [] M v M' 0 0 := by
  have H : Ev none e 223 38 [some (.ref 633), some (.int w), some (.int t), some (.int (-1)), some (.int 1)] [] M v M' 0 0 := Ev.back 4 (fun n => rfl) H
  have HF := H
  exact HF
theorem rrs_38 {e : Nat} {M M' : Mem} {v : Option Value} {w t f n : Int32} (hS : SQ M) (H : Ev none e 223 38 [some (.ref 633), some (.int w), some (.int t), some (.int f), some (.int n)] [] M v M' 0 0) : (w < n ∧ (∃ e1 v1 M1, e = e1 + 1 ∧ Ev none e1 154 0 [some (.ref 633), none] [] M v1 M1 0 0 ∧ Ev none e 223 85 [some (.ref 633), some (.int w), some (.int t), some (.int f), some (.int n)] (v1.toList ++ []) M1 v M' 0 0)) ∨ (¬ (w < n) ∧ 0 ≤ f ∧ (∃ e1 v1 M1, e = e1 + 1 ∧ Ev none e1 154 0 [some (.ref 633), none] [] M v1 M1 0 0 ∧ Ev none e 223 85 [some (.ref 633), some (.int w), some (.int t), some (.int f), some (.int n)] (v1.toList ++ []) M1 v M' 0 0)) ∨ (¬ (w < n) ∧ ¬ (0 ≤ f) ∧ (∃ e1 v1 M1, e = e1 + 1 ∧ Ev none e1 220 0 [some (.ref 633), some (.ref 651), none] [] M v1 M1 0 0 ∧ Ev none e 223 56 [some (.ref 633), some (.int w), some (.int t), some (.int f), some (.int n)] (v1.toList ++ []) M1 v M' 0 0)) := by
  have H : Ev none e 223 (if w < n then 81 else 44) [some (.ref 633), some (.int w), some (.int t), some (.int f), some (.int n)] [] M v M' 0 0 := Ev.back 3 (fun n => rfl) H
  by_cases h1 : w < n
  · rw [if_pos h1] at H
    have H : Ev none e 223 82 [some (.ref 633), some (.int w), some (.int t), some (.int f), some (.int n)] [.ref 633] M v M' 0 0 := Ev.back 1 (fun n => rfl) H
    obtain ⟨e1, rfl⟩ := Ev.dpos rfl rfl H
    obtain ⟨vK2, MK2, K2, H⟩ := Ev.callb (fun n_ => gs_7 rfl rfl (show gCal (.invokevirtual 459) 11 (.ref 633 :: []) M = some (.inr (154, [some (.ref 633), none], [])) from by show @cond (Option ((List Value × Mem) ⊕ (Nat × Lo × List Value))) (true && gRecv M (.ref 633) 11 && gRoom [] && true) (some (.inr (154, [some (.ref 633), none], []))) none = _; rw [recv_s hS.1 qa_633 qo_61]; rfl)) H
    have K2 : Ev none e1 154 0 [some (.ref 633), none] [] M vK2 MK2 0 0 := K2
    have HF := H
    exact Or.inl ⟨h1, ⟨e1, vK2, MK2, rfl, K2, HF⟩⟩
  · rw [if_neg h1] at H
    have H : Ev none e 223 (if 0 ≤ f then 81 else 48) [some (.ref 633), some (.int w), some (.int t), some (.int f), some (.int n)] [] M v M' 0 0 := Ev.back 2 (fun n => rfl) H
    by_cases h3 : 0 ≤ f
    · rw [if_pos h3] at H
      have H : Ev none e 223 82 [some (.ref 633), some (.int w), some (.int t), some (.int f), some (.int n)] [.ref 633] M v M' 0 0 := Ev.back 1 (fun n => rfl) H
      obtain ⟨e1, rfl⟩ := Ev.dpos rfl rfl H
      obtain ⟨vK4, MK4, K4, H⟩ := Ev.callb (fun n_ => gs_7 rfl rfl (show gCal (.invokevirtual 459) 11 (.ref 633 :: []) M = some (.inr (154, [some (.ref 633), none], [])) from by show @cond (Option ((List Value × Mem) ⊕ (Nat × Lo × List Value))) (true && gRecv M (.ref 633) 11 && gRoom [] && true) (some (.inr (154, [some (.ref 633), none], []))) none = _; rw [recv_s hS.1 qa_633 qo_61]; rfl)) H
      have K4 : Ev none e1 154 0 [some (.ref 633), none] [] M vK4 MK4 0 0 := K4
      have HF := H
      exact Or.inr (Or.inl ⟨h1, h3, ⟨e1, vK4, MK4, rfl, K4, HF⟩⟩)
    · rw [if_neg h3] at H
      have H : Ev none e 223 50 [some (.ref 633), some (.int w), some (.int t), some (.int f), some (.int n)] [.ref 633, .ref 633] M v M' 0 0 := Ev.back 2 (fun n => rfl) H
      have H : Ev none e 223 53 [some (.ref 633), some (.int w), some (.int t), some (.int f), some (.int n)] [.ref 651, .ref 633] M v M' 0 0 := Ev.back 1 (gs_3 rfl rfl (gf_u hS.1 qa_633 qr_61_44 qu_79 rfl)) H
      obtain ⟨e1, rfl⟩ := Ev.dpos rfl rfl H
      obtain ⟨vK5, MK5, K5, H⟩ := Ev.callb (fun n_ => gs_7 rfl rfl (show gCal (.invokevirtual 448) 11 (.ref 651 :: .ref 633 :: []) M = some (.inr (220, [some (.ref 633), some (.ref 651), none], [])) from by show @cond (Option ((List Value × Mem) ⊕ (Nat × Lo × List Value))) (true && gRecv M (.ref 633) 11 && gRoom [] && true) (some (.inr (220, [some (.ref 633), some (.ref 651), none], []))) none = _; rw [recv_s hS.1 qa_633 qo_61]; rfl)) H
      have K5 : Ev none e1 220 0 [some (.ref 633), some (.ref 651), none] [] M vK5 MK5 0 0 := K5
      have HF := H
      exact Or.inr (Or.inr (⟨h1, h3, ⟨e1, vK5, MK5, rfl, K5, HF⟩⟩))
theorem rrs_56 {e : Nat} {M M' : Mem} {v : Option Value} {w t f n : Int32} (hS : SQ M) (H : Ev none e 223 56 [some (.ref 633), some (.int w), some (.int t), some (.int f), some (.int n)] [] M v M' 0 0) : (∃ e1 v1 M1, e = e1 + 1 ∧ Ev none e1 222 0 [some (.ref 633), some (.int t), none] [] M v1 M1 0 0 ∧ Ev none e 223 61 [some (.ref 633), some (.int w), some (.int t), some (.int f), some (.int n)] (v1.toList ++ []) M1 v M' 0 0) := by
  have H : Ev none e 223 58 [some (.ref 633), some (.int w), some (.int t), some (.int f), some (.int n)] [.int t, .ref 633] M v M' 0 0 := Ev.back 2 (fun n => rfl) H
  obtain ⟨e1, rfl⟩ := Ev.dpos rfl rfl H
  obtain ⟨vK1, MK1, K1, H⟩ := Ev.callb (fun n_ => gs_7 rfl rfl (show gCal (.invokevirtual 452) 11 (.int t :: .ref 633 :: []) M = some (.inr (222, [some (.ref 633), some (.int t), none], [])) from by show @cond (Option ((List Value × Mem) ⊕ (Nat × Lo × List Value))) (true && gRecv M (.ref 633) 11 && gRoom [] && true) (some (.inr (222, [some (.ref 633), some (.int t), none], []))) none = _; rw [recv_s hS.1 qa_633 qo_61]; rfl)) H
  have K1 : Ev none e1 222 0 [some (.ref 633), some (.int t), none] [] M vK1 MK1 0 0 := K1
  have HF := H
  exact ⟨e1, vK1, MK1, rfl, K1, HF⟩
theorem rrs_61 {e : Nat} {M M' : Mem} {v : Option Value} {w t f n : Int32} (hS : SQ M) (H : Ev none e 223 61 [some (.ref 633), some (.int w), some (.int t), some (.int f), some (.int n)] [] M v M' 0 0) : (∃ e1 v1 M1, e = e1 + 1 ∧ Ev none e1 221 0 [some (.ref 633), some (.ref 651), none] [] M v1 M1 0 0 ∧ Ev none e 223 69 [some (.ref 633), some (.int w), some (.int t), some (.int f), some (.int n)] (v1.toList ++ []) M1 v M' 0 0) := by
  have H : Ev none e 223 63 [some (.ref 633), some (.int w), some (.int t), some (.int f), some (.int n)] [.ref 633, .ref 633] M v M' 0 0 := Ev.back 2 (fun n => rfl) H
  have H : Ev none e 223 66 [some (.ref 633), some (.int w), some (.int t), some (.int f), some (.int n)] [.ref 651, .ref 633] M v M' 0 0 := Ev.back 1 (gs_3 rfl rfl (gf_u hS.1 qa_633 qr_61_44 qu_79 rfl)) H
  obtain ⟨e1, rfl⟩ := Ev.dpos rfl rfl H
  obtain ⟨vK1, MK1, K1, H⟩ := Ev.callb (fun n_ => gs_7 rfl rfl (show gCal (.invokevirtual 455) 11 (.ref 651 :: .ref 633 :: []) M = some (.inr (221, [some (.ref 633), some (.ref 651), none], [])) from by show @cond (Option ((List Value × Mem) ⊕ (Nat × Lo × List Value))) (true && gRecv M (.ref 633) 11 && gRoom [] && true) (some (.inr (221, [some (.ref 633), some (.ref 651), none], []))) none = _; rw [recv_s hS.1 qa_633 qo_61]; rfl)) H
  have K1 : Ev none e1 221 0 [some (.ref 633), some (.ref 651), none] [] M vK1 MK1 0 0 := K1
  have HF := H
  exact ⟨e1, vK1, MK1, rfl, K1, HF⟩
theorem rrs_69 {e : Nat} {M M' : Mem} {v : Option Value} {w t f n r : Int32} (hS : SQ M) (H : Ev none e 223 69 [some (.ref 633), some (.int w), some (.int t), some (.int f), some (.int n)] [.int r] M v M' 0 0) : (r = 0 ∧ Ev none e 223 38 [some (.ref 633), some (.int w), some (.int t), some (.int f), some (.int (n + 1))] [] M v M' 0 0) ∨ (¬ (r = 0) ∧ Ev none e 223 38 [some (.ref 633), some (.int w), some (.int t), some (.int n), some (.int (n + 1))] [] M v M' 0 0) := by
  have H : Ev none e 223 (if r = 0 then 75 else 72) [some (.ref 633), some (.int w), some (.int t), some (.int f), some (.int n)] [] M v M' 0 0 := Ev.back 1 (fun n => rfl) H
  by_cases h1 : r = 0
  · rw [if_pos h1] at H
    have H : Ev none e 223 38 [some (.ref 633), some (.int w), some (.int t), some (.int f), some (.int (n + 1))] [] M v M' 0 0 := Ev.back 2 (fun n => rfl) H
    have HF := H
    exact Or.inl ⟨h1, HF⟩
  · rw [if_neg h1] at H
    have H : Ev none e 223 38 [some (.ref 633), some (.int w), some (.int t), some (.int n), some (.int (n + 1))] [] M v M' 0 0 := Ev.back 4 (fun n => rfl) H
    have HF := H
    exact Or.inr (⟨h1, HF⟩)
theorem rrs_85 {e : Nat} {M M' : Mem} {v : Option Value} {w t f n : Int32} (hS : SQ M) (H : Ev none e 223 85 [some (.ref 633), some (.int w), some (.int t), some (.int f), some (.int n)] [] M v M' 0 0) : v = some (.int f) ∧ M' = M := by
  have H : Ev none e 223 86 [some (.ref 633), some (.int w), some (.int t), some (.int f), some (.int n)] [.int f] M v M' 0 0 := Ev.back 1 (fun n => rfl) H
  obtain ⟨z1, z2⟩ := Ev.retz rfl rfl H
  exact ⟨z1, z2⟩
theorem trq_0 {e : Nat} {M M' : Mem} {v : Option Value} {h w t m : Int32} (hS : SQ M) (H : Ev none e 229 0 [some (.ref 633), some (.int h), some (.int w), some (.int t), some (.int m), none, none, none, none, none] [] M v M' 0 0) : ((G_140 (wF M 633 0 0) h 0 5) = 0 ∧ v = some (.int (-2)) ∧ M' = (wF M 633 0 0)) ∨ (¬ ((G_140 (wF M 633 0 0) h 0 5) = 0) ∧ (G_140 (wF M 633 0 0) w 1 4) = 0 ∧ v = some (.int (-2)) ∧ M' = (wF M 633 0 0)) ∨ (¬ ((G_140 (wF M 633 0 0) h 0 5) = 0) ∧ ¬ ((G_140 (wF M 633 0 0) w 1 4) = 0) ∧ (G_140 (wF M 633 0 0) t 1 100) = 0 ∧ v = some (.int (-2)) ∧ M' = (wF M 633 0 0)) ∨ (¬ ((G_140 (wF M 633 0 0) h 0 5) = 0) ∧ ¬ ((G_140 (wF M 633 0 0) w 1 4) = 0) ∧ ¬ ((G_140 (wF M 633 0 0) t 1 100) = 0) ∧ Ev none e 229 47 [some (.ref 633), some (.int h), some (.int w), some (.int t), some (.int m), some (.int (-1)), some (.int (16 * (1 + h))), none, none, none] [] (wF M 633 0 0) v M' 0 0) := by
  have H : Ev none e 229 2 [some (.ref 633), some (.int h), some (.int w), some (.int t), some (.int m), none, none, none, none, none] [.int 0, .ref 633] M v M' 0 0 := Ev.back 2 (fun n => rfl) H
  obtain ⟨N2, eN2⟩ : ∃ N, N = (wF M 633 0 0) := ⟨_, rfl⟩
  have hN2 : SQ N2 := by rw [eN2]; exact hS.kf
  have H : Ev none e 229 5 [some (.ref 633), some (.int h), some (.int w), some (.int t), some (.int m), none, none, none, none, none] [] N2 v M' 0 0 := by rw [eN2]; exact Ev.pfi rfl rfl rfl hS.1 qa_633 qi_61_0 H
  have H : Ev none e 229 8 [some (.ref 633), some (.int h), some (.int w), some (.int t), some (.int m), none, none, none, none, none] [.int 5, .int 0, .int h] N2 v M' 0 0 := Ev.back 3 (fun n => rfl) H
  obtain ⟨e1, rfl⟩ := Ev.dpos rfl rfl H
  obtain ⟨vK3, MK3, K3, H⟩ := Ev.callb (fun n => rfl) H
  obtain ⟨pK3, qK3⟩ := g_140 hN2 K3
  rw [pK3, qK3] at H
  have H : Ev none (e1 + 1) 229 11 [some (.ref 633), some (.int h), some (.int w), some (.int t), some (.int m), none, none, none, none, none] [.int (G_140 N2 h 0 5)] N2 v M' 0 0 := H
  have H : Ev none (e1 + 1) 229 (if (G_140 N2 h 0 5) = 0 then 33 else 14) [some (.ref 633), some (.int h), some (.int w), some (.int t), some (.int m), none, none, none, none, none] [] N2 v M' 0 0 := Ev.back 1 (fun n => rfl) H
  by_cases h4 : (G_140 N2 h 0 5) = 0
  · rw [if_pos h4] at H
    have H : Ev none (e1 + 1) 229 35 [some (.ref 633), some (.int h), some (.int w), some (.int t), some (.int m), none, none, none, none, none] [.int (-2)] N2 v M' 0 0 := Ev.back 1 (fun n => rfl) H
    obtain ⟨z1, z2⟩ := Ev.retz rfl rfl H
    subst eN2
    exact Or.inl ⟨h4, z1, z2⟩
  · rw [if_neg h4] at H
    have H : Ev none (e1 + 1) 229 17 [some (.ref 633), some (.int h), some (.int w), some (.int t), some (.int m), none, none, none, none, none] [.int 4, .int 1, .int w] N2 v M' 0 0 := Ev.back 3 (fun n => rfl) H
    obtain ⟨vK5, MK5, K5, H⟩ := Ev.callb (fun n => rfl) H
    obtain ⟨pK5, qK5⟩ := g_140 hN2 K5
    rw [pK5, qK5] at H
    have H : Ev none (e1 + 1) 229 20 [some (.ref 633), some (.int h), some (.int w), some (.int t), some (.int m), none, none, none, none, none] [.int (G_140 N2 w 1 4)] N2 v M' 0 0 := H
    have H : Ev none (e1 + 1) 229 (if (G_140 N2 w 1 4) = 0 then 33 else 23) [some (.ref 633), some (.int h), some (.int w), some (.int t), some (.int m), none, none, none, none, none] [] N2 v M' 0 0 := Ev.back 1 (fun n => rfl) H
    by_cases h6 : (G_140 N2 w 1 4) = 0
    · rw [if_pos h6] at H
      have H : Ev none (e1 + 1) 229 35 [some (.ref 633), some (.int h), some (.int w), some (.int t), some (.int m), none, none, none, none, none] [.int (-2)] N2 v M' 0 0 := Ev.back 1 (fun n => rfl) H
      obtain ⟨z1, z2⟩ := Ev.retz rfl rfl H
      subst eN2
      exact Or.inr (Or.inl ⟨h4, h6, z1, z2⟩)
    · rw [if_neg h6] at H
      have H : Ev none (e1 + 1) 229 27 [some (.ref 633), some (.int h), some (.int w), some (.int t), some (.int m), none, none, none, none, none] [.int 100, .int 1, .int t] N2 v M' 0 0 := Ev.back 3 (fun n => rfl) H
      obtain ⟨vK7, MK7, K7, H⟩ := Ev.callb (fun n => rfl) H
      obtain ⟨pK7, qK7⟩ := g_140 hN2 K7
      rw [pK7, qK7] at H
      have H : Ev none (e1 + 1) 229 30 [some (.ref 633), some (.int h), some (.int w), some (.int t), some (.int m), none, none, none, none, none] [.int (G_140 N2 t 1 100)] N2 v M' 0 0 := H
      have H : Ev none (e1 + 1) 229 (if (G_140 N2 t 1 100) = 0 then 33 else 36) [some (.ref 633), some (.int h), some (.int w), some (.int t), some (.int m), none, none, none, none, none] [] N2 v M' 0 0 := Ev.back 1 (fun n => rfl) H
      by_cases h8 : (G_140 N2 t 1 100) = 0
      · rw [if_pos h8] at H
        have H : Ev none (e1 + 1) 229 35 [some (.ref 633), some (.int h), some (.int w), some (.int t), some (.int m), none, none, none, none, none] [.int (-2)] N2 v M' 0 0 := Ev.back 1 (fun n => rfl) H
        obtain ⟨z1, z2⟩ := Ev.retz rfl rfl H
        subst eN2
        exact Or.inr (Or.inr (Or.inl ⟨h4, h6, h8, z1, z2⟩))
      · rw [if_neg h8] at H
        have H : Ev none (e1 + 1) 229 47 [some (.ref 633), some (.int h), some (.int w), some (.int t), some (.int m), some (.int (-1)), some (.int (16 * (1 + h))), none, none, none] [] N2 v M' 0 0 := Ev.back 8 (fun n => rfl) H
        have HF := H
        subst eN2
        exact Or.inr (Or.inr (Or.inr (⟨h4, h6, h8, HF⟩)))
theorem trq_47 {e : Nat} {M M' : Mem} {v : Option Value} {h w t m x k : Int32} (hS : SQ M) (H : Ev none e 229 47 [some (.ref 633), some (.int h), some (.int w), some (.int t), some (.int m), some (.int x), some (.int k), none, none, none] [] M v M' 0 0) : (((16 * (1 + h)) + (rI M 639 (1 + h))) ≤ k ∧ (0 ≤ (1 + h).toInt ∧ (1 + h).toInt < 8) ∧ Ev none e 229 105 [some (.ref 633), some (.int h), some (.int w), some (.int t), some (.int m), some (.int x), some (.int k), none, none, none] [] M v M' 0 0) ∨ (¬ (((16 * (1 + h)) + (rI M 639 (1 + h))) ≤ k) ∧ 0 ≤ x ∧ (0 ≤ (1 + h).toInt ∧ (1 + h).toInt < 8) ∧ Ev none e 229 105 [some (.ref 633), some (.int h), some (.int w), some (.int t), some (.int m), some (.int x), some (.int k), none, none, none] [] M v M' 0 0) ∨ (¬ (((16 * (1 + h)) + (rI M 639 (1 + h))) ≤ k) ∧ ¬ (0 ≤ x) ∧ (rI M 640 k) = 5 ∧ (rI M 641 k) = 6 ∧ (0 ≤ (1 + h).toInt ∧ (1 + h).toInt < 8) ∧ (0 ≤ k.toInt ∧ k.toInt < 128) ∧ (0 ≤ k.toInt ∧ k.toInt < 128) ∧ Ev none e 229 47 [some (.ref 633), some (.int h), some (.int w), some (.int t), some (.int m), some (.int k), some (.int (k + 1)), none, none, none] [] M v M' 0 0) ∨ (¬ (((16 * (1 + h)) + (rI M 639 (1 + h))) ≤ k) ∧ ¬ (0 ≤ x) ∧ (rI M 640 k) = 5 ∧ ¬ ((rI M 641 k) = 6) ∧ (0 ≤ (1 + h).toInt ∧ (1 + h).toInt < 8) ∧ (0 ≤ k.toInt ∧ k.toInt < 128) ∧ (0 ≤ k.toInt ∧ k.toInt < 128) ∧ Ev none e 229 47 [some (.ref 633), some (.int h), some (.int w), some (.int t), some (.int m), some (.int x), some (.int (k + 1)), none, none, none] [] M v M' 0 0) ∨ (¬ (((16 * (1 + h)) + (rI M 639 (1 + h))) ≤ k) ∧ ¬ (0 ≤ x) ∧ ¬ ((rI M 640 k) = 5) ∧ (0 ≤ (1 + h).toInt ∧ (1 + h).toInt < 8) ∧ (0 ≤ k.toInt ∧ k.toInt < 128) ∧ Ev none e 229 47 [some (.ref 633), some (.int h), some (.int w), some (.int t), some (.int m), some (.int x), some (.int (k + 1)), none, none, none] [] M v M' 0 0) := by
  have H : Ev none e 229 56 [some (.ref 633), some (.int h), some (.int w), some (.int t), some (.int m), some (.int x), some (.int k), none, none, none] [.ref 633, .int (16 * (1 + h)), .int k] M v M' 0 0 := Ev.back 7 (fun n => rfl) H
  have H : Ev none e 229 59 [some (.ref 633), some (.int h), some (.int w), some (.int t), some (.int m), some (.int x), some (.int k), none, none, none] [.ref 639, .int (16 * (1 + h)), .int k] M v M' 0 0 := Ev.back 1 (gs_3 rfl rfl (gf_u hS.1 qa_633 qr_61_9 qu_67 rfl)) H
  have H : Ev none e 229 62 [some (.ref 633), some (.int h), some (.int w), some (.int t), some (.int m), some (.int x), some (.int k), none, none, none] [.int (1 + h), .ref 639, .int (16 * (1 + h)), .int k] M v M' 0 0 := Ev.back 3 (fun n => rfl) H
  obtain ⟨b1, H⟩ := Ev.ial rfl rfl hS.1 qa_639 qw_67 H
  have H : Ev none e 229 63 [some (.ref 633), some (.int h), some (.int w), some (.int t), some (.int m), some (.int x), some (.int k), none, none, none] [.int (rI M 639 (1 + h)), .int (16 * (1 + h)), .int k] M v M' 0 0 := H
  have H : Ev none e 229 (if ((16 * (1 + h)) + (rI M 639 (1 + h))) ≤ k then 105 else 67) [some (.ref 633), some (.int h), some (.int w), some (.int t), some (.int m), some (.int x), some (.int k), none, none, none] [] M v M' 0 0 := Ev.back 2 (fun n => rfl) H
  by_cases h2 : ((16 * (1 + h)) + (rI M 639 (1 + h))) ≤ k
  · rw [if_pos h2] at H
    have HF := H
    exact Or.inl ⟨h2, b1, HF⟩
  · rw [if_neg h2] at H
    have H : Ev none e 229 (if 0 ≤ x then 105 else 72) [some (.ref 633), some (.int h), some (.int w), some (.int t), some (.int m), some (.int x), some (.int k), none, none, none] [] M v M' 0 0 := Ev.back 2 (fun n => rfl) H
    by_cases h3 : 0 ≤ x
    · rw [if_pos h3] at H
      have HF := H
      exact Or.inr (Or.inl ⟨h2, h3, b1, HF⟩)
    · rw [if_neg h3] at H
      have H : Ev none e 229 73 [some (.ref 633), some (.int h), some (.int w), some (.int t), some (.int m), some (.int x), some (.int k), none, none, none] [.ref 633] M v M' 0 0 := Ev.back 1 (fun n => rfl) H
      have H : Ev none e 229 76 [some (.ref 633), some (.int h), some (.int w), some (.int t), some (.int m), some (.int x), some (.int k), none, none, none] [.ref 640] M v M' 0 0 := Ev.back 1 (gs_3 rfl rfl (gf_u hS.1 qa_633 qr_61_10 qu_68 rfl)) H
      have H : Ev none e 229 78 [some (.ref 633), some (.int h), some (.int w), some (.int t), some (.int m), some (.int x), some (.int k), none, none, none] [.int k, .ref 640] M v M' 0 0 := Ev.back 1 (fun n => rfl) H
      obtain ⟨b4, H⟩ := Ev.ial rfl rfl hS.1 qa_640 qw_68 H
      have H : Ev none e 229 79 [some (.ref 633), some (.int h), some (.int w), some (.int t), some (.int m), some (.int x), some (.int k), none, none, none] [.int (rI M 640 k)] M v M' 0 0 := H
      have H : Ev none e 229 (if (rI M 640 k) = 5 then 83 else 99) [some (.ref 633), some (.int h), some (.int w), some (.int t), some (.int m), some (.int x), some (.int k), none, none, none] [] M v M' 0 0 := Ev.back 2 (fun n => rfl) H
      by_cases h5 : (rI M 640 k) = 5
      · rw [if_pos h5] at H
        have H : Ev none e 229 84 [some (.ref 633), some (.int h), some (.int w), some (.int t), some (.int m), some (.int x), some (.int k), none, none, none] [.ref 633] M v M' 0 0 := Ev.back 1 (fun n => rfl) H
        have H : Ev none e 229 87 [some (.ref 633), some (.int h), some (.int w), some (.int t), some (.int m), some (.int x), some (.int k), none, none, none] [.ref 641] M v M' 0 0 := Ev.back 1 (gs_3 rfl rfl (gf_u hS.1 qa_633 qr_61_11 qu_69 rfl)) H
        have H : Ev none e 229 89 [some (.ref 633), some (.int h), some (.int w), some (.int t), some (.int m), some (.int x), some (.int k), none, none, none] [.int k, .ref 641] M v M' 0 0 := Ev.back 1 (fun n => rfl) H
        obtain ⟨b6, H⟩ := Ev.ial rfl rfl hS.1 qa_641 qw_69 H
        have H : Ev none e 229 90 [some (.ref 633), some (.int h), some (.int w), some (.int t), some (.int m), some (.int x), some (.int k), none, none, none] [.int (rI M 641 k)] M v M' 0 0 := H
        have H : Ev none e 229 (if (rI M 641 k) = 6 then 95 else 99) [some (.ref 633), some (.int h), some (.int w), some (.int t), some (.int m), some (.int x), some (.int k), none, none, none] [] M v M' 0 0 := Ev.back 2 (fun n => rfl) H
        by_cases h7 : (rI M 641 k) = 6
        · rw [if_pos h7] at H
          have H : Ev none e 229 47 [some (.ref 633), some (.int h), some (.int w), some (.int t), some (.int m), some (.int k), some (.int (k + 1)), none, none, none] [] M v M' 0 0 := Ev.back 4 (fun n => rfl) H
          have HF := H
          exact Or.inr (Or.inr (Or.inl ⟨h2, h3, h5, h7, b1, b4, b6, HF⟩))
        · rw [if_neg h7] at H
          have H : Ev none e 229 47 [some (.ref 633), some (.int h), some (.int w), some (.int t), some (.int m), some (.int x), some (.int (k + 1)), none, none, none] [] M v M' 0 0 := Ev.back 2 (fun n => rfl) H
          have HF := H
          exact Or.inr (Or.inr (Or.inr (Or.inl ⟨h2, h3, h5, h7, b1, b4, b6, HF⟩)))
      · rw [if_neg h5] at H
        have H : Ev none e 229 47 [some (.ref 633), some (.int h), some (.int w), some (.int t), some (.int m), some (.int x), some (.int (k + 1)), none, none, none] [] M v M' 0 0 := Ev.back 2 (fun n => rfl) H
        have HF := H
        exact Or.inr (Or.inr (Or.inr (Or.inr (⟨h2, h3, h5, b1, b4, HF⟩))))
theorem trq_105 {e : Nat} {M M' : Mem} {v : Option Value} {h w t m x k : Int32} (hS : SQ M) (H : Ev none e 229 105 [some (.ref 633), some (.int h), some (.int w), some (.int t), some (.int m), some (.int x), some (.int k), none, none, none] [] M v M' 0 0) : (0 ≤ x ∧ (0 ≤ x.toInt ∧ x.toInt < 128) ∧ Ev none e 229 127 [some (.ref 633), some (.int h), some (.int w), some (.int t), some (.int m), some (.int x), some (.int (rI M 642 x)), some (.int (-1)), some (.int 0), none] [] M v M' 0 0) ∨ (¬ (0 ≤ x) ∧ v = some (.int (-1)) ∧ M' = M) := by
  have H : Ev none e 229 (if 0 ≤ x then 112 else 110) [some (.ref 633), some (.int h), some (.int w), some (.int t), some (.int m), some (.int x), some (.int k), none, none, none] [] M v M' 0 0 := Ev.back 2 (fun n => rfl) H
  by_cases h1 : 0 ≤ x
  · rw [if_pos h1] at H
    have H : Ev none e 229 113 [some (.ref 633), some (.int h), some (.int w), some (.int t), some (.int m), some (.int x), some (.int k), none, none, none] [.ref 633] M v M' 0 0 := Ev.back 1 (fun n => rfl) H
    have H : Ev none e 229 116 [some (.ref 633), some (.int h), some (.int w), some (.int t), some (.int m), some (.int x), some (.int k), none, none, none] [.ref 642] M v M' 0 0 := Ev.back 1 (gs_3 rfl rfl (gf_u hS.1 qa_633 qr_61_12 qu_70 rfl)) H
    have H : Ev none e 229 118 [some (.ref 633), some (.int h), some (.int w), some (.int t), some (.int m), some (.int x), some (.int k), none, none, none] [.int x, .ref 642] M v M' 0 0 := Ev.back 1 (fun n => rfl) H
    obtain ⟨b2, H⟩ := Ev.ial rfl rfl hS.1 qa_642 qw_70 H
    have H : Ev none e 229 119 [some (.ref 633), some (.int h), some (.int w), some (.int t), some (.int m), some (.int x), some (.int k), none, none, none] [.int (rI M 642 x)] M v M' 0 0 := H
    have H : Ev none e 229 127 [some (.ref 633), some (.int h), some (.int w), some (.int t), some (.int m), some (.int x), some (.int (rI M 642 x)), some (.int (-1)), some (.int 0), none] [] M v M' 0 0 := Ev.back 5 (fun n => rfl) H
    have HF := H
    exact Or.inl ⟨h1, b2, HF⟩
  · rw [if_neg h1] at H
    have H : Ev none e 229 111 [some (.ref 633), some (.int h), some (.int w), some (.int t), some (.int m), some (.int x), some (.int k), none, none, none] [.int (-1)] M v M' 0 0 := Ev.back 1 (fun n => rfl) H
    obtain ⟨z1, z2⟩ := Ev.retz rfl rfl H
    exact Or.inr (⟨h1, z1, z2⟩)
theorem trq_127 {e : Nat} {M M' : Mem} {v : Option Value} {h w t m x was f n : Int32} {c9 : Option Value} (hS : SQ M) (H : Ev none e 229 127 [some (.ref 633), some (.int h), some (.int w), some (.int t), some (.int m), some (.int x), some (.int was), some (.int f), some (.int n), c9] [] M v M' 0 0) : (10 ≤ n ∧ (0 ≤ x.toInt ∧ x.toInt < 128) ∧ v = some (.int f) ∧ M' = (wI M 642 x.toNatClampNeg was)) ∨ (¬ (10 ≤ n) ∧ 0 ≤ f ∧ (0 ≤ x.toInt ∧ x.toInt < 128) ∧ v = some (.int f) ∧ M' = (wI M 642 x.toNatClampNeg was)) ∨ (¬ (10 ≤ n) ∧ ¬ (0 ≤ f) ∧ (0 ≤ x.toInt ∧ x.toInt < 128) ∧ (∃ e1 v1 M1, e = e1 + 1 ∧ Ev none e1 153 0 [some (.ref 633), none] [] (wI M 642 x.toNatClampNeg n) v1 M1 0 0 ∧ Ev none e 229 152 [some (.ref 633), some (.int h), some (.int w), some (.int t), some (.int m), some (.int x), some (.int was), some (.int f), some (.int n), c9] (v1.toList ++ []) M1 v M' 0 0)) := by
  have H : Ev none e 229 (if 10 ≤ n then 195 else 134) [some (.ref 633), some (.int h), some (.int w), some (.int t), some (.int m), some (.int x), some (.int was), some (.int f), some (.int n), c9] [] M v M' 0 0 := Ev.back 3 (fun n => rfl) H
  by_cases h1 : 10 ≤ n
  · rw [if_pos h1] at H
    have H : Ev none e 229 196 [some (.ref 633), some (.int h), some (.int w), some (.int t), some (.int m), some (.int x), some (.int was), some (.int f), some (.int n), c9] [.ref 633] M v M' 0 0 := Ev.back 1 (fun n => rfl) H
    have H : Ev none e 229 199 [some (.ref 633), some (.int h), some (.int w), some (.int t), some (.int m), some (.int x), some (.int was), some (.int f), some (.int n), c9] [.ref 642] M v M' 0 0 := Ev.back 1 (gs_3 rfl rfl (gf_u hS.1 qa_633 qr_61_12 qu_70 rfl)) H
    have H : Ev none e 229 203 [some (.ref 633), some (.int h), some (.int w), some (.int t), some (.int m), some (.int x), some (.int was), some (.int f), some (.int n), c9] [.int was, .int x, .ref 642] M v M' 0 0 := Ev.back 2 (fun n => rfl) H
    obtain ⟨b2, H⟩ := Ev.ias rfl rfl hS.1 qa_642 qw_70 H
    obtain ⟨N3, eN3⟩ : ∃ N, N = (wI M 642 x.toNatClampNeg was) := ⟨_, rfl⟩
    have hN3 : SQ N3 := by rw [eN3]; exact hS.ki
    have H : Ev none e 229 204 [some (.ref 633), some (.int h), some (.int w), some (.int t), some (.int m), some (.int x), some (.int was), some (.int f), some (.int n), c9] [] N3 v M' 0 0 := by rw [eN3]; exact H
    have H : Ev none e 229 206 [some (.ref 633), some (.int h), some (.int w), some (.int t), some (.int m), some (.int x), some (.int was), some (.int f), some (.int n), c9] [.int f] N3 v M' 0 0 := Ev.back 1 (fun n => rfl) H
    obtain ⟨z1, z2⟩ := Ev.retz rfl rfl H
    subst eN3
    exact Or.inl ⟨h1, b2, z1, z2⟩
  · rw [if_neg h1] at H
    have H : Ev none e 229 (if 0 ≤ f then 195 else 139) [some (.ref 633), some (.int h), some (.int w), some (.int t), some (.int m), some (.int x), some (.int was), some (.int f), some (.int n), c9] [] M v M' 0 0 := Ev.back 2 (fun n => rfl) H
    by_cases h4 : 0 ≤ f
    · rw [if_pos h4] at H
      have H : Ev none e 229 196 [some (.ref 633), some (.int h), some (.int w), some (.int t), some (.int m), some (.int x), some (.int was), some (.int f), some (.int n), c9] [.ref 633] M v M' 0 0 := Ev.back 1 (fun n => rfl) H
      have H : Ev none e 229 199 [some (.ref 633), some (.int h), some (.int w), some (.int t), some (.int m), some (.int x), some (.int was), some (.int f), some (.int n), c9] [.ref 642] M v M' 0 0 := Ev.back 1 (gs_3 rfl rfl (gf_u hS.1 qa_633 qr_61_12 qu_70 rfl)) H
      have H : Ev none e 229 203 [some (.ref 633), some (.int h), some (.int w), some (.int t), some (.int m), some (.int x), some (.int was), some (.int f), some (.int n), c9] [.int was, .int x, .ref 642] M v M' 0 0 := Ev.back 2 (fun n => rfl) H
      obtain ⟨b5, H⟩ := Ev.ias rfl rfl hS.1 qa_642 qw_70 H
      obtain ⟨N6, eN6⟩ : ∃ N, N = (wI M 642 x.toNatClampNeg was) := ⟨_, rfl⟩
      have hN6 : SQ N6 := by rw [eN6]; exact hS.ki
      have H : Ev none e 229 204 [some (.ref 633), some (.int h), some (.int w), some (.int t), some (.int m), some (.int x), some (.int was), some (.int f), some (.int n), c9] [] N6 v M' 0 0 := by rw [eN6]; exact H
      have H : Ev none e 229 206 [some (.ref 633), some (.int h), some (.int w), some (.int t), some (.int m), some (.int x), some (.int was), some (.int f), some (.int n), c9] [.int f] N6 v M' 0 0 := Ev.back 1 (fun n => rfl) H
      obtain ⟨z1, z2⟩ := Ev.retz rfl rfl H
      subst eN6
      exact Or.inr (Or.inl ⟨h1, h4, b5, z1, z2⟩)
    · rw [if_neg h4] at H
      have H : Ev none e 229 140 [some (.ref 633), some (.int h), some (.int w), some (.int t), some (.int m), some (.int x), some (.int was), some (.int f), some (.int n), c9] [.ref 633] M v M' 0 0 := Ev.back 1 (fun n => rfl) H
      have H : Ev none e 229 143 [some (.ref 633), some (.int h), some (.int w), some (.int t), some (.int m), some (.int x), some (.int was), some (.int f), some (.int n), c9] [.ref 642] M v M' 0 0 := Ev.back 1 (gs_3 rfl rfl (gf_u hS.1 qa_633 qr_61_12 qu_70 rfl)) H
      have H : Ev none e 229 147 [some (.ref 633), some (.int h), some (.int w), some (.int t), some (.int m), some (.int x), some (.int was), some (.int f), some (.int n), c9] [.int n, .int x, .ref 642] M v M' 0 0 := Ev.back 2 (fun n => rfl) H
      obtain ⟨b7, H⟩ := Ev.ias rfl rfl hS.1 qa_642 qw_70 H
      obtain ⟨N8, eN8⟩ : ∃ N, N = (wI M 642 x.toNatClampNeg n) := ⟨_, rfl⟩
      have hN8 : SQ N8 := by rw [eN8]; exact hS.ki
      have H : Ev none e 229 148 [some (.ref 633), some (.int h), some (.int w), some (.int t), some (.int m), some (.int x), some (.int was), some (.int f), some (.int n), c9] [] N8 v M' 0 0 := by rw [eN8]; exact H
      have H : Ev none e 229 149 [some (.ref 633), some (.int h), some (.int w), some (.int t), some (.int m), some (.int x), some (.int was), some (.int f), some (.int n), c9] [.ref 633] N8 v M' 0 0 := Ev.back 1 (fun n => rfl) H
      obtain ⟨e1, rfl⟩ := Ev.dpos rfl rfl H
      obtain ⟨vK9, MK9, K9, H⟩ := Ev.callb (fun n_ => gs_7 rfl rfl (show gCal (.invokevirtual 445) 11 (.ref 633 :: []) N8 = some (.inr (153, [some (.ref 633), none], [])) from by show @cond (Option ((List Value × Mem) ⊕ (Nat × Lo × List Value))) (true && gRecv N8 (.ref 633) 11 && gRoom [] && true) (some (.inr (153, [some (.ref 633), none], []))) none = _; rw [recv_s hN8.1 qa_633 qo_61]; rfl)) H
      have K9 : Ev none e1 153 0 [some (.ref 633), none] [] N8 vK9 MK9 0 0 := K9
      have HF := H
      subst eN8
      exact Or.inr (Or.inr (⟨h1, h4, b7, ⟨e1, vK9, MK9, rfl, K9, HF⟩⟩))
theorem trq_152 {e : Nat} {M M' : Mem} {v : Option Value} {h w t m x was f n : Int32} {c9 : Option Value} (hS : SQ M) (H : Ev none e 229 152 [some (.ref 633), some (.int h), some (.int w), some (.int t), some (.int m), some (.int x), some (.int was), some (.int f), some (.int n), c9] [] M v M' 0 0) : Ev none e 229 155 [some (.ref 633), some (.int h), some (.int w), some (.int t), some (.int m), some (.int x), some (.int was), some (.int f), some (.int n), some (.int 0)] [] M v M' 0 0 := by
  have H : Ev none e 229 155 [some (.ref 633), some (.int h), some (.int w), some (.int t), some (.int m), some (.int x), some (.int was), some (.int f), some (.int n), some (.int 0)] [] M v M' 0 0 := Ev.back 2 (fun n => rfl) H
  have HF := H
  exact HF
theorem trq_155 {e : Nat} {M M' : Mem} {v : Option Value} {h w t m x was f n j : Int32} (hS : SQ M) (H : Ev none e 229 155 [some (.ref 633), some (.int h), some (.int w), some (.int t), some (.int m), some (.int x), some (.int was), some (.int f), some (.int n), some (.int j)] [] M v M' 0 0) : (w ≤ j ∧ (∃ e1 v1 M1, e = e1 + 1 ∧ Ev none e1 216 0 [some (.ref 633), none, none] [] M v1 M1 0 0 ∧ Ev none e 229 176 [some (.ref 633), some (.int h), some (.int w), some (.int t), some (.int m), some (.int x), some (.int was), some (.int f), some (.int n), some (.int j)] (v1.toList ++ []) M1 v M' 0 0)) ∨ (¬ (w ≤ j) ∧ (∃ e1 v1 M1, e = e1 + 1 ∧ Ev none e1 222 0 [some (.ref 633), some (.int t), none] [] M v1 M1 0 0 ∧ Ev none e 229 166 [some (.ref 633), some (.int h), some (.int w), some (.int t), some (.int m), some (.int x), some (.int was), some (.int f), some (.int n), some (.int j)] (v1.toList ++ []) M1 v M' 0 0)) := by
  have H : Ev none e 229 (if w ≤ j then 172 else 161) [some (.ref 633), some (.int h), some (.int w), some (.int t), some (.int m), some (.int x), some (.int was), some (.int f), some (.int n), some (.int j)] [] M v M' 0 0 := Ev.back 3 (fun n => rfl) H
  by_cases h1 : w ≤ j
  · rw [if_pos h1] at H
    have H : Ev none e 229 173 [some (.ref 633), some (.int h), some (.int w), some (.int t), some (.int m), some (.int x), some (.int was), some (.int f), some (.int n), some (.int j)] [.ref 633] M v M' 0 0 := Ev.back 1 (fun n => rfl) H
    obtain ⟨e1, rfl⟩ := Ev.dpos rfl rfl H
    obtain ⟨vK2, MK2, K2, H⟩ := Ev.callb (fun n_ => gs_7 rfl rfl (show gCal (.invokevirtual 429) 11 (.ref 633 :: []) M = some (.inr (216, [some (.ref 633), none, none], [])) from by show @cond (Option ((List Value × Mem) ⊕ (Nat × Lo × List Value))) (true && gRecv M (.ref 633) 11 && gRoom [] && true) (some (.inr (216, [some (.ref 633), none, none], []))) none = _; rw [recv_s hS.1 qa_633 qo_61]; rfl)) H
    have K2 : Ev none e1 216 0 [some (.ref 633), none, none] [] M vK2 MK2 0 0 := K2
    have HF := H
    exact Or.inl ⟨h1, ⟨e1, vK2, MK2, rfl, K2, HF⟩⟩
  · rw [if_neg h1] at H
    have H : Ev none e 229 163 [some (.ref 633), some (.int h), some (.int w), some (.int t), some (.int m), some (.int x), some (.int was), some (.int f), some (.int n), some (.int j)] [.int t, .ref 633] M v M' 0 0 := Ev.back 2 (fun n => rfl) H
    obtain ⟨e1, rfl⟩ := Ev.dpos rfl rfl H
    obtain ⟨vK3, MK3, K3, H⟩ := Ev.callb (fun n_ => gs_7 rfl rfl (show gCal (.invokevirtual 452) 11 (.int t :: .ref 633 :: []) M = some (.inr (222, [some (.ref 633), some (.int t), none], [])) from by show @cond (Option ((List Value × Mem) ⊕ (Nat × Lo × List Value))) (true && gRecv M (.ref 633) 11 && gRoom [] && true) (some (.inr (222, [some (.ref 633), some (.int t), none], []))) none = _; rw [recv_s hS.1 qa_633 qo_61]; rfl)) H
    have K3 : Ev none e1 222 0 [some (.ref 633), some (.int t), none] [] M vK3 MK3 0 0 := K3
    have HF := H
    exact Or.inr (⟨h1, ⟨e1, vK3, MK3, rfl, K3, HF⟩⟩)
theorem trq_166 {e : Nat} {M M' : Mem} {v : Option Value} {h w t m x was f n j : Int32} (hS : SQ M) (H : Ev none e 229 166 [some (.ref 633), some (.int h), some (.int w), some (.int t), some (.int m), some (.int x), some (.int was), some (.int f), some (.int n), some (.int j)] [] M v M' 0 0) : Ev none e 229 155 [some (.ref 633), some (.int h), some (.int w), some (.int t), some (.int m), some (.int x), some (.int was), some (.int f), some (.int n), some (.int (j + 1))] [] M v M' 0 0 := by
  have H : Ev none e 229 155 [some (.ref 633), some (.int h), some (.int w), some (.int t), some (.int m), some (.int x), some (.int was), some (.int f), some (.int n), some (.int (j + 1))] [] M v M' 0 0 := Ev.back 2 (fun n => rfl) H
  have HF := H
  exact HF
theorem trq_176 {e : Nat} {M M' : Mem} {v : Option Value} {h w t m x was f n j r : Int32} (hS : SQ M) (H : Ev none e 229 176 [some (.ref 633), some (.int h), some (.int w), some (.int t), some (.int m), some (.int x), some (.int was), some (.int f), some (.int n), some (.int j)] [.int r] M v M' 0 0) : (m < r ∧ (∃ e1 v1 M1, e = e1 + 1 ∧ Ev none e1 154 0 [some (.ref 633), none] [] M v1 M1 0 0 ∧ Ev none e 229 189 [some (.ref 633), some (.int h), some (.int w), some (.int t), some (.int m), some (.int x), some (.int was), some (.int f), some (.int n), some (.int j)] (v1.toList ++ []) M1 v M' 0 0)) ∨ (¬ (m < r) ∧ (∃ e1 v1 M1, e = e1 + 1 ∧ Ev none e1 154 0 [some (.ref 633), none] [] M v1 M1 0 0 ∧ Ev none e 229 189 [some (.ref 633), some (.int h), some (.int w), some (.int t), some (.int m), some (.int x), some (.int was), some (.int n), some (.int n), some (.int j)] (v1.toList ++ []) M1 v M' 0 0)) := by
  have H : Ev none e 229 (if m < r then 185 else 181) [some (.ref 633), some (.int h), some (.int w), some (.int t), some (.int m), some (.int x), some (.int was), some (.int f), some (.int n), some (.int j)] [] M v M' 0 0 := Ev.back 2 (fun n => rfl) H
  by_cases h1 : m < r
  · rw [if_pos h1] at H
    have H : Ev none e 229 186 [some (.ref 633), some (.int h), some (.int w), some (.int t), some (.int m), some (.int x), some (.int was), some (.int f), some (.int n), some (.int j)] [.ref 633] M v M' 0 0 := Ev.back 1 (fun n => rfl) H
    obtain ⟨e1, rfl⟩ := Ev.dpos rfl rfl H
    obtain ⟨vK2, MK2, K2, H⟩ := Ev.callb (fun n_ => gs_7 rfl rfl (show gCal (.invokevirtual 459) 11 (.ref 633 :: []) M = some (.inr (154, [some (.ref 633), none], [])) from by show @cond (Option ((List Value × Mem) ⊕ (Nat × Lo × List Value))) (true && gRecv M (.ref 633) 11 && gRoom [] && true) (some (.inr (154, [some (.ref 633), none], []))) none = _; rw [recv_s hS.1 qa_633 qo_61]; rfl)) H
    have K2 : Ev none e1 154 0 [some (.ref 633), none] [] M vK2 MK2 0 0 := K2
    have HF := H
    exact Or.inl ⟨h1, ⟨e1, vK2, MK2, rfl, K2, HF⟩⟩
  · rw [if_neg h1] at H
    have H : Ev none e 229 186 [some (.ref 633), some (.int h), some (.int w), some (.int t), some (.int m), some (.int x), some (.int was), some (.int n), some (.int n), some (.int j)] [.ref 633] M v M' 0 0 := Ev.back 3 (fun n => rfl) H
    obtain ⟨e1, rfl⟩ := Ev.dpos rfl rfl H
    obtain ⟨vK3, MK3, K3, H⟩ := Ev.callb (fun n_ => gs_7 rfl rfl (show gCal (.invokevirtual 459) 11 (.ref 633 :: []) M = some (.inr (154, [some (.ref 633), none], [])) from by show @cond (Option ((List Value × Mem) ⊕ (Nat × Lo × List Value))) (true && gRecv M (.ref 633) 11 && gRoom [] && true) (some (.inr (154, [some (.ref 633), none], []))) none = _; rw [recv_s hS.1 qa_633 qo_61]; rfl)) H
    have K3 : Ev none e1 154 0 [some (.ref 633), none] [] M vK3 MK3 0 0 := K3
    have HF := H
    exact Or.inr (⟨h1, ⟨e1, vK3, MK3, rfl, K3, HF⟩⟩)
theorem trq_189 {e : Nat} {M M' : Mem} {v : Option Value} {h w t m x was f n j : Int32} (hS : SQ M) (H : Ev none e 229 189 [some (.ref 633), some (.int h), some (.int w), some (.int t), some (.int m), some (.int x), some (.int was), some (.int f), some (.int n), some (.int j)] [] M v M' 0 0) : Ev none e 229 127 [some (.ref 633), some (.int h), some (.int w), some (.int t), some (.int m), some (.int x), some (.int was), some (.int f), some (.int (n + 1)), some (.int j)] [] M v M' 0 0 := by
  have H : Ev none e 229 127 [some (.ref 633), some (.int h), some (.int w), some (.int t), some (.int m), some (.int x), some (.int was), some (.int f), some (.int (n + 1)), some (.int j)] [] M v M' 0 0 := Ev.back 2 (fun n => rfl) H
  have HF := H
  exact HF
theorem rpv_0 {e : Nat} {M M' : Mem} {v : Option Value} {w ws t : Int32} (hS : SQ M) (H : Ev none e 230 0 [some (.ref 633), some (.int w), some (.int ws), some (.int t), none] [] M v M' 0 0) : (∃ e1 v1 M1, e = e1 + 1 ∧ Ev none e1 153 0 [some (.ref 633), none] [] M v1 M1 0 0 ∧ Ev none e 230 4 [some (.ref 633), some (.int w), some (.int ws), some (.int t), none] (v1.toList ++ []) M1 v M' 0 0) := by
  have H : Ev none e 230 1 [some (.ref 633), some (.int w), some (.int ws), some (.int t), none] [.ref 633] M v M' 0 0 := Ev.back 1 (fun n => rfl) H
  obtain ⟨e1, rfl⟩ := Ev.dpos rfl rfl H
  obtain ⟨vK1, MK1, K1, H⟩ := Ev.callb (fun n_ => gs_7 rfl rfl (show gCal (.invokevirtual 445) 11 (.ref 633 :: []) M = some (.inr (153, [some (.ref 633), none], [])) from by show @cond (Option ((List Value × Mem) ⊕ (Nat × Lo × List Value))) (true && gRecv M (.ref 633) 11 && gRoom [] && true) (some (.inr (153, [some (.ref 633), none], []))) none = _; rw [recv_s hS.1 qa_633 qo_61]; rfl)) H
  have K1 : Ev none e1 153 0 [some (.ref 633), none] [] M vK1 MK1 0 0 := K1
  have HF := H
  exact ⟨e1, vK1, MK1, rfl, K1, HF⟩
theorem rpv_4 {e : Nat} {M M' : Mem} {v : Option Value} {w ws t : Int32} (hS : SQ M) (H : Ev none e 230 4 [some (.ref 633), some (.int w), some (.int ws), some (.int t), none] [] M v M' 0 0) : Ev none e 230 7 [some (.ref 633), some (.int w), some (.int ws), some (.int t), some (.int 1)] [] M v M' 0 0 := by
  have H : Ev none e 230 7 [some (.ref 633), some (.int w), some (.int ws), some (.int t), some (.int 1)] [] M v M' 0 0 := Ev.back 2 (fun n => rfl) H
  have HF := H
  exact HF
theorem rpv_7 {e : Nat} {M M' : Mem} {v : Option Value} {w ws t k : Int32} (hS : SQ M) (H : Ev none e 230 7 [some (.ref 633), some (.int w), some (.int ws), some (.int t), some (.int k)] [] M v M' 0 0) : (ws < k ∧ (∃ e1 v1 M1, e = e1 + 1 ∧ Ev none e1 220 0 [some (.ref 633), some (.ref 652), none] [] M v1 M1 0 0 ∧ Ev none e 230 46 [some (.ref 633), some (.int w), some (.int ws), some (.int t), some (.int k)] (v1.toList ++ []) M1 v M' 0 0)) ∨ (¬ (ws < k) ∧ (∃ e1 v1 M1, e = e1 + 1 ∧ Ev none e1 222 0 [some (.ref 633), some (.int t), none] [] M v1 M1 0 0 ∧ Ev none e 230 18 [some (.ref 633), some (.int w), some (.int ws), some (.int t), some (.int k)] (v1.toList ++ []) M1 v M' 0 0)) := by
  have H : Ev none e 230 (if ws < k then 38 else 13) [some (.ref 633), some (.int w), some (.int ws), some (.int t), some (.int k)] [] M v M' 0 0 := Ev.back 3 (fun n => rfl) H
  by_cases h1 : ws < k
  · rw [if_pos h1] at H
    have H : Ev none e 230 40 [some (.ref 633), some (.int w), some (.int ws), some (.int t), some (.int k)] [.ref 633, .ref 633] M v M' 0 0 := Ev.back 2 (fun n => rfl) H
    have H : Ev none e 230 43 [some (.ref 633), some (.int w), some (.int ws), some (.int t), some (.int k)] [.ref 652, .ref 633] M v M' 0 0 := Ev.back 1 (gs_3 rfl rfl (gf_u hS.1 qa_633 qr_61_45 qu_80 rfl)) H
    obtain ⟨e1, rfl⟩ := Ev.dpos rfl rfl H
    obtain ⟨vK2, MK2, K2, H⟩ := Ev.callb (fun n_ => gs_7 rfl rfl (show gCal (.invokevirtual 448) 11 (.ref 652 :: .ref 633 :: []) M = some (.inr (220, [some (.ref 633), some (.ref 652), none], [])) from by show @cond (Option ((List Value × Mem) ⊕ (Nat × Lo × List Value))) (true && gRecv M (.ref 633) 11 && gRoom [] && true) (some (.inr (220, [some (.ref 633), some (.ref 652), none], []))) none = _; rw [recv_s hS.1 qa_633 qo_61]; rfl)) H
    have K2 : Ev none e1 220 0 [some (.ref 633), some (.ref 652), none] [] M vK2 MK2 0 0 := K2
    have HF := H
    exact Or.inl ⟨h1, ⟨e1, vK2, MK2, rfl, K2, HF⟩⟩
  · rw [if_neg h1] at H
    have H : Ev none e 230 15 [some (.ref 633), some (.int w), some (.int ws), some (.int t), some (.int k)] [.int t, .ref 633] M v M' 0 0 := Ev.back 2 (fun n => rfl) H
    obtain ⟨e1, rfl⟩ := Ev.dpos rfl rfl H
    obtain ⟨vK3, MK3, K3, H⟩ := Ev.callb (fun n_ => gs_7 rfl rfl (show gCal (.invokevirtual 452) 11 (.int t :: .ref 633 :: []) M = some (.inr (222, [some (.ref 633), some (.int t), none], [])) from by show @cond (Option ((List Value × Mem) ⊕ (Nat × Lo × List Value))) (true && gRecv M (.ref 633) 11 && gRoom [] && true) (some (.inr (222, [some (.ref 633), some (.int t), none], []))) none = _; rw [recv_s hS.1 qa_633 qo_61]; rfl)) H
    have K3 : Ev none e1 222 0 [some (.ref 633), some (.int t), none] [] M vK3 MK3 0 0 := K3
    have HF := H
    exact Or.inr (⟨h1, ⟨e1, vK3, MK3, rfl, K3, HF⟩⟩)
theorem rpv_18 {e : Nat} {M M' : Mem} {v : Option Value} {w ws t k : Int32} (hS : SQ M) (H : Ev none e 230 18 [some (.ref 633), some (.int w), some (.int ws), some (.int t), some (.int k)] [] M v M' 0 0) : (k = w ∧ (∃ e1 v1 M1, e = e1 + 1 ∧ Ev none e1 220 0 [some (.ref 633), some (.ref 653), none] [] M v1 M1 0 0 ∧ Ev none e 230 32 [some (.ref 633), some (.int w), some (.int ws), some (.int t), some (.int k)] (v1.toList ++ []) M1 v M' 0 0)) ∨ (¬ (k = w) ∧ Ev none e 230 7 [some (.ref 633), some (.int w), some (.int ws), some (.int t), some (.int (k + 1))] [] M v M' 0 0) := by
  have H : Ev none e 230 (if k = w then 24 else 32) [some (.ref 633), some (.int w), some (.int ws), some (.int t), some (.int k)] [] M v M' 0 0 := Ev.back 3 (fun n => rfl) H
  by_cases h1 : k = w
  · rw [if_pos h1] at H
    have H : Ev none e 230 26 [some (.ref 633), some (.int w), some (.int ws), some (.int t), some (.int k)] [.ref 633, .ref 633] M v M' 0 0 := Ev.back 2 (fun n => rfl) H
    have H : Ev none e 230 29 [some (.ref 633), some (.int w), some (.int ws), some (.int t), some (.int k)] [.ref 653, .ref 633] M v M' 0 0 := Ev.back 1 (gs_3 rfl rfl (gf_u hS.1 qa_633 qr_61_46 qu_81 rfl)) H
    obtain ⟨e1, rfl⟩ := Ev.dpos rfl rfl H
    obtain ⟨vK2, MK2, K2, H⟩ := Ev.callb (fun n_ => gs_7 rfl rfl (show gCal (.invokevirtual 448) 11 (.ref 653 :: .ref 633 :: []) M = some (.inr (220, [some (.ref 633), some (.ref 653), none], [])) from by show @cond (Option ((List Value × Mem) ⊕ (Nat × Lo × List Value))) (true && gRecv M (.ref 633) 11 && gRoom [] && true) (some (.inr (220, [some (.ref 633), some (.ref 653), none], []))) none = _; rw [recv_s hS.1 qa_633 qo_61]; rfl)) H
    have K2 : Ev none e1 220 0 [some (.ref 633), some (.ref 653), none] [] M vK2 MK2 0 0 := K2
    have HF := H
    exact Or.inl ⟨h1, ⟨e1, vK2, MK2, rfl, K2, HF⟩⟩
  · rw [if_neg h1] at H
    have H : Ev none e 230 7 [some (.ref 633), some (.int w), some (.int ws), some (.int t), some (.int (k + 1))] [] M v M' 0 0 := Ev.back 2 (fun n => rfl) H
    have HF := H
    exact Or.inr (⟨h1, HF⟩)
theorem rpv_32 {e : Nat} {M M' : Mem} {v : Option Value} {w ws t k : Int32} (hS : SQ M) (H : Ev none e 230 32 [some (.ref 633), some (.int w), some (.int ws), some (.int t), some (.int k)] [] M v M' 0 0) : Ev none e 230 7 [some (.ref 633), some (.int w), some (.int ws), some (.int t), some (.int (k + 1))] [] M v M' 0 0 := by
  have H : Ev none e 230 7 [some (.ref 633), some (.int w), some (.int ws), some (.int t), some (.int (k + 1))] [] M v M' 0 0 := Ev.back 2 (fun n => rfl) H
  have HF := H
  exact HF
theorem rpv_46 {e : Nat} {M M' : Mem} {v : Option Value} {w ws t k : Int32} (hS : SQ M) (H : Ev none e 230 46 [some (.ref 633), some (.int w), some (.int ws), some (.int t), some (.int k)] [] M v M' 0 0) : Ev none e 230 64 [some (.ref 633), some (.int w), some (.int ws), some (.int t), some (.int 0)] [] (wF (wF (wF M 633 49 0) 633 50 0) 633 51 0) v M' 0 0 := by
  have H : Ev none e 230 48 [some (.ref 633), some (.int w), some (.int ws), some (.int t), some (.int k)] [.int 0, .ref 633] M v M' 0 0 := Ev.back 2 (fun n => rfl) H
  obtain ⟨N2, eN2⟩ : ∃ N, N = (wF M 633 49 0) := ⟨_, rfl⟩
  have hN2 : SQ N2 := by rw [eN2]; exact hS.kf
  have H : Ev none e 230 51 [some (.ref 633), some (.int w), some (.int ws), some (.int t), some (.int k)] [] N2 v M' 0 0 := by rw [eN2]; exact Ev.pfi rfl rfl rfl hS.1 qa_633 qi_61_49 H
  have H : Ev none e 230 53 [some (.ref 633), some (.int w), some (.int ws), some (.int t), some (.int k)] [.int 0, .ref 633] N2 v M' 0 0 := Ev.back 2 (fun n => rfl) H
  obtain ⟨N4, eN4⟩ : ∃ N, N = (wF N2 633 50 0) := ⟨_, rfl⟩
  have hN4 : SQ N4 := by rw [eN4]; exact hN2.kf
  have H : Ev none e 230 56 [some (.ref 633), some (.int w), some (.int ws), some (.int t), some (.int k)] [] N4 v M' 0 0 := by rw [eN4]; exact Ev.pfi rfl rfl rfl hN2.1 qa_633 qi_61_50 H
  have H : Ev none e 230 58 [some (.ref 633), some (.int w), some (.int ws), some (.int t), some (.int k)] [.int 0, .ref 633] N4 v M' 0 0 := Ev.back 2 (fun n => rfl) H
  obtain ⟨N6, eN6⟩ : ∃ N, N = (wF N4 633 51 0) := ⟨_, rfl⟩
  have hN6 : SQ N6 := by rw [eN6]; exact hN4.kf
  have H : Ev none e 230 61 [some (.ref 633), some (.int w), some (.int ws), some (.int t), some (.int k)] [] N6 v M' 0 0 := by rw [eN6]; exact Ev.pfi rfl rfl rfl hN4.1 qa_633 qi_61_51 H
  have H : Ev none e 230 64 [some (.ref 633), some (.int w), some (.int ws), some (.int t), some (.int 0)] [] N6 v M' 0 0 := Ev.back 2 (fun n => rfl) H
  have HF := H
  subst eN2 eN4 eN6
  exact HF
theorem rpv_64 {e : Nat} {M M' : Mem} {v : Option Value} {w ws t k : Int32} (hS : SQ M) (H : Ev none e 230 64 [some (.ref 633), some (.int w), some (.int ws), some (.int t), some (.int k)] [] M v M' 0 0) : ((G_144 M) ≤ k ∧ (∃ e1 v1 M1, e = e1 + 1 ∧ Ev none e1 154 0 [some (.ref 633), none] [] M v1 M1 0 0 ∧ Ev none e 230 175 [some (.ref 633), some (.int w), some (.int ws), some (.int t), some (.int k)] (v1.toList ++ []) M1 v M' 0 0)) ∨ (¬ ((G_144 M) ≤ k) ∧ (rI M 653 k) = 0 ∧ (rI M 652 k) = 0 ∧ (0 ≤ k.toInt ∧ k.toInt < 256) ∧ (0 ≤ k.toInt ∧ k.toInt < 256) ∧ (0 ≤ k.toInt ∧ k.toInt < 256) ∧ Ev none e 230 64 [some (.ref 633), some (.int w), some (.int ws), some (.int t), some (.int (k + 1))] [] (wF (wF (wF M 633 49 ((zI M 633 49) + 0)) 633 50 ((zI M 633 50) + 0)) 633 51 ((zI M 633 51) + 0)) v M' 0 0) ∨ (¬ ((G_144 M) ≤ k) ∧ (rI M 653 k) = 0 ∧ ¬ ((rI M 652 k) = 0) ∧ (0 ≤ k.toInt ∧ k.toInt < 256) ∧ (0 ≤ k.toInt ∧ k.toInt < 256) ∧ (0 ≤ k.toInt ∧ k.toInt < 256) ∧ (0 ≤ k.toInt ∧ k.toInt < 256) ∧ Ev none e 230 64 [some (.ref 633), some (.int w), some (.int ws), some (.int t), some (.int (k + 1))] [] (wF (wF (wF M 633 49 ((zI M 633 49) + 0)) 633 50 ((zI M 633 50) + 0)) 633 51 ((zI M 633 51) + 1)) v M' 0 0) ∨ (¬ ((G_144 M) ≤ k) ∧ ¬ ((rI M 653 k) = 0) ∧ (rI M 652 k) = 0 ∧ (0 ≤ k.toInt ∧ k.toInt < 256) ∧ (0 ≤ k.toInt ∧ k.toInt < 256) ∧ (0 ≤ k.toInt ∧ k.toInt < 256) ∧ (0 ≤ k.toInt ∧ k.toInt < 256) ∧ Ev none e 230 64 [some (.ref 633), some (.int w), some (.int ws), some (.int t), some (.int (k + 1))] [] (wF (wF (wF M 633 49 ((zI M 633 49) + 1)) 633 50 ((zI M 633 50) + 1)) 633 51 ((zI M 633 51) + 0)) v M' 0 0) ∨ (¬ ((G_144 M) ≤ k) ∧ ¬ ((rI M 653 k) = 0) ∧ ¬ ((rI M 652 k) = 0) ∧ (0 ≤ k.toInt ∧ k.toInt < 256) ∧ (0 ≤ k.toInt ∧ k.toInt < 256) ∧ (0 ≤ k.toInt ∧ k.toInt < 256) ∧ (0 ≤ k.toInt ∧ k.toInt < 256) ∧ (0 ≤ k.toInt ∧ k.toInt < 256) ∧ Ev none e 230 64 [some (.ref 633), some (.int w), some (.int ws), some (.int t), some (.int (k + 1))] [] (wF (wF (wF M 633 49 ((zI M 633 49) + 1)) 633 50 ((zI M 633 50) + 0)) 633 51 ((zI M 633 51) + 0)) v M' 0 0) := by
  have H : Ev none e 230 67 [some (.ref 633), some (.int w), some (.int ws), some (.int t), some (.int k)] [.ref 633, .int k] M v M' 0 0 := Ev.back 2 (fun n => rfl) H
  obtain ⟨e1, rfl⟩ := Ev.dpos rfl rfl H
  obtain ⟨vK1, MK1, K1, H⟩ := Ev.callb (fun n_ => gs_7 rfl rfl (show gCal (.invokevirtual 128) 11 (.ref 633 :: [.int k]) M = some (.inr (144, [some (.ref 633)], [.int k])) from by show @cond (Option ((List Value × Mem) ⊕ (Nat × Lo × List Value))) (true && gRecv M (.ref 633) 11 && gRoom [.int k] && true) (some (.inr (144, [some (.ref 633)], [.int k]))) none = _; rw [recv_s hS.1 qa_633 qo_61]; rfl)) H
  obtain ⟨pK1, qK1⟩ := g_144 hS K1
  rw [pK1, qK1] at H
  have H : Ev none (e1 + 1) 230 70 [some (.ref 633), some (.int w), some (.int ws), some (.int t), some (.int k)] [.int (G_144 M), .int k] M v M' 0 0 := H
  have H : Ev none (e1 + 1) 230 (if (G_144 M) ≤ k then 171 else 73) [some (.ref 633), some (.int w), some (.int ws), some (.int t), some (.int k)] [] M v M' 0 0 := Ev.back 1 (fun n => rfl) H
  by_cases h2 : (G_144 M) ≤ k
  · rw [if_pos h2] at H
    have H : Ev none (e1 + 1) 230 172 [some (.ref 633), some (.int w), some (.int ws), some (.int t), some (.int k)] [.ref 633] M v M' 0 0 := Ev.back 1 (fun n => rfl) H
    obtain ⟨vK3, MK3, K3, H⟩ := Ev.callb (fun n_ => gs_7 rfl rfl (show gCal (.invokevirtual 459) 11 (.ref 633 :: []) M = some (.inr (154, [some (.ref 633), none], [])) from by show @cond (Option ((List Value × Mem) ⊕ (Nat × Lo × List Value))) (true && gRecv M (.ref 633) 11 && gRoom [] && true) (some (.inr (154, [some (.ref 633), none], []))) none = _; rw [recv_s hS.1 qa_633 qo_61]; rfl)) H
    have K3 : Ev none e1 154 0 [some (.ref 633), none] [] M vK3 MK3 0 0 := K3
    have HF := H
    exact Or.inl ⟨h2, ⟨e1, vK3, MK3, rfl, K3, HF⟩⟩
  · rw [if_neg h2] at H
    have H : Ev none (e1 + 1) 230 75 [some (.ref 633), some (.int w), some (.int ws), some (.int t), some (.int k)] [.ref 633, .ref 633] M v M' 0 0 := Ev.back 2 (fun n => rfl) H
    have H : Ev none (e1 + 1) 230 78 [some (.ref 633), some (.int w), some (.int ws), some (.int t), some (.int k)] [.int (zI M 633 49), .ref 633] M v M' 0 0 := Ev.back 1 (gs_3 rfl rfl (gf_i hS.1 qa_633 qi_61_49 rfl)) H
    have H : Ev none (e1 + 1) 230 79 [some (.ref 633), some (.int w), some (.int ws), some (.int t), some (.int k)] [.ref 633, .int (zI M 633 49), .ref 633] M v M' 0 0 := Ev.back 1 (fun n => rfl) H
    have H : Ev none (e1 + 1) 230 82 [some (.ref 633), some (.int w), some (.int ws), some (.int t), some (.int k)] [.ref 653, .int (zI M 633 49), .ref 633] M v M' 0 0 := Ev.back 1 (gs_3 rfl rfl (gf_u hS.1 qa_633 qr_61_46 qu_81 rfl)) H
    have H : Ev none (e1 + 1) 230 84 [some (.ref 633), some (.int w), some (.int ws), some (.int t), some (.int k)] [.int k, .ref 653, .int (zI M 633 49), .ref 633] M v M' 0 0 := Ev.back 1 (fun n => rfl) H
    obtain ⟨b4, H⟩ := Ev.bal rfl rfl hS.1 qa_653 qw_81 (Or.inr rfl) H
    have H : Ev none (e1 + 1) 230 85 [some (.ref 633), some (.int w), some (.int ws), some (.int t), some (.int k)] [.int (rI M 653 k), .int (zI M 633 49), .ref 633] M v M' 0 0 := H
    have H : Ev none (e1 + 1) 230 (if (rI M 653 k) = 0 then 92 else 88) [some (.ref 633), some (.int w), some (.int ws), some (.int t), some (.int k)] [.int (zI M 633 49), .ref 633] M v M' 0 0 := Ev.back 1 (fun n => rfl) H
    by_cases h5 : (rI M 653 k) = 0
    · rw [if_pos h5] at H
      have H : Ev none (e1 + 1) 230 94 [some (.ref 633), some (.int w), some (.int ws), some (.int t), some (.int k)] [.int ((zI M 633 49) + 0), .ref 633] M v M' 0 0 := Ev.back 2 (fun n => rfl) H
      obtain ⟨N7, eN7⟩ : ∃ N, N = (wF M 633 49 ((zI M 633 49) + 0)) := ⟨_, rfl⟩
      have hN7 : SQ N7 := by rw [eN7]; exact hS.kf
      have H : Ev none (e1 + 1) 230 97 [some (.ref 633), some (.int w), some (.int ws), some (.int t), some (.int k)] [] N7 v M' 0 0 := by rw [eN7]; exact Ev.pfi rfl rfl rfl hS.1 qa_633 qi_61_49 H
      have H : Ev none (e1 + 1) 230 99 [some (.ref 633), some (.int w), some (.int ws), some (.int t), some (.int k)] [.ref 633, .ref 633] N7 v M' 0 0 := Ev.back 2 (fun n => rfl) H
      have H : Ev none (e1 + 1) 230 102 [some (.ref 633), some (.int w), some (.int ws), some (.int t), some (.int k)] [.int (zI N7 633 50), .ref 633] N7 v M' 0 0 := Ev.back 1 (gs_3 rfl rfl (gf_i hN7.1 qa_633 qi_61_50 rfl)) H
      rw [show zI N7 633 50 = zI M 633 50 from by rw [eN7]; exact fI_wF_ne (fun q => absurd q.2 (by decide))] at H
      have H : Ev none (e1 + 1) 230 103 [some (.ref 633), some (.int w), some (.int ws), some (.int t), some (.int k)] [.ref 633, .int (zI M 633 50), .ref 633] N7 v M' 0 0 := Ev.back 1 (fun n => rfl) H
      have H : Ev none (e1 + 1) 230 106 [some (.ref 633), some (.int w), some (.int ws), some (.int t), some (.int k)] [.ref 653, .int (zI M 633 50), .ref 633] N7 v M' 0 0 := Ev.back 1 (gs_3 rfl rfl (gf_u hN7.1 qa_633 qr_61_46 qu_81 rfl)) H
      have H : Ev none (e1 + 1) 230 108 [some (.ref 633), some (.int w), some (.int ws), some (.int t), some (.int k)] [.int k, .ref 653, .int (zI M 633 50), .ref 633] N7 v M' 0 0 := Ev.back 1 (fun n => rfl) H
      obtain ⟨b8, H⟩ := Ev.bal rfl rfl hN7.1 qa_653 qw_81 (Or.inr rfl) H
      have H : Ev none (e1 + 1) 230 109 [some (.ref 633), some (.int w), some (.int ws), some (.int t), some (.int k)] [.int (rI N7 653 k), .int (zI M 633 50), .ref 633] N7 v M' 0 0 := H
      rw [show rI N7 653 k = rI M 653 k from by rw [eN7]; exact rN_wF] at H
      have H : Ev none (e1 + 1) 230 (if (rI M 653 k) = 0 then 126 else 112) [some (.ref 633), some (.int w), some (.int ws), some (.int t), some (.int k)] [.int (zI M 633 50), .ref 633] N7 v M' 0 0 := Ev.back 1 (fun n => rfl) H
      rw [if_pos h5] at H
      have H : Ev none (e1 + 1) 230 128 [some (.ref 633), some (.int w), some (.int ws), some (.int t), some (.int k)] [.int ((zI M 633 50) + 0), .ref 633] N7 v M' 0 0 := Ev.back 2 (fun n => rfl) H
      obtain ⟨N10, eN10⟩ : ∃ N, N = (wF N7 633 50 ((zI M 633 50) + 0)) := ⟨_, rfl⟩
      have hN10 : SQ N10 := by rw [eN10]; exact hN7.kf
      have H : Ev none (e1 + 1) 230 131 [some (.ref 633), some (.int w), some (.int ws), some (.int t), some (.int k)] [] N10 v M' 0 0 := by rw [eN10]; exact Ev.pfi rfl rfl rfl hN7.1 qa_633 qi_61_50 H
      have H : Ev none (e1 + 1) 230 133 [some (.ref 633), some (.int w), some (.int ws), some (.int t), some (.int k)] [.ref 633, .ref 633] N10 v M' 0 0 := Ev.back 2 (fun n => rfl) H
      have H : Ev none (e1 + 1) 230 136 [some (.ref 633), some (.int w), some (.int ws), some (.int t), some (.int k)] [.int (zI N10 633 51), .ref 633] N10 v M' 0 0 := Ev.back 1 (gs_3 rfl rfl (gf_i hN10.1 qa_633 qi_61_51 rfl)) H
      rw [(show zI N10 633 51 = zI N7 633 51 from by rw [eN10]; exact fI_wF_ne (fun q => absurd q.2 (by decide))).trans (show zI N7 633 51 = zI M 633 51 from by rw [eN7]; exact fI_wF_ne (fun q => absurd q.2 (by decide)))] at H
      have H : Ev none (e1 + 1) 230 137 [some (.ref 633), some (.int w), some (.int ws), some (.int t), some (.int k)] [.ref 633, .int (zI M 633 51), .ref 633] N10 v M' 0 0 := Ev.back 1 (fun n => rfl) H
      have H : Ev none (e1 + 1) 230 140 [some (.ref 633), some (.int w), some (.int ws), some (.int t), some (.int k)] [.ref 652, .int (zI M 633 51), .ref 633] N10 v M' 0 0 := Ev.back 1 (gs_3 rfl rfl (gf_u hN10.1 qa_633 qr_61_45 qu_80 rfl)) H
      have H : Ev none (e1 + 1) 230 142 [some (.ref 633), some (.int w), some (.int ws), some (.int t), some (.int k)] [.int k, .ref 652, .int (zI M 633 51), .ref 633] N10 v M' 0 0 := Ev.back 1 (fun n => rfl) H
      obtain ⟨b11, H⟩ := Ev.bal rfl rfl hN10.1 qa_652 qw_80 (Or.inr rfl) H
      have H : Ev none (e1 + 1) 230 143 [some (.ref 633), some (.int w), some (.int ws), some (.int t), some (.int k)] [.int (rI N10 652 k), .int (zI M 633 51), .ref 633] N10 v M' 0 0 := H
      rw [(show rI N10 652 k = rI N7 652 k from by rw [eN10]; exact rN_wF).trans (show rI N7 652 k = rI M 652 k from by rw [eN7]; exact rN_wF)] at H
      have H : Ev none (e1 + 1) 230 (if (rI M 652 k) = 0 then 160 else 146) [some (.ref 633), some (.int w), some (.int ws), some (.int t), some (.int k)] [.int (zI M 633 51), .ref 633] N10 v M' 0 0 := Ev.back 1 (fun n => rfl) H
      by_cases h12 : (rI M 652 k) = 0
      · rw [if_pos h12] at H
        have H : Ev none (e1 + 1) 230 162 [some (.ref 633), some (.int w), some (.int ws), some (.int t), some (.int k)] [.int ((zI M 633 51) + 0), .ref 633] N10 v M' 0 0 := Ev.back 2 (fun n => rfl) H
        obtain ⟨N14, eN14⟩ : ∃ N, N = (wF N10 633 51 ((zI M 633 51) + 0)) := ⟨_, rfl⟩
        have hN14 : SQ N14 := by rw [eN14]; exact hN10.kf
        have H : Ev none (e1 + 1) 230 165 [some (.ref 633), some (.int w), some (.int ws), some (.int t), some (.int k)] [] N14 v M' 0 0 := by rw [eN14]; exact Ev.pfi rfl rfl rfl hN10.1 qa_633 qi_61_51 H
        have H : Ev none (e1 + 1) 230 64 [some (.ref 633), some (.int w), some (.int ws), some (.int t), some (.int (k + 1))] [] N14 v M' 0 0 := Ev.back 2 (fun n => rfl) H
        have HF := H
        subst eN7 eN10 eN14
        exact Or.inr (Or.inl ⟨h2, h5, h12, b4, b8, b11, HF⟩)
      · rw [if_neg h12] at H
        have H : Ev none (e1 + 1) 230 147 [some (.ref 633), some (.int w), some (.int ws), some (.int t), some (.int k)] [.ref 633, .int (zI M 633 51), .ref 633] N10 v M' 0 0 := Ev.back 1 (fun n => rfl) H
        have H : Ev none (e1 + 1) 230 150 [some (.ref 633), some (.int w), some (.int ws), some (.int t), some (.int k)] [.ref 653, .int (zI M 633 51), .ref 633] N10 v M' 0 0 := Ev.back 1 (gs_3 rfl rfl (gf_u hN10.1 qa_633 qr_61_46 qu_81 rfl)) H
        have H : Ev none (e1 + 1) 230 152 [some (.ref 633), some (.int w), some (.int ws), some (.int t), some (.int k)] [.int k, .ref 653, .int (zI M 633 51), .ref 633] N10 v M' 0 0 := Ev.back 1 (fun n => rfl) H
        obtain ⟨b15, H⟩ := Ev.bal rfl rfl hN10.1 qa_653 qw_81 (Or.inr rfl) H
        have H : Ev none (e1 + 1) 230 153 [some (.ref 633), some (.int w), some (.int ws), some (.int t), some (.int k)] [.int (rI N10 653 k), .int (zI M 633 51), .ref 633] N10 v M' 0 0 := H
        rw [(show rI N10 653 k = rI N7 653 k from by rw [eN10]; exact rN_wF).trans (show rI N7 653 k = rI M 653 k from by rw [eN7]; exact rN_wF)] at H
        have H : Ev none (e1 + 1) 230 (if (rI M 653 k) = 0 then 156 else 160) [some (.ref 633), some (.int w), some (.int ws), some (.int t), some (.int k)] [.int (zI M 633 51), .ref 633] N10 v M' 0 0 := Ev.back 1 (fun n => rfl) H
        rw [if_pos h5] at H
        have H : Ev none (e1 + 1) 230 162 [some (.ref 633), some (.int w), some (.int ws), some (.int t), some (.int k)] [.int ((zI M 633 51) + 1), .ref 633] N10 v M' 0 0 := Ev.back 3 (fun n => rfl) H
        obtain ⟨N17, eN17⟩ : ∃ N, N = (wF N10 633 51 ((zI M 633 51) + 1)) := ⟨_, rfl⟩
        have hN17 : SQ N17 := by rw [eN17]; exact hN10.kf
        have H : Ev none (e1 + 1) 230 165 [some (.ref 633), some (.int w), some (.int ws), some (.int t), some (.int k)] [] N17 v M' 0 0 := by rw [eN17]; exact Ev.pfi rfl rfl rfl hN10.1 qa_633 qi_61_51 H
        have H : Ev none (e1 + 1) 230 64 [some (.ref 633), some (.int w), some (.int ws), some (.int t), some (.int (k + 1))] [] N17 v M' 0 0 := Ev.back 2 (fun n => rfl) H
        have HF := H
        subst eN7 eN10 eN17
        exact Or.inr (Or.inr (Or.inl ⟨h2, h5, h12, b4, b8, b11, b15, HF⟩))
    · rw [if_neg h5] at H
      have H : Ev none (e1 + 1) 230 94 [some (.ref 633), some (.int w), some (.int ws), some (.int t), some (.int k)] [.int ((zI M 633 49) + 1), .ref 633] M v M' 0 0 := Ev.back 3 (fun n => rfl) H
      obtain ⟨N19, eN19⟩ : ∃ N, N = (wF M 633 49 ((zI M 633 49) + 1)) := ⟨_, rfl⟩
      have hN19 : SQ N19 := by rw [eN19]; exact hS.kf
      have H : Ev none (e1 + 1) 230 97 [some (.ref 633), some (.int w), some (.int ws), some (.int t), some (.int k)] [] N19 v M' 0 0 := by rw [eN19]; exact Ev.pfi rfl rfl rfl hS.1 qa_633 qi_61_49 H
      have H : Ev none (e1 + 1) 230 99 [some (.ref 633), some (.int w), some (.int ws), some (.int t), some (.int k)] [.ref 633, .ref 633] N19 v M' 0 0 := Ev.back 2 (fun n => rfl) H
      have H : Ev none (e1 + 1) 230 102 [some (.ref 633), some (.int w), some (.int ws), some (.int t), some (.int k)] [.int (zI N19 633 50), .ref 633] N19 v M' 0 0 := Ev.back 1 (gs_3 rfl rfl (gf_i hN19.1 qa_633 qi_61_50 rfl)) H
      rw [show zI N19 633 50 = zI M 633 50 from by rw [eN19]; exact fI_wF_ne (fun q => absurd q.2 (by decide))] at H
      have H : Ev none (e1 + 1) 230 103 [some (.ref 633), some (.int w), some (.int ws), some (.int t), some (.int k)] [.ref 633, .int (zI M 633 50), .ref 633] N19 v M' 0 0 := Ev.back 1 (fun n => rfl) H
      have H : Ev none (e1 + 1) 230 106 [some (.ref 633), some (.int w), some (.int ws), some (.int t), some (.int k)] [.ref 653, .int (zI M 633 50), .ref 633] N19 v M' 0 0 := Ev.back 1 (gs_3 rfl rfl (gf_u hN19.1 qa_633 qr_61_46 qu_81 rfl)) H
      have H : Ev none (e1 + 1) 230 108 [some (.ref 633), some (.int w), some (.int ws), some (.int t), some (.int k)] [.int k, .ref 653, .int (zI M 633 50), .ref 633] N19 v M' 0 0 := Ev.back 1 (fun n => rfl) H
      obtain ⟨b20, H⟩ := Ev.bal rfl rfl hN19.1 qa_653 qw_81 (Or.inr rfl) H
      have H : Ev none (e1 + 1) 230 109 [some (.ref 633), some (.int w), some (.int ws), some (.int t), some (.int k)] [.int (rI N19 653 k), .int (zI M 633 50), .ref 633] N19 v M' 0 0 := H
      rw [show rI N19 653 k = rI M 653 k from by rw [eN19]; exact rN_wF] at H
      have H : Ev none (e1 + 1) 230 (if (rI M 653 k) = 0 then 126 else 112) [some (.ref 633), some (.int w), some (.int ws), some (.int t), some (.int k)] [.int (zI M 633 50), .ref 633] N19 v M' 0 0 := Ev.back 1 (fun n => rfl) H
      rw [if_neg h5] at H
      have H : Ev none (e1 + 1) 230 113 [some (.ref 633), some (.int w), some (.int ws), some (.int t), some (.int k)] [.ref 633, .int (zI M 633 50), .ref 633] N19 v M' 0 0 := Ev.back 1 (fun n => rfl) H
      have H : Ev none (e1 + 1) 230 116 [some (.ref 633), some (.int w), some (.int ws), some (.int t), some (.int k)] [.ref 652, .int (zI M 633 50), .ref 633] N19 v M' 0 0 := Ev.back 1 (gs_3 rfl rfl (gf_u hN19.1 qa_633 qr_61_45 qu_80 rfl)) H
      have H : Ev none (e1 + 1) 230 118 [some (.ref 633), some (.int w), some (.int ws), some (.int t), some (.int k)] [.int k, .ref 652, .int (zI M 633 50), .ref 633] N19 v M' 0 0 := Ev.back 1 (fun n => rfl) H
      obtain ⟨b21, H⟩ := Ev.bal rfl rfl hN19.1 qa_652 qw_80 (Or.inr rfl) H
      have H : Ev none (e1 + 1) 230 119 [some (.ref 633), some (.int w), some (.int ws), some (.int t), some (.int k)] [.int (rI N19 652 k), .int (zI M 633 50), .ref 633] N19 v M' 0 0 := H
      rw [show rI N19 652 k = rI M 652 k from by rw [eN19]; exact rN_wF] at H
      have H : Ev none (e1 + 1) 230 (if (rI M 652 k) = 0 then 122 else 126) [some (.ref 633), some (.int w), some (.int ws), some (.int t), some (.int k)] [.int (zI M 633 50), .ref 633] N19 v M' 0 0 := Ev.back 1 (fun n => rfl) H
      by_cases h22 : (rI M 652 k) = 0
      · rw [if_pos h22] at H
        have H : Ev none (e1 + 1) 230 128 [some (.ref 633), some (.int w), some (.int ws), some (.int t), some (.int k)] [.int ((zI M 633 50) + 1), .ref 633] N19 v M' 0 0 := Ev.back 3 (fun n => rfl) H
        obtain ⟨N24, eN24⟩ : ∃ N, N = (wF N19 633 50 ((zI M 633 50) + 1)) := ⟨_, rfl⟩
        have hN24 : SQ N24 := by rw [eN24]; exact hN19.kf
        have H : Ev none (e1 + 1) 230 131 [some (.ref 633), some (.int w), some (.int ws), some (.int t), some (.int k)] [] N24 v M' 0 0 := by rw [eN24]; exact Ev.pfi rfl rfl rfl hN19.1 qa_633 qi_61_50 H
        have H : Ev none (e1 + 1) 230 133 [some (.ref 633), some (.int w), some (.int ws), some (.int t), some (.int k)] [.ref 633, .ref 633] N24 v M' 0 0 := Ev.back 2 (fun n => rfl) H
        have H : Ev none (e1 + 1) 230 136 [some (.ref 633), some (.int w), some (.int ws), some (.int t), some (.int k)] [.int (zI N24 633 51), .ref 633] N24 v M' 0 0 := Ev.back 1 (gs_3 rfl rfl (gf_i hN24.1 qa_633 qi_61_51 rfl)) H
        rw [(show zI N24 633 51 = zI N19 633 51 from by rw [eN24]; exact fI_wF_ne (fun q => absurd q.2 (by decide))).trans (show zI N19 633 51 = zI M 633 51 from by rw [eN19]; exact fI_wF_ne (fun q => absurd q.2 (by decide)))] at H
        have H : Ev none (e1 + 1) 230 137 [some (.ref 633), some (.int w), some (.int ws), some (.int t), some (.int k)] [.ref 633, .int (zI M 633 51), .ref 633] N24 v M' 0 0 := Ev.back 1 (fun n => rfl) H
        have H : Ev none (e1 + 1) 230 140 [some (.ref 633), some (.int w), some (.int ws), some (.int t), some (.int k)] [.ref 652, .int (zI M 633 51), .ref 633] N24 v M' 0 0 := Ev.back 1 (gs_3 rfl rfl (gf_u hN24.1 qa_633 qr_61_45 qu_80 rfl)) H
        have H : Ev none (e1 + 1) 230 142 [some (.ref 633), some (.int w), some (.int ws), some (.int t), some (.int k)] [.int k, .ref 652, .int (zI M 633 51), .ref 633] N24 v M' 0 0 := Ev.back 1 (fun n => rfl) H
        obtain ⟨b25, H⟩ := Ev.bal rfl rfl hN24.1 qa_652 qw_80 (Or.inr rfl) H
        have H : Ev none (e1 + 1) 230 143 [some (.ref 633), some (.int w), some (.int ws), some (.int t), some (.int k)] [.int (rI N24 652 k), .int (zI M 633 51), .ref 633] N24 v M' 0 0 := H
        rw [(show rI N24 652 k = rI N19 652 k from by rw [eN24]; exact rN_wF).trans (show rI N19 652 k = rI M 652 k from by rw [eN19]; exact rN_wF)] at H
        have H : Ev none (e1 + 1) 230 (if (rI M 652 k) = 0 then 160 else 146) [some (.ref 633), some (.int w), some (.int ws), some (.int t), some (.int k)] [.int (zI M 633 51), .ref 633] N24 v M' 0 0 := Ev.back 1 (fun n => rfl) H
        rw [if_pos h22] at H
        have H : Ev none (e1 + 1) 230 162 [some (.ref 633), some (.int w), some (.int ws), some (.int t), some (.int k)] [.int ((zI M 633 51) + 0), .ref 633] N24 v M' 0 0 := Ev.back 2 (fun n => rfl) H
        obtain ⟨N27, eN27⟩ : ∃ N, N = (wF N24 633 51 ((zI M 633 51) + 0)) := ⟨_, rfl⟩
        have hN27 : SQ N27 := by rw [eN27]; exact hN24.kf
        have H : Ev none (e1 + 1) 230 165 [some (.ref 633), some (.int w), some (.int ws), some (.int t), some (.int k)] [] N27 v M' 0 0 := by rw [eN27]; exact Ev.pfi rfl rfl rfl hN24.1 qa_633 qi_61_51 H
        have H : Ev none (e1 + 1) 230 64 [some (.ref 633), some (.int w), some (.int ws), some (.int t), some (.int (k + 1))] [] N27 v M' 0 0 := Ev.back 2 (fun n => rfl) H
        have HF := H
        subst eN19 eN24 eN27
        exact Or.inr (Or.inr (Or.inr (Or.inl ⟨h2, h5, h22, b4, b20, b21, b25, HF⟩)))
      · rw [if_neg h22] at H
        have H : Ev none (e1 + 1) 230 128 [some (.ref 633), some (.int w), some (.int ws), some (.int t), some (.int k)] [.int ((zI M 633 50) + 0), .ref 633] N19 v M' 0 0 := Ev.back 2 (fun n => rfl) H
        obtain ⟨N29, eN29⟩ : ∃ N, N = (wF N19 633 50 ((zI M 633 50) + 0)) := ⟨_, rfl⟩
        have hN29 : SQ N29 := by rw [eN29]; exact hN19.kf
        have H : Ev none (e1 + 1) 230 131 [some (.ref 633), some (.int w), some (.int ws), some (.int t), some (.int k)] [] N29 v M' 0 0 := by rw [eN29]; exact Ev.pfi rfl rfl rfl hN19.1 qa_633 qi_61_50 H
        have H : Ev none (e1 + 1) 230 133 [some (.ref 633), some (.int w), some (.int ws), some (.int t), some (.int k)] [.ref 633, .ref 633] N29 v M' 0 0 := Ev.back 2 (fun n => rfl) H
        have H : Ev none (e1 + 1) 230 136 [some (.ref 633), some (.int w), some (.int ws), some (.int t), some (.int k)] [.int (zI N29 633 51), .ref 633] N29 v M' 0 0 := Ev.back 1 (gs_3 rfl rfl (gf_i hN29.1 qa_633 qi_61_51 rfl)) H
        rw [(show zI N29 633 51 = zI N19 633 51 from by rw [eN29]; exact fI_wF_ne (fun q => absurd q.2 (by decide))).trans (show zI N19 633 51 = zI M 633 51 from by rw [eN19]; exact fI_wF_ne (fun q => absurd q.2 (by decide)))] at H
        have H : Ev none (e1 + 1) 230 137 [some (.ref 633), some (.int w), some (.int ws), some (.int t), some (.int k)] [.ref 633, .int (zI M 633 51), .ref 633] N29 v M' 0 0 := Ev.back 1 (fun n => rfl) H
        have H : Ev none (e1 + 1) 230 140 [some (.ref 633), some (.int w), some (.int ws), some (.int t), some (.int k)] [.ref 652, .int (zI M 633 51), .ref 633] N29 v M' 0 0 := Ev.back 1 (gs_3 rfl rfl (gf_u hN29.1 qa_633 qr_61_45 qu_80 rfl)) H
        have H : Ev none (e1 + 1) 230 142 [some (.ref 633), some (.int w), some (.int ws), some (.int t), some (.int k)] [.int k, .ref 652, .int (zI M 633 51), .ref 633] N29 v M' 0 0 := Ev.back 1 (fun n => rfl) H
        obtain ⟨b30, H⟩ := Ev.bal rfl rfl hN29.1 qa_652 qw_80 (Or.inr rfl) H
        have H : Ev none (e1 + 1) 230 143 [some (.ref 633), some (.int w), some (.int ws), some (.int t), some (.int k)] [.int (rI N29 652 k), .int (zI M 633 51), .ref 633] N29 v M' 0 0 := H
        rw [(show rI N29 652 k = rI N19 652 k from by rw [eN29]; exact rN_wF).trans (show rI N19 652 k = rI M 652 k from by rw [eN19]; exact rN_wF)] at H
        have H : Ev none (e1 + 1) 230 (if (rI M 652 k) = 0 then 160 else 146) [some (.ref 633), some (.int w), some (.int ws), some (.int t), some (.int k)] [.int (zI M 633 51), .ref 633] N29 v M' 0 0 := Ev.back 1 (fun n => rfl) H
        rw [if_neg h22] at H
        have H : Ev none (e1 + 1) 230 147 [some (.ref 633), some (.int w), some (.int ws), some (.int t), some (.int k)] [.ref 633, .int (zI M 633 51), .ref 633] N29 v M' 0 0 := Ev.back 1 (fun n => rfl) H
        have H : Ev none (e1 + 1) 230 150 [some (.ref 633), some (.int w), some (.int ws), some (.int t), some (.int k)] [.ref 653, .int (zI M 633 51), .ref 633] N29 v M' 0 0 := Ev.back 1 (gs_3 rfl rfl (gf_u hN29.1 qa_633 qr_61_46 qu_81 rfl)) H
        have H : Ev none (e1 + 1) 230 152 [some (.ref 633), some (.int w), some (.int ws), some (.int t), some (.int k)] [.int k, .ref 653, .int (zI M 633 51), .ref 633] N29 v M' 0 0 := Ev.back 1 (fun n => rfl) H
        obtain ⟨b31, H⟩ := Ev.bal rfl rfl hN29.1 qa_653 qw_81 (Or.inr rfl) H
        have H : Ev none (e1 + 1) 230 153 [some (.ref 633), some (.int w), some (.int ws), some (.int t), some (.int k)] [.int (rI N29 653 k), .int (zI M 633 51), .ref 633] N29 v M' 0 0 := H
        rw [(show rI N29 653 k = rI N19 653 k from by rw [eN29]; exact rN_wF).trans (show rI N19 653 k = rI M 653 k from by rw [eN19]; exact rN_wF)] at H
        have H : Ev none (e1 + 1) 230 (if (rI M 653 k) = 0 then 156 else 160) [some (.ref 633), some (.int w), some (.int ws), some (.int t), some (.int k)] [.int (zI M 633 51), .ref 633] N29 v M' 0 0 := Ev.back 1 (fun n => rfl) H
        rw [if_neg h5] at H
        have H : Ev none (e1 + 1) 230 162 [some (.ref 633), some (.int w), some (.int ws), some (.int t), some (.int k)] [.int ((zI M 633 51) + 0), .ref 633] N29 v M' 0 0 := Ev.back 2 (fun n => rfl) H
        obtain ⟨N33, eN33⟩ : ∃ N, N = (wF N29 633 51 ((zI M 633 51) + 0)) := ⟨_, rfl⟩
        have hN33 : SQ N33 := by rw [eN33]; exact hN29.kf
        have H : Ev none (e1 + 1) 230 165 [some (.ref 633), some (.int w), some (.int ws), some (.int t), some (.int k)] [] N33 v M' 0 0 := by rw [eN33]; exact Ev.pfi rfl rfl rfl hN29.1 qa_633 qi_61_51 H
        have H : Ev none (e1 + 1) 230 64 [some (.ref 633), some (.int w), some (.int ws), some (.int t), some (.int (k + 1))] [] N33 v M' 0 0 := Ev.back 2 (fun n => rfl) H
        have HF := H
        subst eN19 eN29 eN33
        exact Or.inr (Or.inr (Or.inr (Or.inr (⟨h2, h5, h22, b4, b20, b21, b30, b31, HF⟩))))
theorem rpv_175 {e : Nat} {M M' : Mem} {v : Option Value} {w ws t k : Int32} (hS : SQ M) (H : Ev none e 230 175 [some (.ref 633), some (.int w), some (.int ws), some (.int t), some (.int k)] [] M v M' 0 0) : v = none ∧ M' = M := by
  obtain ⟨z1, z2⟩ := Ev.retb (fun n => rfl) H
  exact ⟨z1, z2⟩
theorem rpd_0 {e : Nat} {M M' : Mem} {v : Option Value} {w ws t wh : Int32} (hS : SQ M) (H : Ev none e 231 0 [some (.ref 633), some (.int w), some (.int ws), some (.int t), some (.int wh)] [] M v M' 0 0) : ((G_140 (wF M 633 0 0) ws 1 20) = 0 ∧ v = some (.int (-1)) ∧ M' = (wF M 633 0 0)) ∨ (¬ ((G_140 (wF M 633 0 0) ws 1 20) = 0) ∧ (G_140 (wF M 633 0 0) w 1 ws) = 0 ∧ v = some (.int (-1)) ∧ M' = (wF M 633 0 0)) ∨ (¬ ((G_140 (wF M 633 0 0) ws 1 20) = 0) ∧ ¬ ((G_140 (wF M 633 0 0) w 1 ws) = 0) ∧ (G_140 (wF M 633 0 0) t 1 200) = 0 ∧ v = some (.int (-1)) ∧ M' = (wF M 633 0 0)) ∨ (¬ ((G_140 (wF M 633 0 0) ws 1 20) = 0) ∧ ¬ ((G_140 (wF M 633 0 0) w 1 ws) = 0) ∧ ¬ ((G_140 (wF M 633 0 0) t 1 200) = 0) ∧ (G_140 (wF M 633 0 0) wh 0 2) = 0 ∧ v = some (.int (-1)) ∧ M' = (wF M 633 0 0)) ∨ (¬ ((G_140 (wF M 633 0 0) ws 1 20) = 0) ∧ ¬ ((G_140 (wF M 633 0 0) w 1 ws) = 0) ∧ ¬ ((G_140 (wF M 633 0 0) t 1 200) = 0) ∧ ¬ ((G_140 (wF M 633 0 0) wh 0 2) = 0) ∧ (∃ e1 v1 M1, e = e1 + 1 ∧ Ev none e1 230 0 [some (.ref 633), some (.int w), some (.int ws), some (.int t), none] [] (wF M 633 0 0) v1 M1 0 0 ∧ Ev none e 231 54 [some (.ref 633), some (.int w), some (.int ws), some (.int t), some (.int wh)] (v1.toList ++ []) M1 v M' 0 0)) := by
  have H : Ev none e 231 2 [some (.ref 633), some (.int w), some (.int ws), some (.int t), some (.int wh)] [.int 0, .ref 633] M v M' 0 0 := Ev.back 2 (fun n => rfl) H
  obtain ⟨N2, eN2⟩ : ∃ N, N = (wF M 633 0 0) := ⟨_, rfl⟩
  have hN2 : SQ N2 := by rw [eN2]; exact hS.kf
  have H : Ev none e 231 5 [some (.ref 633), some (.int w), some (.int ws), some (.int t), some (.int wh)] [] N2 v M' 0 0 := by rw [eN2]; exact Ev.pfi rfl rfl rfl hS.1 qa_633 qi_61_0 H
  have H : Ev none e 231 9 [some (.ref 633), some (.int w), some (.int ws), some (.int t), some (.int wh)] [.int 20, .int 1, .int ws] N2 v M' 0 0 := Ev.back 3 (fun n => rfl) H
  obtain ⟨e1, rfl⟩ := Ev.dpos rfl rfl H
  obtain ⟨vK3, MK3, K3, H⟩ := Ev.callb (fun n => rfl) H
  obtain ⟨pK3, qK3⟩ := g_140 hN2 K3
  rw [pK3, qK3] at H
  have H : Ev none (e1 + 1) 231 12 [some (.ref 633), some (.int w), some (.int ws), some (.int t), some (.int wh)] [.int (G_140 N2 ws 1 20)] N2 v M' 0 0 := H
  have H : Ev none (e1 + 1) 231 (if (G_140 N2 ws 1 20) = 0 then 45 else 15) [some (.ref 633), some (.int w), some (.int ws), some (.int t), some (.int wh)] [] N2 v M' 0 0 := Ev.back 1 (fun n => rfl) H
  by_cases h4 : (G_140 N2 ws 1 20) = 0
  · rw [if_pos h4] at H
    have H : Ev none (e1 + 1) 231 46 [some (.ref 633), some (.int w), some (.int ws), some (.int t), some (.int wh)] [.int (-1)] N2 v M' 0 0 := Ev.back 1 (fun n => rfl) H
    obtain ⟨z1, z2⟩ := Ev.retz rfl rfl H
    subst eN2
    exact Or.inl ⟨h4, z1, z2⟩
  · rw [if_neg h4] at H
    have H : Ev none (e1 + 1) 231 18 [some (.ref 633), some (.int w), some (.int ws), some (.int t), some (.int wh)] [.int ws, .int 1, .int w] N2 v M' 0 0 := Ev.back 3 (fun n => rfl) H
    obtain ⟨vK5, MK5, K5, H⟩ := Ev.callb (fun n => rfl) H
    obtain ⟨pK5, qK5⟩ := g_140 hN2 K5
    rw [pK5, qK5] at H
    have H : Ev none (e1 + 1) 231 21 [some (.ref 633), some (.int w), some (.int ws), some (.int t), some (.int wh)] [.int (G_140 N2 w 1 ws)] N2 v M' 0 0 := H
    have H : Ev none (e1 + 1) 231 (if (G_140 N2 w 1 ws) = 0 then 45 else 24) [some (.ref 633), some (.int w), some (.int ws), some (.int t), some (.int wh)] [] N2 v M' 0 0 := Ev.back 1 (fun n => rfl) H
    by_cases h6 : (G_140 N2 w 1 ws) = 0
    · rw [if_pos h6] at H
      have H : Ev none (e1 + 1) 231 46 [some (.ref 633), some (.int w), some (.int ws), some (.int t), some (.int wh)] [.int (-1)] N2 v M' 0 0 := Ev.back 1 (fun n => rfl) H
      obtain ⟨z1, z2⟩ := Ev.retz rfl rfl H
      subst eN2
      exact Or.inr (Or.inl ⟨h4, h6, z1, z2⟩)
    · rw [if_neg h6] at H
      have H : Ev none (e1 + 1) 231 29 [some (.ref 633), some (.int w), some (.int ws), some (.int t), some (.int wh)] [.int 200, .int 1, .int t] N2 v M' 0 0 := Ev.back 3 (fun n => rfl) H
      obtain ⟨vK7, MK7, K7, H⟩ := Ev.callb (fun n => rfl) H
      obtain ⟨pK7, qK7⟩ := g_140 hN2 K7
      rw [pK7, qK7] at H
      have H : Ev none (e1 + 1) 231 32 [some (.ref 633), some (.int w), some (.int ws), some (.int t), some (.int wh)] [.int (G_140 N2 t 1 200)] N2 v M' 0 0 := H
      have H : Ev none (e1 + 1) 231 (if (G_140 N2 t 1 200) = 0 then 45 else 35) [some (.ref 633), some (.int w), some (.int ws), some (.int t), some (.int wh)] [] N2 v M' 0 0 := Ev.back 1 (fun n => rfl) H
      by_cases h8 : (G_140 N2 t 1 200) = 0
      · rw [if_pos h8] at H
        have H : Ev none (e1 + 1) 231 46 [some (.ref 633), some (.int w), some (.int ws), some (.int t), some (.int wh)] [.int (-1)] N2 v M' 0 0 := Ev.back 1 (fun n => rfl) H
        obtain ⟨z1, z2⟩ := Ev.retz rfl rfl H
        subst eN2
        exact Or.inr (Or.inr (Or.inl ⟨h4, h6, h8, z1, z2⟩))
      · rw [if_neg h8] at H
        have H : Ev none (e1 + 1) 231 39 [some (.ref 633), some (.int w), some (.int ws), some (.int t), some (.int wh)] [.int 2, .int 0, .int wh] N2 v M' 0 0 := Ev.back 3 (fun n => rfl) H
        obtain ⟨vK9, MK9, K9, H⟩ := Ev.callb (fun n => rfl) H
        obtain ⟨pK9, qK9⟩ := g_140 hN2 K9
        rw [pK9, qK9] at H
        have H : Ev none (e1 + 1) 231 42 [some (.ref 633), some (.int w), some (.int ws), some (.int t), some (.int wh)] [.int (G_140 N2 wh 0 2)] N2 v M' 0 0 := H
        have H : Ev none (e1 + 1) 231 (if (G_140 N2 wh 0 2) = 0 then 45 else 47) [some (.ref 633), some (.int w), some (.int ws), some (.int t), some (.int wh)] [] N2 v M' 0 0 := Ev.back 1 (fun n => rfl) H
        by_cases h10 : (G_140 N2 wh 0 2) = 0
        · rw [if_pos h10] at H
          have H : Ev none (e1 + 1) 231 46 [some (.ref 633), some (.int w), some (.int ws), some (.int t), some (.int wh)] [.int (-1)] N2 v M' 0 0 := Ev.back 1 (fun n => rfl) H
          obtain ⟨z1, z2⟩ := Ev.retz rfl rfl H
          subst eN2
          exact Or.inr (Or.inr (Or.inr (Or.inl ⟨h4, h6, h8, h10, z1, z2⟩)))
        · rw [if_neg h10] at H
          have H : Ev none (e1 + 1) 231 51 [some (.ref 633), some (.int w), some (.int ws), some (.int t), some (.int wh)] [.int t, .int ws, .int w, .ref 633] N2 v M' 0 0 := Ev.back 4 (fun n => rfl) H
          obtain ⟨vK11, MK11, K11, H⟩ := Ev.callb (fun n_ => gs_7 rfl rfl (show gCal (.invokevirtual 482) 11 (.int t :: .int ws :: .int w :: .ref 633 :: []) N2 = some (.inr (230, [some (.ref 633), some (.int w), some (.int ws), some (.int t), none], [])) from by show @cond (Option ((List Value × Mem) ⊕ (Nat × Lo × List Value))) (true && gRecv N2 (.ref 633) 11 && gRoom [] && true) (some (.inr (230, [some (.ref 633), some (.int w), some (.int ws), some (.int t), none], []))) none = _; rw [recv_s hN2.1 qa_633 qo_61]; rfl)) H
          have K11 : Ev none e1 230 0 [some (.ref 633), some (.int w), some (.int ws), some (.int t), none] [] N2 vK11 MK11 0 0 := K11
          have HF := H
          subst eN2
          exact Or.inr (Or.inr (Or.inr (Or.inr (⟨h4, h6, h8, h10, ⟨e1, vK11, MK11, rfl, K11, HF⟩⟩))))
theorem rpd_54 {e : Nat} {M M' : Mem} {v : Option Value} {w ws t wh : Int32} (hS : SQ M) (H : Ev none e 231 54 [some (.ref 633), some (.int w), some (.int ws), some (.int t), some (.int wh)] [] M v M' 0 0) : (wh = 0 ∧ v = some (.int (zI M 633 49)) ∧ M' = M) ∨ (¬ (wh = 0) ∧ wh = 1 ∧ v = some (.int (zI M 633 50)) ∧ M' = M) ∨ (¬ (wh = 0) ∧ ¬ (wh = 1) ∧ v = some (.int (zI M 633 51)) ∧ M' = M) := by
  have H : Ev none e 231 (if wh = 0 then 59 else 66) [some (.ref 633), some (.int w), some (.int ws), some (.int t), some (.int wh)] [] M v M' 0 0 := Ev.back 2 (fun n => rfl) H
  by_cases h1 : wh = 0
  · rw [if_pos h1] at H
    have H : Ev none e 231 60 [some (.ref 633), some (.int w), some (.int ws), some (.int t), some (.int wh)] [.ref 633] M v M' 0 0 := Ev.back 1 (fun n => rfl) H
    have H : Ev none e 231 63 [some (.ref 633), some (.int w), some (.int ws), some (.int t), some (.int wh)] [.int (zI M 633 49)] M v M' 0 0 := Ev.back 1 (gs_3 rfl rfl (gf_i hS.1 qa_633 qi_61_49 rfl)) H
    have H : Ev none e 231 83 [some (.ref 633), some (.int w), some (.int ws), some (.int t), some (.int wh)] [.int (zI M 633 49)] M v M' 0 0 := Ev.back 1 (fun n => rfl) H
    obtain ⟨z1, z2⟩ := Ev.retz rfl rfl H
    exact Or.inl ⟨h1, z1, z2⟩
  · rw [if_neg h1] at H
    have H : Ev none e 231 (if wh = 1 then 72 else 79) [some (.ref 633), some (.int w), some (.int ws), some (.int t), some (.int wh)] [] M v M' 0 0 := Ev.back 3 (fun n => rfl) H
    by_cases h2 : wh = 1
    · rw [if_pos h2] at H
      have H : Ev none e 231 73 [some (.ref 633), some (.int w), some (.int ws), some (.int t), some (.int wh)] [.ref 633] M v M' 0 0 := Ev.back 1 (fun n => rfl) H
      have H : Ev none e 231 76 [some (.ref 633), some (.int w), some (.int ws), some (.int t), some (.int wh)] [.int (zI M 633 50)] M v M' 0 0 := Ev.back 1 (gs_3 rfl rfl (gf_i hS.1 qa_633 qi_61_50 rfl)) H
      have H : Ev none e 231 83 [some (.ref 633), some (.int w), some (.int ws), some (.int t), some (.int wh)] [.int (zI M 633 50)] M v M' 0 0 := Ev.back 1 (fun n => rfl) H
      obtain ⟨z1, z2⟩ := Ev.retz rfl rfl H
      exact Or.inr (Or.inl ⟨h1, h2, z1, z2⟩)
    · rw [if_neg h2] at H
      have H : Ev none e 231 80 [some (.ref 633), some (.int w), some (.int ws), some (.int t), some (.int wh)] [.ref 633] M v M' 0 0 := Ev.back 1 (fun n => rfl) H
      have H : Ev none e 231 83 [some (.ref 633), some (.int w), some (.int ws), some (.int t), some (.int wh)] [.int (zI M 633 51)] M v M' 0 0 := Ev.back 1 (gs_3 rfl rfl (gf_i hS.1 qa_633 qi_61_51 rfl)) H
      obtain ⟨z1, z2⟩ := Ev.retz rfl rfl H
      exact Or.inr (Or.inr (⟨h1, h2, z1, z2⟩))
theorem rwt_0 {e : Nat} {M M' : Mem} {v : Option Value} {ws t : Int32} (hS : SQ M) (H : Ev none e 232 0 [some (.ref 633), some (.int ws), some (.int t), none, none, none, none] [] M v M' 0 0) : ((G_140 (wF M 633 0 0) ws 1 20) = 0 ∧ v = some (.int (-1)) ∧ M' = (wF M 633 0 0)) ∨ (¬ ((G_140 (wF M 633 0 0) ws 1 20) = 0) ∧ (G_140 (wF M 633 0 0) t 1 200) = 0 ∧ v = some (.int (-1)) ∧ M' = (wF M 633 0 0)) ∨ (¬ ((G_140 (wF M 633 0 0) ws 1 20) = 0) ∧ ¬ ((G_140 (wF M 633 0 0) t 1 200) = 0) ∧ Ev none e 232 36 [some (.ref 633), some (.int ws), some (.int t), some (.int (-1)), some (.int 0), some (.int 1), none] [] (wF M 633 0 0) v M' 0 0) := by
  have H : Ev none e 232 2 [some (.ref 633), some (.int ws), some (.int t), none, none, none, none] [.int 0, .ref 633] M v M' 0 0 := Ev.back 2 (fun n => rfl) H
  obtain ⟨N2, eN2⟩ : ∃ N, N = (wF M 633 0 0) := ⟨_, rfl⟩
  have hN2 : SQ N2 := by rw [eN2]; exact hS.kf
  have H : Ev none e 232 5 [some (.ref 633), some (.int ws), some (.int t), none, none, none, none] [] N2 v M' 0 0 := by rw [eN2]; exact Ev.pfi rfl rfl rfl hS.1 qa_633 qi_61_0 H
  have H : Ev none e 232 9 [some (.ref 633), some (.int ws), some (.int t), none, none, none, none] [.int 20, .int 1, .int ws] N2 v M' 0 0 := Ev.back 3 (fun n => rfl) H
  obtain ⟨e1, rfl⟩ := Ev.dpos rfl rfl H
  obtain ⟨vK3, MK3, K3, H⟩ := Ev.callb (fun n => rfl) H
  obtain ⟨pK3, qK3⟩ := g_140 hN2 K3
  rw [pK3, qK3] at H
  have H : Ev none (e1 + 1) 232 12 [some (.ref 633), some (.int ws), some (.int t), none, none, none, none] [.int (G_140 N2 ws 1 20)] N2 v M' 0 0 := H
  have H : Ev none (e1 + 1) 232 (if (G_140 N2 ws 1 20) = 0 then 26 else 15) [some (.ref 633), some (.int ws), some (.int t), none, none, none, none] [] N2 v M' 0 0 := Ev.back 1 (fun n => rfl) H
  by_cases h4 : (G_140 N2 ws 1 20) = 0
  · rw [if_pos h4] at H
    have H : Ev none (e1 + 1) 232 27 [some (.ref 633), some (.int ws), some (.int t), none, none, none, none] [.int (-1)] N2 v M' 0 0 := Ev.back 1 (fun n => rfl) H
    obtain ⟨z1, z2⟩ := Ev.retz rfl rfl H
    subst eN2
    exact Or.inl ⟨h4, z1, z2⟩
  · rw [if_neg h4] at H
    have H : Ev none (e1 + 1) 232 20 [some (.ref 633), some (.int ws), some (.int t), none, none, none, none] [.int 200, .int 1, .int t] N2 v M' 0 0 := Ev.back 3 (fun n => rfl) H
    obtain ⟨vK5, MK5, K5, H⟩ := Ev.callb (fun n => rfl) H
    obtain ⟨pK5, qK5⟩ := g_140 hN2 K5
    rw [pK5, qK5] at H
    have H : Ev none (e1 + 1) 232 23 [some (.ref 633), some (.int ws), some (.int t), none, none, none, none] [.int (G_140 N2 t 1 200)] N2 v M' 0 0 := H
    have H : Ev none (e1 + 1) 232 (if (G_140 N2 t 1 200) = 0 then 26 else 28) [some (.ref 633), some (.int ws), some (.int t), none, none, none, none] [] N2 v M' 0 0 := Ev.back 1 (fun n => rfl) H
    by_cases h6 : (G_140 N2 t 1 200) = 0
    · rw [if_pos h6] at H
      have H : Ev none (e1 + 1) 232 27 [some (.ref 633), some (.int ws), some (.int t), none, none, none, none] [.int (-1)] N2 v M' 0 0 := Ev.back 1 (fun n => rfl) H
      obtain ⟨z1, z2⟩ := Ev.retz rfl rfl H
      subst eN2
      exact Or.inr (Or.inl ⟨h4, h6, z1, z2⟩)
    · rw [if_neg h6] at H
      have H : Ev none (e1 + 1) 232 36 [some (.ref 633), some (.int ws), some (.int t), some (.int (-1)), some (.int 0), some (.int 1), none] [] N2 v M' 0 0 := Ev.back 6 (fun n => rfl) H
      have HF := H
      subst eN2
      exact Or.inr (Or.inr (⟨h4, h6, HF⟩))
theorem rwt_36 {e : Nat} {M M' : Mem} {v : Option Value} {ws t be le w : Int32} {c6 : Option Value} (hS : SQ M) (H : Ev none e 232 36 [some (.ref 633), some (.int ws), some (.int t), some (.int be), some (.int le), some (.int w), c6] [] M v M' 0 0) : (ws < w ∧ v = some (.int be) ∧ M' = M) ∨ (¬ (ws < w) ∧ (∃ e1 v1 M1, e = e1 + 1 ∧ Ev none e1 230 0 [some (.ref 633), some (.int w), some (.int ws), some (.int t), none] [] M v1 M1 0 0 ∧ Ev none e 232 50 [some (.ref 633), some (.int ws), some (.int t), some (.int be), some (.int le), some (.int w), c6] (v1.toList ++ []) M1 v M' 0 0)) := by
  have H : Ev none e 232 (if ws < w then 91 else 42) [some (.ref 633), some (.int ws), some (.int t), some (.int be), some (.int le), some (.int w), c6] [] M v M' 0 0 := Ev.back 3 (fun n => rfl) H
  by_cases h1 : ws < w
  · rw [if_pos h1] at H
    have H : Ev none e 232 92 [some (.ref 633), some (.int ws), some (.int t), some (.int be), some (.int le), some (.int w), c6] [.int be] M v M' 0 0 := Ev.back 1 (fun n => rfl) H
    obtain ⟨z1, z2⟩ := Ev.retz rfl rfl H
    exact Or.inl ⟨h1, z1, z2⟩
  · rw [if_neg h1] at H
    have H : Ev none e 232 47 [some (.ref 633), some (.int ws), some (.int t), some (.int be), some (.int le), some (.int w), c6] [.int t, .int ws, .int w, .ref 633] M v M' 0 0 := Ev.back 4 (fun n => rfl) H
    obtain ⟨e1, rfl⟩ := Ev.dpos rfl rfl H
    obtain ⟨vK2, MK2, K2, H⟩ := Ev.callb (fun n_ => gs_7 rfl rfl (show gCal (.invokevirtual 482) 11 (.int t :: .int ws :: .int w :: .ref 633 :: []) M = some (.inr (230, [some (.ref 633), some (.int w), some (.int ws), some (.int t), none], [])) from by show @cond (Option ((List Value × Mem) ⊕ (Nat × Lo × List Value))) (true && gRecv M (.ref 633) 11 && gRoom [] && true) (some (.inr (230, [some (.ref 633), some (.int w), some (.int ws), some (.int t), none], []))) none = _; rw [recv_s hS.1 qa_633 qo_61]; rfl)) H
    have K2 : Ev none e1 230 0 [some (.ref 633), some (.int w), some (.int ws), some (.int t), none] [] M vK2 MK2 0 0 := K2
    have HF := H
    exact Or.inr (⟨h1, ⟨e1, vK2, MK2, rfl, K2, HF⟩⟩)
theorem rwt_50 {e : Nat} {M M' : Mem} {v : Option Value} {ws t be le w : Int32} {c6 : Option Value} (hS : SQ M) (H : Ev none e 232 50 [some (.ref 633), some (.int ws), some (.int t), some (.int be), some (.int le), some (.int w), c6] [] M v M' 0 0) : (be < 0 ∧ Ev none e 232 36 [some (.ref 633), some (.int ws), some (.int t), some (.int w), some (.int (((zI M 633 50) + (zI M 633 51)) + w)), some (.int (w + 1)), some (.int (((zI M 633 50) + (zI M 633 51)) + w))] [] M v M' 0 0) ∨ (¬ (be < 0) ∧ (((zI M 633 50) + (zI M 633 51)) + w) < le ∧ Ev none e 232 36 [some (.ref 633), some (.int ws), some (.int t), some (.int w), some (.int (((zI M 633 50) + (zI M 633 51)) + w)), some (.int (w + 1)), some (.int (((zI M 633 50) + (zI M 633 51)) + w))] [] M v M' 0 0) ∨ (¬ (be < 0) ∧ ¬ ((((zI M 633 50) + (zI M 633 51)) + w) < le) ∧ Ev none e 232 36 [some (.ref 633), some (.int ws), some (.int t), some (.int be), some (.int le), some (.int (w + 1)), some (.int (((zI M 633 50) + (zI M 633 51)) + w))] [] M v M' 0 0) := by
  have H : Ev none e 232 51 [some (.ref 633), some (.int ws), some (.int t), some (.int be), some (.int le), some (.int w), c6] [.ref 633] M v M' 0 0 := Ev.back 1 (fun n => rfl) H
  have H : Ev none e 232 54 [some (.ref 633), some (.int ws), some (.int t), some (.int be), some (.int le), some (.int w), c6] [.int (zI M 633 50)] M v M' 0 0 := Ev.back 1 (gs_3 rfl rfl (gf_i hS.1 qa_633 qi_61_50 rfl)) H
  have H : Ev none e 232 55 [some (.ref 633), some (.int ws), some (.int t), some (.int be), some (.int le), some (.int w), c6] [.ref 633, .int (zI M 633 50)] M v M' 0 0 := Ev.back 1 (fun n => rfl) H
  have H : Ev none e 232 58 [some (.ref 633), some (.int ws), some (.int t), some (.int be), some (.int le), some (.int w), c6] [.int (zI M 633 51), .int (zI M 633 50)] M v M' 0 0 := Ev.back 1 (gs_3 rfl rfl (gf_i hS.1 qa_633 qi_61_51 rfl)) H
  have H : Ev none e 232 (if be < 0 then 78 else 68) [some (.ref 633), some (.int ws), some (.int t), some (.int be), some (.int le), some (.int w), some (.int (((zI M 633 50) + (zI M 633 51)) + w))] [] M v M' 0 0 := Ev.back 6 (fun n => rfl) H
  by_cases h1 : be < 0
  · rw [if_pos h1] at H
    have H : Ev none e 232 36 [some (.ref 633), some (.int ws), some (.int t), some (.int w), some (.int (((zI M 633 50) + (zI M 633 51)) + w)), some (.int (w + 1)), some (.int (((zI M 633 50) + (zI M 633 51)) + w))] [] M v M' 0 0 := Ev.back 6 (fun n => rfl) H
    have HF := H
    exact Or.inl ⟨h1, HF⟩
  · rw [if_neg h1] at H
    have H : Ev none e 232 (if (((zI M 633 50) + (zI M 633 51)) + w) < le then 78 else 75) [some (.ref 633), some (.int ws), some (.int t), some (.int be), some (.int le), some (.int w), some (.int (((zI M 633 50) + (zI M 633 51)) + w))] [] M v M' 0 0 := Ev.back 3 (fun n => rfl) H
    by_cases h2 : (((zI M 633 50) + (zI M 633 51)) + w) < le
    · rw [if_pos h2] at H
      have H : Ev none e 232 36 [some (.ref 633), some (.int ws), some (.int t), some (.int w), some (.int (((zI M 633 50) + (zI M 633 51)) + w)), some (.int (w + 1)), some (.int (((zI M 633 50) + (zI M 633 51)) + w))] [] M v M' 0 0 := Ev.back 6 (fun n => rfl) H
      have HF := H
      exact Or.inr (Or.inl ⟨h1, h2, HF⟩)
    · rw [if_neg h2] at H
      have H : Ev none e 232 36 [some (.ref 633), some (.int ws), some (.int t), some (.int be), some (.int le), some (.int (w + 1)), some (.int (((zI M 633 50) + (zI M 633 51)) + w))] [] M v M' 0 0 := Ev.back 3 (fun n => rfl) H
      have HF := H
      exact Or.inr (Or.inr (⟨h1, h2, HF⟩))
theorem rit_0 {e : Nat} {M M' : Mem} {v : Option Value} {a b t : Int32} (hS : SQ M) (H : Ev none e 233 0 [some (.ref 633), some (.int a), some (.int b), some (.int t), none] [] M v M' 0 0) : (∃ e1 v1 M1, e = e1 + 1 ∧ Ev none e1 153 0 [some (.ref 633), none] [] M v1 M1 0 0 ∧ Ev none e 233 4 [some (.ref 633), some (.int a), some (.int b), some (.int t), none] (v1.toList ++ []) M1 v M' 0 0) := by
  have H : Ev none e 233 1 [some (.ref 633), some (.int a), some (.int b), some (.int t), none] [.ref 633] M v M' 0 0 := Ev.back 1 (fun n => rfl) H
  obtain ⟨e1, rfl⟩ := Ev.dpos rfl rfl H
  obtain ⟨vK1, MK1, K1, H⟩ := Ev.callb (fun n_ => gs_7 rfl rfl (show gCal (.invokevirtual 445) 11 (.ref 633 :: []) M = some (.inr (153, [some (.ref 633), none], [])) from by show @cond (Option ((List Value × Mem) ⊕ (Nat × Lo × List Value))) (true && gRecv M (.ref 633) 11 && gRoom [] && true) (some (.inr (153, [some (.ref 633), none], []))) none = _; rw [recv_s hS.1 qa_633 qo_61]; rfl)) H
  have K1 : Ev none e1 153 0 [some (.ref 633), none] [] M vK1 MK1 0 0 := K1
  have HF := H
  exact ⟨e1, vK1, MK1, rfl, K1, HF⟩
theorem rit_4 {e : Nat} {M M' : Mem} {v : Option Value} {a b t : Int32} (hS : SQ M) (H : Ev none e 233 4 [some (.ref 633), some (.int a), some (.int b), some (.int t), none] [] M v M' 0 0) : (a < 0 ∧ Ev none e 233 15 [some (.ref 633), some (.int a), some (.int b), some (.int t), none] [] M v M' 0 0) ∨ (¬ (a < 0) ∧ (∃ e1 v1 M1, e = e1 + 1 ∧ Ev none e1 213 0 [some (.ref 633), some (.int a), some (.int 6)] [] M v1 M1 0 0 ∧ Ev none e 233 15 [some (.ref 633), some (.int a), some (.int b), some (.int t), none] (v1.toList ++ []) M1 v M' 0 0)) := by
  have H : Ev none e 233 (if a < 0 then 15 else 8) [some (.ref 633), some (.int a), some (.int b), some (.int t), none] [] M v M' 0 0 := Ev.back 2 (fun n => rfl) H
  by_cases h1 : a < 0
  · rw [if_pos h1] at H
    have HF := H
    exact Or.inl ⟨h1, HF⟩
  · rw [if_neg h1] at H
    have H : Ev none e 233 12 [some (.ref 633), some (.int a), some (.int b), some (.int t), none] [.int 6, .int a, .ref 633] M v M' 0 0 := Ev.back 3 (fun n => rfl) H
    obtain ⟨e1, rfl⟩ := Ev.dpos rfl rfl H
    obtain ⟨vK2, MK2, K2, H⟩ := Ev.callb (fun n_ => gs_7 rfl rfl (show gCal (.invokevirtual 435) 11 (.int 6 :: .int a :: .ref 633 :: []) M = some (.inr (213, [some (.ref 633), some (.int a), some (.int 6)], [])) from by show @cond (Option ((List Value × Mem) ⊕ (Nat × Lo × List Value))) (true && gRecv M (.ref 633) 11 && gRoom [] && true) (some (.inr (213, [some (.ref 633), some (.int a), some (.int 6)], []))) none = _; rw [recv_s hS.1 qa_633 qo_61]; rfl)) H
    have K2 : Ev none e1 213 0 [some (.ref 633), some (.int a), some (.int 6)] [] M vK2 MK2 0 0 := K2
    have HF := H
    exact Or.inr (⟨h1, ⟨e1, vK2, MK2, rfl, K2, HF⟩⟩)
theorem rit_15 {e : Nat} {M M' : Mem} {v : Option Value} {a b t : Int32} (hS : SQ M) (H : Ev none e 233 15 [some (.ref 633), some (.int a), some (.int b), some (.int t), none] [] M v M' 0 0) : (b < 0 ∧ Ev none e 233 26 [some (.ref 633), some (.int a), some (.int b), some (.int t), none] [] M v M' 0 0) ∨ (¬ (b < 0) ∧ (∃ e1 v1 M1, e = e1 + 1 ∧ Ev none e1 213 0 [some (.ref 633), some (.int b), some (.int 6)] [] M v1 M1 0 0 ∧ Ev none e 233 26 [some (.ref 633), some (.int a), some (.int b), some (.int t), none] (v1.toList ++ []) M1 v M' 0 0)) := by
  have H : Ev none e 233 (if b < 0 then 26 else 19) [some (.ref 633), some (.int a), some (.int b), some (.int t), none] [] M v M' 0 0 := Ev.back 2 (fun n => rfl) H
  by_cases h1 : b < 0
  · rw [if_pos h1] at H
    have HF := H
    exact Or.inl ⟨h1, HF⟩
  · rw [if_neg h1] at H
    have H : Ev none e 233 23 [some (.ref 633), some (.int a), some (.int b), some (.int t), none] [.int 6, .int b, .ref 633] M v M' 0 0 := Ev.back 3 (fun n => rfl) H
    obtain ⟨e1, rfl⟩ := Ev.dpos rfl rfl H
    obtain ⟨vK2, MK2, K2, H⟩ := Ev.callb (fun n_ => gs_7 rfl rfl (show gCal (.invokevirtual 435) 11 (.int 6 :: .int b :: .ref 633 :: []) M = some (.inr (213, [some (.ref 633), some (.int b), some (.int 6)], [])) from by show @cond (Option ((List Value × Mem) ⊕ (Nat × Lo × List Value))) (true && gRecv M (.ref 633) 11 && gRoom [] && true) (some (.inr (213, [some (.ref 633), some (.int b), some (.int 6)], []))) none = _; rw [recv_s hS.1 qa_633 qo_61]; rfl)) H
    have K2 : Ev none e1 213 0 [some (.ref 633), some (.int b), some (.int 6)] [] M vK2 MK2 0 0 := K2
    have HF := H
    exact Or.inr (⟨h1, ⟨e1, vK2, MK2, rfl, K2, HF⟩⟩)
theorem rit_26 {e : Nat} {M M' : Mem} {v : Option Value} {a b t : Int32} (hS : SQ M) (H : Ev none e 233 26 [some (.ref 633), some (.int a), some (.int b), some (.int t), none] [] M v M' 0 0) : Ev none e 233 34 [some (.ref 633), some (.int a), some (.int b), some (.int t), some (.int 0)] [] (wF M 633 42 0) v M' 0 0 := by
  have H : Ev none e 233 28 [some (.ref 633), some (.int a), some (.int b), some (.int t), none] [.int 0, .ref 633] M v M' 0 0 := Ev.back 2 (fun n => rfl) H
  obtain ⟨N2, eN2⟩ : ∃ N, N = (wF M 633 42 0) := ⟨_, rfl⟩
  have hN2 : SQ N2 := by rw [eN2]; exact hS.kf
  have H : Ev none e 233 31 [some (.ref 633), some (.int a), some (.int b), some (.int t), none] [] N2 v M' 0 0 := by rw [eN2]; exact Ev.pfi rfl rfl rfl hS.1 qa_633 qi_61_42 H
  have H : Ev none e 233 34 [some (.ref 633), some (.int a), some (.int b), some (.int t), some (.int 0)] [] N2 v M' 0 0 := Ev.back 2 (fun n => rfl) H
  have HF := H
  subst eN2
  exact HF
theorem rit_34 {e : Nat} {M M' : Mem} {v : Option Value} {a b t k : Int32} (hS : SQ M) (H : Ev none e 233 34 [some (.ref 633), some (.int a), some (.int b), some (.int t), some (.int k)] [] M v M' 0 0) : (t ≤ k ∧ (∃ e1 v1 M1, e = e1 + 1 ∧ Ev none e1 154 0 [some (.ref 633), none] [] M v1 M1 0 0 ∧ Ev none e 233 61 [some (.ref 633), some (.int a), some (.int b), some (.int t), some (.int k)] (v1.toList ++ []) M1 v M' 0 0)) ∨ (¬ (t ≤ k) ∧ (zI M 633 42) = 0 ∧ (∃ e1 v1 M1, e = e1 + 1 ∧ Ev none e1 204 0 [some (.ref 633), none, none, none] [] M v1 M1 0 0 ∧ Ev none e 233 51 [some (.ref 633), some (.int a), some (.int b), some (.int t), some (.int k)] (v1.toList ++ []) M1 v M' 0 0)) ∨ (¬ (t ≤ k) ∧ ¬ ((zI M 633 42) = 0) ∧ (∃ e1 v1 M1, e = e1 + 1 ∧ Ev none e1 154 0 [some (.ref 633), none] [] M v1 M1 0 0 ∧ Ev none e 233 61 [some (.ref 633), some (.int a), some (.int b), some (.int t), some (.int k)] (v1.toList ++ []) M1 v M' 0 0)) := by
  have H : Ev none e 233 (if t ≤ k then 57 else 40) [some (.ref 633), some (.int a), some (.int b), some (.int t), some (.int k)] [] M v M' 0 0 := Ev.back 3 (fun n => rfl) H
  by_cases h1 : t ≤ k
  · rw [if_pos h1] at H
    have H : Ev none e 233 58 [some (.ref 633), some (.int a), some (.int b), some (.int t), some (.int k)] [.ref 633] M v M' 0 0 := Ev.back 1 (fun n => rfl) H
    obtain ⟨e1, rfl⟩ := Ev.dpos rfl rfl H
    obtain ⟨vK2, MK2, K2, H⟩ := Ev.callb (fun n_ => gs_7 rfl rfl (show gCal (.invokevirtual 459) 11 (.ref 633 :: []) M = some (.inr (154, [some (.ref 633), none], [])) from by show @cond (Option ((List Value × Mem) ⊕ (Nat × Lo × List Value))) (true && gRecv M (.ref 633) 11 && gRoom [] && true) (some (.inr (154, [some (.ref 633), none], []))) none = _; rw [recv_s hS.1 qa_633 qo_61]; rfl)) H
    have K2 : Ev none e1 154 0 [some (.ref 633), none] [] M vK2 MK2 0 0 := K2
    have HF := H
    exact Or.inl ⟨h1, ⟨e1, vK2, MK2, rfl, K2, HF⟩⟩
  · rw [if_neg h1] at H
    have H : Ev none e 233 41 [some (.ref 633), some (.int a), some (.int b), some (.int t), some (.int k)] [.ref 633] M v M' 0 0 := Ev.back 1 (fun n => rfl) H
    have H : Ev none e 233 44 [some (.ref 633), some (.int a), some (.int b), some (.int t), some (.int k)] [.int (zI M 633 42)] M v M' 0 0 := Ev.back 1 (gs_3 rfl rfl (gf_i hS.1 qa_633 qi_61_42 rfl)) H
    have H : Ev none e 233 (if (zI M 633 42) = 0 then 47 else 57) [some (.ref 633), some (.int a), some (.int b), some (.int t), some (.int k)] [] M v M' 0 0 := Ev.back 1 (fun n => rfl) H
    by_cases h3 : (zI M 633 42) = 0
    · rw [if_pos h3] at H
      have H : Ev none e 233 48 [some (.ref 633), some (.int a), some (.int b), some (.int t), some (.int k)] [.ref 633] M v M' 0 0 := Ev.back 1 (fun n => rfl) H
      obtain ⟨e1, rfl⟩ := Ev.dpos rfl rfl H
      obtain ⟨vK4, MK4, K4, H⟩ := Ev.callb (fun n_ => gs_7 rfl rfl (show gCal (.invokevirtual 423) 11 (.ref 633 :: []) M = some (.inr (204, [some (.ref 633), none, none, none], [])) from by show @cond (Option ((List Value × Mem) ⊕ (Nat × Lo × List Value))) (true && gRecv M (.ref 633) 11 && gRoom [] && true) (some (.inr (204, [some (.ref 633), none, none, none], []))) none = _; rw [recv_s hS.1 qa_633 qo_61]; rfl)) H
      have K4 : Ev none e1 204 0 [some (.ref 633), none, none, none] [] M vK4 MK4 0 0 := K4
      have HF := H
      exact Or.inr (Or.inl ⟨h1, h3, ⟨e1, vK4, MK4, rfl, K4, HF⟩⟩)
    · rw [if_neg h3] at H
      have H : Ev none e 233 58 [some (.ref 633), some (.int a), some (.int b), some (.int t), some (.int k)] [.ref 633] M v M' 0 0 := Ev.back 1 (fun n => rfl) H
      obtain ⟨e1, rfl⟩ := Ev.dpos rfl rfl H
      obtain ⟨vK5, MK5, K5, H⟩ := Ev.callb (fun n_ => gs_7 rfl rfl (show gCal (.invokevirtual 459) 11 (.ref 633 :: []) M = some (.inr (154, [some (.ref 633), none], [])) from by show @cond (Option ((List Value × Mem) ⊕ (Nat × Lo × List Value))) (true && gRecv M (.ref 633) 11 && gRoom [] && true) (some (.inr (154, [some (.ref 633), none], []))) none = _; rw [recv_s hS.1 qa_633 qo_61]; rfl)) H
      have K5 : Ev none e1 154 0 [some (.ref 633), none] [] M vK5 MK5 0 0 := K5
      have HF := H
      exact Or.inr (Or.inr (⟨h1, h3, ⟨e1, vK5, MK5, rfl, K5, HF⟩⟩))
theorem rit_51 {e : Nat} {M M' : Mem} {v : Option Value} {a b t k : Int32} (hS : SQ M) (H : Ev none e 233 51 [some (.ref 633), some (.int a), some (.int b), some (.int t), some (.int k)] [] M v M' 0 0) : Ev none e 233 34 [some (.ref 633), some (.int a), some (.int b), some (.int t), some (.int (k + 1))] [] M v M' 0 0 := by
  have H : Ev none e 233 34 [some (.ref 633), some (.int a), some (.int b), some (.int t), some (.int (k + 1))] [] M v M' 0 0 := Ev.back 2 (fun n => rfl) H
  have HF := H
  exact HF
theorem rit_61 {e : Nat} {M M' : Mem} {v : Option Value} {a b t k : Int32} (hS : SQ M) (H : Ev none e 233 61 [some (.ref 633), some (.int a), some (.int b), some (.int t), some (.int k)] [] M v M' 0 0) : v = some (.int (zI M 633 42)) ∧ M' = M := by
  have H : Ev none e 233 62 [some (.ref 633), some (.int a), some (.int b), some (.int t), some (.int k)] [.ref 633] M v M' 0 0 := Ev.back 1 (fun n => rfl) H
  have H : Ev none e 233 65 [some (.ref 633), some (.int a), some (.int b), some (.int t), some (.int k)] [.int (zI M 633 42)] M v M' 0 0 := Ev.back 1 (gs_3 rfl rfl (gf_i hS.1 qa_633 qi_61_42 rfl)) H
  obtain ⟨z1, z2⟩ := Ev.retz rfl rfl H
  exact ⟨z1, z2⟩
noncomputable def A_234 (M : Mem) (n : Int32) (a : Int32) (b : Int32) : Int32 := n
noncomputable def X_234 (M : Mem) (n : Int32) (a : Int32) (b : Int32) : Mem := (wI (wI (wF M 633 53 n) 656 ((0 : Int32).toNatClampNeg) a) 656 ((1 : Int32).toNatClampNeg) b)
theorem g_234 {e : Nat} {M M' : Mem} {v : Option Value} {n a b : Int32} (hS : SQ M) (H : Ev none e 234 0 [some (.ref 633), some (.int n), some (.int a), some (.int b)] [] M v M' 0 0) : v = some (.int (A_234 M n a b)) ∧ M' = X_234 M n a b := by
  unfold A_234 X_234
  have H : Ev none e 234 2 [some (.ref 633), some (.int n), some (.int a), some (.int b)] [.int n, .ref 633] M v M' 0 0 := Ev.back 2 (fun n => rfl) H
  obtain ⟨N2, eN2⟩ : ∃ N, N = (wF M 633 53 n) := ⟨_, rfl⟩
  have hN2 : SQ N2 := by rw [eN2]; exact hS.kf
  have H : Ev none e 234 5 [some (.ref 633), some (.int n), some (.int a), some (.int b)] [] N2 v M' 0 0 := by rw [eN2]; exact Ev.pfi rfl rfl rfl hS.1 qa_633 qi_61_53 H
  have H : Ev none e 234 6 [some (.ref 633), some (.int n), some (.int a), some (.int b)] [.ref 633] N2 v M' 0 0 := Ev.back 1 (fun n => rfl) H
  have H : Ev none e 234 9 [some (.ref 633), some (.int n), some (.int a), some (.int b)] [.ref 656] N2 v M' 0 0 := Ev.back 1 (gs_3 rfl rfl (gf_u hN2.1 qa_633 qr_61_52 qu_84 rfl)) H
  have H : Ev none e 234 11 [some (.ref 633), some (.int n), some (.int a), some (.int b)] [.int a, .int 0, .ref 656] N2 v M' 0 0 := Ev.back 2 (fun n => rfl) H
  obtain ⟨b3, H⟩ := Ev.ias rfl rfl hN2.1 qa_656 qw_84 H
  obtain ⟨N4, eN4⟩ : ∃ N, N = (wI N2 656 ((0 : Int32).toNatClampNeg) a) := ⟨_, rfl⟩
  have hN4 : SQ N4 := by rw [eN4]; exact hN2.ki
  have H : Ev none e 234 12 [some (.ref 633), some (.int n), some (.int a), some (.int b)] [] N4 v M' 0 0 := by rw [eN4]; exact H
  have H : Ev none e 234 13 [some (.ref 633), some (.int n), some (.int a), some (.int b)] [.ref 633] N4 v M' 0 0 := Ev.back 1 (fun n => rfl) H
  have H : Ev none e 234 16 [some (.ref 633), some (.int n), some (.int a), some (.int b)] [.ref 656] N4 v M' 0 0 := Ev.back 1 (gs_3 rfl rfl (gf_u hN4.1 qa_633 qr_61_52 qu_84 rfl)) H
  have H : Ev none e 234 18 [some (.ref 633), some (.int n), some (.int a), some (.int b)] [.int b, .int 1, .ref 656] N4 v M' 0 0 := Ev.back 2 (fun n => rfl) H
  obtain ⟨b5, H⟩ := Ev.ias rfl rfl hN4.1 qa_656 qw_84 H
  obtain ⟨N6, eN6⟩ : ∃ N, N = (wI N4 656 ((1 : Int32).toNatClampNeg) b) := ⟨_, rfl⟩
  have hN6 : SQ N6 := by rw [eN6]; exact hN4.ki
  have H : Ev none e 234 19 [some (.ref 633), some (.int n), some (.int a), some (.int b)] [] N6 v M' 0 0 := by rw [eN6]; exact H
  have H : Ev none e 234 20 [some (.ref 633), some (.int n), some (.int a), some (.int b)] [.int n] N6 v M' 0 0 := Ev.back 1 (fun n => rfl) H
  obtain ⟨p1, p2⟩ := Ev.retz rfl rfl H
  subst eN2 eN4 eN6
  exact ⟨p1, p2⟩
theorem X_234_sx {M : Mem} {n a b : Int32} (hS : SQ M) : SQ (X_234 M n a b) := by
  unfold X_234
  exact ((hS.kf).ki).ki
theorem rfn_0 {e : Nat} {M M' : Mem} {v : Option Value} {c t : Int32} (hS : SQ M) (H : Ev none e 235 0 [some (.ref 633), some (.int c), some (.int t), none, none, none] [] M v M' 0 0) : ((G_145 (X_139 (wF M 633 0 0)) c) = 0 ∧ v = some (.int (-2)) ∧ M' = (X_139 (wF M 633 0 0))) ∨ (¬ ((G_145 (X_139 (wF M 633 0 0)) c) = 0) ∧ (G_140 (X_139 (wF M 633 0 0)) t 1 100) = 0 ∧ v = some (.int (-2)) ∧ M' = (X_139 (wF M 633 0 0))) ∨ (¬ ((G_145 (X_139 (wF M 633 0 0)) c) = 0) ∧ ¬ ((G_140 (X_139 (wF M 633 0 0)) t 1 100) = 0) ∧ (G_140 (X_139 (wF M 633 0 0)) (zI (X_139 (wF M 633 0 0)) 633 3) 1 12) = 0 ∧ v = some (.int (-2)) ∧ M' = (X_139 (wF M 633 0 0))) ∨ (¬ ((G_145 (X_139 (wF M 633 0 0)) c) = 0) ∧ ¬ ((G_140 (X_139 (wF M 633 0 0)) t 1 100) = 0) ∧ ¬ ((G_140 (X_139 (wF M 633 0 0)) (zI (X_139 (wF M 633 0 0)) 633 3) 1 12) = 0) ∧ Ev none e 235 45 [some (.ref 633), some (.int c), some (.int t), some (.int 0), none, none] [] (X_139 (wF M 633 0 0)) v M' 0 0) := by
  have H : Ev none e 235 2 [some (.ref 633), some (.int c), some (.int t), none, none, none] [.int 0, .ref 633] M v M' 0 0 := Ev.back 2 (fun n => rfl) H
  obtain ⟨N2, eN2⟩ : ∃ N, N = (wF M 633 0 0) := ⟨_, rfl⟩
  have hN2 : SQ N2 := by rw [eN2]; exact hS.kf
  have H : Ev none e 235 5 [some (.ref 633), some (.int c), some (.int t), none, none, none] [] N2 v M' 0 0 := by rw [eN2]; exact Ev.pfi rfl rfl rfl hS.1 qa_633 qi_61_0 H
  have H : Ev none e 235 6 [some (.ref 633), some (.int c), some (.int t), none, none, none] [.ref 633] N2 v M' 0 0 := Ev.back 1 (fun n => rfl) H
  obtain ⟨e1, rfl⟩ := Ev.dpos rfl rfl H
  obtain ⟨vK3, MK3, K3, H⟩ := Ev.callb (fun n_ => gs_7 rfl rfl (show gCal (.invokevirtual 144) 11 (.ref 633 :: []) N2 = some (.inr (139, [some (.ref 633)], [])) from by show @cond (Option ((List Value × Mem) ⊕ (Nat × Lo × List Value))) (true && gRecv N2 (.ref 633) 11 && gRoom [] && true) (some (.inr (139, [some (.ref 633)], []))) none = _; rw [recv_s hN2.1 qa_633 qo_61]; rfl)) H
  obtain ⟨pK3, qK3⟩ := g_139 hN2 K3
  rw [pK3, qK3] at H
  obtain ⟨N4, eN4⟩ : ∃ N, N = (X_139 N2) := ⟨_, rfl⟩
  have hN4 : SQ N4 := by rw [eN4]; exact X_139_sx hN2
  rw [← eN4] at H
  have H : Ev none (e1 + 1) 235 9 [some (.ref 633), some (.int c), some (.int t), none, none, none] [] N4 v M' 0 0 := H
  have H : Ev none (e1 + 1) 235 11 [some (.ref 633), some (.int c), some (.int t), none, none, none] [.int c, .ref 633] N4 v M' 0 0 := Ev.back 2 (fun n => rfl) H
  obtain ⟨vK5, MK5, K5, H⟩ := Ev.callb (fun n_ => gs_7 rfl rfl (show gCal (.invokevirtual 155) 11 (.int c :: .ref 633 :: []) N4 = some (.inr (145, [some (.ref 633), some (.int c)], [])) from by show @cond (Option ((List Value × Mem) ⊕ (Nat × Lo × List Value))) (true && gRecv N4 (.ref 633) 11 && gRoom [] && true) (some (.inr (145, [some (.ref 633), some (.int c)], []))) none = _; rw [recv_s hN4.1 qa_633 qo_61]; rfl)) H
  obtain ⟨pK5, qK5⟩ := g_145 hN4 K5
  rw [pK5, qK5] at H
  have H : Ev none (e1 + 1) 235 14 [some (.ref 633), some (.int c), some (.int t), none, none, none] [.int (G_145 N4 c)] N4 v M' 0 0 := H
  have H : Ev none (e1 + 1) 235 (if (G_145 N4 c) = 0 then 40 else 17) [some (.ref 633), some (.int c), some (.int t), none, none, none] [] N4 v M' 0 0 := Ev.back 1 (fun n => rfl) H
  by_cases h6 : (G_145 N4 c) = 0
  · rw [if_pos h6] at H
    have H : Ev none (e1 + 1) 235 42 [some (.ref 633), some (.int c), some (.int t), none, none, none] [.int (-2)] N4 v M' 0 0 := Ev.back 1 (fun n => rfl) H
    obtain ⟨z1, z2⟩ := Ev.retz rfl rfl H
    subst eN2 eN4
    exact Or.inl ⟨h6, z1, z2⟩
  · rw [if_neg h6] at H
    have H : Ev none (e1 + 1) 235 21 [some (.ref 633), some (.int c), some (.int t), none, none, none] [.int 100, .int 1, .int t] N4 v M' 0 0 := Ev.back 3 (fun n => rfl) H
    obtain ⟨vK7, MK7, K7, H⟩ := Ev.callb (fun n => rfl) H
    obtain ⟨pK7, qK7⟩ := g_140 hN4 K7
    rw [pK7, qK7] at H
    have H : Ev none (e1 + 1) 235 24 [some (.ref 633), some (.int c), some (.int t), none, none, none] [.int (G_140 N4 t 1 100)] N4 v M' 0 0 := H
    have H : Ev none (e1 + 1) 235 (if (G_140 N4 t 1 100) = 0 then 40 else 27) [some (.ref 633), some (.int c), some (.int t), none, none, none] [] N4 v M' 0 0 := Ev.back 1 (fun n => rfl) H
    by_cases h8 : (G_140 N4 t 1 100) = 0
    · rw [if_pos h8] at H
      have H : Ev none (e1 + 1) 235 42 [some (.ref 633), some (.int c), some (.int t), none, none, none] [.int (-2)] N4 v M' 0 0 := Ev.back 1 (fun n => rfl) H
      obtain ⟨z1, z2⟩ := Ev.retz rfl rfl H
      subst eN2 eN4
      exact Or.inr (Or.inl ⟨h6, h8, z1, z2⟩)
    · rw [if_neg h8] at H
      have H : Ev none (e1 + 1) 235 28 [some (.ref 633), some (.int c), some (.int t), none, none, none] [.ref 633] N4 v M' 0 0 := Ev.back 1 (fun n => rfl) H
      have H : Ev none (e1 + 1) 235 31 [some (.ref 633), some (.int c), some (.int t), none, none, none] [.int (zI N4 633 3)] N4 v M' 0 0 := Ev.back 1 (gs_3 rfl rfl (gf_i hN4.1 qa_633 qi_61_3 rfl)) H
      have H : Ev none (e1 + 1) 235 34 [some (.ref 633), some (.int c), some (.int t), none, none, none] [.int 12, .int 1, .int (zI N4 633 3)] N4 v M' 0 0 := Ev.back 2 (fun n => rfl) H
      obtain ⟨vK9, MK9, K9, H⟩ := Ev.callb (fun n => rfl) H
      obtain ⟨pK9, qK9⟩ := g_140 hN4 K9
      rw [pK9, qK9] at H
      have H : Ev none (e1 + 1) 235 37 [some (.ref 633), some (.int c), some (.int t), none, none, none] [.int (G_140 N4 (zI N4 633 3) 1 12)] N4 v M' 0 0 := H
      have H : Ev none (e1 + 1) 235 (if (G_140 N4 (zI N4 633 3) 1 12) = 0 then 40 else 43) [some (.ref 633), some (.int c), some (.int t), none, none, none] [] N4 v M' 0 0 := Ev.back 1 (fun n => rfl) H
      by_cases h10 : (G_140 N4 (zI N4 633 3) 1 12) = 0
      · rw [if_pos h10] at H
        have H : Ev none (e1 + 1) 235 42 [some (.ref 633), some (.int c), some (.int t), none, none, none] [.int (-2)] N4 v M' 0 0 := Ev.back 1 (fun n => rfl) H
        obtain ⟨z1, z2⟩ := Ev.retz rfl rfl H
        subst eN2 eN4
        exact Or.inr (Or.inr (Or.inl ⟨h6, h8, h10, z1, z2⟩))
      · rw [if_neg h10] at H
        have H : Ev none (e1 + 1) 235 45 [some (.ref 633), some (.int c), some (.int t), some (.int 0), none, none] [] N4 v M' 0 0 := Ev.back 2 (fun n => rfl) H
        have HF := H
        subst eN2 eN4
        exact Or.inr (Or.inr (Or.inr (⟨h6, h8, h10, HF⟩)))
theorem rfn_45 {e : Nat} {M M' : Mem} {v : Option Value} {c t i : Int32} (hS : SQ M) (H : Ev none e 235 45 [some (.ref 633), some (.int c), some (.int t), some (.int i), none, none] [] M v M' 0 0) : ((zI M 633 3) ≤ i ∧ Ev none e 235 110 [some (.ref 633), some (.int c), some (.int t), some (.int i), none, none] [] M v M' 0 0) ∨ (¬ ((zI M 633 3) ≤ i) ∧ (G_145 M (G_142 M i)) = 0 ∧ v = some (.int (-2)) ∧ M' = M) ∨ (¬ ((zI M 633 3) ≤ i) ∧ ¬ ((G_145 M (G_142 M i)) = 0) ∧ (G_148 M (G_142 M i)) = 0 ∧ v = some (.int (-2)) ∧ M' = M) ∨ (¬ ((zI M 633 3) ≤ i) ∧ ¬ ((G_145 M (G_142 M i)) = 0) ∧ ¬ ((G_148 M (G_142 M i)) = 0) ∧ (∃ e1 v1 M1, e = e1 + 1 ∧ Ev none e1 157 0 [some (.ref 633), some (.int (G_142 M i)), none] [] M v1 M1 0 0 ∧ Ev none e 235 86 [some (.ref 633), some (.int c), some (.int t), some (.int i), none, none] (v1.toList ++ []) M1 v M' 0 0)) := by
  have H : Ev none e 235 47 [some (.ref 633), some (.int c), some (.int t), some (.int i), none, none] [.ref 633, .int i] M v M' 0 0 := Ev.back 2 (fun n => rfl) H
  have H : Ev none e 235 50 [some (.ref 633), some (.int c), some (.int t), some (.int i), none, none] [.int (zI M 633 3), .int i] M v M' 0 0 := Ev.back 1 (gs_3 rfl rfl (gf_i hS.1 qa_633 qi_61_3 rfl)) H
  have H : Ev none e 235 (if (zI M 633 3) ≤ i then 110 else 53) [some (.ref 633), some (.int c), some (.int t), some (.int i), none, none] [] M v M' 0 0 := Ev.back 1 (fun n => rfl) H
  by_cases h1 : (zI M 633 3) ≤ i
  · rw [if_pos h1] at H
    have HF := H
    exact Or.inl ⟨h1, HF⟩
  · rw [if_neg h1] at H
    have H : Ev none e 235 56 [some (.ref 633), some (.int c), some (.int t), some (.int i), none, none] [.int i, .ref 633, .ref 633] M v M' 0 0 := Ev.back 3 (fun n => rfl) H
    obtain ⟨e1, rfl⟩ := Ev.dpos rfl rfl H
    obtain ⟨vK2, MK2, K2, H⟩ := Ev.callb (fun n_ => gs_7 rfl rfl (show gCal (.invokevirtual 147) 11 (.int i :: .ref 633 :: [.ref 633]) M = some (.inr (142, [some (.ref 633), some (.int i)], [.ref 633])) from by show @cond (Option ((List Value × Mem) ⊕ (Nat × Lo × List Value))) (true && gRecv M (.ref 633) 11 && gRoom [.ref 633] && true) (some (.inr (142, [some (.ref 633), some (.int i)], [.ref 633]))) none = _; rw [recv_s hS.1 qa_633 qo_61]; rfl)) H
    obtain ⟨pK2, qK2⟩ := g_142 hS K2
    rw [pK2, qK2] at H
    have H : Ev none (e1 + 1) 235 59 [some (.ref 633), some (.int c), some (.int t), some (.int i), none, none] [.int (G_142 M i), .ref 633] M v M' 0 0 := H
    obtain ⟨vK3, MK3, K3, H⟩ := Ev.callb (fun n_ => gs_7 rfl rfl (show gCal (.invokevirtual 155) 11 (.int (G_142 M i) :: .ref 633 :: []) M = some (.inr (145, [some (.ref 633), some (.int (G_142 M i))], [])) from by show @cond (Option ((List Value × Mem) ⊕ (Nat × Lo × List Value))) (true && gRecv M (.ref 633) 11 && gRoom [] && true) (some (.inr (145, [some (.ref 633), some (.int (G_142 M i))], []))) none = _; rw [recv_s hS.1 qa_633 qo_61]; rfl)) H
    obtain ⟨pK3, qK3⟩ := g_145 hS K3
    rw [pK3, qK3] at H
    have H : Ev none (e1 + 1) 235 62 [some (.ref 633), some (.int c), some (.int t), some (.int i), none, none] [.int (G_145 M (G_142 M i))] M v M' 0 0 := H
    have H : Ev none (e1 + 1) 235 (if (G_145 M (G_142 M i)) = 0 then 101 else 65) [some (.ref 633), some (.int c), some (.int t), some (.int i), none, none] [] M v M' 0 0 := Ev.back 1 (fun n => rfl) H
    by_cases h4 : (G_145 M (G_142 M i)) = 0
    · rw [if_pos h4] at H
      have H : Ev none (e1 + 1) 235 103 [some (.ref 633), some (.int c), some (.int t), some (.int i), none, none] [.int (-2)] M v M' 0 0 := Ev.back 1 (fun n => rfl) H
      obtain ⟨z1, z2⟩ := Ev.retz rfl rfl H
      exact Or.inr (Or.inl ⟨h1, h4, z1, z2⟩)
    · rw [if_neg h4] at H
      have H : Ev none (e1 + 1) 235 68 [some (.ref 633), some (.int c), some (.int t), some (.int i), none, none] [.int i, .ref 633, .ref 633] M v M' 0 0 := Ev.back 3 (fun n => rfl) H
      obtain ⟨vK5, MK5, K5, H⟩ := Ev.callb (fun n_ => gs_7 rfl rfl (show gCal (.invokevirtual 147) 11 (.int i :: .ref 633 :: [.ref 633]) M = some (.inr (142, [some (.ref 633), some (.int i)], [.ref 633])) from by show @cond (Option ((List Value × Mem) ⊕ (Nat × Lo × List Value))) (true && gRecv M (.ref 633) 11 && gRoom [.ref 633] && true) (some (.inr (142, [some (.ref 633), some (.int i)], [.ref 633]))) none = _; rw [recv_s hS.1 qa_633 qo_61]; rfl)) H
      obtain ⟨pK5, qK5⟩ := g_142 hS K5
      rw [pK5, qK5] at H
      have H : Ev none (e1 + 1) 235 71 [some (.ref 633), some (.int c), some (.int t), some (.int i), none, none] [.int (G_142 M i), .ref 633] M v M' 0 0 := H
      obtain ⟨vK6, MK6, K6, H⟩ := Ev.callb (fun n_ => gs_7 rfl rfl (show gCal (.invokevirtual 158) 11 (.int (G_142 M i) :: .ref 633 :: []) M = some (.inr (148, [some (.ref 633), some (.int (G_142 M i))], [])) from by show @cond (Option ((List Value × Mem) ⊕ (Nat × Lo × List Value))) (true && gRecv M (.ref 633) 11 && gRoom [] && true) (some (.inr (148, [some (.ref 633), some (.int (G_142 M i))], []))) none = _; rw [recv_s hS.1 qa_633 qo_61]; rfl)) H
      obtain ⟨pK6, qK6⟩ := g_148 hS K6
      rw [pK6, qK6] at H
      have H : Ev none (e1 + 1) 235 74 [some (.ref 633), some (.int c), some (.int t), some (.int i), none, none] [.int (G_148 M (G_142 M i))] M v M' 0 0 := H
      have H : Ev none (e1 + 1) 235 (if (G_148 M (G_142 M i)) = 0 then 101 else 77) [some (.ref 633), some (.int c), some (.int t), some (.int i), none, none] [] M v M' 0 0 := Ev.back 1 (fun n => rfl) H
      by_cases h7 : (G_148 M (G_142 M i)) = 0
      · rw [if_pos h7] at H
        have H : Ev none (e1 + 1) 235 103 [some (.ref 633), some (.int c), some (.int t), some (.int i), none, none] [.int (-2)] M v M' 0 0 := Ev.back 1 (fun n => rfl) H
        obtain ⟨z1, z2⟩ := Ev.retz rfl rfl H
        exact Or.inr (Or.inr (Or.inl ⟨h1, h4, h7, z1, z2⟩))
      · rw [if_neg h7] at H
        have H : Ev none (e1 + 1) 235 80 [some (.ref 633), some (.int c), some (.int t), some (.int i), none, none] [.int i, .ref 633, .ref 633] M v M' 0 0 := Ev.back 3 (fun n => rfl) H
        obtain ⟨vK8, MK8, K8, H⟩ := Ev.callb (fun n_ => gs_7 rfl rfl (show gCal (.invokevirtual 147) 11 (.int i :: .ref 633 :: [.ref 633]) M = some (.inr (142, [some (.ref 633), some (.int i)], [.ref 633])) from by show @cond (Option ((List Value × Mem) ⊕ (Nat × Lo × List Value))) (true && gRecv M (.ref 633) 11 && gRoom [.ref 633] && true) (some (.inr (142, [some (.ref 633), some (.int i)], [.ref 633]))) none = _; rw [recv_s hS.1 qa_633 qo_61]; rfl)) H
        obtain ⟨pK8, qK8⟩ := g_142 hS K8
        rw [pK8, qK8] at H
        have H : Ev none (e1 + 1) 235 83 [some (.ref 633), some (.int c), some (.int t), some (.int i), none, none] [.int (G_142 M i), .ref 633] M v M' 0 0 := H
        obtain ⟨vK9, MK9, K9, H⟩ := Ev.callb (fun n_ => gs_7 rfl rfl (show gCal (.invokevirtual 161) 11 (.int (G_142 M i) :: .ref 633 :: []) M = some (.inr (157, [some (.ref 633), some (.int (G_142 M i)), none], [])) from by show @cond (Option ((List Value × Mem) ⊕ (Nat × Lo × List Value))) (true && gRecv M (.ref 633) 11 && gRoom [] && true) (some (.inr (157, [some (.ref 633), some (.int (G_142 M i)), none], []))) none = _; rw [recv_s hS.1 qa_633 qo_61]; rfl)) H
        have K9 : Ev none e1 157 0 [some (.ref 633), some (.int (G_142 M i)), none] [] M vK9 MK9 0 0 := K9
        have HF := H
        exact Or.inr (Or.inr (Or.inr (⟨h1, h4, h7, ⟨e1, vK9, MK9, rfl, K9, HF⟩⟩)))
theorem rfn_86 {e : Nat} {M M' : Mem} {v : Option Value} {c t i r : Int32} (hS : SQ M) (H : Ev none e 235 86 [some (.ref 633), some (.int c), some (.int t), some (.int i), none, none] [.int r] M v M' 0 0) : (r = 0 ∧ (∃ e1 v1 M1, e = e1 + 1 ∧ Ev none e1 158 0 [some (.ref 633), some (.int (G_142 M i)), none] [] M v1 M1 0 0 ∧ Ev none e 235 98 [some (.ref 633), some (.int c), some (.int t), some (.int i), none, none] (v1.toList ++ []) M1 v M' 0 0)) ∨ (¬ (r = 0) ∧ v = some (.int (-2)) ∧ M' = M) := by
  have H : Ev none e 235 (if r = 0 then 89 else 101) [some (.ref 633), some (.int c), some (.int t), some (.int i), none, none] [] M v M' 0 0 := Ev.back 1 (fun n => rfl) H
  by_cases h1 : r = 0
  · rw [if_pos h1] at H
    have H : Ev none e 235 92 [some (.ref 633), some (.int c), some (.int t), some (.int i), none, none] [.int i, .ref 633, .ref 633] M v M' 0 0 := Ev.back 3 (fun n => rfl) H
    obtain ⟨e1, rfl⟩ := Ev.dpos rfl rfl H
    obtain ⟨vK2, MK2, K2, H⟩ := Ev.callb (fun n_ => gs_7 rfl rfl (show gCal (.invokevirtual 147) 11 (.int i :: .ref 633 :: [.ref 633]) M = some (.inr (142, [some (.ref 633), some (.int i)], [.ref 633])) from by show @cond (Option ((List Value × Mem) ⊕ (Nat × Lo × List Value))) (true && gRecv M (.ref 633) 11 && gRoom [.ref 633] && true) (some (.inr (142, [some (.ref 633), some (.int i)], [.ref 633]))) none = _; rw [recv_s hS.1 qa_633 qo_61]; rfl)) H
    obtain ⟨pK2, qK2⟩ := g_142 hS K2
    rw [pK2, qK2] at H
    have H : Ev none (e1 + 1) 235 95 [some (.ref 633), some (.int c), some (.int t), some (.int i), none, none] [.int (G_142 M i), .ref 633] M v M' 0 0 := H
    obtain ⟨vK3, MK3, K3, H⟩ := Ev.callb (fun n_ => gs_7 rfl rfl (show gCal (.invokevirtual 432) 11 (.int (G_142 M i) :: .ref 633 :: []) M = some (.inr (158, [some (.ref 633), some (.int (G_142 M i)), none], [])) from by show @cond (Option ((List Value × Mem) ⊕ (Nat × Lo × List Value))) (true && gRecv M (.ref 633) 11 && gRoom [] && true) (some (.inr (158, [some (.ref 633), some (.int (G_142 M i)), none], []))) none = _; rw [recv_s hS.1 qa_633 qo_61]; rfl)) H
    have K3 : Ev none e1 158 0 [some (.ref 633), some (.int (G_142 M i)), none] [] M vK3 MK3 0 0 := K3
    have HF := H
    exact Or.inl ⟨h1, ⟨e1, vK3, MK3, rfl, K3, HF⟩⟩
  · rw [if_neg h1] at H
    have H : Ev none e 235 103 [some (.ref 633), some (.int c), some (.int t), some (.int i), none, none] [.int (-2)] M v M' 0 0 := Ev.back 1 (fun n => rfl) H
    obtain ⟨z1, z2⟩ := Ev.retz rfl rfl H
    exact Or.inr (⟨h1, z1, z2⟩)
theorem rfn_98 {e : Nat} {M M' : Mem} {v : Option Value} {c t i r : Int32} (hS : SQ M) (H : Ev none e 235 98 [some (.ref 633), some (.int c), some (.int t), some (.int i), none, none] [.int r] M v M' 0 0) : (r = 0 ∧ Ev none e 235 45 [some (.ref 633), some (.int c), some (.int t), some (.int (i + 1)), none, none] [] M v M' 0 0) ∨ (¬ (r = 0) ∧ v = some (.int (-2)) ∧ M' = M) := by
  have H : Ev none e 235 (if r = 0 then 104 else 101) [some (.ref 633), some (.int c), some (.int t), some (.int i), none, none] [] M v M' 0 0 := Ev.back 1 (fun n => rfl) H
  by_cases h1 : r = 0
  · rw [if_pos h1] at H
    have H : Ev none e 235 45 [some (.ref 633), some (.int c), some (.int t), some (.int (i + 1)), none, none] [] M v M' 0 0 := Ev.back 2 (fun n => rfl) H
    have HF := H
    exact Or.inl ⟨h1, HF⟩
  · rw [if_neg h1] at H
    have H : Ev none e 235 103 [some (.ref 633), some (.int c), some (.int t), some (.int i), none, none] [.int (-2)] M v M' 0 0 := Ev.back 1 (fun n => rfl) H
    obtain ⟨z1, z2⟩ := Ev.retz rfl rfl H
    exact Or.inr (⟨h1, z1, z2⟩)
theorem rfn_110 {e : Nat} {M M' : Mem} {v : Option Value} {c t i : Int32} (hS : SQ M) (H : Ev none e 235 110 [some (.ref 633), some (.int c), some (.int t), some (.int i), none, none] [] M v M' 0 0) : (∃ e1 v1 M1, e = e1 + 1 ∧ Ev none e1 233 0 [some (.ref 633), some (.int (-1)), some (.int (-1)), some (.int t), none] [] (wF M 633 40 c) v1 M1 0 0 ∧ Ev none e 235 122 [some (.ref 633), some (.int c), some (.int t), some (.int i), none, none] (v1.toList ++ []) M1 v M' 0 0) := by
  have H : Ev none e 235 112 [some (.ref 633), some (.int c), some (.int t), some (.int i), none, none] [.int c, .ref 633] M v M' 0 0 := Ev.back 2 (fun n => rfl) H
  obtain ⟨N2, eN2⟩ : ∃ N, N = (wF M 633 40 c) := ⟨_, rfl⟩
  have hN2 : SQ N2 := by rw [eN2]; exact hS.kf
  have H : Ev none e 235 115 [some (.ref 633), some (.int c), some (.int t), some (.int i), none, none] [] N2 v M' 0 0 := by rw [eN2]; exact Ev.pfi rfl rfl rfl hS.1 qa_633 qi_61_40 H
  have H : Ev none e 235 119 [some (.ref 633), some (.int c), some (.int t), some (.int i), none, none] [.int t, .int (-1), .int (-1), .ref 633] N2 v M' 0 0 := Ev.back 4 (fun n => rfl) H
  obtain ⟨e1, rfl⟩ := Ev.dpos rfl rfl H
  obtain ⟨vK3, MK3, K3, H⟩ := Ev.callb (fun n_ => gs_7 rfl rfl (show gCal (.invokevirtual 488) 11 (.int t :: .int (-1) :: .int (-1) :: .ref 633 :: []) N2 = some (.inr (233, [some (.ref 633), some (.int (-1)), some (.int (-1)), some (.int t), none], [])) from by show @cond (Option ((List Value × Mem) ⊕ (Nat × Lo × List Value))) (true && gRecv N2 (.ref 633) 11 && gRoom [] && true) (some (.inr (233, [some (.ref 633), some (.int (-1)), some (.int (-1)), some (.int t), none], []))) none = _; rw [recv_s hN2.1 qa_633 qo_61]; rfl)) H
  have K3 : Ev none e1 233 0 [some (.ref 633), some (.int (-1)), some (.int (-1)), some (.int t), none] [] N2 vK3 MK3 0 0 := K3
  have HF := H
  subst eN2
  exact ⟨e1, vK3, MK3, rfl, K3, HF⟩
theorem rfn_122 {e : Nat} {M M' : Mem} {v : Option Value} {c t i r : Int32} (hS : SQ M) (H : Ev none e 235 122 [some (.ref 633), some (.int c), some (.int t), some (.int i), none, none] [.int r] M v M' 0 0) : (r = 0 ∧ Ev none e 235 140 [some (.ref 633), some (.int c), some (.int t), some (.int (A_234 M 0 (-1) (-1))), some (.int 0), none] [] (X_234 M 0 (-1) (-1)) v M' 0 0) ∨ (¬ (r = 0) ∧ Ev none e 235 140 [some (.ref 633), some (.int c), some (.int t), some (.int (-1)), some (.int 0), none] [] M v M' 0 0) := by
  have H : Ev none e 235 (if r = 0 then 129 else 125) [some (.ref 633), some (.int c), some (.int t), some (.int i), none, none] [] M v M' 0 0 := Ev.back 1 (fun n => rfl) H
  by_cases h1 : r = 0
  · rw [if_pos h1] at H
    have H : Ev none e 235 133 [some (.ref 633), some (.int c), some (.int t), some (.int i), none, none] [.int (-1), .int (-1), .int 0, .ref 633] M v M' 0 0 := Ev.back 4 (fun n => rfl) H
    obtain ⟨e1, rfl⟩ := Ev.dpos rfl rfl H
    obtain ⟨vK2, MK2, K2, H⟩ := Ev.callb (fun n_ => gs_7 rfl rfl (show gCal (.invokevirtual 491) 11 (.int (-1) :: .int (-1) :: .int 0 :: .ref 633 :: []) M = some (.inr (234, [some (.ref 633), some (.int 0), some (.int (-1)), some (.int (-1))], [])) from by show @cond (Option ((List Value × Mem) ⊕ (Nat × Lo × List Value))) (true && gRecv M (.ref 633) 11 && gRoom [] && true) (some (.inr (234, [some (.ref 633), some (.int 0), some (.int (-1)), some (.int (-1))], []))) none = _; rw [recv_s hS.1 qa_633 qo_61]; rfl)) H
    obtain ⟨pK2, qK2⟩ := g_234 hS K2
    rw [pK2, qK2] at H
    obtain ⟨N3, eN3⟩ : ∃ N, N = (X_234 M 0 (-1) (-1)) := ⟨_, rfl⟩
    have hN3 : SQ N3 := by rw [eN3]; exact X_234_sx hS
    rw [← eN3] at H
    have H : Ev none (e1 + 1) 235 136 [some (.ref 633), some (.int c), some (.int t), some (.int i), none, none] [.int (A_234 M 0 (-1) (-1))] N3 v M' 0 0 := H
    have H : Ev none (e1 + 1) 235 140 [some (.ref 633), some (.int c), some (.int t), some (.int (A_234 M 0 (-1) (-1))), some (.int 0), none] [] N3 v M' 0 0 := Ev.back 3 (fun n => rfl) H
    have HF := H
    subst eN3
    exact Or.inl ⟨h1, HF⟩
  · rw [if_neg h1] at H
    have H : Ev none e 235 140 [some (.ref 633), some (.int c), some (.int t), some (.int (-1)), some (.int 0), none] [] M v M' 0 0 := Ev.back 5 (fun n => rfl) H
    have HF := H
    exact Or.inr (⟨h1, HF⟩)
theorem rfn_140 {e : Nat} {M M' : Mem} {v : Option Value} {c t f i : Int32} {c5 : Option Value} (hS : SQ M) (H : Ev none e 235 140 [some (.ref 633), some (.int c), some (.int t), some (.int f), some (.int i), c5] [] M v M' 0 0) : ((zI M 633 3) ≤ i ∧ Ev none e 235 190 [some (.ref 633), some (.int c), some (.int t), some (.int f), some (.int 0), c5] [] M v M' 0 0) ∨ (¬ ((zI M 633 3) ≤ i) ∧ 0 ≤ f ∧ Ev none e 235 190 [some (.ref 633), some (.int c), some (.int t), some (.int f), some (.int 0), c5] [] M v M' 0 0) ∨ (¬ ((zI M 633 3) ≤ i) ∧ ¬ (0 ≤ f) ∧ (∃ e1 v1 M1, e = e1 + 1 ∧ Ev none e1 233 0 [some (.ref 633), some (.int (G_142 M i)), some (.int (-1)), some (.int t), none] [] M v1 M1 0 0 ∧ Ev none e 235 165 [some (.ref 633), some (.int c), some (.int t), some (.int f), some (.int i), c5] (v1.toList ++ []) M1 v M' 0 0)) := by
  have H : Ev none e 235 143 [some (.ref 633), some (.int c), some (.int t), some (.int f), some (.int i), c5] [.ref 633, .int i] M v M' 0 0 := Ev.back 2 (fun n => rfl) H
  have H : Ev none e 235 146 [some (.ref 633), some (.int c), some (.int t), some (.int f), some (.int i), c5] [.int (zI M 633 3), .int i] M v M' 0 0 := Ev.back 1 (gs_3 rfl rfl (gf_i hS.1 qa_633 qi_61_3 rfl)) H
  have H : Ev none e 235 (if (zI M 633 3) ≤ i then 187 else 149) [some (.ref 633), some (.int c), some (.int t), some (.int f), some (.int i), c5] [] M v M' 0 0 := Ev.back 1 (fun n => rfl) H
  by_cases h1 : (zI M 633 3) ≤ i
  · rw [if_pos h1] at H
    have H : Ev none e 235 190 [some (.ref 633), some (.int c), some (.int t), some (.int f), some (.int 0), c5] [] M v M' 0 0 := Ev.back 2 (fun n => rfl) H
    have HF := H
    exact Or.inl ⟨h1, HF⟩
  · rw [if_neg h1] at H
    have H : Ev none e 235 (if 0 ≤ f then 187 else 153) [some (.ref 633), some (.int c), some (.int t), some (.int f), some (.int i), c5] [] M v M' 0 0 := Ev.back 2 (fun n => rfl) H
    by_cases h2 : 0 ≤ f
    · rw [if_pos h2] at H
      have H : Ev none e 235 190 [some (.ref 633), some (.int c), some (.int t), some (.int f), some (.int 0), c5] [] M v M' 0 0 := Ev.back 2 (fun n => rfl) H
      have HF := H
      exact Or.inr (Or.inl ⟨h1, h2, HF⟩)
    · rw [if_neg h2] at H
      have H : Ev none e 235 157 [some (.ref 633), some (.int c), some (.int t), some (.int f), some (.int i), c5] [.int i, .ref 633, .ref 633] M v M' 0 0 := Ev.back 3 (fun n => rfl) H
      obtain ⟨e1, rfl⟩ := Ev.dpos rfl rfl H
      obtain ⟨vK3, MK3, K3, H⟩ := Ev.callb (fun n_ => gs_7 rfl rfl (show gCal (.invokevirtual 147) 11 (.int i :: .ref 633 :: [.ref 633]) M = some (.inr (142, [some (.ref 633), some (.int i)], [.ref 633])) from by show @cond (Option ((List Value × Mem) ⊕ (Nat × Lo × List Value))) (true && gRecv M (.ref 633) 11 && gRoom [.ref 633] && true) (some (.inr (142, [some (.ref 633), some (.int i)], [.ref 633]))) none = _; rw [recv_s hS.1 qa_633 qo_61]; rfl)) H
      obtain ⟨pK3, qK3⟩ := g_142 hS K3
      rw [pK3, qK3] at H
      have H : Ev none (e1 + 1) 235 160 [some (.ref 633), some (.int c), some (.int t), some (.int f), some (.int i), c5] [.int (G_142 M i), .ref 633] M v M' 0 0 := H
      have H : Ev none (e1 + 1) 235 162 [some (.ref 633), some (.int c), some (.int t), some (.int f), some (.int i), c5] [.int t, .int (-1), .int (G_142 M i), .ref 633] M v M' 0 0 := Ev.back 2 (fun n => rfl) H
      obtain ⟨vK4, MK4, K4, H⟩ := Ev.callb (fun n_ => gs_7 rfl rfl (show gCal (.invokevirtual 488) 11 (.int t :: .int (-1) :: .int (G_142 M i) :: .ref 633 :: []) M = some (.inr (233, [some (.ref 633), some (.int (G_142 M i)), some (.int (-1)), some (.int t), none], [])) from by show @cond (Option ((List Value × Mem) ⊕ (Nat × Lo × List Value))) (true && gRecv M (.ref 633) 11 && gRoom [] && true) (some (.inr (233, [some (.ref 633), some (.int (G_142 M i)), some (.int (-1)), some (.int t), none], []))) none = _; rw [recv_s hS.1 qa_633 qo_61]; rfl)) H
      have K4 : Ev none e1 233 0 [some (.ref 633), some (.int (G_142 M i)), some (.int (-1)), some (.int t), none] [] M vK4 MK4 0 0 := K4
      have HF := H
      exact Or.inr (Or.inr (⟨h1, h2, ⟨e1, vK4, MK4, rfl, K4, HF⟩⟩))
theorem rfn_165 {e : Nat} {M M' : Mem} {v : Option Value} {c t f i r : Int32} {c5 : Option Value} (hS : SQ M) (H : Ev none e 235 165 [some (.ref 633), some (.int c), some (.int t), some (.int f), some (.int i), c5] [.int r] M v M' 0 0) : (r = 0 ∧ Ev none e 235 140 [some (.ref 633), some (.int c), some (.int t), some (.int (A_234 M 1 (G_142 M i) (-1))), some (.int (i + 1)), c5] [] (X_234 M 1 (G_142 M i) (-1)) v M' 0 0) ∨ (¬ (r = 0) ∧ Ev none e 235 140 [some (.ref 633), some (.int c), some (.int t), some (.int f), some (.int (i + 1)), c5] [] M v M' 0 0) := by
  have H : Ev none e 235 (if r = 0 then 168 else 181) [some (.ref 633), some (.int c), some (.int t), some (.int f), some (.int i), c5] [] M v M' 0 0 := Ev.back 1 (fun n => rfl) H
  by_cases h1 : r = 0
  · rw [if_pos h1] at H
    have H : Ev none e 235 173 [some (.ref 633), some (.int c), some (.int t), some (.int f), some (.int i), c5] [.int i, .ref 633, .int 1, .ref 633] M v M' 0 0 := Ev.back 4 (fun n => rfl) H
    obtain ⟨e1, rfl⟩ := Ev.dpos rfl rfl H
    obtain ⟨vK2, MK2, K2, H⟩ := Ev.callb (fun n_ => gs_7 rfl rfl (show gCal (.invokevirtual 147) 11 (.int i :: .ref 633 :: [.int 1, .ref 633]) M = some (.inr (142, [some (.ref 633), some (.int i)], [.int 1, .ref 633])) from by show @cond (Option ((List Value × Mem) ⊕ (Nat × Lo × List Value))) (true && gRecv M (.ref 633) 11 && gRoom [.int 1, .ref 633] && true) (some (.inr (142, [some (.ref 633), some (.int i)], [.int 1, .ref 633]))) none = _; rw [recv_s hS.1 qa_633 qo_61]; rfl)) H
    obtain ⟨pK2, qK2⟩ := g_142 hS K2
    rw [pK2, qK2] at H
    have H : Ev none (e1 + 1) 235 176 [some (.ref 633), some (.int c), some (.int t), some (.int f), some (.int i), c5] [.int (G_142 M i), .int 1, .ref 633] M v M' 0 0 := H
    have H : Ev none (e1 + 1) 235 177 [some (.ref 633), some (.int c), some (.int t), some (.int f), some (.int i), c5] [.int (-1), .int (G_142 M i), .int 1, .ref 633] M v M' 0 0 := Ev.back 1 (fun n => rfl) H
    obtain ⟨vK3, MK3, K3, H⟩ := Ev.callb (fun n_ => gs_7 rfl rfl (show gCal (.invokevirtual 491) 11 (.int (-1) :: .int (G_142 M i) :: .int 1 :: .ref 633 :: []) M = some (.inr (234, [some (.ref 633), some (.int 1), some (.int (G_142 M i)), some (.int (-1))], [])) from by show @cond (Option ((List Value × Mem) ⊕ (Nat × Lo × List Value))) (true && gRecv M (.ref 633) 11 && gRoom [] && true) (some (.inr (234, [some (.ref 633), some (.int 1), some (.int (G_142 M i)), some (.int (-1))], []))) none = _; rw [recv_s hS.1 qa_633 qo_61]; rfl)) H
    obtain ⟨pK3, qK3⟩ := g_234 hS K3
    rw [pK3, qK3] at H
    obtain ⟨N4, eN4⟩ : ∃ N, N = (X_234 M 1 (G_142 M i) (-1)) := ⟨_, rfl⟩
    have hN4 : SQ N4 := by rw [eN4]; exact X_234_sx hS
    rw [← eN4] at H
    have H : Ev none (e1 + 1) 235 180 [some (.ref 633), some (.int c), some (.int t), some (.int f), some (.int i), c5] [.int (A_234 M 1 (G_142 M i) (-1))] N4 v M' 0 0 := H
    have H : Ev none (e1 + 1) 235 140 [some (.ref 633), some (.int c), some (.int t), some (.int (A_234 M 1 (G_142 M i) (-1))), some (.int (i + 1)), c5] [] N4 v M' 0 0 := Ev.back 3 (fun n => rfl) H
    have HF := H
    subst eN4
    exact Or.inl ⟨h1, HF⟩
  · rw [if_neg h1] at H
    have H : Ev none e 235 140 [some (.ref 633), some (.int c), some (.int t), some (.int f), some (.int (i + 1)), c5] [] M v M' 0 0 := Ev.back 2 (fun n => rfl) H
    have HF := H
    exact Or.inr (⟨h1, HF⟩)
theorem rfn_190 {e : Nat} {M M' : Mem} {v : Option Value} {c t f i : Int32} {c5 : Option Value} (hS : SQ M) (H : Ev none e 235 190 [some (.ref 633), some (.int c), some (.int t), some (.int f), some (.int i), c5] [] M v M' 0 0) : ((zI M 633 3) ≤ i ∧ v = some (.int f) ∧ M' = (wF M 633 40 (-1))) ∨ (¬ ((zI M 633 3) ≤ i) ∧ 0 ≤ f ∧ v = some (.int f) ∧ M' = (wF M 633 40 (-1))) ∨ (¬ ((zI M 633 3) ≤ i) ∧ ¬ (0 ≤ f) ∧ Ev none e 235 209 [some (.ref 633), some (.int c), some (.int t), some (.int f), some (.int i), some (.int (i + 1))] [] M v M' 0 0) := by
  have H : Ev none e 235 193 [some (.ref 633), some (.int c), some (.int t), some (.int f), some (.int i), c5] [.ref 633, .int i] M v M' 0 0 := Ev.back 2 (fun n => rfl) H
  have H : Ev none e 235 196 [some (.ref 633), some (.int c), some (.int t), some (.int f), some (.int i), c5] [.int (zI M 633 3), .int i] M v M' 0 0 := Ev.back 1 (gs_3 rfl rfl (gf_i hS.1 qa_633 qi_61_3 rfl)) H
  have H : Ev none e 235 (if (zI M 633 3) ≤ i then 272 else 199) [some (.ref 633), some (.int c), some (.int t), some (.int f), some (.int i), c5] [] M v M' 0 0 := Ev.back 1 (fun n => rfl) H
  by_cases h1 : (zI M 633 3) ≤ i
  · rw [if_pos h1] at H
    have H : Ev none e 235 274 [some (.ref 633), some (.int c), some (.int t), some (.int f), some (.int i), c5] [.int (-1), .ref 633] M v M' 0 0 := Ev.back 2 (fun n => rfl) H
    obtain ⟨N3, eN3⟩ : ∃ N, N = (wF M 633 40 (-1)) := ⟨_, rfl⟩
    have hN3 : SQ N3 := by rw [eN3]; exact hS.kf
    have H : Ev none e 235 277 [some (.ref 633), some (.int c), some (.int t), some (.int f), some (.int i), c5] [] N3 v M' 0 0 := by rw [eN3]; exact Ev.pfi rfl rfl rfl hS.1 qa_633 qi_61_40 H
    have H : Ev none e 235 278 [some (.ref 633), some (.int c), some (.int t), some (.int f), some (.int i), c5] [.int f] N3 v M' 0 0 := Ev.back 1 (fun n => rfl) H
    obtain ⟨z1, z2⟩ := Ev.retz rfl rfl H
    subst eN3
    exact Or.inl ⟨h1, z1, z2⟩
  · rw [if_neg h1] at H
    have H : Ev none e 235 (if 0 ≤ f then 272 else 203) [some (.ref 633), some (.int c), some (.int t), some (.int f), some (.int i), c5] [] M v M' 0 0 := Ev.back 2 (fun n => rfl) H
    by_cases h4 : 0 ≤ f
    · rw [if_pos h4] at H
      have H : Ev none e 235 274 [some (.ref 633), some (.int c), some (.int t), some (.int f), some (.int i), c5] [.int (-1), .ref 633] M v M' 0 0 := Ev.back 2 (fun n => rfl) H
      obtain ⟨N6, eN6⟩ : ∃ N, N = (wF M 633 40 (-1)) := ⟨_, rfl⟩
      have hN6 : SQ N6 := by rw [eN6]; exact hS.kf
      have H : Ev none e 235 277 [some (.ref 633), some (.int c), some (.int t), some (.int f), some (.int i), c5] [] N6 v M' 0 0 := by rw [eN6]; exact Ev.pfi rfl rfl rfl hS.1 qa_633 qi_61_40 H
      have H : Ev none e 235 278 [some (.ref 633), some (.int c), some (.int t), some (.int f), some (.int i), c5] [.int f] N6 v M' 0 0 := Ev.back 1 (fun n => rfl) H
      obtain ⟨z1, z2⟩ := Ev.retz rfl rfl H
      subst eN6
      exact Or.inr (Or.inl ⟨h1, h4, z1, z2⟩)
    · rw [if_neg h4] at H
      have H : Ev none e 235 209 [some (.ref 633), some (.int c), some (.int t), some (.int f), some (.int i), some (.int (i + 1))] [] M v M' 0 0 := Ev.back 4 (fun n => rfl) H
      have HF := H
      exact Or.inr (Or.inr (⟨h1, h4, HF⟩))
theorem rfn_209 {e : Nat} {M M' : Mem} {v : Option Value} {c t f i j : Int32} (hS : SQ M) (H : Ev none e 235 209 [some (.ref 633), some (.int c), some (.int t), some (.int f), some (.int i), some (.int j)] [] M v M' 0 0) : ((zI M 633 3) ≤ j ∧ Ev none e 235 190 [some (.ref 633), some (.int c), some (.int t), some (.int f), some (.int (i + 1)), some (.int j)] [] M v M' 0 0) ∨ (¬ ((zI M 633 3) ≤ j) ∧ 0 ≤ f ∧ Ev none e 235 190 [some (.ref 633), some (.int c), some (.int t), some (.int f), some (.int (i + 1)), some (.int j)] [] M v M' 0 0) ∨ (¬ ((zI M 633 3) ≤ j) ∧ ¬ (0 ≤ f) ∧ (∃ e1 v1 M1, e = e1 + 1 ∧ Ev none e1 233 0 [some (.ref 633), some (.int (G_142 M i)), some (.int (G_142 M j)), some (.int t), none] [] M v1 M1 0 0 ∧ Ev none e 235 239 [some (.ref 633), some (.int c), some (.int t), some (.int f), some (.int i), some (.int j)] (v1.toList ++ []) M1 v M' 0 0)) := by
  have H : Ev none e 235 212 [some (.ref 633), some (.int c), some (.int t), some (.int f), some (.int i), some (.int j)] [.ref 633, .int j] M v M' 0 0 := Ev.back 2 (fun n => rfl) H
  have H : Ev none e 235 215 [some (.ref 633), some (.int c), some (.int t), some (.int f), some (.int i), some (.int j)] [.int (zI M 633 3), .int j] M v M' 0 0 := Ev.back 1 (gs_3 rfl rfl (gf_i hS.1 qa_633 qi_61_3 rfl)) H
  have H : Ev none e 235 (if (zI M 633 3) ≤ j then 266 else 218) [some (.ref 633), some (.int c), some (.int t), some (.int f), some (.int i), some (.int j)] [] M v M' 0 0 := Ev.back 1 (fun n => rfl) H
  by_cases h1 : (zI M 633 3) ≤ j
  · rw [if_pos h1] at H
    have H : Ev none e 235 190 [some (.ref 633), some (.int c), some (.int t), some (.int f), some (.int (i + 1)), some (.int j)] [] M v M' 0 0 := Ev.back 2 (fun n => rfl) H
    have HF := H
    exact Or.inl ⟨h1, HF⟩
  · rw [if_neg h1] at H
    have H : Ev none e 235 (if 0 ≤ f then 266 else 222) [some (.ref 633), some (.int c), some (.int t), some (.int f), some (.int i), some (.int j)] [] M v M' 0 0 := Ev.back 2 (fun n => rfl) H
    by_cases h2 : 0 ≤ f
    · rw [if_pos h2] at H
      have H : Ev none e 235 190 [some (.ref 633), some (.int c), some (.int t), some (.int f), some (.int (i + 1)), some (.int j)] [] M v M' 0 0 := Ev.back 2 (fun n => rfl) H
      have HF := H
      exact Or.inr (Or.inl ⟨h1, h2, HF⟩)
    · rw [if_neg h2] at H
      have H : Ev none e 235 226 [some (.ref 633), some (.int c), some (.int t), some (.int f), some (.int i), some (.int j)] [.int i, .ref 633, .ref 633] M v M' 0 0 := Ev.back 3 (fun n => rfl) H
      obtain ⟨e1, rfl⟩ := Ev.dpos rfl rfl H
      obtain ⟨vK3, MK3, K3, H⟩ := Ev.callb (fun n_ => gs_7 rfl rfl (show gCal (.invokevirtual 147) 11 (.int i :: .ref 633 :: [.ref 633]) M = some (.inr (142, [some (.ref 633), some (.int i)], [.ref 633])) from by show @cond (Option ((List Value × Mem) ⊕ (Nat × Lo × List Value))) (true && gRecv M (.ref 633) 11 && gRoom [.ref 633] && true) (some (.inr (142, [some (.ref 633), some (.int i)], [.ref 633]))) none = _; rw [recv_s hS.1 qa_633 qo_61]; rfl)) H
      obtain ⟨pK3, qK3⟩ := g_142 hS K3
      rw [pK3, qK3] at H
      have H : Ev none (e1 + 1) 235 229 [some (.ref 633), some (.int c), some (.int t), some (.int f), some (.int i), some (.int j)] [.int (G_142 M i), .ref 633] M v M' 0 0 := H
      have H : Ev none (e1 + 1) 235 232 [some (.ref 633), some (.int c), some (.int t), some (.int f), some (.int i), some (.int j)] [.int j, .ref 633, .int (G_142 M i), .ref 633] M v M' 0 0 := Ev.back 2 (fun n => rfl) H
      obtain ⟨vK4, MK4, K4, H⟩ := Ev.callb (fun n_ => gs_7 rfl rfl (show gCal (.invokevirtual 147) 11 (.int j :: .ref 633 :: [.int (G_142 M i), .ref 633]) M = some (.inr (142, [some (.ref 633), some (.int j)], [.int (G_142 M i), .ref 633])) from by show @cond (Option ((List Value × Mem) ⊕ (Nat × Lo × List Value))) (true && gRecv M (.ref 633) 11 && gRoom [.int (G_142 M i), .ref 633] && true) (some (.inr (142, [some (.ref 633), some (.int j)], [.int (G_142 M i), .ref 633]))) none = _; rw [recv_s hS.1 qa_633 qo_61]; rfl)) H
      obtain ⟨pK4, qK4⟩ := g_142 hS K4
      rw [pK4, qK4] at H
      have H : Ev none (e1 + 1) 235 235 [some (.ref 633), some (.int c), some (.int t), some (.int f), some (.int i), some (.int j)] [.int (G_142 M j), .int (G_142 M i), .ref 633] M v M' 0 0 := H
      have H : Ev none (e1 + 1) 235 236 [some (.ref 633), some (.int c), some (.int t), some (.int f), some (.int i), some (.int j)] [.int t, .int (G_142 M j), .int (G_142 M i), .ref 633] M v M' 0 0 := Ev.back 1 (fun n => rfl) H
      obtain ⟨vK5, MK5, K5, H⟩ := Ev.callb (fun n_ => gs_7 rfl rfl (show gCal (.invokevirtual 488) 11 (.int t :: .int (G_142 M j) :: .int (G_142 M i) :: .ref 633 :: []) M = some (.inr (233, [some (.ref 633), some (.int (G_142 M i)), some (.int (G_142 M j)), some (.int t), none], [])) from by show @cond (Option ((List Value × Mem) ⊕ (Nat × Lo × List Value))) (true && gRecv M (.ref 633) 11 && gRoom [] && true) (some (.inr (233, [some (.ref 633), some (.int (G_142 M i)), some (.int (G_142 M j)), some (.int t), none], []))) none = _; rw [recv_s hS.1 qa_633 qo_61]; rfl)) H
      have K5 : Ev none e1 233 0 [some (.ref 633), some (.int (G_142 M i)), some (.int (G_142 M j)), some (.int t), none] [] M vK5 MK5 0 0 := K5
      have HF := H
      exact Or.inr (Or.inr (⟨h1, h2, ⟨e1, vK5, MK5, rfl, K5, HF⟩⟩))
theorem rfn_239 {e : Nat} {M M' : Mem} {v : Option Value} {c t f i j r : Int32} (hS : SQ M) (H : Ev none e 235 239 [some (.ref 633), some (.int c), some (.int t), some (.int f), some (.int i), some (.int j)] [.int r] M v M' 0 0) : (r = 0 ∧ Ev none e 235 209 [some (.ref 633), some (.int c), some (.int t), some (.int (A_234 M 2 (G_142 M i) (G_142 M j))), some (.int i), some (.int (j + 1))] [] (X_234 M 2 (G_142 M i) (G_142 M j)) v M' 0 0) ∨ (¬ (r = 0) ∧ Ev none e 235 209 [some (.ref 633), some (.int c), some (.int t), some (.int f), some (.int i), some (.int (j + 1))] [] M v M' 0 0) := by
  have H : Ev none e 235 (if r = 0 then 242 else 260) [some (.ref 633), some (.int c), some (.int t), some (.int f), some (.int i), some (.int j)] [] M v M' 0 0 := Ev.back 1 (fun n => rfl) H
  by_cases h1 : r = 0
  · rw [if_pos h1] at H
    have H : Ev none e 235 247 [some (.ref 633), some (.int c), some (.int t), some (.int f), some (.int i), some (.int j)] [.int i, .ref 633, .int 2, .ref 633] M v M' 0 0 := Ev.back 4 (fun n => rfl) H
    obtain ⟨e1, rfl⟩ := Ev.dpos rfl rfl H
    obtain ⟨vK2, MK2, K2, H⟩ := Ev.callb (fun n_ => gs_7 rfl rfl (show gCal (.invokevirtual 147) 11 (.int i :: .ref 633 :: [.int 2, .ref 633]) M = some (.inr (142, [some (.ref 633), some (.int i)], [.int 2, .ref 633])) from by show @cond (Option ((List Value × Mem) ⊕ (Nat × Lo × List Value))) (true && gRecv M (.ref 633) 11 && gRoom [.int 2, .ref 633] && true) (some (.inr (142, [some (.ref 633), some (.int i)], [.int 2, .ref 633]))) none = _; rw [recv_s hS.1 qa_633 qo_61]; rfl)) H
    obtain ⟨pK2, qK2⟩ := g_142 hS K2
    rw [pK2, qK2] at H
    have H : Ev none (e1 + 1) 235 250 [some (.ref 633), some (.int c), some (.int t), some (.int f), some (.int i), some (.int j)] [.int (G_142 M i), .int 2, .ref 633] M v M' 0 0 := H
    have H : Ev none (e1 + 1) 235 253 [some (.ref 633), some (.int c), some (.int t), some (.int f), some (.int i), some (.int j)] [.int j, .ref 633, .int (G_142 M i), .int 2, .ref 633] M v M' 0 0 := Ev.back 2 (fun n => rfl) H
    obtain ⟨vK3, MK3, K3, H⟩ := Ev.callb (fun n_ => gs_7 rfl rfl (show gCal (.invokevirtual 147) 11 (.int j :: .ref 633 :: [.int (G_142 M i), .int 2, .ref 633]) M = some (.inr (142, [some (.ref 633), some (.int j)], [.int (G_142 M i), .int 2, .ref 633])) from by show @cond (Option ((List Value × Mem) ⊕ (Nat × Lo × List Value))) (true && gRecv M (.ref 633) 11 && gRoom [.int (G_142 M i), .int 2, .ref 633] && true) (some (.inr (142, [some (.ref 633), some (.int j)], [.int (G_142 M i), .int 2, .ref 633]))) none = _; rw [recv_s hS.1 qa_633 qo_61]; rfl)) H
    obtain ⟨pK3, qK3⟩ := g_142 hS K3
    rw [pK3, qK3] at H
    have H : Ev none (e1 + 1) 235 256 [some (.ref 633), some (.int c), some (.int t), some (.int f), some (.int i), some (.int j)] [.int (G_142 M j), .int (G_142 M i), .int 2, .ref 633] M v M' 0 0 := H
    obtain ⟨vK4, MK4, K4, H⟩ := Ev.callb (fun n_ => gs_7 rfl rfl (show gCal (.invokevirtual 491) 11 (.int (G_142 M j) :: .int (G_142 M i) :: .int 2 :: .ref 633 :: []) M = some (.inr (234, [some (.ref 633), some (.int 2), some (.int (G_142 M i)), some (.int (G_142 M j))], [])) from by show @cond (Option ((List Value × Mem) ⊕ (Nat × Lo × List Value))) (true && gRecv M (.ref 633) 11 && gRoom [] && true) (some (.inr (234, [some (.ref 633), some (.int 2), some (.int (G_142 M i)), some (.int (G_142 M j))], []))) none = _; rw [recv_s hS.1 qa_633 qo_61]; rfl)) H
    obtain ⟨pK4, qK4⟩ := g_234 hS K4
    rw [pK4, qK4] at H
    obtain ⟨N5, eN5⟩ : ∃ N, N = (X_234 M 2 (G_142 M i) (G_142 M j)) := ⟨_, rfl⟩
    have hN5 : SQ N5 := by rw [eN5]; exact X_234_sx hS
    rw [← eN5] at H
    have H : Ev none (e1 + 1) 235 259 [some (.ref 633), some (.int c), some (.int t), some (.int f), some (.int i), some (.int j)] [.int (A_234 M 2 (G_142 M i) (G_142 M j))] N5 v M' 0 0 := H
    have H : Ev none (e1 + 1) 235 209 [some (.ref 633), some (.int c), some (.int t), some (.int (A_234 M 2 (G_142 M i) (G_142 M j))), some (.int i), some (.int (j + 1))] [] N5 v M' 0 0 := Ev.back 3 (fun n => rfl) H
    have HF := H
    subst eN5
    exact Or.inl ⟨h1, HF⟩
  · rw [if_neg h1] at H
    have H : Ev none e 235 209 [some (.ref 633), some (.int c), some (.int t), some (.int f), some (.int i), some (.int (j + 1))] [] M v M' 0 0 := Ev.back 2 (fun n => rfl) H
    have HF := H
    exact Or.inr (⟨h1, HF⟩)
theorem rls_0 {e : Nat} {M M' : Mem} {v : Option Value} {k c ws t : Int32} (hS : SQ M) (H : Ev none e 237 0 [some (.ref 633), some (.int k), some (.int c), some (.int ws), some (.int t), none, none] [] M v M' 0 0) : ((G_189 (wF M 633 0 0) k) = 0 ∧ v = some (.int (-2)) ∧ M' = (wF M 633 0 0)) ∨ (¬ ((G_189 (wF M 633 0 0) k) = 0) ∧ (G_145 (wF M 633 0 0) c) = 0 ∧ v = some (.int (-2)) ∧ M' = (wF M 633 0 0)) ∨ (¬ ((G_189 (wF M 633 0 0) k) = 0) ∧ ¬ ((G_145 (wF M 633 0 0) c) = 0) ∧ (G_140 (wF M 633 0 0) ws 1 40) = 0 ∧ v = some (.int (-2)) ∧ M' = (wF M 633 0 0)) ∨ (¬ ((G_189 (wF M 633 0 0) k) = 0) ∧ ¬ ((G_145 (wF M 633 0 0) c) = 0) ∧ ¬ ((G_140 (wF M 633 0 0) ws 1 40) = 0) ∧ (G_140 (wF M 633 0 0) t 1 200) = 0 ∧ v = some (.int (-2)) ∧ M' = (wF M 633 0 0)) ∨ (¬ ((G_189 (wF M 633 0 0) k) = 0) ∧ ¬ ((G_145 (wF M 633 0 0) c) = 0) ∧ ¬ ((G_140 (wF M 633 0 0) ws 1 40) = 0) ∧ ¬ ((G_140 (wF M 633 0 0) t 1 200) = 0) ∧ (G_150 (wF M 633 0 0) c) = 0 ∧ v = some (.int 0) ∧ M' = (wF M 633 0 0)) ∨ (¬ ((G_189 (wF M 633 0 0) k) = 0) ∧ ¬ ((G_145 (wF M 633 0 0) c) = 0) ∧ ¬ ((G_140 (wF M 633 0 0) ws 1 40) = 0) ∧ ¬ ((G_140 (wF M 633 0 0) t 1 200) = 0) ∧ ¬ ((G_150 (wF M 633 0 0) c) = 0) ∧ (∃ e1 v1 M1, e = e1 + 1 ∧ Ev none e1 153 0 [some (.ref 633), none] [] (wF M 633 0 0) v1 M1 0 0 ∧ Ev none e 237 60 [some (.ref 633), some (.int k), some (.int c), some (.int ws), some (.int t), none, none] (v1.toList ++ []) M1 v M' 0 0)) := by
  have H : Ev none e 237 2 [some (.ref 633), some (.int k), some (.int c), some (.int ws), some (.int t), none, none] [.int 0, .ref 633] M v M' 0 0 := Ev.back 2 (fun n => rfl) H
  obtain ⟨N2, eN2⟩ : ∃ N, N = (wF M 633 0 0) := ⟨_, rfl⟩
  have hN2 : SQ N2 := by rw [eN2]; exact hS.kf
  have H : Ev none e 237 5 [some (.ref 633), some (.int k), some (.int c), some (.int ws), some (.int t), none, none] [] N2 v M' 0 0 := by rw [eN2]; exact Ev.pfi rfl rfl rfl hS.1 qa_633 qi_61_0 H
  have H : Ev none e 237 7 [some (.ref 633), some (.int k), some (.int c), some (.int ws), some (.int t), none, none] [.int k, .ref 633] N2 v M' 0 0 := Ev.back 2 (fun n => rfl) H
  obtain ⟨e1, rfl⟩ := Ev.dpos rfl rfl H
  obtain ⟨vK3, MK3, K3, H⟩ := Ev.callb (fun n_ => gs_7 rfl rfl (show gCal (.invokevirtual 344) 11 (.int k :: .ref 633 :: []) N2 = some (.inr (189, [some (.ref 633), some (.int k)], [])) from by show @cond (Option ((List Value × Mem) ⊕ (Nat × Lo × List Value))) (true && gRecv N2 (.ref 633) 11 && gRoom [] && true) (some (.inr (189, [some (.ref 633), some (.int k)], []))) none = _; rw [recv_s hN2.1 qa_633 qo_61]; rfl)) H
  obtain ⟨pK3, qK3⟩ := g_189 hN2 K3
  rw [pK3, qK3] at H
  have H : Ev none (e1 + 1) 237 10 [some (.ref 633), some (.int k), some (.int c), some (.int ws), some (.int t), none, none] [.int (G_189 N2 k)] N2 v M' 0 0 := H
  have H : Ev none (e1 + 1) 237 (if (G_189 N2 k) = 0 then 43 else 13) [some (.ref 633), some (.int k), some (.int c), some (.int ws), some (.int t), none, none] [] N2 v M' 0 0 := Ev.back 1 (fun n => rfl) H
  by_cases h4 : (G_189 N2 k) = 0
  · rw [if_pos h4] at H
    have H : Ev none (e1 + 1) 237 45 [some (.ref 633), some (.int k), some (.int c), some (.int ws), some (.int t), none, none] [.int (-2)] N2 v M' 0 0 := Ev.back 1 (fun n => rfl) H
    obtain ⟨z1, z2⟩ := Ev.retz rfl rfl H
    subst eN2
    exact Or.inl ⟨h4, z1, z2⟩
  · rw [if_neg h4] at H
    have H : Ev none (e1 + 1) 237 15 [some (.ref 633), some (.int k), some (.int c), some (.int ws), some (.int t), none, none] [.int c, .ref 633] N2 v M' 0 0 := Ev.back 2 (fun n => rfl) H
    obtain ⟨vK5, MK5, K5, H⟩ := Ev.callb (fun n_ => gs_7 rfl rfl (show gCal (.invokevirtual 155) 11 (.int c :: .ref 633 :: []) N2 = some (.inr (145, [some (.ref 633), some (.int c)], [])) from by show @cond (Option ((List Value × Mem) ⊕ (Nat × Lo × List Value))) (true && gRecv N2 (.ref 633) 11 && gRoom [] && true) (some (.inr (145, [some (.ref 633), some (.int c)], []))) none = _; rw [recv_s hN2.1 qa_633 qo_61]; rfl)) H
    obtain ⟨pK5, qK5⟩ := g_145 hN2 K5
    rw [pK5, qK5] at H
    have H : Ev none (e1 + 1) 237 18 [some (.ref 633), some (.int k), some (.int c), some (.int ws), some (.int t), none, none] [.int (G_145 N2 c)] N2 v M' 0 0 := H
    have H : Ev none (e1 + 1) 237 (if (G_145 N2 c) = 0 then 43 else 21) [some (.ref 633), some (.int k), some (.int c), some (.int ws), some (.int t), none, none] [] N2 v M' 0 0 := Ev.back 1 (fun n => rfl) H
    by_cases h6 : (G_145 N2 c) = 0
    · rw [if_pos h6] at H
      have H : Ev none (e1 + 1) 237 45 [some (.ref 633), some (.int k), some (.int c), some (.int ws), some (.int t), none, none] [.int (-2)] N2 v M' 0 0 := Ev.back 1 (fun n => rfl) H
      obtain ⟨z1, z2⟩ := Ev.retz rfl rfl H
      subst eN2
      exact Or.inr (Or.inl ⟨h4, h6, z1, z2⟩)
    · rw [if_neg h6] at H
      have H : Ev none (e1 + 1) 237 25 [some (.ref 633), some (.int k), some (.int c), some (.int ws), some (.int t), none, none] [.int 40, .int 1, .int ws] N2 v M' 0 0 := Ev.back 3 (fun n => rfl) H
      obtain ⟨vK7, MK7, K7, H⟩ := Ev.callb (fun n => rfl) H
      obtain ⟨pK7, qK7⟩ := g_140 hN2 K7
      rw [pK7, qK7] at H
      have H : Ev none (e1 + 1) 237 28 [some (.ref 633), some (.int k), some (.int c), some (.int ws), some (.int t), none, none] [.int (G_140 N2 ws 1 40)] N2 v M' 0 0 := H
      have H : Ev none (e1 + 1) 237 (if (G_140 N2 ws 1 40) = 0 then 43 else 31) [some (.ref 633), some (.int k), some (.int c), some (.int ws), some (.int t), none, none] [] N2 v M' 0 0 := Ev.back 1 (fun n => rfl) H
      by_cases h8 : (G_140 N2 ws 1 40) = 0
      · rw [if_pos h8] at H
        have H : Ev none (e1 + 1) 237 45 [some (.ref 633), some (.int k), some (.int c), some (.int ws), some (.int t), none, none] [.int (-2)] N2 v M' 0 0 := Ev.back 1 (fun n => rfl) H
        obtain ⟨z1, z2⟩ := Ev.retz rfl rfl H
        subst eN2
        exact Or.inr (Or.inr (Or.inl ⟨h4, h6, h8, z1, z2⟩))
      · rw [if_neg h8] at H
        have H : Ev none (e1 + 1) 237 37 [some (.ref 633), some (.int k), some (.int c), some (.int ws), some (.int t), none, none] [.int 200, .int 1, .int t] N2 v M' 0 0 := Ev.back 3 (fun n => rfl) H
        obtain ⟨vK9, MK9, K9, H⟩ := Ev.callb (fun n => rfl) H
        obtain ⟨pK9, qK9⟩ := g_140 hN2 K9
        rw [pK9, qK9] at H
        have H : Ev none (e1 + 1) 237 40 [some (.ref 633), some (.int k), some (.int c), some (.int ws), some (.int t), none, none] [.int (G_140 N2 t 1 200)] N2 v M' 0 0 := H
        have H : Ev none (e1 + 1) 237 (if (G_140 N2 t 1 200) = 0 then 43 else 46) [some (.ref 633), some (.int k), some (.int c), some (.int ws), some (.int t), none, none] [] N2 v M' 0 0 := Ev.back 1 (fun n => rfl) H
        by_cases h10 : (G_140 N2 t 1 200) = 0
        · rw [if_pos h10] at H
          have H : Ev none (e1 + 1) 237 45 [some (.ref 633), some (.int k), some (.int c), some (.int ws), some (.int t), none, none] [.int (-2)] N2 v M' 0 0 := Ev.back 1 (fun n => rfl) H
          obtain ⟨z1, z2⟩ := Ev.retz rfl rfl H
          subst eN2
          exact Or.inr (Or.inr (Or.inr (Or.inl ⟨h4, h6, h8, h10, z1, z2⟩)))
        · rw [if_neg h10] at H
          have H : Ev none (e1 + 1) 237 48 [some (.ref 633), some (.int k), some (.int c), some (.int ws), some (.int t), none, none] [.int c, .ref 633] N2 v M' 0 0 := Ev.back 2 (fun n => rfl) H
          obtain ⟨vK11, MK11, K11, H⟩ := Ev.callb (fun n_ => gs_7 rfl rfl (show gCal (.invokevirtual 140) 11 (.int c :: .ref 633 :: []) N2 = some (.inr (150, [some (.ref 633), some (.int c)], [])) from by show @cond (Option ((List Value × Mem) ⊕ (Nat × Lo × List Value))) (true && gRecv N2 (.ref 633) 11 && gRoom [] && true) (some (.inr (150, [some (.ref 633), some (.int c)], []))) none = _; rw [recv_s hN2.1 qa_633 qo_61]; rfl)) H
          obtain ⟨pK11, qK11⟩ := g_150 hN2 K11
          rw [pK11, qK11] at H
          have H : Ev none (e1 + 1) 237 51 [some (.ref 633), some (.int k), some (.int c), some (.int ws), some (.int t), none, none] [.int (G_150 N2 c)] N2 v M' 0 0 := H
          have H : Ev none (e1 + 1) 237 (if (G_150 N2 c) = 0 then 54 else 56) [some (.ref 633), some (.int k), some (.int c), some (.int ws), some (.int t), none, none] [] N2 v M' 0 0 := Ev.back 1 (fun n => rfl) H
          by_cases h12 : (G_150 N2 c) = 0
          · rw [if_pos h12] at H
            have H : Ev none (e1 + 1) 237 55 [some (.ref 633), some (.int k), some (.int c), some (.int ws), some (.int t), none, none] [.int 0] N2 v M' 0 0 := Ev.back 1 (fun n => rfl) H
            obtain ⟨z1, z2⟩ := Ev.retz rfl rfl H
            subst eN2
            exact Or.inr (Or.inr (Or.inr (Or.inr (Or.inl ⟨h4, h6, h8, h10, h12, z1, z2⟩))))
          · rw [if_neg h12] at H
            have H : Ev none (e1 + 1) 237 57 [some (.ref 633), some (.int k), some (.int c), some (.int ws), some (.int t), none, none] [.ref 633] N2 v M' 0 0 := Ev.back 1 (fun n => rfl) H
            obtain ⟨vK13, MK13, K13, H⟩ := Ev.callb (fun n_ => gs_7 rfl rfl (show gCal (.invokevirtual 445) 11 (.ref 633 :: []) N2 = some (.inr (153, [some (.ref 633), none], [])) from by show @cond (Option ((List Value × Mem) ⊕ (Nat × Lo × List Value))) (true && gRecv N2 (.ref 633) 11 && gRoom [] && true) (some (.inr (153, [some (.ref 633), none], []))) none = _; rw [recv_s hN2.1 qa_633 qo_61]; rfl)) H
            have K13 : Ev none e1 153 0 [some (.ref 633), none] [] N2 vK13 MK13 0 0 := K13
            have HF := H
            subst eN2
            exact Or.inr (Or.inr (Or.inr (Or.inr (Or.inr (⟨h4, h6, h8, h10, h12, ⟨e1, vK13, MK13, rfl, K13, HF⟩⟩)))))
theorem rls_60 {e : Nat} {M M' : Mem} {v : Option Value} {k c ws t : Int32} (hS : SQ M) (H : Ev none e 237 60 [some (.ref 633), some (.int k), some (.int c), some (.int ws), some (.int t), none, none] [] M v M' 0 0) : (0 ≤ ((13 + (6 * k)) + 5).toInt ∧ ((13 + (6 * k)) + 5).toInt < 2314) ∧ Ev none e 237 81 [some (.ref 633), some (.int k), some (.int c), some (.int ws), some (.int t), some (.int (-1)), some (.int 1)] [] (wI M 635 (((13 + (6 * k)) + 5).toNatClampNeg) 0) v M' 0 0 := by
  have H : Ev none e 237 61 [some (.ref 633), some (.int k), some (.int c), some (.int ws), some (.int t), none, none] [.ref 633] M v M' 0 0 := Ev.back 1 (fun n => rfl) H
  have H : Ev none e 237 64 [some (.ref 633), some (.int k), some (.int c), some (.int ws), some (.int t), none, none] [.ref 635] M v M' 0 0 := Ev.back 1 (gs_3 rfl rfl (gf_u hS.1 qa_633 qr_61_5 qu_63 rfl)) H
  have H : Ev none e 237 74 [some (.ref 633), some (.int k), some (.int c), some (.int ws), some (.int t), none, none] [.int 0, .int ((13 + (6 * k)) + 5), .ref 635] M v M' 0 0 := Ev.back 8 (fun n => rfl) H
  obtain ⟨b1, H⟩ := Ev.ias rfl rfl hS.1 qa_635 qw_63 H
  obtain ⟨N2, eN2⟩ : ∃ N, N = (wI M 635 (((13 + (6 * k)) + 5).toNatClampNeg) 0) := ⟨_, rfl⟩
  have hN2 : SQ N2 := by rw [eN2]; exact hS.ki
  have H : Ev none e 237 75 [some (.ref 633), some (.int k), some (.int c), some (.int ws), some (.int t), none, none] [] N2 v M' 0 0 := by rw [eN2]; exact H
  have H : Ev none e 237 81 [some (.ref 633), some (.int k), some (.int c), some (.int ws), some (.int t), some (.int (-1)), some (.int 1)] [] N2 v M' 0 0 := Ev.back 4 (fun n => rfl) H
  have HF := H
  subst eN2
  exact ⟨b1, HF⟩
theorem rls_81 {e : Nat} {M M' : Mem} {v : Option Value} {k c ws t f n : Int32} (hS : SQ M) (H : Ev none e 237 81 [some (.ref 633), some (.int k), some (.int c), some (.int ws), some (.int t), some (.int f), some (.int n)] [] M v M' 0 0) : (ws < n ∧ (∃ e1 v1 M1, e = e1 + 1 ∧ Ev none e1 154 0 [some (.ref 633), none] [] M v1 M1 0 0 ∧ Ev none e 237 120 [some (.ref 633), some (.int k), some (.int c), some (.int ws), some (.int t), some (.int f), some (.int n)] (v1.toList ++ []) M1 v M' 0 0)) ∨ (¬ (ws < n) ∧ 0 ≤ f ∧ (∃ e1 v1 M1, e = e1 + 1 ∧ Ev none e1 154 0 [some (.ref 633), none] [] M v1 M1 0 0 ∧ Ev none e 237 120 [some (.ref 633), some (.int k), some (.int c), some (.int ws), some (.int t), some (.int f), some (.int n)] (v1.toList ++ []) M1 v M' 0 0)) ∨ (¬ (ws < n) ∧ ¬ (0 ≤ f) ∧ (∃ e1 v1 M1, e = e1 + 1 ∧ Ev none e1 222 0 [some (.ref 633), some (.int t), none] [] M v1 M1 0 0 ∧ Ev none e 237 98 [some (.ref 633), some (.int k), some (.int c), some (.int ws), some (.int t), some (.int f), some (.int n)] (v1.toList ++ []) M1 v M' 0 0)) := by
  have H : Ev none e 237 (if ws < n then 116 else 87) [some (.ref 633), some (.int k), some (.int c), some (.int ws), some (.int t), some (.int f), some (.int n)] [] M v M' 0 0 := Ev.back 3 (fun n => rfl) H
  by_cases h1 : ws < n
  · rw [if_pos h1] at H
    have H : Ev none e 237 117 [some (.ref 633), some (.int k), some (.int c), some (.int ws), some (.int t), some (.int f), some (.int n)] [.ref 633] M v M' 0 0 := Ev.back 1 (fun n => rfl) H
    obtain ⟨e1, rfl⟩ := Ev.dpos rfl rfl H
    obtain ⟨vK2, MK2, K2, H⟩ := Ev.callb (fun n_ => gs_7 rfl rfl (show gCal (.invokevirtual 459) 11 (.ref 633 :: []) M = some (.inr (154, [some (.ref 633), none], [])) from by show @cond (Option ((List Value × Mem) ⊕ (Nat × Lo × List Value))) (true && gRecv M (.ref 633) 11 && gRoom [] && true) (some (.inr (154, [some (.ref 633), none], []))) none = _; rw [recv_s hS.1 qa_633 qo_61]; rfl)) H
    have K2 : Ev none e1 154 0 [some (.ref 633), none] [] M vK2 MK2 0 0 := K2
    have HF := H
    exact Or.inl ⟨h1, ⟨e1, vK2, MK2, rfl, K2, HF⟩⟩
  · rw [if_neg h1] at H
    have H : Ev none e 237 (if 0 ≤ f then 116 else 92) [some (.ref 633), some (.int k), some (.int c), some (.int ws), some (.int t), some (.int f), some (.int n)] [] M v M' 0 0 := Ev.back 2 (fun n => rfl) H
    by_cases h3 : 0 ≤ f
    · rw [if_pos h3] at H
      have H : Ev none e 237 117 [some (.ref 633), some (.int k), some (.int c), some (.int ws), some (.int t), some (.int f), some (.int n)] [.ref 633] M v M' 0 0 := Ev.back 1 (fun n => rfl) H
      obtain ⟨e1, rfl⟩ := Ev.dpos rfl rfl H
      obtain ⟨vK4, MK4, K4, H⟩ := Ev.callb (fun n_ => gs_7 rfl rfl (show gCal (.invokevirtual 459) 11 (.ref 633 :: []) M = some (.inr (154, [some (.ref 633), none], [])) from by show @cond (Option ((List Value × Mem) ⊕ (Nat × Lo × List Value))) (true && gRecv M (.ref 633) 11 && gRoom [] && true) (some (.inr (154, [some (.ref 633), none], []))) none = _; rw [recv_s hS.1 qa_633 qo_61]; rfl)) H
      have K4 : Ev none e1 154 0 [some (.ref 633), none] [] M vK4 MK4 0 0 := K4
      have HF := H
      exact Or.inr (Or.inl ⟨h1, h3, ⟨e1, vK4, MK4, rfl, K4, HF⟩⟩)
    · rw [if_neg h3] at H
      have H : Ev none e 237 95 [some (.ref 633), some (.int k), some (.int c), some (.int ws), some (.int t), some (.int f), some (.int n)] [.int t, .ref 633] M v M' 0 0 := Ev.back 2 (fun n => rfl) H
      obtain ⟨e1, rfl⟩ := Ev.dpos rfl rfl H
      obtain ⟨vK5, MK5, K5, H⟩ := Ev.callb (fun n_ => gs_7 rfl rfl (show gCal (.invokevirtual 452) 11 (.int t :: .ref 633 :: []) M = some (.inr (222, [some (.ref 633), some (.int t), none], [])) from by show @cond (Option ((List Value × Mem) ⊕ (Nat × Lo × List Value))) (true && gRecv M (.ref 633) 11 && gRoom [] && true) (some (.inr (222, [some (.ref 633), some (.int t), none], []))) none = _; rw [recv_s hS.1 qa_633 qo_61]; rfl)) H
      have K5 : Ev none e1 222 0 [some (.ref 633), some (.int t), none] [] M vK5 MK5 0 0 := K5
      have HF := H
      exact Or.inr (Or.inr (⟨h1, h3, ⟨e1, vK5, MK5, rfl, K5, HF⟩⟩))
theorem rls_98 {e : Nat} {M M' : Mem} {v : Option Value} {k c ws t f n : Int32} (hS : SQ M) (H : Ev none e 237 98 [some (.ref 633), some (.int k), some (.int c), some (.int ws), some (.int t), some (.int f), some (.int n)] [] M v M' 0 0) : ((G_150 M c) = 0 ∧ Ev none e 237 81 [some (.ref 633), some (.int k), some (.int c), some (.int ws), some (.int t), some (.int n), some (.int (n + 1))] [] M v M' 0 0) ∨ (¬ ((G_150 M c) = 0) ∧ Ev none e 237 81 [some (.ref 633), some (.int k), some (.int c), some (.int ws), some (.int t), some (.int f), some (.int (n + 1))] [] M v M' 0 0) := by
  have H : Ev none e 237 100 [some (.ref 633), some (.int k), some (.int c), some (.int ws), some (.int t), some (.int f), some (.int n)] [.int c, .ref 633] M v M' 0 0 := Ev.back 2 (fun n => rfl) H
  obtain ⟨e1, rfl⟩ := Ev.dpos rfl rfl H
  obtain ⟨vK1, MK1, K1, H⟩ := Ev.callb (fun n_ => gs_7 rfl rfl (show gCal (.invokevirtual 140) 11 (.int c :: .ref 633 :: []) M = some (.inr (150, [some (.ref 633), some (.int c)], [])) from by show @cond (Option ((List Value × Mem) ⊕ (Nat × Lo × List Value))) (true && gRecv M (.ref 633) 11 && gRoom [] && true) (some (.inr (150, [some (.ref 633), some (.int c)], []))) none = _; rw [recv_s hS.1 qa_633 qo_61]; rfl)) H
  obtain ⟨pK1, qK1⟩ := g_150 hS K1
  rw [pK1, qK1] at H
  have H : Ev none (e1 + 1) 237 103 [some (.ref 633), some (.int k), some (.int c), some (.int ws), some (.int t), some (.int f), some (.int n)] [.int (G_150 M c)] M v M' 0 0 := H
  have H : Ev none (e1 + 1) 237 (if (G_150 M c) = 0 then 106 else 110) [some (.ref 633), some (.int k), some (.int c), some (.int ws), some (.int t), some (.int f), some (.int n)] [] M v M' 0 0 := Ev.back 1 (fun n => rfl) H
  by_cases h2 : (G_150 M c) = 0
  · rw [if_pos h2] at H
    have H : Ev none (e1 + 1) 237 81 [some (.ref 633), some (.int k), some (.int c), some (.int ws), some (.int t), some (.int n), some (.int (n + 1))] [] M v M' 0 0 := Ev.back 4 (fun n => rfl) H
    have HF := H
    exact Or.inl ⟨h2, HF⟩
  · rw [if_neg h2] at H
    have H : Ev none (e1 + 1) 237 81 [some (.ref 633), some (.int k), some (.int c), some (.int ws), some (.int t), some (.int f), some (.int (n + 1))] [] M v M' 0 0 := Ev.back 2 (fun n => rfl) H
    have HF := H
    exact Or.inr (⟨h2, HF⟩)
theorem rls_120 {e : Nat} {M M' : Mem} {v : Option Value} {k c ws t f n : Int32} (hS : SQ M) (H : Ev none e 237 120 [some (.ref 633), some (.int k), some (.int c), some (.int ws), some (.int t), some (.int f), some (.int n)] [] M v M' 0 0) : v = some (.int f) ∧ M' = M := by
  have H : Ev none e 237 122 [some (.ref 633), some (.int k), some (.int c), some (.int ws), some (.int t), some (.int f), some (.int n)] [.int f] M v M' 0 0 := Ev.back 1 (fun n => rfl) H
  obtain ⟨z1, z2⟩ := Ev.retz rfl rfl H
  exact ⟨z1, z2⟩
/-! THE CASES, in themselves; the reference's weeks -/
noncomputable def samB (g : TQ) (P Q : PK) : Nat → Int32 → Bool
  | 0, _ => true
  | k + 1, c => if wrnB g P c = wrnB g Q c then samB g P Q k (c + 1) else false
/-- the NETS are alike -/
noncomputable def samN (g : TQ) (P Q : PK) : Bool := samB g P Q (clsP P) 0
noncomputable def restL (T : TS) (t : Nat) : Nat → Int32 → PK → Int32
  | 0, _, _ => -1
  | n + 1, w, P => if samN (T 0) P (wksP T t P) = true then w else restL T t n (w + 1) (wksP T t P)
noncomputable def wkN (T : TS) (t : Nat) : Nat → PK → PK
  | 0, P => P
  | n + 1, P => wkN T t n (wksP T t P)
noncomputable def lasL (T : TS) (t : Nat) (c : Int32) : Nat → Int32 → PK → Int32
  | 0, n, P => if wrnB (T 0) P c = true then -1 else n
  | k + 1, n, P => if wrnB (T 0) P c = true then lasL T t c k (n + 1) (wksP T t P) else n
/-- n in the place of a line's NUMBER -/
noncomputable def lnN (q : TQ) (i : Nat) (n : Int32) : TQ := (q.1, q.2.modify i (fun l => (l.1, l.2.1, n, l.2.2.2.1, l.2.2.2.2)))
noncomputable def setT (T : TS) (h i : Nat) (n : Int32) : TS := fun j => if j = h then lnN (T h) i n else T j
noncomputable def turL (T : TS) (h i t w : Nat) (m : Int32) (P : PK) : Nat → Int32 → Int32
  | 0, _ => -1
  | k + 1, n => if nwP (T 0) (wkN (setT T h i n) t w P) ≤ m then n else turL T h i t w m P k (n + 1)
noncomputable def fen1 (P : PK) (a : Int32) : PK := if 0 ≤ a then layP P a 6 else P
noncomputable def fenP (P : PK) (a b : Int32) : PK := fen1 (fen1 P a) b
/-- somebody steps on it -/
noncomputable def trodB (T : TS) (P : PK) (c : Int32) (t : Nat) (a b : Int32) : Bool := decide (c ∈ (gofP T c t (fenP P a b, [])).2)
/-- how many CELLS the one NET has that the other has not -/
noncomputable def aloP2 (g : TQ) (P Q : PK) : Nat → Int32 → Int32 → Int32
  | 0, _, n => n
  | k + 1, c, n => aloP2 g P Q k (c + 1) (n + (if wrnB g P c = true ∧ wrnB g Q c = false then 1 else 0))
section RTRI
variable {e B : Nat} {T : TS} {P P' Q : PK} {M M0 M1 M' : Mem} {v : Option Value} {c k d x a b t y : Int32} {w dd : Int32} {f0 : Bool} {n i j : Nat}
theorem wek_K {g : TQ} (hD : okD P) (hK : okK P) : okD (wekP g P) ∧ okK (wekP g P) := by
  have lo := wek_lo (g := g) hD.1
  have hs : hiS P (wekP g P) := lo
  exact ⟨hs.D hD, hs.K hK⟩
theorem tks_K : ∀ (r : Nat) (p : PS), okD p.1 → okK p.1 → okD (tksP T r p).1 ∧ okK (tksP T r p).1 := by
  intro r
  induction r with
  | zero => intro p h1 h2; exact ⟨h1, h2⟩
  | succ r ih =>
    intro p h1 h2
    obtain ⟨d1, k1⟩ := tck_keep (T := T) h1 h2
    exact ih (tckP T p) d1 k1
theorem wks_K {t : Nat} (hD : okD P) (hK : okK P) : okD (wksP T t P) ∧ okK (wksP T t P) := by
  obtain ⟨d1, k1⟩ := tks_K (T := T) t (P, []) hD hK
  exact wek_K d1 k1
/-- the size stays -/
theorem tks_0 : ∀ (r : Nat) (p : PS), okD p.1 → okK p.1 → ∀ j, j < 157 → (tksP T r p).1 j = p.1 j := by
  intro r
  induction r with
  | zero => intro p _ _ j _; rfl
  | succ r ih =>
    intro p h1 h2 j hj
    obtain ⟨d1, k1⟩ := tck_keep (T := T) h1 h2
    refine (ih (tckP T p) d1 k1 j hj).trans ?_
    obtain ⟨P, ss⟩ := p
    have h1 : okD P := h1
    have h2 : okK P := h2
    have h12 := h1.2.2.1
    have bk := beg_keep (P 12).toInt.toNat 0 P h2.1 h2.2.1
    have hK1 : okK (bg0P P) := beg_K (P 12).toInt.toNat 0 P h1 h2 (by omega)
    have hD1 : okD (bg0P P) := h1.sb (fun j hj => bk j (Or.inl hj))
    obtain ⟨_, _, q3⟩ := wlk_518 (T := T) (bg0P P 157).toInt.toNat 0 (bg0P P) ss hD1 hK1 (by have := hK1.1; omega)
    unfold tckP
    dsimp only
    rw [up_ne (by omega), q3 j hj]
    exact bk j (Or.inl hj)
theorem wks_0 {t : Nat} (hD : okD P) (hK : okK P) : ∀ j, j < 157 → wksP T t P j = P j := fun j hj => by
  obtain ⟨d1, k1⟩ := tks_K (T := T) t (P, []) hD hK
  exact (wek_lo d1.1 j (by omega)).trans (tks_0 t (P, []) hD hK j hj)
theorem wks_cls {t : Nat} (hD : okD P) (hK : okK P) : clsP (wksP T t P) = clsP P := cls_eq (wks_0 hD hK 0 (by decide)) (wks_0 hD hK 1 (by decide))
theorem rgo_l : ∀ (r k : Nat) (iz : Int32) (P : PK) (ss : List Int32) (M : Mem), RST T P M → okD P → okK P → WFr w f0 ss M → ARn dd P M → iz.toInt = (k : Int) → t.toInt = (k : Int) + (r : Int) → Ev none e 222 2 [some (.ref 633), some (.int t), some (.int iz)] [] M v M' 0 0 → v = none ∧ RST T (wekP (T 0) (tksP T r (P, ss)).1) M' ∧ FZ rkF rkW noO M M' ∧ WFr w f0 (tksP T r (P, ss)).2 M' := by
  intro r
  induction r with
  | zero =>
    intro k iz P ss M hR hD hK hf ha hk hn H
    rcases rgq_2 hR.1 H with ⟨_, e1, v1, M1, _, H1, H⟩ | ⟨a1, _⟩
    · obtain ⟨rv, q2, q3, q4⟩ := rwek_ok hR hD.1 H1
      rw [rv] at H
      obtain ⟨r1, r2⟩ := rgq_21 q2.1 H
      rw [r2]
      exact ⟨r1, q2, q3, ⟨(q4 40).trans hf.1, (q4 42).trans hf.2⟩⟩
    · exact absurd (Int32.le_iff_toInt_le.mpr (by omega)) a1
  | succ r ih =>
    intro k iz P ss M hR hD hK hf ha hk hn H
    have ub := i32_any t
    rcases rgq_2 hR.1 H with ⟨a1, _⟩ | ⟨_, e1, v1, M1, _, H1, H⟩
    · have := Int32.le_iff_toInt_le.mp a1
      omega
    · obtain ⟨rv, q2, q3, q4, q5, q6, q7, q8⟩ := rtick_ok hR hD hK hf ha H1
      rw [rv] at H
      have H := rgq_11 q2.1 H
      obtain ⟨s1, s2, s3, s4⟩ := ih (k + 1) (iz + 1) (tckP T (P, ss)).1 (tckP T (P, ss)).2 M1 q2 q3 q4 q6 q7 (by rw [i32_p1 (by omega)]; omega) (by omega) H
      exact ⟨s1, s2, q5.trans s3, s4⟩
/-- a trial's state -/
def RTR (T : TS) (P P0 : PK) (M : Mem) : Prop := RST T P M ∧ okD P ∧ okK P ∧ (∃ b, zI M 633 42 = bI b) ∧ ∀ j, j < 2314 → rN M 637 j = P0 j
theorem rgo_ok {P0 : PK} (h : RTR T P P0 M) (ht : t.toInt = (n : Int)) (H : Ev none e 222 0 [some (.ref 633), some (.int t), none] [] M v M' 0 0) : v = none ∧ RTR T (wksP T n P) P0 M' ∧ FZ rkF rkW noO M M' := by
  obtain ⟨hR, hD, hK, ⟨b, hb⟩, h9⟩ := h
  have hf : WFr (zI M 633 40) b [] M := ⟨rfl, by rw [hb, decide_eq_false (by simp), Bool.or_false]⟩
  have ha : ARn (zI M 633 41 - P 519) P M := by unfold ARn; grind
  obtain ⟨s1, s2, s3, s4⟩ := rgo_l n 0 0 P [] M hR hD hK hf ha rfl (by omega) (rgq_0 hR.1 H)
  obtain ⟨d1, k1⟩ := wks_K (T := T) (t := n) hD hK
  exact ⟨s1, ⟨s2, d1, k1, ⟨_, s4.2⟩, fun j hj => by rw [s3.rn (by unfold rkW; decide)]; exact h9 j hj⟩, s3⟩
theorem RTR.nt {P0 : PK} {r : Nat} (h : RTR T P P0 M) (hS : SQ M') (hF : FZ noF (fun a => a = r) noO M M') (hr : 650 ≤ r) : RTR T P P0 M' := ⟨h.1.fz hS hF (fun _ _ _ q => q) (fun a ha q => by omega), h.2.1, h.2.2.1, by obtain ⟨b, hb⟩ := h.2.2.2.1; exact ⟨b, (hF.fi (fun q => q)).trans hb⟩, fun j hj => (hF.rn (by omega)).trans (h.2.2.2.2 j hj)⟩
theorem RTR.mk0 (hR : RST T P M) (hD : okD P) (hK : okK P) (hb : ∃ b, zI M 633 42 = bI b) (H : Ev none e 153 0 [some (.ref 633), none] [] M v M' 0 0) : v = none ∧ RTR T P P M' ∧ FZ noF (fun a => a = 637) noO M M' := by
  obtain ⟨r1, r2, r3, r4⟩ := las_ok hR H
  obtain ⟨b, hb⟩ := hb
  exact ⟨r1, ⟨r2, hD, hK, ⟨b, (r4.fi (fun q => q)).trans hb⟩, r3⟩, r4⟩
theorem RTR.bk {P0 : PK} (h : RTR T P P0 M) (H : Ev none e 154 0 [some (.ref 633), none] [] M v M' 0 0) : v = none ∧ RST T P0 M' ∧ FZ noF (fun a => a = 635) noO M M' := lbk_ok h.1 h.2.2.2.2 H
theorem nar_bI (b : Bool) : vp_nar .boolean (bI b) = bI b := by cases b <;> decide
theorem ntb_l (hw : wh4 P) : ∀ (n : Nat) (c : Int32) (M : Mem), RST T P M → 0 ≤ c.toInt → c.toInt + (n : Int) = (clsP P : Int) → Ev none e 220 2 [some (.ref 633), some (.ref 651), some (.int c)] [] M v M' 0 0 → v = none ∧ SQ M' ∧ FZ noF (fun a => a = 651) noO M M' ∧ (∀ x : Int32, c.toInt ≤ x.toInt → x.toInt < (clsP P : Int) → rI M' 651 x = bI (wrnB (T 0) P x)) ∧ ∀ x : Int32, 0 ≤ x.toInt → x.toInt < c.toInt → rI M' 651 x = rI M 651 x := by
  obtain ⟨_, c256, _⟩ := cls_int hw
  intro n
  induction n with
  | zero =>
    intro c M hR hc hn H
    have hg := g144_ok hR hw
    rcases ntb_2 hR.1 H with ⟨_, r1, r2⟩ | ⟨a1, _⟩
    · subst r2
      exact ⟨r1, hR.1, FZ.refl _, fun x h1 h2 => by omega, fun _ _ _ => rfl⟩
    · exact absurd (Int32.le_iff_toInt_le.mpr (by omega)) a1
  | succ n ih =>
    intro c M hR hc hn H
    have hg := g144_ok hR hw
    have hcin : inC P c := ⟨hc, by omega⟩
    have e1 : (c + 1).toInt = c.toInt + 1 := i32_p1 (by omega)
    rcases ntb_2 hR.1 H with ⟨a1, _⟩ | ⟨_, _, H⟩
    · have := Int32.le_iff_toInt_le.mp a1
      omega
    · rw [g150_ok hR hw hcin, nar_bI] at H
      have hF : FZ noF (fun a => a = 651) noO M (wI M 651 c.toNatClampNeg (bI (wrnB (T 0) P c))) := FZ.wI (W := fun a => a = 651) rfl
      have len : (zrw M 651).length = 256 := (hR.1.1.row qa_651 qw_79).2
      have ec : c.toNatClampNeg = c.toInt.toNat := cl_n (by omega)
      obtain ⟨r1, r2, r3, r4, r5⟩ := ih (c + 1) _ (hR.fz hR.1.ki hF (fun _ _ _ q => q) (fun a ha q => by omega)) (by omega) (by omega) H
      refine ⟨r1, r2, hF.trans r3, fun x h1 h2 => ?_, fun x h1 h2 => ?_⟩
      · by_cases hx : x = c
        · rw [hx, r5 c hc (by omega)]
          exact rN_wI_eq (by rw [ec]; omega)
        · have hne : x.toInt ≠ c.toInt := fun q => hx (Int32.toInt_inj.mp q)
          exact r4 x (by omega) h2
      · rw [r5 x h1 (by omega)]
        have ex : x.toNatClampNeg = x.toInt.toNat := cl_n (by omega)
        exact rN_wI_ne (fun q => by rw [ex, ec] at q; omega)
theorem ntb_ok {P0 : PK} (h : RTR T P P0 M) (H : Ev none e 220 0 [some (.ref 633), some (.ref 651), none] [] M v M' 0 0) : v = none ∧ RTR T P P0 M' ∧ FZ noF (fun a => a = 651) noO M M' ∧ ∀ x, inC P x → rI M' 651 x = bI (wrnB (T 0) P x) := by
  have z0 : (0 : Int32).toInt = 0 := rfl
  obtain ⟨r1, r2, r3, r4, _⟩ := ntb_l h.2.1.1 (clsP P) 0 M h.1 (by decide) (by omega) (ntb_0 h.1.1 H)
  exact ⟨r1, h.nt r2 r3 (by decide), r3, fun x hx => r4 x (by have := hx.1; omega) (by have := hx.1; have := hx.2; omega)⟩
theorem ntd_l (hw : wh4 P) : ∀ (n : Nat) (c : Int32) (M : Mem), RST T P M → 0 ≤ c.toInt → c.toInt + (n : Int) = (clsP P : Int) → Ev none e 220 2 [some (.ref 633), some (.ref 652), some (.int c)] [] M v M' 0 0 → v = none ∧ SQ M' ∧ FZ noF (fun a => a = 652) noO M M' ∧ (∀ x : Int32, c.toInt ≤ x.toInt → x.toInt < (clsP P : Int) → rI M' 652 x = bI (wrnB (T 0) P x)) ∧ ∀ x : Int32, 0 ≤ x.toInt → x.toInt < c.toInt → rI M' 652 x = rI M 652 x := by
  obtain ⟨_, c256, _⟩ := cls_int hw
  intro n
  induction n with
  | zero =>
    intro c M hR hc hn H
    have hg := g144_ok hR hw
    rcases ntd_2 hR.1 H with ⟨_, r1, r2⟩ | ⟨a1, _⟩
    · subst r2
      exact ⟨r1, hR.1, FZ.refl _, fun x h1 h2 => by omega, fun _ _ _ => rfl⟩
    · exact absurd (Int32.le_iff_toInt_le.mpr (by omega)) a1
  | succ n ih =>
    intro c M hR hc hn H
    have hg := g144_ok hR hw
    have hcin : inC P c := ⟨hc, by omega⟩
    have e1 : (c + 1).toInt = c.toInt + 1 := i32_p1 (by omega)
    rcases ntd_2 hR.1 H with ⟨a1, _⟩ | ⟨_, _, H⟩
    · have := Int32.le_iff_toInt_le.mp a1
      omega
    · rw [g150_ok hR hw hcin, nar_bI] at H
      have hF : FZ noF (fun a => a = 652) noO M (wI M 652 c.toNatClampNeg (bI (wrnB (T 0) P c))) := FZ.wI (W := fun a => a = 652) rfl
      have len : (zrw M 652).length = 256 := (hR.1.1.row qa_652 qw_80).2
      have ec : c.toNatClampNeg = c.toInt.toNat := cl_n (by omega)
      obtain ⟨r1, r2, r3, r4, r5⟩ := ih (c + 1) _ (hR.fz hR.1.ki hF (fun _ _ _ q => q) (fun a ha q => by omega)) (by omega) (by omega) H
      refine ⟨r1, r2, hF.trans r3, fun x h1 h2 => ?_, fun x h1 h2 => ?_⟩
      · by_cases hx : x = c
        · rw [hx, r5 c hc (by omega)]
          exact rN_wI_eq (by rw [ec]; omega)
        · have hne : x.toInt ≠ c.toInt := fun q => hx (Int32.toInt_inj.mp q)
          exact r4 x (by omega) h2
      · rw [r5 x h1 (by omega)]
        have ex : x.toNatClampNeg = x.toInt.toNat := cl_n (by omega)
        exact rN_wI_ne (fun q => by rw [ex, ec] at q; omega)
theorem ntd_ok {P0 : PK} (h : RTR T P P0 M) (H : Ev none e 220 0 [some (.ref 633), some (.ref 652), none] [] M v M' 0 0) : v = none ∧ RTR T P P0 M' ∧ FZ noF (fun a => a = 652) noO M M' ∧ ∀ x, inC P x → rI M' 652 x = bI (wrnB (T 0) P x) := by
  have z0 : (0 : Int32).toInt = 0 := rfl
  obtain ⟨r1, r2, r3, r4, _⟩ := ntd_l h.2.1.1 (clsP P) 0 M h.1 (by decide) (by omega) (ntd_0 h.1.1 H)
  exact ⟨r1, h.nt r2 r3 (by decide), r3, fun x hx => r4 x (by have := hx.1; omega) (by have := hx.1; have := hx.2; omega)⟩
theorem nte_l (hw : wh4 P) : ∀ (n : Nat) (c : Int32) (M : Mem), RST T P M → 0 ≤ c.toInt → c.toInt + (n : Int) = (clsP P : Int) → Ev none e 220 2 [some (.ref 633), some (.ref 653), some (.int c)] [] M v M' 0 0 → v = none ∧ SQ M' ∧ FZ noF (fun a => a = 653) noO M M' ∧ (∀ x : Int32, c.toInt ≤ x.toInt → x.toInt < (clsP P : Int) → rI M' 653 x = bI (wrnB (T 0) P x)) ∧ ∀ x : Int32, 0 ≤ x.toInt → x.toInt < c.toInt → rI M' 653 x = rI M 653 x := by
  obtain ⟨_, c256, _⟩ := cls_int hw
  intro n
  induction n with
  | zero =>
    intro c M hR hc hn H
    have hg := g144_ok hR hw
    rcases nte_2 hR.1 H with ⟨_, r1, r2⟩ | ⟨a1, _⟩
    · subst r2
      exact ⟨r1, hR.1, FZ.refl _, fun x h1 h2 => by omega, fun _ _ _ => rfl⟩
    · exact absurd (Int32.le_iff_toInt_le.mpr (by omega)) a1
  | succ n ih =>
    intro c M hR hc hn H
    have hg := g144_ok hR hw
    have hcin : inC P c := ⟨hc, by omega⟩
    have e1 : (c + 1).toInt = c.toInt + 1 := i32_p1 (by omega)
    rcases nte_2 hR.1 H with ⟨a1, _⟩ | ⟨_, _, H⟩
    · have := Int32.le_iff_toInt_le.mp a1
      omega
    · rw [g150_ok hR hw hcin, nar_bI] at H
      have hF : FZ noF (fun a => a = 653) noO M (wI M 653 c.toNatClampNeg (bI (wrnB (T 0) P c))) := FZ.wI (W := fun a => a = 653) rfl
      have len : (zrw M 653).length = 256 := (hR.1.1.row qa_653 qw_81).2
      have ec : c.toNatClampNeg = c.toInt.toNat := cl_n (by omega)
      obtain ⟨r1, r2, r3, r4, r5⟩ := ih (c + 1) _ (hR.fz hR.1.ki hF (fun _ _ _ q => q) (fun a ha q => by omega)) (by omega) (by omega) H
      refine ⟨r1, r2, hF.trans r3, fun x h1 h2 => ?_, fun x h1 h2 => ?_⟩
      · by_cases hx : x = c
        · rw [hx, r5 c hc (by omega)]
          exact rN_wI_eq (by rw [ec]; omega)
        · have hne : x.toInt ≠ c.toInt := fun q => hx (Int32.toInt_inj.mp q)
          exact r4 x (by omega) h2
      · rw [r5 x h1 (by omega)]
        have ex : x.toNatClampNeg = x.toInt.toNat := cl_n (by omega)
        exact rN_wI_ne (fun q => by rw [ex, ec] at q; omega)
theorem nte_ok {P0 : PK} (h : RTR T P P0 M) (H : Ev none e 220 0 [some (.ref 633), some (.ref 653), none] [] M v M' 0 0) : v = none ∧ RTR T P P0 M' ∧ FZ noF (fun a => a = 653) noO M M' ∧ ∀ x, inC P x → rI M' 653 x = bI (wrnB (T 0) P x) := by
  have z0 : (0 : Int32).toInt = 0 := rfl
  obtain ⟨r1, r2, r3, r4, _⟩ := nte_l h.2.1.1 (clsP P) 0 M h.1 (by decide) (by omega) (nte_0 h.1.1 H)
  exact ⟨r1, h.nt r2 r3 (by decide), r3, fun x hx => r4 x (by have := hx.1; omega) (by have := hx.1; have := hx.2; omega)⟩
theorem inq_l {R : PK} (hR : RST T P M) (hw : wh4 P) (hb : ∀ x, inC P x → rI M 651 x = bI (wrnB (T 0) R x)) : ∀ (n : Nat) (c : Int32), 0 ≤ c.toInt → c.toInt + (n : Int) = (clsP P : Int) → Ev none e 221 2 [some (.ref 633), some (.ref 651), some (.int c)] [] M v M' 0 0 → M' = M ∧ v = some (.int (bI (samB (T 0) R P n c))) := by
  obtain ⟨_, c256, _⟩ := cls_int hw
  have hg := g144_ok hR hw
  intro n
  induction n with
  | zero =>
    intro c hc hn H
    rcases inq_2 hR.1 H with ⟨_, r1, r2⟩ | ⟨a1, _⟩ | ⟨a1, _⟩
    · exact ⟨r2, r1⟩
    all_goals exact absurd (Int32.le_iff_toInt_le.mpr (by omega)) a1
  | succ n ih =>
    intro c hc hn H
    have hcin : inC P c := ⟨hc, by omega⟩
    have e1 : (c + 1).toInt = c.toInt + 1 := i32_p1 (by omega)
    have inj : ∀ x y : Bool, bI x = bI y ↔ x = y := by decide
    unfold samB
    rcases inq_2 hR.1 H with ⟨a1, _⟩ | ⟨_, a2, _, H⟩ | ⟨_, a2, _, r1, r2⟩
    · have := Int32.le_iff_toInt_le.mp a1
      omega
    · rw [hb c hcin, g150_ok hR hw hcin, inj] at a2
      rw [if_pos a2]
      exact ih (c + 1) (by omega) (by omega) H
    · rw [hb c hcin, g150_ok hR hw hcin, inj] at a2
      rw [if_neg a2]
      exact ⟨r2, r1⟩
/-- rests -/
theorem rrs_l {P0 : PK} (hn : t.toInt = (n : Int)) (k40 : k.toInt ≤ 40) : ∀ (r : Nat) (wz f : Int32) (P : PK) (M : Mem), RTR T P P0 M → wz.toInt + (r : Int) = k.toInt + 1 → 1 ≤ wz.toInt → Ev none e 223 38 [some (.ref 633), some (.int k), some (.int t), some (.int (-1)), some (.int wz)] [] M v M' 0 0 → v = some (.int (restL T n r wz P)) ∧ RST T P0 M' := by
  have uk := i32_any k
  have tm : (-1 : Int32).toInt = -1 := rfl
  have z0 : (0 : Int32).toInt = 0 := rfl
  intro r
  induction r with
  | zero =>
    intro wz f P M h hw h1 H
    rcases rrs_38 h.1.1 H with ⟨_, e1, v1, M1, _, H1, H⟩ | ⟨a1, _⟩ | ⟨a1, _⟩
    · obtain ⟨rv, q1, _⟩ := h.bk H1
      rw [rv] at H
      obtain ⟨r1, r2⟩ := rrs_85 q1.1 H
      exact ⟨r1, r2 ▸ q1⟩
    all_goals exact absurd (Int32.lt_iff_toInt_lt.mpr (by omega)) a1
  | succ r ih =>
    intro wz f P M h hw h1 H
    rcases rrs_38 h.1.1 H with ⟨a1, _⟩ | ⟨_, a1, _⟩ | ⟨_, _, e1, v1, M1, _, H1, H⟩
    · have := Int32.lt_iff_toInt_lt.mp a1
      omega
    · have := Int32.le_iff_toInt_le.mp a1
      omega
    · obtain ⟨rv, q1, q2, q3⟩ := ntb_ok h H1
      rw [rv] at H
      obtain ⟨e2, v2, M2, _, H2, H⟩ := rrs_56 q1.1.1 H
      obtain ⟨rv2, s1, s2⟩ := rgo_ok q1 hn H2
      rw [rv2] at H
      obtain ⟨e3, v3, M3, _, H3, H⟩ := rrs_61 s1.1.1 H
      have hcl := wks_cls (T := T) (t := n) h.2.1 h.2.2.1
      have hw2 := s1.2.1.1
      have hb : ∀ x, inC (wksP T n P) x → rI M2 651 x = bI (wrnB (T 0) P x) := fun x hx => by
        have hx2 : inC P x := ⟨hx.1, by rw [← hcl]; exact hx.2⟩
        have : rI M2 651 x = rI M1 651 x := s2.rn (by unfold rkW; decide)
        rw [this]
        exact q3 x hx2
      obtain ⟨rm, rv3⟩ := inq_l s1.1 hw2 hb (clsP (wksP T n P)) 0 (by decide) (by omega) (inq_0 s1.1.1 H3)
      rw [rv3, rm] at H
      have e1' : (wz + 1).toInt = wz.toInt + 1 := i32_p1 (by omega)
      have es : samB (T 0) P (wksP T n P) (clsP (wksP T n P)) 0 = samN (T 0) P (wksP T n P) := by unfold samN; rw [hcl]
      rw [es] at H
      unfold restL
      rcases rrs_69 s1.1.1 H with ⟨a1, H⟩ | ⟨a1, H⟩
      · rw [bI_0] at a1
        rw [if_neg (by rw [a1]; decide)]
        exact ih (wz + 1) f _ M2 s1 (by omega) (by omega) H
      · rw [bI_0, Bool.not_eq_false] at a1
        rw [if_pos a1]
        have hg : ∀ (cc : Prop), (∃ e1 v1 M1, e = e1 + 1 ∧ Ev none e1 154 0 [some (.ref 633), none] [] M2 v1 M1 0 0 ∧ Ev none e 223 85 [some (.ref 633), some (.int k), some (.int t), some (.int wz), some (.int (wz + 1))] (v1.toList ++ []) M1 v M' 0 0) → v = some (.int wz) ∧ RST T P0 M' := fun _ ⟨e4, v4, M4, _, H4, H⟩ => by
          obtain ⟨rv4, u1, _⟩ := s1.bk H4
          rw [rv4] at H
          obtain ⟨r1, r2⟩ := rrs_85 u1.1 H
          exact ⟨r1, r2 ▸ u1⟩
        rcases rrs_38 s1.1.1 H with ⟨_, H⟩ | ⟨_, _, H⟩ | ⟨_, a2, _⟩
        · exact hg True H
        · exact hg True H
        · exact absurd (Int32.le_iff_toInt_le.mpr (by omega)) a2
def rstN (k t : Int32) : Prop := ¬ inX k 1 40 ∨ ¬ inX t 1 200
theorem rrests_ok (hR : RST T P M) (hD : okD P) (hK : okK P) (hb : ∃ b, zI M 633 42 = bI b) (H : Ev none e 223 0 [some (.ref 633), some (.int k), some (.int t), none, none] [] M v M' 0 0) : (rstN k t ∧ v = some (.int (-2)) ∧ RST T P M') ∨ (¬ rstN k t ∧ v = some (.int (restL T t.toInt.toNat k.toInt.toNat 1 P)) ∧ RST T P M') := by
  have h0 := hR.w0 0 (by decide) 0
  have hb0 : ∃ b, zI (wF M 633 0 0) 633 42 = bI b := by
    obtain ⟨b, hb⟩ := hb
    exact ⟨b, by rw [fI_wF_ne (by decide)]; exact hb⟩
  unfold rstN
  rcases rrs_0 hR.1 H with ⟨a1, r1, r2⟩ | ⟨_, a1, r1, r2⟩ | ⟨a1, a2, e1, v1, M1, _, H1, H⟩
  · rw [g140_R] at a1
    exact Or.inl ⟨Or.inl a1, r1, r2 ▸ h0⟩
  · rw [g140_R] at a1
    exact Or.inl ⟨Or.inr a1, r1, r2 ▸ h0⟩
  · rw [g140_R, Classical.not_not] at a1 a2
    obtain ⟨rv, q1, _⟩ := RTR.mk0 h0 hD hK hb0 H1
    rw [rv] at H
    have t1 : (1 : Int32).toInt = 1 := rfl
    unfold inX at a1 a2
    obtain ⟨r1, r2⟩ := rrs_l (n := t.toInt.toNat) (k := k) (by omega) a1.2 k.toInt.toNat 1 0 P M1 q1 (by omega) (by decide) (rrs_33 q1.1.1 H)
    refine Or.inr ⟨fun q => ?_, r1, r2⟩
    unfold inX at q
    omega
end RTRI
