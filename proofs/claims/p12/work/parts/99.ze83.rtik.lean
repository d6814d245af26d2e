/-! THE REFERENCE'S walking: tread, goes, leave, tick, endWeek: pieces (made by gref.py) -/
theorem rtr_0 {e : Nat} {M M' : Mem} {v : Option Value} {c : Int32} (hS : SQ M) (H : Ev none e 203 0 [some (.ref 633), some (.int c), none] [] M v M' 0 0) : ((G_149 M c) = 0 ∧ Ev none e 203 43 [some (.ref 633), some (.int c), none] [] M v M' 0 0) ∨ (¬ ((G_149 M c) = 0) ∧ (∃ e1 v1 M1, e = e1 + 1 ∧ Ev none e1 188 0 [some (.ref 633), some (.int 0), some (.int c), some (.int 5), none] [] M v1 M1 0 0 ∧ Ev none e 203 21 [some (.ref 633), some (.int c), none] (v1.toList ++ [.int (G_146 M c 3)]) M1 v M' 0 0)) := by
  have H : Ev none e 203 2 [some (.ref 633), some (.int c), none] [.int c, .ref 633] M v M' 0 0 := Ev.back 2 (fun n => rfl) H
  obtain ⟨e1, rfl⟩ := Ev.dpos rfl rfl H
  obtain ⟨vK1, MK1, K1, H⟩ := Ev.callb (fun n_ => gs_7 rfl rfl (show gCal (.invokevirtual 356) 11 (.int c :: .ref 633 :: []) M = some (.inr (149, [some (.ref 633), some (.int c)], [])) from by show @cond (Option ((List Value × Mem) ⊕ (Nat × Lo × List Value))) (true && gRecv M (.ref 633) 11 && gRoom [] && true) (some (.inr (149, [some (.ref 633), some (.int c)], []))) none = _; rw [recv_s hS.1 qa_633 qo_61]; rfl)) H
  obtain ⟨pK1, qK1⟩ := g_149 hS K1
  rw [pK1, qK1] at H
  have H : Ev none (e1 + 1) 203 5 [some (.ref 633), some (.int c), none] [.int (G_149 M c)] M v M' 0 0 := H
  have H : Ev none (e1 + 1) 203 (if (G_149 M c) = 0 then 43 else 8) [some (.ref 633), some (.int c), none] [] M v M' 0 0 := Ev.back 1 (fun n => rfl) H
  by_cases h2 : (G_149 M c) = 0
  · rw [if_pos h2] at H
    have HF := H
    exact Or.inl ⟨h2, HF⟩
  · rw [if_neg h2] at H
    have H : Ev none (e1 + 1) 203 11 [some (.ref 633), some (.int c), none] [.int 3, .int c, .ref 633] M v M' 0 0 := Ev.back 3 (fun n => rfl) H
    obtain ⟨vK3, MK3, K3, H⟩ := Ev.callb (fun n_ => gs_7 rfl rfl (show gCal (.invokevirtual 136) 11 (.int 3 :: .int c :: .ref 633 :: []) M = some (.inr (146, [some (.ref 633), some (.int c), some (.int 3)], [])) from by show @cond (Option ((List Value × Mem) ⊕ (Nat × Lo × List Value))) (true && gRecv M (.ref 633) 11 && gRoom [] && true) (some (.inr (146, [some (.ref 633), some (.int c), some (.int 3)], []))) none = _; rw [recv_s hS.1 qa_633 qo_61]; rfl)) H
    obtain ⟨pK3, qK3⟩ := g_146 hS K3
    rw [pK3, qK3] at H
    have H : Ev none (e1 + 1) 203 14 [some (.ref 633), some (.int c), none] [.int (G_146 M c 3)] M v M' 0 0 := H
    have H : Ev none (e1 + 1) 203 18 [some (.ref 633), some (.int c), none] [.int 5, .int c, .int 0, .ref 633, .int (G_146 M c 3)] M v M' 0 0 := Ev.back 4 (fun n => rfl) H
    obtain ⟨vK4, MK4, K4, H⟩ := Ev.callb (fun n_ => gs_7 rfl rfl (show gCal (.invokevirtual 402) 11 (.int 5 :: .int c :: .int 0 :: .ref 633 :: [.int (G_146 M c 3)]) M = some (.inr (188, [some (.ref 633), some (.int 0), some (.int c), some (.int 5), none], [.int (G_146 M c 3)])) from by show @cond (Option ((List Value × Mem) ⊕ (Nat × Lo × List Value))) (true && gRecv M (.ref 633) 11 && gRoom [.int (G_146 M c 3)] && true) (some (.inr (188, [some (.ref 633), some (.int 0), some (.int c), some (.int 5), none], [.int (G_146 M c 3)]))) none = _; rw [recv_s hS.1 qa_633 qo_61]; rfl)) H
    have K4 : Ev none e1 188 0 [some (.ref 633), some (.int 0), some (.int c), some (.int 5), none] [] M vK4 MK4 0 0 := K4
    have HF := H
    exact Or.inr (⟨h2, ⟨e1, vK4, MK4, rfl, K4, HF⟩⟩)
theorem rtr_21 {e : Nat} {M M' : Mem} {v : Option Value} {c y we : Int32} (hS : SQ M) (H : Ev none e 203 21 [some (.ref 633), some (.int c), none] [.int y, .int we] M v M' 0 0) : ((we + y) ≤ 999 ∧ Ev none e 203 43 [some (.ref 633), some (.int c), some (.int (we + y))] [] (X_147 M c 3 (we + y)) v M' 0 0) ∨ (¬ ((we + y) ≤ 999) ∧ Ev none e 203 43 [some (.ref 633), some (.int c), some (.int (we + y))] [] (X_147 M c 3 999) v M' 0 0) := by
  have H : Ev none e 203 (if (we + y) ≤ 999 then 39 else 33) [some (.ref 633), some (.int c), some (.int (we + y))] [.int 3, .int c, .ref 633] M v M' 0 0 := Ev.back 8 (fun n => rfl) H
  by_cases h1 : (we + y) ≤ 999
  · rw [if_pos h1] at H
    have H : Ev none e 203 40 [some (.ref 633), some (.int c), some (.int (we + y))] [.int (we + y), .int 3, .int c, .ref 633] M v M' 0 0 := Ev.back 1 (fun n => rfl) H
    obtain ⟨e1, rfl⟩ := Ev.dpos rfl rfl H
    obtain ⟨vK2, MK2, K2, H⟩ := Ev.callb (fun n_ => gs_7 rfl rfl (show gCal (.invokevirtual 151) 11 (.int (we + y) :: .int 3 :: .int c :: .ref 633 :: []) M = some (.inr (147, [some (.ref 633), some (.int c), some (.int 3), some (.int (we + y))], [])) from by show @cond (Option ((List Value × Mem) ⊕ (Nat × Lo × List Value))) (true && gRecv M (.ref 633) 11 && gRoom [] && true) (some (.inr (147, [some (.ref 633), some (.int c), some (.int 3), some (.int (we + y))], []))) none = _; rw [recv_s hS.1 qa_633 qo_61]; rfl)) H
    obtain ⟨pK2, qK2⟩ := g_147 hS K2
    rw [pK2, qK2] at H
    obtain ⟨N3, eN3⟩ : ∃ N, N = (X_147 M c 3 (we + y)) := ⟨_, rfl⟩
    have hN3 : SQ N3 := by rw [eN3]; exact X_147_sx hS
    rw [← eN3] at H
    have H : Ev none (e1 + 1) 203 43 [some (.ref 633), some (.int c), some (.int (we + y))] [] N3 v M' 0 0 := H
    have HF := H
    subst eN3
    exact Or.inl ⟨h1, HF⟩
  · rw [if_neg h1] at H
    have H : Ev none e 203 40 [some (.ref 633), some (.int c), some (.int (we + y))] [.int 999, .int 3, .int c, .ref 633] M v M' 0 0 := Ev.back 2 (fun n => rfl) H
    obtain ⟨e1, rfl⟩ := Ev.dpos rfl rfl H
    obtain ⟨vK4, MK4, K4, H⟩ := Ev.callb (fun n_ => gs_7 rfl rfl (show gCal (.invokevirtual 151) 11 (.int 999 :: .int 3 :: .int c :: .ref 633 :: []) M = some (.inr (147, [some (.ref 633), some (.int c), some (.int 3), some (.int 999)], [])) from by show @cond (Option ((List Value × Mem) ⊕ (Nat × Lo × List Value))) (true && gRecv M (.ref 633) 11 && gRoom [] && true) (some (.inr (147, [some (.ref 633), some (.int c), some (.int 3), some (.int 999)], []))) none = _; rw [recv_s hS.1 qa_633 qo_61]; rfl)) H
    obtain ⟨pK4, qK4⟩ := g_147 hS K4
    rw [pK4, qK4] at H
    obtain ⟨N5, eN5⟩ : ∃ N, N = (X_147 M c 3 999) := ⟨_, rfl⟩
    have hN5 : SQ N5 := by rw [eN5]; exact X_147_sx hS
    rw [← eN5] at H
    have H : Ev none (e1 + 1) 203 43 [some (.ref 633), some (.int c), some (.int (we + y))] [] N5 v M' 0 0 := H
    have HF := H
    subst eN5
    exact Or.inr (⟨h1, HF⟩)
theorem rtr_43 {e : Nat} {M M' : Mem} {v : Option Value} {c : Int32} {c2 : Option Value} (hS : SQ M) (H : Ev none e 203 43 [some (.ref 633), some (.int c), c2] [] M v M' 0 0) : ((zI (X_147 (X_147 M c 5 ((G_146 M c 5) + 1)) c 6 ((G_146 (X_147 M c 5 ((G_146 M c 5) + 1)) c 6) + 1)) 633 42) = 0 ∧ c = (zI (X_147 (X_147 M c 5 ((G_146 M c 5) + 1)) c 6 ((G_146 (X_147 M c 5 ((G_146 M c 5) + 1)) c 6) + 1)) 633 40) ∧ v = none ∧ M' = (wF (X_147 (X_147 M c 5 ((G_146 M c 5) + 1)) c 6 ((G_146 (X_147 M c 5 ((G_146 M c 5) + 1)) c 6) + 1)) 633 42 1)) ∨ ((zI (X_147 (X_147 M c 5 ((G_146 M c 5) + 1)) c 6 ((G_146 (X_147 M c 5 ((G_146 M c 5) + 1)) c 6) + 1)) 633 42) = 0 ∧ ¬ (c = (zI (X_147 (X_147 M c 5 ((G_146 M c 5) + 1)) c 6 ((G_146 (X_147 M c 5 ((G_146 M c 5) + 1)) c 6) + 1)) 633 40)) ∧ v = none ∧ M' = (wF (X_147 (X_147 M c 5 ((G_146 M c 5) + 1)) c 6 ((G_146 (X_147 M c 5 ((G_146 M c 5) + 1)) c 6) + 1)) 633 42 0)) ∨ (¬ ((zI (X_147 (X_147 M c 5 ((G_146 M c 5) + 1)) c 6 ((G_146 (X_147 M c 5 ((G_146 M c 5) + 1)) c 6) + 1)) 633 42) = 0) ∧ v = none ∧ M' = (wF (X_147 (X_147 M c 5 ((G_146 M c 5) + 1)) c 6 ((G_146 (X_147 M c 5 ((G_146 M c 5) + 1)) c 6) + 1)) 633 42 1)) := by
  have H : Ev none e 203 49 [some (.ref 633), some (.int c), c2] [.int 5, .int c, .ref 633, .int 5, .int c, .ref 633] M v M' 0 0 := Ev.back 6 (fun n => rfl) H
  obtain ⟨e1, rfl⟩ := Ev.dpos rfl rfl H
  obtain ⟨vK1, MK1, K1, H⟩ := Ev.callb (fun n_ => gs_7 rfl rfl (show gCal (.invokevirtual 136) 11 (.int 5 :: .int c :: .ref 633 :: [.int 5, .int c, .ref 633]) M = some (.inr (146, [some (.ref 633), some (.int c), some (.int 5)], [.int 5, .int c, .ref 633])) from by show @cond (Option ((List Value × Mem) ⊕ (Nat × Lo × List Value))) (true && gRecv M (.ref 633) 11 && gRoom [.int 5, .int c, .ref 633] && true) (some (.inr (146, [some (.ref 633), some (.int c), some (.int 5)], [.int 5, .int c, .ref 633]))) none = _; rw [recv_s hS.1 qa_633 qo_61]; rfl)) H
  obtain ⟨pK1, qK1⟩ := g_146 hS K1
  rw [pK1, qK1] at H
  have H : Ev none (e1 + 1) 203 52 [some (.ref 633), some (.int c), c2] [.int (G_146 M c 5), .int 5, .int c, .ref 633] M v M' 0 0 := H
  have H : Ev none (e1 + 1) 203 54 [some (.ref 633), some (.int c), c2] [.int ((G_146 M c 5) + 1), .int 5, .int c, .ref 633] M v M' 0 0 := Ev.back 2 (fun n => rfl) H
  obtain ⟨vK2, MK2, K2, H⟩ := Ev.callb (fun n_ => gs_7 rfl rfl (show gCal (.invokevirtual 151) 11 (.int ((G_146 M c 5) + 1) :: .int 5 :: .int c :: .ref 633 :: []) M = some (.inr (147, [some (.ref 633), some (.int c), some (.int 5), some (.int ((G_146 M c 5) + 1))], [])) from by show @cond (Option ((List Value × Mem) ⊕ (Nat × Lo × List Value))) (true && gRecv M (.ref 633) 11 && gRoom [] && true) (some (.inr (147, [some (.ref 633), some (.int c), some (.int 5), some (.int ((G_146 M c 5) + 1))], []))) none = _; rw [recv_s hS.1 qa_633 qo_61]; rfl)) H
  obtain ⟨pK2, qK2⟩ := g_147 hS K2
  rw [pK2, qK2] at H
  obtain ⟨N3, eN3⟩ : ∃ N, N = (X_147 M c 5 ((G_146 M c 5) + 1)) := ⟨_, rfl⟩
  have hN3 : SQ N3 := by rw [eN3]; exact X_147_sx hS
  rw [← eN3] at H
  have H : Ev none (e1 + 1) 203 57 [some (.ref 633), some (.int c), c2] [] N3 v M' 0 0 := H
  have H : Ev none (e1 + 1) 203 65 [some (.ref 633), some (.int c), c2] [.int 6, .int c, .ref 633, .int 6, .int c, .ref 633] N3 v M' 0 0 := Ev.back 6 (fun n => rfl) H
  obtain ⟨vK4, MK4, K4, H⟩ := Ev.callb (fun n_ => gs_7 rfl rfl (show gCal (.invokevirtual 136) 11 (.int 6 :: .int c :: .ref 633 :: [.int 6, .int c, .ref 633]) N3 = some (.inr (146, [some (.ref 633), some (.int c), some (.int 6)], [.int 6, .int c, .ref 633])) from by show @cond (Option ((List Value × Mem) ⊕ (Nat × Lo × List Value))) (true && gRecv N3 (.ref 633) 11 && gRoom [.int 6, .int c, .ref 633] && true) (some (.inr (146, [some (.ref 633), some (.int c), some (.int 6)], [.int 6, .int c, .ref 633]))) none = _; rw [recv_s hN3.1 qa_633 qo_61]; rfl)) H
  obtain ⟨pK4, qK4⟩ := g_146 hN3 K4
  rw [pK4, qK4] at H
  have H : Ev none (e1 + 1) 203 68 [some (.ref 633), some (.int c), c2] [.int (G_146 N3 c 6), .int 6, .int c, .ref 633] N3 v M' 0 0 := H
  have H : Ev none (e1 + 1) 203 70 [some (.ref 633), some (.int c), c2] [.int ((G_146 N3 c 6) + 1), .int 6, .int c, .ref 633] N3 v M' 0 0 := Ev.back 2 (fun n => rfl) H
  obtain ⟨vK5, MK5, K5, H⟩ := Ev.callb (fun n_ => gs_7 rfl rfl (show gCal (.invokevirtual 151) 11 (.int ((G_146 N3 c 6) + 1) :: .int 6 :: .int c :: .ref 633 :: []) N3 = some (.inr (147, [some (.ref 633), some (.int c), some (.int 6), some (.int ((G_146 N3 c 6) + 1))], [])) from by show @cond (Option ((List Value × Mem) ⊕ (Nat × Lo × List Value))) (true && gRecv N3 (.ref 633) 11 && gRoom [] && true) (some (.inr (147, [some (.ref 633), some (.int c), some (.int 6), some (.int ((G_146 N3 c 6) + 1))], []))) none = _; rw [recv_s hN3.1 qa_633 qo_61]; rfl)) H
  obtain ⟨pK5, qK5⟩ := g_147 hN3 K5
  rw [pK5, qK5] at H
  obtain ⟨N6, eN6⟩ : ∃ N, N = (X_147 N3 c 6 ((G_146 N3 c 6) + 1)) := ⟨_, rfl⟩
  have hN6 : SQ N6 := by rw [eN6]; exact X_147_sx hN3
  rw [← eN6] at H
  have H : Ev none (e1 + 1) 203 73 [some (.ref 633), some (.int c), c2] [] N6 v M' 0 0 := H
  have H : Ev none (e1 + 1) 203 75 [some (.ref 633), some (.int c), c2] [.ref 633, .ref 633] N6 v M' 0 0 := Ev.back 2 (fun n => rfl) H
  have H : Ev none (e1 + 1) 203 78 [some (.ref 633), some (.int c), c2] [.int (zI N6 633 42), .ref 633] N6 v M' 0 0 := Ev.back 1 (gs_3 rfl rfl (gf_i hN6.1 qa_633 qi_61_42 rfl)) H
  have H : Ev none (e1 + 1) 203 (if (zI N6 633 42) = 0 then 81 else 89) [some (.ref 633), some (.int c), c2] [.ref 633] N6 v M' 0 0 := Ev.back 1 (fun n => rfl) H
  by_cases h7 : (zI N6 633 42) = 0
  · rw [if_pos h7] at H
    have H : Ev none (e1 + 1) 203 83 [some (.ref 633), some (.int c), c2] [.ref 633, .int c, .ref 633] N6 v M' 0 0 := Ev.back 2 (fun n => rfl) H
    have H : Ev none (e1 + 1) 203 86 [some (.ref 633), some (.int c), c2] [.int (zI N6 633 40), .int c, .ref 633] N6 v M' 0 0 := Ev.back 1 (gs_3 rfl rfl (gf_i hN6.1 qa_633 qi_61_40 rfl)) H
    have H : Ev none (e1 + 1) 203 (if c = (zI N6 633 40) then 89 else 93) [some (.ref 633), some (.int c), c2] [.ref 633] N6 v M' 0 0 := Ev.back 1 (fun n => rfl) H
    by_cases h8 : c = (zI N6 633 40)
    · rw [if_pos h8] at H
      have H : Ev none (e1 + 1) 203 94 [some (.ref 633), some (.int c), c2] [.int 1, .ref 633] N6 v M' 0 0 := Ev.back 2 (fun n => rfl) H
      obtain ⟨N10, eN10⟩ : ∃ N, N = (wF N6 633 42 1) := ⟨_, rfl⟩
      have hN10 : SQ N10 := by rw [eN10]; exact hN6.kf
      have H : Ev none (e1 + 1) 203 97 [some (.ref 633), some (.int c), c2] [] N10 v M' 0 0 := by rw [eN10]; exact Ev.pfi rfl rfl rfl hN6.1 qa_633 qi_61_42 H
      obtain ⟨z1, z2⟩ := Ev.retb (fun n => rfl) H
      subst eN3 eN6 eN10
      exact Or.inl ⟨h7, h8, z1, z2⟩
    · rw [if_neg h8] at H
      have H : Ev none (e1 + 1) 203 94 [some (.ref 633), some (.int c), c2] [.int 0, .ref 633] N6 v M' 0 0 := Ev.back 1 (fun n => rfl) H
      obtain ⟨N12, eN12⟩ : ∃ N, N = (wF N6 633 42 0) := ⟨_, rfl⟩
      have hN12 : SQ N12 := by rw [eN12]; exact hN6.kf
      have H : Ev none (e1 + 1) 203 97 [some (.ref 633), some (.int c), c2] [] N12 v M' 0 0 := by rw [eN12]; exact Ev.pfi rfl rfl rfl hN6.1 qa_633 qi_61_42 H
      obtain ⟨z1, z2⟩ := Ev.retb (fun n => rfl) H
      subst eN3 eN6 eN12
      exact Or.inr (Or.inl ⟨h7, h8, z1, z2⟩)
  · rw [if_neg h7] at H
    have H : Ev none (e1 + 1) 203 94 [some (.ref 633), some (.int c), c2] [.int 1, .ref 633] N6 v M' 0 0 := Ev.back 2 (fun n => rfl) H
    obtain ⟨N14, eN14⟩ : ∃ N, N = (wF N6 633 42 1) := ⟨_, rfl⟩
    have hN14 : SQ N14 := by rw [eN14]; exact hN6.kf
    have H : Ev none (e1 + 1) 203 97 [some (.ref 633), some (.int c), c2] [] N14 v M' 0 0 := by rw [eN14]; exact Ev.pfi rfl rfl rfl hN6.1 qa_633 qi_61_42 H
    obtain ⟨z1, z2⟩ := Ev.retb (fun n => rfl) H
    subst eN3 eN6 eN14
    exact Or.inr (Or.inr (⟨h7, z1, z2⟩))
theorem rtk_0 {e : Nat} {M M' : Mem} {v : Option Value} (hS : SQ M) (H : Ev none e 204 0 [some (.ref 633), none, none, none] [] M v M' 0 0) : Ev none e 204 2 [some (.ref 633), some (.int 0), none, none] [] M v M' 0 0 := by
  have H : Ev none e 204 2 [some (.ref 633), some (.int 0), none, none] [] M v M' 0 0 := Ev.back 2 (fun n => rfl) H
  have HF := H
  exact HF
theorem rtk_2 {e : Nat} {M M' : Mem} {v : Option Value} {k : Int32} {c2 c3 : Option Value} (hS : SQ M) (H : Ev none e 204 2 [some (.ref 633), some (.int k), c2, c3] [] M v M' 0 0) : ((rI M 635 12) ≤ k ∧ (0 ≤ (12 : Int32).toInt ∧ (12 : Int32).toInt < 2314) ∧ Ev none e 204 202 [some (.ref 633), some (.int 0), c2, c3] [] M v M' 0 0) ∨ (¬ ((rI M 635 12) ≤ k) ∧ (rI M 635 ((13 + (6 * k)) + 5)) = 0 ∧ (0 ≤ (12 : Int32).toInt ∧ (12 : Int32).toInt < 2314) ∧ (0 ≤ ((13 + (6 * k)) + 5).toInt ∧ ((13 + (6 * k)) + 5).toInt < 2314) ∧ Ev none e 204 2 [some (.ref 633), some (.int (k + 1)), some (.int (13 + (6 * k))), c3] [] M v M' 0 0) ∨ (¬ ((rI M 635 12) ≤ k) ∧ ¬ ((rI M 635 ((13 + (6 * k)) + 5)) = 0) ∧ (rI M 635 518) < (rI M 635 ((13 + (6 * k)) + 4)) ∧ (0 ≤ (12 : Int32).toInt ∧ (12 : Int32).toInt < 2314) ∧ (0 ≤ ((13 + (6 * k)) + 5).toInt ∧ ((13 + (6 * k)) + 5).toInt < 2314) ∧ (0 ≤ (518 : Int32).toInt ∧ (518 : Int32).toInt < 2314) ∧ (0 ≤ ((13 + (6 * k)) + 4).toInt ∧ ((13 + (6 * k)) + 4).toInt < 2314) ∧ Ev none e 204 2 [some (.ref 633), some (.int (k + 1)), some (.int (13 + (6 * k))), c3] [] M v M' 0 0) ∨ (¬ ((rI M 635 12) ≤ k) ∧ ¬ ((rI M 635 ((13 + (6 * k)) + 5)) = 0) ∧ ¬ ((rI M 635 518) < (rI M 635 ((13 + (6 * k)) + 4))) ∧ (((rI M 635 518) - (rI M 635 ((13 + (6 * k)) + 4))) - ((rI M 635 518) - (rI M 635 ((13 + (6 * k)) + 4))) / (rI M 635 ((13 + (6 * k)) + 3)) * (rI M 635 ((13 + (6 * k)) + 3))) = 0 ∧ (rI M 635 157) = 60 ∧ (0 ≤ (12 : Int32).toInt ∧ (12 : Int32).toInt < 2314) ∧ (0 ≤ ((13 + (6 * k)) + 5).toInt ∧ ((13 + (6 * k)) + 5).toInt < 2314) ∧ (0 ≤ (518 : Int32).toInt ∧ (518 : Int32).toInt < 2314) ∧ (0 ≤ ((13 + (6 * k)) + 4).toInt ∧ ((13 + (6 * k)) + 4).toInt < 2314) ∧ (0 ≤ (518 : Int32).toInt ∧ (518 : Int32).toInt < 2314) ∧ (0 ≤ ((13 + (6 * k)) + 4).toInt ∧ ((13 + (6 * k)) + 4).toInt < 2314) ∧ (0 ≤ ((13 + (6 * k)) + 3).toInt ∧ ((13 + (6 * k)) + 3).toInt < 2314) ∧ ¬ (rI M 635 ((13 + (6 * k)) + 3)) = 0 ∧ (0 ≤ (157 : Int32).toInt ∧ (157 : Int32).toInt < 2314) ∧ (0 ≤ (521 : Int32).toInt ∧ (521 : Int32).toInt < 2314) ∧ (0 ≤ (521 : Int32).toInt ∧ (521 : Int32).toInt < 2314) ∧ Ev none e 204 2 [some (.ref 633), some (.int (k + 1)), some (.int (13 + (6 * k))), c3] [] (wI M 635 ((521 : Int32).toNatClampNeg) ((rI M 635 521) + 1)) v M' 0 0) ∨ (¬ ((rI M 635 12) ≤ k) ∧ ¬ ((rI M 635 ((13 + (6 * k)) + 5)) = 0) ∧ ¬ ((rI M 635 518) < (rI M 635 ((13 + (6 * k)) + 4))) ∧ (((rI M 635 518) - (rI M 635 ((13 + (6 * k)) + 4))) - ((rI M 635 518) - (rI M 635 ((13 + (6 * k)) + 4))) / (rI M 635 ((13 + (6 * k)) + 3)) * (rI M 635 ((13 + (6 * k)) + 3))) = 0 ∧ ¬ ((rI M 635 157) = 60) ∧ (0 ≤ (12 : Int32).toInt ∧ (12 : Int32).toInt < 2314) ∧ (0 ≤ ((13 + (6 * k)) + 5).toInt ∧ ((13 + (6 * k)) + 5).toInt < 2314) ∧ (0 ≤ (518 : Int32).toInt ∧ (518 : Int32).toInt < 2314) ∧ (0 ≤ ((13 + (6 * k)) + 4).toInt ∧ ((13 + (6 * k)) + 4).toInt < 2314) ∧ (0 ≤ (518 : Int32).toInt ∧ (518 : Int32).toInt < 2314) ∧ (0 ≤ ((13 + (6 * k)) + 4).toInt ∧ ((13 + (6 * k)) + 4).toInt < 2314) ∧ (0 ≤ ((13 + (6 * k)) + 3).toInt ∧ ((13 + (6 * k)) + 3).toInt < 2314) ∧ ¬ (rI M 635 ((13 + (6 * k)) + 3)) = 0 ∧ (0 ≤ (157 : Int32).toInt ∧ (157 : Int32).toInt < 2314) ∧ (0 ≤ (157 : Int32).toInt ∧ (157 : Int32).toInt < 2314) ∧ (0 ≤ (13 + (6 * k)).toInt ∧ (13 + (6 * k)).toInt < 2314) ∧ (0 ≤ (3 + (rI M 635 (13 + (6 * k)))).toInt ∧ (3 + (rI M 635 (13 + (6 * k)))).toInt < 2314) ∧ (0 ≤ (158 + (6 * (rI M 635 157))).toInt ∧ (158 + (6 * (rI M 635 157))).toInt < 2314) ∧ (0 ≤ ((158 + (6 * (rI M 635 157))) + 1).toInt ∧ ((158 + (6 * (rI M 635 157))) + 1).toInt < 2314) ∧ (0 ≤ ((158 + (6 * (rI M 635 157))) + 2).toInt ∧ ((158 + (6 * (rI M 635 157))) + 2).toInt < 2314) ∧ (0 ≤ ((158 + (6 * (rI M 635 157))) + 3).toInt ∧ ((158 + (6 * (rI M 635 157))) + 3).toInt < 2314) ∧ (0 ≤ ((158 + (6 * (rI M 635 157))) + 4).toInt ∧ ((158 + (6 * (rI M 635 157))) + 4).toInt < 2314) ∧ (0 ≤ (157 : Int32).toInt ∧ (157 : Int32).toInt < 2314) ∧ (0 ≤ (157 : Int32).toInt ∧ (157 : Int32).toInt < 2314) ∧ Ev none e 204 2 [some (.ref 633), some (.int (k + 1)), some (.int (13 + (6 * k))), some (.int (158 + (6 * (rI M 635 157))))] [] (wI (wI (wI (wI (wI (wI M 635 ((158 + (6 * (rI M 635 157))).toNatClampNeg) (rI M 635 (3 + (rI M 635 (13 + (6 * k)))))) 635 (((158 + (6 * (rI M 635 157))) + 1).toNatClampNeg) k) 635 (((158 + (6 * (rI M 635 157))) + 2).toNatClampNeg) 0) 635 (((158 + (6 * (rI M 635 157))) + 3).toNatClampNeg) (-1)) 635 (((158 + (6 * (rI M 635 157))) + 4).toNatClampNeg) (-1)) 635 ((157 : Int32).toNatClampNeg) ((rI (wI (wI (wI (wI (wI M 635 ((158 + (6 * (rI M 635 157))).toNatClampNeg) (rI M 635 (3 + (rI M 635 (13 + (6 * k)))))) 635 (((158 + (6 * (rI M 635 157))) + 1).toNatClampNeg) k) 635 (((158 + (6 * (rI M 635 157))) + 2).toNatClampNeg) 0) 635 (((158 + (6 * (rI M 635 157))) + 3).toNatClampNeg) (-1)) 635 (((158 + (6 * (rI M 635 157))) + 4).toNatClampNeg) (-1)) 635 157) + 1)) v M' 0 0) ∨ (¬ ((rI M 635 12) ≤ k) ∧ ¬ ((rI M 635 ((13 + (6 * k)) + 5)) = 0) ∧ ¬ ((rI M 635 518) < (rI M 635 ((13 + (6 * k)) + 4))) ∧ ¬ ((((rI M 635 518) - (rI M 635 ((13 + (6 * k)) + 4))) - ((rI M 635 518) - (rI M 635 ((13 + (6 * k)) + 4))) / (rI M 635 ((13 + (6 * k)) + 3)) * (rI M 635 ((13 + (6 * k)) + 3))) = 0) ∧ (0 ≤ (12 : Int32).toInt ∧ (12 : Int32).toInt < 2314) ∧ (0 ≤ ((13 + (6 * k)) + 5).toInt ∧ ((13 + (6 * k)) + 5).toInt < 2314) ∧ (0 ≤ (518 : Int32).toInt ∧ (518 : Int32).toInt < 2314) ∧ (0 ≤ ((13 + (6 * k)) + 4).toInt ∧ ((13 + (6 * k)) + 4).toInt < 2314) ∧ (0 ≤ (518 : Int32).toInt ∧ (518 : Int32).toInt < 2314) ∧ (0 ≤ ((13 + (6 * k)) + 4).toInt ∧ ((13 + (6 * k)) + 4).toInt < 2314) ∧ (0 ≤ ((13 + (6 * k)) + 3).toInt ∧ ((13 + (6 * k)) + 3).toInt < 2314) ∧ ¬ (rI M 635 ((13 + (6 * k)) + 3)) = 0 ∧ Ev none e 204 2 [some (.ref 633), some (.int (k + 1)), some (.int (13 + (6 * k))), c3] [] M v M' 0 0) := by
  have H : Ev none e 204 4 [some (.ref 633), some (.int k), c2, c3] [.ref 633, .int k] M v M' 0 0 := Ev.back 2 (fun n => rfl) H
  have H : Ev none e 204 7 [some (.ref 633), some (.int k), c2, c3] [.ref 635, .int k] M v M' 0 0 := Ev.back 1 (gs_3 rfl rfl (gf_u hS.1 qa_633 qr_61_5 qu_63 rfl)) H
  have H : Ev none e 204 9 [some (.ref 633), some (.int k), c2, c3] [.int 12, .ref 635, .int k] M v M' 0 0 := Ev.back 1 (fun n => rfl) H
  obtain ⟨b1, H⟩ := Ev.ial rfl rfl hS.1 qa_635 qw_63 H
  have H : Ev none e 204 10 [some (.ref 633), some (.int k), c2, c3] [.int (rI M 635 12), .int k] M v M' 0 0 := H
  have H : Ev none e 204 (if (rI M 635 12) ≤ k then 200 else 13) [some (.ref 633), some (.int k), c2, c3] [] M v M' 0 0 := Ev.back 1 (fun n => rfl) H
  by_cases h2 : (rI M 635 12) ≤ k
  · rw [if_pos h2] at H
    have H : Ev none e 204 202 [some (.ref 633), some (.int 0), c2, c3] [] M v M' 0 0 := Ev.back 2 (fun n => rfl) H
    have HF := H
    exact Or.inl ⟨h2, b1, HF⟩
  · rw [if_neg h2] at H
    have H : Ev none e 204 22 [some (.ref 633), some (.int k), some (.int (13 + (6 * k))), c3] [.ref 633] M v M' 0 0 := Ev.back 7 (fun n => rfl) H
    have H : Ev none e 204 25 [some (.ref 633), some (.int k), some (.int (13 + (6 * k))), c3] [.ref 635] M v M' 0 0 := Ev.back 1 (gs_3 rfl rfl (gf_u hS.1 qa_633 qr_61_5 qu_63 rfl)) H
    have H : Ev none e 204 28 [some (.ref 633), some (.int k), some (.int (13 + (6 * k))), c3] [.int ((13 + (6 * k)) + 5), .ref 635] M v M' 0 0 := Ev.back 3 (fun n => rfl) H
    obtain ⟨b3, H⟩ := Ev.ial rfl rfl hS.1 qa_635 qw_63 H
    have H : Ev none e 204 29 [some (.ref 633), some (.int k), some (.int (13 + (6 * k))), c3] [.int (rI M 635 ((13 + (6 * k)) + 5))] M v M' 0 0 := H
    have H : Ev none e 204 (if (rI M 635 ((13 + (6 * k)) + 5)) = 0 then 194 else 32) [some (.ref 633), some (.int k), some (.int (13 + (6 * k))), c3] [] M v M' 0 0 := Ev.back 1 (fun n => rfl) H
    by_cases h4 : (rI M 635 ((13 + (6 * k)) + 5)) = 0
    · rw [if_pos h4] at H
      have H : Ev none e 204 2 [some (.ref 633), some (.int (k + 1)), some (.int (13 + (6 * k))), c3] [] M v M' 0 0 := Ev.back 2 (fun n => rfl) H
      have HF := H
      exact Or.inr (Or.inl ⟨h2, h4, b1, b3, HF⟩)
    · rw [if_neg h4] at H
      have H : Ev none e 204 33 [some (.ref 633), some (.int k), some (.int (13 + (6 * k))), c3] [.ref 633] M v M' 0 0 := Ev.back 1 (fun n => rfl) H
      have H : Ev none e 204 36 [some (.ref 633), some (.int k), some (.int (13 + (6 * k))), c3] [.ref 635] M v M' 0 0 := Ev.back 1 (gs_3 rfl rfl (gf_u hS.1 qa_633 qr_61_5 qu_63 rfl)) H
      have H : Ev none e 204 39 [some (.ref 633), some (.int k), some (.int (13 + (6 * k))), c3] [.int 518, .ref 635] M v M' 0 0 := Ev.back 1 (fun n => rfl) H
      obtain ⟨b5, H⟩ := Ev.ial rfl rfl hS.1 qa_635 qw_63 H
      have H : Ev none e 204 40 [some (.ref 633), some (.int k), some (.int (13 + (6 * k))), c3] [.int (rI M 635 518)] M v M' 0 0 := H
      have H : Ev none e 204 41 [some (.ref 633), some (.int k), some (.int (13 + (6 * k))), c3] [.ref 633, .int (rI M 635 518)] M v M' 0 0 := Ev.back 1 (fun n => rfl) H
      have H : Ev none e 204 44 [some (.ref 633), some (.int k), some (.int (13 + (6 * k))), c3] [.ref 635, .int (rI M 635 518)] M v M' 0 0 := Ev.back 1 (gs_3 rfl rfl (gf_u hS.1 qa_633 qr_61_5 qu_63 rfl)) H
      have H : Ev none e 204 47 [some (.ref 633), some (.int k), some (.int (13 + (6 * k))), c3] [.int ((13 + (6 * k)) + 4), .ref 635, .int (rI M 635 518)] M v M' 0 0 := Ev.back 3 (fun n => rfl) H
      obtain ⟨b6, H⟩ := Ev.ial rfl rfl hS.1 qa_635 qw_63 H
      have H : Ev none e 204 48 [some (.ref 633), some (.int k), some (.int (13 + (6 * k))), c3] [.int (rI M 635 ((13 + (6 * k)) + 4)), .int (rI M 635 518)] M v M' 0 0 := H
      have H : Ev none e 204 (if (rI M 635 518) < (rI M 635 ((13 + (6 * k)) + 4)) then 194 else 51) [some (.ref 633), some (.int k), some (.int (13 + (6 * k))), c3] [] M v M' 0 0 := Ev.back 1 (fun n => rfl) H
      by_cases h7 : (rI M 635 518) < (rI M 635 ((13 + (6 * k)) + 4))
      · rw [if_pos h7] at H
        have H : Ev none e 204 2 [some (.ref 633), some (.int (k + 1)), some (.int (13 + (6 * k))), c3] [] M v M' 0 0 := Ev.back 2 (fun n => rfl) H
        have HF := H
        exact Or.inr (Or.inr (Or.inl ⟨h2, h4, h7, b1, b3, b5, b6, HF⟩))
      · rw [if_neg h7] at H
        have H : Ev none e 204 52 [some (.ref 633), some (.int k), some (.int (13 + (6 * k))), c3] [.ref 633] M v M' 0 0 := Ev.back 1 (fun n => rfl) H
        have H : Ev none e 204 55 [some (.ref 633), some (.int k), some (.int (13 + (6 * k))), c3] [.ref 635] M v M' 0 0 := Ev.back 1 (gs_3 rfl rfl (gf_u hS.1 qa_633 qr_61_5 qu_63 rfl)) H
        have H : Ev none e 204 58 [some (.ref 633), some (.int k), some (.int (13 + (6 * k))), c3] [.int 518, .ref 635] M v M' 0 0 := Ev.back 1 (fun n => rfl) H
        obtain ⟨b8, H⟩ := Ev.ial rfl rfl hS.1 qa_635 qw_63 H
        have H : Ev none e 204 59 [some (.ref 633), some (.int k), some (.int (13 + (6 * k))), c3] [.int (rI M 635 518)] M v M' 0 0 := H
        have H : Ev none e 204 60 [some (.ref 633), some (.int k), some (.int (13 + (6 * k))), c3] [.ref 633, .int (rI M 635 518)] M v M' 0 0 := Ev.back 1 (fun n => rfl) H
        have H : Ev none e 204 63 [some (.ref 633), some (.int k), some (.int (13 + (6 * k))), c3] [.ref 635, .int (rI M 635 518)] M v M' 0 0 := Ev.back 1 (gs_3 rfl rfl (gf_u hS.1 qa_633 qr_61_5 qu_63 rfl)) H
        have H : Ev none e 204 66 [some (.ref 633), some (.int k), some (.int (13 + (6 * k))), c3] [.int ((13 + (6 * k)) + 4), .ref 635, .int (rI M 635 518)] M v M' 0 0 := Ev.back 3 (fun n => rfl) H
        obtain ⟨b9, H⟩ := Ev.ial rfl rfl hS.1 qa_635 qw_63 H
        have H : Ev none e 204 67 [some (.ref 633), some (.int k), some (.int (13 + (6 * k))), c3] [.int (rI M 635 ((13 + (6 * k)) + 4)), .int (rI M 635 518)] M v M' 0 0 := H
        have H : Ev none e 204 69 [some (.ref 633), some (.int k), some (.int (13 + (6 * k))), c3] [.ref 633, .int ((rI M 635 518) - (rI M 635 ((13 + (6 * k)) + 4)))] M v M' 0 0 := Ev.back 2 (fun n => rfl) H
        have H : Ev none e 204 72 [some (.ref 633), some (.int k), some (.int (13 + (6 * k))), c3] [.ref 635, .int ((rI M 635 518) - (rI M 635 ((13 + (6 * k)) + 4)))] M v M' 0 0 := Ev.back 1 (gs_3 rfl rfl (gf_u hS.1 qa_633 qr_61_5 qu_63 rfl)) H
        have H : Ev none e 204 75 [some (.ref 633), some (.int k), some (.int (13 + (6 * k))), c3] [.int ((13 + (6 * k)) + 3), .ref 635, .int ((rI M 635 518) - (rI M 635 ((13 + (6 * k)) + 4)))] M v M' 0 0 := Ev.back 3 (fun n => rfl) H
        obtain ⟨b10, H⟩ := Ev.ial rfl rfl hS.1 qa_635 qw_63 H
        have H : Ev none e 204 76 [some (.ref 633), some (.int k), some (.int (13 + (6 * k))), c3] [.int (rI M 635 ((13 + (6 * k)) + 3)), .int ((rI M 635 518) - (rI M 635 ((13 + (6 * k)) + 4)))] M v M' 0 0 := H
        obtain ⟨nz11, H⟩ := rm_i H rfl rfl
        have H : Ev none e 204 77 [some (.ref 633), some (.int k), some (.int (13 + (6 * k))), c3] [.int (((rI M 635 518) - (rI M 635 ((13 + (6 * k)) + 4))) - ((rI M 635 518) - (rI M 635 ((13 + (6 * k)) + 4))) / (rI M 635 ((13 + (6 * k)) + 3)) * (rI M 635 ((13 + (6 * k)) + 3)))] M v M' 0 0 := H
        have H : Ev none e 204 (if (((rI M 635 518) - (rI M 635 ((13 + (6 * k)) + 4))) - ((rI M 635 518) - (rI M 635 ((13 + (6 * k)) + 4))) / (rI M 635 ((13 + (6 * k)) + 3)) * (rI M 635 ((13 + (6 * k)) + 3))) = 0 then 83 else 80) [some (.ref 633), some (.int k), some (.int (13 + (6 * k))), c3] [] M v M' 0 0 := Ev.back 1 (fun n => rfl) H
        by_cases h12 : (((rI M 635 518) - (rI M 635 ((13 + (6 * k)) + 4))) - ((rI M 635 518) - (rI M 635 ((13 + (6 * k)) + 4))) / (rI M 635 ((13 + (6 * k)) + 3)) * (rI M 635 ((13 + (6 * k)) + 3))) = 0
        · rw [if_pos h12] at H
          have H : Ev none e 204 84 [some (.ref 633), some (.int k), some (.int (13 + (6 * k))), c3] [.ref 633] M v M' 0 0 := Ev.back 1 (fun n => rfl) H
          have H : Ev none e 204 87 [some (.ref 633), some (.int k), some (.int (13 + (6 * k))), c3] [.ref 635] M v M' 0 0 := Ev.back 1 (gs_3 rfl rfl (gf_u hS.1 qa_633 qr_61_5 qu_63 rfl)) H
          have H : Ev none e 204 90 [some (.ref 633), some (.int k), some (.int (13 + (6 * k))), c3] [.int 157, .ref 635] M v M' 0 0 := Ev.back 1 (fun n => rfl) H
          obtain ⟨b13, H⟩ := Ev.ial rfl rfl hS.1 qa_635 qw_63 H
          have H : Ev none e 204 91 [some (.ref 633), some (.int k), some (.int (13 + (6 * k))), c3] [.int (rI M 635 157)] M v M' 0 0 := H
          have H : Ev none e 204 (if (rI M 635 157) = 60 then 96 else 111) [some (.ref 633), some (.int k), some (.int (13 + (6 * k))), c3] [] M v M' 0 0 := Ev.back 2 (fun n => rfl) H
          by_cases h14 : (rI M 635 157) = 60
          · rw [if_pos h14] at H
            have H : Ev none e 204 97 [some (.ref 633), some (.int k), some (.int (13 + (6 * k))), c3] [.ref 633] M v M' 0 0 := Ev.back 1 (fun n => rfl) H
            have H : Ev none e 204 100 [some (.ref 633), some (.int k), some (.int (13 + (6 * k))), c3] [.ref 635] M v M' 0 0 := Ev.back 1 (gs_3 rfl rfl (gf_u hS.1 qa_633 qr_61_5 qu_63 rfl)) H
            have H : Ev none e 204 104 [some (.ref 633), some (.int k), some (.int (13 + (6 * k))), c3] [.int 521, .ref 635, .int 521, .ref 635] M v M' 0 0 := Ev.back 2 (fun n => rfl) H
            obtain ⟨b15, H⟩ := Ev.ial rfl rfl hS.1 qa_635 qw_63 H
            have H : Ev none e 204 105 [some (.ref 633), some (.int k), some (.int (13 + (6 * k))), c3] [.int (rI M 635 521), .int 521, .ref 635] M v M' 0 0 := H
            have H : Ev none e 204 107 [some (.ref 633), some (.int k), some (.int (13 + (6 * k))), c3] [.int ((rI M 635 521) + 1), .int 521, .ref 635] M v M' 0 0 := Ev.back 2 (fun n => rfl) H
            obtain ⟨b16, H⟩ := Ev.ias rfl rfl hS.1 qa_635 qw_63 H
            obtain ⟨N17, eN17⟩ : ∃ N, N = (wI M 635 ((521 : Int32).toNatClampNeg) ((rI M 635 521) + 1)) := ⟨_, rfl⟩
            have hN17 : SQ N17 := by rw [eN17]; exact hS.ki
            have H : Ev none e 204 108 [some (.ref 633), some (.int k), some (.int (13 + (6 * k))), c3] [] N17 v M' 0 0 := by rw [eN17]; exact H
            have H : Ev none e 204 2 [some (.ref 633), some (.int (k + 1)), some (.int (13 + (6 * k))), c3] [] N17 v M' 0 0 := Ev.back 3 (fun n => rfl) H
            have HF := H
            subst eN17
            exact Or.inr (Or.inr (Or.inr (Or.inl ⟨h2, h4, h7, h12, h14, b1, b3, b5, b6, b8, b9, b10, nz11, b13, b15, b16, HF⟩)))
          · rw [if_neg h14] at H
            have H : Ev none e 204 117 [some (.ref 633), some (.int k), some (.int (13 + (6 * k))), c3] [.ref 633, .int 6, .int 158] M v M' 0 0 := Ev.back 3 (fun n => rfl) H
            have H : Ev none e 204 120 [some (.ref 633), some (.int k), some (.int (13 + (6 * k))), c3] [.ref 635, .int 6, .int 158] M v M' 0 0 := Ev.back 1 (gs_3 rfl rfl (gf_u hS.1 qa_633 qr_61_5 qu_63 rfl)) H
            have H : Ev none e 204 123 [some (.ref 633), some (.int k), some (.int (13 + (6 * k))), c3] [.int 157, .ref 635, .int 6, .int 158] M v M' 0 0 := Ev.back 1 (fun n => rfl) H
            obtain ⟨b18, H⟩ := Ev.ial rfl rfl hS.1 qa_635 qw_63 H
            have H : Ev none e 204 124 [some (.ref 633), some (.int k), some (.int (13 + (6 * k))), c3] [.int (rI M 635 157), .int 6, .int 158] M v M' 0 0 := H
            have H : Ev none e 204 128 [some (.ref 633), some (.int k), some (.int (13 + (6 * k))), some (.int (158 + (6 * (rI M 635 157))))] [.ref 633] M v M' 0 0 := Ev.back 4 (fun n => rfl) H
            have H : Ev none e 204 131 [some (.ref 633), some (.int k), some (.int (13 + (6 * k))), some (.int (158 + (6 * (rI M 635 157))))] [.ref 635] M v M' 0 0 := Ev.back 1 (gs_3 rfl rfl (gf_u hS.1 qa_633 qr_61_5 qu_63 rfl)) H
            have H : Ev none e 204 133 [some (.ref 633), some (.int k), some (.int (13 + (6 * k))), some (.int (158 + (6 * (rI M 635 157))))] [.ref 633, .int (158 + (6 * (rI M 635 157))), .ref 635] M v M' 0 0 := Ev.back 2 (fun n => rfl) H
            have H : Ev none e 204 136 [some (.ref 633), some (.int k), some (.int (13 + (6 * k))), some (.int (158 + (6 * (rI M 635 157))))] [.ref 635, .int (158 + (6 * (rI M 635 157))), .ref 635] M v M' 0 0 := Ev.back 1 (gs_3 rfl rfl (gf_u hS.1 qa_633 qr_61_5 qu_63 rfl)) H
            have H : Ev none e 204 138 [some (.ref 633), some (.int k), some (.int (13 + (6 * k))), some (.int (158 + (6 * (rI M 635 157))))] [.ref 633, .int 3, .ref 635, .int (158 + (6 * (rI M 635 157))), .ref 635] M v M' 0 0 := Ev.back 2 (fun n => rfl) H
            have H : Ev none e 204 141 [some (.ref 633), some (.int k), some (.int (13 + (6 * k))), some (.int (158 + (6 * (rI M 635 157))))] [.ref 635, .int 3, .ref 635, .int (158 + (6 * (rI M 635 157))), .ref 635] M v M' 0 0 := Ev.back 1 (gs_3 rfl rfl (gf_u hS.1 qa_633 qr_61_5 qu_63 rfl)) H
            have H : Ev none e 204 142 [some (.ref 633), some (.int k), some (.int (13 + (6 * k))), some (.int (158 + (6 * (rI M 635 157))))] [.int (13 + (6 * k)), .ref 635, .int 3, .ref 635, .int (158 + (6 * (rI M 635 157))), .ref 635] M v M' 0 0 := Ev.back 1 (fun n => rfl) H
            obtain ⟨b19, H⟩ := Ev.ial rfl rfl hS.1 qa_635 qw_63 H
            have H : Ev none e 204 143 [some (.ref 633), some (.int k), some (.int (13 + (6 * k))), some (.int (158 + (6 * (rI M 635 157))))] [.int (rI M 635 (13 + (6 * k))), .int 3, .ref 635, .int (158 + (6 * (rI M 635 157))), .ref 635] M v M' 0 0 := H
            have H : Ev none e 204 144 [some (.ref 633), some (.int k), some (.int (13 + (6 * k))), some (.int (158 + (6 * (rI M 635 157))))] [.int (3 + (rI M 635 (13 + (6 * k)))), .ref 635, .int (158 + (6 * (rI M 635 157))), .ref 635] M v M' 0 0 := Ev.back 1 (fun n => rfl) H
            obtain ⟨b20, H⟩ := Ev.ial rfl rfl hS.1 qa_635 qw_63 H
            have H : Ev none e 204 145 [some (.ref 633), some (.int k), some (.int (13 + (6 * k))), some (.int (158 + (6 * (rI M 635 157))))] [.int (rI M 635 (3 + (rI M 635 (13 + (6 * k))))), .int (158 + (6 * (rI M 635 157))), .ref 635] M v M' 0 0 := H
            obtain ⟨b21, H⟩ := Ev.ias rfl rfl hS.1 qa_635 qw_63 H
            obtain ⟨N22, eN22⟩ : ∃ N, N = (wI M 635 ((158 + (6 * (rI M 635 157))).toNatClampNeg) (rI M 635 (3 + (rI M 635 (13 + (6 * k)))))) := ⟨_, rfl⟩
            have hN22 : SQ N22 := by rw [eN22]; exact hS.ki
            have H : Ev none e 204 146 [some (.ref 633), some (.int k), some (.int (13 + (6 * k))), some (.int (158 + (6 * (rI M 635 157))))] [] N22 v M' 0 0 := by rw [eN22]; exact H
            have H : Ev none e 204 147 [some (.ref 633), some (.int k), some (.int (13 + (6 * k))), some (.int (158 + (6 * (rI M 635 157))))] [.ref 633] N22 v M' 0 0 := Ev.back 1 (fun n => rfl) H
            have H : Ev none e 204 150 [some (.ref 633), some (.int k), some (.int (13 + (6 * k))), some (.int (158 + (6 * (rI M 635 157))))] [.ref 635] N22 v M' 0 0 := Ev.back 1 (gs_3 rfl rfl (gf_u hN22.1 qa_633 qr_61_5 qu_63 rfl)) H
            have H : Ev none e 204 154 [some (.ref 633), some (.int k), some (.int (13 + (6 * k))), some (.int (158 + (6 * (rI M 635 157))))] [.int k, .int ((158 + (6 * (rI M 635 157))) + 1), .ref 635] N22 v M' 0 0 := Ev.back 4 (fun n => rfl) H
            obtain ⟨b23, H⟩ := Ev.ias rfl rfl hN22.1 qa_635 qw_63 H
            obtain ⟨N24, eN24⟩ : ∃ N, N = (wI N22 635 (((158 + (6 * (rI M 635 157))) + 1).toNatClampNeg) k) := ⟨_, rfl⟩
            have hN24 : SQ N24 := by rw [eN24]; exact hN22.ki
            have H : Ev none e 204 155 [some (.ref 633), some (.int k), some (.int (13 + (6 * k))), some (.int (158 + (6 * (rI M 635 157))))] [] N24 v M' 0 0 := by rw [eN24]; exact H
            have H : Ev none e 204 156 [some (.ref 633), some (.int k), some (.int (13 + (6 * k))), some (.int (158 + (6 * (rI M 635 157))))] [.ref 633] N24 v M' 0 0 := Ev.back 1 (fun n => rfl) H
            have H : Ev none e 204 159 [some (.ref 633), some (.int k), some (.int (13 + (6 * k))), some (.int (158 + (6 * (rI M 635 157))))] [.ref 635] N24 v M' 0 0 := Ev.back 1 (gs_3 rfl rfl (gf_u hN24.1 qa_633 qr_61_5 qu_63 rfl)) H
            have H : Ev none e 204 163 [some (.ref 633), some (.int k), some (.int (13 + (6 * k))), some (.int (158 + (6 * (rI M 635 157))))] [.int 0, .int ((158 + (6 * (rI M 635 157))) + 2), .ref 635] N24 v M' 0 0 := Ev.back 4 (fun n => rfl) H
            obtain ⟨b25, H⟩ := Ev.ias rfl rfl hN24.1 qa_635 qw_63 H
            obtain ⟨N26, eN26⟩ : ∃ N, N = (wI N24 635 (((158 + (6 * (rI M 635 157))) + 2).toNatClampNeg) 0) := ⟨_, rfl⟩
            have hN26 : SQ N26 := by rw [eN26]; exact hN24.ki
            have H : Ev none e 204 164 [some (.ref 633), some (.int k), some (.int (13 + (6 * k))), some (.int (158 + (6 * (rI M 635 157))))] [] N26 v M' 0 0 := by rw [eN26]; exact H
            have H : Ev none e 204 165 [some (.ref 633), some (.int k), some (.int (13 + (6 * k))), some (.int (158 + (6 * (rI M 635 157))))] [.ref 633] N26 v M' 0 0 := Ev.back 1 (fun n => rfl) H
            have H : Ev none e 204 168 [some (.ref 633), some (.int k), some (.int (13 + (6 * k))), some (.int (158 + (6 * (rI M 635 157))))] [.ref 635] N26 v M' 0 0 := Ev.back 1 (gs_3 rfl rfl (gf_u hN26.1 qa_633 qr_61_5 qu_63 rfl)) H
            have H : Ev none e 204 172 [some (.ref 633), some (.int k), some (.int (13 + (6 * k))), some (.int (158 + (6 * (rI M 635 157))))] [.int (-1), .int ((158 + (6 * (rI M 635 157))) + 3), .ref 635] N26 v M' 0 0 := Ev.back 4 (fun n => rfl) H
            obtain ⟨b27, H⟩ := Ev.ias rfl rfl hN26.1 qa_635 qw_63 H
            obtain ⟨N28, eN28⟩ : ∃ N, N = (wI N26 635 (((158 + (6 * (rI M 635 157))) + 3).toNatClampNeg) (-1)) := ⟨_, rfl⟩
            have hN28 : SQ N28 := by rw [eN28]; exact hN26.ki
            have H : Ev none e 204 173 [some (.ref 633), some (.int k), some (.int (13 + (6 * k))), some (.int (158 + (6 * (rI M 635 157))))] [] N28 v M' 0 0 := by rw [eN28]; exact H
            have H : Ev none e 204 174 [some (.ref 633), some (.int k), some (.int (13 + (6 * k))), some (.int (158 + (6 * (rI M 635 157))))] [.ref 633] N28 v M' 0 0 := Ev.back 1 (fun n => rfl) H
            have H : Ev none e 204 177 [some (.ref 633), some (.int k), some (.int (13 + (6 * k))), some (.int (158 + (6 * (rI M 635 157))))] [.ref 635] N28 v M' 0 0 := Ev.back 1 (gs_3 rfl rfl (gf_u hN28.1 qa_633 qr_61_5 qu_63 rfl)) H
            have H : Ev none e 204 181 [some (.ref 633), some (.int k), some (.int (13 + (6 * k))), some (.int (158 + (6 * (rI M 635 157))))] [.int (-1), .int ((158 + (6 * (rI M 635 157))) + 4), .ref 635] N28 v M' 0 0 := Ev.back 4 (fun n => rfl) H
            obtain ⟨b29, H⟩ := Ev.ias rfl rfl hN28.1 qa_635 qw_63 H
            obtain ⟨N30, eN30⟩ : ∃ N, N = (wI N28 635 (((158 + (6 * (rI M 635 157))) + 4).toNatClampNeg) (-1)) := ⟨_, rfl⟩
            have hN30 : SQ N30 := by rw [eN30]; exact hN28.ki
            have H : Ev none e 204 182 [some (.ref 633), some (.int k), some (.int (13 + (6 * k))), some (.int (158 + (6 * (rI M 635 157))))] [] N30 v M' 0 0 := by rw [eN30]; exact H
            have H : Ev none e 204 183 [some (.ref 633), some (.int k), some (.int (13 + (6 * k))), some (.int (158 + (6 * (rI M 635 157))))] [.ref 633] N30 v M' 0 0 := Ev.back 1 (fun n => rfl) H
            have H : Ev none e 204 186 [some (.ref 633), some (.int k), some (.int (13 + (6 * k))), some (.int (158 + (6 * (rI M 635 157))))] [.ref 635] N30 v M' 0 0 := Ev.back 1 (gs_3 rfl rfl (gf_u hN30.1 qa_633 qr_61_5 qu_63 rfl)) H
            have H : Ev none e 204 190 [some (.ref 633), some (.int k), some (.int (13 + (6 * k))), some (.int (158 + (6 * (rI M 635 157))))] [.int 157, .ref 635, .int 157, .ref 635] N30 v M' 0 0 := Ev.back 2 (fun n => rfl) H
            obtain ⟨b31, H⟩ := Ev.ial rfl rfl hN30.1 qa_635 qw_63 H
            have H : Ev none e 204 191 [some (.ref 633), some (.int k), some (.int (13 + (6 * k))), some (.int (158 + (6 * (rI M 635 157))))] [.int (rI N30 635 157), .int 157, .ref 635] N30 v M' 0 0 := H
            have H : Ev none e 204 193 [some (.ref 633), some (.int k), some (.int (13 + (6 * k))), some (.int (158 + (6 * (rI M 635 157))))] [.int ((rI N30 635 157) + 1), .int 157, .ref 635] N30 v M' 0 0 := Ev.back 2 (fun n => rfl) H
            obtain ⟨b32, H⟩ := Ev.ias rfl rfl hN30.1 qa_635 qw_63 H
            obtain ⟨N33, eN33⟩ : ∃ N, N = (wI N30 635 ((157 : Int32).toNatClampNeg) ((rI N30 635 157) + 1)) := ⟨_, rfl⟩
            have hN33 : SQ N33 := by rw [eN33]; exact hN30.ki
            have H : Ev none e 204 194 [some (.ref 633), some (.int k), some (.int (13 + (6 * k))), some (.int (158 + (6 * (rI M 635 157))))] [] N33 v M' 0 0 := by rw [eN33]; exact H
            have H : Ev none e 204 2 [some (.ref 633), some (.int (k + 1)), some (.int (13 + (6 * k))), some (.int (158 + (6 * (rI M 635 157))))] [] N33 v M' 0 0 := Ev.back 2 (fun n => rfl) H
            have HF := H
            subst eN22 eN24 eN26 eN28 eN30 eN33
            exact Or.inr (Or.inr (Or.inr (Or.inr (Or.inl ⟨h2, h4, h7, h12, h14, b1, b3, b5, b6, b8, b9, b10, nz11, b13, b18, b19, b20, b21, b23, b25, b27, b29, b31, b32, HF⟩))))
        · rw [if_neg h12] at H
          have H : Ev none e 204 2 [some (.ref 633), some (.int (k + 1)), some (.int (13 + (6 * k))), c3] [] M v M' 0 0 := Ev.back 3 (fun n => rfl) H
          have HF := H
          exact Or.inr (Or.inr (Or.inr (Or.inr (Or.inr (⟨h2, h4, h7, h12, b1, b3, b5, b6, b8, b9, b10, nz11, HF⟩)))))
theorem rtk_202 {e : Nat} {M M' : Mem} {v : Option Value} {k : Int32} {c2 c3 : Option Value} (hS : SQ M) (H : Ev none e 204 202 [some (.ref 633), some (.int k), c2, c3] [] M v M' 0 0) : ((rI M 635 157) ≤ k ∧ (0 ≤ (157 : Int32).toInt ∧ (157 : Int32).toInt < 2314) ∧ (0 ≤ (518 : Int32).toInt ∧ (518 : Int32).toInt < 2314) ∧ (0 ≤ (518 : Int32).toInt ∧ (518 : Int32).toInt < 2314) ∧ v = none ∧ M' = (wI M 635 ((518 : Int32).toNatClampNeg) ((rI M 635 518) + 1))) ∨ (¬ ((rI M 635 157) ≤ k) ∧ (0 ≤ (157 : Int32).toInt ∧ (157 : Int32).toInt < 2314) ∧ (∃ e1 v1 M1, e = e1 + 1 ∧ Ev none e1 206 0 [some (.ref 633), some (.int (158 + (6 * k))), none, none] [] M v1 M1 0 0 ∧ Ev none e 204 226 [some (.ref 633), some (.int k), c2, c3] (v1.toList ++ []) M1 v M' 0 0)) := by
  have H : Ev none e 204 204 [some (.ref 633), some (.int k), c2, c3] [.ref 633, .int k] M v M' 0 0 := Ev.back 2 (fun n => rfl) H
  have H : Ev none e 204 207 [some (.ref 633), some (.int k), c2, c3] [.ref 635, .int k] M v M' 0 0 := Ev.back 1 (gs_3 rfl rfl (gf_u hS.1 qa_633 qr_61_5 qu_63 rfl)) H
  have H : Ev none e 204 210 [some (.ref 633), some (.int k), c2, c3] [.int 157, .ref 635, .int k] M v M' 0 0 := Ev.back 1 (fun n => rfl) H
  obtain ⟨b1, H⟩ := Ev.ial rfl rfl hS.1 qa_635 qw_63 H
  have H : Ev none e 204 211 [some (.ref 633), some (.int k), c2, c3] [.int (rI M 635 157), .int k] M v M' 0 0 := H
  have H : Ev none e 204 (if (rI M 635 157) ≤ k then 243 else 214) [some (.ref 633), some (.int k), c2, c3] [] M v M' 0 0 := Ev.back 1 (fun n => rfl) H
  by_cases h2 : (rI M 635 157) ≤ k
  · rw [if_pos h2] at H
    have H : Ev none e 204 244 [some (.ref 633), some (.int k), c2, c3] [.ref 633] M v M' 0 0 := Ev.back 1 (fun n => rfl) H
    have H : Ev none e 204 247 [some (.ref 633), some (.int k), c2, c3] [.ref 635] M v M' 0 0 := Ev.back 1 (gs_3 rfl rfl (gf_u hS.1 qa_633 qr_61_5 qu_63 rfl)) H
    have H : Ev none e 204 251 [some (.ref 633), some (.int k), c2, c3] [.int 518, .ref 635, .int 518, .ref 635] M v M' 0 0 := Ev.back 2 (fun n => rfl) H
    obtain ⟨b3, H⟩ := Ev.ial rfl rfl hS.1 qa_635 qw_63 H
    have H : Ev none e 204 252 [some (.ref 633), some (.int k), c2, c3] [.int (rI M 635 518), .int 518, .ref 635] M v M' 0 0 := H
    have H : Ev none e 204 254 [some (.ref 633), some (.int k), c2, c3] [.int ((rI M 635 518) + 1), .int 518, .ref 635] M v M' 0 0 := Ev.back 2 (fun n => rfl) H
    obtain ⟨b4, H⟩ := Ev.ias rfl rfl hS.1 qa_635 qw_63 H
    obtain ⟨N5, eN5⟩ : ∃ N, N = (wI M 635 ((518 : Int32).toNatClampNeg) ((rI M 635 518) + 1)) := ⟨_, rfl⟩
    have hN5 : SQ N5 := by rw [eN5]; exact hS.ki
    have H : Ev none e 204 255 [some (.ref 633), some (.int k), c2, c3] [] N5 v M' 0 0 := by rw [eN5]; exact H
    obtain ⟨z1, z2⟩ := Ev.retb (fun n => rfl) H
    subst eN5
    exact Or.inl ⟨h2, b1, b3, b4, z1, z2⟩
  · rw [if_neg h2] at H
    have H : Ev none e 204 223 [some (.ref 633), some (.int k), c2, c3] [.int (158 + (6 * k)), .ref 633] M v M' 0 0 := Ev.back 6 (fun n => rfl) H
    obtain ⟨e1, rfl⟩ := Ev.dpos rfl rfl H
    obtain ⟨vK6, MK6, K6, H⟩ := Ev.callb (fun n_ => gs_7 rfl rfl (show gCal (.invokevirtual 408) 11 (.int (158 + (6 * k)) :: .ref 633 :: []) M = some (.inr (206, [some (.ref 633), some (.int (158 + (6 * k))), none, none], [])) from by show @cond (Option ((List Value × Mem) ⊕ (Nat × Lo × List Value))) (true && gRecv M (.ref 633) 11 && gRoom [] && true) (some (.inr (206, [some (.ref 633), some (.int (158 + (6 * k))), none, none], []))) none = _; rw [recv_s hS.1 qa_633 qo_61]; rfl)) H
    have K6 : Ev none e1 206 0 [some (.ref 633), some (.int (158 + (6 * k))), none, none] [] M vK6 MK6 0 0 := K6
    have HF := H
    exact Or.inr (⟨h2, b1, ⟨e1, vK6, MK6, rfl, K6, HF⟩⟩)
theorem rtk_226 {e : Nat} {M M' : Mem} {v : Option Value} {k y : Int32} {c2 c3 : Option Value} (hS : SQ M) (H : Ev none e 204 226 [some (.ref 633), some (.int k), c2, c3] [.int y] M v M' 0 0) : (y = 0 ∧ (∃ e1 v1 M1, e = e1 + 1 ∧ Ev none e1 205 0 [some (.ref 633), some (.int k), none] [] M v1 M1 0 0 ∧ Ev none e 204 240 [some (.ref 633), some (.int k), c2, c3] (v1.toList ++ []) M1 v M' 0 0)) ∨ (¬ (y = 0) ∧ Ev none e 204 202 [some (.ref 633), some (.int (k + 1)), c2, c3] [] M v M' 0 0) := by
  have H : Ev none e 204 (if y = 0 then 235 else 229) [some (.ref 633), some (.int k), c2, c3] [] M v M' 0 0 := Ev.back 1 (fun n => rfl) H
  by_cases h1 : y = 0
  · rw [if_pos h1] at H
    have H : Ev none e 204 237 [some (.ref 633), some (.int k), c2, c3] [.int k, .ref 633] M v M' 0 0 := Ev.back 2 (fun n => rfl) H
    obtain ⟨e1, rfl⟩ := Ev.dpos rfl rfl H
    obtain ⟨vK2, MK2, K2, H⟩ := Ev.callb (fun n_ => gs_7 rfl rfl (show gCal (.invokevirtual 411) 11 (.int k :: .ref 633 :: []) M = some (.inr (205, [some (.ref 633), some (.int k), none], [])) from by show @cond (Option ((List Value × Mem) ⊕ (Nat × Lo × List Value))) (true && gRecv M (.ref 633) 11 && gRoom [] && true) (some (.inr (205, [some (.ref 633), some (.int k), none], []))) none = _; rw [recv_s hS.1 qa_633 qo_61]; rfl)) H
    have K2 : Ev none e1 205 0 [some (.ref 633), some (.int k), none] [] M vK2 MK2 0 0 := K2
    have HF := H
    exact Or.inl ⟨h1, ⟨e1, vK2, MK2, rfl, K2, HF⟩⟩
  · rw [if_neg h1] at H
    have H : Ev none e 204 202 [some (.ref 633), some (.int (k + 1)), c2, c3] [] M v M' 0 0 := Ev.back 2 (fun n => rfl) H
    have HF := H
    exact Or.inr (⟨h1, HF⟩)
theorem rtk_240 {e : Nat} {M M' : Mem} {v : Option Value} {k : Int32} {c2 c3 : Option Value} (hS : SQ M) (H : Ev none e 204 240 [some (.ref 633), some (.int k), c2, c3] [] M v M' 0 0) : Ev none e 204 202 [some (.ref 633), some (.int k), c2, c3] [] M v M' 0 0 := by
  have H : Ev none e 204 202 [some (.ref 633), some (.int k), c2, c3] [] M v M' 0 0 := Ev.back 1 (fun n => rfl) H
  have HF := H
  exact HF
theorem rle_0 {e : Nat} {M M' : Mem} {v : Option Value} {k : Int32} (hS : SQ M) (H : Ev none e 205 0 [some (.ref 633), some (.int k), none] [] M v M' 0 0) : (0 ≤ (157 : Int32).toInt ∧ (157 : Int32).toInt < 2314) ∧ (0 ≤ (157 : Int32).toInt ∧ (157 : Int32).toInt < 2314) ∧ Ev none e 205 21 [some (.ref 633), some (.int k), some (.int (158 + (6 * k)))] [] (wI M 635 ((157 : Int32).toNatClampNeg) ((rI M 635 157) - 1)) v M' 0 0 := by
  have H : Ev none e 205 1 [some (.ref 633), some (.int k), none] [.ref 633] M v M' 0 0 := Ev.back 1 (fun n => rfl) H
  have H : Ev none e 205 4 [some (.ref 633), some (.int k), none] [.ref 635] M v M' 0 0 := Ev.back 1 (gs_3 rfl rfl (gf_u hS.1 qa_633 qr_61_5 qu_63 rfl)) H
  have H : Ev none e 205 8 [some (.ref 633), some (.int k), none] [.int 157, .ref 635, .int 157, .ref 635] M v M' 0 0 := Ev.back 2 (fun n => rfl) H
  obtain ⟨b1, H⟩ := Ev.ial rfl rfl hS.1 qa_635 qw_63 H
  have H : Ev none e 205 9 [some (.ref 633), some (.int k), none] [.int (rI M 635 157), .int 157, .ref 635] M v M' 0 0 := H
  have H : Ev none e 205 11 [some (.ref 633), some (.int k), none] [.int ((rI M 635 157) - 1), .int 157, .ref 635] M v M' 0 0 := Ev.back 2 (fun n => rfl) H
  obtain ⟨b2, H⟩ := Ev.ias rfl rfl hS.1 qa_635 qw_63 H
  obtain ⟨N3, eN3⟩ : ∃ N, N = (wI M 635 ((157 : Int32).toNatClampNeg) ((rI M 635 157) - 1)) := ⟨_, rfl⟩
  have hN3 : SQ N3 := by rw [eN3]; exact hS.ki
  have H : Ev none e 205 12 [some (.ref 633), some (.int k), none] [] N3 v M' 0 0 := by rw [eN3]; exact H
  have H : Ev none e 205 21 [some (.ref 633), some (.int k), some (.int (158 + (6 * k)))] [] N3 v M' 0 0 := Ev.back 6 (fun n => rfl) H
  have HF := H
  subst eN3
  exact ⟨b1, b2, HF⟩
theorem rle_21 {e : Nat} {M M' : Mem} {v : Option Value} {k i : Int32} (hS : SQ M) (H : Ev none e 205 21 [some (.ref 633), some (.int k), some (.int i)] [] M v M' 0 0) : ((158 + (6 * (rI M 635 157))) ≤ i ∧ (0 ≤ (157 : Int32).toInt ∧ (157 : Int32).toInt < 2314) ∧ (0 ≤ (157 : Int32).toInt ∧ (157 : Int32).toInt < 2314) ∧ Ev none e 205 77 [some (.ref 633), some (.int k), some (.int (158 + (6 * (rI M 635 157))))] [] M v M' 0 0) ∨ (¬ ((158 + (6 * (rI M 635 157))) ≤ i) ∧ (0 ≤ (157 : Int32).toInt ∧ (157 : Int32).toInt < 2314) ∧ (0 ≤ (i + 6).toInt ∧ (i + 6).toInt < 2314) ∧ (0 ≤ i.toInt ∧ i.toInt < 2314) ∧ Ev none e 205 21 [some (.ref 633), some (.int k), some (.int (i + 1))] [] (wI M 635 i.toNatClampNeg (rI M 635 (i + 6))) v M' 0 0) := by
  have H : Ev none e 205 28 [some (.ref 633), some (.int k), some (.int i)] [.ref 633, .int 6, .int 158, .int i] M v M' 0 0 := Ev.back 4 (fun n => rfl) H
  have H : Ev none e 205 31 [some (.ref 633), some (.int k), some (.int i)] [.ref 635, .int 6, .int 158, .int i] M v M' 0 0 := Ev.back 1 (gs_3 rfl rfl (gf_u hS.1 qa_633 qr_61_5 qu_63 rfl)) H
  have H : Ev none e 205 34 [some (.ref 633), some (.int k), some (.int i)] [.int 157, .ref 635, .int 6, .int 158, .int i] M v M' 0 0 := Ev.back 1 (fun n => rfl) H
  obtain ⟨b1, H⟩ := Ev.ial rfl rfl hS.1 qa_635 qw_63 H
  have H : Ev none e 205 35 [some (.ref 633), some (.int k), some (.int i)] [.int (rI M 635 157), .int 6, .int 158, .int i] M v M' 0 0 := H
  have H : Ev none e 205 (if (158 + (6 * (rI M 635 157))) ≤ i then 61 else 40) [some (.ref 633), some (.int k), some (.int i)] [] M v M' 0 0 := Ev.back 3 (fun n => rfl) H
  by_cases h2 : (158 + (6 * (rI M 635 157))) ≤ i
  · rw [if_pos h2] at H
    have H : Ev none e 205 67 [some (.ref 633), some (.int k), some (.int i)] [.ref 633, .int 6, .int 158] M v M' 0 0 := Ev.back 3 (fun n => rfl) H
    have H : Ev none e 205 70 [some (.ref 633), some (.int k), some (.int i)] [.ref 635, .int 6, .int 158] M v M' 0 0 := Ev.back 1 (gs_3 rfl rfl (gf_u hS.1 qa_633 qr_61_5 qu_63 rfl)) H
    have H : Ev none e 205 73 [some (.ref 633), some (.int k), some (.int i)] [.int 157, .ref 635, .int 6, .int 158] M v M' 0 0 := Ev.back 1 (fun n => rfl) H
    obtain ⟨b3, H⟩ := Ev.ial rfl rfl hS.1 qa_635 qw_63 H
    have H : Ev none e 205 74 [some (.ref 633), some (.int k), some (.int i)] [.int (rI M 635 157), .int 6, .int 158] M v M' 0 0 := H
    have H : Ev none e 205 77 [some (.ref 633), some (.int k), some (.int (158 + (6 * (rI M 635 157))))] [] M v M' 0 0 := Ev.back 3 (fun n => rfl) H
    have HF := H
    exact Or.inl ⟨h2, b1, b3, HF⟩
  · rw [if_neg h2] at H
    have H : Ev none e 205 41 [some (.ref 633), some (.int k), some (.int i)] [.ref 633] M v M' 0 0 := Ev.back 1 (fun n => rfl) H
    have H : Ev none e 205 44 [some (.ref 633), some (.int k), some (.int i)] [.ref 635] M v M' 0 0 := Ev.back 1 (gs_3 rfl rfl (gf_u hS.1 qa_633 qr_61_5 qu_63 rfl)) H
    have H : Ev none e 205 46 [some (.ref 633), some (.int k), some (.int i)] [.ref 633, .int i, .ref 635] M v M' 0 0 := Ev.back 2 (fun n => rfl) H
    have H : Ev none e 205 49 [some (.ref 633), some (.int k), some (.int i)] [.ref 635, .int i, .ref 635] M v M' 0 0 := Ev.back 1 (gs_3 rfl rfl (gf_u hS.1 qa_633 qr_61_5 qu_63 rfl)) H
    have H : Ev none e 205 53 [some (.ref 633), some (.int k), some (.int i)] [.int (i + 6), .ref 635, .int i, .ref 635] M v M' 0 0 := Ev.back 3 (fun n => rfl) H
    obtain ⟨b4, H⟩ := Ev.ial rfl rfl hS.1 qa_635 qw_63 H
    have H : Ev none e 205 54 [some (.ref 633), some (.int k), some (.int i)] [.int (rI M 635 (i + 6)), .int i, .ref 635] M v M' 0 0 := H
    obtain ⟨b5, H⟩ := Ev.ias rfl rfl hS.1 qa_635 qw_63 H
    obtain ⟨N6, eN6⟩ : ∃ N, N = (wI M 635 i.toNatClampNeg (rI M 635 (i + 6))) := ⟨_, rfl⟩
    have hN6 : SQ N6 := by rw [eN6]; exact hS.ki
    have H : Ev none e 205 55 [some (.ref 633), some (.int k), some (.int i)] [] N6 v M' 0 0 := by rw [eN6]; exact H
    have H : Ev none e 205 21 [some (.ref 633), some (.int k), some (.int (i + 1))] [] N6 v M' 0 0 := Ev.back 2 (fun n => rfl) H
    have HF := H
    subst eN6
    exact Or.inr (⟨h2, b1, b4, b5, HF⟩)
theorem rle_77 {e : Nat} {M M' : Mem} {v : Option Value} {k i : Int32} (hS : SQ M) (H : Ev none e 205 77 [some (.ref 633), some (.int k), some (.int i)] [] M v M' 0 0) : (((158 + (6 * (rI M 635 157))) + 6) ≤ i ∧ (0 ≤ (157 : Int32).toInt ∧ (157 : Int32).toInt < 2314) ∧ v = none ∧ M' = M) ∨ (¬ (((158 + (6 * (rI M 635 157))) + 6) ≤ i) ∧ (0 ≤ (157 : Int32).toInt ∧ (157 : Int32).toInt < 2314) ∧ (0 ≤ i.toInt ∧ i.toInt < 2314) ∧ Ev none e 205 77 [some (.ref 633), some (.int k), some (.int (i + 1))] [] (wI M 635 i.toNatClampNeg 0) v M' 0 0) := by
  have H : Ev none e 205 84 [some (.ref 633), some (.int k), some (.int i)] [.ref 633, .int 6, .int 158, .int i] M v M' 0 0 := Ev.back 4 (fun n => rfl) H
  have H : Ev none e 205 87 [some (.ref 633), some (.int k), some (.int i)] [.ref 635, .int 6, .int 158, .int i] M v M' 0 0 := Ev.back 1 (gs_3 rfl rfl (gf_u hS.1 qa_633 qr_61_5 qu_63 rfl)) H
  have H : Ev none e 205 90 [some (.ref 633), some (.int k), some (.int i)] [.int 157, .ref 635, .int 6, .int 158, .int i] M v M' 0 0 := Ev.back 1 (fun n => rfl) H
  obtain ⟨b1, H⟩ := Ev.ial rfl rfl hS.1 qa_635 qw_63 H
  have H : Ev none e 205 91 [some (.ref 633), some (.int k), some (.int i)] [.int (rI M 635 157), .int 6, .int 158, .int i] M v M' 0 0 := H
  have H : Ev none e 205 (if ((158 + (6 * (rI M 635 157))) + 6) ≤ i then 112 else 99) [some (.ref 633), some (.int k), some (.int i)] [] M v M' 0 0 := Ev.back 5 (fun n => rfl) H
  by_cases h2 : ((158 + (6 * (rI M 635 157))) + 6) ≤ i
  · rw [if_pos h2] at H
    obtain ⟨z1, z2⟩ := Ev.retb (fun n => rfl) H
    exact Or.inl ⟨h2, b1, z1, z2⟩
  · rw [if_neg h2] at H
    have H : Ev none e 205 100 [some (.ref 633), some (.int k), some (.int i)] [.ref 633] M v M' 0 0 := Ev.back 1 (fun n => rfl) H
    have H : Ev none e 205 103 [some (.ref 633), some (.int k), some (.int i)] [.ref 635] M v M' 0 0 := Ev.back 1 (gs_3 rfl rfl (gf_u hS.1 qa_633 qr_61_5 qu_63 rfl)) H
    have H : Ev none e 205 105 [some (.ref 633), some (.int k), some (.int i)] [.int 0, .int i, .ref 635] M v M' 0 0 := Ev.back 2 (fun n => rfl) H
    obtain ⟨b3, H⟩ := Ev.ias rfl rfl hS.1 qa_635 qw_63 H
    obtain ⟨N4, eN4⟩ : ∃ N, N = (wI M 635 i.toNatClampNeg 0) := ⟨_, rfl⟩
    have hN4 : SQ N4 := by rw [eN4]; exact hS.ki
    have H : Ev none e 205 106 [some (.ref 633), some (.int k), some (.int i)] [] N4 v M' 0 0 := by rw [eN4]; exact H
    have H : Ev none e 205 77 [some (.ref 633), some (.int k), some (.int (i + 1))] [] N4 v M' 0 0 := Ev.back 2 (fun n => rfl) H
    have HF := H
    subst eN4
    exact Or.inr (⟨h2, b1, b3, HF⟩)
theorem rgo_0 {e : Nat} {M M' : Mem} {v : Option Value} {ww : Int32} (hS : SQ M) (H : Ev none e 206 0 [some (.ref 633), some (.int ww), none, none] [] M v M' 0 0) : (0 ≤ (ww + 1).toInt ∧ (ww + 1).toInt < 2314) ∧ (0 ≤ ww.toInt ∧ ww.toInt < 2314) ∧ (0 ≤ ((13 + (6 * (rI M 635 (ww + 1)))) + 1).toInt ∧ ((13 + (6 * (rI M 635 (ww + 1)))) + 1).toInt < 2314) ∧ (0 ≤ (3 + (rI M 635 ((13 + (6 * (rI M 635 (ww + 1)))) + 1))).toInt ∧ (3 + (rI M 635 ((13 + (6 * (rI M 635 (ww + 1)))) + 1))).toInt < 2314) ∧ (0 ≤ ((13 + (6 * (rI M 635 (ww + 1)))) + 2).toInt ∧ ((13 + (6 * (rI M 635 (ww + 1)))) + 2).toInt < 2314) ∧ (0 ≤ (ww + 3).toInt ∧ (ww + 3).toInt < 2314) ∧ (0 ≤ (ww + 4).toInt ∧ (ww + 4).toInt < 2314) ∧ (∃ e1 v1 M1, e = e1 + 1 ∧ Ev none e1 202 0 [some (.ref 633), none, none, none, none, none] [] (wF (wF (wF (wF (wF (wF M 633 34 (rI M 635 ww)) 633 35 (rI M 635 (3 + (rI M 635 ((13 + (6 * (rI M 635 (ww + 1)))) + 1))))) 633 36 (1 + (rI M 635 ((13 + (6 * (rI M 635 (ww + 1)))) + 2)))) 633 37 (rI M 635 (ww + 3))) 633 38 (rI M 635 (ww + 4))) 633 39 0) v1 M1 0 0 ∧ Ev none e 206 91 [some (.ref 633), some (.int ww), some (.int (13 + (6 * (rI M 635 (ww + 1))))), none] (v1.toList ++ []) M1 v M' 0 0) := by
  have H : Ev none e 206 5 [some (.ref 633), some (.int ww), none, none] [.ref 633, .int 6, .int 13] M v M' 0 0 := Ev.back 3 (fun n => rfl) H
  have H : Ev none e 206 8 [some (.ref 633), some (.int ww), none, none] [.ref 635, .int 6, .int 13] M v M' 0 0 := Ev.back 1 (gs_3 rfl rfl (gf_u hS.1 qa_633 qr_61_5 qu_63 rfl)) H
  have H : Ev none e 206 11 [some (.ref 633), some (.int ww), none, none] [.int (ww + 1), .ref 635, .int 6, .int 13] M v M' 0 0 := Ev.back 3 (fun n => rfl) H
  obtain ⟨b1, H⟩ := Ev.ial rfl rfl hS.1 qa_635 qw_63 H
  have H : Ev none e 206 12 [some (.ref 633), some (.int ww), none, none] [.int (rI M 635 (ww + 1)), .int 6, .int 13] M v M' 0 0 := H
  have H : Ev none e 206 17 [some (.ref 633), some (.int ww), some (.int (13 + (6 * (rI M 635 (ww + 1))))), none] [.ref 633, .ref 633] M v M' 0 0 := Ev.back 5 (fun n => rfl) H
  have H : Ev none e 206 20 [some (.ref 633), some (.int ww), some (.int (13 + (6 * (rI M 635 (ww + 1))))), none] [.ref 635, .ref 633] M v M' 0 0 := Ev.back 1 (gs_3 rfl rfl (gf_u hS.1 qa_633 qr_61_5 qu_63 rfl)) H
  have H : Ev none e 206 21 [some (.ref 633), some (.int ww), some (.int (13 + (6 * (rI M 635 (ww + 1))))), none] [.int ww, .ref 635, .ref 633] M v M' 0 0 := Ev.back 1 (fun n => rfl) H
  obtain ⟨b2, H⟩ := Ev.ial rfl rfl hS.1 qa_635 qw_63 H
  have H : Ev none e 206 22 [some (.ref 633), some (.int ww), some (.int (13 + (6 * (rI M 635 (ww + 1))))), none] [.int (rI M 635 ww), .ref 633] M v M' 0 0 := H
  obtain ⟨N4, eN4⟩ : ∃ N, N = (wF M 633 34 (rI M 635 ww)) := ⟨_, rfl⟩
  have hN4 : SQ N4 := by rw [eN4]; exact hS.kf
  have H : Ev none e 206 25 [some (.ref 633), some (.int ww), some (.int (13 + (6 * (rI M 635 (ww + 1))))), none] [] N4 v M' 0 0 := by rw [eN4]; exact Ev.pfi rfl rfl rfl hS.1 qa_633 qi_61_34 H
  have H : Ev none e 206 27 [some (.ref 633), some (.int ww), some (.int (13 + (6 * (rI M 635 (ww + 1))))), none] [.ref 633, .ref 633] N4 v M' 0 0 := Ev.back 2 (fun n => rfl) H
  have H : Ev none e 206 30 [some (.ref 633), some (.int ww), some (.int (13 + (6 * (rI M 635 (ww + 1))))), none] [.ref 635, .ref 633] N4 v M' 0 0 := Ev.back 1 (gs_3 rfl rfl (gf_u hN4.1 qa_633 qr_61_5 qu_63 rfl)) H
  have H : Ev none e 206 32 [some (.ref 633), some (.int ww), some (.int (13 + (6 * (rI M 635 (ww + 1))))), none] [.ref 633, .int 3, .ref 635, .ref 633] N4 v M' 0 0 := Ev.back 2 (fun n => rfl) H
  have H : Ev none e 206 35 [some (.ref 633), some (.int ww), some (.int (13 + (6 * (rI M 635 (ww + 1))))), none] [.ref 635, .int 3, .ref 635, .ref 633] N4 v M' 0 0 := Ev.back 1 (gs_3 rfl rfl (gf_u hN4.1 qa_633 qr_61_5 qu_63 rfl)) H
  have H : Ev none e 206 38 [some (.ref 633), some (.int ww), some (.int (13 + (6 * (rI M 635 (ww + 1))))), none] [.int ((13 + (6 * (rI M 635 (ww + 1)))) + 1), .ref 635, .int 3, .ref 635, .ref 633] N4 v M' 0 0 := Ev.back 3 (fun n => rfl) H
  obtain ⟨b5, H⟩ := Ev.ial rfl rfl hN4.1 qa_635 qw_63 H
  have H : Ev none e 206 39 [some (.ref 633), some (.int ww), some (.int (13 + (6 * (rI M 635 (ww + 1))))), none] [.int (rI N4 635 ((13 + (6 * (rI M 635 (ww + 1)))) + 1)), .int 3, .ref 635, .ref 633] N4 v M' 0 0 := H
  rw [show rI N4 635 ((13 + (6 * (rI M 635 (ww + 1)))) + 1) = rI M 635 ((13 + (6 * (rI M 635 (ww + 1)))) + 1) from by rw [eN4]; exact rN_wF] at H
  have H : Ev none e 206 40 [some (.ref 633), some (.int ww), some (.int (13 + (6 * (rI M 635 (ww + 1))))), none] [.int (3 + (rI M 635 ((13 + (6 * (rI M 635 (ww + 1)))) + 1))), .ref 635, .ref 633] N4 v M' 0 0 := Ev.back 1 (fun n => rfl) H
  obtain ⟨b6, H⟩ := Ev.ial rfl rfl hN4.1 qa_635 qw_63 H
  have H : Ev none e 206 41 [some (.ref 633), some (.int ww), some (.int (13 + (6 * (rI M 635 (ww + 1))))), none] [.int (rI N4 635 (3 + (rI M 635 ((13 + (6 * (rI M 635 (ww + 1)))) + 1)))), .ref 633] N4 v M' 0 0 := H
  rw [show rI N4 635 (3 + (rI M 635 ((13 + (6 * (rI M 635 (ww + 1)))) + 1))) = rI M 635 (3 + (rI M 635 ((13 + (6 * (rI M 635 (ww + 1)))) + 1))) from by rw [eN4]; exact rN_wF] at H
  obtain ⟨N8, eN8⟩ : ∃ N, N = (wF N4 633 35 (rI M 635 (3 + (rI M 635 ((13 + (6 * (rI M 635 (ww + 1)))) + 1))))) := ⟨_, rfl⟩
  have hN8 : SQ N8 := by rw [eN8]; exact hN4.kf
  have H : Ev none e 206 44 [some (.ref 633), some (.int ww), some (.int (13 + (6 * (rI M 635 (ww + 1))))), none] [] N8 v M' 0 0 := by rw [eN8]; exact Ev.pfi rfl rfl rfl hN4.1 qa_633 qi_61_35 H
  have H : Ev none e 206 47 [some (.ref 633), some (.int ww), some (.int (13 + (6 * (rI M 635 (ww + 1))))), none] [.ref 633, .int 1, .ref 633] N8 v M' 0 0 := Ev.back 3 (fun n => rfl) H
  have H : Ev none e 206 50 [some (.ref 633), some (.int ww), some (.int (13 + (6 * (rI M 635 (ww + 1))))), none] [.ref 635, .int 1, .ref 633] N8 v M' 0 0 := Ev.back 1 (gs_3 rfl rfl (gf_u hN8.1 qa_633 qr_61_5 qu_63 rfl)) H
  have H : Ev none e 206 53 [some (.ref 633), some (.int ww), some (.int (13 + (6 * (rI M 635 (ww + 1))))), none] [.int ((13 + (6 * (rI M 635 (ww + 1)))) + 2), .ref 635, .int 1, .ref 633] N8 v M' 0 0 := Ev.back 3 (fun n => rfl) H
  obtain ⟨b9, H⟩ := Ev.ial rfl rfl hN8.1 qa_635 qw_63 H
  have H : Ev none e 206 54 [some (.ref 633), some (.int ww), some (.int (13 + (6 * (rI M 635 (ww + 1))))), none] [.int (rI N8 635 ((13 + (6 * (rI M 635 (ww + 1)))) + 2)), .int 1, .ref 633] N8 v M' 0 0 := H
  rw [(show rI N8 635 ((13 + (6 * (rI M 635 (ww + 1)))) + 2) = rI N4 635 ((13 + (6 * (rI M 635 (ww + 1)))) + 2) from by rw [eN8]; exact rN_wF).trans (show rI N4 635 ((13 + (6 * (rI M 635 (ww + 1)))) + 2) = rI M 635 ((13 + (6 * (rI M 635 (ww + 1)))) + 2) from by rw [eN4]; exact rN_wF)] at H
  have H : Ev none e 206 55 [some (.ref 633), some (.int ww), some (.int (13 + (6 * (rI M 635 (ww + 1))))), none] [.int (1 + (rI M 635 ((13 + (6 * (rI M 635 (ww + 1)))) + 2))), .ref 633] N8 v M' 0 0 := Ev.back 1 (fun n => rfl) H
  obtain ⟨N11, eN11⟩ : ∃ N, N = (wF N8 633 36 (1 + (rI M 635 ((13 + (6 * (rI M 635 (ww + 1)))) + 2)))) := ⟨_, rfl⟩
  have hN11 : SQ N11 := by rw [eN11]; exact hN8.kf
  have H : Ev none e 206 58 [some (.ref 633), some (.int ww), some (.int (13 + (6 * (rI M 635 (ww + 1))))), none] [] N11 v M' 0 0 := by rw [eN11]; exact Ev.pfi rfl rfl rfl hN8.1 qa_633 qi_61_36 H
  have H : Ev none e 206 60 [some (.ref 633), some (.int ww), some (.int (13 + (6 * (rI M 635 (ww + 1))))), none] [.ref 633, .ref 633] N11 v M' 0 0 := Ev.back 2 (fun n => rfl) H
  have H : Ev none e 206 63 [some (.ref 633), some (.int ww), some (.int (13 + (6 * (rI M 635 (ww + 1))))), none] [.ref 635, .ref 633] N11 v M' 0 0 := Ev.back 1 (gs_3 rfl rfl (gf_u hN11.1 qa_633 qr_61_5 qu_63 rfl)) H
  have H : Ev none e 206 66 [some (.ref 633), some (.int ww), some (.int (13 + (6 * (rI M 635 (ww + 1))))), none] [.int (ww + 3), .ref 635, .ref 633] N11 v M' 0 0 := Ev.back 3 (fun n => rfl) H
  obtain ⟨b12, H⟩ := Ev.ial rfl rfl hN11.1 qa_635 qw_63 H
  have H : Ev none e 206 67 [some (.ref 633), some (.int ww), some (.int (13 + (6 * (rI M 635 (ww + 1))))), none] [.int (rI N11 635 (ww + 3)), .ref 633] N11 v M' 0 0 := H
  rw [((show rI N11 635 (ww + 3) = rI N8 635 (ww + 3) from by rw [eN11]; exact rN_wF).trans (show rI N8 635 (ww + 3) = rI N4 635 (ww + 3) from by rw [eN8]; exact rN_wF)).trans (show rI N4 635 (ww + 3) = rI M 635 (ww + 3) from by rw [eN4]; exact rN_wF)] at H
  obtain ⟨N14, eN14⟩ : ∃ N, N = (wF N11 633 37 (rI M 635 (ww + 3))) := ⟨_, rfl⟩
  have hN14 : SQ N14 := by rw [eN14]; exact hN11.kf
  have H : Ev none e 206 70 [some (.ref 633), some (.int ww), some (.int (13 + (6 * (rI M 635 (ww + 1))))), none] [] N14 v M' 0 0 := by rw [eN14]; exact Ev.pfi rfl rfl rfl hN11.1 qa_633 qi_61_37 H
  have H : Ev none e 206 72 [some (.ref 633), some (.int ww), some (.int (13 + (6 * (rI M 635 (ww + 1))))), none] [.ref 633, .ref 633] N14 v M' 0 0 := Ev.back 2 (fun n => rfl) H
  have H : Ev none e 206 75 [some (.ref 633), some (.int ww), some (.int (13 + (6 * (rI M 635 (ww + 1))))), none] [.ref 635, .ref 633] N14 v M' 0 0 := Ev.back 1 (gs_3 rfl rfl (gf_u hN14.1 qa_633 qr_61_5 qu_63 rfl)) H
  have H : Ev none e 206 78 [some (.ref 633), some (.int ww), some (.int (13 + (6 * (rI M 635 (ww + 1))))), none] [.int (ww + 4), .ref 635, .ref 633] N14 v M' 0 0 := Ev.back 3 (fun n => rfl) H
  obtain ⟨b15, H⟩ := Ev.ial rfl rfl hN14.1 qa_635 qw_63 H
  have H : Ev none e 206 79 [some (.ref 633), some (.int ww), some (.int (13 + (6 * (rI M 635 (ww + 1))))), none] [.int (rI N14 635 (ww + 4)), .ref 633] N14 v M' 0 0 := H
  rw [(((show rI N14 635 (ww + 4) = rI N11 635 (ww + 4) from by rw [eN14]; exact rN_wF).trans (show rI N11 635 (ww + 4) = rI N8 635 (ww + 4) from by rw [eN11]; exact rN_wF)).trans (show rI N8 635 (ww + 4) = rI N4 635 (ww + 4) from by rw [eN8]; exact rN_wF)).trans (show rI N4 635 (ww + 4) = rI M 635 (ww + 4) from by rw [eN4]; exact rN_wF)] at H
  obtain ⟨N17, eN17⟩ : ∃ N, N = (wF N14 633 38 (rI M 635 (ww + 4))) := ⟨_, rfl⟩
  have hN17 : SQ N17 := by rw [eN17]; exact hN14.kf
  have H : Ev none e 206 82 [some (.ref 633), some (.int ww), some (.int (13 + (6 * (rI M 635 (ww + 1))))), none] [] N17 v M' 0 0 := by rw [eN17]; exact Ev.pfi rfl rfl rfl hN14.1 qa_633 qi_61_38 H
  have H : Ev none e 206 84 [some (.ref 633), some (.int ww), some (.int (13 + (6 * (rI M 635 (ww + 1))))), none] [.int 0, .ref 633] N17 v M' 0 0 := Ev.back 2 (fun n => rfl) H
  obtain ⟨N19, eN19⟩ : ∃ N, N = (wF N17 633 39 0) := ⟨_, rfl⟩
  have hN19 : SQ N19 := by rw [eN19]; exact hN17.kf
  have H : Ev none e 206 87 [some (.ref 633), some (.int ww), some (.int (13 + (6 * (rI M 635 (ww + 1))))), none] [] N19 v M' 0 0 := by rw [eN19]; exact Ev.pfi rfl rfl rfl hN17.1 qa_633 qi_61_39 H
  have H : Ev none e 206 88 [some (.ref 633), some (.int ww), some (.int (13 + (6 * (rI M 635 (ww + 1))))), none] [.ref 633] N19 v M' 0 0 := Ev.back 1 (fun n => rfl) H
  obtain ⟨e1, rfl⟩ := Ev.dpos rfl rfl H
  obtain ⟨vK20, MK20, K20, H⟩ := Ev.callb (fun n_ => gs_7 rfl rfl (show gCal (.invokevirtual 414) 11 (.ref 633 :: []) N19 = some (.inr (202, [some (.ref 633), none, none, none, none, none], [])) from by show @cond (Option ((List Value × Mem) ⊕ (Nat × Lo × List Value))) (true && gRecv N19 (.ref 633) 11 && gRoom [] && true) (some (.inr (202, [some (.ref 633), none, none, none, none, none], []))) none = _; rw [recv_s hN19.1 qa_633 qo_61]; rfl)) H
  have K20 : Ev none e1 202 0 [some (.ref 633), none, none, none, none, none] [] N19 vK20 MK20 0 0 := K20
  have HF := H
  subst eN4 eN8 eN11 eN14 eN17 eN19
  exact ⟨b1, b2, b5, b6, b9, b12, b15, ⟨e1, vK20, MK20, rfl, K20, HF⟩⟩
theorem rgo_91 {e : Nat} {M M' : Mem} {v : Option Value} {ww x d : Int32} (hS : SQ M) (H : Ev none e 206 91 [some (.ref 633), some (.int ww), some (.int x), none] [.int d] M v M' 0 0) : (d < 0 ∧ (0 ≤ (ww + 2).toInt ∧ (ww + 2).toInt < 2314) ∧ (0 ≤ (ww + 2).toInt ∧ (ww + 2).toInt < 2314) ∧ Ev none e 206 154 [some (.ref 633), some (.int ww), some (.int x), some (.int d)] [] (wI M 635 ((ww + 2).toNatClampNeg) ((rI M 635 (ww + 2)) + 1)) v M' 0 0) ∨ (¬ (d < 0) ∧ (0 ≤ (ww + 2).toInt ∧ (ww + 2).toInt < 2314) ∧ (0 ≤ (ww + 2).toInt ∧ (ww + 2).toInt < 2314) ∧ (0 ≤ (ww + 3).toInt ∧ (ww + 3).toInt < 2314) ∧ (0 ≤ (ww + 4).toInt ∧ (ww + 4).toInt < 2314) ∧ (0 ≤ ww.toInt ∧ ww.toInt < 2314) ∧ (0 ≤ ww.toInt ∧ ww.toInt < 2314) ∧ (∃ e1 v1 M1, e = e1 + 1 ∧ Ev none e1 203 0 [some (.ref 633), some (.int (rI (wI (wI (wI (wI M 635 ((ww + 2).toNatClampNeg) ((rI M 635 (ww + 2)) + 1)) 635 ((ww + 3).toNatClampNeg) d) 635 ((ww + 4).toNatClampNeg) (zI M 633 34)) 635 ww.toNatClampNeg (G_194 (wI (wI (wI M 635 ((ww + 2).toNatClampNeg) ((rI M 635 (ww + 2)) + 1)) 635 ((ww + 3).toNatClampNeg) d) 635 ((ww + 4).toNatClampNeg) (zI M 633 34)) (zI M 633 34) d)) 635 ww)), none] [] (wI (wI (wI (wI M 635 ((ww + 2).toNatClampNeg) ((rI M 635 (ww + 2)) + 1)) 635 ((ww + 3).toNatClampNeg) d) 635 ((ww + 4).toNatClampNeg) (zI M 633 34)) 635 ww.toNatClampNeg (G_194 (wI (wI (wI M 635 ((ww + 2).toNatClampNeg) ((rI M 635 (ww + 2)) + 1)) 635 ((ww + 3).toNatClampNeg) d) 635 ((ww + 4).toNatClampNeg) (zI M 633 34)) (zI M 633 34) d)) v1 M1 0 0 ∧ Ev none e 206 154 [some (.ref 633), some (.int ww), some (.int x), some (.int d)] (v1.toList ++ []) M1 v M' 0 0)) := by
  have H : Ev none e 206 93 [some (.ref 633), some (.int ww), some (.int x), some (.int d)] [.ref 633] M v M' 0 0 := Ev.back 2 (fun n => rfl) H
  have H : Ev none e 206 96 [some (.ref 633), some (.int ww), some (.int x), some (.int d)] [.ref 635] M v M' 0 0 := Ev.back 1 (gs_3 rfl rfl (gf_u hS.1 qa_633 qr_61_5 qu_63 rfl)) H
  have H : Ev none e 206 100 [some (.ref 633), some (.int ww), some (.int x), some (.int d)] [.int (ww + 2), .ref 635, .int (ww + 2), .ref 635] M v M' 0 0 := Ev.back 4 (fun n => rfl) H
  obtain ⟨b1, H⟩ := Ev.ial rfl rfl hS.1 qa_635 qw_63 H
  have H : Ev none e 206 101 [some (.ref 633), some (.int ww), some (.int x), some (.int d)] [.int (rI M 635 (ww + 2)), .int (ww + 2), .ref 635] M v M' 0 0 := H
  have H : Ev none e 206 103 [some (.ref 633), some (.int ww), some (.int x), some (.int d)] [.int ((rI M 635 (ww + 2)) + 1), .int (ww + 2), .ref 635] M v M' 0 0 := Ev.back 2 (fun n => rfl) H
  obtain ⟨b2, H⟩ := Ev.ias rfl rfl hS.1 qa_635 qw_63 H
  obtain ⟨N3, eN3⟩ : ∃ N, N = (wI M 635 ((ww + 2).toNatClampNeg) ((rI M 635 (ww + 2)) + 1)) := ⟨_, rfl⟩
  have hN3 : SQ N3 := by rw [eN3]; exact hS.ki
  have H : Ev none e 206 104 [some (.ref 633), some (.int ww), some (.int x), some (.int d)] [] N3 v M' 0 0 := by rw [eN3]; exact H
  have H : Ev none e 206 (if d < 0 then 154 else 108) [some (.ref 633), some (.int ww), some (.int x), some (.int d)] [] N3 v M' 0 0 := Ev.back 2 (fun n => rfl) H
  by_cases h4 : d < 0
  · rw [if_pos h4] at H
    have HF := H
    subst eN3
    exact Or.inl ⟨h4, b1, b2, HF⟩
  · rw [if_neg h4] at H
    have H : Ev none e 206 109 [some (.ref 633), some (.int ww), some (.int x), some (.int d)] [.ref 633] N3 v M' 0 0 := Ev.back 1 (fun n => rfl) H
    have H : Ev none e 206 112 [some (.ref 633), some (.int ww), some (.int x), some (.int d)] [.ref 635] N3 v M' 0 0 := Ev.back 1 (gs_3 rfl rfl (gf_u hN3.1 qa_633 qr_61_5 qu_63 rfl)) H
    have H : Ev none e 206 116 [some (.ref 633), some (.int ww), some (.int x), some (.int d)] [.int d, .int (ww + 3), .ref 635] N3 v M' 0 0 := Ev.back 4 (fun n => rfl) H
    obtain ⟨b5, H⟩ := Ev.ias rfl rfl hN3.1 qa_635 qw_63 H
    obtain ⟨N6, eN6⟩ : ∃ N, N = (wI N3 635 ((ww + 3).toNatClampNeg) d) := ⟨_, rfl⟩
    have hN6 : SQ N6 := by rw [eN6]; exact hN3.ki
    have H : Ev none e 206 117 [some (.ref 633), some (.int ww), some (.int x), some (.int d)] [] N6 v M' 0 0 := by rw [eN6]; exact H
    have H : Ev none e 206 118 [some (.ref 633), some (.int ww), some (.int x), some (.int d)] [.ref 633] N6 v M' 0 0 := Ev.back 1 (fun n => rfl) H
    have H : Ev none e 206 121 [some (.ref 633), some (.int ww), some (.int x), some (.int d)] [.ref 635] N6 v M' 0 0 := Ev.back 1 (gs_3 rfl rfl (gf_u hN6.1 qa_633 qr_61_5 qu_63 rfl)) H
    have H : Ev none e 206 125 [some (.ref 633), some (.int ww), some (.int x), some (.int d)] [.ref 633, .int (ww + 4), .ref 635] N6 v M' 0 0 := Ev.back 4 (fun n => rfl) H
    have H : Ev none e 206 128 [some (.ref 633), some (.int ww), some (.int x), some (.int d)] [.int (zI N6 633 34), .int (ww + 4), .ref 635] N6 v M' 0 0 := Ev.back 1 (gs_3 rfl rfl (gf_i hN6.1 qa_633 qi_61_34 rfl)) H
    rw [(show zI N6 633 34 = zI N3 633 34 from by rw [eN6]; exact fI_wI).trans (show zI N3 633 34 = zI M 633 34 from by rw [eN3]; exact fI_wI)] at H
    obtain ⟨b7, H⟩ := Ev.ias rfl rfl hN6.1 qa_635 qw_63 H
    obtain ⟨N8, eN8⟩ : ∃ N, N = (wI N6 635 ((ww + 4).toNatClampNeg) (zI M 633 34)) := ⟨_, rfl⟩
    have hN8 : SQ N8 := by rw [eN8]; exact hN6.ki
    have H : Ev none e 206 129 [some (.ref 633), some (.int ww), some (.int x), some (.int d)] [] N8 v M' 0 0 := by rw [eN8]; exact H
    have H : Ev none e 206 130 [some (.ref 633), some (.int ww), some (.int x), some (.int d)] [.ref 633] N8 v M' 0 0 := Ev.back 1 (fun n => rfl) H
    have H : Ev none e 206 133 [some (.ref 633), some (.int ww), some (.int x), some (.int d)] [.ref 635] N8 v M' 0 0 := Ev.back 1 (gs_3 rfl rfl (gf_u hN8.1 qa_633 qr_61_5 qu_63 rfl)) H
    have H : Ev none e 206 136 [some (.ref 633), some (.int ww), some (.int x), some (.int d)] [.ref 633, .ref 633, .int ww, .ref 635] N8 v M' 0 0 := Ev.back 3 (fun n => rfl) H
    have H : Ev none e 206 139 [some (.ref 633), some (.int ww), some (.int x), some (.int d)] [.int (zI N8 633 34), .ref 633, .int ww, .ref 635] N8 v M' 0 0 := Ev.back 1 (gs_3 rfl rfl (gf_i hN8.1 qa_633 qi_61_34 rfl)) H
    rw [((show zI N8 633 34 = zI N6 633 34 from by rw [eN8]; exact fI_wI).trans (show zI N6 633 34 = zI N3 633 34 from by rw [eN6]; exact fI_wI)).trans (show zI N3 633 34 = zI M 633 34 from by rw [eN3]; exact fI_wI)] at H
    have H : Ev none e 206 140 [some (.ref 633), some (.int ww), some (.int x), some (.int d)] [.int d, .int (zI M 633 34), .ref 633, .int ww, .ref 635] N8 v M' 0 0 := Ev.back 1 (fun n => rfl) H
    obtain ⟨e1, rfl⟩ := Ev.dpos rfl rfl H
    obtain ⟨vK9, MK9, K9, H⟩ := Ev.callb (fun n_ => gs_7 rfl rfl (show gCal (.invokevirtual 380) 11 (.int d :: .int (zI M 633 34) :: .ref 633 :: [.int ww, .ref 635]) N8 = some (.inr (194, [some (.ref 633), some (.int (zI M 633 34)), some (.int d), none, none], [.int ww, .ref 635])) from by show @cond (Option ((List Value × Mem) ⊕ (Nat × Lo × List Value))) (true && gRecv N8 (.ref 633) 11 && gRoom [.int ww, .ref 635] && true) (some (.inr (194, [some (.ref 633), some (.int (zI M 633 34)), some (.int d), none, none], [.int ww, .ref 635]))) none = _; rw [recv_s hN8.1 qa_633 qo_61]; rfl)) H
    obtain ⟨pK9, qK9⟩ := g_194 hN8 K9
    rw [pK9, qK9] at H
    have H : Ev none (e1 + 1) 206 143 [some (.ref 633), some (.int ww), some (.int x), some (.int d)] [.int (G_194 N8 (zI M 633 34) d), .int ww, .ref 635] N8 v M' 0 0 := H
    obtain ⟨b10, H⟩ := Ev.ias rfl rfl hN8.1 qa_635 qw_63 H
    obtain ⟨N11, eN11⟩ : ∃ N, N = (wI N8 635 ww.toNatClampNeg (G_194 N8 (zI M 633 34) d)) := ⟨_, rfl⟩
    have hN11 : SQ N11 := by rw [eN11]; exact hN8.ki
    have H : Ev none (e1 + 1) 206 144 [some (.ref 633), some (.int ww), some (.int x), some (.int d)] [] N11 v M' 0 0 := by rw [eN11]; exact H
    have H : Ev none (e1 + 1) 206 146 [some (.ref 633), some (.int ww), some (.int x), some (.int d)] [.ref 633, .ref 633] N11 v M' 0 0 := Ev.back 2 (fun n => rfl) H
    have H : Ev none (e1 + 1) 206 149 [some (.ref 633), some (.int ww), some (.int x), some (.int d)] [.ref 635, .ref 633] N11 v M' 0 0 := Ev.back 1 (gs_3 rfl rfl (gf_u hN11.1 qa_633 qr_61_5 qu_63 rfl)) H
    have H : Ev none (e1 + 1) 206 150 [some (.ref 633), some (.int ww), some (.int x), some (.int d)] [.int ww, .ref 635, .ref 633] N11 v M' 0 0 := Ev.back 1 (fun n => rfl) H
    obtain ⟨b12, H⟩ := Ev.ial rfl rfl hN11.1 qa_635 qw_63 H
    have H : Ev none (e1 + 1) 206 151 [some (.ref 633), some (.int ww), some (.int x), some (.int d)] [.int (rI N11 635 ww), .ref 633] N11 v M' 0 0 := H
    obtain ⟨vK13, MK13, K13, H⟩ := Ev.callb (fun n_ => gs_7 rfl rfl (show gCal (.invokevirtual 417) 11 (.int (rI N11 635 ww) :: .ref 633 :: []) N11 = some (.inr (203, [some (.ref 633), some (.int (rI N11 635 ww)), none], [])) from by show @cond (Option ((List Value × Mem) ⊕ (Nat × Lo × List Value))) (true && gRecv N11 (.ref 633) 11 && gRoom [] && true) (some (.inr (203, [some (.ref 633), some (.int (rI N11 635 ww)), none], []))) none = _; rw [recv_s hN11.1 qa_633 qo_61]; rfl)) H
    have K13 : Ev none e1 203 0 [some (.ref 633), some (.int (rI N11 635 ww)), none] [] N11 vK13 MK13 0 0 := K13
    have HF := H
    subst eN3 eN6 eN8 eN11
    exact Or.inr (⟨h4, b1, b2, b5, b7, b10, b12, ⟨e1, vK13, MK13, rfl, K13, HF⟩⟩)
theorem rgo_154 {e : Nat} {M M' : Mem} {v : Option Value} {ww x d : Int32} (hS : SQ M) (H : Ev none e 206 154 [some (.ref 633), some (.int ww), some (.int x), some (.int d)] [] M v M' 0 0) : ((rI M 635 ww) = (zI M 633 35) ∧ (0 ≤ ww.toInt ∧ ww.toInt < 2314) ∧ (0 ≤ (519 : Int32).toInt ∧ (519 : Int32).toInt < 2314) ∧ (0 ≤ (519 : Int32).toInt ∧ (519 : Int32).toInt < 2314) ∧ v = some (.int 0) ∧ M' = (wF (wI M 635 ((519 : Int32).toNatClampNeg) ((rI M 635 519) + 1)) 633 41 ((zI M 633 41) + 1))) ∨ (¬ ((rI M 635 ww) = (zI M 633 35)) ∧ 200 ≤ (rI M 635 (ww + 2)) ∧ (0 ≤ ww.toInt ∧ ww.toInt < 2314) ∧ (0 ≤ (ww + 2).toInt ∧ (ww + 2).toInt < 2314) ∧ (0 ≤ (520 : Int32).toInt ∧ (520 : Int32).toInt < 2314) ∧ (0 ≤ (520 : Int32).toInt ∧ (520 : Int32).toInt < 2314) ∧ v = some (.int 0) ∧ M' = (wI M 635 ((520 : Int32).toNatClampNeg) ((rI M 635 520) + 1))) ∨ (¬ ((rI M 635 ww) = (zI M 633 35)) ∧ ¬ (200 ≤ (rI M 635 (ww + 2))) ∧ (0 ≤ ww.toInt ∧ ww.toInt < 2314) ∧ (0 ≤ (ww + 2).toInt ∧ (ww + 2).toInt < 2314) ∧ v = some (.int 1) ∧ M' = M) := by
  have H : Ev none e 206 155 [some (.ref 633), some (.int ww), some (.int x), some (.int d)] [.ref 633] M v M' 0 0 := Ev.back 1 (fun n => rfl) H
  have H : Ev none e 206 158 [some (.ref 633), some (.int ww), some (.int x), some (.int d)] [.ref 635] M v M' 0 0 := Ev.back 1 (gs_3 rfl rfl (gf_u hS.1 qa_633 qr_61_5 qu_63 rfl)) H
  have H : Ev none e 206 159 [some (.ref 633), some (.int ww), some (.int x), some (.int d)] [.int ww, .ref 635] M v M' 0 0 := Ev.back 1 (fun n => rfl) H
  obtain ⟨b1, H⟩ := Ev.ial rfl rfl hS.1 qa_635 qw_63 H
  have H : Ev none e 206 160 [some (.ref 633), some (.int ww), some (.int x), some (.int d)] [.int (rI M 635 ww)] M v M' 0 0 := H
  have H : Ev none e 206 161 [some (.ref 633), some (.int ww), some (.int x), some (.int d)] [.ref 633, .int (rI M 635 ww)] M v M' 0 0 := Ev.back 1 (fun n => rfl) H
  have H : Ev none e 206 164 [some (.ref 633), some (.int ww), some (.int x), some (.int d)] [.int (zI M 633 35), .int (rI M 635 ww)] M v M' 0 0 := Ev.back 1 (gs_3 rfl rfl (gf_i hS.1 qa_633 qi_61_35 rfl)) H
  have H : Ev none e 206 (if (rI M 635 ww) = (zI M 633 35) then 167 else 191) [some (.ref 633), some (.int ww), some (.int x), some (.int d)] [] M v M' 0 0 := Ev.back 1 (fun n => rfl) H
  by_cases h2 : (rI M 635 ww) = (zI M 633 35)
  · rw [if_pos h2] at H
    have H : Ev none e 206 168 [some (.ref 633), some (.int ww), some (.int x), some (.int d)] [.ref 633] M v M' 0 0 := Ev.back 1 (fun n => rfl) H
    have H : Ev none e 206 171 [some (.ref 633), some (.int ww), some (.int x), some (.int d)] [.ref 635] M v M' 0 0 := Ev.back 1 (gs_3 rfl rfl (gf_u hS.1 qa_633 qr_61_5 qu_63 rfl)) H
    have H : Ev none e 206 175 [some (.ref 633), some (.int ww), some (.int x), some (.int d)] [.int 519, .ref 635, .int 519, .ref 635] M v M' 0 0 := Ev.back 2 (fun n => rfl) H
    obtain ⟨b3, H⟩ := Ev.ial rfl rfl hS.1 qa_635 qw_63 H
    have H : Ev none e 206 176 [some (.ref 633), some (.int ww), some (.int x), some (.int d)] [.int (rI M 635 519), .int 519, .ref 635] M v M' 0 0 := H
    have H : Ev none e 206 178 [some (.ref 633), some (.int ww), some (.int x), some (.int d)] [.int ((rI M 635 519) + 1), .int 519, .ref 635] M v M' 0 0 := Ev.back 2 (fun n => rfl) H
    obtain ⟨b4, H⟩ := Ev.ias rfl rfl hS.1 qa_635 qw_63 H
    obtain ⟨N5, eN5⟩ : ∃ N, N = (wI M 635 ((519 : Int32).toNatClampNeg) ((rI M 635 519) + 1)) := ⟨_, rfl⟩
    have hN5 : SQ N5 := by rw [eN5]; exact hS.ki
    have H : Ev none e 206 179 [some (.ref 633), some (.int ww), some (.int x), some (.int d)] [] N5 v M' 0 0 := by rw [eN5]; exact H
    have H : Ev none e 206 181 [some (.ref 633), some (.int ww), some (.int x), some (.int d)] [.ref 633, .ref 633] N5 v M' 0 0 := Ev.back 2 (fun n => rfl) H
    have H : Ev none e 206 184 [some (.ref 633), some (.int ww), some (.int x), some (.int d)] [.int (zI N5 633 41), .ref 633] N5 v M' 0 0 := Ev.back 1 (gs_3 rfl rfl (gf_i hN5.1 qa_633 qi_61_41 rfl)) H
    rw [show zI N5 633 41 = zI M 633 41 from by rw [eN5]; exact fI_wI] at H
    have H : Ev none e 206 186 [some (.ref 633), some (.int ww), some (.int x), some (.int d)] [.int ((zI M 633 41) + 1), .ref 633] N5 v M' 0 0 := Ev.back 2 (fun n => rfl) H
    obtain ⟨N7, eN7⟩ : ∃ N, N = (wF N5 633 41 ((zI M 633 41) + 1)) := ⟨_, rfl⟩
    have hN7 : SQ N7 := by rw [eN7]; exact hN5.kf
    have H : Ev none e 206 189 [some (.ref 633), some (.int ww), some (.int x), some (.int d)] [] N7 v M' 0 0 := by rw [eN7]; exact Ev.pfi rfl rfl rfl hN5.1 qa_633 qi_61_41 H
    have H : Ev none e 206 190 [some (.ref 633), some (.int ww), some (.int x), some (.int d)] [.int 0] N7 v M' 0 0 := Ev.back 1 (fun n => rfl) H
    obtain ⟨z1, z2⟩ := Ev.retz rfl rfl H
    subst eN5 eN7
    exact Or.inl ⟨h2, b1, b3, b4, z1, z2⟩
  · rw [if_neg h2] at H
    have H : Ev none e 206 192 [some (.ref 633), some (.int ww), some (.int x), some (.int d)] [.ref 633] M v M' 0 0 := Ev.back 1 (fun n => rfl) H
    have H : Ev none e 206 195 [some (.ref 633), some (.int ww), some (.int x), some (.int d)] [.ref 635] M v M' 0 0 := Ev.back 1 (gs_3 rfl rfl (gf_u hS.1 qa_633 qr_61_5 qu_63 rfl)) H
    have H : Ev none e 206 198 [some (.ref 633), some (.int ww), some (.int x), some (.int d)] [.int (ww + 2), .ref 635] M v M' 0 0 := Ev.back 3 (fun n => rfl) H
    obtain ⟨b8, H⟩ := Ev.ial rfl rfl hS.1 qa_635 qw_63 H
    have H : Ev none e 206 199 [some (.ref 633), some (.int ww), some (.int x), some (.int d)] [.int (rI M 635 (ww + 2))] M v M' 0 0 := H
    have H : Ev none e 206 (if 200 ≤ (rI M 635 (ww + 2)) then 207 else 205) [some (.ref 633), some (.int ww), some (.int x), some (.int d)] [] M v M' 0 0 := Ev.back 2 (fun n => rfl) H
    by_cases h9 : 200 ≤ (rI M 635 (ww + 2))
    · rw [if_pos h9] at H
      have H : Ev none e 206 208 [some (.ref 633), some (.int ww), some (.int x), some (.int d)] [.ref 633] M v M' 0 0 := Ev.back 1 (fun n => rfl) H
      have H : Ev none e 206 211 [some (.ref 633), some (.int ww), some (.int x), some (.int d)] [.ref 635] M v M' 0 0 := Ev.back 1 (gs_3 rfl rfl (gf_u hS.1 qa_633 qr_61_5 qu_63 rfl)) H
      have H : Ev none e 206 215 [some (.ref 633), some (.int ww), some (.int x), some (.int d)] [.int 520, .ref 635, .int 520, .ref 635] M v M' 0 0 := Ev.back 2 (fun n => rfl) H
      obtain ⟨b10, H⟩ := Ev.ial rfl rfl hS.1 qa_635 qw_63 H
      have H : Ev none e 206 216 [some (.ref 633), some (.int ww), some (.int x), some (.int d)] [.int (rI M 635 520), .int 520, .ref 635] M v M' 0 0 := H
      have H : Ev none e 206 218 [some (.ref 633), some (.int ww), some (.int x), some (.int d)] [.int ((rI M 635 520) + 1), .int 520, .ref 635] M v M' 0 0 := Ev.back 2 (fun n => rfl) H
      obtain ⟨b11, H⟩ := Ev.ias rfl rfl hS.1 qa_635 qw_63 H
      obtain ⟨N12, eN12⟩ : ∃ N, N = (wI M 635 ((520 : Int32).toNatClampNeg) ((rI M 635 520) + 1)) := ⟨_, rfl⟩
      have hN12 : SQ N12 := by rw [eN12]; exact hS.ki
      have H : Ev none e 206 219 [some (.ref 633), some (.int ww), some (.int x), some (.int d)] [] N12 v M' 0 0 := by rw [eN12]; exact H
      have H : Ev none e 206 220 [some (.ref 633), some (.int ww), some (.int x), some (.int d)] [.int 0] N12 v M' 0 0 := Ev.back 1 (fun n => rfl) H
      obtain ⟨z1, z2⟩ := Ev.retz rfl rfl H
      subst eN12
      exact Or.inr (Or.inl ⟨h2, h9, b1, b8, b10, b11, z1, z2⟩)
    · rw [if_neg h9] at H
      have H : Ev none e 206 206 [some (.ref 633), some (.int ww), some (.int x), some (.int d)] [.int 1] M v M' 0 0 := Ev.back 1 (fun n => rfl) H
      obtain ⟨z1, z2⟩ := Ev.retz rfl rfl H
      exact Or.inr (Or.inr (⟨h2, h9, b1, b8, z1, z2⟩))
theorem rew_0 {e : Nat} {M M' : Mem} {v : Option Value} (hS : SQ M) (H : Ev none e 208 0 [some (.ref 633), none, none, none] [] M v M' 0 0) : Ev none e 208 2 [some (.ref 633), some (.int 0), none, none] [] M v M' 0 0 := by
  have H : Ev none e 208 2 [some (.ref 633), some (.int 0), none, none] [] M v M' 0 0 := Ev.back 2 (fun n => rfl) H
  have HF := H
  exact HF
theorem rew_2 {e : Nat} {M M' : Mem} {v : Option Value} {c : Int32} {c2 c3 : Option Value} (hS : SQ M) (H : Ev none e 208 2 [some (.ref 633), some (.int c), c2, c3] [] M v M' 0 0) : ((G_144 M) ≤ c ∧ Ev none e 208 76 [some (.ref 633), some (.int 0), c2, c3] [] M v M' 0 0) ∨ (¬ ((G_144 M) ≤ c) ∧ (∃ e1 v1 M1, e = e1 + 1 ∧ Ev none e1 188 0 [some (.ref 633), some (.int 1), some (.int c), some (.int 10), none] [] M v1 M1 0 0 ∧ Ev none e 208 24 [some (.ref 633), some (.int c), c2, c3] (v1.toList ++ [.int (G_146 M c 3)]) M1 v M' 0 0)) := by
  have H : Ev none e 208 4 [some (.ref 633), some (.int c), c2, c3] [.ref 633, .int c] M v M' 0 0 := Ev.back 2 (fun n => rfl) H
  obtain ⟨e1, rfl⟩ := Ev.dpos rfl rfl H
  obtain ⟨vK1, MK1, K1, H⟩ := Ev.callb (fun n_ => gs_7 rfl rfl (show gCal (.invokevirtual 128) 11 (.ref 633 :: [.int c]) M = some (.inr (144, [some (.ref 633)], [.int c])) from by show @cond (Option ((List Value × Mem) ⊕ (Nat × Lo × List Value))) (true && gRecv M (.ref 633) 11 && gRoom [.int c] && true) (some (.inr (144, [some (.ref 633)], [.int c]))) none = _; rw [recv_s hS.1 qa_633 qo_61]; rfl)) H
  obtain ⟨pK1, qK1⟩ := g_144 hS K1
  rw [pK1, qK1] at H
  have H : Ev none (e1 + 1) 208 7 [some (.ref 633), some (.int c), c2, c3] [.int (G_144 M), .int c] M v M' 0 0 := H
  have H : Ev none (e1 + 1) 208 (if (G_144 M) ≤ c then 74 else 10) [some (.ref 633), some (.int c), c2, c3] [] M v M' 0 0 := Ev.back 1 (fun n => rfl) H
  by_cases h2 : (G_144 M) ≤ c
  · rw [if_pos h2] at H
    have H : Ev none (e1 + 1) 208 76 [some (.ref 633), some (.int 0), c2, c3] [] M v M' 0 0 := Ev.back 2 (fun n => rfl) H
    have HF := H
    exact Or.inl ⟨h2, HF⟩
  · rw [if_neg h2] at H
    have H : Ev none (e1 + 1) 208 13 [some (.ref 633), some (.int c), c2, c3] [.int 3, .int c, .ref 633] M v M' 0 0 := Ev.back 3 (fun n => rfl) H
    obtain ⟨vK3, MK3, K3, H⟩ := Ev.callb (fun n_ => gs_7 rfl rfl (show gCal (.invokevirtual 136) 11 (.int 3 :: .int c :: .ref 633 :: []) M = some (.inr (146, [some (.ref 633), some (.int c), some (.int 3)], [])) from by show @cond (Option ((List Value × Mem) ⊕ (Nat × Lo × List Value))) (true && gRecv M (.ref 633) 11 && gRoom [] && true) (some (.inr (146, [some (.ref 633), some (.int c), some (.int 3)], []))) none = _; rw [recv_s hS.1 qa_633 qo_61]; rfl)) H
    obtain ⟨pK3, qK3⟩ := g_146 hS K3
    rw [pK3, qK3] at H
    have H : Ev none (e1 + 1) 208 16 [some (.ref 633), some (.int c), c2, c3] [.int (G_146 M c 3)] M v M' 0 0 := H
    have H : Ev none (e1 + 1) 208 21 [some (.ref 633), some (.int c), c2, c3] [.int 10, .int c, .int 1, .ref 633, .int (G_146 M c 3)] M v M' 0 0 := Ev.back 4 (fun n => rfl) H
    obtain ⟨vK4, MK4, K4, H⟩ := Ev.callb (fun n_ => gs_7 rfl rfl (show gCal (.invokevirtual 402) 11 (.int 10 :: .int c :: .int 1 :: .ref 633 :: [.int (G_146 M c 3)]) M = some (.inr (188, [some (.ref 633), some (.int 1), some (.int c), some (.int 10), none], [.int (G_146 M c 3)])) from by show @cond (Option ((List Value × Mem) ⊕ (Nat × Lo × List Value))) (true && gRecv M (.ref 633) 11 && gRoom [.int (G_146 M c 3)] && true) (some (.inr (188, [some (.ref 633), some (.int 1), some (.int c), some (.int 10), none], [.int (G_146 M c 3)]))) none = _; rw [recv_s hS.1 qa_633 qo_61]; rfl)) H
    have K4 : Ev none e1 188 0 [some (.ref 633), some (.int 1), some (.int c), some (.int 10), none] [] M vK4 MK4 0 0 := K4
    have HF := H
    exact Or.inr (⟨h2, ⟨e1, vK4, MK4, rfl, K4, HF⟩⟩)
theorem rew_24 {e : Nat} {M M' : Mem} {v : Option Value} {c y we : Int32} {c2 c3 : Option Value} (hS : SQ M) (H : Ev none e 208 24 [some (.ref 633), some (.int c), c2, c3] [.int y, .int we] M v M' 0 0) : (0 ≤ (we - y) ∧ 0 ≤ ((G_146 M c 4) - (zI M 633 30)) ∧ Ev none e 208 2 [some (.ref 633), some (.int (c + 1)), some (.int (we - y)), some (.int ((G_146 M c 4) - (zI M 633 30)))] [] (X_147 (X_147 M c 3 (we - y)) c 4 ((G_146 M c 4) - (zI M 633 30))) v M' 0 0) ∨ (0 ≤ (we - y) ∧ ¬ (0 ≤ ((G_146 M c 4) - (zI M 633 30))) ∧ Ev none e 208 2 [some (.ref 633), some (.int (c + 1)), some (.int (we - y)), some (.int ((G_146 M c 4) - (zI M 633 30)))] [] (X_147 (X_147 M c 3 (we - y)) c 4 0) v M' 0 0) ∨ (¬ (0 ≤ (we - y)) ∧ 0 ≤ ((G_146 M c 4) - (zI M 633 30)) ∧ Ev none e 208 2 [some (.ref 633), some (.int (c + 1)), some (.int (we - y)), some (.int ((G_146 M c 4) - (zI M 633 30)))] [] (X_147 (X_147 M c 3 0) c 4 ((G_146 M c 4) - (zI M 633 30))) v M' 0 0) ∨ (¬ (0 ≤ (we - y)) ∧ ¬ (0 ≤ ((G_146 M c 4) - (zI M 633 30))) ∧ Ev none e 208 2 [some (.ref 633), some (.int (c + 1)), some (.int (we - y)), some (.int ((G_146 M c 4) - (zI M 633 30)))] [] (X_147 (X_147 M c 3 0) c 4 0) v M' 0 0) := by
  have H : Ev none e 208 29 [some (.ref 633), some (.int c), some (.int (we - y)), c3] [.int 4, .int c, .ref 633] M v M' 0 0 := Ev.back 5 (fun n => rfl) H
  obtain ⟨e1, rfl⟩ := Ev.dpos rfl rfl H
  obtain ⟨vK1, MK1, K1, H⟩ := Ev.callb (fun n_ => gs_7 rfl rfl (show gCal (.invokevirtual 136) 11 (.int 4 :: .int c :: .ref 633 :: []) M = some (.inr (146, [some (.ref 633), some (.int c), some (.int 4)], [])) from by show @cond (Option ((List Value × Mem) ⊕ (Nat × Lo × List Value))) (true && gRecv M (.ref 633) 11 && gRoom [] && true) (some (.inr (146, [some (.ref 633), some (.int c), some (.int 4)], []))) none = _; rw [recv_s hS.1 qa_633 qo_61]; rfl)) H
  obtain ⟨pK1, qK1⟩ := g_146 hS K1
  rw [pK1, qK1] at H
  have H : Ev none (e1 + 1) 208 32 [some (.ref 633), some (.int c), some (.int (we - y)), c3] [.int (G_146 M c 4)] M v M' 0 0 := H
  have H : Ev none (e1 + 1) 208 33 [some (.ref 633), some (.int c), some (.int (we - y)), c3] [.ref 633, .int (G_146 M c 4)] M v M' 0 0 := Ev.back 1 (fun n => rfl) H
  have H : Ev none (e1 + 1) 208 36 [some (.ref 633), some (.int c), some (.int (we - y)), c3] [.int (zI M 633 30), .int (G_146 M c 4)] M v M' 0 0 := Ev.back 1 (gs_3 rfl rfl (gf_i hS.1 qa_633 qi_61_30 rfl)) H
  have H : Ev none (e1 + 1) 208 (if 0 ≤ (we - y) then 49 else 45) [some (.ref 633), some (.int c), some (.int (we - y)), some (.int ((G_146 M c 4) - (zI M 633 30)))] [.int 3, .int c, .ref 633] M v M' 0 0 := Ev.back 7 (fun n => rfl) H
  by_cases h2 : 0 ≤ (we - y)
  · rw [if_pos h2] at H
    have H : Ev none (e1 + 1) 208 50 [some (.ref 633), some (.int c), some (.int (we - y)), some (.int ((G_146 M c 4) - (zI M 633 30)))] [.int (we - y), .int 3, .int c, .ref 633] M v M' 0 0 := Ev.back 1 (fun n => rfl) H
    obtain ⟨vK3, MK3, K3, H⟩ := Ev.callb (fun n_ => gs_7 rfl rfl (show gCal (.invokevirtual 151) 11 (.int (we - y) :: .int 3 :: .int c :: .ref 633 :: []) M = some (.inr (147, [some (.ref 633), some (.int c), some (.int 3), some (.int (we - y))], [])) from by show @cond (Option ((List Value × Mem) ⊕ (Nat × Lo × List Value))) (true && gRecv M (.ref 633) 11 && gRoom [] && true) (some (.inr (147, [some (.ref 633), some (.int c), some (.int 3), some (.int (we - y))], []))) none = _; rw [recv_s hS.1 qa_633 qo_61]; rfl)) H
    obtain ⟨pK3, qK3⟩ := g_147 hS K3
    rw [pK3, qK3] at H
    obtain ⟨N4, eN4⟩ : ∃ N, N = (X_147 M c 3 (we - y)) := ⟨_, rfl⟩
    have hN4 : SQ N4 := by rw [eN4]; exact X_147_sx hS
    rw [← eN4] at H
    have H : Ev none (e1 + 1) 208 53 [some (.ref 633), some (.int c), some (.int (we - y)), some (.int ((G_146 M c 4) - (zI M 633 30)))] [] N4 v M' 0 0 := H
    have H : Ev none (e1 + 1) 208 (if 0 ≤ ((G_146 M c 4) - (zI M 633 30)) then 64 else 60) [some (.ref 633), some (.int c), some (.int (we - y)), some (.int ((G_146 M c 4) - (zI M 633 30)))] [.int 4, .int c, .ref 633] N4 v M' 0 0 := Ev.back 5 (fun n => rfl) H
    by_cases h5 : 0 ≤ ((G_146 M c 4) - (zI M 633 30))
    · rw [if_pos h5] at H
      have H : Ev none (e1 + 1) 208 65 [some (.ref 633), some (.int c), some (.int (we - y)), some (.int ((G_146 M c 4) - (zI M 633 30)))] [.int ((G_146 M c 4) - (zI M 633 30)), .int 4, .int c, .ref 633] N4 v M' 0 0 := Ev.back 1 (fun n => rfl) H
      obtain ⟨vK6, MK6, K6, H⟩ := Ev.callb (fun n_ => gs_7 rfl rfl (show gCal (.invokevirtual 151) 11 (.int ((G_146 M c 4) - (zI M 633 30)) :: .int 4 :: .int c :: .ref 633 :: []) N4 = some (.inr (147, [some (.ref 633), some (.int c), some (.int 4), some (.int ((G_146 M c 4) - (zI M 633 30)))], [])) from by show @cond (Option ((List Value × Mem) ⊕ (Nat × Lo × List Value))) (true && gRecv N4 (.ref 633) 11 && gRoom [] && true) (some (.inr (147, [some (.ref 633), some (.int c), some (.int 4), some (.int ((G_146 M c 4) - (zI M 633 30)))], []))) none = _; rw [recv_s hN4.1 qa_633 qo_61]; rfl)) H
      obtain ⟨pK6, qK6⟩ := g_147 hN4 K6
      rw [pK6, qK6] at H
      obtain ⟨N7, eN7⟩ : ∃ N, N = (X_147 N4 c 4 ((G_146 M c 4) - (zI M 633 30))) := ⟨_, rfl⟩
      have hN7 : SQ N7 := by rw [eN7]; exact X_147_sx hN4
      rw [← eN7] at H
      have H : Ev none (e1 + 1) 208 68 [some (.ref 633), some (.int c), some (.int (we - y)), some (.int ((G_146 M c 4) - (zI M 633 30)))] [] N7 v M' 0 0 := H
      have H : Ev none (e1 + 1) 208 2 [some (.ref 633), some (.int (c + 1)), some (.int (we - y)), some (.int ((G_146 M c 4) - (zI M 633 30)))] [] N7 v M' 0 0 := Ev.back 2 (fun n => rfl) H
      have HF := H
      subst eN4 eN7
      exact Or.inl ⟨h2, h5, HF⟩
    · rw [if_neg h5] at H
      have H : Ev none (e1 + 1) 208 65 [some (.ref 633), some (.int c), some (.int (we - y)), some (.int ((G_146 M c 4) - (zI M 633 30)))] [.int 0, .int 4, .int c, .ref 633] N4 v M' 0 0 := Ev.back 2 (fun n => rfl) H
      obtain ⟨vK8, MK8, K8, H⟩ := Ev.callb (fun n_ => gs_7 rfl rfl (show gCal (.invokevirtual 151) 11 (.int 0 :: .int 4 :: .int c :: .ref 633 :: []) N4 = some (.inr (147, [some (.ref 633), some (.int c), some (.int 4), some (.int 0)], [])) from by show @cond (Option ((List Value × Mem) ⊕ (Nat × Lo × List Value))) (true && gRecv N4 (.ref 633) 11 && gRoom [] && true) (some (.inr (147, [some (.ref 633), some (.int c), some (.int 4), some (.int 0)], []))) none = _; rw [recv_s hN4.1 qa_633 qo_61]; rfl)) H
      obtain ⟨pK8, qK8⟩ := g_147 hN4 K8
      rw [pK8, qK8] at H
      obtain ⟨N9, eN9⟩ : ∃ N, N = (X_147 N4 c 4 0) := ⟨_, rfl⟩
      have hN9 : SQ N9 := by rw [eN9]; exact X_147_sx hN4
      rw [← eN9] at H
      have H : Ev none (e1 + 1) 208 68 [some (.ref 633), some (.int c), some (.int (we - y)), some (.int ((G_146 M c 4) - (zI M 633 30)))] [] N9 v M' 0 0 := H
      have H : Ev none (e1 + 1) 208 2 [some (.ref 633), some (.int (c + 1)), some (.int (we - y)), some (.int ((G_146 M c 4) - (zI M 633 30)))] [] N9 v M' 0 0 := Ev.back 2 (fun n => rfl) H
      have HF := H
      subst eN4 eN9
      exact Or.inr (Or.inl ⟨h2, h5, HF⟩)
  · rw [if_neg h2] at H
    have H : Ev none (e1 + 1) 208 50 [some (.ref 633), some (.int c), some (.int (we - y)), some (.int ((G_146 M c 4) - (zI M 633 30)))] [.int 0, .int 3, .int c, .ref 633] M v M' 0 0 := Ev.back 2 (fun n => rfl) H
    obtain ⟨vK10, MK10, K10, H⟩ := Ev.callb (fun n_ => gs_7 rfl rfl (show gCal (.invokevirtual 151) 11 (.int 0 :: .int 3 :: .int c :: .ref 633 :: []) M = some (.inr (147, [some (.ref 633), some (.int c), some (.int 3), some (.int 0)], [])) from by show @cond (Option ((List Value × Mem) ⊕ (Nat × Lo × List Value))) (true && gRecv M (.ref 633) 11 && gRoom [] && true) (some (.inr (147, [some (.ref 633), some (.int c), some (.int 3), some (.int 0)], []))) none = _; rw [recv_s hS.1 qa_633 qo_61]; rfl)) H
    obtain ⟨pK10, qK10⟩ := g_147 hS K10
    rw [pK10, qK10] at H
    obtain ⟨N11, eN11⟩ : ∃ N, N = (X_147 M c 3 0) := ⟨_, rfl⟩
    have hN11 : SQ N11 := by rw [eN11]; exact X_147_sx hS
    rw [← eN11] at H
    have H : Ev none (e1 + 1) 208 53 [some (.ref 633), some (.int c), some (.int (we - y)), some (.int ((G_146 M c 4) - (zI M 633 30)))] [] N11 v M' 0 0 := H
    have H : Ev none (e1 + 1) 208 (if 0 ≤ ((G_146 M c 4) - (zI M 633 30)) then 64 else 60) [some (.ref 633), some (.int c), some (.int (we - y)), some (.int ((G_146 M c 4) - (zI M 633 30)))] [.int 4, .int c, .ref 633] N11 v M' 0 0 := Ev.back 5 (fun n => rfl) H
    by_cases h12 : 0 ≤ ((G_146 M c 4) - (zI M 633 30))
    · rw [if_pos h12] at H
      have H : Ev none (e1 + 1) 208 65 [some (.ref 633), some (.int c), some (.int (we - y)), some (.int ((G_146 M c 4) - (zI M 633 30)))] [.int ((G_146 M c 4) - (zI M 633 30)), .int 4, .int c, .ref 633] N11 v M' 0 0 := Ev.back 1 (fun n => rfl) H
      obtain ⟨vK13, MK13, K13, H⟩ := Ev.callb (fun n_ => gs_7 rfl rfl (show gCal (.invokevirtual 151) 11 (.int ((G_146 M c 4) - (zI M 633 30)) :: .int 4 :: .int c :: .ref 633 :: []) N11 = some (.inr (147, [some (.ref 633), some (.int c), some (.int 4), some (.int ((G_146 M c 4) - (zI M 633 30)))], [])) from by show @cond (Option ((List Value × Mem) ⊕ (Nat × Lo × List Value))) (true && gRecv N11 (.ref 633) 11 && gRoom [] && true) (some (.inr (147, [some (.ref 633), some (.int c), some (.int 4), some (.int ((G_146 M c 4) - (zI M 633 30)))], []))) none = _; rw [recv_s hN11.1 qa_633 qo_61]; rfl)) H
      obtain ⟨pK13, qK13⟩ := g_147 hN11 K13
      rw [pK13, qK13] at H
      obtain ⟨N14, eN14⟩ : ∃ N, N = (X_147 N11 c 4 ((G_146 M c 4) - (zI M 633 30))) := ⟨_, rfl⟩
      have hN14 : SQ N14 := by rw [eN14]; exact X_147_sx hN11
      rw [← eN14] at H
      have H : Ev none (e1 + 1) 208 68 [some (.ref 633), some (.int c), some (.int (we - y)), some (.int ((G_146 M c 4) - (zI M 633 30)))] [] N14 v M' 0 0 := H
      have H : Ev none (e1 + 1) 208 2 [some (.ref 633), some (.int (c + 1)), some (.int (we - y)), some (.int ((G_146 M c 4) - (zI M 633 30)))] [] N14 v M' 0 0 := Ev.back 2 (fun n => rfl) H
      have HF := H
      subst eN11 eN14
      exact Or.inr (Or.inr (Or.inl ⟨h2, h12, HF⟩))
    · rw [if_neg h12] at H
      have H : Ev none (e1 + 1) 208 65 [some (.ref 633), some (.int c), some (.int (we - y)), some (.int ((G_146 M c 4) - (zI M 633 30)))] [.int 0, .int 4, .int c, .ref 633] N11 v M' 0 0 := Ev.back 2 (fun n => rfl) H
      obtain ⟨vK15, MK15, K15, H⟩ := Ev.callb (fun n_ => gs_7 rfl rfl (show gCal (.invokevirtual 151) 11 (.int 0 :: .int 4 :: .int c :: .ref 633 :: []) N11 = some (.inr (147, [some (.ref 633), some (.int c), some (.int 4), some (.int 0)], [])) from by show @cond (Option ((List Value × Mem) ⊕ (Nat × Lo × List Value))) (true && gRecv N11 (.ref 633) 11 && gRoom [] && true) (some (.inr (147, [some (.ref 633), some (.int c), some (.int 4), some (.int 0)], []))) none = _; rw [recv_s hN11.1 qa_633 qo_61]; rfl)) H
      obtain ⟨pK15, qK15⟩ := g_147 hN11 K15
      rw [pK15, qK15] at H
      obtain ⟨N16, eN16⟩ : ∃ N, N = (X_147 N11 c 4 0) := ⟨_, rfl⟩
      have hN16 : SQ N16 := by rw [eN16]; exact X_147_sx hN11
      rw [← eN16] at H
      have H : Ev none (e1 + 1) 208 68 [some (.ref 633), some (.int c), some (.int (we - y)), some (.int ((G_146 M c 4) - (zI M 633 30)))] [] N16 v M' 0 0 := H
      have H : Ev none (e1 + 1) 208 2 [some (.ref 633), some (.int (c + 1)), some (.int (we - y)), some (.int ((G_146 M c 4) - (zI M 633 30)))] [] N16 v M' 0 0 := Ev.back 2 (fun n => rfl) H
      have HF := H
      subst eN11 eN16
      exact Or.inr (Or.inr (Or.inr (⟨h2, h12, HF⟩)))
theorem rew_76 {e : Nat} {M M' : Mem} {v : Option Value} {c : Int32} {c2 c3 : Option Value} (hS : SQ M) (H : Ev none e 208 76 [some (.ref 633), some (.int c), c2, c3] [] M v M' 0 0) : ((G_144 M) ≤ c ∧ v = none ∧ M' = M) ∨ (¬ ((G_144 M) ≤ c) ∧ Ev none e 208 76 [some (.ref 633), some (.int (c + 1)), c2, c3] [] (X_147 M c 5 0) v M' 0 0) := by
  have H : Ev none e 208 78 [some (.ref 633), some (.int c), c2, c3] [.ref 633, .int c] M v M' 0 0 := Ev.back 2 (fun n => rfl) H
  obtain ⟨e1, rfl⟩ := Ev.dpos rfl rfl H
  obtain ⟨vK1, MK1, K1, H⟩ := Ev.callb (fun n_ => gs_7 rfl rfl (show gCal (.invokevirtual 128) 11 (.ref 633 :: [.int c]) M = some (.inr (144, [some (.ref 633)], [.int c])) from by show @cond (Option ((List Value × Mem) ⊕ (Nat × Lo × List Value))) (true && gRecv M (.ref 633) 11 && gRoom [.int c] && true) (some (.inr (144, [some (.ref 633)], [.int c]))) none = _; rw [recv_s hS.1 qa_633 qo_61]; rfl)) H
  obtain ⟨pK1, qK1⟩ := g_144 hS K1
  rw [pK1, qK1] at H
  have H : Ev none (e1 + 1) 208 81 [some (.ref 633), some (.int c), c2, c3] [.int (G_144 M), .int c] M v M' 0 0 := H
  have H : Ev none (e1 + 1) 208 (if (G_144 M) ≤ c then 97 else 84) [some (.ref 633), some (.int c), c2, c3] [] M v M' 0 0 := Ev.back 1 (fun n => rfl) H
  by_cases h2 : (G_144 M) ≤ c
  · rw [if_pos h2] at H
    obtain ⟨z1, z2⟩ := Ev.retb (fun n => rfl) H
    exact Or.inl ⟨h2, z1, z2⟩
  · rw [if_neg h2] at H
    have H : Ev none (e1 + 1) 208 88 [some (.ref 633), some (.int c), c2, c3] [.int 0, .int 5, .int c, .ref 633] M v M' 0 0 := Ev.back 4 (fun n => rfl) H
    obtain ⟨vK3, MK3, K3, H⟩ := Ev.callb (fun n_ => gs_7 rfl rfl (show gCal (.invokevirtual 151) 11 (.int 0 :: .int 5 :: .int c :: .ref 633 :: []) M = some (.inr (147, [some (.ref 633), some (.int c), some (.int 5), some (.int 0)], [])) from by show @cond (Option ((List Value × Mem) ⊕ (Nat × Lo × List Value))) (true && gRecv M (.ref 633) 11 && gRoom [] && true) (some (.inr (147, [some (.ref 633), some (.int c), some (.int 5), some (.int 0)], []))) none = _; rw [recv_s hS.1 qa_633 qo_61]; rfl)) H
    obtain ⟨pK3, qK3⟩ := g_147 hS K3
    rw [pK3, qK3] at H
    obtain ⟨N4, eN4⟩ : ∃ N, N = (X_147 M c 5 0) := ⟨_, rfl⟩
    have hN4 : SQ N4 := by rw [eN4]; exact X_147_sx hS
    rw [← eN4] at H
    have H : Ev none (e1 + 1) 208 91 [some (.ref 633), some (.int c), c2, c3] [] N4 v M' 0 0 := H
    have H : Ev none (e1 + 1) 208 76 [some (.ref 633), some (.int (c + 1)), c2, c3] [] N4 v M' 0 0 := Ev.back 2 (fun n => rfl) H
    have HF := H
    subst eN4
    exact Or.inr (⟨h2, HF⟩)
theorem rwm_0 {e : Nat} {M M' : Mem} {v : Option Value} (hS : SQ M) (H : Ev none e 216 0 [some (.ref 633), none, none] [] M v M' 0 0) : Ev none e 216 4 [some (.ref 633), some (.int 0), some (.int 0)] [] M v M' 0 0 := by
  have H : Ev none e 216 4 [some (.ref 633), some (.int 0), some (.int 0)] [] M v M' 0 0 := Ev.back 4 (fun n => rfl) H
  have HF := H
  exact HF
theorem rwm_4 {e : Nat} {M M' : Mem} {v : Option Value} {nn c : Int32} (hS : SQ M) (H : Ev none e 216 4 [some (.ref 633), some (.int nn), some (.int c)] [] M v M' 0 0) : ((G_144 M) ≤ c ∧ v = some (.int nn) ∧ M' = M) ∨ (¬ ((G_144 M) ≤ c) ∧ (G_150 M c) = 0 ∧ Ev none e 216 4 [some (.ref 633), some (.int (nn + 0)), some (.int (c + 1))] [] M v M' 0 0) ∨ (¬ ((G_144 M) ≤ c) ∧ ¬ ((G_150 M c) = 0) ∧ Ev none e 216 4 [some (.ref 633), some (.int (nn + 1)), some (.int (c + 1))] [] M v M' 0 0) := by
  have H : Ev none e 216 6 [some (.ref 633), some (.int nn), some (.int c)] [.ref 633, .int c] M v M' 0 0 := Ev.back 2 (fun n => rfl) H
  obtain ⟨e1, rfl⟩ := Ev.dpos rfl rfl H
  obtain ⟨vK1, MK1, K1, H⟩ := Ev.callb (fun n_ => gs_7 rfl rfl (show gCal (.invokevirtual 128) 11 (.ref 633 :: [.int c]) M = some (.inr (144, [some (.ref 633)], [.int c])) from by show @cond (Option ((List Value × Mem) ⊕ (Nat × Lo × List Value))) (true && gRecv M (.ref 633) 11 && gRoom [.int c] && true) (some (.inr (144, [some (.ref 633)], [.int c]))) none = _; rw [recv_s hS.1 qa_633 qo_61]; rfl)) H
  obtain ⟨pK1, qK1⟩ := g_144 hS K1
  rw [pK1, qK1] at H
  have H : Ev none (e1 + 1) 216 9 [some (.ref 633), some (.int nn), some (.int c)] [.int (G_144 M), .int c] M v M' 0 0 := H
  have H : Ev none (e1 + 1) 216 (if (G_144 M) ≤ c then 34 else 12) [some (.ref 633), some (.int nn), some (.int c)] [] M v M' 0 0 := Ev.back 1 (fun n => rfl) H
  by_cases h2 : (G_144 M) ≤ c
  · rw [if_pos h2] at H
    have H : Ev none (e1 + 1) 216 35 [some (.ref 633), some (.int nn), some (.int c)] [.int nn] M v M' 0 0 := Ev.back 1 (fun n => rfl) H
    obtain ⟨z1, z2⟩ := Ev.retz rfl rfl H
    exact Or.inl ⟨h2, z1, z2⟩
  · rw [if_neg h2] at H
    have H : Ev none (e1 + 1) 216 15 [some (.ref 633), some (.int nn), some (.int c)] [.int c, .ref 633, .int nn] M v M' 0 0 := Ev.back 3 (fun n => rfl) H
    obtain ⟨vK3, MK3, K3, H⟩ := Ev.callb (fun n_ => gs_7 rfl rfl (show gCal (.invokevirtual 140) 11 (.int c :: .ref 633 :: [.int nn]) M = some (.inr (150, [some (.ref 633), some (.int c)], [.int nn])) from by show @cond (Option ((List Value × Mem) ⊕ (Nat × Lo × List Value))) (true && gRecv M (.ref 633) 11 && gRoom [.int nn] && true) (some (.inr (150, [some (.ref 633), some (.int c)], [.int nn]))) none = _; rw [recv_s hS.1 qa_633 qo_61]; rfl)) H
    obtain ⟨pK3, qK3⟩ := g_150 hS K3
    rw [pK3, qK3] at H
    have H : Ev none (e1 + 1) 216 18 [some (.ref 633), some (.int nn), some (.int c)] [.int (G_150 M c), .int nn] M v M' 0 0 := H
    have H : Ev none (e1 + 1) 216 (if (G_150 M c) = 0 then 25 else 21) [some (.ref 633), some (.int nn), some (.int c)] [.int nn] M v M' 0 0 := Ev.back 1 (fun n => rfl) H
    by_cases h4 : (G_150 M c) = 0
    · rw [if_pos h4] at H
      have H : Ev none (e1 + 1) 216 4 [some (.ref 633), some (.int (nn + 0)), some (.int (c + 1))] [] M v M' 0 0 := Ev.back 5 (fun n => rfl) H
      have HF := H
      exact Or.inr (Or.inl ⟨h2, h4, HF⟩)
    · rw [if_neg h4] at H
      have H : Ev none (e1 + 1) 216 4 [some (.ref 633), some (.int (nn + 1)), some (.int (c + 1))] [] M v M' 0 0 := Ev.back 6 (fun n => rfl) H
      have HF := H
      exact Or.inr (Or.inr (⟨h2, h4, HF⟩))
theorem rgg_0 {e : Nat} {M M' : Mem} {v : Option Value} {n : Int32} (hS : SQ M) (H : Ev none e 222 0 [some (.ref 633), some (.int n), none] [] M v M' 0 0) : Ev none e 222 2 [some (.ref 633), some (.int n), some (.int 0)] [] M v M' 0 0 := by
  have H : Ev none e 222 2 [some (.ref 633), some (.int n), some (.int 0)] [] M v M' 0 0 := Ev.back 2 (fun n => rfl) H
  have HF := H
  exact HF
theorem rgg_2 {e : Nat} {M M' : Mem} {v : Option Value} {n k : Int32} (hS : SQ M) (H : Ev none e 222 2 [some (.ref 633), some (.int n), some (.int k)] [] M v M' 0 0) : (n ≤ k ∧ (∃ e1 v1 M1, e = e1 + 1 ∧ Ev none e1 208 0 [some (.ref 633), none, none, none] [] M v1 M1 0 0 ∧ Ev none e 222 21 [some (.ref 633), some (.int n), some (.int k)] (v1.toList ++ []) M1 v M' 0 0)) ∨ (¬ (n ≤ k) ∧ (∃ e1 v1 M1, e = e1 + 1 ∧ Ev none e1 204 0 [some (.ref 633), none, none, none] [] M v1 M1 0 0 ∧ Ev none e 222 11 [some (.ref 633), some (.int n), some (.int k)] (v1.toList ++ []) M1 v M' 0 0)) := by
  have H : Ev none e 222 (if n ≤ k then 17 else 7) [some (.ref 633), some (.int n), some (.int k)] [] M v M' 0 0 := Ev.back 3 (fun n => rfl) H
  by_cases h1 : n ≤ k
  · rw [if_pos h1] at H
    have H : Ev none e 222 18 [some (.ref 633), some (.int n), some (.int k)] [.ref 633] M v M' 0 0 := Ev.back 1 (fun n => rfl) H
    obtain ⟨e1, rfl⟩ := Ev.dpos rfl rfl H
    obtain ⟨vK2, MK2, K2, H⟩ := Ev.callb (fun n_ => gs_7 rfl rfl (show gCal (.invokevirtual 426) 11 (.ref 633 :: []) M = some (.inr (208, [some (.ref 633), none, none, none], [])) from by show @cond (Option ((List Value × Mem) ⊕ (Nat × Lo × List Value))) (true && gRecv M (.ref 633) 11 && gRoom [] && true) (some (.inr (208, [some (.ref 633), none, none, none], []))) none = _; rw [recv_s hS.1 qa_633 qo_61]; rfl)) H
    have K2 : Ev none e1 208 0 [some (.ref 633), none, none, none] [] M vK2 MK2 0 0 := K2
    have HF := H
    exact Or.inl ⟨h1, ⟨e1, vK2, MK2, rfl, K2, HF⟩⟩
  · rw [if_neg h1] at H
    have H : Ev none e 222 8 [some (.ref 633), some (.int n), some (.int k)] [.ref 633] M v M' 0 0 := Ev.back 1 (fun n => rfl) H
    obtain ⟨e1, rfl⟩ := Ev.dpos rfl rfl H
    obtain ⟨vK3, MK3, K3, H⟩ := Ev.callb (fun n_ => gs_7 rfl rfl (show gCal (.invokevirtual 423) 11 (.ref 633 :: []) M = some (.inr (204, [some (.ref 633), none, none, none], [])) from by show @cond (Option ((List Value × Mem) ⊕ (Nat × Lo × List Value))) (true && gRecv M (.ref 633) 11 && gRoom [] && true) (some (.inr (204, [some (.ref 633), none, none, none], []))) none = _; rw [recv_s hS.1 qa_633 qo_61]; rfl)) H
    have K3 : Ev none e1 204 0 [some (.ref 633), none, none, none] [] M vK3 MK3 0 0 := K3
    have HF := H
    exact Or.inr (⟨h1, ⟨e1, vK3, MK3, rfl, K3, HF⟩⟩)
theorem rgg_11 {e : Nat} {M M' : Mem} {v : Option Value} {n k : Int32} (hS : SQ M) (H : Ev none e 222 11 [some (.ref 633), some (.int n), some (.int k)] [] M v M' 0 0) : Ev none e 222 2 [some (.ref 633), some (.int n), some (.int (k + 1))] [] M v M' 0 0 := by
  have H : Ev none e 222 2 [some (.ref 633), some (.int n), some (.int (k + 1))] [] M v M' 0 0 := Ev.back 2 (fun n => rfl) H
  have HF := H
  exact HF
theorem rgg_21 {e : Nat} {M M' : Mem} {v : Option Value} {n k : Int32} (hS : SQ M) (H : Ev none e 222 21 [some (.ref 633), some (.int n), some (.int k)] [] M v M' 0 0) : v = none ∧ M' = M := by
  obtain ⟨z1, z2⟩ := Ev.retb (fun n => rfl) H
  exact ⟨z1, z2⟩
/-! THE REFERENCE'S holds -/
def RST (T : TS) (P : PK) (M : Mem) : Prop := SQ M ∧ (∀ i, i < 2314 → rN M 635 i = P i) ∧ (zI M 633 28 = bdQ (T 0) ∧ zI M 633 29 = mdQ (T 0) ∧ zI M 633 30 = dyQ (T 0)) ∧ ∀ t, t < 7 → (TXR M t (T t) ∧ LW (T t)) ∧ (T t).1.2.2.length ≤ 96
def tuW (a : Nat) : Prop := a = 649
section RHL
variable {e : Nat} {T : TS} {P P' : PK} {M M1 M' : Mem} {v : Option Value} {c d : Int32}
theorem RST.sq (h : RST T P M) : SQ M := h.1
theorem TXR.fz {F : Nat → Nat → Prop} {W O : Nat → Prop} {t : Nat} {q : Sg × List Lnq} (h : TXR M t q) (hF : FZ F W O M M') (w : ∀ a, 639 ≤ a → a ≤ 647 → ¬ W a) : TXR M' t q := by
  obtain ⟨⟨h1, h2, h3⟩, h4⟩ := h
  refine ⟨⟨by rw [hF.rn (w 639 (by decide) (by decide))]; exact h1, h2, fun j l hj => ?_⟩, fun j cd h5 hj => ?_⟩
  · rw [hF.rn (w 640 (by decide) (by decide)), hF.rn (w 641 (by decide) (by decide)), hF.rn (w 642 (by decide) (by decide)), hF.rn (w 643 (by decide) (by decide)), hF.rn (w 644 (by decide) (by decide))]
    exact h3 j l hj
  · rw [hF.rn (w 645 (by decide) (by decide)), hF.rn (w 646 (by decide) (by decide)), hF.rn (w 647 (by decide) (by decide))]
    exact h4 j cd h5 hj
theorem RST.fz {F : Nat → Nat → Prop} {W O : Nat → Prop} (h : RST T P M) (hS : SQ M') (hF : FZ F W O M M') (f : ∀ k, 28 ≤ k → k ≤ 30 → ¬ F 633 k) (w : ∀ a, (a = 635 ∨ (639 ≤ a ∧ a ≤ 647)) → ¬ W a) : RST T P M' := by
  obtain ⟨_, h2, ⟨h3, h4, h5⟩, h6⟩ := h
  refine ⟨hS, fun i hi => by rw [hF.rn (w 635 (Or.inl rfl))]; exact h2 i hi, ⟨?_, ?_, ?_⟩, fun t ht => ?_⟩
  · rw [hF.fi (f 28 (by decide) (by decide))]; exact h3
  · rw [hF.fi (f 29 (by decide) (by decide))]; exact h4
  · rw [hF.fi (f 30 (by decide) (by decide))]; exact h5
  · obtain ⟨⟨q1, q2⟩, q3⟩ := h6 t ht
    exact ⟨⟨q1.fz hF (fun a h1 h2 => w a (Or.inr ⟨h1, h2⟩)), q2⟩, q3⟩
theorem r_cell (h : RST T P M) (hw : wh4 P) (hc : inC P c) {f : Int32} {fn : Nat} (hf : f.toInt = (fn : Int)) (hf6 : fn ≤ 6) : G_146 M c f = cE P fn c := by
  obtain ⟨c0, _, c2⟩ := hc.lt hw
  have e := i32_cell (c := c) (k := f) c0 c2 (by omega) (by omega)
  have e2 : ((522 + 7 * c) + f).toNatClampNeg = cX fn c := by
    refine cl_n ?_
    rw [e]
    unfold cX
    have := Int.toNat_of_nonneg c0
    omega
  unfold G_146 rI cE
  rw [e2]
  exact h.2.1 _ (by unfold cX; omega)
theorem r_s (h : RST T P M) {i : Int32} {n : Nat} (hi : i.toInt = (n : Int)) (hn : n < 2314) : rI M 635 i = P n := by
  unfold rI
  rw [cl_n hi]
  exact h.2.1 n hn
theorem r0 (h : RST T P M) : rI M 635 0 = P 0 := r_s h (n := 0) rfl (by decide)
theorem r1 (h : RST T P M) : rI M 635 1 = P 1 := r_s h (n := 1) rfl (by decide)
theorem g148_ok (h : RST T P M) (hw : wh4 P) (hc : inC P c) : G_148 M c = bI (opnB P c) := by
  unfold G_148 opnB
  rw [r_cell h hw hc (fn := 0) rfl (by decide)]
  by_cases h3 : cE P 0 c = 3
  · rw [if_pos h3, decide_eq_true h3]; rfl
  · rw [if_neg h3, decide_eq_false h3]
    by_cases h6 : cE P 0 c = 6
    · rw [if_pos h6, decide_eq_true h6]; rfl
    · rw [if_neg h6, decide_eq_false h6]; rfl
theorem g149_ok (h : RST T P M) (hw : wh4 P) (hc : inC P c) : G_149 M c = bI (grnB P c) := by
  unfold G_149 grnB
  rw [r_cell h hw hc (fn := 0) rfl (by decide)]
  by_cases h3 : cE P 0 c = 0
  · rw [if_pos h3, decide_eq_true h3]; rfl
  · rw [if_neg h3, decide_eq_false h3]
    by_cases h6 : cE P 0 c = 2
    · rw [if_pos h6, decide_eq_true h6]; rfl
    · rw [if_neg h6, decide_eq_false h6]; rfl
theorem g150_ok (h : RST T P M) (hw : wh4 P) (hc : inC P c) : G_150 M c = bI (wrnB (T 0) P c) := by
  unfold G_150 wrnB
  rw [r_cell h hw hc (fn := 3) rfl (by decide), h.2.2.1.1]
  by_cases hl : cE P 3 c < bdQ (T 0)
  · rw [if_pos hl, decide_eq_false (fun q => by rw [Int32.lt_iff_toInt_lt] at hl; have := Int32.le_iff_toInt_le.mp q; omega)]; rfl
  · rw [if_neg hl, decide_eq_true (Int32.le_iff_toInt_le.mpr (by rw [Int32.lt_iff_toInt_lt] at hl; omega))]; rfl
theorem g151_ok (h : RST T P M) (hw : wh4 P) (hc : inC P c) : G_151 M c = bI (decide (bdQ (T 0) ≤ cE P 3 c ∧ mdQ (T 0) ≤ cE P 4 c)) := by
  unfold G_151
  rw [g150_ok h hw hc, r_cell h hw hc (fn := 4) rfl (by decide), h.2.2.1.2.1]
  unfold wrnB
  by_cases h1 : bdQ (T 0) ≤ cE P 3 c
  · rw [decide_eq_true h1, if_neg (by decide)]
    by_cases hl : cE P 4 c < mdQ (T 0)
    · rw [if_pos hl, decide_eq_false (fun q => by rw [Int32.lt_iff_toInt_lt] at hl; have := Int32.le_iff_toInt_le.mp q.2; omega)]; rfl
    · rw [if_neg hl, decide_eq_true ⟨h1, Int32.le_iff_toInt_le.mpr (by rw [Int32.lt_iff_toInt_lt] at hl; omega)⟩]; rfl
  · rw [decide_eq_false h1, if_pos (by decide), decide_eq_false (fun q => h1 q.1)]; rfl
theorem g141_ok (x : Int32) : G_141 M x = absI x := by
  unfold G_141 absI
  by_cases h : x < 0
  · rw [if_pos h, if_neg (fun q => by rw [i32_z] at h; have := Int32.le_iff_toInt_le.mp q; have e : (0 : Int32).toInt = 0 := rfl; omega)]
  · rw [if_neg h, if_pos (Int32.le_iff_toInt_le.mpr (by rw [i32_z] at h; have e : (0 : Int32).toInt = 0 := rfl; omega))]
theorem g195_ok (h : RST T P M) {x y : Int32} : G_195 M x y = acrP P x y := by
  unfold G_195 acrP
  rw [g141_ok, r0 h]
theorem g196_ok (h : RST T P M) {x y : Int32} : G_196 M x y = aloP P x y := by
  unfold G_196 aloP
  rw [g141_ok, r0 h]
theorem g192_ok : G_192 M d = eastI d := by
  unfold G_192 eastI
  by_cases h : d - d / 4 * 4 = 0
  · rw [if_pos h, if_pos h]
  · rw [if_neg h, if_neg h]
    by_cases h4 : 4 ≤ d
    · rw [if_pos h4, if_neg (fun q => by rw [Int32.lt_iff_toInt_lt] at q; have := Int32.le_iff_toInt_le.mp h4; omega)]
    · rw [if_neg h4, if_pos (by rw [Int32.lt_iff_toInt_lt]; have : ¬ (4 : Int32).toInt ≤ d.toInt := fun q => h4 (Int32.le_iff_toInt_le.mpr q); omega)]
theorem g193_ok : G_193 M d = southI d := by
  unfold G_193 southI G_140
  by_cases h : d - d / 4 * 4 = 2
  · rw [if_pos h, if_pos h]
  · rw [if_neg h, if_neg h]
    by_cases h3 : d < 3
    · rw [if_pos h3, if_pos rfl, if_pos h3]
    · rw [if_neg h3, if_neg h3]
      by_cases h5 : 5 < d
      · rw [if_pos h5, if_pos rfl, if_pos h5]
      · rw [if_neg h5, if_neg (by decide), if_neg h5]
theorem g194_ok (h : RST T P M) : G_194 M c d = besP P c d := by
  unfold G_194 besP besI
  rw [g192_ok, g193_ok, r0 h, r1 h]
  unfold G_140
  obtain ⟨x, ex⟩ : ∃ x, x = c - c / P 0 * P 0 + eastI d := ⟨_, rfl⟩
  obtain ⟨y, ey⟩ : ∃ y, y = c / P 0 + southI d := ⟨_, rfl⟩
  rw [← ex, ← ey]
  by_cases h1 : x < 0
  · rw [if_pos h1, if_pos rfl, if_pos h1]
  · rw [if_neg h1, if_neg h1]
    by_cases h2 : P 0 - 1 < x
    · rw [if_pos h2, if_pos rfl, if_pos h2]
    · rw [if_neg h2, if_neg (by decide), if_neg h2]
      by_cases h3 : y < 0
      · rw [if_pos h3, if_pos rfl, if_pos h3]
      · rw [if_neg h3, if_neg h3]
        by_cases h4 : P 1 - 1 < y
        · rw [if_pos h4, if_pos rfl, if_pos h4]
        · rw [if_neg h4, if_neg (by decide), if_neg h4]
theorem g144_ok (h : RST T P M) (hw : wh4 P) : (G_144 M).toInt = (clsP P : Int) := by
  obtain ⟨e1, e2, _⟩ := cls_int hw
  unfold G_144
  rw [r0 h, r1 h, i32_mul (by omega) (by omega), e1]
theorem ris_ok (h : RST T P M) (hw : wh4 P) (hc : inC P c) {cd : Cdq} (hk : atC cd) (h7 : cd.1.toInt ≤ 7) (H : Ev none e 186 0 [some (.ref 633), some (.int c), some (.int cd.1)] [] M v M' 0 0) : M' = M ∧ v = some (.int (bI (trP (T 0) P c cd))) := by
  have hS := h.1
  obtain ⟨m, hm, he⟩ := i32_in (k := 7) hk.1 h7 (by decide)
  obtain ⟨a, s, n⟩ := cd
  have he : a = nI m := he
  subst he
  have k0 : ∀ f, f = (0 : Int32) → G_146 M c f = cE P 0 c := fun f hf => by rw [hf]; exact r_cell h hw hc rfl (by decide)
  clear hk h7
  match m, hm with
  | 0, _ =>
    have et : trP (T 0) P c (nI 0, s, n) = decide (cE P 0 c = 0) := rfl
    rw [et]
    rcases ris0_0 hS H with ⟨a1, h1, h2⟩ | ⟨a1, h1, h2⟩
    · rw [k0 0 rfl] at a1; exact ⟨h2, by rw [h1, decide_eq_true a1]; rfl⟩
    · rw [k0 0 rfl] at a1; exact ⟨h2, by rw [h1, decide_eq_false a1]; rfl⟩
  | 1, _ =>
    have et : trP (T 0) P c (nI 1, s, n) = decide (cE P 0 c = 1) := rfl
    rw [et]
    rcases ris1_0 hS H with ⟨a1, h1, h2⟩ | ⟨a1, h1, h2⟩
    · rw [k0 0 rfl] at a1; exact ⟨h2, by rw [h1, decide_eq_true a1]; rfl⟩
    · rw [k0 0 rfl] at a1; exact ⟨h2, by rw [h1, decide_eq_false a1]; rfl⟩
  | 2, _ =>
    have et : trP (T 0) P c (nI 2, s, n) = decide (cE P 0 c = 2) := rfl
    rw [et]
    rcases ris2_0 hS H with ⟨a1, h1, h2⟩ | ⟨a1, h1, h2⟩
    · rw [k0 0 rfl] at a1; exact ⟨h2, by rw [h1, decide_eq_true a1]; rfl⟩
    · rw [k0 0 rfl] at a1; exact ⟨h2, by rw [h1, decide_eq_false a1]; rfl⟩
  | 3, _ =>
    have et : trP (T 0) P c (nI 3, s, n) = decide (cE P 0 c = 4) := rfl
    rw [et]
    rcases ris3_0 hS H with ⟨a1, h1, h2⟩ | ⟨a1, h1, h2⟩
    · rw [k0 0 rfl] at a1; exact ⟨h2, by rw [h1, decide_eq_true a1]; rfl⟩
    · rw [k0 0 rfl] at a1; exact ⟨h2, by rw [h1, decide_eq_false a1]; rfl⟩
  | 4, _ =>
    have et : trP (T 0) P c (nI 4, s, n) = decide (cE P 0 c = 5) := rfl
    rw [et]
    rcases ris4_0 hS H with ⟨a1, h1, h2⟩ | ⟨a1, h1, h2⟩
    · rw [k0 0 rfl] at a1; exact ⟨h2, by rw [h1, decide_eq_true a1]; rfl⟩
    · rw [k0 0 rfl] at a1; exact ⟨h2, by rw [h1, decide_eq_false a1]; rfl⟩
  | 5, _ =>
    have et : trP (T 0) P c (nI 5, s, n) = decide (cE P 1 c = 1) := rfl
    rw [et]
    rcases ris5_0 hS H with ⟨a1, h1, h2⟩ | ⟨a1, h1, h2⟩
    · rw [r_cell h hw hc (fn := 1) rfl (by decide)] at a1; exact ⟨h2, by rw [h1, decide_eq_true a1]; rfl⟩
    · rw [r_cell h hw hc (fn := 1) rfl (by decide)] at a1; exact ⟨h2, by rw [h1, decide_eq_false a1]; rfl⟩
  | 6, _ =>
    have et : trP (T 0) P c (nI 6, s, n) = decide (bdQ (T 0) ≤ cE P 3 c ∧ mdQ (T 0) ≤ cE P 4 c) := rfl
    rw [et]
    obtain ⟨h1, h2⟩ := ris6_0 hS H
    exact ⟨h2, by rw [h1, g151_ok h hw hc]⟩
  | 7, _ =>
    have et : trP (T 0) P c (nI 7, s, n) = decide (bdQ (T 0) ≤ cE P 3 c) := rfl
    rw [et]
    obtain ⟨h1, h2⟩ := ris7_0 hS H
    exact ⟨h2, by rw [h1, g150_ok h hw hc]; rfl⟩
/-! the pile -/
def RTr (M : Mem) (st : List Bool) : Prop := ∀ j x, st.reverse[j]? = some x → rN M 649 j = bI x
theorem nar_b1 (x : Bool) : vp_nar .boolean (bI x) = bI x := nar_same (by cases x <;> decide)
theorem len649 (hS : SH M) : (zrw M 649).length = 60 := (hS.row qa_649 qw_77).2
theorem RTr.top {x : Bool} {st : List Bool} (h : RTr M (x :: st)) : rN M 649 st.length = bI x := h st.length x (by
  rw [List.reverse_cons, List.getElem?_append_right (by rw [List.length_reverse]; exact Nat.le_refl _), List.length_reverse, Nat.sub_self]
  rfl)
theorem RTr.pop {x : Bool} {st : List Bool} (h : RTr M (x :: st)) : RTr M st := fun j y hj => h j y (by
  have hl := (List.getElem?_eq_some_iff.mp hj).1
  rw [List.reverse_cons, List.getElem?_append_left hl]
  exact hj)
theorem RTr.push {x : Bool} {st : List Bool} (hS : SH M) (h : RTr M st) (hl : st.length < 60) : RTr (wI M 649 st.length (bI x)) (x :: st) := fun j y hj => by
  rw [List.reverse_cons] at hj
  by_cases hjl : j < st.length
  · rw [rN_wI_ne (by omega)]
    rw [List.getElem?_append_left (by rw [List.length_reverse]; exact hjl)] at hj
    exact h j y hj
  · have hl2 := (List.getElem?_eq_some_iff.mp hj).1
    rw [List.length_append, List.length_reverse] at hl2
    have hj2 : j = st.length := by
      have : [x].length = 1 := rfl
      omega
    subst hj2
    rw [List.getElem?_append_right (by rw [List.length_reverse]; exact Nat.le_refl _), List.length_reverse, Nat.sub_self] at hj
    cases hj
    exact rN_wI_eq (by rw [len649 hS]; exact hl)
theorem tu_rst (h : RST T P M) (hS : SQ M') (hF : FZ noF tuW noO M M') : RST T P M' := h.fz hS hF (fun _ _ _ q => q) (fun a ha q => by unfold tuW at q; omega)
end RHL
/-! THE REFERENCE'S holds: the loop -/
section RHO
variable {e t : Nat} {T : TS} {P P' : PK} {M M1 M' : Mem} {v : Option Value} {c d : Int32}
theorem i32_m1e {n : Int32} (h : -2147483647 ≤ n.toInt) : (n + Int32.ofInt (-1)).toInt = n.toInt - 1 := by
  have e : Int32.ofInt (-1) = -1 := rfl
  rw [e]
  exact i32_a1 h
theorem rhold_loop (hw : wh4 P) (hc : inC P c) (ht7 : t < 7) {x tx : Int32} (htx : tx.toInt = (t : Int)) {to : Nat} (h96 : to ≤ 96) : ∀ (cs : List Cdq) (M : Mem) (j : Nat) (st : List Bool) (sn kk : Int32) (c6 c7 : Option Value), RST T P M → (rI M 644 x).toInt = (to : Int) → (∀ a cd, cs[a]? = some cd → (T t).1.2.2[j + a]? = some cd) → kk.toInt = ((200 * t + j : Nat) : Int) → j + cs.length = to → okC cs st.length → st.length ≤ 32 → sn.toInt = (st.length : Int) → RTr M st → Ev none e 187 39 [some (.ref 633), some (.int x), some (.int c), some (.int tx), some (.int sn), some (.int kk), c6, c7] [] M v M' 0 0 → v = some (.int (bI ((evC (trP (T 0) P c) cs st).headD true))) ∧ SQ M' ∧ FZ noF tuW noO M M' := by
  have z0 : (0 : Int32).toInt = 0 := rfl
  have z1 : (1 : Int32).toInt = 1 := rfl
  have z8 : (8 : Int32).toInt = 8 := rfl
  have z200 : (200 : Int32).toInt = 200 := rfl
  have etx : (200 : Int32).toInt * tx.toInt = 200 * (t : Int) := by rw [z200, htx]
  have m200 : (200 * tx).toInt = 200 * (t : Int) := by rw [i32_mul (by omega) (by omega), etx]
  intro cs
  induction cs with
  | nil =>
    intro M j st sn kk c6 c7 hR hto _ hkk hlen hok hl hsn hT H
    have hlen : j + 0 = to := hlen
    have hok : st.length = 1 := hok
    obtain ⟨b, rfl⟩ := List.length_eq_one_iff.mp hok
    have hs : ((200 * tx) + (rI M 644 x)).toInt = 200 * (t : Int) + (to : Int) := by rw [i32_add (by omega) (by omega), m200, hto]
    rcases rho_39 hR.1 H with ⟨_, _, _, h1, h2⟩ | ⟨a1, _⟩
    · subst h2
      have : rI M' 649 0 = bI b := hT.top
      rw [this] at h1
      exact ⟨h1, hR.1, FZ.refl _⟩
    · exact absurd (Int32.le_iff_toInt_le.mpr (by omega)) a1
  | cons cd cs ih =>
    intro M j st sn kk c6 c7 hR hto hcs hkk hlen hok hl hsn hT H
    have hS := hR.1
    have hlen : j + (cs.length + 1) = to := hlen
    have hs : ((200 * tx) + (rI M 644 x)).toInt = 200 * (t : Int) + (to : Int) := by rw [i32_add (by omega) (by omega), m200, hto]
    have hcd : (T t).1.2.2[j]? = some cd := hcs 0 cd rfl
    have hk1 : (kk + 1).toInt = ((200 * t + (j + 1) : Nat) : Int) := by
      rw [i32_p1 (by omega)]
      omega
    have hcs2 : ∀ a cd, cs[a]? = some cd → (T t).1.2.2[j + 1 + a]? = some cd := fun a cd h => by
      rw [show j + 1 + a = j + (a + 1) from by omega]
      exact hcs (a + 1) cd h
    obtain ⟨p1, p2, p3⟩ := (hR.2.2.2 t ht7).1.1.2 j cd (by omega) hcd
    rw [← rI_n hkk] at p1 p2 p3
    have wr : ∀ (i : Nat) (y : Int32), SQ (wI M 649 i y) ∧ FZ noF tuW noO M (wI M 649 i y) ∧ RST T P (wI M 649 i y) ∧ (rI (wI M 649 i y) 644 x).toInt = (to : Int) := fun i y => by
      have hF : FZ noF tuW noO M (wI M 649 i y) := FZ.wI (W := tuW) rfl
      refine ⟨hS.ki, hF, tu_rst hR hS.ki hF, ?_⟩
      have : rI (wI M 649 i y) 644 x = rI M 644 x := by
        unfold rI
        exact rN_wI_ne (by omega)
      rw [this]
      exact hto
    rcases rho_39 hS H with ⟨a1, _⟩ | ⟨_, _, _, H⟩
    · have := Int32.le_iff_toInt_le.mp a1
      omega
    · rw [p1] at H
      by_cases c20 : cd.1 = 20
      · have hok : (if cd.1 = 20 then 1 ≤ st.length ∧ okC cs st.length else _) := hok
        rw [if_pos c20] at hok
        obtain ⟨o1, o2⟩ := hok
        match st, o1, o2, hl, hsn, hT with
        | b :: st, _, o2, hl, hsn, hT =>
          have hsn : sn.toInt = ((st.length + 1 : Nat) : Int) := hsn
          have hl : st.length + 1 ≤ 32 := hl
          have he : evC (trP (T 0) P c) (cd :: cs) (b :: st) = evC (trP (T 0) P c) cs ((!b) :: st) := by
            show evC (trP (T 0) P c) cs (if cd.1 = 20 then _ else _) = _
            rw [if_pos c20]
          rw [he]
          have hm : (sn - 1).toInt = (st.length : Int) := by rw [i32_m1 (by omega)]; omega
          have hv : rI M 649 (sn - 1) = bI b := by
            rw [rI_n hm]
            exact hT.top
          have go : ∀ y, y = bI (!b) → Ev none e 187 39 [some (.ref 633), some (.int x), some (.int c), some (.int tx), some (.int sn), some (.int (kk + 1)), some (.int cd.1), c7] [] (wI M 649 ((sn - 1).toNatClampNeg) (vp_nar .boolean y)) v M' 0 0 → v = some (.int (bI ((evC (trP (T 0) P c) cs ((!b) :: st)).headD true))) ∧ SQ M' ∧ FZ noF tuW noO M M' := fun y hy H => by
            rw [hy, nar_b1, cl_n hm] at H
            obtain ⟨w1, w2, w3, w4⟩ := wr st.length (bI (!b))
            obtain ⟨r1, r2, r3⟩ := ih _ (j + 1) ((!b) :: st) sn (kk + 1) _ _ w3 w4 hcs2 hk1 (by omega) o2 hl hsn (hT.pop.push hS.1 (by omega)) H
            exact ⟨r1, r2, w2.trans r3⟩
          rcases rho_65 hS H with ⟨_, a2, _, _, H⟩ | ⟨_, a2, _, _, H⟩ | ⟨a1, _⟩ | ⟨a1, _⟩ | ⟨a1, _⟩ | ⟨a1, _⟩ | ⟨a1, _⟩ | ⟨a1, _⟩ | ⟨a1, _⟩
          · rw [hv, bI_0] at a2
            exact go 1 (by rw [a2]; rfl) H
          · rw [hv, bI_0, Bool.not_eq_false] at a2
            exact go 0 (by rw [a2]; rfl) H
          all_goals exact absurd c20 a1
      · have h2122 : cd.1 = 21 ∨ cd.1 = 22 → v = some (.int (bI ((evC (trP (T 0) P c) (cd :: cs) st).headD true))) ∧ SQ M' ∧ FZ noF tuW noO M M' := fun h2 => by
          have hok : (if cd.1 = 20 then _ else if cd.1 = 21 ∨ cd.1 = 22 then 2 ≤ st.length ∧ okC cs (st.length - 1) else _) := hok
          rw [if_neg c20, if_pos h2] at hok
          obtain ⟨o1, o2⟩ := hok
          match st, o1, o2, hl, hsn, hT with
          | y :: b :: st, _, o2, hl, hsn, hT =>
            have hsn : sn.toInt = ((st.length + 2 : Nat) : Int) := hsn
            have hl : st.length + 2 ≤ 32 := hl
            have H2 : Ev none e 187 118 [some (.ref 633), some (.int x), some (.int c), some (.int tx), some (.int (sn + Int32.ofInt (-1))), some (.int kk), some (.int cd.1), c7] [] M v M' 0 0 := by
              rcases rho_65 hS H with ⟨a1, _⟩ | ⟨a1, _⟩ | ⟨_, _, H⟩ | ⟨_, _, _, H⟩ | ⟨_, a1, a2, _⟩ | ⟨_, a1, a2, _⟩ | ⟨_, a1, a2, _⟩ | ⟨_, a1, a2, _⟩ | ⟨_, a1, a2, _⟩
              · exact absurd a1 c20
              · exact absurd a1 c20
              · exact H
              · exact H
              all_goals exact (h2.elim a1 a2).elim
            obtain ⟨s1, es1⟩ : ∃ s1, s1 = sn + Int32.ofInt (-1) := ⟨_, rfl⟩
            have hs1 : s1.toInt = ((st.length + 1 : Nat) : Int) := by rw [es1, i32_m1e (by omega)]; omega
            rw [← es1] at H2
            have hm : (s1 - 1).toInt = (st.length : Int) := by rw [i32_m1 (by omega)]; omega
            have hv0 : rI M 649 (s1 - 1) = bI b := by
              rw [rI_n hm]
              exact hT.pop.top
            have hv1 : rI M 649 s1 = bI y := by
              rw [rI_n hs1]
              exact hT.top
            have go : ∀ (q : Bool) (z : Int32), z = bI q → evC (trP (T 0) P c) (cd :: cs) (y :: b :: st) = evC (trP (T 0) P c) cs (q :: st) → Ev none e 187 39 [some (.ref 633), some (.int x), some (.int c), some (.int tx), some (.int s1), some (.int (kk + 1)), some (.int cd.1), c7] [] (wI M 649 ((s1 - 1).toNatClampNeg) (vp_nar .boolean z)) v M' 0 0 → v = some (.int (bI ((evC (trP (T 0) P c) (cd :: cs) (y :: b :: st)).headD true))) ∧ SQ M' ∧ FZ noF tuW noO M M' := fun q z hz he H => by
              rw [hz, nar_b1, cl_n hm] at H
              rw [he]
              obtain ⟨w1, w2, w3, w4⟩ := wr st.length (bI q)
              obtain ⟨r1, r2, r3⟩ := ih _ (j + 1) (q :: st) s1 (kk + 1) _ _ w3 w4 hcs2 hk1 (by omega) o2 (by show st.length + 1 ≤ 32; omega) hs1 (hT.pop.pop.push hS.1 (by omega)) H
              exact ⟨r1, r2, w2.trans r3⟩
            have e21 : cd.1 = 21 → evC (trP (T 0) P c) (cd :: cs) (y :: b :: st) = evC (trP (T 0) P c) cs ((b && y) :: st) := fun h => by
              show evC (trP (T 0) P c) cs (if cd.1 = 20 then _ else if cd.1 = 21 then _ else _) = _
              rw [if_neg c20, if_pos h]
            have e22 : ¬ cd.1 = 21 → evC (trP (T 0) P c) (cd :: cs) (y :: b :: st) = evC (trP (T 0) P c) cs ((b || y) :: st) := fun h => by
              show evC (trP (T 0) P c) cs (if cd.1 = 20 then _ else if cd.1 = 21 then _ else if cd.1 = 22 then _ else _) = _
              rw [if_neg c20, if_neg h, if_pos (h2.resolve_left h)]
            rcases rho_118 hS H2 with ⟨a1, a2, _, _, H⟩ | ⟨a1, a2, a3, _, _, _, H⟩ | ⟨a1, a2, a3, _, _, _, H⟩ | ⟨a1, a2, a3, _, _, _, H⟩ | ⟨a1, a2, a3, _, _, _, H⟩ | ⟨a1, a2, _, _, H⟩
            · rw [hv0, bI_0] at a2
              exact go (b && y) 0 (by rw [a2]; rfl) (e21 a1) H
            · rw [hv1, bI_0] at a3
              exact go (b && y) 0 (by rw [a3, Bool.and_false]; rfl) (e21 a1) H
            · rw [hv0, bI_0, Bool.not_eq_false] at a2
              rw [hv1, bI_0, Bool.not_eq_false] at a3
              exact go (b && y) 1 (by rw [a2, a3]; rfl) (e21 a1) H
            · rw [hv0, bI_0] at a2
              rw [hv1, bI_0] at a3
              exact go (b || y) 0 (by rw [a2, a3]; rfl) (e22 a1) H
            · rw [hv0, bI_0] at a2
              rw [hv1, bI_0, Bool.not_eq_false] at a3
              exact go (b || y) 1 (by rw [a2, a3]; rfl) (e22 a1) H
            · rw [hv0, bI_0, Bool.not_eq_false] at a2
              exact go (b || y) 1 (by rw [a2]; rfl) (e22 a1) H
        by_cases c21 : cd.1 = 21
        · exact h2122 (Or.inl c21)
        · by_cases c22 : cd.1 = 22
          · exact h2122 (Or.inr c22)
          · clear h2122
            have hok : (if cd.1 = 20 then _ else if cd.1 = 21 ∨ cd.1 = 22 then _ else atC cd ∧ st.length < 32 ∧ okC cs (st.length + 1)) := hok
            rw [if_neg c20, if_neg (fun q => q.elim c21 c22)] at hok
            obtain ⟨o1, o2, o3⟩ := hok
            have he : evC (trP (T 0) P c) (cd :: cs) st = evC (trP (T 0) P c) cs (trP (T 0) P c cd :: st) := by
              show evC (trP (T 0) P c) cs (if cd.1 = 20 then _ else if cd.1 = 21 then _ else if cd.1 = 22 then _ else _) = _
              rw [if_neg c20, if_neg c21, if_neg c22]
            rw [he]
            have hs1 : (sn + 1).toInt = ((st.length + 1 : Nat) : Int) := by rw [i32_p1 (by omega)]; omega
            have go : ∀ (z : Int32) (c6 c7 : Option Value), z = bI (trP (T 0) P c cd) → Ev none e 187 39 [some (.ref 633), some (.int x), some (.int c), some (.int tx), some (.int (sn + 1)), some (.int (kk + 1)), c6, c7] [] (wI M 649 sn.toNatClampNeg (vp_nar .boolean z)) v M' 0 0 → v = some (.int (bI ((evC (trP (T 0) P c) cs (trP (T 0) P c cd :: st)).headD true))) ∧ SQ M' ∧ FZ noF tuW noO M M' := fun z c6 c7 hz H => by
              rw [hz, nar_b1, cl_n hsn] at H
              obtain ⟨w1, w2, w3, w4⟩ := wr st.length (bI (trP (T 0) P c cd))
              obtain ⟨r1, r2, r3⟩ := ih _ (j + 1) (trP (T 0) P c cd :: st) (sn + 1) (kk + 1) _ _ w3 w4 hcs2 hk1 (by omega) o3 (by show st.length + 1 ≤ 32; omega) hs1 (hT.push hS.1 (by omega)) H
              exact ⟨r1, r2, w2.trans r3⟩
            have cmp : ∀ vv : Int32, 8 ≤ cd.1 → trP (T 0) P c cd = cmpV vv cd.2.1 cd.2.2 → Ev none e 187 246 [some (.ref 633), some (.int x), some (.int c), some (.int tx), some (.int sn), some (.int kk), some (.int cd.1), some (.int vv)] [] M v M' 0 0 → v = some (.int (bI ((evC (trP (T 0) P c) cs (trP (T 0) P c cd :: st)).headD true))) ∧ SQ M' ∧ FZ noF tuW noO M M' := fun vv h8 htr H => by
              unfold cmpV at htr
              rcases rho_246 hS H with ⟨_, a1, a2, _, _, _, H⟩ | ⟨_, a1, a2, _, _, _, H⟩ | ⟨_, a1, a2, a3, _, _, _, _, H⟩ | ⟨_, a1, a2, a3, _, _, _, _, H⟩ | ⟨_, a1, a2, a3, _, _, _, _, H⟩ | ⟨_, a1, a2, a3, _, _, _, _, H⟩ | ⟨a1, _⟩
              · rw [p2] at a1
                rw [p3] at a2
                refine go 0 _ _ ?_ H
                rw [htr, if_pos a1, decide_eq_false (fun q => by rw [Int32.lt_iff_toInt_lt] at q; have := Int32.le_iff_toInt_le.mp a2; omega)]
                rfl
              · rw [p2] at a1
                rw [p3] at a2
                refine go 1 _ _ ?_ H
                rw [htr, if_pos a1, decide_eq_true (by rw [Int32.lt_iff_toInt_lt]; have : ¬ cd.2.2.toInt ≤ vv.toInt := fun q => a2 (Int32.le_iff_toInt_le.mpr q); omega)]
                rfl
              · rw [p2] at a1 a2
                rw [p3] at a3
                refine go 1 _ _ ?_ H
                rw [htr, if_neg a1, if_pos a2, decide_eq_true a3]
                rfl
              · rw [p2] at a1 a2
                rw [p3] at a3
                refine go 0 _ _ ?_ H
                rw [htr, if_neg a1, if_pos a2, decide_eq_false a3]
                rfl
              · rw [p2] at a1 a2
                rw [p3] at a3
                refine go 0 _ _ ?_ H
                rw [htr, if_neg a1, if_neg a2, decide_eq_false (fun q => by rw [Int32.lt_iff_toInt_lt] at q; have := Int32.le_iff_toInt_le.mp a3; omega)]
                rfl
              · rw [p2] at a1 a2
                rw [p3] at a3
                refine go 1 _ _ ?_ H
                rw [htr, if_neg a1, if_neg a2, decide_eq_true (by rw [Int32.lt_iff_toInt_lt]; have : ¬ vv.toInt ≤ cd.2.2.toInt := fun q => a3 (Int32.le_iff_toInt_le.mpr q); omega)]
                rfl
              · exact absurd h8 a1
            have trc : 8 ≤ cd.1 → trP (T 0) P c cd = cmpV (if cd.1 = 8 then cE P 3 c else if cd.1 = 9 then cE P 4 c else if cd.1 = 10 then cE P 2 c else cE P 5 c) cd.2.1 cd.2.2 := fun h8 => by
              have h8i := Int32.le_iff_toInt_le.mp h8
              have ne : ∀ k : Int32, k.toInt < 8 → ¬ cd.1 = k := fun k hk q => by rw [q] at h8i; omega
              unfold trP
              rw [if_neg (ne 0 (by decide)), if_neg (ne 1 (by decide)), if_neg (ne 2 (by decide)), if_neg (ne 3 (by decide)), if_neg (ne 4 (by decide)), if_neg (ne 5 (by decide)), if_neg (ne 6 (by decide)), if_neg (ne 7 (by decide))]
            rcases rho_65 hS H with ⟨a1, _⟩ | ⟨a1, _⟩ | ⟨_, a1, _⟩ | ⟨_, _, a1, _⟩ | ⟨_, _, _, a4, a5, H⟩ | ⟨_, _, _, a4, a5, a6, H⟩ | ⟨_, _, _, a4, a5, a6, a7, H⟩ | ⟨_, _, _, a4, a5, a6, a7, H⟩ | ⟨_, _, _, a4, H⟩
            · exact absurd a1 c20
            · exact absurd a1 c20
            · exact absurd a1 c21
            · exact absurd a1 c22
            · rw [r_cell hR hw hc (fn := 3) rfl (by decide)] at H
              exact cmp _ a4 (by rw [trc a4, if_pos a5]) H
            · rw [r_cell hR hw hc (fn := 4) rfl (by decide)] at H
              exact cmp _ a4 (by rw [trc a4, if_neg a5, if_pos a6]) H
            · rw [r_cell hR hw hc (fn := 2) rfl (by decide)] at H
              exact cmp _ a4 (by rw [trc a4, if_neg a5, if_neg a6, if_pos a7]) H
            · rw [r_cell hR hw hc (fn := 5) rfl (by decide)] at H
              exact cmp _ a4 (by rw [trc a4, if_neg a5, if_neg a6, if_neg a7]) H
            · rcases rho_246 hS H with ⟨a1, _⟩ | ⟨a1, _⟩ | ⟨a1, _⟩ | ⟨a1, _⟩ | ⟨a1, _⟩ | ⟨a1, _⟩ | ⟨_, e1, v1, M1, rfl, H1, H⟩
              · exact absurd a1 a4
              · exact absurd a1 a4
              · exact absurd a1 a4
              · exact absurd a1 a4
              · exact absurd a1 a4
              · exact absurd a1 a4
              · have h7 : cd.1.toInt ≤ 7 := by
                  have : ¬ (8 : Int32).toInt ≤ cd.1.toInt := fun q => a4 (Int32.le_iff_toInt_le.mpr q)
                  omega
                obtain ⟨rfl, rfl⟩ := ris_ok hR hw hc o1 h7 H1
                obtain ⟨_, H⟩ := rho_266 hS H
                exact go _ _ _ rfl H
theorem rhold_ok (hR : RST T P M) (hw : wh4 P) (hc : inC P c) (ht7 : t < 7) {x : Int32} {j : Nat} {l : Lnq} (hx : x.toInt = ((16 * t + j : Nat) : Int)) (hl : (T t).2[j]? = some l) (H : Ev none e 187 0 [some (.ref 633), some (.int x), some (.int c), none, none, none, none, none] [] M v M' 0 0) : v = some (.int (bI (hldP (T 0) P (T t) l c))) ∧ SQ M' ∧ FZ noF tuW noO M M' := by
  obtain ⟨⟨hq, hlw⟩, h96⟩ := hR.2.2.2 t ht7
  obtain ⟨_, _, _, k4, k5⟩ := hq.1.2.2 j l hl
  have hj16 : j < 16 := by
    have := (List.getElem?_eq_some_iff.mp hl).1
    have := hq.1.2.1
    omega
  rw [← rI_n hx] at k4 k5
  obtain ⟨_, w1, w2, w3⟩ := hlw l (List.mem_of_getElem? hl)
  have z16 : (16 : Int32).toInt = 16 := rfl
  have z200 : (200 : Int32).toInt = 200 := rfl
  have hxt : (x / 16).toInt = (t : Int) := by
    rw [i32_div (by decide), z16, hx, Int.tdiv_eq_ediv_of_nonneg (by omega)]
    omega
  unfold hldP
  rcases rho_0 hR.1 H with ⟨a1, _, _, h1, h2⟩ | ⟨a1, _, _, _, H⟩
  · subst h2
    have : l.2.2.2.1 = l.2.2.2.2 := by
      have := congrArg Int32.toInt a1
      omega
    rw [if_pos this]
    exact ⟨h1, hR.1, FZ.refl _⟩
  · have hne : ¬ l.2.2.2.1 = l.2.2.2.2 := fun q => a1 (Int32.toInt_inj.mp (by omega))
    rw [if_neg hne]
    have hok : okC (segC (T t) l) 0 := by
      rcases w3 with w3 | ⟨k, e1, e2⟩
      · exact absurd w3 hne
      · exact e2.ok (by omega)
    have hlen : (segC (T t) l).length = l.2.2.2.2 - l.2.2.2.1 := by
      unfold segC
      rw [List.length_take, List.length_drop]
      omega
    have et : (200 : Int32).toInt * (x / 16).toInt = 200 * (t : Int) := by rw [z200, hxt]
    have m200 : (200 * (x / 16)).toInt = 200 * (t : Int) := by rw [i32_mul (by omega) (by omega), et]
    refine rhold_loop hw hc ht7 hxt (to := l.2.2.2.2) (by omega) (segC (T t) l) M l.2.2.2.1 [] 0 _ none none hR k5 (fun a cd h => ?_) (by rw [i32_add (by omega) (by omega), m200, k4]; omega) (by omega) hok (by decide) rfl (fun j x hj => by cases hj) H
    unfold segC at h
    rw [List.getElem?_take] at h
    split at h
    · rw [List.getElem?_drop] at h
      exact h
    · cases h
end RHO
/-! THE REFERENCE'S choose -/
def RWC (w : WC) (t : Nat) (M : Mem) : Prop := zI M 633 34 = w.1 ∧ zI M 633 35 = w.2.1 ∧ (zI M 633 36).toInt = (t : Int) ∧ zI M 633 37 = w.2.2.1 ∧ zI M 633 38 = w.2.2.2.1 ∧ zI M 633 39 = bI w.2.2.2.2
section RCH
variable {e t : Nat} {T : TS} {P P' : PK} {M M1 M' : Mem} {v : Option Value} {c d : Int32} {w : WC}
theorem RWC.tu (h : RWC w t M) (hF : FZ noF tuW noO M M') : RWC w t M' := by
  have z : ∀ k, zI M' 633 k = zI M 633 k := fun k => hF.fi (fun q => q)
  unfold RWC
  rw [z, z, z, z, z, z]
  exact h
theorem RST.tu (h : RST T P M) (hS : SQ M') (hF : FZ noF tuW noO M M') : RST T P M' := tu_rst h hS hF
/-- places of lines -/
theorem ln_pl {tx i : Int32} {j : Nat} (ht : tx.toInt = (t : Int)) (ht7 : t < 7) : (16 * tx).toInt = 16 * (t : Int) := by
  have z16 : (16 : Int32).toInt = 16 := rfl
  have e : (16 : Int32).toInt * tx.toInt = 16 * (t : Int) := by rw [z16, ht]
  rw [i32_mul (by omega) (by omega), e]
theorem ln_end (h : RST T P M) {tx : Int32} (ht : tx.toInt = (t : Int)) (ht7 : t < 7) : ((16 * tx) + (rI M 639 tx)).toInt = 16 * (t : Int) + ((T t).2.length : Int) := by
  have hq := (h.2.2.2 t ht7).1.1.1
  have e := ln_pl (i := 0) (j := 0) ht ht7
  have e2 : (rI M 639 tx).toInt = ((T t).2.length : Int) := by rw [rI_n ht]; exact hq.1
  have := hq.2.1
  rw [i32_add (by omega) (by omega), e, e2]
theorem ln_get (h : RST T P M) (ht7 : t < 7) {i : Int32} {j : Nat} {l : Lnq} (hi : i.toInt = ((16 * t + j : Nat) : Int)) (hl : (T t).2[j]? = some l) : rI M 640 i = l.1 ∧ rI M 641 i = l.2.1 ∧ rI M 642 i = l.2.2.1 := by
  obtain ⟨h1, h2, h3, _⟩ := (h.2.2.2 t ht7).1.1.1.2.2 j l hl
  rw [rI_n hi, rI_n hi, rI_n hi]
  exact ⟨h1, h2, h3⟩
theorem ln_16 (h : RST T P M) (ht7 : t < 7) : (T t).2.length ≤ 16 := (h.2.2.2 t ht7).1.1.1.2.1
theorem rfst_loop (hw : wh4 P) (hc : inC P c) {k dd : Int32} : ∀ (r : List Lnq) (M : Mem) (j : Nat) (i : Int32), RST T P M → (T 0).2.drop j = r → i.toInt = (j : Int) → j ≤ (T 0).2.length → Ev none e 188 3 [some (.ref 633), some (.int k), some (.int c), some (.int dd), some (.int i)] [] M v M' 0 0 → v = some (.int (fstL (T 0) P k c dd r)) ∧ SQ M' ∧ FZ noF tuW noO M M' := by
  intro r
  induction r with
  | nil =>
    intro M j i hR hd hi hj H
    have h1 := dr_nil hd
    have hl := (hR.2.2.2 0 (by decide)).1.1.1.1
    have hl : (rI M 639 0).toInt = ((T 0).2.length : Int) := hl
    rcases rfs_3 hR.1 H with ⟨_, _, h2, h3⟩ | ⟨a1, _⟩ | ⟨a1, _⟩
    · subst h3
      exact ⟨h2, hR.1, FZ.refl _⟩
    all_goals exact absurd (Int32.le_iff_toInt_le.mpr (by omega)) a1
  | cons l r ih =>
    intro M j i hR hd hi hj H
    obtain ⟨h1, h2, h3⟩ := ln_at hd
    have hl := (hR.2.2.2 0 (by decide)).1.1.1.1
    have hl : (rI M 639 0).toInt = ((T 0).2.length : Int) := hl
    have h16 := ln_16 hR (t := 0) (by decide)
    have hi1 : (i + 1).toInt = ((j + 1 : Nat) : Int) := by
      rw [i32_p1 (by omega)]
      omega
    have hi0 : i.toInt = ((16 * 0 + j : Nat) : Int) := by omega
    obtain ⟨k1, k2, k3⟩ := ln_get hR (t := 0) (by decide) hi0 h1
    unfold fstL
    rcases rfs_3 hR.1 H with ⟨a1, _⟩ | ⟨_, a2, _, _, e1, v1, M1, rfl, H1, H⟩ | ⟨_, a2, _, _, H⟩
    · have := Int32.le_iff_toInt_le.mp a1
      omega
    · rw [k1] at a2
      obtain ⟨rfl, q2, q3⟩ := rhold_ok hR hw hc (t := 0) (by decide) hi0 h1 H1
      have hR1 := hR.tu q2 q3
      rcases rfs_32 q2 H with ⟨b1, H⟩ | ⟨b1, _, b2, b3⟩
      · rw [bI_0] at b1
        rw [if_neg (fun q => by rw [q.2] at b1; cases b1)]
        obtain ⟨r1, r2, r3⟩ := ih M1 (j + 1) _ hR1 h2 hi1 (by omega) H
        exact ⟨r1, r2, q3.trans r3⟩
      · rw [bI_0, Bool.not_eq_false] at b1
        rw [if_pos ⟨a2, b1⟩]
        obtain ⟨_, _, n3⟩ := ln_get hR1 (t := 0) (by decide) hi0 h1
        rw [n3] at b2
        subst b3
        exact ⟨b2, q2, q3⟩
    · rw [k1] at a2
      rw [if_neg (fun q => a2 q.1)]
      exact ih M (j + 1) _ hR h2 hi1 (by omega) H
theorem rfst_ok (hR : RST T P M) (hw : wh4 P) (hc : inC P c) {k dd : Int32} (H : Ev none e 188 0 [some (.ref 633), some (.int k), some (.int c), some (.int dd), none] [] M v M' 0 0) : v = some (.int (fstL (T 0) P k c dd (T 0).2)) ∧ SQ M' ∧ FZ noF tuW noO M M' := rfst_loop hw hc (T 0).2 M 0 0 hR rfl rfl (Nat.zero_le _) (rfs_0 hR.1 H)
theorem rmay_loop (hw : wh4 P) (hc : inC P c) (ht7 : t < 7) : ∀ (r : List Lnq) (M : Mem) (j : Nat) (i : Int32), RST T P M → (zI M 633 36).toInt = (t : Int) → (T t).2.drop j = r → i.toInt = ((16 * t + j : Nat) : Int) → j ≤ (T t).2.length → Ev none e 201 8 [some (.ref 633), some (.int c), some (.int i)] [] M v M' 0 0 → v = some (.int (bI (nevL (T 0) P (T t) c r))) ∧ SQ M' ∧ FZ noF tuW noO M M' := by
  intro r
  induction r with
  | nil =>
    intro M j i hR hx hd hi hj H
    have h1 := dr_nil hd
    have hl := ln_end hR hx ht7
    rcases rma_8 hR.1 H with ⟨_, _, h2, h3⟩ | ⟨a1, _⟩ | ⟨a1, _⟩
    · subst h3
      exact ⟨h2, hR.1, FZ.refl _⟩
    all_goals exact absurd (Int32.le_iff_toInt_le.mpr (by omega)) a1
  | cons l r ih =>
    intro M j i hR hx hd hi hj H
    obtain ⟨h1, h2, h3⟩ := ln_at hd
    have hl := ln_end hR hx ht7
    have h16 := ln_16 hR ht7
    have hi1 : (i + 1).toInt = ((16 * t + (j + 1) : Nat) : Int) := by
      rw [i32_p1 (by omega)]
      omega
    obtain ⟨k1, k2, k3⟩ := ln_get hR ht7 hi h1
    unfold nevL
    rcases rma_8 hR.1 H with ⟨a1, _⟩ | ⟨_, a2, _, _, e1, v1, M1, rfl, H1, H⟩ | ⟨_, a2, _, _, H⟩
    · have := Int32.le_iff_toInt_le.mp a1
      omega
    · rw [k1] at a2
      obtain ⟨rfl, q2, q3⟩ := rhold_ok hR hw hc ht7 hi h1 H1
      rcases rma_46 q2 H with ⟨b1, H⟩ | ⟨b1, b2, b3⟩
      · rw [bI_0] at b1
        rw [if_neg (fun q => by rw [q.2] at b1; cases b1)]
        obtain ⟨r1, r2, r3⟩ := ih M1 (j + 1) _ (hR.tu q2 q3) (by rw [q3.fi (fun q => q)]; exact hx) h2 hi1 (by omega) H
        exact ⟨r1, r2, q3.trans r3⟩
      · rw [bI_0, Bool.not_eq_false] at b1
        rw [if_pos ⟨a2, b1⟩]
        subst b3
        exact ⟨b2, q2, q3⟩
    · rw [k1] at a2
      rw [if_neg (fun q => a2 q.1)]
      exact ih M (j + 1) _ hR hx h2 hi1 (by omega) H
theorem rmay_ok (hR : RST T P M) (hw : wh4 P) (hc : inC P c) (ht7 : t < 7) (hx : (zI M 633 36).toInt = (t : Int)) (H : Ev none e 201 0 [some (.ref 633), some (.int c), none] [] M v M' 0 0) : v = some (.int (bI (nevL (T 0) P (T t) c (T t).2))) ∧ SQ M' ∧ FZ noF tuW noO M M' := rmay_loop hw hc ht7 (T t).2 M 0 _ hR hx rfl (by rw [ln_pl (i := 0) (j := 0) hx ht7]; omega) (Nat.zero_le _) (rma_0 hR.1 H)
theorem rfnd_loop (hR : RST T P M) (ht7 : t < 7) {tx k : Int32} (hx : tx.toInt = (t : Int)) : ∀ (r : List Lnq) (j : Nat) (i : Int32), (T t).2.drop j = r → i.toInt = ((16 * t + j : Nat) : Int) → j ≤ (T t).2.length → Ev none e 172 5 [some (.ref 633), some (.int tx), some (.int k), some (.int i)] [] M v M' 0 0 → M' = M ∧ ((r.find? (fun l => decide (l.1 = k)) = none ∧ v = some (.int (-1))) ∨ ∃ l y, r.find? (fun l => decide (l.1 = k)) = some l ∧ v = some (.int y) ∧ 0 ≤ y.toInt ∧ rI M 642 y = l.2.2.1) := by
  intro r
  induction r with
  | nil =>
    intro j i hd hi hj H
    have h1 := dr_nil hd
    have hl := ln_end hR hx ht7
    rcases rfd_5 hR.1 H with ⟨_, _, h2, h3⟩ | ⟨a1, _⟩ | ⟨a1, _⟩
    · exact ⟨h3, Or.inl ⟨rfl, h2⟩⟩
    all_goals exact absurd (Int32.le_iff_toInt_le.mpr (by omega)) a1
  | cons l r ih =>
    intro j i hd hi hj H
    obtain ⟨h1, h2, h3⟩ := ln_at hd
    have hl := ln_end hR hx ht7
    have h16 := ln_16 hR ht7
    have hi1 : (i + 1).toInt = ((16 * t + (j + 1) : Nat) : Int) := by
      rw [i32_p1 (by omega)]
      omega
    obtain ⟨k1, k2, k3⟩ := ln_get hR ht7 hi h1
    rcases rfd_5 hR.1 H with ⟨a1, _⟩ | ⟨_, a2, _, _, h4, h5⟩ | ⟨_, a2, _, _, H⟩
    · have := Int32.le_iff_toInt_le.mp a1
      omega
    · rw [k1] at a2
      refine ⟨h5, Or.inr ⟨l, i, ?_, h4, by omega, k3⟩⟩
      rw [List.find?_cons_of_pos (by exact decide_eq_true a2)]
    · rw [k1] at a2
      rw [List.find?_cons_of_neg (by rw [decide_eq_false a2]; decide)]
      exact ih (j + 1) _ h2 hi1 (by omega) H
theorem rcrd_loop (hR : RST T P M) (h60 : (P 157).toInt ≤ 60) : ∀ (n k : Nat) (kz nn : Int32), kz.toInt = (k : Int) → (k : Int) + (n : Int) = (P 157).toInt → nn = crdP P c k → Ev none e 198 4 [some (.ref 633), some (.int c), some (.int nn), some (.int kz)] [] M v M' 0 0 → M' = M ∧ v = some (.int (crdP P c (k + n))) := by
  have h157 : rI M 635 157 = P 157 := r_s hR (n := 157) rfl (by decide)
  intro n
  induction n with
  | zero =>
    intro k kz nn hk hn hc H
    rcases rcr_4 hR.1 H with ⟨_, _, h1, h2⟩ | ⟨a1, _⟩ | ⟨a1, _⟩
    · exact ⟨h2, by rw [h1, hc]; rfl⟩
    all_goals exact absurd (Int32.le_iff_toInt_le.mpr (by rw [h157]; omega)) a1
  | succ n ih =>
    intro k kz nn hk hn hc H
    have hk1 : (kz + 1).toInt = ((k + 1 : Nat) : Int) := by
      rw [i32_p1 (by omega)]
      omega
    have hw : rI M 635 (158 + (6 * kz)) = P (158 + 6 * k) := r_s hR (by rw [(i32_e kz (by omega) (by omega)).1]; omega) (by omega)
    rw [show k + (n + 1) = k + 1 + n from by omega]
    rcases rcr_4 hR.1 H with ⟨a1, _⟩ | ⟨_, a2, _, _, H⟩ | ⟨_, a2, _, _, H⟩
    · rw [h157] at a1
      have := Int32.le_iff_toInt_le.mp a1
      omega
    · rw [hw] at a2
      refine ih (k + 1) _ _ hk1 (by omega) ?_ H
      show _ = crdP P c k + (if P (158 + 6 * k) = c then 1 else 0)
      rw [if_pos a2, hc]
    · rw [hw] at a2
      refine ih (k + 1) _ _ hk1 (by omega) ?_ H
      show _ = crdP P c k + (if P (158 + 6 * k) = c then 1 else 0)
      rw [if_neg a2, hc]
theorem rcrd_ok (hR : RST T P M) (hK : okK P) (H : Ev none e 198 0 [some (.ref 633), some (.int c), none, none] [] M v M' 0 0) : M' = M ∧ v = some (.int (crdP P c (P 157).toInt.toNat)) := by
  obtain ⟨h1, h2⟩ := rcrd_loop hR hK.2.1 (P 157).toInt.toNat 0 0 0 rfl (by have := hK.1; omega) rfl (rcr_0 hR.1 H)
  rw [Nat.zero_add] at h2
  exact ⟨h1, h2⟩
theorem rsee_loop (hR : RST T P M) (hw : wh4 P) {c0 fa : Int32} : ∀ (n : Nat) (le nn vv : Int32), le.toInt = (n : Int) → (vv = -1 ∨ inC P vv) → Ev none e 199 33 [some (.ref 633), some (.int c0), some (.int d), some (.int fa), some (.int le), some (.int nn), some (.int vv)] [] M v M' 0 0 → M' = M ∧ v = some (.int (seeP (T 0) P d n vv nn)) := by
  have z0 : (0 : Int32).toInt = 0 := rfl
  intro n
  induction n with
  | zero =>
    intro le nn vv hl _ H
    rcases rse_33 hR.1 H with ⟨_, h1, h2⟩ | ⟨a1, _⟩ | ⟨a1, _⟩ | ⟨a1, _⟩ | ⟨a1, _⟩
    · exact ⟨h2, h1⟩
    all_goals exact absurd (Int32.le_iff_toInt_le.mpr (by omega)) a1
  | succ n ih =>
    intro le nn vv hl hv H
    have hle := (i32_lt le).2
    have hm : (le + Int32.ofInt (-1)).toInt = (n : Int) := by rw [i32_m1e (by omega)]; omega
    have hop : ¬ vv < 0 → inC P vv := fun q => by
      rcases hv with h | h
      · exact absurd (by rw [h]; decide) q
      · exact h
    unfold seeP
    rcases rse_33 hR.1 H with ⟨a1, _⟩ | ⟨_, a2, h1, h2⟩ | ⟨_, a2, a3, h1, h2⟩ | ⟨_, a2, a3, a4, H⟩ | ⟨_, a2, a3, a4, H⟩
    · have := Int32.le_iff_toInt_le.mp a1
      omega
    · rw [if_pos (Or.inl a2)]
      exact ⟨h2, h1⟩
    · rw [g148_ok hR hw (hop a2), bI_0] at a3
      rw [if_pos (Or.inr a3)]
      exact ⟨h2, h1⟩
    · have hin := hop a2
      rw [g148_ok hR hw hin, bI_0] at a3
      rw [g150_ok hR hw hin, bI_0] at a4
      rw [if_neg (fun q => q.elim a2 a3), a4, if_neg (by decide)]
      rw [g194_ok hR] at H
      exact ih _ _ _ hm (besP_in hw hin) H
    · have hin := hop a2
      rw [g148_ok hR hw hin, bI_0] at a3
      rw [g150_ok hR hw hin, bI_0, Bool.not_eq_false] at a4
      rw [if_neg (fun q => q.elim a2 a3), a4, if_pos rfl]
      rw [g194_ok hR] at H
      exact ih _ _ _ hm (besP_in hw hin) H
theorem rsee_ok (hR : RST T P M) (hw : wh4 P) (hc : inC P c) (ht7 : t < 7) (hx : (zI M 633 36).toInt = (t : Int)) (H : Ev none e 199 0 [some (.ref 633), some (.int c), some (.int d), none, none, none, none] [] M v M' 0 0) : M' = M ∧ v = some (.int (seeP (T 0) P d (siQ (T t)).toInt.toNat c 0)) := by
  have hs := si_rng (hR.2.2.2 t ht7).1.2
  have hnn := hs.1
  obtain ⟨e1, v1, M1, rfl, H1, H⟩ := rse_0 hR.1 H
  obtain ⟨rfl, hf⟩ := rfnd_loop hR ht7 hx (T t).2 0 _ rfl (by rw [ln_pl (i := 0) (j := 0) hx ht7]; omega) (Nat.zero_le _) (rfd_0 hR.1 H1)
  have z0 : (0 : Int32).toInt = 0 := rfl
  rcases hf with ⟨f1, rfl⟩ | ⟨l, y, f1, rfl, f2, f3⟩
  · have hsi : siQ (T t) = 3 := by
      unfold siQ tvS
      rw [f1]
    rcases rse_10 hR.1 H with ⟨a1, _⟩ | ⟨_, H⟩
    · exact absurd a1 (by decide)
    · rw [hsi] at hs ⊢
      exact rsee_loop hR hw 3 3 0 c rfl (Or.inr hc) H
  · have hsi : siQ (T t) = l.2.2.1 := by
      unfold siQ tvS
      rw [f1]
    rcases rse_10 hR.1 H with ⟨_, _, H⟩ | ⟨a1, _⟩
    · rw [f3, ← hsi] at H
      exact rsee_loop hR hw (siQ (T t)).toInt.toNat (siQ (T t)) 0 c (by omega) (Or.inr hc) H
    · exact absurd (Int32.le_iff_toInt_le.mpr (by omega)) a1
theorem rmea_ok (hR : RST T P M) (hw : wh4 P) (hK : okK P) (hc : inC P c) (ht7 : t < 7) (hW : RWC w t M) (hh : inC P w.1) {m : Int32} (m0 : 0 ≤ m.toInt) (m6 : m.toInt ≤ 6) (H : Ev none e 197 0 [some (.ref 633), some (.int c), some (.int d), some (.int m)] [] M v M' 0 0) : M' = M ∧ v = some (.int (meaQ (T 0) P (T t) w c d m)) := by
  have hS := hR.1
  obtain ⟨w1, w2, w3, w4, w5, w6⟩ := hW
  obtain ⟨km, hk, rfl⟩ := i32_in (k := 6) m0 m6 (by decide)
  clear m0 m6
  match km, hk with
  | 0, _ =>
    show M' = M ∧ v = some (.int (if grnB P c = true ∧ ¬ bdQ (T 0) ≤ cE P 3 c then (bdQ (T 0) - cE P 3 c) / 10 else 0))
    rcases rme0_0 hS H with ⟨a1, h1, h2⟩ | ⟨a1, a2, h1, h2⟩ | ⟨a1, a2, h1, h2⟩
    · rw [g149_ok hR hw hc, bI_0] at a1
      exact ⟨h2, by rw [h1, if_neg (fun q => by rw [a1] at q; cases q.1)]⟩
    · rw [g149_ok hR hw hc, bI_0, Bool.not_eq_false] at a1
      rw [g150_ok hR hw hc, bI_0] at a2
      have h3 : ¬ bdQ (T 0) ≤ cE P 3 c := of_decide_eq_false a2
      exact ⟨h2, by rw [h1, if_pos ⟨a1, h3⟩, hR.2.2.1.1, r_cell hR hw hc (fn := 3) rfl (by decide)]⟩
    · rw [g150_ok hR hw hc, bI_0, Bool.not_eq_false] at a2
      have h3 : bdQ (T 0) ≤ cE P 3 c := of_decide_eq_true a2
      exact ⟨h2, by rw [h1, if_neg (fun q => q.2 h3)]⟩
  | 1, _ =>
    obtain ⟨h1, h2⟩ := rme1_0 hS H
    exact ⟨h2, by rw [h1, r_cell hR hw hc (fn := 4) rfl (by decide)]; rfl⟩
  | 2, _ =>
    obtain ⟨h1, h2⟩ := rme2_0 hS H
    exact ⟨h2, by rw [h1, g141_ok, w1, r_cell hR hw hc (fn := 2) rfl (by decide), r_cell hR hw hh (fn := 2) rfl (by decide)]; rfl⟩
  | 3, _ =>
    show M' = M ∧ v = some (.int (if w.2.2.2.2 = true then 0 else crdP P c (P 157).toInt.toNat))
    rcases rme3_0 hS H with ⟨a1, e1, v1, M1, rfl, H1, H⟩ | ⟨a1, h1, h2⟩
    · rw [w6, bI_0] at a1
      obtain ⟨rfl, rfl⟩ := rcrd_ok hR hK H1
      obtain ⟨h1, h2⟩ := rme3_121 hS H
      exact ⟨h2, by rw [h1, a1, if_neg (by decide)]⟩
    · rw [w6, bI_0, Bool.not_eq_false] at a1
      exact ⟨h2, by rw [h1, a1, if_pos rfl]⟩
  | 4, _ =>
    show M' = M ∧ v = some (.int (if 0 ≤ w.2.2.1 ∧ ¬ w.2.2.1 = d then 1 else 0))
    rcases rme4_0 hS H with ⟨a1, h1, h2⟩ | ⟨a1, a2, h1, h2⟩ | ⟨a1, a2, h1, h2⟩
    · rw [w4, i32_z] at a1
      exact ⟨h2, by rw [h1, if_neg (fun q => by have := Int32.le_iff_toInt_le.mp q.1; have z : (0 : Int32).toInt = 0 := rfl; omega)]⟩
    · rw [w4] at a2
      exact ⟨h2, by rw [h1, if_neg (fun q => q.2 a2)]⟩
    · rw [w4] at a1 a2
      exact ⟨h2, by rw [h1, if_pos ⟨Int32.le_iff_toInt_le.mpr (by rw [i32_z] at a1; have z : (0 : Int32).toInt = 0 := rfl; omega), a2⟩]⟩
  | 5, _ =>
    show M' = M ∧ v = some (.int (if c = w.2.2.2.1 then 1 else 0))
    rcases rme5_0 hS H with ⟨a1, h1, h2⟩ | ⟨a1, h1, h2⟩
    · rw [w5] at a1
      exact ⟨h2, by rw [h1, if_pos a1]⟩
    · rw [w5] at a1
      exact ⟨h2, by rw [h1, if_neg a1]⟩
  | 6, _ =>
    obtain ⟨e1, v1, M1, rfl, H1, H⟩ := rme6_0 hS H
    obtain ⟨rfl, rfl⟩ := rsee_ok hR hw hc ht7 w3 H1
    obtain ⟨h1, h2⟩ := rme6_163 hS H
    exact ⟨h2, h1⟩
theorem rwei_loop (hw : wh4 P) (hK : okK P) (hc : inC P c) (ht7 : t < 7) (hh : inC P w.1) {x y : Int32} : ∀ (r : List Lnq) (M : Mem) (j : Nat) (i vv : Int32) (c7 : Option Value), RST T P M → RWC w t M → (T t).2.drop j = r → i.toInt = ((16 * t + j : Nat) : Int) → j ≤ (T t).2.length → Ev none e 200 59 [some (.ref 633), some (.int c), some (.int d), some (.int x), some (.int y), some (.int vv), some (.int i), c7] [] M v M' 0 0 → v = some (.int (weiL (T 0) P (T t) w c d r vv)) ∧ SQ M' ∧ FZ noF tuW noO M M' := by
  intro r
  induction r with
  | nil =>
    intro M j i vv c7 hR hW hd hi hj H
    have h1 := dr_nil hd
    have hl := ln_end hR hW.2.2.1 ht7
    rcases rwe_59 hR.1 H with ⟨_, _, h2, h3⟩ | ⟨a1, _⟩ | ⟨a1, _⟩
    · subst h3
      exact ⟨h2, hR.1, FZ.refl _⟩
    all_goals exact absurd (Int32.le_iff_toInt_le.mpr (by omega)) a1
  | cons l r ih =>
    intro M j i vv c7 hR hW hd hi hj H
    obtain ⟨h1, h2, h3⟩ := ln_at hd
    have hl := ln_end hR hW.2.2.1 ht7
    have h16 := ln_16 hR ht7
    have hi1 : (i + 1).toInt = ((16 * t + (j + 1) : Nat) : Int) := by
      rw [i32_p1 (by omega)]
      omega
    obtain ⟨k1, k2, k3⟩ := ln_get hR ht7 hi h1
    have hlw := ((hR.2.2.2 t ht7).1.2 l (List.mem_of_getElem? h1)).1
    unfold weiL
    rcases rwe_59 hR.1 H with ⟨a1, _⟩ | ⟨_, a2, _, _, e1, v1, M1, rfl, H1, H⟩ | ⟨_, a2, _, _, H⟩
    · have := Int32.le_iff_toInt_le.mp a1
      omega
    · rw [k1] at a2
      obtain ⟨rfl, q2, q3⟩ := rhold_ok hR hw hc ht7 hi h1 H1
      have hR1 := hR.tu q2 q3
      have hW1 := hW.tu q3
      rcases rwe_99 q2 H with ⟨b1, H⟩ | ⟨b1, _, _, e2, v2, M2, he, H2, H⟩
      · rw [bI_0] at b1
        rw [if_neg (fun q => by rw [q.2] at b1; cases b1)]
        obtain ⟨r1, r2, r3⟩ := ih M1 (j + 1) _ _ _ hR1 hW1 h2 hi1 (by omega) H
        exact ⟨r1, r2, q3.trans r3⟩
      · rw [bI_0, Bool.not_eq_false] at b1
        rw [if_pos ⟨a2, b1⟩]
        obtain ⟨n1, n2, n3⟩ := ln_get hR1 ht7 hi h1
        rw [n2] at H2
        rw [n3] at H
        obtain ⟨m0, m1⟩ := (hlw.2.2.1 a2).2
        obtain ⟨rfl, rfl⟩ := rmea_ok hR1 hw hK hc ht7 hW1 hh m0 m1 H2
        rcases rwe_125 q2 H with ⟨d1, _, H⟩ | ⟨d1, _, H⟩
        · rw [n2] at d1
          rw [if_pos d1]
          obtain ⟨r1, r2, r3⟩ := ih _ (j + 1) _ _ _ hR1 hW1 h2 hi1 (by omega) H
          exact ⟨r1, r2, q3.trans r3⟩
        · rw [n2] at d1
          rw [if_neg d1]
          obtain ⟨r1, r2, r3⟩ := ih _ (j + 1) _ _ _ hR1 hW1 h2 hi1 (by omega) H
          exact ⟨r1, r2, q3.trans r3⟩
    · rw [k1] at a2
      rw [if_neg (fun q => a2 q.1)]
      exact ih M (j + 1) _ _ _ hR hW h2 hi1 (by omega) H
theorem rwei_ok (hR : RST T P M) (hw : wh4 P) (hK : okK P) (hc : inC P c) (ht7 : t < 7) (hW : RWC w t M) (hh : inC P w.1) (H : Ev none e 200 0 [some (.ref 633), some (.int c), some (.int d), none, none, none, none, none] [] M v M' 0 0) : v = some (.int (weiP (T 0) P (T t) w c d)) ∧ SQ M' ∧ FZ noF tuW noO M M' := by
  unfold weiP dstP
  rcases rwe_0 hR.1 H with ⟨a1, H⟩ | ⟨a1, H⟩
  · rw [g195_ok hR, g196_ok hR, hW.2.1] at a1 H
    rw [if_neg (fun q => by rw [Int32.lt_iff_toInt_lt] at q; have := Int32.le_iff_toInt_le.mp a1; omega)]
    exact rwei_loop hw hK hc ht7 hh (T t).2 M 0 _ _ _ hR hW rfl (by rw [ln_pl (i := 0) (j := 0) hW.2.2.1 ht7]; omega) (Nat.zero_le _) H
  · rw [g195_ok hR, g196_ok hR, hW.2.1] at a1 H
    rw [if_pos (by rw [Int32.lt_iff_toInt_lt]; have : ¬ (acrP P c w.2.1).toInt ≤ (aloP P c w.2.1).toInt := fun q => a1 (Int32.le_iff_toInt_le.mpr q); omega)]
    exact rwei_loop hw hK hc ht7 hh (T t).2 M 0 _ _ _ hR hW rfl (by rw [ln_pl (i := 0) (j := 0) hW.2.2.1 ht7]; omega) (Nat.zero_le _) H
theorem rcho_loop (hw : wh4 P) (hK : okK P) (ht7 : t < 7) (hh : inC P w.1) : ∀ (n k : Nat) (M : Mem) (be le d : Int32) (c4 c5 : Option Value), RST T P M → RWC w t M → d.toInt = (k : Int) → k + n = 8 → -1 ≤ be.toInt → Ev none e 202 70 [some (.ref 633), some (.int be), some (.int le), some (.int d), c4, c5] [] M v M' 0 0 → v = some (.int (bstP (T 0) P (T t) w n d be le)) ∧ SQ M' ∧ FZ noF tuW noO M M' := by
  have e8 : (8 : Int32).toInt = 8 := rfl
  have e0 : (0 : Int32).toInt = 0 := rfl
  intro n
  induction n with
  | zero =>
    intro k M be le d c4 c5 hR hW hd hk hbe H
    rcases rch_70 hR.1 H with ⟨_, h1, h2⟩ | ⟨a1, _⟩ | ⟨a1, _⟩ | ⟨a1, _⟩
    · subst h2
      exact ⟨h1, hR.1, FZ.refl _⟩
    all_goals exact absurd (Int32.le_iff_toInt_le.mpr (by omega)) a1
  | succ n ih =>
    intro k M be le d c4 c5 hR hW hd hk hbe H
    have hd1 : (d + 1).toInt = ((k + 1 : Nat) : Int) := by
      rw [i32_p1 (by omega)]
      omega
    have hbs : G_194 M (zI M 633 34) d = besP P w.1 d := by rw [hW.1, g194_ok hR]
    unfold bstP
    have skip : ∀ c4 c5 M2, badB (T 0) P (T t) (besP P w.1 d) = true → RST T P M2 → RWC w t M2 → FZ noF tuW noO M M2 → Ev none e 202 70 [some (.ref 633), some (.int be), some (.int le), some (.int (d + 1)), c4, c5] [] M2 v M' 0 0 → v = some (.int (if badB (T 0) P (T t) (besP P w.1 d) = true ∨ (0 ≤ be ∧ le ≤ weiP (T 0) P (T t) w (besP P w.1 d) d) then bstP (T 0) P (T t) w n (d + 1) be le else bstP (T 0) P (T t) w n (d + 1) d (weiP (T 0) P (T t) w (besP P w.1 d) d))) ∧ SQ M' ∧ FZ noF tuW noO M M' := fun c4 c5 M2 hbad hR2 hW2 hF2 H => by
      rw [if_pos (Or.inl hbad)]
      obtain ⟨r1, r2, r3⟩ := ih (k + 1) M2 be le (d + 1) c4 c5 hR2 hW2 hd1 (by omega) hbe H
      exact ⟨r1, r2, hF2.trans r3⟩
    rcases rch_70 hR.1 H with ⟨a1, _⟩ | ⟨_, a2, H⟩ | ⟨_, a2, a3, H⟩ | ⟨_, a2, a3, e1, v1, M1, rfl, H1, H⟩
    · have := Int32.le_iff_toInt_le.mp a1
      omega
    · rw [hbs] at a2
      exact skip _ _ M (by unfold badB; rw [decide_eq_true a2, Bool.true_or]) hR hW (FZ.refl _) H
    · rw [hbs] at a2 a3
      have hin : inC P (besP P w.1 d) := by
        rcases besP_in (d := d) hw hh with q | q
        · rw [q] at a2
          exact absurd (by decide) a2
        · exact q
      rw [g148_ok hR hw hin, bI_0] at a3
      exact skip _ _ M (by unfold badB; rw [a3, Bool.not_false, Bool.true_or, Bool.or_true]) hR hW (FZ.refl _) H
    · rw [hbs] at a2 a3 H1 H
      have hin : inC P (besP P w.1 d) := by
        rcases besP_in (d := d) hw hh with q | q
        · rw [q] at a2
          exact absurd (by decide) a2
        · exact q
      rw [g148_ok hR hw hin, bI_0, Bool.not_eq_false] at a3
      obtain ⟨rfl, q2, q3⟩ := rmay_ok hR hw hin ht7 hW.2.2.1 H1
      have hR1 := hR.tu q2 q3
      have hW1 := hW.tu q3
      rcases rch_107 q2 H with ⟨b1, e2, v2, M2, he, H2, H⟩ | ⟨b1, H⟩
      · rw [bI_0] at b1
        have hbad : badB (T 0) P (T t) (besP P w.1 d) = false := by
          unfold badB
          rw [decide_eq_false a2, a3, b1]
          rfl
        obtain ⟨rfl, p2, p3⟩ := rwei_ok hR1 hw hK hin ht7 hW1 hh H2
        have hR2 := hR1.tu p2 p3
        have hW2 := hW1.tu p3
        have cont : ∀ (b2 l2 : Int32) (c4 c5 : Option Value), -1 ≤ b2.toInt → Ev none (e1 + 1) 202 70 [some (.ref 633), some (.int b2), some (.int l2), some (.int (d + 1)), c4, c5] [] M2 v M' 0 0 → v = some (.int (bstP (T 0) P (T t) w n (d + 1) b2 l2)) ∧ SQ M' ∧ FZ noF tuW noO M M' := fun b2 l2 c4 c5 hb2 H => by
          obtain ⟨r1, r2, r3⟩ := ih (k + 1) M2 b2 l2 (d + 1) c4 c5 hR2 hW2 hd1 (by omega) hb2 H
          exact ⟨r1, r2, (q3.trans p3).trans r3⟩
        rcases rch_120 p2 H with ⟨d1, H⟩ | ⟨d1, d2, H⟩ | ⟨d1, d2, H⟩
        · rw [if_neg (fun q => q.elim (fun q => by rw [hbad] at q; cases q) (fun q => by rw [i32_z] at d1; have := Int32.le_iff_toInt_le.mp q.1; omega))]
          exact cont d _ _ _ (by omega) H
        · rw [if_neg (fun q => q.elim (fun q => by rw [hbad] at q; cases q) (fun q => by rw [Int32.lt_iff_toInt_lt] at d2; have := Int32.le_iff_toInt_le.mp q.2; omega))]
          exact cont d _ _ _ (by omega) H
        · rw [if_pos (Or.inr ⟨Int32.le_iff_toInt_le.mpr (by rw [i32_z] at d1; omega), Int32.le_iff_toInt_le.mpr (by rw [Int32.lt_iff_toInt_lt] at d2; omega)⟩)]
          exact cont be le _ _ hbe H
      · rw [bI_0, Bool.not_eq_false] at b1
        exact skip _ _ M1 (by unfold badB; rw [b1, Bool.or_true, Bool.or_true]) hR1 hW1 q3 H
theorem rto_loop (hR : RST T P M) (hW : RWC w t M) : ∀ (n k : Nat) (d : Int32), d.toInt = (k : Int) → k + n = 8 → Ev none e 202 34 [some (.ref 633), some (.int d), none, none, none, none] [] M v M' 0 0 → (0 ≤ (toP P w.1 w.2.1 n d).toInt ∧ M' = M ∧ v = some (.int (toP P w.1 w.2.1 n d))) ∨ (toP P w.1 w.2.1 n d = -1 ∧ Ev none e 202 70 [some (.ref 633), some (.int (-1)), some (.int 0), some (.int 0), none, none] [] M v M' 0 0) := by
  have e8 : (8 : Int32).toInt = 8 := rfl
  intro n
  induction n with
  | zero =>
    intro k d hd hk H
    rcases rch_34 hR.1 H with ⟨_, H⟩ | ⟨a1, _⟩ | ⟨a1, _⟩
    · exact Or.inr ⟨rfl, H⟩
    all_goals exact absurd (Int32.le_iff_toInt_le.mpr (by omega)) a1
  | succ n ih =>
    intro k d hd hk H
    have hbs : G_194 M (zI M 633 34) d = besP P w.1 d := by rw [hW.1, g194_ok hR]
    unfold toP
    rcases rch_34 hR.1 H with ⟨a1, _⟩ | ⟨_, a2, h1, h2⟩ | ⟨_, a2, H⟩
    · have := Int32.le_iff_toInt_le.mp a1
      omega
    · rw [hbs, hW.2.1] at a2
      rw [if_pos a2]
      exact Or.inl ⟨by omega, h2, h1⟩
    · rw [hbs, hW.2.1] at a2
      rw [if_neg a2]
      exact ih (k + 1) (d + 1) (by rw [i32_p1 (by omega)]; omega) (by omega) H
theorem rcho_ok (hR : RST T P M) (hw : wh4 P) (hK : okK P) (ht7 : t < 7) (hW : RWC w t M) (hh : inC P w.1) (hg : 0 ≤ w.2.1.toInt) (H : Ev none e 202 0 [some (.ref 633), none, none, none, none, none] [] M v M' 0 0) : v = some (.int (choP (T 0) P (T t) w)) ∧ SQ M' ∧ FZ noF tuW noO M M' := by
  have z2 : (2 : Int32).toInt = 2 := rfl
  have far : (¬ acrP P w.1 w.2.1 < 2 ∨ ¬ aloP P w.1 w.2.1 < 2) → Ev none e 202 70 [some (.ref 633), some (.int (-1)), some (.int 0), some (.int 0), none, none] [] M v M' 0 0 → v = some (.int (choP (T 0) P (T t) w)) ∧ SQ M' ∧ FZ noF tuW noO M M' := fun hf H => by
    have hno : ∀ d, besP P w.1 d ≠ w.2.1 := fun d q => by
      obtain ⟨n1, n2⟩ := near_ok hw hh hg q
      rcases hf with h | h
      · exact h n1
      · exact h n2
    unfold choP
    rw [if_pos (by rw [toP_no hno]; decide)]
    exact rcho_loop hw hK ht7 hh 8 0 M (-1) 0 0 none none hR hW rfl rfl (by decide) H
  rcases rch_0 hR.1 H with ⟨a1, H⟩ | ⟨_, a1, H⟩ | ⟨_, _, H⟩
  · rw [g195_ok hR, hW.1, hW.2.1] at a1
    exact far (Or.inl (fun q => by rw [Int32.lt_iff_toInt_lt] at q; have := Int32.le_iff_toInt_le.mp a1; omega)) H
  · rw [g196_ok hR, hW.1, hW.2.1] at a1
    exact far (Or.inr (fun q => by rw [Int32.lt_iff_toInt_lt] at q; have := Int32.le_iff_toInt_le.mp a1; omega)) H
  · unfold choP
    rcases rto_loop hR hW 8 0 0 rfl rfl H with ⟨q1, q2, q3⟩ | ⟨q1, H⟩
    · subst q2
      rw [if_neg (fun q => by rw [i32_z] at q; omega)]
      exact ⟨q3, hR.1, FZ.refl _⟩
    · rw [if_pos (by rw [q1]; decide)]
      exact rcho_loop hw hK ht7 hh 8 0 M (-1) 0 0 none none hR hW rfl rfl (by decide) H
end RCH
/-! THE REFERENCE'S tread, goes, leave -/
def rkF (a k : Nat) : Prop := a = 633 ∧ ((34 ≤ k ∧ k ≤ 39) ∨ k = 41 ∨ k = 42)
def rkW (a : Nat) : Prop := a = 635 ∨ a = 649
def WFr (w : Int32) (f0 : Bool) (ss : List Int32) (M : Mem) : Prop := zI M 633 40 = w ∧ zI M 633 42 = bI (f0 || decide (w ∈ ss))
/-- how many ARRIVED, beside how many in these calls -/
def ARn (d : Int32) (P : PK) (M : Mem) : Prop := zI M 633 41 = P 519 + d
section RTK
variable {e t : Nat} {T : TS} {P P' Q : PK} {M M1 M' : Mem} {v : Option Value} {c d : Int32} {w dd : Int32} {f0 : Bool} {ss : List Int32} {k B n : Nat}
theorem len635 (hS : SH M) : (zrw M 635).length = 2314 := (hS.row qa_635 qw_63).2
theorem RST.up (h : RST T P M) {i : Nat} (hi : i < 2314) {x : Int32} : RST T (uPk P i x) (wI M 635 i x) := by
  have hF : FZ noF (fun a => a = 635) noO M (wI M 635 i x) := FZ.wI (W := fun a => a = 635) rfl
  obtain ⟨h1, h2, ⟨h3, h4, h5⟩, h6⟩ := h
  refine ⟨h1.ki, fun j hj => ?_, ⟨by rw [fI_wI]; exact h3, by rw [fI_wI]; exact h4, by rw [fI_wI]; exact h5⟩, fun t ht => ?_⟩
  · by_cases hji : j = i
    · subst hji
      rw [rN_wI_eq (by rw [len635 h1.1]; exact hi)]
      exact up_eq.symm
    · rw [rN_wI_ne (fun q => hji q.2), up_ne hji]
      exact h2 j hj
  · obtain ⟨⟨q1, q2⟩, q3⟩ := h6 t ht
    exact ⟨⟨q1.fz hF (fun a _ _ q => by omega), q2⟩, q3⟩
theorem RST.fld (h : RST T P M) {k : Nat} {x : Int32} (hk : 31 ≤ k) : RST T P (wF M 633 k x) := by
  have hF : FZ (fun a j => a = 633 ∧ j = k) noO noO M (wF M 633 k x) := FZ.wF (F := fun a j => a = 633 ∧ j = k) ⟨rfl, rfl⟩
  exact h.fz h.1.kf hF (fun j h1 h2 q => by omega) (fun a _ q => q)
theorem RST.eq (h : RST T P M) (he : ∀ i, i < 2314 → Q i = P i) : RST T Q M := ⟨h.1, fun i hi => (h.2.1 i hi).trans (he i hi).symm, h.2.2.1, h.2.2.2⟩
theorem cX_lt (hw : wh4 P) (hc : inC P c) {f : Nat} (hf : f < 7) : cX f c < 2314 := by
  obtain ⟨_, c256, _⟩ := cls_int hw
  have := hc.2
  unfold cX
  omega
theorem x147_ok (h : RST T P M) (hw : wh4 P) (hc : inC P c) {f : Int32} {fn : Nat} (hf : f.toInt = (fn : Int)) (hf6 : fn < 7) {x : Int32} : X_147 M c f x = wI M 635 (cX fn c) x := by
  obtain ⟨c0, _, c2⟩ := hc.lt hw
  unfold X_147
  congr 1
  refine cl_n ?_
  rw [i32_cell (c := c) (k := f) c0 c2 (by omega) (by omega)]
  unfold cX
  have := Int.toNat_of_nonneg c0
  omega
theorem tu_rk (h : FZ noF tuW noO M M') : FZ rkF rkW noO M M' := h.more (fun _ _ q => q.elim) (fun a q => Or.inr q) (fun _ q => q)
theorem rk_wI {i : Nat} {x : Int32} : FZ rkF rkW noO M (wI M 635 i x) := FZ.wI (Or.inl rfl)
theorem rtrd_ok (hR : RST T P M) (hw : wh4 P) (hc : inC P c) (hf : WFr w f0 ss M) (H : Ev none e 203 0 [some (.ref 633), some (.int c), none] [] M v M' 0 0) : v = none ∧ RST T (trdP (T 0) P c) M' ∧ FZ rkF rkW noO M M' ∧ WFr w f0 (c :: ss) M' ∧ ∀ k, k ≠ 42 → zI M' 633 k = zI M 633 k := by
  have st : ∃ M1, RST T (weaP (T 0) P c) M1 ∧ FZ rkF rkW noO M M1 ∧ (∀ k, zI M1 633 k = zI M 633 k) ∧ ∃ c2, Ev none e 203 43 [some (.ref 633), some (.int c), c2] [] M1 v M' 0 0 := by
    rcases rtr_0 hR.1 H with ⟨a1, H⟩ | ⟨a1, e1, v1, M1, rfl, H1, H⟩
    · rw [g149_ok hR hw hc, bI_0] at a1
      refine ⟨M, ?_, FZ.refl _, fun _ => rfl, _, H⟩
      unfold weaP
      rw [if_neg (by rw [a1]; decide)]
      exact hR
    · rw [g149_ok hR hw hc, bI_0, Bool.not_eq_false] at a1
      rw [r_cell hR hw hc (fn := 3) rfl (by decide)] at H
      obtain ⟨rfl, q2, q3⟩ := rfst_ok hR hw hc H1
      have hR1 := hR.tu q2 q3
      have hP : weaP (T 0) P c = uPk P (cX 3 c) (if 999 < cE P 3 c + fstL (T 0) P 0 c 5 (T 0).2 then 999 else cE P 3 c + fstL (T 0) P 0 c 5 (T 0).2) := by
        unfold weaP
        rw [if_pos a1]
      rw [hP]
      rcases rtr_21 q2 H with ⟨b1, H⟩ | ⟨b1, H⟩
      · rw [x147_ok hR1 hw hc (fn := 3) rfl (by decide)] at H
        rw [if_neg (fun q => by rw [Int32.lt_iff_toInt_lt] at q; have := Int32.le_iff_toInt_le.mp b1; omega)]
        exact ⟨_, hR1.up (cX_lt hw hc (by decide)), (tu_rk q3).trans rk_wI, fun k => by rw [fI_wI]; exact q3.fi (fun q => q), _, H⟩
      · rw [x147_ok hR1 hw hc (fn := 3) rfl (by decide)] at H
        rw [if_pos (by rw [Int32.lt_iff_toInt_lt]; have : ¬ (cE P 3 c + fstL (T 0) P 0 c 5 (T 0).2).toInt ≤ (999 : Int32).toInt := fun q => b1 (Int32.le_iff_toInt_le.mpr q); omega)]
        exact ⟨_, hR1.up (cX_lt hw hc (by decide)), (tu_rk q3).trans rk_wI, fun k => by rw [fI_wI]; exact q3.fi (fun q => q), _, H⟩
  obtain ⟨M1, s1, s2, s3, c2, H⟩ := st
  have w0 : weaP (T 0) P c 0 = P 0 := by
    unfold weaP
    split
    · exact up_ne (by have := cX_ge (f := 3) (c := c); omega)
    · rfl
  have w1 : weaP (T 0) P c 1 = P 1 := by
    unfold weaP
    split
    · exact up_ne (by have := cX_ge (f := 3) (c := c); omega)
    · rfl
  have hwW : wh4 (weaP (T 0) P c) := hw.eq w0 w1
  have hcW : inC (weaP (T 0) P c) c := (inC.eq w0 w1).mpr hc
  have s5 := s1.up (cX_lt hwW hcW (f := 5) (by decide)) (x := cE (weaP (T 0) P c) 5 c + 1)
  have x0 : uPk (weaP (T 0) P c) (cX 5 c) (cE (weaP (T 0) P c) 5 c + 1) 0 = weaP (T 0) P c 0 := up_ne (by have := cX_ge (f := 5) (c := c); omega)
  have x1 : uPk (weaP (T 0) P c) (cX 5 c) (cE (weaP (T 0) P c) 5 c + 1) 1 = weaP (T 0) P c 1 := up_ne (by have := cX_ge (f := 5) (c := c); omega)
  have hw5 := hwW.eq x0 x1
  have hc5 := (inC.eq x0 x1).mpr hcW
  have s6 := s5.up (cX_lt hw5 hc5 (f := 6) (by decide)) (x := cE (uPk (weaP (T 0) P c) (cX 5 c) (cE (weaP (T 0) P c) 5 c + 1)) 6 c + 1)
  have e1 : X_147 M1 c 5 (G_146 M1 c 5 + 1) = wI M1 635 (cX 5 c) (cE (weaP (T 0) P c) 5 c + 1) := by
    rw [r_cell s1 hwW hcW (fn := 5) rfl (by decide), x147_ok s1 hwW hcW (fn := 5) rfl (by decide)]
  have e2 : X_147 (X_147 M1 c 5 (G_146 M1 c 5 + 1)) c 6 (G_146 (X_147 M1 c 5 (G_146 M1 c 5 + 1)) c 6 + 1) = wI (wI M1 635 (cX 5 c) (cE (weaP (T 0) P c) 5 c + 1)) 635 (cX 6 c) (cE (uPk (weaP (T 0) P c) (cX 5 c) (cE (weaP (T 0) P c) 5 c + 1)) 6 c + 1) := by
    rw [e1, r_cell s5 hw5 hc5 (fn := 6) rfl (by decide), x147_ok s5 hw5 hc5 (fn := 6) rfl (by decide)]
  obtain ⟨N, eN⟩ : ∃ N, N = wI (wI M1 635 (cX 5 c) (cE (weaP (T 0) P c) 5 c + 1)) 635 (cX 6 c) (cE (uPk (weaP (T 0) P c) (cX 5 c) (cE (weaP (T 0) P c) 5 c + 1)) 6 c + 1) := ⟨_, rfl⟩
  have hN : RST T (trdP (T 0) P c) N := by rw [eN]; exact s6
  have zN : ∀ k, zI N 633 k = zI M 633 k := fun k => by rw [eN, fI_wI, fI_wI]; exact s3 k
  have hFN : FZ rkF rkW noO M N := by rw [eN]; exact (s2.trans rk_wI).trans rk_wI
  have fin : ∀ b, v = none → M' = wF N 633 42 (bI b) → b = (f0 || decide (w ∈ c :: ss)) → v = none ∧ RST T (trdP (T 0) P c) M' ∧ FZ rkF rkW noO M M' ∧ WFr w f0 (c :: ss) M' ∧ ∀ k, k ≠ 42 → zI M' 633 k = zI M 633 k := fun b hv hM hb => by
    rw [hM]
    refine ⟨hv, hN.fld (by decide), hFN.trans (FZ.wF ⟨rfl, by omega⟩), ⟨?_, ?_⟩, fun k hk => ?_⟩
    · rw [fI_wF_ne (fun q => absurd q.2 (by decide)), zN]
      exact hf.1
    · rw [fI_wF_eq hN.1.1 qa_633 qi_61_42, hb]
    · rw [fI_wF_ne (fun q => hk q.2), zN]
  rcases rtr_43 s1.1 H with ⟨a1, a2, h1, h2⟩ | ⟨a1, a2, h1, h2⟩ | ⟨a1, h1, h2⟩
  · rw [e2, ← eN] at a1 a2 h2
    rw [zN, hf.1] at a2
    exact fin true h1 h2 (by rw [decide_eq_true (by rw [a2]; exact List.mem_cons_self), Bool.or_true])
  · rw [e2, ← eN] at a1 a2 h2
    rw [zN, hf.1] at a2
    rw [zN, hf.2, bI_0] at a1
    obtain ⟨b1, b2⟩ := Bool.or_eq_false_iff.mp a1
    refine fin false h1 h2 ?_
    rw [b1, Bool.false_or]
    refine (decide_eq_false (fun q => ?_)).symm
    rcases List.mem_cons.mp q with q | q
    · exact a2 q.symm
    · exact absurd q (of_decide_eq_false b2)
  · rw [e2, ← eN] at a1 h2
    rw [zN, hf.2, bI_0, Bool.not_eq_false] at a1
    refine fin true h1 h2 ?_
    rcases Bool.or_eq_true_iff.mp a1 with q | q
    · rw [q, Bool.true_or]
    · rw [decide_eq_true (List.mem_cons_of_mem _ (of_decide_eq_true q)), Bool.or_true]
/-- one goes for good -/
theorem rlea_2 (hB : (P' 157).toInt = (n : Int)) (hn : n ≤ 59) : ∀ (r i : Nat) (iz : Int32) (Q : PK) (M : Mem), RST T Q M → Q 157 = P' 157 → iz.toInt = (i : Int) → i + r = 158 + 6 * n + 6 → 158 + 6 * n ≤ i → Ev none e 205 77 [some (.ref 633), some (.int d), some (.int iz)] [] M v M' 0 0 → v = none ∧ (∃ Q2, RST T Q2 M' ∧ ∀ j, Q2 j = if i ≤ j ∧ j < 158 + 6 * n + 6 then 0 else Q j) ∧ FZ rkF rkW noO M M' ∧ ∀ k, zI M' 633 k = zI M 633 k := by
  intro r
  induction r with
  | zero =>
    intro i iz Q M hR hq hi hir hl H
    have h157 : rI M 635 157 = Q 157 := r_s hR (n := 157) rfl (by decide)
    have hlim : ((158 + (6 * (rI M 635 157))) + 6).toInt = 158 + 6 * (n : Int) + 6 := by
      rw [h157, hq]
      have := (i32_e (P' 157) (by omega) (by omega)).2
      omega
    rcases rle_77 hR.1 H with ⟨_, _, h1, h2⟩ | ⟨a1, _⟩
    · subst h2
      exact ⟨h1, ⟨Q, hR, fun j => by rw [if_neg (by omega)]⟩, FZ.refl _, fun _ => rfl⟩
    · exact absurd (Int32.le_iff_toInt_le.mpr (by omega)) a1
  | succ r ih =>
    intro i iz Q M hR hq hi hir hl H
    have h157 : rI M 635 157 = Q 157 := r_s hR (n := 157) rfl (by decide)
    have hlim : ((158 + (6 * (rI M 635 157))) + 6).toInt = 158 + 6 * (n : Int) + 6 := by
      rw [h157, hq]
      have := (i32_e (P' 157) (by omega) (by omega)).2
      omega
    rcases rle_77 hR.1 H with ⟨a1, _⟩ | ⟨_, _, _, H⟩
    · have := Int32.le_iff_toInt_le.mp a1
      omega
    · rw [cl_n hi] at H
      obtain ⟨r1, ⟨Q2, r2, r3⟩, r4, r5⟩ := ih (i + 1) (iz + 1) (uPk Q i 0) _ (hR.up (by omega)) ((up_ne (by omega)).trans hq) (by rw [i32_p1 (by omega)]; omega) (by omega) (by omega) H
      refine ⟨r1, ⟨Q2, r2, fun j => ?_⟩, rk_wI.trans r4, fun k => (r5 k).trans fI_wI⟩
      rw [r3 j]
      by_cases hj : j = i
      · rw [hj, if_neg (by omega), if_pos (by omega), up_eq]
      · rw [up_ne hj]
        by_cases hj2 : i + 1 ≤ j ∧ j < 158 + 6 * n + 6
        · rw [if_pos hj2, if_pos (by omega)]
        · rw [if_neg hj2, if_neg (by omega)]
theorem rlea_1 (hB : (P' 157).toInt = (n : Int)) (hn : n ≤ 59) (hk : k ≤ n) : ∀ (r i : Nat) (iz : Int32) (Q : PK) (M : Mem), RST T Q M → Q 157 = P' 157 → iz.toInt = (i : Int) → i + r = 158 + 6 * n → 158 + 6 * k ≤ i → Ev none e 205 21 [some (.ref 633), some (.int d), some (.int iz)] [] M v M' 0 0 → ∃ M1 Q1, RST T Q1 M1 ∧ (∀ j, Q1 j = if i ≤ j ∧ j < 158 + 6 * n then Q (j + 6) else Q j) ∧ FZ rkF rkW noO M M1 ∧ (∀ k, zI M1 633 k = zI M 633 k) ∧ ∃ jz, jz.toInt = ((158 + 6 * n : Nat) : Int) ∧ Ev none e 205 77 [some (.ref 633), some (.int d), some (.int jz)] [] M1 v M' 0 0 := by
  intro r
  induction r with
  | zero =>
    intro i iz Q M hR hq hi hir hl H
    have h157 : rI M 635 157 = Q 157 := r_s hR (n := 157) rfl (by decide)
    have hlim : (158 + (6 * (rI M 635 157))).toInt = 158 + 6 * (n : Int) := by
      rw [h157, hq]
      have := (i32_e (P' 157) (by omega) (by omega)).1
      omega
    rcases rle_21 hR.1 H with ⟨_, _, _, H⟩ | ⟨a1, _⟩
    · exact ⟨M, Q, hR, fun j => by rw [if_neg (by omega)], FZ.refl _, fun _ => rfl, _, by omega, H⟩
    · exact absurd (Int32.le_iff_toInt_le.mpr (by omega)) a1
  | succ r ih =>
    intro i iz Q M hR hq hi hir hl H
    have h157 : rI M 635 157 = Q 157 := r_s hR (n := 157) rfl (by decide)
    have hlim : (158 + (6 * (rI M 635 157))).toInt = 158 + 6 * (n : Int) := by
      rw [h157, hq]
      have := (i32_e (P' 157) (by omega) (by omega)).1
      omega
    rcases rle_21 hR.1 H with ⟨a1, _⟩ | ⟨_, _, _, _, H⟩
    · have := Int32.le_iff_toInt_le.mp a1
      omega
    · have h6 : (iz + 6).toInt = ((i + 6 : Nat) : Int) := by
        have e6 : (6 : Int32).toInt = 6 := rfl
        rw [i32_add (by omega) (by omega)]
        omega
      rw [cl_n hi, r_s hR h6 (by omega)] at H
      obtain ⟨M1, Q1, r1, r2, r3, r4, r5⟩ := ih (i + 1) (iz + 1) (uPk Q i (Q (i + 6))) _ (hR.up (by omega)) ((up_ne (by omega)).trans hq) (by rw [i32_p1 (by omega)]; omega) (by omega) (by omega) H
      refine ⟨M1, Q1, r1, fun j => ?_, rk_wI.trans r3, fun k => (r4 k).trans fI_wI, r5⟩
      rw [r2 j]
      by_cases hj : j = i
      · rw [hj, if_neg (by omega), if_pos (by omega), up_eq]
      · by_cases hj2 : i + 1 ≤ j ∧ j < 158 + 6 * n
        · rw [if_pos hj2, if_pos (by omega), up_ne (by omega)]
        · rw [if_neg hj2, if_neg (by omega), up_ne hj]
theorem rlea_ok (hR : RST T P M) (hK0 : 1 ≤ (P 157).toInt) (hK2 : (P 157).toInt ≤ 60) {kz : Int32} (hk : kz.toInt = (k : Int)) (hkn : (k : Int) < (P 157).toInt) (H : Ev none e 205 0 [some (.ref 633), some (.int kz), none] [] M v M' 0 0) : v = none ∧ RST T (leaP P k) M' ∧ FZ rkF rkW noO M M' ∧ ∀ k, zI M' 633 k = zI M 633 k := by
  have h157 : rI M 635 157 = P 157 := r_s hR (n := 157) rfl (by decide)
  obtain ⟨_, _, H⟩ := rle_0 hR.1 H
  have e157 : (157 : Int32).toNatClampNeg = 157 := rfl
  rw [h157, e157] at H
  have hR1 := hR.up (i := 157) (by decide) (x := P 157 - 1)
  obtain ⟨P1, eP1⟩ : ∃ P1, P1 = uPk P 157 (P 157 - 1) := ⟨_, rfl⟩
  rw [← eP1] at hR1
  have p157 : P1 157 = P 157 - 1 := by rw [eP1]; exact up_eq
  have m1 : (P 157 - 1).toInt = (P 157).toInt - 1 := i32_m1 (by omega)
  obtain ⟨n, hn⟩ : ∃ n, n = (P 157 - 1).toInt.toNat := ⟨_, rfl⟩
  have hB : (P1 157).toInt = (n : Int) := by rw [p157, m1]; omega
  have hpl : (158 + (6 * kz)).toInt = ((158 + 6 * k : Nat) : Int) := by
    have := (i32_e kz (by omega) (by omega)).1
    omega
  obtain ⟨M1, Q1, r1, r2, r3, r4, jz, r5, H⟩ := rlea_1 (k := k) hB (by omega) (by omega) (158 + 6 * n - (158 + 6 * k)) (158 + 6 * k) _ P1 _ hR1 rfl hpl (by omega) (Nat.le_refl _) H
  have q157 : Q1 157 = P1 157 := by rw [r2, if_neg (by omega)]
  obtain ⟨s1, ⟨Q2, s2, s3⟩, s4, s5⟩ := rlea_2 (P' := P1) hB (by omega) 6 (158 + 6 * n) jz Q1 M1 r1 q157 r5 rfl (Nat.le_refl _) H
  refine ⟨s1, s2.eq (fun j hj => ?_), (rk_wI.trans r3).trans s4, fun k => (s5 k).trans ((r4 k).trans fI_wI)⟩
  unfold leaP
  rw [s3 j, r2 j, ← hn]
  by_cases h0 : j = 157
  · rw [if_pos h0, if_neg (by omega), if_neg (by omega), h0, p157]
  · rw [if_neg h0]
    by_cases h1 : 158 + 6 * k ≤ j ∧ j < 158 + 6 * n
    · rw [if_pos h1, if_neg (by omega), if_pos h1, eP1, up_ne (by omega)]
    · rw [if_neg h1]
      by_cases h2 : 158 + 6 * n ≤ j ∧ j < 158 + 6 * n + 6
      · rw [if_pos h2, if_pos h2]
      · rw [if_neg h2, if_neg h2, if_neg h1, eP1, up_ne h0]
end RTK
/-! THE REFERENCE'S goes, tick, endWeek -/
section RGO
variable {e t : Nat} {T : TS} {g : TQ} {P P' Q : PK} {M M1 M' : Mem} {v : Option Value} {c d : Int32} {w dd : Int32} {f0 : Bool} {ss : List Int32} {k B n : Nat}
theorem okK.cur (h : okK P) (h0 : P' 0 = P 0) (h1 : P' 1 = P 1) (h12 : P' 12 = P 12) (h157 : P' 157 = P 157) (ho : ∀ t, t < (P 157).toInt.toNat → t ≠ k → P' (158 + 6 * t) = P (158 + 6 * t) ∧ P' (158 + 6 * t + 1) = P (158 + 6 * t + 1) ∧ P' (158 + 6 * t + 3) = P (158 + 6 * t + 3)) (hk : k < (P 157).toInt.toNat → inC P (P' (158 + 6 * k)) ∧ P' (158 + 6 * k + 1) = P (158 + 6 * k + 1) ∧ -1 ≤ (P' (158 + 6 * k + 3)).toInt) : okK P' := by
  refine ⟨by rw [h157]; exact h.1, by rw [h157]; exact h.2.1, fun t ht => ?_⟩
  rw [h157] at ht
  obtain ⟨b1, b2, b3, b4⟩ := h.2.2 t ht
  rw [inC.eq h0 h1, h12]
  by_cases htk : t = k
  · subst htk
    obtain ⟨q1, q2, q3⟩ := hk ht
    rw [q2]
    exact ⟨q1, b2, b3, q3⟩
  · obtain ⟨q1, q2, q3⟩ := ho t ht htk
    rw [q1, q2, q3]
    exact ⟨b1, b2, b3, b4⟩
theorem okK.far (h : okK P) (hs : ∀ j, j < 518 → P' j = P j) : okK P' := by
  have h60 := h.2.1
  refine ⟨by rw [hs 157 (by decide)]; exact h.1, by rw [hs 157 (by decide)]; exact h.2.1, fun t ht => ?_⟩
  rw [hs 157 (by decide)] at ht
  obtain ⟨b1, b2, b3, b4⟩ := h.2.2 t ht
  rw [inC.eq (hs 0 (by decide)) (hs 1 (by decide)), hs _ (by omega), hs _ (by omega), hs 12 (by decide), hs _ (by omega)]
  exact ⟨b1, b2, b3, b4⟩
theorem okK.age (h : okK P) : okK (ageP P k) := by
  have ne : ∀ j, j ≠ 158 + 6 * k + 2 → ageP P k j = P j := fun j hj => up_ne hj
  refine h.cur (k := k) (ne _ (by omega)) (ne _ (by omega)) (ne _ (by omega)) (ne _ (by omega)) (fun t ht htk => ⟨ne _ (by omega), ne _ (by omega), ne _ (by omega)⟩) (fun hk => ?_)
  rw [ne _ (by omega), ne _ (by omega), ne _ (by omega)]
  obtain ⟨b1, b2, b3, b4⟩ := h.2.2 k hk
  exact ⟨b1, rfl, b4⟩
theorem mov_o : ∀ j, j ≠ 158 + 6 * k → j ≠ 158 + 6 * k + 3 → j ≠ 158 + 6 * k + 4 → movP P k d j = P j := fun j j0 j3 j4 => by
  unfold movP
  rw [up_ne j0, up_ne j4, up_ne j3]
theorem okK.mov (h : okK P) (hd : -1 ≤ d.toInt) (hto : inC P (besP P (P (158 + 6 * k)) d)) : okK (movP P k d) := by
  refine h.cur (k := k) (mov_o _ (by omega) (by omega) (by omega)) (mov_o _ (by omega) (by omega) (by omega)) (mov_o _ (by omega) (by omega) (by omega)) (mov_o _ (by omega) (by omega) (by omega)) (fun t ht htk => ⟨mov_o _ (by omega) (by omega) (by omega), mov_o _ (by omega) (by omega) (by omega), mov_o _ (by omega) (by omega) (by omega)⟩) (fun hk => ⟨?_, mov_o _ (by omega) (by omega) (by omega), ?_⟩)
  · have : movP P k d (158 + 6 * k) = besP P (P (158 + 6 * k)) d := by unfold movP; exact up_eq
    rw [this]
    exact hto
  · have : movP P k d (158 + 6 * k + 3) = d := by
      unfold movP
      rw [up_ne (by omega), up_ne (by omega), up_eq]
    rw [this]
    exact hd
theorem okK.lea (h : okK P) (hk : k < (P 157).toInt.toNat) : okK (leaP P k) := by
  have h60 := h.2.1
  have h0 := h.1
  have m1 : (P 157 - 1).toInt = (P 157).toInt - 1 := i32_m1 (by omega)
  have l157 : leaP P k 157 = P 157 - 1 := by unfold leaP; rw [if_pos rfl]
  have lo : ∀ j, j < 157 → leaP P k j = P j := fun j hj => by
    unfold leaP
    rw [if_neg (by omega), if_neg (by omega), if_neg (by omega)]
  have lw : ∀ t f, t < k → f < 6 → leaP P k (158 + 6 * t + f) = P (158 + 6 * t + f) := fun t f ht hf => by
    unfold leaP
    rw [if_neg (by omega), if_neg (by omega), if_neg (by omega)]
  have hw2 : ∀ t f, k ≤ t → t < (P 157 - 1).toInt.toNat → f < 6 → leaP P k (158 + 6 * t + f) = P (158 + 6 * (t + 1) + f) := fun t f ht h2 hf => by
    unfold leaP
    rw [if_neg (by omega), if_pos ⟨by omega, by omega⟩]
    congr 1
    omega
  refine ⟨by rw [l157, m1]; omega, by rw [l157, m1]; omega, fun t ht => ?_⟩
  rw [l157] at ht
  rw [inC.eq (lo 0 (by decide)) (lo 1 (by decide)), lo 12 (by decide)]
  by_cases hts : t < k
  · have f0 := lw t 0 hts (by decide)
    have f1 := lw t 1 hts (by decide)
    have f3 := lw t 3 hts (by decide)
    rw [Nat.add_zero] at f0
    rw [f0, f1, f3]
    exact h.2.2 t (by omega)
  · have f0 := hw2 t 0 (by omega) ht (by decide)
    have f1 := hw2 t 1 (by omega) ht (by decide)
    have f3 := hw2 t 3 (by omega) ht (by decide)
    rw [Nat.add_zero, Nat.add_zero] at f0
    rw [f0, f1, f3]
    exact h.2.2 (t + 1) (by omega)
/-- what stays of P in a walker's step -/
theorem stp_lo (hK : okK P) (hk : k < (P 157).toInt.toNat) : ∀ j, (j < 158 ∨ (518 ≤ j ∧ j < 522)) → (stpP T (P, ss) k).1 j = P j := fun j hj => by
  have h60 := hK.2.1
  unfold stpP
  split
  · exact up_ne (by omega)
  · show trdP (T 0) (movP (ageP P k) k (dirP T P k)) _ j = _
    rw [trd_lo (by omega), mov_o _ (by omega) (by omega) (by omega)]
    exact up_ne (by omega)
theorem stp_K (hD : okD P) (hK : okK P) (hk : k < (P 157).toInt.toNat) : okK (stpP T (P, ss) k).1 := by
  unfold stpP
  rcases dir_rng (T := T) hD hK hk with hd | ⟨d0, d1, dto⟩
  · rw [if_pos (by show dirP T P k < 0; rw [hd]; decide)]
    exact hK.age
  · rw [if_neg (show ¬ dirP T P k < 0 from fun q => by rw [i32_z] at q; omega)]
    have e0 : ageP P k (158 + 6 * k) = P (158 + 6 * k) := up_ne (by omega)
    have eb : besP (ageP P k) (P (158 + 6 * k)) (dirP T P k) = besP P (P (158 + 6 * k)) (dirP T P k) := bes_eq (up_ne (by omega)) (up_ne (by omega))
    have hm : okK (movP (ageP P k) k (dirP T P k)) := hK.age.mov (by omega) (by rw [e0, eb]; exact (inC.eq (up_ne (by omega)) (up_ne (by omega))).mpr dto)
    exact hm.far (fun j hj => trd_lo (by omega))
theorem goe_lo (hK : okK P) (hk : k < (P 157).toInt.toNat) : ∀ j, (j < 158 ∨ j = 518 ∨ j = 521) → (goeP T (P, ss) k).1.1 j = P j := fun j hj => by
  have h1 := stp_lo (T := T) (ss := ss) hK hk j (by omega)
  unfold goeP
  split
  · exact (up_ne (by omega)).trans h1
  · split
    · dsimp only
      exact h1
    · exact (up_ne (by omega)).trans h1
theorem goe_K (hD : okD P) (hK : okK P) (hk : k < (P 157).toInt.toNat) : okK (goeP T (P, ss) k).1.1 := by
  have h1 := stp_K (T := T) (ss := ss) hD hK hk
  unfold goeP
  split
  · exact h1.far (fun j hj => up_ne (by omega))
  · split
    · dsimp only
      exact h1
    · exact h1.far (fun j hj => up_ne (by omega))
theorem rgoe_ok (hR : RST T P M) (hD : okD P) (hK : okK P) (hk : k < (P 157).toInt.toNat) (hf : WFr w f0 ss M) (ha : ARn dd P M) {ww : Int32} (hww : ww.toInt = ((158 + 6 * k : Nat) : Int)) (H : Ev none e 206 0 [some (.ref 633), some (.int ww), none, none] [] M v M' 0 0) : v = some (.int (bI (goeP T (P, ss) k).2)) ∧ RST T (goeP T (P, ss) k).1.1 M' ∧ FZ rkF rkW noO M M' ∧ WFr w f0 (goeP T (P, ss) k).1.2 M' ∧ ARn dd (goeP T (P, ss) k).1.1 M' := by
  have hw := hD.1
  have h60 := hK.2.1
  obtain ⟨w1, w2, w3, w4, w5, w6⟩ := wis_ok hD hK hk
  have hkk := hK.2.2 k hk
  have h24 := hD.2.2.2.1
  have h9 := hD.2.1.2.1
  have z : ∀ (i : Int32) (n : Nat), i.toInt = (n : Int) → ∀ f : Int32, 0 ≤ f.toInt → f.toInt ≤ 6 → n < 1000 → (i + f).toInt = (n : Int) + f.toInt := fun i n hi f h0 h6 hn => by
    rw [i32_add (by omega) (by omega), hi]
  have t1 : (1 : Int32).toInt = 1 := rfl
  have t2 : (2 : Int32).toInt = 2 := rfl
  have t3 : (3 : Int32).toInt = 3 := rfl
  have t4 : (4 : Int32).toInt = 4 := rfl
  have t6 : (6 : Int32).toInt = 6 := rfl
  have t13 : (13 : Int32).toInt = 13 := rfl
  have i1 : (ww + 1).toInt = ((158 + 6 * k + 1 : Nat) : Int) := by rw [z ww _ hww 1 (by decide) (by decide) (by omega)]; omega
  have i2 : (ww + 2).toInt = ((158 + 6 * k + 2 : Nat) : Int) := by rw [z ww _ hww 2 (by decide) (by decide) (by omega)]; omega
  have i3 : (ww + 3).toInt = ((158 + 6 * k + 3 : Nat) : Int) := by rw [z ww _ hww 3 (by decide) (by decide) (by omega)]; omega
  have i4 : (ww + 4).toInt = ((158 + 6 * k + 4 : Nat) : Int) := by rw [z ww _ hww 4 (by decide) (by decide) (by omega)]; omega
  have s0 : rI M 635 ww = P (158 + 6 * k) := r_s hR hww (by omega)
  have s1 : rI M 635 (ww + 1) = P (158 + 6 * k + 1) := r_s hR i1 (by omega)
  have s3 : rI M 635 (ww + 3) = P (158 + 6 * k + 3) := r_s hR i3 (by omega)
  have s4 : rI M 635 (ww + 4) = P (158 + 6 * k + 4) := r_s hR i4 (by omega)
  have ewx : wxP P k = 13 + 6 * (P (158 + 6 * k + 1)).toInt.toNat := rfl
  have hwz := hkk.2.1
  have x0 : (13 + (6 * P (158 + 6 * k + 1))).toInt = ((wxP P k : Nat) : Int) := by
    have e : (6 : Int32).toInt * (P (158 + 6 * k + 1)).toInt = 6 * (P (158 + 6 * k + 1)).toInt := by rw [t6]
    have e2 : (6 * P (158 + 6 * k + 1)).toInt = 6 * (P (158 + 6 * k + 1)).toInt := by rw [i32_mul (by omega) (by omega), e]
    rw [i32_add (by omega) (by omega), e2, t13]
    omega
  have x1 : ((13 + (6 * P (158 + 6 * k + 1))) + 1).toInt = ((wxP P k + 1 : Nat) : Int) := by rw [z _ _ x0 1 (by decide) (by decide) (by omega)]; omega
  have x2 : ((13 + (6 * P (158 + 6 * k + 1))) + 2).toInt = ((wxP P k + 2 : Nat) : Int) := by rw [z _ _ x0 2 (by decide) (by decide) (by omega)]; omega
  have sx1 : rI M 635 ((13 + (6 * P (158 + 6 * k + 1))) + 1) = P (wxP P k + 1) := r_s hR x1 (by omega)
  have sx2 : rI M 635 ((13 + (6 * P (158 + 6 * k + 1))) + 2) = P (wxP P k + 2) := r_s hR x2 (by omega)
  have dx : (3 + P (wxP P k + 1)).toInt = ((3 + (P (wxP P k + 1)).toInt.toNat : Nat) : Int) := by
    rw [i32_add (by omega) (by omega), t3]
    omega
  have sg : rI M 635 (3 + P (wxP P k + 1)) = golP P k := r_s hR dx (by omega)
  have hx36 : (1 + P (wxP P k + 2)).toInt = ((hbP P k : Nat) : Int) := by
    unfold hbP
    rw [i32_add (by omega) (by omega), t1]
    omega
  obtain ⟨_, _, _, _, _, _, _, e1, v1, M1, rfl, H1, H⟩ := rgo_0 hR.1 H
  rw [s0, s1, s3, s4, sx1, sx2, sg] at H1
  rw [s1] at H
  obtain ⟨N, eN⟩ : ∃ N, N = (wF (wF (wF (wF (wF (wF M 633 34 (P (158 + 6 * k))) 633 35 (golP P k)) 633 36 (1 + P (wxP P k + 2))) 633 37 (P (158 + 6 * k + 3))) 633 38 (P (158 + 6 * k + 4))) 633 39 0) := ⟨_, rfl⟩
  rw [← eN] at H1
  have hRN : RST T P N := by rw [eN]; exact (((((hR.fld (by decide)).fld (by decide)).fld (by decide)).fld (by decide)).fld (by decide)).fld (by decide)
  have zN : ∀ j, j < 34 ∨ 39 < j → zI N 633 j = zI M 633 j := fun j hj => by
    rw [eN, fI_wF_ne (by omega), fI_wF_ne (by omega), fI_wF_ne (by omega), fI_wF_ne (by omega), fI_wF_ne (by omega), fI_wF_ne (by omega)]
  have hFN : FZ rkF rkW noO M N := by
    rw [eN]
    exact (((((FZ.wF (F := rkF) (W := rkW) (O := noO) ⟨rfl, by omega⟩).trans (FZ.wF ⟨rfl, by omega⟩)).trans (FZ.wF ⟨rfl, by omega⟩)).trans (FZ.wF ⟨rfl, by omega⟩)).trans (FZ.wF ⟨rfl, by omega⟩)).trans (FZ.wF ⟨rfl, by omega⟩)
  have hS := hR.1
  have hWC : RWC (wcP P k) (hbP P k) N := by
    rw [eN]
    refine ⟨?_, ?_, ?_, ?_, ?_, ?_⟩
    · rw [fI_wF_ne (by omega), fI_wF_ne (by omega), fI_wF_ne (by omega), fI_wF_ne (by omega), fI_wF_ne (by omega), fI_wF_eq hS.1 qa_633 qi_61_34]; rfl
    · rw [fI_wF_ne (by omega), fI_wF_ne (by omega), fI_wF_ne (by omega), fI_wF_ne (by omega), fI_wF_eq hS.kf.1 qa_633 qi_61_35]; rfl
    · rw [fI_wF_ne (by omega), fI_wF_ne (by omega), fI_wF_ne (by omega), fI_wF_eq hS.kf.kf.1 qa_633 qi_61_36]; exact hx36
    · rw [fI_wF_ne (by omega), fI_wF_ne (by omega), fI_wF_eq hS.kf.kf.kf.1 qa_633 qi_61_37]; rfl
    · rw [fI_wF_ne (by omega), fI_wF_eq hS.kf.kf.kf.kf.1 qa_633 qi_61_38]; rfl
    · rw [fI_wF_eq hS.kf.kf.kf.kf.kf.1 qa_633 qi_61_39]; rfl
  have hb7 : hbP P k < 7 := by unfold hbP; omega
  obtain ⟨rfl, q2, q3⟩ := rcho_ok hRN hw hK hb7 hWC hkk.1 w2.1 H1
  have hR1 := hRN.tu q2 q3
  have hW1 := hWC.tu q3
  have z1 : ∀ j, j < 34 ∨ 39 < j → zI M1 633 j = zI M 633 j := fun j hj => (q3.fi (fun q => q)).trans (zN j hj)
  have hF1 : FZ rkF rkW noO M M1 := hFN.trans (tu_rk q3)
  have hf1 : WFr w f0 ss M1 := ⟨(z1 40 (by omega)).trans hf.1, (z1 42 (by omega)).trans hf.2⟩
  have ha1 : zI M1 633 41 = P 519 + dd := (z1 41 (by omega)).trans ha
  have hdir : choP (T 0) P (T (hbP P k)) (wcP P k) = dirP T P k := rfl
  rw [hdir] at H
  have tail : ∀ (M2 : Mem), RST T (stpP T (P, ss) k).1 M2 → FZ rkF rkW noO M M2 → WFr w f0 (stpP T (P, ss) k).2 M2 → zI M2 633 35 = golP P k → zI M2 633 41 = P 519 + dd → Ev none (e1 + 1) 206 154 [some (.ref 633), some (.int ww), some (.int (13 + (6 * P (158 + 6 * k + 1)))), some (.int (dirP T P k))] [] M2 v M' 0 0 → v = some (.int (bI (goeP T (P, ss) k).2)) ∧ RST T (goeP T (P, ss) k).1.1 M' ∧ FZ rkF rkW noO M M' ∧ WFr w f0 (goeP T (P, ss) k).1.2 M' ∧ ARn dd (goeP T (P, ss) k).1.1 M' := by
    intro M2 hR2 hF2 hf2 h35 h41 H
    have p519 : (stpP T (P, ss) k).1 519 = P 519 := stp_lo hK hk 519 (by omega)
    obtain ⟨R, eR⟩ : ∃ R, R = stpP T (P, ss) k := ⟨_, rfl⟩
    have hgoe : goeP T (P, ss) k = (if R.1 (158 + 6 * k) = golP P k then ((uPk R.1 519 (R.1 519 + 1), R.2), false) else if R.1 (158 + 6 * k + 2) < 200 then (R, true) else ((uPk R.1 520 (R.1 520 + 1), R.2), false)) := by
      rw [eR]
      rfl
    rw [← eR] at hR2 hf2 p519
    have r0' : rI M2 635 ww = R.1 (158 + 6 * k) := r_s hR2 hww (by omega)
    have r2' : rI M2 635 (ww + 2) = R.1 (158 + 6 * k + 2) := r_s hR2 i2 (by omega)
    have r519 : rI M2 635 519 = R.1 519 := r_s hR2 (n := 519) rfl (by decide)
    have r520 : rI M2 635 520 = R.1 520 := r_s hR2 (n := 520) rfl (by decide)
    have e519 : (519 : Int32).toNatClampNeg = 519 := rfl
    have e520 : (520 : Int32).toNatClampNeg = 520 := rfl
    rw [hgoe]
    rcases rgo_154 hR2.1 H with ⟨a1, _, _, _, h1, h2⟩ | ⟨a1, a2, _, _, _, _, h1, h2⟩ | ⟨a1, a2, _, _, h1, h2⟩
    · rw [r0', h35] at a1
      rw [r519, e519, h41] at h2
      rw [if_pos a1]
      refine ⟨h1, ?_, ?_, ?_, ?_⟩
      · rw [h2]; exact (hR2.up (by decide)).fld (by decide)
      · rw [h2]; exact (hF2.trans rk_wI).trans (FZ.wF ⟨rfl, by omega⟩)
      · rw [h2]
        exact ⟨by rw [fI_wF_ne (by omega), fI_wI]; exact hf2.1, by rw [fI_wF_ne (by omega), fI_wI]; exact hf2.2⟩
      · unfold ARn
        rw [h2, fI_wF_eq hR2.1.ki.1 qa_633 qi_61_41]
        show _ = uPk R.1 519 (R.1 519 + 1) 519 + dd
        rw [up_eq, p519]
        grind
    · rw [r0', h35] at a1
      rw [r2'] at a2
      rw [r520, e520] at h2
      rw [if_neg a1, if_neg (fun q => by rw [Int32.lt_iff_toInt_lt] at q; have := Int32.le_iff_toInt_le.mp a2; omega)]
      refine ⟨h1, ?_, ?_, ?_, ?_⟩
      · rw [h2]; exact hR2.up (by decide)
      · rw [h2]; exact hF2.trans rk_wI
      · rw [h2]
        exact ⟨by rw [fI_wI]; exact hf2.1, by rw [fI_wI]; exact hf2.2⟩
      · unfold ARn
        rw [h2, fI_wI, h41]
        show _ = uPk R.1 520 (R.1 520 + 1) 519 + dd
        rw [up_ne (by decide), p519]
    · rw [r0', h35] at a1
      rw [r2'] at a2
      have h200 : R.1 (158 + 6 * k + 2) < 200 := by
        rw [Int32.lt_iff_toInt_lt]
        have : ¬ (200 : Int32).toInt ≤ (R.1 (158 + 6 * k + 2)).toInt := fun q => a2 (Int32.le_iff_toInt_le.mpr q)
        omega
      subst h2
      rw [if_neg a1, if_pos h200]
      exact ⟨h1, hR2, hF2, hf2, by unfold ARn; rw [h41, p519]⟩
  have c2 : (ww + 2).toNatClampNeg = 158 + 6 * k + 2 := cl_n i2
  have c3 : (ww + 3).toNatClampNeg = 158 + 6 * k + 3 := cl_n i3
  have c4 : (ww + 4).toNatClampNeg = 158 + 6 * k + 4 := cl_n i4
  have c0 : ww.toNatClampNeg = 158 + 6 * k := cl_n hww
  have s2 : rI M1 635 (ww + 2) = P (158 + 6 * k + 2) := r_s hR1 i2 (by omega)
  have hRa : RST T (ageP P k) (wI M1 635 (158 + 6 * k + 2) (P (158 + 6 * k + 2) + 1)) := hR1.up (by omega)
  rcases rgo_91 q2 H with ⟨a1, _, _, H⟩ | ⟨a1, _, _, _, _, _, _, e2, v2, M2, he, H2, H⟩
  · rw [s2, c2] at H
    have hst : stpP T (P, ss) k = (ageP P k, ss) := by
      unfold stpP
      rw [if_pos a1]
    refine tail _ ?_ (hF1.trans rk_wI) ?_ ?_ ?_ H
    · rw [hst]; exact hRa
    · rw [hst]
      exact ⟨by rw [fI_wI]; exact hf1.1, by rw [fI_wI]; exact hf1.2⟩
    · rw [fI_wI]; exact hW1.2.1
    · rw [fI_wI]; exact ha1
  · rcases dir_rng (T := T) hD hK hk with hd | ⟨d0, d1, dto⟩
    · rw [hd] at a1
      exact absurd (by decide) a1
    · rw [s2, c0, c2, c3, c4, hW1.1] at H2
      have hw1 : (wcP P k).1 = P (158 + 6 * k) := rfl
      rw [hw1] at H2
      have ea0 : ageP P k (158 + 6 * k) = P (158 + 6 * k) := up_ne (by omega)
      have hRb := (hRa.up (i := 158 + 6 * k + 3) (by omega) (x := dirP T P k)).up (i := 158 + 6 * k + 4) (by omega) (x := ageP P k (158 + 6 * k))
      obtain ⟨Pb, ePb⟩ : ∃ Pb, Pb = uPk (uPk (ageP P k) (158 + 6 * k + 3) (dirP T P k)) (158 + 6 * k + 4) (ageP P k (158 + 6 * k)) := ⟨_, rfl⟩
      rw [← ePb, ea0] at hRb
      have hg : G_194 (wI (wI (wI M1 635 (158 + 6 * k + 2) (P (158 + 6 * k + 2) + 1)) 635 (158 + 6 * k + 3) (dirP T P k)) 635 (158 + 6 * k + 4) (P (158 + 6 * k))) (P (158 + 6 * k)) (dirP T P k) = besP (ageP P k) (ageP P k (158 + 6 * k)) (dirP T P k) := by
        rw [g194_ok hRb, ea0]
        exact bes_eq (by rw [ePb, up_ne (by omega), up_ne (by omega)]) (by rw [ePb, up_ne (by omega), up_ne (by omega)])
      rw [hg] at H2
      have hRc := hRb.up (i := 158 + 6 * k) (by omega) (x := besP (ageP P k) (ageP P k (158 + 6 * k)) (dirP T P k))
      have hmov : uPk Pb (158 + 6 * k) (besP (ageP P k) (ageP P k (158 + 6 * k)) (dirP T P k)) = movP (ageP P k) k (dirP T P k) := by rw [ePb]; rfl
      rw [hmov] at hRc
      obtain ⟨M3, eM3⟩ : ∃ M3, M3 = wI (wI (wI (wI M1 635 (158 + 6 * k + 2) (P (158 + 6 * k + 2) + 1)) 635 (158 + 6 * k + 3) (dirP T P k)) 635 (158 + 6 * k + 4) (P (158 + 6 * k))) 635 (158 + 6 * k) (besP (ageP P k) (ageP P k (158 + 6 * k)) (dirP T P k)) := ⟨_, rfl⟩
      rw [← eM3] at H2 hRc
      have eb : besP (ageP P k) (ageP P k (158 + 6 * k)) (dirP T P k) = besP P (P (158 + 6 * k)) (dirP T P k) := by
        rw [ea0]
        exact bes_eq (up_ne (by omega)) (up_ne (by omega))
      have hmc : movP (ageP P k) k (dirP T P k) (158 + 6 * k) = besP P (P (158 + 6 * k)) (dirP T P k) := by
        unfold movP
        rw [up_eq, eb]
      have hval : rI M3 635 ww = besP P (P (158 + 6 * k)) (dirP T P k) := (r_s hRc hww (by omega)).trans hmc
      rw [hval] at H2
      have z3 : ∀ j, zI M3 633 j = zI M1 633 j := fun j => by rw [eM3, fI_wI, fI_wI, fI_wI, fI_wI]
      have hFm : FZ rkF rkW noO M M3 := by
        rw [eM3]
        exact (((hF1.trans rk_wI).trans rk_wI).trans rk_wI).trans rk_wI
      have m0 : movP (ageP P k) k (dirP T P k) 0 = P 0 := by
        rw [mov_o _ (by omega) (by omega) (by omega)]
        exact up_ne (by omega)
      have m1 : movP (ageP P k) k (dirP T P k) 1 = P 1 := by
        rw [mov_o _ (by omega) (by omega) (by omega)]
        exact up_ne (by omega)
      have hfm : WFr w f0 ss M3 := ⟨(z3 40).trans hf1.1, (z3 42).trans hf1.2⟩
      obtain ⟨rfl, y1, y2, y3, y4⟩ := rtrd_ok hRc (hw.eq m0 m1) ((inC.eq m0 m1).mpr dto) hfm H2
      have hst : stpP T (P, ss) k = (trdP (T 0) (movP (ageP P k) k (dirP T P k)) (besP P (P (158 + 6 * k)) (dirP T P k)), besP P (P (158 + 6 * k)) (dirP T P k) :: ss) := by
        unfold stpP
        rw [if_neg a1]
      refine tail M2 ?_ (hFm.trans y2) ?_ ?_ ?_ H
      · rw [hst]; exact y1
      · rw [hst]; exact y3
      · rw [y4 35 (by decide), z3]; exact hW1.2.1
      · rw [y4 41 (by decide), z3]; exact ha1
end RGO
