/-! THE REFERENCE'S walking: tread, goes, leave, tick, endWeek: pieces (made by gref.py) -/
theorem rtr_0 {e : Nat} {M M' : Mem} {v : Option Value} {c : Int32} (hS : SQ M) (H : Ev none e 203 0 [some (.ref 633), some (.int c), none] [] M v M' 0 0) : ((G_149 M c) = 0 ∧ Ev none e 203 43 [some (.ref 633), some (.int c), none] [] M v M' 0 0) ∨ (¬ ((G_149 M c) = 0) ∧ (∃ e1 v1 M1, e = e1 + 1 ∧ Ev none e1 188 0 [some (.ref 633), some (.int 0), some (.int c), some (.int 5), none] [] M v1 M1 0 0 ∧ Ev none e 203 21 [some (.ref 633), some (.int c), none] (v1.toList ++ [.int (G_146 M c 3)]) M1 v M' 0 0)) := by
  have H : Ev none e 203 2 [some (.ref 633), some (.int c), none] [.int c, .ref 633] M v M' 0 0 := Ev.back 2 (fun n => rfl) H
  obtain ⟨e1, rfl⟩ := Ev.dpos rfl rfl H
  obtain ⟨vK1, MK1, K1, H⟩ := Ev.callb (fun n_ => gs_7 rfl rfl (show gCal (.invokevirtual 356) 11 (.int c :: .ref 633 :: []) M = some (.inr (149, [some (.ref 633), some (.int c)], [])) from by show @cond (Option ((List Value × Mem) ⊕ (Nat × Lo × List Value))) (true && gRecv M (.ref 633) 11 && gRoom [] && true) (some (.inr (149, [some (.ref 633), some (.int c)], []))) none = _; rw [recv_s hS.1 qa_633 qo_61]; rfl)) H
  obtain ⟨pK1, qK1⟩ := g_149 hS K1
  rw [pK1, qK1] at H
  have H : Ev none (e1 + 1) 203 5 [some (.ref 633), some (.int c), none] [.int (G_149 M c)] M v M' 0 0 := H
  have H : Ev none (e1 + 1) 203 (if (G_149 M c) = 0 then 43 else 8) [some (.ref 633), some (.int c), none] [] M v M' 0 0 := Ev.back 1 (fun n => rfl) H
  by_cases h2 : (G_149 M c) = 0
  · rw [if_pos h2] at H
    have HF := H
    exact Or.inl ⟨h2, HF⟩
  · rw [if_neg h2] at H
    have H : Ev none (e1 + 1) 203 11 [some (.ref 633), some (.int c), none] [.int 3, .int c, .ref 633] M v M' 0 0 := Ev.back 3 (fun n => rfl) H
    obtain ⟨vK3, MK3, K3, H⟩ := Ev.callb (fun n_ => gs_7 rfl rfl (show gCal (.invokevirtual 136) 11 (.int 3 :: .int c :: .ref 633 :: []) M = some (.inr (146, [some (.ref 633), some (.int c), some (.int 3)], [])) from by show @cond (Option ((List Value × Mem) ⊕ (Nat × Lo × List Value))) (true && gRecv M (.ref 633) 11 && gRoom [] && true) (some (.inr (146, [some (.ref 633), some (.int c), some (.int 3)], []))) none = _; rw [recv_s hS.1 qa_633 qo_61]; rfl)) H
    obtain ⟨pK3, qK3⟩ := g_146 hS K3
    rw [pK3, qK3] at H
    have H : Ev none (e1 + 1) 203 14 [some (.ref 633), some (.int c), none] [.int (G_146 M c 3)] M v M' 0 0 := H
    have H : Ev none (e1 + 1) 203 18 [some (.ref 633), some (.int c), none] [.int 5, .int c, .int 0, .ref 633, .int (G_146 M c 3)] M v M' 0 0 := Ev.back 4 (fun n => rfl) H
    obtain ⟨vK4, MK4, K4, H⟩ := Ev.callb (fun n_ => gs_7 rfl rfl (show gCal (.invokevirtual 402) 11 (.int 5 :: .int c :: .int 0 :: .ref 633 :: [.int (G_146 M c 3)]) M = some (.inr (188, [some (.ref 633), some (.int 0), some (.int c), some (.int 5), none], [.int (G_146 M c 3)])) from by show @cond (Option ((List Value × Mem) ⊕ (Nat × Lo × List Value))) (true && gRecv M (.ref 633) 11 && gRoom [.int (G_146 M c 3)] && true) (some (.inr (188, [some (.ref 633), some (.int 0), some (.int c), some (.int 5), none], [.int (G_146 M c 3)]))) none = _; rw [recv_s hS.1 qa_633 qo_61]; rfl)) H
    have K4 : Ev none e1 188 0 [some (.ref 633), some (.int 0), some (.int c), some (.int 5), none] [] M vK4 MK4 0 0 := K4
    have HF := H
    exact Or.inr (⟨h2, ⟨e1, vK4, MK4, rfl, K4, HF⟩⟩)
theorem rtr_21 {e : Nat} {M M' : Mem} {v : Option Value} {c y we : Int32} (hS : SQ M) (H : Ev none e 203 21 [some (.ref 633), some (.int c), none] [.int y, .int we] M v M' 0 0) : ((we + y) ≤ 999 ∧ Ev none e 203 43 [some (.ref 633), some (.int c), some (.int (we + y))] [] (X_147 M c 3 (we + y)) v M' 0 0) ∨ (¬ ((we + y) ≤ 999) ∧ Ev none e 203 43 [some (.ref 633), some (.int c), some (.int (we + y))] [] (X_147 M c 3 999) v M' 0 0) := by
  have H : Ev none e 203 (if (we + y) ≤ 999 then 39 else 33) [some (.ref 633), some (.int c), some (.int (we + y))] [.int 3, .int c, .ref 633] M v M' 0 0 := Ev.back 8 (fun n => rfl) H
  by_cases h1 : (we + y) ≤ 999
  · rw [if_pos h1] at H
    have H : Ev none e 203 40 [some (.ref 633), some (.int c), some (.int (we + y))] [.int (we + y), .int 3, .int c, .ref 633] M v M' 0 0 := Ev.back 1 (fun n => rfl) H
    obtain ⟨e1, rfl⟩ := Ev.dpos rfl rfl H
    obtain ⟨vK2, MK2, K2, H⟩ := Ev.callb (fun n_ => gs_7 rfl rfl (show gCal (.invokevirtual 151) 11 (.int (we + y) :: .int 3 :: .int c :: .ref 633 :: []) M = some (.inr (147, [some (.ref 633), some (.int c), some (.int 3), some (.int (we + y))], [])) from by show @cond (Option ((List Value × Mem) ⊕ (Nat × Lo × List Value))) (true && gRecv M (.ref 633) 11 && gRoom [] && true) (some (.inr (147, [some (.ref 633), some (.int c), some (.int 3), some (.int (we + y))], []))) none = _; rw [recv_s hS.1 qa_633 qo_61]; rfl)) H
    obtain ⟨pK2, qK2⟩ := g_147 hS K2
    rw [pK2, qK2] at H
    obtain ⟨N3, eN3⟩ : ∃ N, N = (X_147 M c 3 (we + y)) := ⟨_, rfl⟩
    have hN3 : SQ N3 := by rw [eN3]; exact X_147_sx hS
    rw [← eN3] at H
    have H : Ev none (e1 + 1) 203 43 [some (.ref 633), some (.int c), some (.int (we + y))] [] N3 v M' 0 0 := H
    have HF := H
    subst eN3
    exact Or.inl ⟨h1, HF⟩
  · rw [if_neg h1] at H
    have H : Ev none e 203 40 [some (.ref 633), some (.int c), some (.int (we + y))] [.int 999, .int 3, .int c, .ref 633] M v M' 0 0 := Ev.back 2 (fun n => rfl) H
    obtain ⟨e1, rfl⟩ := Ev.dpos rfl rfl H
    obtain ⟨vK4, MK4, K4, H⟩ := Ev.callb (fun n_ => gs_7 rfl rfl (show gCal (.invokevirtual 151) 11 (.int 999 :: .int 3 :: .int c :: .ref 633 :: []) M = some (.inr (147, [some (.ref 633), some (.int c), some (.int 3), some (.int 999)], [])) from by show @cond (Option ((List Value × Mem) ⊕ (Nat × Lo × List Value))) (true && gRecv M (.ref 633) 11 && gRoom [] && true) (some (.inr (147, [some (.ref 633), some (.int c), some (.int 3), some (.int 999)], []))) none = _; rw [recv_s hS.1 qa_633 qo_61]; rfl)) H
    obtain ⟨pK4, qK4⟩ := g_147 hS K4
    rw [pK4, qK4] at H
    obtain ⟨N5, eN5⟩ : ∃ N, N = (X_147 M c 3 999) := ⟨_, rfl⟩
    have hN5 : SQ N5 := by rw [eN5]; exact X_147_sx hS
    rw [← eN5] at H
    have H : Ev none (e1 + 1) 203 43 [some (.ref 633), some (.int c), some (.int (we + y))] [] N5 v M' 0 0 := H
    have HF := H
    subst eN5
    exact Or.inr (⟨h1, HF⟩)
theorem rtr_43 {e : Nat} {M M' : Mem} {v : Option Value} {c : Int32} {c2 : Option Value} (hS : SQ M) (H : Ev none e 203 43 [some (.ref 633), some (.int c), c2] [] M v M' 0 0) : ((zI (X_147 (X_147 M c 5 ((G_146 M c 5) + 1)) c 6 ((G_146 (X_147 M c 5 ((G_146 M c 5) + 1)) c 6) + 1)) 633 42) = 0 ∧ c = (zI (X_147 (X_147 M c 5 ((G_146 M c 5) + 1)) c 6 ((G_146 (X_147 M c 5 ((G_146 M c 5) + 1)) c 6) + 1)) 633 40) ∧ v = none ∧ M' = (wF (X_147 (X_147 M c 5 ((G_146 M c 5) + 1)) c 6 ((G_146 (X_147 M c 5 ((G_146 M c 5) + 1)) c 6) + 1)) 633 42 1)) ∨ ((zI (X_147 (X_147 M c 5 ((G_146 M c 5) + 1)) c 6 ((G_146 (X_147 M c 5 ((G_146 M c 5) + 1)) c 6) + 1)) 633 42) = 0 ∧ ¬ (c = (zI (X_147 (X_147 M c 5 ((G_146 M c 5) + 1)) c 6 ((G_146 (X_147 M c 5 ((G_146 M c 5) + 1)) c 6) + 1)) 633 40)) ∧ v = none ∧ M' = (wF (X_147 (X_147 M c 5 ((G_146 M c 5) + 1)) c 6 ((G_146 (X_147 M c 5 ((G_146 M c 5) + 1)) c 6) + 1)) 633 42 0)) ∨ (¬ ((zI (X_147 (X_147 M c 5 ((G_146 M c 5) + 1)) c 6 ((G_146 (X_147 M c 5 ((G_146 M c 5) + 1)) c 6) + 1)) 633 42) = 0) ∧ v = none ∧ M' = (wF (X_147 (X_147 M c 5 ((G_146 M c 5) + 1)) c 6 ((G_146 (X_147 M c 5 ((G_146 M c 5) + 1)) c 6) + 1)) 633 42 1)) := by
  have H : Ev none e 203 49 [some (.ref 633), some (.int c), c2] [.int 5, .int c, .ref 633, .int 5, .int c, .ref 633] M v M' 0 0 := Ev.back 6 (fun n => rfl) H
  obtain ⟨e1, rfl⟩ := Ev.dpos rfl rfl H
  obtain ⟨vK1, MK1, K1, H⟩ := Ev.callb (fun n_ => gs_7 rfl rfl (show gCal (.invokevirtual 136) 11 (.int 5 :: .int c :: .ref 633 :: [.int 5, .int c, .ref 633]) M = some (.inr (146, [some (.ref 633), some (.int c), some (.int 5)], [.int 5, .int c, .ref 633])) from by show @cond (Option ((List Value × Mem) ⊕ (Nat × Lo × List Value))) (true && gRecv M (.ref 633) 11 && gRoom [.int 5, .int c, .ref 633] && true) (some (.inr (146, [some (.ref 633), some (.int c), some (.int 5)], [.int 5, .int c, .ref 633]))) none = _; rw [recv_s hS.1 qa_633 qo_61]; rfl)) H
  obtain ⟨pK1, qK1⟩ := g_146 hS K1
  rw [pK1, qK1] at H
  have H : Ev none (e1 + 1) 203 52 [some (.ref 633), some (.int c), c2] [.int (G_146 M c 5), .int 5, .int c, .ref 633] M v M' 0 0 := H
  have H : Ev none (e1 + 1) 203 54 [some (.ref 633), some (.int c), c2] [.int ((G_146 M c 5) + 1), .int 5, .int c, .ref 633] M v M' 0 0 := Ev.back 2 (fun n => rfl) H
  obtain ⟨vK2, MK2, K2, H⟩ := Ev.callb (fun n_ => gs_7 rfl rfl (show gCal (.invokevirtual 151) 11 (.int ((G_146 M c 5) + 1) :: .int 5 :: .int c :: .ref 633 :: []) M = some (.inr (147, [some (.ref 633), some (.int c), some (.int 5), some (.int ((G_146 M c 5) + 1))], [])) from by show @cond (Option ((List Value × Mem) ⊕ (Nat × Lo × List Value))) (true && gRecv M (.ref 633) 11 && gRoom [] && true) (some (.inr (147, [some (.ref 633), some (.int c), some (.int 5), some (.int ((G_146 M c 5) + 1))], []))) none = _; rw [recv_s hS.1 qa_633 qo_61]; rfl)) H
  obtain ⟨pK2, qK2⟩ := g_147 hS K2
  rw [pK2, qK2] at H
  obtain ⟨N3, eN3⟩ : ∃ N, N = (X_147 M c 5 ((G_146 M c 5) + 1)) := ⟨_, rfl⟩
  have hN3 : SQ N3 := by rw [eN3]; exact X_147_sx hS
  rw [← eN3] at H
  have H : Ev none (e1 + 1) 203 57 [some (.ref 633), some (.int c), c2] [] N3 v M' 0 0 := H
  have H : Ev none (e1 + 1) 203 65 [some (.ref 633), some (.int c), c2] [.int 6, .int c, .ref 633, .int 6, .int c, .ref 633] N3 v M' 0 0 := Ev.back 6 (fun n => rfl) H
  obtain ⟨vK4, MK4, K4, H⟩ := Ev.callb (fun n_ => gs_7 rfl rfl (show gCal (.invokevirtual 136) 11 (.int 6 :: .int c :: .ref 633 :: [.int 6, .int c, .ref 633]) N3 = some (.inr (146, [some (.ref 633), some (.int c), some (.int 6)], [.int 6, .int c, .ref 633])) from by show @cond (Option ((List Value × Mem) ⊕ (Nat × Lo × List Value))) (true && gRecv N3 (.ref 633) 11 && gRoom [.int 6, .int c, .ref 633] && true) (some (.inr (146, [some (.ref 633), some (.int c), some (.int 6)], [.int 6, .int c, .ref 633]))) none = _; rw [recv_s hN3.1 qa_633 qo_61]; rfl)) H
  obtain ⟨pK4, qK4⟩ := g_146 hN3 K4
  rw [pK4, qK4] at H
  have H : Ev none (e1 + 1) 203 68 [some (.ref 633), some (.int c), c2] [.int (G_146 N3 c 6), .int 6, .int c, .ref 633] N3 v M' 0 0 := H
  have H : Ev none (e1 + 1) 203 70 [some (.ref 633), some (.int c), c2] [.int ((G_146 N3 c 6) + 1), .int 6, .int c, .ref 633] N3 v M' 0 0 := Ev.back 2 (fun n => rfl) H
  obtain ⟨vK5, MK5, K5, H⟩ := Ev.callb (fun n_ => gs_7 rfl rfl (show gCal (.invokevirtual 151) 11 (.int ((G_146 N3 c 6) + 1) :: .int 6 :: .int c :: .ref 633 :: []) N3 = some (.inr (147, [some (.ref 633), some (.int c), some (.int 6), some (.int ((G_146 N3 c 6) + 1))], [])) from by show @cond (Option ((List Value × Mem) ⊕ (Nat × Lo × List Value))) (true && gRecv N3 (.ref 633) 11 && gRoom [] && true) (some (.inr (147, [some (.ref 633), some (.int c), some (.int 6), some (.int ((G_146 N3 c 6) + 1))], []))) none = _; rw [recv_s hN3.1 qa_633 qo_61]; rfl)) H
  obtain ⟨pK5, qK5⟩ := g_147 hN3 K5
  rw [pK5, qK5] at H
  obtain ⟨N6, eN6⟩ : ∃ N, N = (X_147 N3 c 6 ((G_146 N3 c 6) + 1)) := ⟨_, rfl⟩
  have hN6 : SQ N6 := by rw [eN6]; exact X_147_sx hN3
  rw [← eN6] at H
  have H : Ev none (e1 + 1) 203 73 [some (.ref 633), some (.int c), c2] [] N6 v M' 0 0 := H
  have H : Ev none (e1 + 1) 203 75 [some (.ref 633), some (.int c), c2] [.ref 633, .ref 633] N6 v M' 0 0 := Ev.back 2 (fun n => rfl) H
  have H : Ev none (e1 + 1) 203 78 [some (.ref 633), some (.int c), c2] [.int (zI N6 633 42), .ref 633] N6 v M' 0 0 := Ev.back 1 (gs_3 rfl rfl (gf_i hN6.1 qa_633 qi_61_42 rfl)) H
  have H : Ev none (e1 + 1) 203 (if (zI N6 633 42) = 0 then 81 else 89) [some (.ref 633), some (.int c), c2] [.ref 633] N6 v M' 0 0 := Ev.back 1 (fun n => rfl) H
  by_cases h7 : (zI N6 633 42) = 0
  · rw [if_pos h7] at H
    have H : Ev none (e1 + 1) 203 83 [some (.ref 633), some (.int c), c2] [.ref 633, .int c, .ref 633] N6 v M' 0 0 := Ev.back 2 (fun n => rfl) H
    have H : Ev none (e1 + 1) 203 86 [some (.ref 633), some (.int c), c2] [.int (zI N6 633 40), .int c, .ref 633] N6 v M' 0 0 := Ev.back 1 (gs_3 rfl rfl (gf_i hN6.1 qa_633 qi_61_40 rfl)) H
    have H : Ev none (e1 + 1) 203 (if c = (zI N6 633 40) then 89 else 93) [some (.ref 633), some (.int c), c2] [.ref 633] N6 v M' 0 0 := Ev.back 1 (fun n => rfl) H
    by_cases h8 : c = (zI N6 633 40)
    · rw [if_pos h8] at H
      have H : Ev none (e1 + 1) 203 94 [some (.ref 633), some (.int c), c2] [.int 1, .ref 633] N6 v M' 0 0 := Ev.back 2 (fun n => rfl) H
      obtain ⟨N10, eN10⟩ : ∃ N, N = (wF N6 633 42 1) := ⟨_, rfl⟩
      have hN10 : SQ N10 := by rw [eN10]; exact hN6.kf
      have H : Ev none (e1 + 1) 203 97 [some (.ref 633), some (.int c), c2] [] N10 v M' 0 0 := by rw [eN10]; exact Ev.pfi rfl rfl rfl hN6.1 qa_633 qi_61_42 H
      obtain ⟨z1, z2⟩ := Ev.retb (fun n => rfl) H
      subst eN3 eN6 eN10
      exact Or.inl ⟨h7, h8, z1, z2⟩
    · rw [if_neg h8] at H
      have H : Ev none (e1 + 1) 203 94 [some (.ref 633), some (.int c), c2] [.int 0, .ref 633] N6 v M' 0 0 := Ev.back 1 (fun n => rfl) H
      obtain ⟨N12, eN12⟩ : ∃ N, N = (wF N6 633 42 0) := ⟨_, rfl⟩
      have hN12 : SQ N12 := by rw [eN12]; exact hN6.kf
      have H : Ev none (e1 + 1) 203 97 [some (.ref 633), some (.int c), c2] [] N12 v M' 0 0 := by rw [eN12]; exact Ev.pfi rfl rfl rfl hN6.1 qa_633 qi_61_42 H
      obtain ⟨z1, z2⟩ := Ev.retb (fun n => rfl) H
      subst eN3 eN6 eN12
      exact Or.inr (Or.inl ⟨h7, h8, z1, z2⟩)
  · rw [if_neg h7] at H
    have H : Ev none (e1 + 1) 203 94 [some (.ref 633), some (.int c), c2] [.int 1, .ref 633] N6 v M' 0 0 := Ev.back 2 (fun n => rfl) H
    obtain ⟨N14, eN14⟩ : ∃ N, N = (wF N6 633 42 1) := ⟨_, rfl⟩
    have hN14 : SQ N14 := by rw [eN14]; exact hN6.kf
    have H : Ev none (e1 + 1) 203 97 [some (.ref 633), some (.int c), c2] [] N14 v M' 0 0 := by rw [eN14]; exact Ev.pfi rfl rfl rfl hN6.1 qa_633 qi_61_42 H
    obtain ⟨z1, z2⟩ := Ev.retb (fun n => rfl) H
    subst eN3 eN6 eN14
    exact Or.inr (Or.inr (⟨h7, z1, z2⟩))
theorem rtk_0 {e : Nat} {M M' : Mem} {v : Option Value} (hS : SQ M) (H : Ev none e 204 0 [some (.ref 633), none, none, none] [] M v M' 0 0) : Ev none e 204 2 [some (.ref 633), some (.int 0), none, none] [] M v M' 0 0 := by
  have H : Ev none e 204 2 [some (.ref 633), some (.int 0), none, none] [] M v M' 0 0 := Ev.back 2 (fun n => rfl) H
  have HF := H
  exact HF
theorem rtk_2 {e : Nat} {M M' : Mem} {v : Option Value} {k : Int32} {c2 c3 : Option Value} (hS : SQ M) (H : Ev none e 204 2 [some (.ref 633), some (.int k), c2, c3] [] M v M' 0 0) : ((rI M 635 12) ≤ k ∧ (0 ≤ (12 : Int32).toInt ∧ (12 : Int32).toInt < 2314) ∧ Ev none e 204 202 [some (.ref 633), some (.int 0), c2, c3] [] M v M' 0 0) ∨ (¬ ((rI M 635 12) ≤ k) ∧ (rI M 635 ((13 + (6 * k)) + 5)) = 0 ∧ (0 ≤ (12 : Int32).toInt ∧ (12 : Int32).toInt < 2314) ∧ (0 ≤ ((13 + (6 * k)) + 5).toInt ∧ ((13 + (6 * k)) + 5).toInt < 2314) ∧ Ev none e 204 2 [some (.ref 633), some (.int (k + 1)), some (.int (13 + (6 * k))), c3] [] M v M' 0 0) ∨ (¬ ((rI M 635 12) ≤ k) ∧ ¬ ((rI M 635 ((13 + (6 * k)) + 5)) = 0) ∧ (rI M 635 518) < (rI M 635 ((13 + (6 * k)) + 4)) ∧ (0 ≤ (12 : Int32).toInt ∧ (12 : Int32).toInt < 2314) ∧ (0 ≤ ((13 + (6 * k)) + 5).toInt ∧ ((13 + (6 * k)) + 5).toInt < 2314) ∧ (0 ≤ (518 : Int32).toInt ∧ (518 : Int32).toInt < 2314) ∧ (0 ≤ ((13 + (6 * k)) + 4).toInt ∧ ((13 + (6 * k)) + 4).toInt < 2314) ∧ Ev none e 204 2 [some (.ref 633), some (.int (k + 1)), some (.int (13 + (6 * k))), c3] [] M v M' 0 0) ∨ (¬ ((rI M 635 12) ≤ k) ∧ ¬ ((rI M 635 ((13 + (6 * k)) + 5)) = 0) ∧ ¬ ((rI M 635 518) < (rI M 635 ((13 + (6 * k)) + 4))) ∧ (((rI M 635 518) - (rI M 635 ((13 + (6 * k)) + 4))) - ((rI M 635 518) - (rI M 635 ((13 + (6 * k)) + 4))) / (rI M 635 ((13 + (6 * k)) + 3)) * (rI M 635 ((13 + (6 * k)) + 3))) = 0 ∧ (rI M 635 157) = 60 ∧ (0 ≤ (12 : Int32).toInt ∧ (12 : Int32).toInt < 2314) ∧ (0 ≤ ((13 + (6 * k)) + 5).toInt ∧ ((13 + (6 * k)) + 5).toInt < 2314) ∧ (0 ≤ (518 : Int32).toInt ∧ (518 : Int32).toInt < 2314) ∧ (0 ≤ ((13 + (6 * k)) + 4).toInt ∧ ((13 + (6 * k)) + 4).toInt < 2314) ∧ (0 ≤ (518 : Int32).toInt ∧ (518 : Int32).toInt < 2314) ∧ (0 ≤ ((13 + (6 * k)) + 4).toInt ∧ ((13 + (6 * k)) + 4).toInt < 2314) ∧ (0 ≤ ((13 + (6 * k)) + 3).toInt ∧ ((13 + (6 * k)) + 3).toInt < 2314) ∧ ¬ (rI M 635 ((13 + (6 * k)) + 3)) = 0 ∧ (0 ≤ (157 : Int32).toInt ∧ (157 : Int32).toInt < 2314) ∧ (0 ≤ (521 : Int32).toInt ∧ (521 : Int32).toInt < 2314) ∧ (0 ≤ (521 : Int32).toInt ∧ (521 : Int32).toInt < 2314) ∧ Ev none e 204 2 [some (.ref 633), some (.int (k + 1)), some (.int (13 + (6 * k))), c3] [] (wI M 635 ((521 : Int32).toNatClampNeg) ((rI M 635 521) + 1)) v M' 0 0) ∨ (¬ ((rI M 635 12) ≤ k) ∧ ¬ ((rI M 635 ((13 + (6 * k)) + 5)) = 0) ∧ ¬ ((rI M 635 518) < (rI M 635 ((13 + (6 * k)) + 4))) ∧ (((rI M 635 518) - (rI M 635 ((13 + (6 * k)) + 4))) - ((rI M 635 518) - (rI M 635 ((13 + (6 * k)) + 4))) / (rI M 635 ((13 + (6 * k)) + 3)) * (rI M 635 ((13 + (6 * k)) + 3))) = 0 ∧ ¬ ((rI M 635 157) = 60) ∧ (0 ≤ (12 : Int32).toInt ∧ (12 : Int32).toInt < 2314) ∧ (0 ≤ ((13 + (6 * k)) + 5).toInt ∧ ((13 + (6 * k)) + 5).toInt < 2314) ∧ (0 ≤ (518 : Int32).toInt ∧ (518 : Int32).toInt < 2314) ∧ (0 ≤ ((13 + (6 * k)) + 4).toInt ∧ ((13 + (6 * k)) + 4).toInt < 2314) ∧ (0 ≤ (518 : Int32).toInt ∧ (518 : Int32).toInt < 2314) ∧ (0 ≤ ((13 + (6 * k)) + 4).toInt ∧ ((13 + (6 * k)) + 4).toInt < 2314) ∧ (0 ≤ ((13 + (6 * k)) + 3).toInt ∧ ((13 + (6 * k)) + 3).toInt < 2314) ∧ ¬ (rI M 635 ((13 + (6 * k)) + 3)) = 0 ∧ (0 ≤ (157 : Int32).toInt ∧ (157 : Int32).toInt < 2314) ∧ (0 ≤ (157 : Int32).toInt ∧ (157 : Int32).toInt < 2314) ∧ (0 ≤ (13 + (6 * k)).toInt ∧ (13 + (6 * k)).toInt < 2314) ∧ (0 ≤ (3 + (rI M 635 (13 + (6 * k)))).toInt ∧ (3 + (rI M 635 (13 + (6 * k)))).toInt < 2314) ∧ (0 ≤ (158 + (6 * (rI M 635 157))).toInt ∧ (158 + (6 * (rI M 635 157))).toInt < 2314) ∧ (0 ≤ ((158 + (6 * (rI M 635 157))) + 1).toInt ∧ ((158 + (6 * (rI M 635 157))) + 1).toInt < 2314) ∧ (0 ≤ ((158 + (6 * (rI M 635 157))) + 2).toInt ∧ ((158 + (6 * (rI M 635 157))) + 2).toInt < 2314) ∧ (0 ≤ ((158 + (6 * (rI M 635 157))) + 3).toInt ∧ ((158 + (6 * (rI M 635 157))) + 3).toInt < 2314) ∧ (0 ≤ ((158 + (6 * (rI M 635 157))) + 4).toInt ∧ ((158 + (6 * (rI M 635 157))) + 4).toInt < 2314) ∧ (0 ≤ (157 : Int32).toInt ∧ (157 : Int32).toInt < 2314) ∧ (0 ≤ (157 : Int32).toInt ∧ (157 : Int32).toInt < 2314) ∧ Ev none e 204 2 [some (.ref 633), some (.int (k + 1)), some (.int (13 + (6 * k))), some (.int (158 + (6 * (rI M 635 157))))] [] (wI (wI (wI (wI (wI (wI M 635 ((158 + (6 * (rI M 635 157))).toNatClampNeg) (rI M 635 (3 + (rI M 635 (13 + (6 * k)))))) 635 (((158 + (6 * (rI M 635 157))) + 1).toNatClampNeg) k) 635 (((158 + (6 * (rI M 635 157))) + 2).toNatClampNeg) 0) 635 (((158 + (6 * (rI M 635 157))) + 3).toNatClampNeg) (-1)) 635 (((158 + (6 * (rI M 635 157))) + 4).toNatClampNeg) (-1)) 635 ((157 : Int32).toNatClampNeg) ((rI (wI (wI (wI (wI (wI M 635 ((158 + (6 * (rI M 635 157))).toNatClampNeg) (rI M 635 (3 + (rI M 635 (13 + (6 * k)))))) 635 (((158 + (6 * (rI M 635 157))) + 1).toNatClampNeg) k) 635 (((158 + (6 * (rI M 635 157))) + 2).toNatClampNeg) 0) 635 (((158 + (6 * (rI M 635 157))) + 3).toNatClampNeg) (-1)) 635 (((158 + (6 * (rI M 635 157))) + 4).toNatClampNeg) (-1)) 635 157) + 1)) v M' 0 0) ∨ (¬ ((rI M 635 12) ≤ k) ∧ ¬ ((rI M 635 ((13 + (6 * k)) + 5)) = 0) ∧ ¬ ((rI M 635 518) < (rI M 635 ((13 + (6 * k)) + 4))) ∧ ¬ ((((rI M 635 518) - (rI M 635 ((13 + (6 * k)) + 4))) - ((rI M 635 518) - (rI M 635 ((13 + (6 * k)) + 4))) / (rI M 635 ((13 + (6 * k)) + 3)) * (rI M 635 ((13 + (6 * k)) + 3))) = 0) ∧ (0 ≤ (12 : Int32).toInt ∧ (12 : Int32).toInt < 2314) ∧ (0 ≤ ((13 + (6 * k)) + 5).toInt ∧ ((13 + (6 * k)) + 5).toInt < 2314) ∧ (0 ≤ (518 : Int32).toInt ∧ (518 : Int32).toInt < 2314) ∧ (0 ≤ ((13 + (6 * k)) + 4).toInt ∧ ((13 + (6 * k)) + 4).toInt < 2314) ∧ (0 ≤ (518 : Int32).toInt ∧ (518 : Int32).toInt < 2314) ∧ (0 ≤ ((13 + (6 * k)) + 4).toInt ∧ ((13 + (6 * k)) + 4).toInt < 2314) ∧ (0 ≤ ((13 + (6 * k)) + 3).toInt ∧ ((13 + (6 * k)) + 3).toInt < 2314) ∧ ¬ (rI M 635 ((13 + (6 * k)) + 3)) = 0 ∧ Ev none e 204 2 [some (.ref 633), some (.int (k + 1)), some (.int (13 + (6 * k))), c3] [] M v M' 0 0) := by
  have H : Ev none e 204 4 [some (.ref 633), some (.int k), c2, c3] [.ref 633, .int k] M v M' 0 0 := Ev.back 2 (fun n => rfl) H
  have H : Ev none e 204 7 [some (.ref 633), some (.int k), c2, c3] [.ref 635, .int k] M v M' 0 0 := Ev.back 1 (gs_3 rfl rfl (gf_u hS.1 qa_633 qr_61_5 qu_63 rfl)) H
  have H : Ev none e 204 9 [some (.ref 633), some (.int k), c2, c3] [.int 12, .ref 635, .int k] M v M' 0 0 := Ev.back 1 (fun n => rfl) H
  obtain ⟨b1, H⟩ := Ev.ial rfl rfl hS.1 qa_635 qw_63 H
  have H : Ev none e 204 10 [some (.ref 633), some (.int k), c2, c3] [.int (rI M 635 12), .int k] M v M' 0 0 := H
  have H : Ev none e 204 (if (rI M 635 12) ≤ k then 200 else 13) [some (.ref 633), some (.int k), c2, c3] [] M v M' 0 0 := Ev.back 1 (fun n => rfl) H
  by_cases h2 : (rI M 635 12) ≤ k
  · rw [if_pos h2] at H
    have H : Ev none e 204 202 [some (.ref 633), some (.int 0), c2, c3] [] M v M' 0 0 := Ev.back 2 (fun n => rfl) H
    have HF := H
    exact Or.inl ⟨h2, b1, HF⟩
  · rw [if_neg h2] at H
    have H : Ev none e 204 22 [some (.ref 633), some (.int k), some (.int (13 + (6 * k))), c3] [.ref 633] M v M' 0 0 := Ev.back 7 (fun n => rfl) H
    have H : Ev none e 204 25 [some (.ref 633), some (.int k), some (.int (13 + (6 * k))), c3] [.ref 635] M v M' 0 0 := Ev.back 1 (gs_3 rfl rfl (gf_u hS.1 qa_633 qr_61_5 qu_63 rfl)) H
    have H : Ev none e 204 28 [some (.ref 633), some (.int k), some (.int (13 + (6 * k))), c3] [.int ((13 + (6 * k)) + 5), .ref 635] M v M' 0 0 := Ev.back 3 (fun n => rfl) H
    obtain ⟨b3, H⟩ := Ev.ial rfl rfl hS.1 qa_635 qw_63 H
    have H : Ev none e 204 29 [some (.ref 633), some (.int k), some (.int (13 + (6 * k))), c3] [.int (rI M 635 ((13 + (6 * k)) + 5))] M v M' 0 0 := H
    have H : Ev none e 204 (if (rI M 635 ((13 + (6 * k)) + 5)) = 0 then 194 else 32) [some (.ref 633), some (.int k), some (.int (13 + (6 * k))), c3] [] M v M' 0 0 := Ev.back 1 (fun n => rfl) H
    by_cases h4 : (rI M 635 ((13 + (6 * k)) + 5)) = 0
    · rw [if_pos h4] at H
      have H : Ev none e 204 2 [some (.ref 633), some (.int (k + 1)), some (.int (13 + (6 * k))), c3] [] M v M' 0 0 := Ev.back 2 (fun n => rfl) H
      have HF := H
      exact Or.inr (Or.inl ⟨h2, h4, b1, b3, HF⟩)
    · rw [if_neg h4] at H
      have H : Ev none e 204 33 [some (.ref 633), some (.int k), some (.int (13 + (6 * k))), c3] [.ref 633] M v M' 0 0 := Ev.back 1 (fun n => rfl) H
      have H : Ev none e 204 36 [some (.ref 633), some (.int k), some (.int (13 + (6 * k))), c3] [.ref 635] M v M' 0 0 := Ev.back 1 (gs_3 rfl rfl (gf_u hS.1 qa_633 qr_61_5 qu_63 rfl)) H
      have H : Ev none e 204 39 [some (.ref 633), some (.int k), some (.int (13 + (6 * k))), c3] [.int 518, .ref 635] M v M' 0 0 := Ev.back 1 (fun n => rfl) H
      obtain ⟨b5, H⟩ := Ev.ial rfl rfl hS.1 qa_635 qw_63 H
      have H : Ev none e 204 40 [some (.ref 633), some (.int k), some (.int (13 + (6 * k))), c3] [.int (rI M 635 518)] M v M' 0 0 := H
      have H : Ev none e 204 41 [some (.ref 633), some (.int k), some (.int (13 + (6 * k))), c3] [.ref 633, .int (rI M 635 518)] M v M' 0 0 := Ev.back 1 (fun n => rfl) H
      have H : Ev none e 204 44 [some (.ref 633), some (.int k), some (.int (13 + (6 * k))), c3] [.ref 635, .int (rI M 635 518)] M v M' 0 0 := Ev.back 1 (gs_3 rfl rfl (gf_u hS.1 qa_633 qr_61_5 qu_63 rfl)) H
      have H : Ev none e 204 47 [some (.ref 633), some (.int k), some (.int (13 + (6 * k))), c3] [.int ((13 + (6 * k)) + 4), .ref 635, .int (rI M 635 518)] M v M' 0 0 := Ev.back 3 (fun n => rfl) H
      obtain ⟨b6, H⟩ := Ev.ial rfl rfl hS.1 qa_635 qw_63 H
      have H : Ev none e 204 48 [some (.ref 633), some (.int k), some (.int (13 + (6 * k))), c3] [.int (rI M 635 ((13 + (6 * k)) + 4)), .int (rI M 635 518)] M v M' 0 0 := H
      have H : Ev none e 204 (if (rI M 635 518) < (rI M 635 ((13 + (6 * k)) + 4)) then 194 else 51) [some (.ref 633), some (.int k), some (.int (13 + (6 * k))), c3] [] M v M' 0 0 := Ev.back 1 (fun n => rfl) H
      by_cases h7 : (rI M 635 518) < (rI M 635 ((13 + (6 * k)) + 4))
      · rw [if_pos h7] at H
        have H : Ev none e 204 2 [some (.ref 633), some (.int (k + 1)), some (.int (13 + (6 * k))), c3] [] M v M' 0 0 := Ev.back 2 (fun n => rfl) H
        have HF := H
        exact Or.inr (Or.inr (Or.inl ⟨h2, h4, h7, b1, b3, b5, b6, HF⟩))
      · rw [if_neg h7] at H
        have H : Ev none e 204 52 [some (.ref 633), some (.int k), some (.int (13 + (6 * k))), c3] [.ref 633] M v M' 0 0 := Ev.back 1 (fun n => rfl) H
        have H : Ev none e 204 55 [some (.ref 633), some (.int k), some (.int (13 + (6 * k))), c3] [.ref 635] M v M' 0 0 := Ev.back 1 (gs_3 rfl rfl (gf_u hS.1 qa_633 qr_61_5 qu_63 rfl)) H
        have H : Ev none e 204 58 [some (.ref 633), some (.int k), some (.int (13 + (6 * k))), c3] [.int 518, .ref 635] M v M' 0 0 := Ev.back 1 (fun n => rfl) H
        obtain ⟨b8, H⟩ := Ev.ial rfl rfl hS.1 qa_635 qw_63 H
        have H : Ev none e 204 59 [some (.ref 633), some (.int k), some (.int (13 + (6 * k))), c3] [.int (rI M 635 518)] M v M' 0 0 := H
        have H : Ev none e 204 60 [some (.ref 633), some (.int k), some (.int (13 + (6 * k))), c3] [.ref 633, .int (rI M 635 518)] M v M' 0 0 := Ev.back 1 (fun n => rfl) H
        have H : Ev none e 204 63 [some (.ref 633), some (.int k), some (.int (13 + (6 * k))), c3] [.ref 635, .int (rI M 635 518)] M v M' 0 0 := Ev.back 1 (gs_3 rfl rfl (gf_u hS.1 qa_633 qr_61_5 qu_63 rfl)) H
        have H : Ev none e 204 66 [some (.ref 633), some (.int k), some (.int (13 + (6 * k))), c3] [.int ((13 + (6 * k)) + 4), .ref 635, .int (rI M 635 518)] M v M' 0 0 := Ev.back 3 (fun n => rfl) H
        obtain ⟨b9, H⟩ := Ev.ial rfl rfl hS.1 qa_635 qw_63 H
        have H : Ev none e 204 67 [some (.ref 633), some (.int k), some (.int (13 + (6 * k))), c3] [.int (rI M 635 ((13 + (6 * k)) + 4)), .int (rI M 635 518)] M v M' 0 0 := H
        have H : Ev none e 204 69 [some (.ref 633), some (.int k), some (.int (13 + (6 * k))), c3] [.ref 633, .int ((rI M 635 518) - (rI M 635 ((13 + (6 * k)) + 4)))] M v M' 0 0 := Ev.back 2 (fun n => rfl) H
        have H : Ev none e 204 72 [some (.ref 633), some (.int k), some (.int (13 + (6 * k))), c3] [.ref 635, .int ((rI M 635 518) - (rI M 635 ((13 + (6 * k)) + 4)))] M v M' 0 0 := Ev.back 1 (gs_3 rfl rfl (gf_u hS.1 qa_633 qr_61_5 qu_63 rfl)) H
        have H : Ev none e 204 75 [some (.ref 633), some (.int k), some (.int (13 + (6 * k))), c3] [.int ((13 + (6 * k)) + 3), .ref 635, .int ((rI M 635 518) - (rI M 635 ((13 + (6 * k)) + 4)))] M v M' 0 0 := Ev.back 3 (fun n => rfl) H
        obtain ⟨b10, H⟩ := Ev.ial rfl rfl hS.1 qa_635 qw_63 H
        have H : Ev none e 204 76 [some (.ref 633), some (.int k), some (.int (13 + (6 * k))), c3] [.int (rI M 635 ((13 + (6 * k)) + 3)), .int ((rI M 635 518) - (rI M 635 ((13 + (6 * k)) + 4)))] M v M' 0 0 := H
        obtain ⟨nz11, H⟩ := rm_i H rfl rfl
        have H : Ev none e 204 77 [some (.ref 633), some (.int k), some (.int (13 + (6 * k))), c3] [.int (((rI M 635 518) - (rI M 635 ((13 + (6 * k)) + 4))) - ((rI M 635 518) - (rI M 635 ((13 + (6 * k)) + 4))) / (rI M 635 ((13 + (6 * k)) + 3)) * (rI M 635 ((13 + (6 * k)) + 3)))] M v M' 0 0 := H
        have H : Ev none e 204 (if (((rI M 635 518) - (rI M 635 ((13 + (6 * k)) + 4))) - ((rI M 635 518) - (rI M 635 ((13 + (6 * k)) + 4))) / (rI M 635 ((13 + (6 * k)) + 3)) * (rI M 635 ((13 + (6 * k)) + 3))) = 0 then 83 else 80) [some (.ref 633), some (.int k), some (.int (13 + (6 * k))), c3] [] M v M' 0 0 := Ev.back 1 (fun n => rfl) H
        by_cases h12 : (((rI M 635 518) - (rI M 635 ((13 + (6 * k)) + 4))) - ((rI M 635 518) - (rI M 635 ((13 + (6 * k)) + 4))) / (rI M 635 ((13 + (6 * k)) + 3)) * (rI M 635 ((13 + (6 * k)) + 3))) = 0
        · rw [if_pos h12] at H
          have H : Ev none e 204 84 [some (.ref 633), some (.int k), some (.int (13 + (6 * k))), c3] [.ref 633] M v M' 0 0 := Ev.back 1 (fun n => rfl) H
          have H : Ev none e 204 87 [some (.ref 633), some (.int k), some (.int (13 + (6 * k))), c3] [.ref 635] M v M' 0 0 := Ev.back 1 (gs_3 rfl rfl (gf_u hS.1 qa_633 qr_61_5 qu_63 rfl)) H
          have H : Ev none e 204 90 [some (.ref 633), some (.int k), some (.int (13 + (6 * k))), c3] [.int 157, .ref 635] M v M' 0 0 := Ev.back 1 (fun n => rfl) H
          obtain ⟨b13, H⟩ := Ev.ial rfl rfl hS.1 qa_635 qw_63 H
          have H : Ev none e 204 91 [some (.ref 633), some (.int k), some (.int (13 + (6 * k))), c3] [.int (rI M 635 157)] M v M' 0 0 := H
          have H : Ev none e 204 (if (rI M 635 157) = 60 then 96 else 111) [some (.ref 633), some (.int k), some (.int (13 + (6 * k))), c3] [] M v M' 0 0 := Ev.back 2 (fun n => rfl) H
          by_cases h14 : (rI M 635 157) = 60
          · rw [if_pos h14] at H
            have H : Ev none e 204 97 [some (.ref 633), some (.int k), some (.int (13 + (6 * k))), c3] [.ref 633] M v M' 0 0 := Ev.back 1 (fun n => rfl) H
            have H : Ev none e 204 100 [some (.ref 633), some (.int k), some (.int (13 + (6 * k))), c3] [.ref 635] M v M' 0 0 := Ev.back 1 (gs_3 rfl rfl (gf_u hS.1 qa_633 qr_61_5 qu_63 rfl)) H
            have H : Ev none e 204 104 [some (.ref 633), some (.int k), some (.int (13 + (6 * k))), c3] [.int 521, .ref 635, .int 521, .ref 635] M v M' 0 0 := Ev.back 2 (fun n => rfl) H
            obtain ⟨b15, H⟩ := Ev.ial rfl rfl hS.1 qa_635 qw_63 H
            have H : Ev none e 204 105 [some (.ref 633), some (.int k), some (.int (13 + (6 * k))), c3] [.int (rI M 635 521), .int 521, .ref 635] M v M' 0 0 := H
            have H : Ev none e 204 107 [some (.ref 633), some (.int k), some (.int (13 + (6 * k))), c3] [.int ((rI M 635 521) + 1), .int 521, .ref 635] M v M' 0 0 := Ev.back 2 (fun n => rfl) H
            obtain ⟨b16, H⟩ := Ev.ias rfl rfl hS.1 qa_635 qw_63 H
            obtain ⟨N17, eN17⟩ : ∃ N, N = (wI M 635 ((521 : Int32).toNatClampNeg) ((rI M 635 521) + 1)) := ⟨_, rfl⟩
            have hN17 : SQ N17 := by rw [eN17]; exact hS.ki
            have H : Ev none e 204 108 [some (.ref 633), some (.int k), some (.int (13 + (6 * k))), c3] [] N17 v M' 0 0 := by rw [eN17]; exact H
            have H : Ev none e 204 2 [some (.ref 633), some (.int (k + 1)), some (.int (13 + (6 * k))), c3] [] N17 v M' 0 0 := Ev.back 3 (fun n => rfl) H
            have HF := H
            subst eN17
            exact Or.inr (Or.inr (Or.inr (Or.inl ⟨h2, h4, h7, h12, h14, b1, b3, b5, b6, b8, b9, b10, nz11, b13, b15, b16, HF⟩)))
          · rw [if_neg h14] at H
            have H : Ev none e 204 117 [some (.ref 633), some (.int k), some (.int (13 + (6 * k))), c3] [.ref 633, .int 6, .int 158] M v M' 0 0 := Ev.back 3 (fun n => rfl) H
            have H : Ev none e 204 120 [some (.ref 633), some (.int k), some (.int (13 + (6 * k))), c3] [.ref 635, .int 6, .int 158] M v M' 0 0 := Ev.back 1 (gs_3 rfl rfl (gf_u hS.1 qa_633 qr_61_5 qu_63 rfl)) H
            have H : Ev none e 204 123 [some (.ref 633), some (.int k), some (.int (13 + (6 * k))), c3] [.int 157, .ref 635, .int 6, .int 158] M v M' 0 0 := Ev.back 1 (fun n => rfl) H
            obtain ⟨b18, H⟩ := Ev.ial rfl rfl hS.1 qa_635 qw_63 H
            have H : Ev none e 204 124 [some (.ref 633), some (.int k), some (.int (13 + (6 * k))), c3] [.int (rI M 635 157), .int 6, .int 158] M v M' 0 0 := H
            have H : Ev none e 204 128 [some (.ref 633), some (.int k), some (.int (13 + (6 * k))), some (.int (158 + (6 * (rI M 635 157))))] [.ref 633] M v M' 0 0 := Ev.back 4 (fun n => rfl) H
            have H : Ev none e 204 131 [some (.ref 633), some (.int k), some (.int (13 + (6 * k))), some (.int (158 + (6 * (rI M 635 157))))] [.ref 635] M v M' 0 0 := Ev.back 1 (gs_3 rfl rfl (gf_u hS.1 qa_633 qr_61_5 qu_63 rfl)) H
            have H : Ev none e 204 133 [some (.ref 633), some (.int k), some (.int (13 + (6 * k))), some (.int (158 + (6 * (rI M 635 157))))] [.ref 633, .int (158 + (6 * (rI M 635 157))), .ref 635] M v M' 0 0 := Ev.back 2 (fun n => rfl) H
            have H : Ev none e 204 136 [some (.ref 633), some (.int k), some (.int (13 + (6 * k))), some (.int (158 + (6 * (rI M 635 157))))] [.ref 635, .int (158 + (6 * (rI M 635 157))), .ref 635] M v M' 0 0 := Ev.back 1 (gs_3 rfl rfl (gf_u hS.1 qa_633 qr_61_5 qu_63 rfl)) H
            have H : Ev none e 204 138 [some (.ref 633), some (.int k), some (.int (13 + (6 * k))), some (.int (158 + (6 * (rI M 635 157))))] [.ref 633, .int 3, .ref 635, .int (158 + (6 * (rI M 635 157))), .ref 635] M v M' 0 0 := Ev.back 2 (fun n => rfl) H
            have H : Ev none e 204 141 [some (.ref 633), some (.int k), some (.int (13 + (6 * k))), some (.int (158 + (6 * (rI M 635 157))))] [.ref 635, .int 3, .ref 635, .int (158 + (6 * (rI M 635 157))), .ref 635] M v M' 0 0 := Ev.back 1 (gs_3 rfl rfl (gf_u hS.1 qa_633 qr_61_5 qu_63 rfl)) H
            have H : Ev none e 204 142 [some (.ref 633), some (.int k), some (.int (13 + (6 * k))), some (.int (158 + (6 * (rI M 635 157))))] [.int (13 + (6 * k)), .ref 635, .int 3, .ref 635, .int (158 + (6 * (rI M 635 157))), .ref 635] M v M' 0 0 := Ev.back 1 (fun n => rfl) H
            obtain ⟨b19, H⟩ := Ev.ial rfl rfl hS.1 qa_635 qw_63 H
            have H : Ev none e 204 143 [some (.ref 633), some (.int k), some (.int (13 + (6 * k))), some (.int (158 + (6 * (rI M 635 157))))] [.int (rI M 635 (13 + (6 * k))), .int 3, .ref 635, .int (158 + (6 * (rI M 635 157))), .ref 635] M v M' 0 0 := H
            have H : Ev none e 204 144 [some (.ref 633), some (.int k), some (.int (13 + (6 * k))), some (.int (158 + (6 * (rI M 635 157))))] [.int (3 + (rI M 635 (13 + (6 * k)))), .ref 635, .int (158 + (6 * (rI M 635 157))), .ref 635] M v M' 0 0 := Ev.back 1 (fun n => rfl) H
            obtain ⟨b20, H⟩ := Ev.ial rfl rfl hS.1 qa_635 qw_63 H
            have H : Ev none e 204 145 [some (.ref 633), some (.int k), some (.int (13 + (6 * k))), some (.int (158 + (6 * (rI M 635 157))))] [.int (rI M 635 (3 + (rI M 635 (13 + (6 * k))))), .int (158 + (6 * (rI M 635 157))), .ref 635] M v M' 0 0 := H
            obtain ⟨b21, H⟩ := Ev.ias rfl rfl hS.1 qa_635 qw_63 H
            obtain ⟨N22, eN22⟩ : ∃ N, N = (wI M 635 ((158 + (6 * (rI M 635 157))).toNatClampNeg) (rI M 635 (3 + (rI M 635 (13 + (6 * k)))))) := ⟨_, rfl⟩
            have hN22 : SQ N22 := by rw [eN22]; exact hS.ki
            have H : Ev none e 204 146 [some (.ref 633), some (.int k), some (.int (13 + (6 * k))), some (.int (158 + (6 * (rI M 635 157))))] [] N22 v M' 0 0 := by rw [eN22]; exact H
            have H : Ev none e 204 147 [some (.ref 633), some (.int k), some (.int (13 + (6 * k))), some (.int (158 + (6 * (rI M 635 157))))] [.ref 633] N22 v M' 0 0 := Ev.back 1 (fun n => rfl) H
            have H : Ev none e 204 150 [some (.ref 633), some (.int k), some (.int (13 + (6 * k))), some (.int (158 + (6 * (rI M 635 157))))] [.ref 635] N22 v M' 0 0 := Ev.back 1 (gs_3 rfl rfl (gf_u hN22.1 qa_633 qr_61_5 qu_63 rfl)) H
            have H : Ev none e 204 154 [some (.ref 633), some (.int k), some (.int (13 + (6 * k))), some (.int (158 + (6 * (rI M 635 157))))] [.int k, .int ((158 + (6 * (rI M 635 157))) + 1), .ref 635] N22 v M' 0 0 := Ev.back 4 (fun n => rfl) H
            obtain ⟨b23, H⟩ := Ev.ias rfl rfl hN22.1 qa_635 qw_63 H
            obtain ⟨N24, eN24⟩ : ∃ N, N = (wI N22 635 (((158 + (6 * (rI M 635 157))) + 1).toNatClampNeg) k) := ⟨_, rfl⟩
            have hN24 : SQ N24 := by rw [eN24]; exact hN22.ki
            have H : Ev none e 204 155 [some (.ref 633), some (.int k), some (.int (13 + (6 * k))), some (.int (158 + (6 * (rI M 635 157))))] [] N24 v M' 0 0 := by rw [eN24]; exact H
            have H : Ev none e 204 156 [some (.ref 633), some (.int k), some (.int (13 + (6 * k))), some (.int (158 + (6 * (rI M 635 157))))] [.ref 633] N24 v M' 0 0 := Ev.back 1 (fun n => rfl) H
            have H : Ev none e 204 159 [some (.ref 633), some (.int k), some (.int (13 + (6 * k))), some (.int (158 + (6 * (rI M 635 157))))] [.ref 635] N24 v M' 0 0 := Ev.back 1 (gs_3 rfl rfl (gf_u hN24.1 qa_633 qr_61_5 qu_63 rfl)) H
            have H : Ev none e 204 163 [some (.ref 633), some (.int k), some (.int (13 + (6 * k))), some (.int (158 + (6 * (rI M 635 157))))] [.int 0, .int ((158 + (6 * (rI M 635 157))) + 2), .ref 635] N24 v M' 0 0 := Ev.back 4 (fun n => rfl) H
            obtain ⟨b25, H⟩ := Ev.ias rfl rfl hN24.1 qa_635 qw_63 H
            obtain ⟨N26, eN26⟩ : ∃ N, N = (wI N24 635 (((158 + (6 * (rI M 635 157))) + 2).toNatClampNeg) 0) := ⟨_, rfl⟩
            have hN26 : SQ N26 := by rw [eN26]; exact hN24.ki
            have H : Ev none e 204 164 [some (.ref 633), some (.int k), some (.int (13 + (6 * k))), some (.int (158 + (6 * (rI M 635 157))))] [] N26 v M' 0 0 := by rw [eN26]; exact H
            have H : Ev none e 204 165 [some (.ref 633), some (.int k), some (.int (13 + (6 * k))), some (.int (158 + (6 * (rI M 635 157))))] [.ref 633] N26 v M' 0 0 := Ev.back 1 (fun n => rfl) H
            have H : Ev none e 204 168 [some (.ref 633), some (.int k), some (.int (13 + (6 * k))), some (.int (158 + (6 * (rI M 635 157))))] [.ref 635] N26 v M' 0 0 := Ev.back 1 (gs_3 rfl rfl (gf_u hN26.1 qa_633 qr_61_5 qu_63 rfl)) H
            have H : Ev none e 204 172 [some (.ref 633), some (.int k), some (.int (13 + (6 * k))), some (.int (158 + (6 * (rI M 635 157))))] [.int (-1), .int ((158 + (6 * (rI M 635 157))) + 3), .ref 635] N26 v M' 0 0 := Ev.back 4 (fun n => rfl) H
            obtain ⟨b27, H⟩ := Ev.ias rfl rfl hN26.1 qa_635 qw_63 H
            obtain ⟨N28, eN28⟩ : ∃ N, N = (wI N26 635 (((158 + (6 * (rI M 635 157))) + 3).toNatClampNeg) (-1)) := ⟨_, rfl⟩
            have hN28 : SQ N28 := by rw [eN28]; exact hN26.ki
            have H : Ev none e 204 173 [some (.ref 633), some (.int k), some (.int (13 + (6 * k))), some (.int (158 + (6 * (rI M 635 157))))] [] N28 v M' 0 0 := by rw [eN28]; exact H
            have H : Ev none e 204 174 [some (.ref 633), some (.int k), some (.int (13 + (6 * k))), some (.int (158 + (6 * (rI M 635 157))))] [.ref 633] N28 v M' 0 0 := Ev.back 1 (fun n => rfl) H
            have H : Ev none e 204 177 [some (.ref 633), some (.int k), some (.int (13 + (6 * k))), some (.int (158 + (6 * (rI M 635 157))))] [.ref 635] N28 v M' 0 0 := Ev.back 1 (gs_3 rfl rfl (gf_u hN28.1 qa_633 qr_61_5 qu_63 rfl)) H
            have H : Ev none e 204 181 [some (.ref 633), some (.int k), some (.int (13 + (6 * k))), some (.int (158 + (6 * (rI M 635 157))))] [.int (-1), .int ((158 + (6 * (rI M 635 157))) + 4), .ref 635] N28 v M' 0 0 := Ev.back 4 (fun n => rfl) H
            obtain ⟨b29, H⟩ := Ev.ias rfl rfl hN28.1 qa_635 qw_63 H
            obtain ⟨N30, eN30⟩ : ∃ N, N = (wI N28 635 (((158 + (6 * (rI M 635 157))) + 4).toNatClampNeg) (-1)) := ⟨_, rfl⟩
            have hN30 : SQ N30 := by rw [eN30]; exact hN28.ki
            have H : Ev none e 204 182 [some (.ref 633), some (.int k), some (.int (13 + (6 * k))), some (.int (158 + (6 * (rI M 635 157))))] [] N30 v M' 0 0 := by rw [eN30]; exact H
            have H : Ev none e 204 183 [some (.ref 633), some (.int k), some (.int (13 + (6 * k))), some (.int (158 + (6 * (rI M 635 157))))] [.ref 633] N30 v M' 0 0 := Ev.back 1 (fun n => rfl) H
            have H : Ev none e 204 186 [some (.ref 633), some (.int k), some (.int (13 + (6 * k))), some (.int (158 + (6 * (rI M 635 157))))] [.ref 635] N30 v M' 0 0 := Ev.back 1 (gs_3 rfl rfl (gf_u hN30.1 qa_633 qr_61_5 qu_63 rfl)) H
            have H : Ev none e 204 190 [some (.ref 633), some (.int k), some (.int (13 + (6 * k))), some (.int (158 + (6 * (rI M 635 157))))] [.int 157, .ref 635, .int 157, .ref 635] N30 v M' 0 0 := Ev.back 2 (fun n => rfl) H
            obtain ⟨b31, H⟩ := Ev.ial rfl rfl hN30.1 qa_635 qw_63 H
            have H : Ev none e 204 191 [some (.ref 633), some (.int k), some (.int (13 + (6 * k))), some (.int (158 + (6 * (rI M 635 157))))] [.int (rI N30 635 157), .int 157, .ref 635] N30 v M' 0 0 := H
            have H : Ev none e 204 193 [some (.ref 633), some (.int k), some (.int (13 + (6 * k))), some (.int (158 + (6 * (rI M 635 157))))] [.int ((rI N30 635 157) + 1), .int 157, .ref 635] N30 v M' 0 0 := Ev.back 2 (fun n => rfl) H
            obtain ⟨b32, H⟩ := Ev.ias rfl rfl hN30.1 qa_635 qw_63 H
            obtain ⟨N33, eN33⟩ : ∃ N, N = (wI N30 635 ((157 : Int32).toNatClampNeg) ((rI N30 635 157) + 1)) := ⟨_, rfl⟩
            have hN33 : SQ N33 := by rw [eN33]; exact hN30.ki
            have H : Ev none e 204 194 [some (.ref 633), some (.int k), some (.int (13 + (6 * k))), some (.int (158 + (6 * (rI M 635 157))))] [] N33 v M' 0 0 := by rw [eN33]; exact H
            have H : Ev none e 204 2 [some (.ref 633), some (.int (k + 1)), some (.int (13 + (6 * k))), some (.int (158 + (6 * (rI M 635 157))))] [] N33 v M' 0 0 := Ev.back 2 (fun n => rfl) H
            have HF := H
            subst eN22 eN24 eN26 eN28 eN30 eN33
            exact Or.inr (Or.inr (Or.inr (Or.inr (Or.inl ⟨h2, h4, h7, h12, h14, b1, b3, b5, b6, b8, b9, b10, nz11, b13, b18, b19, b20, b21, b23, b25, b27, b29, b31, b32, HF⟩))))
        · rw [if_neg h12] at H
          have H : Ev none e 204 2 [some (.ref 633), some (.int (k + 1)), some (.int (13 + (6 * k))), c3] [] M v M' 0 0 := Ev.back 3 (fun n => rfl) H
          have HF := H
          exact Or.inr (Or.inr (Or.inr (Or.inr (Or.inr (⟨h2, h4, h7, h12, b1, b3, b5, b6, b8, b9, b10, nz11, HF⟩)))))
theorem rtk_202 {e : Nat} {M M' : Mem} {v : Option Value} {k : Int32} {c2 c3 : Option Value} (hS : SQ M) (H : Ev none e 204 202 [some (.ref 633), some (.int k), c2, c3] [] M v M' 0 0) : ((rI M 635 157) ≤ k ∧ (0 ≤ (157 : Int32).toInt ∧ (157 : Int32).toInt < 2314) ∧ (0 ≤ (518 : Int32).toInt ∧ (518 : Int32).toInt < 2314) ∧ (0 ≤ (518 : Int32).toInt ∧ (518 : Int32).toInt < 2314) ∧ v = none ∧ M' = (wI M 635 ((518 : Int32).toNatClampNeg) ((rI M 635 518) + 1))) ∨ (¬ ((rI M 635 157) ≤ k) ∧ (0 ≤ (157 : Int32).toInt ∧ (157 : Int32).toInt < 2314) ∧ (∃ e1 v1 M1, e = e1 + 1 ∧ Ev none e1 206 0 [some (.ref 633), some (.int (158 + (6 * k))), none, none] [] M v1 M1 0 0 ∧ Ev none e 204 226 [some (.ref 633), some (.int k), c2, c3] (v1.toList ++ []) M1 v M' 0 0)) := by
  have H : Ev none e 204 204 [some (.ref 633), some (.int k), c2, c3] [.ref 633, .int k] M v M' 0 0 := Ev.back 2 (fun n => rfl) H
  have H : Ev none e 204 207 [some (.ref 633), some (.int k), c2, c3] [.ref 635, .int k] M v M' 0 0 := Ev.back 1 (gs_3 rfl rfl (gf_u hS.1 qa_633 qr_61_5 qu_63 rfl)) H
  have H : Ev none e 204 210 [some (.ref 633), some (.int k), c2, c3] [.int 157, .ref 635, .int k] M v M' 0 0 := Ev.back 1 (fun n => rfl) H
  obtain ⟨b1, H⟩ := Ev.ial rfl rfl hS.1 qa_635 qw_63 H
  have H : Ev none e 204 211 [some (.ref 633), some (.int k), c2, c3] [.int (rI M 635 157), .int k] M v M' 0 0 := H
  have H : Ev none e 204 (if (rI M 635 157) ≤ k then 243 else 214) [some (.ref 633), some (.int k), c2, c3] [] M v M' 0 0 := Ev.back 1 (fun n => rfl) H
  by_cases h2 : (rI M 635 157) ≤ k
  · rw [if_pos h2] at H
    have H : Ev none e 204 244 [some (.ref 633), some (.int k), c2, c3] [.ref 633] M v M' 0 0 := Ev.back 1 (fun n => rfl) H
    have H : Ev none e 204 247 [some (.ref 633), some (.int k), c2, c3] [.ref 635] M v M' 0 0 := Ev.back 1 (gs_3 rfl rfl (gf_u hS.1 qa_633 qr_61_5 qu_63 rfl)) H
    have H : Ev none e 204 251 [some (.ref 633), some (.int k), c2, c3] [.int 518, .ref 635, .int 518, .ref 635] M v M' 0 0 := Ev.back 2 (fun n => rfl) H
    obtain ⟨b3, H⟩ := Ev.ial rfl rfl hS.1 qa_635 qw_63 H
    have H : Ev none e 204 252 [some (.ref 633), some (.int k), c2, c3] [.int (rI M 635 518), .int 518, .ref 635] M v M' 0 0 := H
    have H : Ev none e 204 254 [some (.ref 633), some (.int k), c2, c3] [.int ((rI M 635 518) + 1), .int 518, .ref 635] M v M' 0 0 := Ev.back 2 (fun n => rfl) H
    obtain ⟨b4, H⟩ := Ev.ias rfl rfl hS.1 qa_635 qw_63 H
    obtain ⟨N5, eN5⟩ : ∃ N, N = (wI M 635 ((518 : Int32).toNatClampNeg) ((rI M 635 518) + 1)) := ⟨_, rfl⟩
    have hN5 : SQ N5 := by rw [eN5]; exact hS.ki
    have H : Ev none e 204 255 [some (.ref 633), some (.int k), c2, c3] [] N5 v M' 0 0 := by rw [eN5]; exact H
    obtain ⟨z1, z2⟩ := Ev.retb (fun n => rfl) H
    subst eN5
    exact Or.inl ⟨h2, b1, b3, b4, z1, z2⟩
  · rw [if_neg h2] at H
    have H : Ev none e 204 223 [some (.ref 633), some (.int k), c2, c3] [.int (158 + (6 * k)), .ref 633] M v M' 0 0 := Ev.back 6 (fun n => rfl) H
    obtain ⟨e1, rfl⟩ := Ev.dpos rfl rfl H
    obtain ⟨vK6, MK6, K6, H⟩ := Ev.callb (fun n_ => gs_7 rfl rfl (show gCal (.invokevirtual 408) 11 (.int (158 + (6 * k)) :: .ref 633 :: []) M = some (.inr (206, [some (.ref 633), some (.int (158 + (6 * k))), none, none], [])) from by show @cond (Option ((List Value × Mem) ⊕ (Nat × Lo × List Value))) (true && gRecv M (.ref 633) 11 && gRoom [] && true) (some (.inr (206, [some (.ref 633), some (.int (158 + (6 * k))), none, none], []))) none = _; rw [recv_s hS.1 qa_633 qo_61]; rfl)) H
    have K6 : Ev none e1 206 0 [some (.ref 633), some (.int (158 + (6 * k))), none, none] [] M vK6 MK6 0 0 := K6
    have HF := H
    exact Or.inr (⟨h2, b1, ⟨e1, vK6, MK6, rfl, K6, HF⟩⟩)
theorem rtk_226 {e : Nat} {M M' : Mem} {v : Option Value} {k y : Int32} {c2 c3 : Option Value} (hS : SQ M) (H : Ev none e 204 226 [some (.ref 633), some (.int k), c2, c3] [.int y] M v M' 0 0) : (y = 0 ∧ (∃ e1 v1 M1, e = e1 + 1 ∧ Ev none e1 205 0 [some (.ref 633), some (.int k), none] [] M v1 M1 0 0 ∧ Ev none e 204 240 [some (.ref 633), some (.int k), c2, c3] (v1.toList ++ []) M1 v M' 0 0)) ∨ (¬ (y = 0) ∧ Ev none e 204 202 [some (.ref 633), some (.int (k + 1)), c2, c3] [] M v M' 0 0) := by
  have H : Ev none e 204 (if y = 0 then 235 else 229) [some (.ref 633), some (.int k), c2, c3] [] M v M' 0 0 := Ev.back 1 (fun n => rfl) H
  by_cases h1 : y = 0
  · rw [if_pos h1] at H
    have H : Ev none e 204 237 [some (.ref 633), some (.int k), c2, c3] [.int k, .ref 633] M v M' 0 0 := Ev.back 2 (fun n => rfl) H
    obtain ⟨e1, rfl⟩ := Ev.dpos rfl rfl H
    obtain ⟨vK2, MK2, K2, H⟩ := Ev.callb (fun n_ => gs_7 rfl rfl (show gCal (.invokevirtual 411) 11 (.int k :: .ref 633 :: []) M = some (.inr (205, [some (.ref 633), some (.int k), none], [])) from by show @cond (Option ((List Value × Mem) ⊕ (Nat × Lo × List Value))) (true && gRecv M (.ref 633) 11 && gRoom [] && true) (some (.inr (205, [some (.ref 633), some (.int k), none], []))) none = _; rw [recv_s hS.1 qa_633 qo_61]; rfl)) H
    have K2 : Ev none e1 205 0 [some (.ref 633), some (.int k), none] [] M vK2 MK2 0 0 := K2
    have HF := H
    exact Or.inl ⟨h1, ⟨e1, vK2, MK2, rfl, K2, HF⟩⟩
  · rw [if_neg h1] at H
    have H : Ev none e 204 202 [some (.ref 633), some (.int (k + 1)), c2, c3] [] M v M' 0 0 := Ev.back 2 (fun n => rfl) H
    have HF := H
    exact Or.inr (⟨h1, HF⟩)
theorem rtk_240 {e : Nat} {M M' : Mem} {v : Option Value} {k : Int32} {c2 c3 : Option Value} (hS : SQ M) (H : Ev none e 204 240 [some (.ref 633), some (.int k), c2, c3] [] M v M' 0 0) : Ev none e 204 202 [some (.ref 633), some (.int k), c2, c3] [] M v M' 0 0 := by
  have H : Ev none e 204 202 [some (.ref 633), some (.int k), c2, c3] [] M v M' 0 0 := Ev.back 1 (fun n => rfl) H
  have HF := H
  exact HF
theorem rle_0 {e : Nat} {M M' : Mem} {v : Option Value} {k : Int32} (hS : SQ M) (H : Ev none e 205 0 [some (.ref 633), some (.int k), none] [] M v M' 0 0) : (0 ≤ (157 : Int32).toInt ∧ (157 : Int32).toInt < 2314) ∧ (0 ≤ (157 : Int32).toInt ∧ (157 : Int32).toInt < 2314) ∧ Ev none e 205 21 [some (.ref 633), some (.int k), some (.int (158 + (6 * k)))] [] (wI M 635 ((157 : Int32).toNatClampNeg) ((rI M 635 157) - 1)) v M' 0 0 := by
  have H : Ev none e 205 1 [some (.ref 633), some (.int k), none] [.ref 633] M v M' 0 0 := Ev.back 1 (fun n => rfl) H
  have H : Ev none e 205 4 [some (.ref 633), some (.int k), none] [.ref 635] M v M' 0 0 := Ev.back 1 (gs_3 rfl rfl (gf_u hS.1 qa_633 qr_61_5 qu_63 rfl)) H
  have H : Ev none e 205 8 [some (.ref 633), some (.int k), none] [.int 157, .ref 635, .int 157, .ref 635] M v M' 0 0 := Ev.back 2 (fun n => rfl) H
  obtain ⟨b1, H⟩ := Ev.ial rfl rfl hS.1 qa_635 qw_63 H
  have H : Ev none e 205 9 [some (.ref 633), some (.int k), none] [.int (rI M 635 157), .int 157, .ref 635] M v M' 0 0 := H
  have H : Ev none e 205 11 [some (.ref 633), some (.int k), none] [.int ((rI M 635 157) - 1), .int 157, .ref 635] M v M' 0 0 := Ev.back 2 (fun n => rfl) H
  obtain ⟨b2, H⟩ := Ev.ias rfl rfl hS.1 qa_635 qw_63 H
  obtain ⟨N3, eN3⟩ : ∃ N, N = (wI M 635 ((157 : Int32).toNatClampNeg) ((rI M 635 157) - 1)) := ⟨_, rfl⟩
  have hN3 : SQ N3 := by rw [eN3]; exact hS.ki
  have H : Ev none e 205 12 [some (.ref 633), some (.int k), none] [] N3 v M' 0 0 := by rw [eN3]; exact H
  have H : Ev none e 205 21 [some (.ref 633), some (.int k), some (.int (158 + (6 * k)))] [] N3 v M' 0 0 := Ev.back 6 (fun n => rfl) H
  have HF := H
  subst eN3
  exact ⟨b1, b2, HF⟩
theorem rle_21 {e : Nat} {M M' : Mem} {v : Option Value} {k i : Int32} (hS : SQ M) (H : Ev none e 205 21 [some (.ref 633), some (.int k), some (.int i)] [] M v M' 0 0) : ((158 + (6 * (rI M 635 157))) ≤ i ∧ (0 ≤ (157 : Int32).toInt ∧ (157 : Int32).toInt < 2314) ∧ (0 ≤ (157 : Int32).toInt ∧ (157 : Int32).toInt < 2314) ∧ Ev none e 205 77 [some (.ref 633), some (.int k), some (.int (158 + (6 * (rI M 635 157))))] [] M v M' 0 0) ∨ (¬ ((158 + (6 * (rI M 635 157))) ≤ i) ∧ (0 ≤ (157 : Int32).toInt ∧ (157 : Int32).toInt < 2314) ∧ (0 ≤ (i + 6).toInt ∧ (i + 6).toInt < 2314) ∧ (0 ≤ i.toInt ∧ i.toInt < 2314) ∧ Ev none e 205 21 [some (.ref 633), some (.int k), some (.int (i + 1))] [] (wI M 635 i.toNatClampNeg (rI M 635 (i + 6))) v M' 0 0) := by
  have H : Ev none e 205 28 [some (.ref 633), some (.int k), some (.int i)] [.ref 633, .int 6, .int 158, .int i] M v M' 0 0 := Ev.back 4 (fun n => rfl) H
  have H : Ev none e 205 31 [some (.ref 633), some (.int k), some (.int i)] [.ref 635, .int 6, .int 158, .int i] M v M' 0 0 := Ev.back 1 (gs_3 rfl rfl (gf_u hS.1 qa_633 qr_61_5 qu_63 rfl)) H
  have H : Ev none e 205 34 [some (.ref 633), some (.int k), some (.int i)] [.int 157, .ref 635, .int 6, .int 158, .int i] M v M' 0 0 := Ev.back 1 (fun n => rfl) H
  obtain ⟨b1, H⟩ := Ev.ial rfl rfl hS.1 qa_635 qw_63 H
  have H : Ev none e 205 35 [some (.ref 633), some (.int k), some (.int i)] [.int (rI M 635 157), .int 6, .int 158, .int i] M v M' 0 0 := H
  have H : Ev none e 205 (if (158 + (6 * (rI M 635 157))) ≤ i then 61 else 40) [some (.ref 633), some (.int k), some (.int i)] [] M v M' 0 0 := Ev.back 3 (fun n => rfl) H
  by_cases h2 : (158 + (6 * (rI M 635 157))) ≤ i
  · rw [if_pos h2] at H
    have H : Ev none e 205 67 [some (.ref 633), some (.int k), some (.int i)] [.ref 633, .int 6, .int 158] M v M' 0 0 := Ev.back 3 (fun n => rfl) H
    have H : Ev none e 205 70 [some (.ref 633), some (.int k), some (.int i)] [.ref 635, .int 6, .int 158] M v M' 0 0 := Ev.back 1 (gs_3 rfl rfl (gf_u hS.1 qa_633 qr_61_5 qu_63 rfl)) H
    have H : Ev none e 205 73 [some (.ref 633), some (.int k), some (.int i)] [.int 157, .ref 635, .int 6, .int 158] M v M' 0 0 := Ev.back 1 (fun n => rfl) H
    obtain ⟨b3, H⟩ := Ev.ial rfl rfl hS.1 qa_635 qw_63 H
    have H : Ev none e 205 74 [some (.ref 633), some (.int k), some (.int i)] [.int (rI M 635 157), .int 6, .int 158] M v M' 0 0 := H
    have H : Ev none e 205 77 [some (.ref 633), some (.int k), some (.int (158 + (6 * (rI M 635 157))))] [] M v M' 0 0 := Ev.back 3 (fun n => rfl) H
    have HF := H
    exact Or.inl ⟨h2, b1, b3, HF⟩
  · rw [if_neg h2] at H
    have H : Ev none e 205 41 [some (.ref 633), some (.int k), some (.int i)] [.ref 633] M v M' 0 0 := Ev.back 1 (fun n => rfl) H
    have H : Ev none e 205 44 [some (.ref 633), some (.int k), some (.int i)] [.ref 635] M v M' 0 0 := Ev.back 1 (gs_3 rfl rfl (gf_u hS.1 qa_633 qr_61_5 qu_63 rfl)) H
    have H : Ev none e 205 46 [some (.ref 633), some (.int k), some (.int i)] [.ref 633, .int i, .ref 635] M v M' 0 0 := Ev.back 2 (fun n => rfl) H
    have H : Ev none e 205 49 [some (.ref 633), some (.int k), some (.int i)] [.ref 635, .int i, .ref 635] M v M' 0 0 := Ev.back 1 (gs_3 rfl rfl (gf_u hS.1 qa_633 qr_61_5 qu_63 rfl)) H
    have H : Ev none e 205 53 [some (.ref 633), some (.int k), some (.int i)] [.int (i + 6), .ref 635, .int i, .ref 635] M v M' 0 0 := Ev.back 3 (fun n => rfl) H
    obtain ⟨b4, H⟩ := Ev.ial rfl rfl hS.1 qa_635 qw_63 H
    have H : Ev none e 205 54 [some (.ref 633), some (.int k), some (.int i)] [.int (rI M 635 (i + 6)), .int i, .ref 635] M v M' 0 0 := H
    obtain ⟨b5, H⟩ := Ev.ias rfl rfl hS.1 qa_635 qw_63 H
    obtain ⟨N6, eN6⟩ : ∃ N, N = (wI M 635 i.toNatClampNeg (rI M 635 (i + 6))) := ⟨_, rfl⟩
    have hN6 : SQ N6 := by rw [eN6]; exact hS.ki
    have H : Ev none e 205 55 [some (.ref 633), some (.int k), some (.int i)] [] N6 v M' 0 0 := by rw [eN6]; exact H
    have H : Ev none e 205 21 [some (.ref 633), some (.int k), some (.int (i + 1))] [] N6 v M' 0 0 := Ev.back 2 (fun n => rfl) H
    have HF := H
    subst eN6
    exact Or.inr (⟨h2, b1, b4, b5, HF⟩)
theorem rle_77 {e : Nat} {M M' : Mem} {v : Option Value} {k i : Int32} (hS : SQ M) (H : Ev none e 205 77 [some (.ref 633), some (.int k), some (.int i)] [] M v M' 0 0) : (((158 + (6 * (rI M 635 157))) + 6) ≤ i ∧ (0 ≤ (157 : Int32).toInt ∧ (157 : Int32).toInt < 2314) ∧ v = none ∧ M' = M) ∨ (¬ (((158 + (6 * (rI M 635 157))) + 6) ≤ i) ∧ (0 ≤ (157 : Int32).toInt ∧ (157 : Int32).toInt < 2314) ∧ (0 ≤ i.toInt ∧ i.toInt < 2314) ∧ Ev none e 205 77 [some (.ref 633), some (.int k), some (.int (i + 1))] [] (wI M 635 i.toNatClampNeg 0) v M' 0 0) := by
  have H : Ev none e 205 84 [some (.ref 633), some (.int k), some (.int i)] [.ref 633, .int 6, .int 158, .int i] M v M' 0 0 := Ev.back 4 (fun n => rfl) H
  have H : Ev none e 205 87 [some (.ref 633), some (.int k), some (.int i)] [.ref 635, .int 6, .int 158, .int i] M v M' 0 0 := Ev.back 1 (gs_3 rfl rfl (gf_u hS.1 qa_633 qr_61_5 qu_63 rfl)) H
  have H : Ev none e 205 90 [some (.ref 633), some (.int k), some (.int i)] [.int 157, .ref 635, .int 6, .int 158, .int i] M v M' 0 0 := Ev.back 1 (fun n => rfl) H
  obtain ⟨b1, H⟩ := Ev.ial rfl rfl hS.1 qa_635 qw_63 H
  have H : Ev none e 205 91 [some (.ref 633), some (.int k), some (.int i)] [.int (rI M 635 157), .int 6, .int 158, .int i] M v M' 0 0 := H
  have H : Ev none e 205 (if ((158 + (6 * (rI M 635 157))) + 6) ≤ i then 112 else 99) [some (.ref 633), some (.int k), some (.int i)] [] M v M' 0 0 := Ev.back 5 (fun n => rfl) H
  by_cases h2 : ((158 + (6 * (rI M 635 157))) + 6) ≤ i
  · rw [if_pos h2] at H
    obtain ⟨z1, z2⟩ := Ev.retb (fun n => rfl) H
    exact Or.inl ⟨h2, b1, z1, z2⟩
  · rw [if_neg h2] at H
    have H : Ev none e 205 100 [some (.ref 633), some (.int k), some (.int i)] [.ref 633] M v M' 0 0 := Ev.back 1 (fun n => rfl) H
    have H : Ev none e 205 103 [some (.ref 633), some (.int k), some (.int i)] [.ref 635] M v M' 0 0 := Ev.back 1 (gs_3 rfl rfl (gf_u hS.1 qa_633 qr_61_5 qu_63 rfl)) H
    have H : Ev none e 205 105 [some (.ref 633), some (.int k), some (.int i)] [.int 0, .int i, .ref 635] M v M' 0 0 := Ev.back 2 (fun n => rfl) H
    obtain ⟨b3, H⟩ := Ev.ias rfl rfl hS.1 qa_635 qw_63 H
    obtain ⟨N4, eN4⟩ : ∃ N, N = (wI M 635 i.toNatClampNeg 0) := ⟨_, rfl⟩
    have hN4 : SQ N4 := by rw [eN4]; exact hS.ki
    have H : Ev none e 205 106 [some (.ref 633), some (.int k), some (.int i)] [] N4 v M' 0 0 := by rw [eN4]; exact H
    have H : Ev none e 205 77 [some (.ref 633), some (.int k), some (.int (i + 1))] [] N4 v M' 0 0 := Ev.back 2 (fun n => rfl) H
    have HF := H
    subst eN4
    exact Or.inr (⟨h2, b1, b3, HF⟩)
theorem rgo_0 {e : Nat} {M M' : Mem} {v : Option Value} {ww : Int32} (hS : SQ M) (H : Ev none e 206 0 [some (.ref 633), some (.int ww), none, none] [] M v M' 0 0) : (0 ≤ (ww + 1).toInt ∧ (ww + 1).toInt < 2314) ∧ (0 ≤ ww.toInt ∧ ww.toInt < 2314) ∧ (0 ≤ ((13 + (6 * (rI M 635 (ww + 1)))) + 1).toInt ∧ ((13 + (6 * (rI M 635 (ww + 1)))) + 1).toInt < 2314) ∧ (0 ≤ (3 + (rI M 635 ((13 + (6 * (rI M 635 (ww + 1)))) + 1))).toInt ∧ (3 + (rI M 635 ((13 + (6 * (rI M 635 (ww + 1)))) + 1))).toInt < 2314) ∧ (0 ≤ ((13 + (6 * (rI M 635 (ww + 1)))) + 2).toInt ∧ ((13 + (6 * (rI M 635 (ww + 1)))) + 2).toInt < 2314) ∧ (0 ≤ (ww + 3).toInt ∧ (ww + 3).toInt < 2314) ∧ (0 ≤ (ww + 4).toInt ∧ (ww + 4).toInt < 2314) ∧ (∃ e1 v1 M1, e = e1 + 1 ∧ Ev none e1 202 0 [some (.ref 633), none, none, none, none, none] [] (wF (wF (wF (wF (wF (wF M 633 34 (rI M 635 ww)) 633 35 (rI M 635 (3 + (rI M 635 ((13 + (6 * (rI M 635 (ww + 1)))) + 1))))) 633 36 (1 + (rI M 635 ((13 + (6 * (rI M 635 (ww + 1)))) + 2)))) 633 37 (rI M 635 (ww + 3))) 633 38 (rI M 635 (ww + 4))) 633 39 0) v1 M1 0 0 ∧ Ev none e 206 91 [some (.ref 633), some (.int ww), some (.int (13 + (6 * (rI M 635 (ww + 1))))), none] (v1.toList ++ []) M1 v M' 0 0) := by
  have H : Ev none e 206 5 [some (.ref 633), some (.int ww), none, none] [.ref 633, .int 6, .int 13] M v M' 0 0 := Ev.back 3 (fun n => rfl) H
  have H : Ev none e 206 8 [some (.ref 633), some (.int ww), none, none] [.ref 635, .int 6, .int 13] M v M' 0 0 := Ev.back 1 (gs_3 rfl rfl (gf_u hS.1 qa_633 qr_61_5 qu_63 rfl)) H
  have H : Ev none e 206 11 [some (.ref 633), some (.int ww), none, none] [.int (ww + 1), .ref 635, .int 6, .int 13] M v M' 0 0 := Ev.back 3 (fun n => rfl) H
  obtain ⟨b1, H⟩ := Ev.ial rfl rfl hS.1 qa_635 qw_63 H
  have H : Ev none e 206 12 [some (.ref 633), some (.int ww), none, none] [.int (rI M 635 (ww + 1)), .int 6, .int 13] M v M' 0 0 := H
  have H : Ev none e 206 17 [some (.ref 633), some (.int ww), some (.int (13 + (6 * (rI M 635 (ww + 1))))), none] [.ref 633, .ref 633] M v M' 0 0 := Ev.back 5 (fun n => rfl) H
  have H : Ev none e 206 20 [some (.ref 633), some (.int ww), some (.int (13 + (6 * (rI M 635 (ww + 1))))), none] [.ref 635, .ref 633] M v M' 0 0 := Ev.back 1 (gs_3 rfl rfl (gf_u hS.1 qa_633 qr_61_5 qu_63 rfl)) H
  have H : Ev none e 206 21 [some (.ref 633), some (.int ww), some (.int (13 + (6 * (rI M 635 (ww + 1))))), none] [.int ww, .ref 635, .ref 633] M v M' 0 0 := Ev.back 1 (fun n => rfl) H
  obtain ⟨b2, H⟩ := Ev.ial rfl rfl hS.1 qa_635 qw_63 H
  have H : Ev none e 206 22 [some (.ref 633), some (.int ww), some (.int (13 + (6 * (rI M 635 (ww + 1))))), none] [.int (rI M 635 ww), .ref 633] M v M' 0 0 := H
  obtain ⟨N4, eN4⟩ : ∃ N, N = (wF M 633 34 (rI M 635 ww)) := ⟨_, rfl⟩
  have hN4 : SQ N4 := by rw [eN4]; exact hS.kf
  have H : Ev none e 206 25 [some (.ref 633), some (.int ww), some (.int (13 + (6 * (rI M 635 (ww + 1))))), none] [] N4 v M' 0 0 := by rw [eN4]; exact Ev.pfi rfl rfl rfl hS.1 qa_633 qi_61_34 H
  have H : Ev none e 206 27 [some (.ref 633), some (.int ww), some (.int (13 + (6 * (rI M 635 (ww + 1))))), none] [.ref 633, .ref 633] N4 v M' 0 0 := Ev.back 2 (fun n => rfl) H
  have H : Ev none e 206 30 [some (.ref 633), some (.int ww), some (.int (13 + (6 * (rI M 635 (ww + 1))))), none] [.ref 635, .ref 633] N4 v M' 0 0 := Ev.back 1 (gs_3 rfl rfl (gf_u hN4.1 qa_633 qr_61_5 qu_63 rfl)) H
  have H : Ev none e 206 32 [some (.ref 633), some (.int ww), some (.int (13 + (6 * (rI M 635 (ww + 1))))), none] [.ref 633, .int 3, .ref 635, .ref 633] N4 v M' 0 0 := Ev.back 2 (fun n => rfl) H
  have H : Ev none e 206 35 [some (.ref 633), some (.int ww), some (.int (13 + (6 * (rI M 635 (ww + 1))))), none] [.ref 635, .int 3, .ref 635, .ref 633] N4 v M' 0 0 := Ev.back 1 (gs_3 rfl rfl (gf_u hN4.1 qa_633 qr_61_5 qu_63 rfl)) H
  have H : Ev none e 206 38 [some (.ref 633), some (.int ww), some (.int (13 + (6 * (rI M 635 (ww + 1))))), none] [.int ((13 + (6 * (rI M 635 (ww + 1)))) + 1), .ref 635, .int 3, .ref 635, .ref 633] N4 v M' 0 0 := Ev.back 3 (fun n => rfl) H
  obtain ⟨b5, H⟩ := Ev.ial rfl rfl hN4.1 qa_635 qw_63 H
  have H : Ev none e 206 39 [some (.ref 633), some (.int ww), some (.int (13 + (6 * (rI M 635 (ww + 1))))), none] [.int (rI N4 635 ((13 + (6 * (rI M 635 (ww + 1)))) + 1)), .int 3, .ref 635, .ref 633] N4 v M' 0 0 := H
  rw [show rI N4 635 ((13 + (6 * (rI M 635 (ww + 1)))) + 1) = rI M 635 ((13 + (6 * (rI M 635 (ww + 1)))) + 1) from by rw [eN4]; exact rN_wF] at H
  have H : Ev none e 206 40 [some (.ref 633), some (.int ww), some (.int (13 + (6 * (rI M 635 (ww + 1))))), none] [.int (3 + (rI M 635 ((13 + (6 * (rI M 635 (ww + 1)))) + 1))), .ref 635, .ref 633] N4 v M' 0 0 := Ev.back 1 (fun n => rfl) H
  obtain ⟨b6, H⟩ := Ev.ial rfl rfl hN4.1 qa_635 qw_63 H
  have H : Ev none e 206 41 [some (.ref 633), some (.int ww), some (.int (13 + (6 * (rI M 635 (ww + 1))))), none] [.int (rI N4 635 (3 + (rI M 635 ((13 + (6 * (rI M 635 (ww + 1)))) + 1)))), .ref 633] N4 v M' 0 0 := H
  rw [show rI N4 635 (3 + (rI M 635 ((13 + (6 * (rI M 635 (ww + 1)))) + 1))) = rI M 635 (3 + (rI M 635 ((13 + (6 * (rI M 635 (ww + 1)))) + 1))) from by rw [eN4]; exact rN_wF] at H
  obtain ⟨N8, eN8⟩ : ∃ N, N = (wF N4 633 35 (rI M 635 (3 + (rI M 635 ((13 + (6 * (rI M 635 (ww + 1)))) + 1))))) := ⟨_, rfl⟩
  have hN8 : SQ N8 := by rw [eN8]; exact hN4.kf
  have H : Ev none e 206 44 [some (.ref 633), some (.int ww), some (.int (13 + (6 * (rI M 635 (ww + 1))))), none] [] N8 v M' 0 0 := by rw [eN8]; exact Ev.pfi rfl rfl rfl hN4.1 qa_633 qi_61_35 H
  have H : Ev none e 206 47 [some (.ref 633), some (.int ww), some (.int (13 + (6 * (rI M 635 (ww + 1))))), none] [.ref 633, .int 1, .ref 633] N8 v M' 0 0 := Ev.back 3 (fun n => rfl) H
  have H : Ev none e 206 50 [some (.ref 633), some (.int ww), some (.int (13 + (6 * (rI M 635 (ww + 1))))), none] [.ref 635, .int 1, .ref 633] N8 v M' 0 0 := Ev.back 1 (gs_3 rfl rfl (gf_u hN8.1 qa_633 qr_61_5 qu_63 rfl)) H
  have H : Ev none e 206 53 [some (.ref 633), some (.int ww), some (.int (13 + (6 * (rI M 635 (ww + 1))))), none] [.int ((13 + (6 * (rI M 635 (ww + 1)))) + 2), .ref 635, .int 1, .ref 633] N8 v M' 0 0 := Ev.back 3 (fun n => rfl) H
  obtain ⟨b9, H⟩ := Ev.ial rfl rfl hN8.1 qa_635 qw_63 H
  have H : Ev none e 206 54 [some (.ref 633), some (.int ww), some (.int (13 + (6 * (rI M 635 (ww + 1))))), none] [.int (rI N8 635 ((13 + (6 * (rI M 635 (ww + 1)))) + 2)), .int 1, .ref 633] N8 v M' 0 0 := H
  rw [(show rI N8 635 ((13 + (6 * (rI M 635 (ww + 1)))) + 2) = rI N4 635 ((13 + (6 * (rI M 635 (ww + 1)))) + 2) from by rw [eN8]; exact rN_wF).trans (show rI N4 635 ((13 + (6 * (rI M 635 (ww + 1)))) + 2) = rI M 635 ((13 + (6 * (rI M 635 (ww + 1)))) + 2) from by rw [eN4]; exact rN_wF)] at H
  have H : Ev none e 206 55 [some (.ref 633), some (.int ww), some (.int (13 + (6 * (rI M 635 (ww + 1))))), none] [.int (1 + (rI M 635 ((13 + (6 * (rI M 635 (ww + 1)))) + 2))), .ref 633] N8 v M' 0 0 := Ev.back 1 (fun n => rfl) H
  obtain ⟨N11, eN11⟩ : ∃ N, N = (wF N8 633 36 (1 + (rI M 635 ((13 + (6 * (rI M 635 (ww + 1)))) + 2)))) := ⟨_, rfl⟩
  have hN11 : SQ N11 := by rw [eN11]; exact hN8.kf
  have H : Ev none e 206 58 [some (.ref 633), some (.int ww), some (.int (13 + (6 * (rI M 635 (ww + 1))))), none] [] N11 v M' 0 0 := by rw [eN11]; exact Ev.pfi rfl rfl rfl hN8.1 qa_633 qi_61_36 H
  have H : Ev none e 206 60 [some (.ref 633), some (.int ww), some (.int (13 + (6 * (rI M 635 (ww + 1))))), none] [.ref 633, .ref 633] N11 v M' 0 0 := Ev.back 2 (fun n => rfl) H
  have H : Ev none e 206 63 [some (.ref 633), some (.int ww), some (.int (13 + (6 * (rI M 635 (ww + 1))))), none] [.ref 635, .ref 633] N11 v M' 0 0 := Ev.back 1 (gs_3 rfl rfl (gf_u hN11.1 qa_633 qr_61_5 qu_63 rfl)) H
  have H : Ev none e 206 66 [some (.ref 633), some (.int ww), some (.int (13 + (6 * (rI M 635 (ww + 1))))), none] [.int (ww + 3), .ref 635, .ref 633] N11 v M' 0 0 := Ev.back 3 (fun n => rfl) H
  obtain ⟨b12, H⟩ := Ev.ial rfl rfl hN11.1 qa_635 qw_63 H
  have H : Ev none e 206 67 [some (.ref 633), some (.int ww), some (.int (13 + (6 * (rI M 635 (ww + 1))))), none] [.int (rI N11 635 (ww + 3)), .ref 633] N11 v M' 0 0 := H
  rw [((show rI N11 635 (ww + 3) = rI N8 635 (ww + 3) from by rw [eN11]; exact rN_wF).trans (show rI N8 635 (ww + 3) = rI N4 635 (ww + 3) from by rw [eN8]; exact rN_wF)).trans (show rI N4 635 (ww + 3) = rI M 635 (ww + 3) from by rw [eN4]; exact rN_wF)] at H
  obtain ⟨N14, eN14⟩ : ∃ N, N = (wF N11 633 37 (rI M 635 (ww + 3))) := ⟨_, rfl⟩
  have hN14 : SQ N14 := by rw [eN14]; exact hN11.kf
  have H : Ev none e 206 70 [some (.ref 633), some (.int ww), some (.int (13 + (6 * (rI M 635 (ww + 1))))), none] [] N14 v M' 0 0 := by rw [eN14]; exact Ev.pfi rfl rfl rfl hN11.1 qa_633 qi_61_37 H
  have H : Ev none e 206 72 [some (.ref 633), some (.int ww), some (.int (13 + (6 * (rI M 635 (ww + 1))))), none] [.ref 633, .ref 633] N14 v M' 0 0 := Ev.back 2 (fun n => rfl) H
  have H : Ev none e 206 75 [some (.ref 633), some (.int ww), some (.int (13 + (6 * (rI M 635 (ww + 1))))), none] [.ref 635, .ref 633] N14 v M' 0 0 := Ev.back 1 (gs_3 rfl rfl (gf_u hN14.1 qa_633 qr_61_5 qu_63 rfl)) H
  have H : Ev none e 206 78 [some (.ref 633), some (.int ww), some (.int (13 + (6 * (rI M 635 (ww + 1))))), none] [.int (ww + 4), .ref 635, .ref 633] N14 v M' 0 0 := Ev.back 3 (fun n => rfl) H
  obtain ⟨b15, H⟩ := Ev.ial rfl rfl hN14.1 qa_635 qw_63 H
  have H : Ev none e 206 79 [some (.ref 633), some (.int ww), some (.int (13 + (6 * (rI M 635 (ww + 1))))), none] [.int (rI N14 635 (ww + 4)), .ref 633] N14 v M' 0 0 := H
  rw [(((show rI N14 635 (ww + 4) = rI N11 635 (ww + 4) from by rw [eN14]; exact rN_wF).trans (show rI N11 635 (ww + 4) = rI N8 635 (ww + 4) from by rw [eN11]; exact rN_wF)).trans (show rI N8 635 (ww + 4) = rI N4 635 (ww + 4) from by rw [eN8]; exact rN_wF)).trans (show rI N4 635 (ww + 4) = rI M 635 (ww + 4) from by rw [eN4]; exact rN_wF)] at H
  obtain ⟨N17, eN17⟩ : ∃ N, N = (wF N14 633 38 (rI M 635 (ww + 4))) := ⟨_, rfl⟩
  have hN17 : SQ N17 := by rw [eN17]; exact hN14.kf
  have H : Ev none e 206 82 [some (.ref 633), some (.int ww), some (.int (13 + (6 * (rI M 635 (ww + 1))))), none] [] N17 v M' 0 0 := by rw [eN17]; exact Ev.pfi rfl rfl rfl hN14.1 qa_633 qi_61_38 H
  have H : Ev none e 206 84 [some (.ref 633), some (.int ww), some (.int (13 + (6 * (rI M 635 (ww + 1))))), none] [.int 0, .ref 633] N17 v M' 0 0 := Ev.back 2 (fun n => rfl) H
  obtain ⟨N19, eN19⟩ : ∃ N, N = (wF N17 633 39 0) := ⟨_, rfl⟩
  have hN19 : SQ N19 := by rw [eN19]; exact hN17.kf
  have H : Ev none e 206 87 [some (.ref 633), some (.int ww), some (.int (13 + (6 * (rI M 635 (ww + 1))))), none] [] N19 v M' 0 0 := by rw [eN19]; exact Ev.pfi rfl rfl rfl hN17.1 qa_633 qi_61_39 H
  have H : Ev none e 206 88 [some (.ref 633), some (.int ww), some (.int (13 + (6 * (rI M 635 (ww + 1))))), none] [.ref 633] N19 v M' 0 0 := Ev.back 1 (fun n => rfl) H
  obtain ⟨e1, rfl⟩ := Ev.dpos rfl rfl H
  obtain ⟨vK20, MK20, K20, H⟩ := Ev.callb (fun n_ => gs_7 rfl rfl (show gCal (.invokevirtual 414) 11 (.ref 633 :: []) N19 = some (.inr (202, [some (.ref 633), none, none, none, none, none], [])) from by show @cond (Option ((List Value × Mem) ⊕ (Nat × Lo × List Value))) (true && gRecv N19 (.ref 633) 11 && gRoom [] && true) (some (.inr (202, [some (.ref 633), none, none, none, none, none], []))) none = _; rw [recv_s hN19.1 qa_633 qo_61]; rfl)) H
  have K20 : Ev none e1 202 0 [some (.ref 633), none, none, none, none, none] [] N19 vK20 MK20 0 0 := K20
  have HF := H
  subst eN4 eN8 eN11 eN14 eN17 eN19
  exact ⟨b1, b2, b5, b6, b9, b12, b15, ⟨e1, vK20, MK20, rfl, K20, HF⟩⟩
theorem rgo_91 {e : Nat} {M M' : Mem} {v : Option Value} {ww x d : Int32} (hS : SQ M) (H : Ev none e 206 91 [some (.ref 633), some (.int ww), some (.int x), none] [.int d] M v M' 0 0) : (d < 0 ∧ (0 ≤ (ww + 2).toInt ∧ (ww + 2).toInt < 2314) ∧ (0 ≤ (ww + 2).toInt ∧ (ww + 2).toInt < 2314) ∧ Ev none e 206 154 [some (.ref 633), some (.int ww), some (.int x), some (.int d)] [] (wI M 635 ((ww + 2).toNatClampNeg) ((rI M 635 (ww + 2)) + 1)) v M' 0 0) ∨ (¬ (d < 0) ∧ (0 ≤ (ww + 2).toInt ∧ (ww + 2).toInt < 2314) ∧ (0 ≤ (ww + 2).toInt ∧ (ww + 2).toInt < 2314) ∧ (0 ≤ (ww + 3).toInt ∧ (ww + 3).toInt < 2314) ∧ (0 ≤ (ww + 4).toInt ∧ (ww + 4).toInt < 2314) ∧ (0 ≤ ww.toInt ∧ ww.toInt < 2314) ∧ (0 ≤ ww.toInt ∧ ww.toInt < 2314) ∧ (∃ e1 v1 M1, e = e1 + 1 ∧ Ev none e1 203 0 [some (.ref 633), some (.int (rI (wI (wI (wI (wI M 635 ((ww + 2).toNatClampNeg) ((rI M 635 (ww + 2)) + 1)) 635 ((ww + 3).toNatClampNeg) d) 635 ((ww + 4).toNatClampNeg) (zI M 633 34)) 635 ww.toNatClampNeg (G_194 (wI (wI (wI M 635 ((ww + 2).toNatClampNeg) ((rI M 635 (ww + 2)) + 1)) 635 ((ww + 3).toNatClampNeg) d) 635 ((ww + 4).toNatClampNeg) (zI M 633 34)) (zI M 633 34) d)) 635 ww)), none] [] (wI (wI (wI (wI M 635 ((ww + 2).toNatClampNeg) ((rI M 635 (ww + 2)) + 1)) 635 ((ww + 3).toNatClampNeg) d) 635 ((ww + 4).toNatClampNeg) (zI M 633 34)) 635 ww.toNatClampNeg (G_194 (wI (wI (wI M 635 ((ww + 2).toNatClampNeg) ((rI M 635 (ww + 2)) + 1)) 635 ((ww + 3).toNatClampNeg) d) 635 ((ww + 4).toNatClampNeg) (zI M 633 34)) (zI M 633 34) d)) v1 M1 0 0 ∧ Ev none e 206 154 [some (.ref 633), some (.int ww), some (.int x), some (.int d)] (v1.toList ++ []) M1 v M' 0 0)) := by
  have H : Ev none e 206 93 [some (.ref 633), some (.int ww), some (.int x), some (.int d)] [.ref 633] M v M' 0 0 := Ev.back 2 (fun n => rfl) H
  have H : Ev none e 206 96 [some (.ref 633), some (.int ww), some (.int x), some (.int d)] [.ref 635] M v M' 0 0 := Ev.back 1 (gs_3 rfl rfl (gf_u hS.1 qa_633 qr_61_5 qu_63 rfl)) H
  have H : Ev none e 206 100 [some (.ref 633), some (.int ww), some (.int x), some (.int d)] [.int (ww + 2), .ref 635, .int (ww + 2), .ref 635] M v M' 0 0 := Ev.back 4 (fun n => rfl) H
  obtain ⟨b1, H⟩ := Ev.ial rfl rfl hS.1 qa_635 qw_63 H
  have H : Ev none e 206 101 [some (.ref 633), some (.int ww), some (.int x), some (.int d)] [.int (rI M 635 (ww + 2)), .int (ww + 2), .ref 635] M v M' 0 0 := H
  have H : Ev none e 206 103 [some (.ref 633), some (.int ww), some (.int x), some (.int d)] [.int ((rI M 635 (ww + 2)) + 1), .int (ww + 2), .ref 635] M v M' 0 0 := Ev.back 2 (fun n => rfl) H
  obtain ⟨b2, H⟩ := Ev.ias rfl rfl hS.1 qa_635 qw_63 H
  obtain ⟨N3, eN3⟩ : ∃ N, N = (wI M 635 ((ww + 2).toNatClampNeg) ((rI M 635 (ww + 2)) + 1)) := ⟨_, rfl⟩
  have hN3 : SQ N3 := by rw [eN3]; exact hS.ki
  have H : Ev none e 206 104 [some (.ref 633), some (.int ww), some (.int x), some (.int d)] [] N3 v M' 0 0 := by rw [eN3]; exact H
  have H : Ev none e 206 (if d < 0 then 154 else 108) [some (.ref 633), some (.int ww), some (.int x), some (.int d)] [] N3 v M' 0 0 := Ev.back 2 (fun n => rfl) H
  by_cases h4 : d < 0
  · rw [if_pos h4] at H
    have HF := H
    subst eN3
    exact Or.inl ⟨h4, b1, b2, HF⟩
  · rw [if_neg h4] at H
    have H : Ev none e 206 109 [some (.ref 633), some (.int ww), some (.int x), some (.int d)] [.ref 633] N3 v M' 0 0 := Ev.back 1 (fun n => rfl) H
    have H : Ev none e 206 112 [some (.ref 633), some (.int ww), some (.int x), some (.int d)] [.ref 635] N3 v M' 0 0 := Ev.back 1 (gs_3 rfl rfl (gf_u hN3.1 qa_633 qr_61_5 qu_63 rfl)) H
    have H : Ev none e 206 116 [some (.ref 633), some (.int ww), some (.int x), some (.int d)] [.int d, .int (ww + 3), .ref 635] N3 v M' 0 0 := Ev.back 4 (fun n => rfl) H
    obtain ⟨b5, H⟩ := Ev.ias rfl rfl hN3.1 qa_635 qw_63 H
    obtain ⟨N6, eN6⟩ : ∃ N, N = (wI N3 635 ((ww + 3).toNatClampNeg) d) := ⟨_, rfl⟩
    have hN6 : SQ N6 := by rw [eN6]; exact hN3.ki
    have H : Ev none e 206 117 [some (.ref 633), some (.int ww), some (.int x), some (.int d)] [] N6 v M' 0 0 := by rw [eN6]; exact H
    have H : Ev none e 206 118 [some (.ref 633), some (.int ww), some (.int x), some (.int d)] [.ref 633] N6 v M' 0 0 := Ev.back 1 (fun n => rfl) H
    have H : Ev none e 206 121 [some (.ref 633), some (.int ww), some (.int x), some (.int d)] [.ref 635] N6 v M' 0 0 := Ev.back 1 (gs_3 rfl rfl (gf_u hN6.1 qa_633 qr_61_5 qu_63 rfl)) H
    have H : Ev none e 206 125 [some (.ref 633), some (.int ww), some (.int x), some (.int d)] [.ref 633, .int (ww + 4), .ref 635] N6 v M' 0 0 := Ev.back 4 (fun n => rfl) H
    have H : Ev none e 206 128 [some (.ref 633), some (.int ww), some (.int x), some (.int d)] [.int (zI N6 633 34), .int (ww + 4), .ref 635] N6 v M' 0 0 := Ev.back 1 (gs_3 rfl rfl (gf_i hN6.1 qa_633 qi_61_34 rfl)) H
    rw [(show zI N6 633 34 = zI N3 633 34 from by rw [eN6]; exact fI_wI).trans (show zI N3 633 34 = zI M 633 34 from by rw [eN3]; exact fI_wI)] at H
    obtain ⟨b7, H⟩ := Ev.ias rfl rfl hN6.1 qa_635 qw_63 H
    obtain ⟨N8, eN8⟩ : ∃ N, N = (wI N6 635 ((ww + 4).toNatClampNeg) (zI M 633 34)) := ⟨_, rfl⟩
    have hN8 : SQ N8 := by rw [eN8]; exact hN6.ki
    have H : Ev none e 206 129 [some (.ref 633), some (.int ww), some (.int x), some (.int d)] [] N8 v M' 0 0 := by rw [eN8]; exact H
    have H : Ev none e 206 130 [some (.ref 633), some (.int ww), some (.int x), some (.int d)] [.ref 633] N8 v M' 0 0 := Ev.back 1 (fun n => rfl) H
    have H : Ev none e 206 133 [some (.ref 633), some (.int ww), some (.int x), some (.int d)] [.ref 635] N8 v M' 0 0 := Ev.back 1 (gs_3 rfl rfl (gf_u hN8.1 qa_633 qr_61_5 qu_63 rfl)) H
    have H : Ev none e 206 136 [some (.ref 633), some (.int ww), some (.int x), some (.int d)] [.ref 633, .ref 633, .int ww, .ref 635] N8 v M' 0 0 := Ev.back 3 (fun n => rfl) H
    have H : Ev none e 206 139 [some (.ref 633), some (.int ww), some (.int x), some (.int d)] [.int (zI N8 633 34), .ref 633, .int ww, .ref 635] N8 v M' 0 0 := Ev.back 1 (gs_3 rfl rfl (gf_i hN8.1 qa_633 qi_61_34 rfl)) H
    rw [((show zI N8 633 34 = zI N6 633 34 from by rw [eN8]; exact fI_wI).trans (show zI N6 633 34 = zI N3 633 34 from by rw [eN6]; exact fI_wI)).trans (show zI N3 633 34 = zI M 633 34 from by rw [eN3]; exact fI_wI)] at H
    have H : Ev none e 206 140 [some (.ref 633), some (.int ww), some (.int x), some (.int d)] [.int d, .int (zI M 633 34), .ref 633, .int ww, .ref 635] N8 v M' 0 0 := Ev.back 1 (fun n => rfl) H
    obtain ⟨e1, rfl⟩ := Ev.dpos rfl rfl H
    obtain ⟨vK9, MK9, K9, H⟩ := Ev.callb (fun n_ => gs_7 rfl rfl (show gCal (.invokevirtual 380) 11 (.int d :: .int (zI M 633 34) :: .ref 633 :: [.int ww, .ref 635]) N8 = some (.inr (194, [some (.ref 633), some (.int (zI M 633 34)), some (.int d), none, none], [.int ww, .ref 635])) from by show @cond (Option ((List Value × Mem) ⊕ (Nat × Lo × List Value))) (true && gRecv N8 (.ref 633) 11 && gRoom [.int ww, .ref 635] && true) (some (.inr (194, [some (.ref 633), some (.int (zI M 633 34)), some (.int d), none, none], [.int ww, .ref 635]))) none = _; rw [recv_s hN8.1 qa_633 qo_61]; rfl)) H
    obtain ⟨pK9, qK9⟩ := g_194 hN8 K9
    rw [pK9, qK9] at H
    have H : Ev none (e1 + 1) 206 143 [some (.ref 633), some (.int ww), some (.int x), some (.int d)] [.int (G_194 N8 (zI M 633 34) d), .int ww, .ref 635] N8 v M' 0 0 := H
    obtain ⟨b10, H⟩ := Ev.ias rfl rfl hN8.1 qa_635 qw_63 H
    obtain ⟨N11, eN11⟩ : ∃ N, N = (wI N8 635 ww.toNatClampNeg (G_194 N8 (zI M 633 34) d)) := ⟨_, rfl⟩
    have hN11 : SQ N11 := by rw [eN11]; exact hN8.ki
    have H : Ev none (e1 + 1) 206 144 [some (.ref 633), some (.int ww), some (.int x), some (.int d)] [] N11 v M' 0 0 := by rw [eN11]; exact H
    have H : Ev none (e1 + 1) 206 146 [some (.ref 633), some (.int ww), some (.int x), some (.int d)] [.ref 633, .ref 633] N11 v M' 0 0 := Ev.back 2 (fun n => rfl) H
    have H : Ev none (e1 + 1) 206 149 [some (.ref 633), some (.int ww), some (.int x), some (.int d)] [.ref 635, .ref 633] N11 v M' 0 0 := Ev.back 1 (gs_3 rfl rfl (gf_u hN11.1 qa_633 qr_61_5 qu_63 rfl)) H
    have H : Ev none (e1 + 1) 206 150 [some (.ref 633), some (.int ww), some (.int x), some (.int d)] [.int ww, .ref 635, .ref 633] N11 v M' 0 0 := Ev.back 1 (fun n => rfl) H
    obtain ⟨b12, H⟩ := Ev.ial rfl rfl hN11.1 qa_635 qw_63 H
    have H : Ev none (e1 + 1) 206 151 [some (.ref 633), some (.int ww), some (.int x), some (.int d)] [.int (rI N11 635 ww), .ref 633] N11 v M' 0 0 := H
    obtain ⟨vK13, MK13, K13, H⟩ := Ev.callb (fun n_ => gs_7 rfl rfl (show gCal (.invokevirtual 417) 11 (.int (rI N11 635 ww) :: .ref 633 :: []) N11 = some (.inr (203, [some (.ref 633), some (.int (rI N11 635 ww)), none], [])) from by show @cond (Option ((List Value × Mem) ⊕ (Nat × Lo × List Value))) (true && gRecv N11 (.ref 633) 11 && gRoom [] && true) (some (.inr (203, [some (.ref 633), some (.int (rI N11 635 ww)), none], []))) none = _; rw [recv_s hN11.1 qa_633 qo_61]; rfl)) H
    have K13 : Ev none e1 203 0 [some (.ref 633), some (.int (rI N11 635 ww)), none] [] N11 vK13 MK13 0 0 := K13
    have HF := H
    subst eN3 eN6 eN8 eN11
    exact Or.inr (⟨h4, b1, b2, b5, b7, b10, b12, ⟨e1, vK13, MK13, rfl, K13, HF⟩⟩)
theorem rgo_154 {e : Nat} {M M' : Mem} {v : Option Value} {ww x d : Int32} (hS : SQ M) (H : Ev none e 206 154 [some (.ref 633), some (.int ww), some (.int x), some (.int d)] [] M v M' 0 0) : ((rI M 635 ww) = (zI M 633 35) ∧ (0 ≤ ww.toInt ∧ ww.toInt < 2314) ∧ (0 ≤ (519 : Int32).toInt ∧ (519 : Int32).toInt < 2314) ∧ (0 ≤ (519 : Int32).toInt ∧ (519 : Int32).toInt < 2314) ∧ v = some (.int 0) ∧ M' = (wF (wI M 635 ((519 : Int32).toNatClampNeg) ((rI M 635 519) + 1)) 633 41 ((zI M 633 41) + 1))) ∨ (¬ ((rI M 635 ww) = (zI M 633 35)) ∧ 200 ≤ (rI M 635 (ww + 2)) ∧ (0 ≤ ww.toInt ∧ ww.toInt < 2314) ∧ (0 ≤ (ww + 2).toInt ∧ (ww + 2).toInt < 2314) ∧ (0 ≤ (520 : Int32).toInt ∧ (520 : Int32).toInt < 2314) ∧ (0 ≤ (520 : Int32).toInt ∧ (520 : Int32).toInt < 2314) ∧ v = some (.int 0) ∧ M' = (wI M 635 ((520 : Int32).toNatClampNeg) ((rI M 635 520) + 1))) ∨ (¬ ((rI M 635 ww) = (zI M 633 35)) ∧ ¬ (200 ≤ (rI M 635 (ww + 2))) ∧ (0 ≤ ww.toInt ∧ ww.toInt < 2314) ∧ (0 ≤ (ww + 2).toInt ∧ (ww + 2).toInt < 2314) ∧ v = some (.int 1) ∧ M' = M) := by
  have H : Ev none e 206 155 [some (.ref 633), some (.int ww), some (.int x), some (.int d)] [.ref 633] M v M' 0 0 := Ev.back 1 (fun n => rfl) H
  have H : Ev none e 206 158 [some (.ref 633), some (.int ww), some (.int x), some (.int d)] [.ref 635] M v M' 0 0 := Ev.back 1 (gs_3 rfl rfl (gf_u hS.1 qa_633 qr_61_5 qu_63 rfl)) H
  have H : Ev none e 206 159 [some (.ref 633), some (.int ww), some (.int x), some (.int d)] [.int ww, .ref 635] M v M' 0 0 := Ev.back 1 (fun n => rfl) H
  obtain ⟨b1, H⟩ := Ev.ial rfl rfl hS.1 qa_635 qw_63 H
  have H : Ev none e 206 160 [some (.ref 633), some (.int ww), some (.int x), some (.int d)] [.int (rI M 635 ww)] M v M' 0 0 := H
  have H : Ev none e 206 161 [some (.ref 633), some (.int ww), some (.int x), some (.int d)] [.ref 633, .int (rI M 635 ww)] M v M' 0 0 := Ev.back 1 (fun n => rfl) H
  have H : Ev none e 206 164 [some (.ref 633), some (.int ww), some (.int x), some (.int d)] [.int (zI M 633 35), .int (rI M 635 ww)] M v M' 0 0 := Ev.back 1 (gs_3 rfl rfl (gf_i hS.1 qa_633 qi_61_35 rfl)) H
  have H : Ev none e 206 (if (rI M 635 ww) = (zI M 633 35) then 167 else 191) [some (.ref 633), some (.int ww), some (.int x), some (.int d)] [] M v M' 0 0 := Ev.back 1 (fun n => rfl) H
  by_cases h2 : (rI M 635 ww) = (zI M 633 35)
  · rw [if_pos h2] at H
    have H : Ev none e 206 168 [some (.ref 633), some (.int ww), some (.int x), some (.int d)] [.ref 633] M v M' 0 0 := Ev.back 1 (fun n => rfl) H
    have H : Ev none e 206 171 [some (.ref 633), some (.int ww), some (.int x), some (.int d)] [.ref 635] M v M' 0 0 := Ev.back 1 (gs_3 rfl rfl (gf_u hS.1 qa_633 qr_61_5 qu_63 rfl)) H
    have H : Ev none e 206 175 [some (.ref 633), some (.int ww), some (.int x), some (.int d)] [.int 519, .ref 635, .int 519, .ref 635] M v M' 0 0 := Ev.back 2 (fun n => rfl) H
    obtain ⟨b3, H⟩ := Ev.ial rfl rfl hS.1 qa_635 qw_63 H
    have H : Ev none e 206 176 [some (.ref 633), some (.int ww), some (.int x), some (.int d)] [.int (rI M 635 519), .int 519, .ref 635] M v M' 0 0 := H
    have H : Ev none e 206 178 [some (.ref 633), some (.int ww), some (.int x), some (.int d)] [.int ((rI M 635 519) + 1), .int 519, .ref 635] M v M' 0 0 := Ev.back 2 (fun n => rfl) H
    obtain ⟨b4, H⟩ := Ev.ias rfl rfl hS.1 qa_635 qw_63 H
    obtain ⟨N5, eN5⟩ : ∃ N, N = (wI M 635 ((519 : Int32).toNatClampNeg) ((rI M 635 519) + 1)) := ⟨_, rfl⟩
    have hN5 : SQ N5 := by rw [eN5]; exact hS.ki
    have H : Ev none e 206 179 [some (.ref 633), some (.int ww), some (.int x), some (.int d)] [] N5 v M' 0 0 := by rw [eN5]; exact H
    have H : Ev none e 206 181 [some (.ref 633), some (.int ww), some (.int x), some (.int d)] [.ref 633, .ref 633] N5 v M' 0 0 := Ev.back 2 (fun n => rfl) H
    have H : Ev none e 206 184 [some (.ref 633), some (.int ww), some (.int x), some (.int d)] [.int (zI N5 633 41), .ref 633] N5 v M' 0 0 := Ev.back 1 (gs_3 rfl rfl (gf_i hN5.1 qa_633 qi_61_41 rfl)) H
    rw [show zI N5 633 41 = zI M 633 41 from by rw [eN5]; exact fI_wI] at H
    have H : Ev none e 206 186 [some (.ref 633), some (.int ww), some (.int x), some (.int d)] [.int ((zI M 633 41) + 1), .ref 633] N5 v M' 0 0 := Ev.back 2 (fun n => rfl) H
    obtain ⟨N7, eN7⟩ : ∃ N, N = (wF N5 633 41 ((zI M 633 41) + 1)) := ⟨_, rfl⟩
    have hN7 : SQ N7 := by rw [eN7]; exact hN5.kf
    have H : Ev none e 206 189 [some (.ref 633), some (.int ww), some (.int x), some (.int d)] [] N7 v M' 0 0 := by rw [eN7]; exact Ev.pfi rfl rfl rfl hN5.1 qa_633 qi_61_41 H
    have H : Ev none e 206 190 [some (.ref 633), some (.int ww), some (.int x), some (.int d)] [.int 0] N7 v M' 0 0 := Ev.back 1 (fun n => rfl) H
    obtain ⟨z1, z2⟩ := Ev.retz rfl rfl H
    subst eN5 eN7
    exact Or.inl ⟨h2, b1, b3, b4, z1, z2⟩
  · rw [if_neg h2] at H
    have H : Ev none e 206 192 [some (.ref 633), some (.int ww), some (.int x), some (.int d)] [.ref 633] M v M' 0 0 := Ev.back 1 (fun n => rfl) H
    have H : Ev none e 206 195 [some (.ref 633), some (.int ww), some (.int x), some (.int d)] [.ref 635] M v M' 0 0 := Ev.back 1 (gs_3 rfl rfl (gf_u hS.1 qa_633 qr_61_5 qu_63 rfl)) H
    have H : Ev none e 206 198 [some (.ref 633), some (.int ww), some (.int x), some (.int d)] [.int (ww + 2), .ref 635] M v M' 0 0 := Ev.back 3 (fun n => rfl) H
    obtain ⟨b8, H⟩ := Ev.ial rfl rfl hS.1 qa_635 qw_63 H
    have H : Ev none e 206 199 [some (.ref 633), some (.int ww), some (.int x), some (.int d)] [.int (rI M 635 (ww + 2))] M v M' 0 0 := H
    have H : Ev none e 206 (if 200 ≤ (rI M 635 (ww + 2)) then 207 else 205) [some (.ref 633), some (.int ww), some (.int x), some (.int d)] [] M v M' 0 0 := Ev.back 2 (fun n => rfl) H
    by_cases h9 : 200 ≤ (rI M 635 (ww + 2))
    · rw [if_pos h9] at H
      have H : Ev none e 206 208 [some (.ref 633), some (.int ww), some (.int x), some (.int d)] [.ref 633] M v M' 0 0 := Ev.back 1 (fun n => rfl) H
      have H : Ev none e 206 211 [some (.ref 633), some (.int ww), some (.int x), some (.int d)] [.ref 635] M v M' 0 0 := Ev.back 1 (gs_3 rfl rfl (gf_u hS.1 qa_633 qr_61_5 qu_63 rfl)) H
      have H : Ev none e 206 215 [some (.ref 633), some (.int ww), some (.int x), some (.int d)] [.int 520, .ref 635, .int 520, .ref 635] M v M' 0 0 := Ev.back 2 (fun n => rfl) H
      obtain ⟨b10, H⟩ := Ev.ial rfl rfl hS.1 qa_635 qw_63 H
      have H : Ev none e 206 216 [some (.ref 633), some (.int ww), some (.int x), some (.int d)] [.int (rI M 635 520), .int 520, .ref 635] M v M' 0 0 := H
      have H : Ev none e 206 218 [some (.ref 633), some (.int ww), some (.int x), some (.int d)] [.int ((rI M 635 520) + 1), .int 520, .ref 635] M v M' 0 0 := Ev.back 2 (fun n => rfl) H
      obtain ⟨b11, H⟩ := Ev.ias rfl rfl hS.1 qa_635 qw_63 H
      obtain ⟨N12, eN12⟩ : ∃ N, N = (wI M 635 ((520 : Int32).toNatClampNeg) ((rI M 635 520) + 1)) := ⟨_, rfl⟩
      have hN12 : SQ N12 := by rw [eN12]; exact hS.ki
      have H : Ev none e 206 219 [some (.ref 633), some (.int ww), some (.int x), some (.int d)] [] N12 v M' 0 0 := by rw [eN12]; exact H
      have H : Ev none e 206 220 [some (.ref 633), some (.int ww), some (.int x), some (.int d)] [.int 0] N12 v M' 0 0 := Ev.back 1 (fun n => rfl) H
      obtain ⟨z1, z2⟩ := Ev.retz rfl rfl H
      subst eN12
      exact Or.inr (Or.inl ⟨h2, h9, b1, b8, b10, b11, z1, z2⟩)
    · rw [if_neg h9] at H
      have H : Ev none e 206 206 [some (.ref 633), some (.int ww), some (.int x), some (.int d)] [.int 1] M v M' 0 0 := Ev.back 1 (fun n => rfl) H
      obtain ⟨z1, z2⟩ := Ev.retz rfl rfl H
      exact Or.inr (Or.inr (⟨h2, h9, b1, b8, z1, z2⟩))
theorem rew_0 {e : Nat} {M M' : Mem} {v : Option Value} (hS : SQ M) (H : Ev none e 208 0 [some (.ref 633), none, none, none] [] M v M' 0 0) : Ev none e 208 2 [some (.ref 633), some (.int 0), none, none] [] M v M' 0 0 := by
  have H : Ev none e 208 2 [some (.ref 633), some (.int 0), none, none] [] M v M' 0 0 := Ev.back 2 (fun n => rfl) H
  have HF := H
  exact HF
theorem rew_2 {e : Nat} {M M' : Mem} {v : Option Value} {c : Int32} {c2 c3 : Option Value} (hS : SQ M) (H : Ev none e 208 2 [some (.ref 633), some (.int c), c2, c3] [] M v M' 0 0) : ((G_144 M) ≤ c ∧ Ev none e 208 76 [some (.ref 633), some (.int 0), c2, c3] [] M v M' 0 0) ∨ (¬ ((G_144 M) ≤ c) ∧ (∃ e1 v1 M1, e = e1 + 1 ∧ Ev none e1 188 0 [some (.ref 633), some (.int 1), some (.int c), some (.int 10), none] [] M v1 M1 0 0 ∧ Ev none e 208 24 [some (.ref 633), some (.int c), c2, c3] (v1.toList ++ [.int (G_146 M c 3)]) M1 v M' 0 0)) := by
  have H : Ev none e 208 4 [some (.ref 633), some (.int c), c2, c3] [.ref 633, .int c] M v M' 0 0 := Ev.back 2 (fun n => rfl) H
  obtain ⟨e1, rfl⟩ := Ev.dpos rfl rfl H
  obtain ⟨vK1, MK1, K1, H⟩ := Ev.callb (fun n_ => gs_7 rfl rfl (show gCal (.invokevirtual 128) 11 (.ref 633 :: [.int c]) M = some (.inr (144, [some (.ref 633)], [.int c])) from by show @cond (Option ((List Value × Mem) ⊕ (Nat × Lo × List Value))) (true && gRecv M (.ref 633) 11 && gRoom [.int c] && true) (some (.inr (144, [some (.ref 633)], [.int c]))) none = _; rw [recv_s hS.1 qa_633 qo_61]; rfl)) H
  obtain ⟨pK1, qK1⟩ := g_144 hS K1
  rw [pK1, qK1] at H
  have H : Ev none (e1 + 1) 208 7 [some (.ref 633), some (.int c), c2, c3] [.int (G_144 M), .int c] M v M' 0 0 := H
  have H : Ev none (e1 + 1) 208 (if (G_144 M) ≤ c then 74 else 10) [some (.ref 633), some (.int c), c2, c3] [] M v M' 0 0 := Ev.back 1 (fun n => rfl) H
  by_cases h2 : (G_144 M) ≤ c
  · rw [if_pos h2] at H
    have H : Ev none (e1 + 1) 208 76 [some (.ref 633), some (.int 0), c2, c3] [] M v M' 0 0 := Ev.back 2 (fun n => rfl) H
    have HF := H
    exact Or.inl ⟨h2, HF⟩
  · rw [if_neg h2] at H
    have H : Ev none (e1 + 1) 208 13 [some (.ref 633), some (.int c), c2, c3] [.int 3, .int c, .ref 633] M v M' 0 0 := Ev.back 3 (fun n => rfl) H
    obtain ⟨vK3, MK3, K3, H⟩ := Ev.callb (fun n_ => gs_7 rfl rfl (show gCal (.invokevirtual 136) 11 (.int 3 :: .int c :: .ref 633 :: []) M = some (.inr (146, [some (.ref 633), some (.int c), some (.int 3)], [])) from by show @cond (Option ((List Value × Mem) ⊕ (Nat × Lo × List Value))) (true && gRecv M (.ref 633) 11 && gRoom [] && true) (some (.inr (146, [some (.ref 633), some (.int c), some (.int 3)], []))) none = _; rw [recv_s hS.1 qa_633 qo_61]; rfl)) H
    obtain ⟨pK3, qK3⟩ := g_146 hS K3
    rw [pK3, qK3] at H
    have H : Ev none (e1 + 1) 208 16 [some (.ref 633), some (.int c), c2, c3] [.int (G_146 M c 3)] M v M' 0 0 := H
    have H : Ev none (e1 + 1) 208 21 [some (.ref 633), some (.int c), c2, c3] [.int 10, .int c, .int 1, .ref 633, .int (G_146 M c 3)] M v M' 0 0 := Ev.back 4 (fun n => rfl) H
    obtain ⟨vK4, MK4, K4, H⟩ := Ev.callb (fun n_ => gs_7 rfl rfl (show gCal (.invokevirtual 402) 11 (.int 10 :: .int c :: .int 1 :: .ref 633 :: [.int (G_146 M c 3)]) M = some (.inr (188, [some (.ref 633), some (.int 1), some (.int c), some (.int 10), none], [.int (G_146 M c 3)])) from by show @cond (Option ((List Value × Mem) ⊕ (Nat × Lo × List Value))) (true && gRecv M (.ref 633) 11 && gRoom [.int (G_146 M c 3)] && true) (some (.inr (188, [some (.ref 633), some (.int 1), some (.int c), some (.int 10), none], [.int (G_146 M c 3)]))) none = _; rw [recv_s hS.1 qa_633 qo_61]; rfl)) H
    have K4 : Ev none e1 188 0 [some (.ref 633), some (.int 1), some (.int c), some (.int 10), none] [] M vK4 MK4 0 0 := K4
    have HF := H
    exact Or.inr (⟨h2, ⟨e1, vK4, MK4, rfl, K4, HF⟩⟩)
theorem rew_24 {e : Nat} {M M' : Mem} {v : Option Value} {c y we : Int32} {c2 c3 : Option Value} (hS : SQ M) (H : Ev none e 208 24 [some (.ref 633), some (.int c), c2, c3] [.int y, .int we] M v M' 0 0) : (0 ≤ (we - y) ∧ 0 ≤ ((G_146 M c 4) - (zI M 633 30)) ∧ Ev none e 208 2 [some (.ref 633), some (.int (c + 1)), some (.int (we - y)), some (.int ((G_146 M c 4) - (zI M 633 30)))] [] (X_147 (X_147 M c 3 (we - y)) c 4 ((G_146 M c 4) - (zI M 633 30))) v M' 0 0) ∨ (0 ≤ (we - y) ∧ ¬ (0 ≤ ((G_146 M c 4) - (zI M 633 30))) ∧ Ev none e 208 2 [some (.ref 633), some (.int (c + 1)), some (.int (we - y)), some (.int ((G_146 M c 4) - (zI M 633 30)))] [] (X_147 (X_147 M c 3 (we - y)) c 4 0) v M' 0 0) ∨ (¬ (0 ≤ (we - y)) ∧ 0 ≤ ((G_146 M c 4) - (zI M 633 30)) ∧ Ev none e 208 2 [some (.ref 633), some (.int (c + 1)), some (.int (we - y)), some (.int ((G_146 M c 4) - (zI M 633 30)))] [] (X_147 (X_147 M c 3 0) c 4 ((G_146 M c 4) - (zI M 633 30))) v M' 0 0) ∨ (¬ (0 ≤ (we - y)) ∧ ¬ (0 ≤ ((G_146 M c 4) - (zI M 633 30))) ∧ Ev none e 208 2 [some (.ref 633), some (.int (c + 1)), some (.int (we - y)), some (.int ((G_146 M c 4) - (zI M 633 30)))] [] (X_147 (X_147 M c 3 0) c 4 0) v M' 0 0) := by
  have H : Ev none e 208 29 [some (.ref 633), some (.int c), some (.int (we - y)), c3] [.int 4, .int c, .ref 633] M v M' 0 0 := Ev.back 5 (fun n => rfl) H
  obtain ⟨e1, rfl⟩ := Ev.dpos rfl rfl H
  obtain ⟨vK1, MK1, K1, H⟩ := Ev.callb (fun n_ => gs_7 rfl rfl (show gCal (.invokevirtual 136) 11 (.int 4 :: .int c :: .ref 633 :: []) M = some (.inr (146, [some (.ref 633), some (.int c), some (.int 4)], [])) from by show @cond (Option ((List Value × Mem) ⊕ (Nat × Lo × List Value))) (true && gRecv M (.ref 633) 11 && gRoom [] && true) (some (.inr (146, [some (.ref 633), some (.int c), some (.int 4)], []))) none = _; rw [recv_s hS.1 qa_633 qo_61]; rfl)) H
  obtain ⟨pK1, qK1⟩ := g_146 hS K1
  rw [pK1, qK1] at H
  have H : Ev none (e1 + 1) 208 32 [some (.ref 633), some (.int c), some (.int (we - y)), c3] [.int (G_146 M c 4)] M v M' 0 0 := H
  have H : Ev none (e1 + 1) 208 33 [some (.ref 633), some (.int c), some (.int (we - y)), c3] [.ref 633, .int (G_146 M c 4)] M v M' 0 0 := Ev.back 1 (fun n => rfl) H
  have H : Ev none (e1 + 1) 208 36 [some (.ref 633), some (.int c), some (.int (we - y)), c3] [.int (zI M 633 30), .int (G_146 M c 4)] M v M' 0 0 := Ev.back 1 (gs_3 rfl rfl (gf_i hS.1 qa_633 qi_61_30 rfl)) H
  have H : Ev none (e1 + 1) 208 (if 0 ≤ (we - y) then 49 else 45) [some (.ref 633), some (.int c), some (.int (we - y)), some (.int ((G_146 M c 4) - (zI M 633 30)))] [.int 3, .int c, .ref 633] M v M' 0 0 := Ev.back 7 (fun n => rfl) H
  by_cases h2 : 0 ≤ (we - y)
  · rw [if_pos h2] at H
    have H : Ev none (e1 + 1) 208 50 [some (.ref 633), some (.int c), some (.int (we - y)), some (.int ((G_146 M c 4) - (zI M 633 30)))] [.int (we - y), .int 3, .int c, .ref 633] M v M' 0 0 := Ev.back 1 (fun n => rfl) H
    obtain ⟨vK3, MK3, K3, H⟩ := Ev.callb (fun n_ => gs_7 rfl rfl (show gCal (.invokevirtual 151) 11 (.int (we - y) :: .int 3 :: .int c :: .ref 633 :: []) M = some (.inr (147, [some (.ref 633), some (.int c), some (.int 3), some (.int (we - y))], [])) from by show @cond (Option ((List Value × Mem) ⊕ (Nat × Lo × List Value))) (true && gRecv M (.ref 633) 11 && gRoom [] && true) (some (.inr (147, [some (.ref 633), some (.int c), some (.int 3), some (.int (we - y))], []))) none = _; rw [recv_s hS.1 qa_633 qo_61]; rfl)) H
    obtain ⟨pK3, qK3⟩ := g_147 hS K3
    rw [pK3, qK3] at H
    obtain ⟨N4, eN4⟩ : ∃ N, N = (X_147 M c 3 (we - y)) := ⟨_, rfl⟩
    have hN4 : SQ N4 := by rw [eN4]; exact X_147_sx hS
    rw [← eN4] at H
    have H : Ev none (e1 + 1) 208 53 [some (.ref 633), some (.int c), some (.int (we - y)), some (.int ((G_146 M c 4) - (zI M 633 30)))] [] N4 v M' 0 0 := H
    have H : Ev none (e1 + 1) 208 (if 0 ≤ ((G_146 M c 4) - (zI M 633 30)) then 64 else 60) [some (.ref 633), some (.int c), some (.int (we - y)), some (.int ((G_146 M c 4) - (zI M 633 30)))] [.int 4, .int c, .ref 633] N4 v M' 0 0 := Ev.back 5 (fun n => rfl) H
    by_cases h5 : 0 ≤ ((G_146 M c 4) - (zI M 633 30))
    · rw [if_pos h5] at H
      have H : Ev none (e1 + 1) 208 65 [some (.ref 633), some (.int c), some (.int (we - y)), some (.int ((G_146 M c 4) - (zI M 633 30)))] [.int ((G_146 M c 4) - (zI M 633 30)), .int 4, .int c, .ref 633] N4 v M' 0 0 := Ev.back 1 (fun n => rfl) H
      obtain ⟨vK6, MK6, K6, H⟩ := Ev.callb (fun n_ => gs_7 rfl rfl (show gCal (.invokevirtual 151) 11 (.int ((G_146 M c 4) - (zI M 633 30)) :: .int 4 :: .int c :: .ref 633 :: []) N4 = some (.inr (147, [some (.ref 633), some (.int c), some (.int 4), some (.int ((G_146 M c 4) - (zI M 633 30)))], [])) from by show @cond (Option ((List Value × Mem) ⊕ (Nat × Lo × List Value))) (true && gRecv N4 (.ref 633) 11 && gRoom [] && true) (some (.inr (147, [some (.ref 633), some (.int c), some (.int 4), some (.int ((G_146 M c 4) - (zI M 633 30)))], []))) none = _; rw [recv_s hN4.1 qa_633 qo_61]; rfl)) H
      obtain ⟨pK6, qK6⟩ := g_147 hN4 K6
      rw [pK6, qK6] at H
      obtain ⟨N7, eN7⟩ : ∃ N, N = (X_147 N4 c 4 ((G_146 M c 4) - (zI M 633 30))) := ⟨_, rfl⟩
      have hN7 : SQ N7 := by rw [eN7]; exact X_147_sx hN4
      rw [← eN7] at H
      have H : Ev none (e1 + 1) 208 68 [some (.ref 633), some (.int c), some (.int (we - y)), some (.int ((G_146 M c 4) - (zI M 633 30)))] [] N7 v M' 0 0 := H
      have H : Ev none (e1 + 1) 208 2 [some (.ref 633), some (.int (c + 1)), some (.int (we - y)), some (.int ((G_146 M c 4) - (zI M 633 30)))] [] N7 v M' 0 0 := Ev.back 2 (fun n => rfl) H
      have HF := H
      subst eN4 eN7
      exact Or.inl ⟨h2, h5, HF⟩
    · rw [if_neg h5] at H
      have H : Ev none (e1 + 1) 208 65 [some (.ref 633), some (.int c), some (.int (we - y)), some (.int ((G_146 M c 4) - (zI M 633 30)))] [.int 0, .int 4, .int c, .ref 633] N4 v M' 0 0 := Ev.back 2 (fun n => rfl) H
      obtain ⟨vK8, MK8, K8, H⟩ := Ev.callb (fun n_ => gs_7 rfl rfl (show gCal (.invokevirtual 151) 11 (.int 0 :: .int 4 :: .int c :: .ref 633 :: []) N4 = some (.inr (147, [some (.ref 633), some (.int c), some (.int 4), some (.int 0)], [])) from by show @cond (Option ((List Value × Mem) ⊕ (Nat × Lo × List Value))) (true && gRecv N4 (.ref 633) 11 && gRoom [] && true) (some (.inr (147, [some (.ref 633), some (.int c), some (.int 4), some (.int 0)], []))) none = _; rw [recv_s hN4.1 qa_633 qo_61]; rfl)) H
      obtain ⟨pK8, qK8⟩ := g_147 hN4 K8
      rw [pK8, qK8] at H
      obtain ⟨N9, eN9⟩ : ∃ N, N = (X_147 N4 c 4 0) := ⟨_, rfl⟩
      have hN9 : SQ N9 := by rw [eN9]; exact X_147_sx hN4
      rw [← eN9] at H
      have H : Ev none (e1 + 1) 208 68 [some (.ref 633), some (.int c), some (.int (we - y)), some (.int ((G_146 M c 4) - (zI M 633 30)))] [] N9 v M' 0 0 := H
      have H : Ev none (e1 + 1) 208 2 [some (.ref 633), some (.int (c + 1)), some (.int (we - y)), some (.int ((G_146 M c 4) - (zI M 633 30)))] [] N9 v M' 0 0 := Ev.back 2 (fun n => rfl) H
      have HF := H
      subst eN4 eN9
      exact Or.inr (Or.inl ⟨h2, h5, HF⟩)
  · rw [if_neg h2] at H
    have H : Ev none (e1 + 1) 208 50 [some (.ref 633), some (.int c), some (.int (we - y)), some (.int ((G_146 M c 4) - (zI M 633 30)))] [.int 0, .int 3, .int c, .ref 633] M v M' 0 0 := Ev.back 2 (fun n => rfl) H
    obtain ⟨vK10, MK10, K10, H⟩ := Ev.callb (fun n_ => gs_7 rfl rfl (show gCal (.invokevirtual 151) 11 (.int 0 :: .int 3 :: .int c :: .ref 633 :: []) M = some (.inr (147, [some (.ref 633), some (.int c), some (.int 3), some (.int 0)], [])) from by show @cond (Option ((List Value × Mem) ⊕ (Nat × Lo × List Value))) (true && gRecv M (.ref 633) 11 && gRoom [] && true) (some (.inr (147, [some (.ref 633), some (.int c), some (.int 3), some (.int 0)], []))) none = _; rw [recv_s hS.1 qa_633 qo_61]; rfl)) H
    obtain ⟨pK10, qK10⟩ := g_147 hS K10
    rw [pK10, qK10] at H
    obtain ⟨N11, eN11⟩ : ∃ N, N = (X_147 M c 3 0) := ⟨_, rfl⟩
    have hN11 : SQ N11 := by rw [eN11]; exact X_147_sx hS
    rw [← eN11] at H
    have H : Ev none (e1 + 1) 208 53 [some (.ref 633), some (.int c), some (.int (we - y)), some (.int ((G_146 M c 4) - (zI M 633 30)))] [] N11 v M' 0 0 := H
    have H : Ev none (e1 + 1) 208 (if 0 ≤ ((G_146 M c 4) - (zI M 633 30)) then 64 else 60) [some (.ref 633), some (.int c), some (.int (we - y)), some (.int ((G_146 M c 4) - (zI M 633 30)))] [.int 4, .int c, .ref 633] N11 v M' 0 0 := Ev.back 5 (fun n => rfl) H
    by_cases h12 : 0 ≤ ((G_146 M c 4) - (zI M 633 30))
    · rw [if_pos h12] at H
      have H : Ev none (e1 + 1) 208 65 [some (.ref 633), some (.int c), some (.int (we - y)), some (.int ((G_146 M c 4) - (zI M 633 30)))] [.int ((G_146 M c 4) - (zI M 633 30)), .int 4, .int c, .ref 633] N11 v M' 0 0 := Ev.back 1 (fun n => rfl) H
      obtain ⟨vK13, MK13, K13, H⟩ := Ev.callb (fun n_ => gs_7 rfl rfl (show gCal (.invokevirtual 151) 11 (.int ((G_146 M c 4) - (zI M 633 30)) :: .int 4 :: .int c :: .ref 633 :: []) N11 = some (.inr (147, [some (.ref 633), some (.int c), some (.int 4), some (.int ((G_146 M c 4) - (zI M 633 30)))], [])) from by show @cond (Option ((List Value × Mem) ⊕ (Nat × Lo × List Value))) (true && gRecv N11 (.ref 633) 11 && gRoom [] && true) (some (.inr (147, [some (.ref 633), some (.int c), some (.int 4), some (.int ((G_146 M c 4) - (zI M 633 30)))], []))) none = _; rw [recv_s hN11.1 qa_633 qo_61]; rfl)) H
      obtain ⟨pK13, qK13⟩ := g_147 hN11 K13
      rw [pK13, qK13] at H
      obtain ⟨N14, eN14⟩ : ∃ N, N = (X_147 N11 c 4 ((G_146 M c 4) - (zI M 633 30))) := ⟨_, rfl⟩
      have hN14 : SQ N14 := by rw [eN14]; exact X_147_sx hN11
      rw [← eN14] at H
      have H : Ev none (e1 + 1) 208 68 [some (.ref 633), some (.int c), some (.int (we - y)), some (.int ((G_146 M c 4) - (zI M 633 30)))] [] N14 v M' 0 0 := H
      have H : Ev none (e1 + 1) 208 2 [some (.ref 633), some (.int (c + 1)), some (.int (we - y)), some (.int ((G_146 M c 4) - (zI M 633 30)))] [] N14 v M' 0 0 := Ev.back 2 (fun n => rfl) H
      have HF := H
      subst eN11 eN14
      exact Or.inr (Or.inr (Or.inl ⟨h2, h12, HF⟩))
    · rw [if_neg h12] at H
      have H : Ev none (e1 + 1) 208 65 [some (.ref 633), some (.int c), some (.int (we - y)), some (.int ((G_146 M c 4) - (zI M 633 30)))] [.int 0, .int 4, .int c, .ref 633] N11 v M' 0 0 := Ev.back 2 (fun n => rfl) H
      obtain ⟨vK15, MK15, K15, H⟩ := Ev.callb (fun n_ => gs_7 rfl rfl (show gCal (.invokevirtual 151) 11 (.int 0 :: .int 4 :: .int c :: .ref 633 :: []) N11 = some (.inr (147, [some (.ref 633), some (.int c), some (.int 4), some (.int 0)], [])) from by show @cond (Option ((List Value × Mem) ⊕ (Nat × Lo × List Value))) (true && gRecv N11 (.ref 633) 11 && gRoom [] && true) (some (.inr (147, [some (.ref 633), some (.int c), some (.int 4), some (.int 0)], []))) none = _; rw [recv_s hN11.1 qa_633 qo_61]; rfl)) H
      obtain ⟨pK15, qK15⟩ := g_147 hN11 K15
      rw [pK15, qK15] at H
      obtain ⟨N16, eN16⟩ : ∃ N, N = (X_147 N11 c 4 0) := ⟨_, rfl⟩
      have hN16 : SQ N16 := by rw [eN16]; exact X_147_sx hN11
      rw [← eN16] at H
      have H : Ev none (e1 + 1) 208 68 [some (.ref 633), some (.int c), some (.int (we - y)), some (.int ((G_146 M c 4) - (zI M 633 30)))] [] N16 v M' 0 0 := H
      have H : Ev none (e1 + 1) 208 2 [some (.ref 633), some (.int (c + 1)), some (.int (we - y)), some (.int ((G_146 M c 4) - (zI M 633 30)))] [] N16 v M' 0 0 := Ev.back 2 (fun n => rfl) H
      have HF := H
      subst eN11 eN16
      exact Or.inr (Or.inr (Or.inr (⟨h2, h12, HF⟩)))
theorem rew_76 {e : Nat} {M M' : Mem} {v : Option Value} {c : Int32} {c2 c3 : Option Value} (hS : SQ M) (H : Ev none e 208 76 [some (.ref 633), some (.int c), c2, c3] [] M v M' 0 0) : ((G_144 M) ≤ c ∧ v = none ∧ M' = M) ∨ (¬ ((G_144 M) ≤ c) ∧ Ev none e 208 76 [some (.ref 633), some (.int (c + 1)), c2, c3] [] (X_147 M c 5 0) v M' 0 0) := by
  have H : Ev none e 208 78 [some (.ref 633), some (.int c), c2, c3] [.ref 633, .int c] M v M' 0 0 := Ev.back 2 (fun n => rfl) H
  obtain ⟨e1, rfl⟩ := Ev.dpos rfl rfl H
  obtain ⟨vK1, MK1, K1, H⟩ := Ev.callb (fun n_ => gs_7 rfl rfl (show gCal (.invokevirtual 128) 11 (.ref 633 :: [.int c]) M = some (.inr (144, [some (.ref 633)], [.int c])) from by show @cond (Option ((List Value × Mem) ⊕ (Nat × Lo × List Value))) (true && gRecv M (.ref 633) 11 && gRoom [.int c] && true) (some (.inr (144, [some (.ref 633)], [.int c]))) none = _; rw [recv_s hS.1 qa_633 qo_61]; rfl)) H
  obtain ⟨pK1, qK1⟩ := g_144 hS K1
  rw [pK1, qK1] at H
  have H : Ev none (e1 + 1) 208 81 [some (.ref 633), some (.int c), c2, c3] [.int (G_144 M), .int c] M v M' 0 0 := H
  have H : Ev none (e1 + 1) 208 (if (G_144 M) ≤ c then 97 else 84) [some (.ref 633), some (.int c), c2, c3] [] M v M' 0 0 := Ev.back 1 (fun n => rfl) H
  by_cases h2 : (G_144 M) ≤ c
  · rw [if_pos h2] at H
    obtain ⟨z1, z2⟩ := Ev.retb (fun n => rfl) H
    exact Or.inl ⟨h2, z1, z2⟩
  · rw [if_neg h2] at H
    have H : Ev none (e1 + 1) 208 88 [some (.ref 633), some (.int c), c2, c3] [.int 0, .int 5, .int c, .ref 633] M v M' 0 0 := Ev.back 4 (fun n => rfl) H
    obtain ⟨vK3, MK3, K3, H⟩ := Ev.callb (fun n_ => gs_7 rfl rfl (show gCal (.invokevirtual 151) 11 (.int 0 :: .int 5 :: .int c :: .ref 633 :: []) M = some (.inr (147, [some (.ref 633), some (.int c), some (.int 5), some (.int 0)], [])) from by show @cond (Option ((List Value × Mem) ⊕ (Nat × Lo × List Value))) (true && gRecv M (.ref 633) 11 && gRoom [] && true) (some (.inr (147, [some (.ref 633), some (.int c), some (.int 5), some (.int 0)], []))) none = _; rw [recv_s hS.1 qa_633 qo_61]; rfl)) H
    obtain ⟨pK3, qK3⟩ := g_147 hS K3
    rw [pK3, qK3] at H
    obtain ⟨N4, eN4⟩ : ∃ N, N = (X_147 M c 5 0) := ⟨_, rfl⟩
    have hN4 : SQ N4 := by rw [eN4]; exact X_147_sx hS
    rw [← eN4] at H
    have H : Ev none (e1 + 1) 208 91 [some (.ref 633), some (.int c), c2, c3] [] N4 v M' 0 0 := H
    have H : Ev none (e1 + 1) 208 76 [some (.ref 633), some (.int (c + 1)), c2, c3] [] N4 v M' 0 0 := Ev.back 2 (fun n => rfl) H
    have HF := H
    subst eN4
    exact Or.inr (⟨h2, HF⟩)
theorem rwm_0 {e : Nat} {M M' : Mem} {v : Option Value} (hS : SQ M) (H : Ev none e 216 0 [some (.ref 633), none, none] [] M v M' 0 0) : Ev none e 216 4 [some (.ref 633), some (.int 0), some (.int 0)] [] M v M' 0 0 := by
  have H : Ev none e 216 4 [some (.ref 633), some (.int 0), some (.int 0)] [] M v M' 0 0 := Ev.back 4 (fun n => rfl) H
  have HF := H
  exact HF
theorem rwm_4 {e : Nat} {M M' : Mem} {v : Option Value} {nn c : Int32} (hS : SQ M) (H : Ev none e 216 4 [some (.ref 633), some (.int nn), some (.int c)] [] M v M' 0 0) : ((G_144 M) ≤ c ∧ v = some (.int nn) ∧ M' = M) ∨ (¬ ((G_144 M) ≤ c) ∧ (G_150 M c) = 0 ∧ Ev none e 216 4 [some (.ref 633), some (.int (nn + 0)), some (.int (c + 1))] [] M v M' 0 0) ∨ (¬ ((G_144 M) ≤ c) ∧ ¬ ((G_150 M c) = 0) ∧ Ev none e 216 4 [some (.ref 633), some (.int (nn + 1)), some (.int (c + 1))] [] M v M' 0 0) := by
  have H : Ev none e 216 6 [some (.ref 633), some (.int nn), some (.int c)] [.ref 633, .int c] M v M' 0 0 := Ev.back 2 (fun n => rfl) H
  obtain ⟨e1, rfl⟩ := Ev.dpos rfl rfl H
  obtain ⟨vK1, MK1, K1, H⟩ := Ev.callb (fun n_ => gs_7 rfl rfl (show gCal (.invokevirtual 128) 11 (.ref 633 :: [.int c]) M = some (.inr (144, [some (.ref 633)], [.int c])) from by show @cond (Option ((List Value × Mem) ⊕ (Nat × Lo × List Value))) (true && gRecv M (.ref 633) 11 && gRoom [.int c] && true) (some (.inr (144, [some (.ref 633)], [.int c]))) none = _; rw [recv_s hS.1 qa_633 qo_61]; rfl)) H
  obtain ⟨pK1, qK1⟩ := g_144 hS K1
  rw [pK1, qK1] at H
  have H : Ev none (e1 + 1) 216 9 [some (.ref 633), some (.int nn), some (.int c)] [.int (G_144 M), .int c] M v M' 0 0 := H
  have H : Ev none (e1 + 1) 216 (if (G_144 M) ≤ c then 34 else 12) [some (.ref 633), some (.int nn), some (.int c)] [] M v M' 0 0 := Ev.back 1 (fun n => rfl) H
  by_cases h2 : (G_144 M) ≤ c
  · rw [if_pos h2] at H
    have H : Ev none (e1 + 1) 216 35 [some (.ref 633), some (.int nn), some (.int c)] [.int nn] M v M' 0 0 := Ev.back 1 (fun n => rfl) H
    obtain ⟨z1, z2⟩ := Ev.retz rfl rfl H
    exact Or.inl ⟨h2, z1, z2⟩
  · rw [if_neg h2] at H
    have H : Ev none (e1 + 1) 216 15 [some (.ref 633), some (.int nn), some (.int c)] [.int c, .ref 633, .int nn] M v M' 0 0 := Ev.back 3 (fun n => rfl) H
    obtain ⟨vK3, MK3, K3, H⟩ := Ev.callb (fun n_ => gs_7 rfl rfl (show gCal (.invokevirtual 140) 11 (.int c :: .ref 633 :: [.int nn]) M = some (.inr (150, [some (.ref 633), some (.int c)], [.int nn])) from by show @cond (Option ((List Value × Mem) ⊕ (Nat × Lo × List Value))) (true && gRecv M (.ref 633) 11 && gRoom [.int nn] && true) (some (.inr (150, [some (.ref 633), some (.int c)], [.int nn]))) none = _; rw [recv_s hS.1 qa_633 qo_61]; rfl)) H
    obtain ⟨pK3, qK3⟩ := g_150 hS K3
    rw [pK3, qK3] at H
    have H : Ev none (e1 + 1) 216 18 [some (.ref 633), some (.int nn), some (.int c)] [.int (G_150 M c), .int nn] M v M' 0 0 := H
    have H : Ev none (e1 + 1) 216 (if (G_150 M c) = 0 then 25 else 21) [some (.ref 633), some (.int nn), some (.int c)] [.int nn] M v M' 0 0 := Ev.back 1 (fun n => rfl) H
    by_cases h4 : (G_150 M c) = 0
    · rw [if_pos h4] at H
      have H : Ev none (e1 + 1) 216 4 [some (.ref 633), some (.int (nn + 0)), some (.int (c + 1))] [] M v M' 0 0 := Ev.back 5 (fun n => rfl) H
      have HF := H
      exact Or.inr (Or.inl ⟨h2, h4, HF⟩)
    · rw [if_neg h4] at H
      have H : Ev none (e1 + 1) 216 4 [some (.ref 633), some (.int (nn + 1)), some (.int (c + 1))] [] M v M' 0 0 := Ev.back 6 (fun n => rfl) H
      have HF := H
      exact Or.inr (Or.inr (⟨h2, h4, HF⟩))
theorem rgg_0 {e : Nat} {M M' : Mem} {v : Option Value} {n : Int32} (hS : SQ M) (H : Ev none e 222 0 [some (.ref 633), some (.int n), none] [] M v M' 0 0) : Ev none e 222 2 [some (.ref 633), some (.int n), some (.int 0)] [] M v M' 0 0 := by
  have H : Ev none e 222 2 [some (.ref 633), some (.int n), some (.int 0)] [] M v M' 0 0 := Ev.back 2 (fun n => rfl) H
  have HF := H
  exact HF
theorem rgg_2 {e : Nat} {M M' : Mem} {v : Option Value} {n k : Int32} (hS : SQ M) (H : Ev none e 222 2 [some (.ref 633), some (.int n), some (.int k)] [] M v M' 0 0) : (n ≤ k ∧ (∃ e1 v1 M1, e = e1 + 1 ∧ Ev none e1 208 0 [some (.ref 633), none, none, none] [] M v1 M1 0 0 ∧ Ev none e 222 21 [some (.ref 633), some (.int n), some (.int k)] (v1.toList ++ []) M1 v M' 0 0)) ∨ (¬ (n ≤ k) ∧ (∃ e1 v1 M1, e = e1 + 1 ∧ Ev none e1 204 0 [some (.ref 633), none, none, none] [] M v1 M1 0 0 ∧ Ev none e 222 11 [some (.ref 633), some (.int n), some (.int k)] (v1.toList ++ []) M1 v M' 0 0)) := by
  have H : Ev none e 222 (if n ≤ k then 17 else 7) [some (.ref 633), some (.int n), some (.int k)] [] M v M' 0 0 := Ev.back 3 (fun n => rfl) H
  by_cases h1 : n ≤ k
  · rw [if_pos h1] at H
    have H : Ev none e 222 18 [some (.ref 633), some (.int n), some (.int k)] [.ref 633] M v M' 0 0 := Ev.back 1 (fun n => rfl) H
    obtain ⟨e1, rfl⟩ := Ev.dpos rfl rfl H
    obtain ⟨vK2, MK2, K2, H⟩ := Ev.callb (fun n_ => gs_7 rfl rfl (show gCal (.invokevirtual 426) 11 (.ref 633 :: []) M = some (.inr (208, [some (.ref 633), none, none, none], [])) from by show @cond (Option ((List Value × Mem) ⊕ (Nat × Lo × List Value))) (true && gRecv M (.ref 633) 11 && gRoom [] && true) (some (.inr (208, [some (.ref 633), none, none, none], []))) none = _; rw [recv_s hS.1 qa_633 qo_61]; rfl)) H
    have K2 : Ev none e1 208 0 [some (.ref 633), none, none, none] [] M vK2 MK2 0 0 := K2
    have HF := H
    exact Or.inl ⟨h1, ⟨e1, vK2, MK2, rfl, K2, HF⟩⟩
  · rw [if_neg h1] at H
    have H : Ev none e 222 8 [some (.ref 633), some (.int n), some (.int k)] [.ref 633] M v M' 0 0 := Ev.back 1 (fun n => rfl) H
    obtain ⟨e1, rfl⟩ := Ev.dpos rfl rfl H
    obtain ⟨vK3, MK3, K3, H⟩ := Ev.callb (fun n_ => gs_7 rfl rfl (show gCal (.invokevirtual 423) 11 (.ref 633 :: []) M = some (.inr (204, [some (.ref 633), none, none, none], [])) from by show @cond (Option ((List Value × Mem) ⊕ (Nat × Lo × List Value))) (true && gRecv M (.ref 633) 11 && gRoom [] && true) (some (.inr (204, [some (.ref 633), none, none, none], []))) none = _; rw [recv_s hS.1 qa_633 qo_61]; rfl)) H
    have K3 : Ev none e1 204 0 [some (.ref 633), none, none, none] [] M vK3 MK3 0 0 := K3
    have HF := H
    exact Or.inr (⟨h1, ⟨e1, vK3, MK3, rfl, K3, HF⟩⟩)
theorem rgg_11 {e : Nat} {M M' : Mem} {v : Option Value} {n k : Int32} (hS : SQ M) (H : Ev none e 222 11 [some (.ref 633), some (.int n), some (.int k)] [] M v M' 0 0) : Ev none e 222 2 [some (.ref 633), some (.int n), some (.int (k + 1))] [] M v M' 0 0 := by
  have H : Ev none e 222 2 [some (.ref 633), some (.int n), some (.int (k + 1))] [] M v M' 0 0 := Ev.back 2 (fun n => rfl) H
  have HF := H
  exact HF
theorem rgg_21 {e : Nat} {M M' : Mem} {v : Option Value} {n k : Int32} (hS : SQ M) (H : Ev none e 222 21 [some (.ref 633), some (.int n), some (.int k)] [] M v M' 0 0) : v = none ∧ M' = M := by
  obtain ⟨z1, z2⟩ := Ev.retb (fun n => rfl) H
  exact ⟨z1, z2⟩
