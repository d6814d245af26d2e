/-! THE REFERENCE'S least: pieces (made by gwal13.py) -/
noncomputable def G_224 (M : Mem) (c : Int32) : Int32 := if (G_149 M c) = 0 then 1 else 21
theorem g_224 {e : Nat} {M M' : Mem} {v : Option Value} {c : Int32} (hS : SQ M) (H : Ev none e 224 0 [some (.ref 633), some (.int c)] [] M v M' 0 0) : v = some (.int (G_224 M c)) ∧ M' = M := by
  unfold G_224
  have H : Ev none e 224 2 [some (.ref 633), some (.int c)] [.int c, .ref 633] M v M' 0 0 := Ev.back 2 (fun n => rfl) H
  obtain ⟨e1, rfl⟩ := Ev.dpos rfl rfl H
  obtain ⟨vK1, MK1, K1, H⟩ := Ev.callb (fun n_ => gs_7 rfl rfl (show gCal (.invokevirtual 356) 11 (.int c :: .ref 633 :: []) M = some (.inr (149, [some (.ref 633), some (.int c)], [])) from by show @cond (Option ((List Value × Mem) ⊕ (Nat × Lo × List Value))) (true && gRecv M (.ref 633) 11 && gRoom [] && true) (some (.inr (149, [some (.ref 633), some (.int c)], []))) none = _; rw [recv_s hS.1 qa_633 qo_61]; rfl)) H
  obtain ⟨pK1, qK1⟩ := g_149 hS K1
  rw [pK1, qK1] at H
  have H : Ev none (e1 + 1) 224 5 [some (.ref 633), some (.int c)] [.int (G_149 M c)] M v M' 0 0 := H
  have H : Ev none (e1 + 1) 224 (if (G_149 M c) = 0 then 13 else 8) [some (.ref 633), some (.int c)] [] M v M' 0 0 := Ev.back 1 (fun n => rfl) H
  by_cases h2 : (G_149 M c) = 0
  · rw [if_pos h2] at H
    have H : Ev none (e1 + 1) 224 14 [some (.ref 633), some (.int c)] [.int 1] M v M' 0 0 := Ev.back 1 (fun n => rfl) H
    obtain ⟨p1, p2⟩ := Ev.retz rfl rfl H
    exact ⟨by rw [if_pos h2]; exact p1, p2⟩
  · rw [if_neg h2] at H
    have H : Ev none (e1 + 1) 224 14 [some (.ref 633), some (.int c)] [.int 21] M v M' 0 0 := Ev.back 2 (fun n => rfl) H
    obtain ⟨p1, p2⟩ := Ev.retz rfl rfl H
    exact ⟨by rw [if_neg h2]; exact p1, p2⟩
theorem lsr_0 {e : Nat} {M M' : Mem} {v : Option Value} (hS : SQ M) (H : Ev none e 225 0 [some (.ref 633), none, none, none, none, none, none, none] [] M v M' 0 0) : ((G_140 (X_139 (wF M 633 0 0)) (zI (X_139 (wF M 633 0 0)) 633 3) 2 6) = 0 ∧ v = some (.int (-2)) ∧ M' = (X_139 (wF M 633 0 0))) ∨ (¬ ((G_140 (X_139 (wF M 633 0 0)) (zI (X_139 (wF M 633 0 0)) 633 3) 2 6) = 0) ∧ Ev none e 225 27 [some (.ref 633), some (.int 0), none, none, none, none, none, none] [] (X_139 (wF M 633 0 0)) v M' 0 0) := by
  have H : Ev none e 225 2 [some (.ref 633), none, none, none, none, none, none, none] [.int 0, .ref 633] M v M' 0 0 := Ev.back 2 (fun n => rfl) H
  obtain ⟨N2, eN2⟩ : ∃ N, N = (wF M 633 0 0) := ⟨_, rfl⟩
  have hN2 : SQ N2 := by rw [eN2]; exact hS.kf
  have H : Ev none e 225 5 [some (.ref 633), none, none, none, none, none, none, none] [] N2 v M' 0 0 := by rw [eN2]; exact Ev.pfi rfl rfl rfl hS.1 qa_633 qi_61_0 H
  have H : Ev none e 225 6 [some (.ref 633), none, none, none, none, none, none, none] [.ref 633] N2 v M' 0 0 := Ev.back 1 (fun n => rfl) H
  obtain ⟨e1, rfl⟩ := Ev.dpos rfl rfl H
  obtain ⟨vK3, MK3, K3, H⟩ := Ev.callb (fun n_ => gs_7 rfl rfl (show gCal (.invokevirtual 144) 11 (.ref 633 :: []) N2 = some (.inr (139, [some (.ref 633)], [])) from by show @cond (Option ((List Value × Mem) ⊕ (Nat × Lo × List Value))) (true && gRecv N2 (.ref 633) 11 && gRoom [] && true) (some (.inr (139, [some (.ref 633)], []))) none = _; rw [recv_s hN2.1 qa_633 qo_61]; rfl)) H
  obtain ⟨pK3, qK3⟩ := g_139 hN2 K3
  rw [pK3, qK3] at H
  obtain ⟨N4, eN4⟩ : ∃ N, N = (X_139 N2) := ⟨_, rfl⟩
  have hN4 : SQ N4 := by rw [eN4]; exact X_139_sx hN2
  rw [← eN4] at H
  have H : Ev none (e1 + 1) 225 9 [some (.ref 633), none, none, none, none, none, none, none] [] N4 v M' 0 0 := H
  have H : Ev none (e1 + 1) 225 10 [some (.ref 633), none, none, none, none, none, none, none] [.ref 633] N4 v M' 0 0 := Ev.back 1 (fun n => rfl) H
  have H : Ev none (e1 + 1) 225 13 [some (.ref 633), none, none, none, none, none, none, none] [.int (zI N4 633 3)] N4 v M' 0 0 := Ev.back 1 (gs_3 rfl rfl (gf_i hN4.1 qa_633 qi_61_3 rfl)) H
  have H : Ev none (e1 + 1) 225 16 [some (.ref 633), none, none, none, none, none, none, none] [.int 6, .int 2, .int (zI N4 633 3)] N4 v M' 0 0 := Ev.back 2 (fun n => rfl) H
  obtain ⟨vK5, MK5, K5, H⟩ := Ev.callb (fun n => rfl) H
  obtain ⟨pK5, qK5⟩ := g_140 hN4 K5
  rw [pK5, qK5] at H
  have H : Ev none (e1 + 1) 225 19 [some (.ref 633), none, none, none, none, none, none, none] [.int (G_140 N4 (zI N4 633 3) 2 6)] N4 v M' 0 0 := H
  have H : Ev none (e1 + 1) 225 (if (G_140 N4 (zI N4 633 3) 2 6) = 0 then 22 else 25) [some (.ref 633), none, none, none, none, none, none, none] [] N4 v M' 0 0 := Ev.back 1 (fun n => rfl) H
  by_cases h6 : (G_140 N4 (zI N4 633 3) 2 6) = 0
  · rw [if_pos h6] at H
    have H : Ev none (e1 + 1) 225 24 [some (.ref 633), none, none, none, none, none, none, none] [.int (-2)] N4 v M' 0 0 := Ev.back 1 (fun n => rfl) H
    obtain ⟨z1, z2⟩ := Ev.retz rfl rfl H
    subst eN2 eN4
    exact Or.inl ⟨h6, z1, z2⟩
  · rw [if_neg h6] at H
    have H : Ev none (e1 + 1) 225 27 [some (.ref 633), some (.int 0), none, none, none, none, none, none] [] N4 v M' 0 0 := Ev.back 2 (fun n => rfl) H
    have HF := H
    subst eN2 eN4
    exact Or.inr (⟨h6, HF⟩)
theorem lsr_27 {e : Nat} {M M' : Mem} {v : Option Value} {i : Int32} {o2 : Option Value} (hS : SQ M) (H : Ev none e 225 27 [some (.ref 633), some (.int i), o2, none, none, none, none, none] [] M v M' 0 0) : ((zI M 633 3) ≤ i ∧ Ev none e 225 101 [some (.ref 633), some (.int (G_144 M)), some (.int (((1 : Int32) <<< ((zI M 633 3) &&& 31)) - 1)), some (.int 1), none, none, none, none] [] M v M' 0 0) ∨ (¬ ((zI M 633 3) ≤ i) ∧ (G_152 M (G_142 M i)) = 0 ∧ v = some (.int (-2)) ∧ M' = M) ∨ (¬ ((zI M 633 3) ≤ i) ∧ ¬ ((G_152 M (G_142 M i)) = 0) ∧ Ev none e 225 52 [some (.ref 633), some (.int i), some (.int 0), none, none, none, none, none] [] M v M' 0 0) := by
  have H : Ev none e 225 29 [some (.ref 633), some (.int i), o2, none, none, none, none, none] [.ref 633, .int i] M v M' 0 0 := Ev.back 2 (fun n => rfl) H
  have H : Ev none e 225 32 [some (.ref 633), some (.int i), o2, none, none, none, none, none] [.int (zI M 633 3), .int i] M v M' 0 0 := Ev.back 1 (gs_3 rfl rfl (gf_i hS.1 qa_633 qi_61_3 rfl)) H
  have H : Ev none e 225 (if (zI M 633 3) ≤ i then 85 else 35) [some (.ref 633), some (.int i), o2, none, none, none, none, none] [] M v M' 0 0 := Ev.back 1 (fun n => rfl) H
  by_cases h1 : (zI M 633 3) ≤ i
  · rw [if_pos h1] at H
    have H : Ev none e 225 86 [some (.ref 633), some (.int i), o2, none, none, none, none, none] [.ref 633] M v M' 0 0 := Ev.back 1 (fun n => rfl) H
    obtain ⟨e1, rfl⟩ := Ev.dpos rfl rfl H
    obtain ⟨vK2, MK2, K2, H⟩ := Ev.callb (fun n_ => gs_7 rfl rfl (show gCal (.invokevirtual 128) 11 (.ref 633 :: []) M = some (.inr (144, [some (.ref 633)], [])) from by show @cond (Option ((List Value × Mem) ⊕ (Nat × Lo × List Value))) (true && gRecv M (.ref 633) 11 && gRoom [] && true) (some (.inr (144, [some (.ref 633)], []))) none = _; rw [recv_s hS.1 qa_633 qo_61]; rfl)) H
    obtain ⟨pK2, qK2⟩ := g_144 hS K2
    rw [pK2, qK2] at H
    have H : Ev none (e1 + 1) 225 89 [some (.ref 633), some (.int i), o2, none, none, none, none, none] [.int (G_144 M)] M v M' 0 0 := H
    have H : Ev none (e1 + 1) 225 92 [some (.ref 633), some (.int (G_144 M)), o2, none, none, none, none, none] [.ref 633, .int 1] M v M' 0 0 := Ev.back 3 (fun n => rfl) H
    have H : Ev none (e1 + 1) 225 95 [some (.ref 633), some (.int (G_144 M)), o2, none, none, none, none, none] [.int (zI M 633 3), .int 1] M v M' 0 0 := Ev.back 1 (gs_3 rfl rfl (gf_i hS.1 qa_633 qi_61_3 rfl)) H
    have H : Ev none (e1 + 1) 225 101 [some (.ref 633), some (.int (G_144 M)), some (.int (((1 : Int32) <<< ((zI M 633 3) &&& 31)) - 1)), some (.int 1), none, none, none, none] [] M v M' 0 0 := Ev.back 6 (fun n => rfl) H
    have HF := H
    exact Or.inl ⟨h1, HF⟩
  · rw [if_neg h1] at H
    have H : Ev none e 225 38 [some (.ref 633), some (.int i), o2, none, none, none, none, none] [.int i, .ref 633, .ref 633] M v M' 0 0 := Ev.back 3 (fun n => rfl) H
    obtain ⟨e1, rfl⟩ := Ev.dpos rfl rfl H
    obtain ⟨vK3, MK3, K3, H⟩ := Ev.callb (fun n_ => gs_7 rfl rfl (show gCal (.invokevirtual 147) 11 (.int i :: .ref 633 :: [.ref 633]) M = some (.inr (142, [some (.ref 633), some (.int i)], [.ref 633])) from by show @cond (Option ((List Value × Mem) ⊕ (Nat × Lo × List Value))) (true && gRecv M (.ref 633) 11 && gRoom [.ref 633] && true) (some (.inr (142, [some (.ref 633), some (.int i)], [.ref 633]))) none = _; rw [recv_s hS.1 qa_633 qo_61]; rfl)) H
    obtain ⟨pK3, qK3⟩ := g_142 hS K3
    rw [pK3, qK3] at H
    have H : Ev none (e1 + 1) 225 41 [some (.ref 633), some (.int i), o2, none, none, none, none, none] [.int (G_142 M i), .ref 633] M v M' 0 0 := H
    obtain ⟨vK4, MK4, K4, H⟩ := Ev.callb (fun n_ => gs_7 rfl rfl (show gCal (.invokevirtual 340) 11 (.int (G_142 M i) :: .ref 633 :: []) M = some (.inr (152, [some (.ref 633), some (.int (G_142 M i))], [])) from by show @cond (Option ((List Value × Mem) ⊕ (Nat × Lo × List Value))) (true && gRecv M (.ref 633) 11 && gRoom [] && true) (some (.inr (152, [some (.ref 633), some (.int (G_142 M i))], []))) none = _; rw [recv_s hS.1 qa_633 qo_61]; rfl)) H
    obtain ⟨pK4, qK4⟩ := g_152 hS K4
    rw [pK4, qK4] at H
    have H : Ev none (e1 + 1) 225 44 [some (.ref 633), some (.int i), o2, none, none, none, none, none] [.int (G_152 M (G_142 M i))] M v M' 0 0 := H
    have H : Ev none (e1 + 1) 225 (if (G_152 M (G_142 M i)) = 0 then 47 else 50) [some (.ref 633), some (.int i), o2, none, none, none, none, none] [] M v M' 0 0 := Ev.back 1 (fun n => rfl) H
    by_cases h5 : (G_152 M (G_142 M i)) = 0
    · rw [if_pos h5] at H
      have H : Ev none (e1 + 1) 225 49 [some (.ref 633), some (.int i), o2, none, none, none, none, none] [.int (-2)] M v M' 0 0 := Ev.back 1 (fun n => rfl) H
      obtain ⟨z1, z2⟩ := Ev.retz rfl rfl H
      exact Or.inr (Or.inl ⟨h1, h5, z1, z2⟩)
    · rw [if_neg h5] at H
      have H : Ev none (e1 + 1) 225 52 [some (.ref 633), some (.int i), some (.int 0), none, none, none, none, none] [] M v M' 0 0 := Ev.back 2 (fun n => rfl) H
      have HF := H
      exact Or.inr (Or.inr (⟨h1, h5, HF⟩))
theorem lsr_52 {e : Nat} {M M' : Mem} {v : Option Value} {i j : Int32} (hS : SQ M) (H : Ev none e 225 52 [some (.ref 633), some (.int i), some (.int j), none, none, none, none, none] [] M v M' 0 0) : (i ≤ j ∧ Ev none e 225 27 [some (.ref 633), some (.int (i + 1)), some (.int j), none, none, none, none, none] [] M v M' 0 0) ∨ (¬ (i ≤ j) ∧ (G_142 M j) = (G_142 M i) ∧ v = some (.int (-2)) ∧ M' = M) ∨ (¬ (i ≤ j) ∧ ¬ ((G_142 M j) = (G_142 M i)) ∧ Ev none e 225 52 [some (.ref 633), some (.int i), some (.int (j + 1)), none, none, none, none, none] [] M v M' 0 0) := by
  have H : Ev none e 225 (if i ≤ j then 79 else 57) [some (.ref 633), some (.int i), some (.int j), none, none, none, none, none] [] M v M' 0 0 := Ev.back 3 (fun n => rfl) H
  by_cases h1 : i ≤ j
  · rw [if_pos h1] at H
    have H : Ev none e 225 27 [some (.ref 633), some (.int (i + 1)), some (.int j), none, none, none, none, none] [] M v M' 0 0 := Ev.back 2 (fun n => rfl) H
    have HF := H
    exact Or.inl ⟨h1, HF⟩
  · rw [if_neg h1] at H
    have H : Ev none e 225 59 [some (.ref 633), some (.int i), some (.int j), none, none, none, none, none] [.int j, .ref 633] M v M' 0 0 := Ev.back 2 (fun n => rfl) H
    obtain ⟨e1, rfl⟩ := Ev.dpos rfl rfl H
    obtain ⟨vK2, MK2, K2, H⟩ := Ev.callb (fun n_ => gs_7 rfl rfl (show gCal (.invokevirtual 147) 11 (.int j :: .ref 633 :: []) M = some (.inr (142, [some (.ref 633), some (.int j)], [])) from by show @cond (Option ((List Value × Mem) ⊕ (Nat × Lo × List Value))) (true && gRecv M (.ref 633) 11 && gRoom [] && true) (some (.inr (142, [some (.ref 633), some (.int j)], []))) none = _; rw [recv_s hS.1 qa_633 qo_61]; rfl)) H
    obtain ⟨pK2, qK2⟩ := g_142 hS K2
    rw [pK2, qK2] at H
    have H : Ev none (e1 + 1) 225 62 [some (.ref 633), some (.int i), some (.int j), none, none, none, none, none] [.int (G_142 M j)] M v M' 0 0 := H
    have H : Ev none (e1 + 1) 225 64 [some (.ref 633), some (.int i), some (.int j), none, none, none, none, none] [.int i, .ref 633, .int (G_142 M j)] M v M' 0 0 := Ev.back 2 (fun n => rfl) H
    obtain ⟨vK3, MK3, K3, H⟩ := Ev.callb (fun n_ => gs_7 rfl rfl (show gCal (.invokevirtual 147) 11 (.int i :: .ref 633 :: [.int (G_142 M j)]) M = some (.inr (142, [some (.ref 633), some (.int i)], [.int (G_142 M j)])) from by show @cond (Option ((List Value × Mem) ⊕ (Nat × Lo × List Value))) (true && gRecv M (.ref 633) 11 && gRoom [.int (G_142 M j)] && true) (some (.inr (142, [some (.ref 633), some (.int i)], [.int (G_142 M j)]))) none = _; rw [recv_s hS.1 qa_633 qo_61]; rfl)) H
    obtain ⟨pK3, qK3⟩ := g_142 hS K3
    rw [pK3, qK3] at H
    have H : Ev none (e1 + 1) 225 67 [some (.ref 633), some (.int i), some (.int j), none, none, none, none, none] [.int (G_142 M i), .int (G_142 M j)] M v M' 0 0 := H
    have H : Ev none (e1 + 1) 225 (if (G_142 M j) = (G_142 M i) then 70 else 73) [some (.ref 633), some (.int i), some (.int j), none, none, none, none, none] [] M v M' 0 0 := Ev.back 1 (fun n => rfl) H
    by_cases h4 : (G_142 M j) = (G_142 M i)
    · rw [if_pos h4] at H
      have H : Ev none (e1 + 1) 225 72 [some (.ref 633), some (.int i), some (.int j), none, none, none, none, none] [.int (-2)] M v M' 0 0 := Ev.back 1 (fun n => rfl) H
      obtain ⟨z1, z2⟩ := Ev.retz rfl rfl H
      exact Or.inr (Or.inl ⟨h1, h4, z1, z2⟩)
    · rw [if_neg h4] at H
      have H : Ev none (e1 + 1) 225 52 [some (.ref 633), some (.int i), some (.int (j + 1)), none, none, none, none, none] [] M v M' 0 0 := Ev.back 2 (fun n => rfl) H
      have HF := H
      exact Or.inr (Or.inr (⟨h1, h4, HF⟩))
theorem lsr_101 {e : Nat} {M M' : Mem} {v : Option Value} {n al s : Int32} {o4 o5 o6 o7 : Option Value} (hS : SQ M) (H : Ev none e 225 101 [some (.ref 633), some (.int n), some (.int al), some (.int s), o4, o5, o6, o7] [] M v M' 0 0) : (al < s ∧ Ev none e 225 297 [some (.ref 633), some (.int n), some (.int al), some (.int 10000000), some (.int 0), o5, o6, o7] [] M v M' 0 0) ∨ (¬ (al < s) ∧ Ev none e 225 109 [some (.ref 633), some (.int n), some (.int al), some (.int s), some (.int 0), o5, o6, o7] [] M v M' 0 0) := by
  have H : Ev none e 225 (if al < s then 290 else 106) [some (.ref 633), some (.int n), some (.int al), some (.int s), o4, o5, o6, o7] [] M v M' 0 0 := Ev.back 3 (fun n => rfl) H
  by_cases h1 : al < s
  · rw [if_pos h1] at H
    have H : Ev none e 225 297 [some (.ref 633), some (.int n), some (.int al), some (.int 10000000), some (.int 0), o5, o6, o7] [] M v M' 0 0 := Ev.back 4 (fun n => rfl) H
    have HF := H
    exact Or.inl ⟨h1, HF⟩
  · rw [if_neg h1] at H
    have H : Ev none e 225 109 [some (.ref 633), some (.int n), some (.int al), some (.int s), some (.int 0), o5, o6, o7] [] M v M' 0 0 := Ev.back 2 (fun n => rfl) H
    have HF := H
    exact Or.inr (⟨h1, HF⟩)
theorem lsr_109 {e : Nat} {M M' : Mem} {v : Option Value} {n al s c : Int32} {o5 o6 o7 : Option Value} (hS : SQ M) (H : Ev none e 225 109 [some (.ref 633), some (.int n), some (.int al), some (.int s), some (.int c), o5, o6, o7] [] M v M' 0 0) : (n ≤ c ∧ (∃ e1 v1 M1, e = e1 + 1 ∧ Ev none e1 226 0 [some (.ref 633), some (.int (256 * s)), some (.int n), none, none, none, none] [] M v1 M1 0 0 ∧ Ev none e 225 284 [some (.ref 633), some (.int n), some (.int al), some (.int s), some (.int c), o5, o6, o7] (v1.toList ++ []) M1 v M' 0 0)) ∨ (¬ (n ≤ c) ∧ Ev none e 225 123 [some (.ref 633), some (.int n), some (.int al), some (.int s), some (.int c), some (.int 10000000), some (.int 0), o7] [] M v M' 0 0) := by
  have H : Ev none e 225 (if n ≤ c then 274 else 115) [some (.ref 633), some (.int n), some (.int al), some (.int s), some (.int c), o5, o6, o7] [] M v M' 0 0 := Ev.back 3 (fun n => rfl) H
  by_cases h1 : n ≤ c
  · rw [if_pos h1] at H
    have H : Ev none e 225 281 [some (.ref 633), some (.int n), some (.int al), some (.int s), some (.int c), o5, o6, o7] [.int n, .int (256 * s), .ref 633] M v M' 0 0 := Ev.back 5 (fun n => rfl) H
    obtain ⟨e1, rfl⟩ := Ev.dpos rfl rfl H
    obtain ⟨vK2, MK2, K2, H⟩ := Ev.callb (fun n_ => gs_7 rfl rfl (show gCal (.invokevirtual 466) 11 (.int n :: .int (256 * s) :: .ref 633 :: []) M = some (.inr (226, [some (.ref 633), some (.int (256 * s)), some (.int n), none, none, none, none], [])) from by show @cond (Option ((List Value × Mem) ⊕ (Nat × Lo × List Value))) (true && gRecv M (.ref 633) 11 && gRoom [] && true) (some (.inr (226, [some (.ref 633), some (.int (256 * s)), some (.int n), none, none, none, none], []))) none = _; rw [recv_s hS.1 qa_633 qo_61]; rfl)) H
    have K2 : Ev none e1 226 0 [some (.ref 633), some (.int (256 * s)), some (.int n), none, none, none, none] [] M vK2 MK2 0 0 := K2
    have HF := H
    exact Or.inl ⟨h1, ⟨e1, vK2, MK2, rfl, K2, HF⟩⟩
  · rw [if_neg h1] at H
    have H : Ev none e 225 123 [some (.ref 633), some (.int n), some (.int al), some (.int s), some (.int c), some (.int 10000000), some (.int 0), o7] [] M v M' 0 0 := Ev.back 4 (fun n => rfl) H
    have HF := H
    exact Or.inr (⟨h1, HF⟩)
theorem lsr_123 {e : Nat} {M M' : Mem} {v : Option Value} {n al s c u i : Int32} {o7 : Option Value} (hS : SQ M) (H : Ev none e 225 123 [some (.ref 633), some (.int n), some (.int al), some (.int s), some (.int c), some (.int u), some (.int i), o7] [] M v M' 0 0) : ((zI M 633 3) ≤ i ∧ Ev none e 225 179 [some (.ref 633), some (.int n), some (.int al), some (.int s), some (.int c), some (.int u), some (.int ((s - 1) &&& s)), o7] [] M v M' 0 0) ∨ (¬ ((zI M 633 3) ≤ i) ∧ s = ((1 : Int32) <<< (i &&& 31)) ∧ (rI M 635 (3 + (G_142 M i))) = c ∧ (0 ≤ (3 + (G_142 M i)).toInt ∧ (3 + (G_142 M i)).toInt < 2314) ∧ Ev none e 225 123 [some (.ref 633), some (.int n), some (.int al), some (.int s), some (.int c), some (.int (G_224 M c)), some (.int (i + 1)), o7] [] M v M' 0 0) ∨ (¬ ((zI M 633 3) ≤ i) ∧ s = ((1 : Int32) <<< (i &&& 31)) ∧ ¬ ((rI M 635 (3 + (G_142 M i))) = c) ∧ (0 ≤ (3 + (G_142 M i)).toInt ∧ (3 + (G_142 M i)).toInt < 2314) ∧ Ev none e 225 123 [some (.ref 633), some (.int n), some (.int al), some (.int s), some (.int c), some (.int u), some (.int (i + 1)), o7] [] M v M' 0 0) ∨ (¬ ((zI M 633 3) ≤ i) ∧ ¬ (s = ((1 : Int32) <<< (i &&& 31))) ∧ Ev none e 225 123 [some (.ref 633), some (.int n), some (.int al), some (.int s), some (.int c), some (.int u), some (.int (i + 1)), o7] [] M v M' 0 0) := by
  have H : Ev none e 225 126 [some (.ref 633), some (.int n), some (.int al), some (.int s), some (.int c), some (.int u), some (.int i), o7] [.ref 633, .int i] M v M' 0 0 := Ev.back 2 (fun n => rfl) H
  have H : Ev none e 225 129 [some (.ref 633), some (.int n), some (.int al), some (.int s), some (.int c), some (.int u), some (.int i), o7] [.int (zI M 633 3), .int i] M v M' 0 0 := Ev.back 1 (gs_3 rfl rfl (gf_i hS.1 qa_633 qi_61_3 rfl)) H
  have H : Ev none e 225 (if (zI M 633 3) ≤ i then 172 else 132) [some (.ref 633), some (.int n), some (.int al), some (.int s), some (.int c), some (.int u), some (.int i), o7] [] M v M' 0 0 := Ev.back 1 (fun n => rfl) H
  by_cases h1 : (zI M 633 3) ≤ i
  · rw [if_pos h1] at H
    have H : Ev none e 225 179 [some (.ref 633), some (.int n), some (.int al), some (.int s), some (.int c), some (.int u), some (.int ((s - 1) &&& s)), o7] [] M v M' 0 0 := Ev.back 6 (fun n => rfl) H
    have HF := H
    exact Or.inl ⟨h1, HF⟩
  · rw [if_neg h1] at H
    have H : Ev none e 225 (if s = ((1 : Int32) <<< (i &&& 31)) then 140 else 166) [some (.ref 633), some (.int n), some (.int al), some (.int s), some (.int c), some (.int u), some (.int i), o7] [] M v M' 0 0 := Ev.back 5 (fun n => rfl) H
    by_cases h2 : s = ((1 : Int32) <<< (i &&& 31))
    · rw [if_pos h2] at H
      have H : Ev none e 225 141 [some (.ref 633), some (.int n), some (.int al), some (.int s), some (.int c), some (.int u), some (.int i), o7] [.ref 633] M v M' 0 0 := Ev.back 1 (fun n => rfl) H
      have H : Ev none e 225 144 [some (.ref 633), some (.int n), some (.int al), some (.int s), some (.int c), some (.int u), some (.int i), o7] [.ref 635] M v M' 0 0 := Ev.back 1 (gs_3 rfl rfl (gf_u hS.1 qa_633 qr_61_5 qu_63 rfl)) H
      have H : Ev none e 225 148 [some (.ref 633), some (.int n), some (.int al), some (.int s), some (.int c), some (.int u), some (.int i), o7] [.int i, .ref 633, .int 3, .ref 635] M v M' 0 0 := Ev.back 3 (fun n => rfl) H
      obtain ⟨e1, rfl⟩ := Ev.dpos rfl rfl H
      obtain ⟨vK3, MK3, K3, H⟩ := Ev.callb (fun n_ => gs_7 rfl rfl (show gCal (.invokevirtual 147) 11 (.int i :: .ref 633 :: [.int 3, .ref 635]) M = some (.inr (142, [some (.ref 633), some (.int i)], [.int 3, .ref 635])) from by show @cond (Option ((List Value × Mem) ⊕ (Nat × Lo × List Value))) (true && gRecv M (.ref 633) 11 && gRoom [.int 3, .ref 635] && true) (some (.inr (142, [some (.ref 633), some (.int i)], [.int 3, .ref 635]))) none = _; rw [recv_s hS.1 qa_633 qo_61]; rfl)) H
      obtain ⟨pK3, qK3⟩ := g_142 hS K3
      rw [pK3, qK3] at H
      have H : Ev none (e1 + 1) 225 151 [some (.ref 633), some (.int n), some (.int al), some (.int s), some (.int c), some (.int u), some (.int i), o7] [.int (G_142 M i), .int 3, .ref 635] M v M' 0 0 := H
      have H : Ev none (e1 + 1) 225 152 [some (.ref 633), some (.int n), some (.int al), some (.int s), some (.int c), some (.int u), some (.int i), o7] [.int (3 + (G_142 M i)), .ref 635] M v M' 0 0 := Ev.back 1 (fun n => rfl) H
      obtain ⟨b4, H⟩ := Ev.ial rfl rfl hS.1 qa_635 qw_63 H
      have H : Ev none (e1 + 1) 225 153 [some (.ref 633), some (.int n), some (.int al), some (.int s), some (.int c), some (.int u), some (.int i), o7] [.int (rI M 635 (3 + (G_142 M i)))] M v M' 0 0 := H
      have H : Ev none (e1 + 1) 225 (if (rI M 635 (3 + (G_142 M i))) = c then 158 else 166) [some (.ref 633), some (.int n), some (.int al), some (.int s), some (.int c), some (.int u), some (.int i), o7] [] M v M' 0 0 := Ev.back 2 (fun n => rfl) H
      by_cases h5 : (rI M 635 (3 + (G_142 M i))) = c
      · rw [if_pos h5] at H
        have H : Ev none (e1 + 1) 225 161 [some (.ref 633), some (.int n), some (.int al), some (.int s), some (.int c), some (.int u), some (.int i), o7] [.int c, .ref 633] M v M' 0 0 := Ev.back 2 (fun n => rfl) H
        obtain ⟨vK6, MK6, K6, H⟩ := Ev.callb (fun n_ => gs_7 rfl rfl (show gCal (.invokevirtual 463) 11 (.int c :: .ref 633 :: []) M = some (.inr (224, [some (.ref 633), some (.int c)], [])) from by show @cond (Option ((List Value × Mem) ⊕ (Nat × Lo × List Value))) (true && gRecv M (.ref 633) 11 && gRoom [] && true) (some (.inr (224, [some (.ref 633), some (.int c)], []))) none = _; rw [recv_s hS.1 qa_633 qo_61]; rfl)) H
        obtain ⟨pK6, qK6⟩ := g_224 hS K6
        rw [pK6, qK6] at H
        have H : Ev none (e1 + 1) 225 164 [some (.ref 633), some (.int n), some (.int al), some (.int s), some (.int c), some (.int u), some (.int i), o7] [.int (G_224 M c)] M v M' 0 0 := H
        have H : Ev none (e1 + 1) 225 123 [some (.ref 633), some (.int n), some (.int al), some (.int s), some (.int c), some (.int (G_224 M c)), some (.int (i + 1)), o7] [] M v M' 0 0 := Ev.back 3 (fun n => rfl) H
        have HF := H
        exact Or.inr (Or.inl ⟨h1, h2, h5, b4, HF⟩)
      · rw [if_neg h5] at H
        have H : Ev none (e1 + 1) 225 123 [some (.ref 633), some (.int n), some (.int al), some (.int s), some (.int c), some (.int u), some (.int (i + 1)), o7] [] M v M' 0 0 := Ev.back 2 (fun n => rfl) H
        have HF := H
        exact Or.inr (Or.inr (Or.inl ⟨h1, h2, h5, b4, HF⟩))
    · rw [if_neg h2] at H
      have H : Ev none e 225 123 [some (.ref 633), some (.int n), some (.int al), some (.int s), some (.int c), some (.int u), some (.int (i + 1)), o7] [] M v M' 0 0 := Ev.back 2 (fun n => rfl) H
      have HF := H
      exact Or.inr (Or.inr (Or.inr (⟨h1, h2, HF⟩)))
theorem lsr_179 {e : Nat} {M M' : Mem} {v : Option Value} {n al s c u p : Int32} {o7 : Option Value} (hS : SQ M) (H : Ev none e 225 179 [some (.ref 633), some (.int n), some (.int al), some (.int s), some (.int c), some (.int u), some (.int p), o7] [] M v M' 0 0) : (p ≤ 0 ∧ (0 ≤ ((256 * s) + c).toInt ∧ ((256 * s) + c).toInt < 16384) ∧ Ev none e 225 109 [some (.ref 633), some (.int n), some (.int al), some (.int s), some (.int (c + 1)), some (.int u), some (.int p), o7] [] (wI M 654 (((256 * s) + c).toNatClampNeg) u) v M' 0 0) ∨ (¬ (p ≤ 0) ∧ u ≤ (((rI M 654 ((256 * p) + c)) + (rI M 654 ((256 * (s &&& (p ^^^ (-1)))) + c))) - (G_224 M c)) ∧ (0 ≤ ((256 * p) + c).toInt ∧ ((256 * p) + c).toInt < 16384) ∧ (0 ≤ ((256 * (s &&& (p ^^^ (-1)))) + c).toInt ∧ ((256 * (s &&& (p ^^^ (-1)))) + c).toInt < 16384) ∧ Ev none e 225 179 [some (.ref 633), some (.int n), some (.int al), some (.int s), some (.int c), some (.int u), some (.int ((p - 1) &&& s)), some (.int (((rI M 654 ((256 * p) + c)) + (rI M 654 ((256 * (s &&& (p ^^^ (-1)))) + c))) - (G_224 M c)))] [] M v M' 0 0) ∨ (¬ (p ≤ 0) ∧ ¬ (u ≤ (((rI M 654 ((256 * p) + c)) + (rI M 654 ((256 * (s &&& (p ^^^ (-1)))) + c))) - (G_224 M c))) ∧ (0 ≤ ((256 * p) + c).toInt ∧ ((256 * p) + c).toInt < 16384) ∧ (0 ≤ ((256 * (s &&& (p ^^^ (-1)))) + c).toInt ∧ ((256 * (s &&& (p ^^^ (-1)))) + c).toInt < 16384) ∧ Ev none e 225 179 [some (.ref 633), some (.int n), some (.int al), some (.int s), some (.int c), some (.int (((rI M 654 ((256 * p) + c)) + (rI M 654 ((256 * (s &&& (p ^^^ (-1)))) + c))) - (G_224 M c))), some (.int ((p - 1) &&& s)), some (.int (((rI M 654 ((256 * p) + c)) + (rI M 654 ((256 * (s &&& (p ^^^ (-1)))) + c))) - (G_224 M c)))] [] M v M' 0 0) := by
  have H : Ev none e 225 (if p ≤ 0 then 253 else 184) [some (.ref 633), some (.int n), some (.int al), some (.int s), some (.int c), some (.int u), some (.int p), o7] [] M v M' 0 0 := Ev.back 2 (fun n => rfl) H
  by_cases h1 : p ≤ 0
  · rw [if_pos h1] at H
    have H : Ev none e 225 254 [some (.ref 633), some (.int n), some (.int al), some (.int s), some (.int c), some (.int u), some (.int p), o7] [.ref 633] M v M' 0 0 := Ev.back 1 (fun n => rfl) H
    have H : Ev none e 225 257 [some (.ref 633), some (.int n), some (.int al), some (.int s), some (.int c), some (.int u), some (.int p), o7] [.ref 654] M v M' 0 0 := Ev.back 1 (gs_3 rfl rfl (gf_u hS.1 qa_633 qr_61_47 qu_82 rfl)) H
    have H : Ev none e 225 267 [some (.ref 633), some (.int n), some (.int al), some (.int s), some (.int c), some (.int u), some (.int p), o7] [.int u, .int ((256 * s) + c), .ref 654] M v M' 0 0 := Ev.back 6 (fun n => rfl) H
    obtain ⟨b2, H⟩ := Ev.ias rfl rfl hS.1 qa_654 qw_82 H
    obtain ⟨N3, eN3⟩ : ∃ N, N = (wI M 654 (((256 * s) + c).toNatClampNeg) u) := ⟨_, rfl⟩
    have hN3 : SQ N3 := by rw [eN3]; exact hS.ki
    have H : Ev none e 225 268 [some (.ref 633), some (.int n), some (.int al), some (.int s), some (.int c), some (.int u), some (.int p), o7] [] N3 v M' 0 0 := by rw [eN3]; exact H
    have H : Ev none e 225 109 [some (.ref 633), some (.int n), some (.int al), some (.int s), some (.int (c + 1)), some (.int u), some (.int p), o7] [] N3 v M' 0 0 := Ev.back 2 (fun n => rfl) H
    have HF := H
    subst eN3
    exact Or.inl ⟨h1, b2, HF⟩
  · rw [if_neg h1] at H
    have H : Ev none e 225 185 [some (.ref 633), some (.int n), some (.int al), some (.int s), some (.int c), some (.int u), some (.int p), o7] [.ref 633] M v M' 0 0 := Ev.back 1 (fun n => rfl) H
    have H : Ev none e 225 188 [some (.ref 633), some (.int n), some (.int al), some (.int s), some (.int c), some (.int u), some (.int p), o7] [.ref 654] M v M' 0 0 := Ev.back 1 (gs_3 rfl rfl (gf_u hS.1 qa_633 qr_61_47 qu_82 rfl)) H
    have H : Ev none e 225 197 [some (.ref 633), some (.int n), some (.int al), some (.int s), some (.int c), some (.int u), some (.int p), o7] [.int ((256 * p) + c), .ref 654] M v M' 0 0 := Ev.back 5 (fun n => rfl) H
    obtain ⟨b4, H⟩ := Ev.ial rfl rfl hS.1 qa_654 qw_82 H
    have H : Ev none e 225 198 [some (.ref 633), some (.int n), some (.int al), some (.int s), some (.int c), some (.int u), some (.int p), o7] [.int (rI M 654 ((256 * p) + c))] M v M' 0 0 := H
    have H : Ev none e 225 199 [some (.ref 633), some (.int n), some (.int al), some (.int s), some (.int c), some (.int u), some (.int p), o7] [.ref 633, .int (rI M 654 ((256 * p) + c))] M v M' 0 0 := Ev.back 1 (fun n => rfl) H
    have H : Ev none e 225 202 [some (.ref 633), some (.int n), some (.int al), some (.int s), some (.int c), some (.int u), some (.int p), o7] [.ref 654, .int (rI M 654 ((256 * p) + c))] M v M' 0 0 := Ev.back 1 (gs_3 rfl rfl (gf_u hS.1 qa_633 qr_61_47 qu_82 rfl)) H
    have H : Ev none e 225 215 [some (.ref 633), some (.int n), some (.int al), some (.int s), some (.int c), some (.int u), some (.int p), o7] [.int ((256 * (s &&& (p ^^^ (-1)))) + c), .ref 654, .int (rI M 654 ((256 * p) + c))] M v M' 0 0 := Ev.back 9 (fun n => rfl) H
    obtain ⟨b5, H⟩ := Ev.ial rfl rfl hS.1 qa_654 qw_82 H
    have H : Ev none e 225 216 [some (.ref 633), some (.int n), some (.int al), some (.int s), some (.int c), some (.int u), some (.int p), o7] [.int (rI M 654 ((256 * (s &&& (p ^^^ (-1)))) + c)), .int (rI M 654 ((256 * p) + c))] M v M' 0 0 := H
    have H : Ev none e 225 220 [some (.ref 633), some (.int n), some (.int al), some (.int s), some (.int c), some (.int u), some (.int p), o7] [.int c, .ref 633, .int ((rI M 654 ((256 * p) + c)) + (rI M 654 ((256 * (s &&& (p ^^^ (-1)))) + c)))] M v M' 0 0 := Ev.back 3 (fun n => rfl) H
    obtain ⟨e1, rfl⟩ := Ev.dpos rfl rfl H
    obtain ⟨vK6, MK6, K6, H⟩ := Ev.callb (fun n_ => gs_7 rfl rfl (show gCal (.invokevirtual 463) 11 (.int c :: .ref 633 :: [.int ((rI M 654 ((256 * p) + c)) + (rI M 654 ((256 * (s &&& (p ^^^ (-1)))) + c)))]) M = some (.inr (224, [some (.ref 633), some (.int c)], [.int ((rI M 654 ((256 * p) + c)) + (rI M 654 ((256 * (s &&& (p ^^^ (-1)))) + c)))])) from by show @cond (Option ((List Value × Mem) ⊕ (Nat × Lo × List Value))) (true && gRecv M (.ref 633) 11 && gRoom [.int ((rI M 654 ((256 * p) + c)) + (rI M 654 ((256 * (s &&& (p ^^^ (-1)))) + c)))] && true) (some (.inr (224, [some (.ref 633), some (.int c)], [.int ((rI M 654 ((256 * p) + c)) + (rI M 654 ((256 * (s &&& (p ^^^ (-1)))) + c)))]))) none = _; rw [recv_s hS.1 qa_633 qo_61]; rfl)) H
    obtain ⟨pK6, qK6⟩ := g_224 hS K6
    rw [pK6, qK6] at H
    have H : Ev none (e1 + 1) 225 223 [some (.ref 633), some (.int n), some (.int al), some (.int s), some (.int c), some (.int u), some (.int p), o7] [.int (G_224 M c), .int ((rI M 654 ((256 * p) + c)) + (rI M 654 ((256 * (s &&& (p ^^^ (-1)))) + c)))] M v M' 0 0 := H
    have H : Ev none (e1 + 1) 225 (if u ≤ (((rI M 654 ((256 * p) + c)) + (rI M 654 ((256 * (s &&& (p ^^^ (-1)))) + c))) - (G_224 M c)) then 238 else 233) [some (.ref 633), some (.int n), some (.int al), some (.int s), some (.int c), some (.int u), some (.int p), some (.int (((rI M 654 ((256 * p) + c)) + (rI M 654 ((256 * (s &&& (p ^^^ (-1)))) + c))) - (G_224 M c)))] [] M v M' 0 0 := Ev.back 5 (fun n => rfl) H
    by_cases h7 : u ≤ (((rI M 654 ((256 * p) + c)) + (rI M 654 ((256 * (s &&& (p ^^^ (-1)))) + c))) - (G_224 M c))
    · rw [if_pos h7] at H
      have H : Ev none (e1 + 1) 225 179 [some (.ref 633), some (.int n), some (.int al), some (.int s), some (.int c), some (.int u), some (.int ((p - 1) &&& s)), some (.int (((rI M 654 ((256 * p) + c)) + (rI M 654 ((256 * (s &&& (p ^^^ (-1)))) + c))) - (G_224 M c)))] [] M v M' 0 0 := Ev.back 9 (fun n => rfl) H
      have HF := H
      exact Or.inr (Or.inl ⟨h1, h7, b4, b5, HF⟩)
    · rw [if_neg h7] at H
      have H : Ev none (e1 + 1) 225 179 [some (.ref 633), some (.int n), some (.int al), some (.int s), some (.int c), some (.int (((rI M 654 ((256 * p) + c)) + (rI M 654 ((256 * (s &&& (p ^^^ (-1)))) + c))) - (G_224 M c))), some (.int ((p - 1) &&& s)), some (.int (((rI M 654 ((256 * p) + c)) + (rI M 654 ((256 * (s &&& (p ^^^ (-1)))) + c))) - (G_224 M c)))] [] M v M' 0 0 := Ev.back 10 (fun n => rfl) H
      have HF := H
      exact Or.inr (Or.inr (⟨h1, h7, b4, b5, HF⟩))
theorem lsr_284 {e : Nat} {M M' : Mem} {v : Option Value} {n al s c : Int32} {o5 o6 o7 : Option Value} (hS : SQ M) (H : Ev none e 225 284 [some (.ref 633), some (.int n), some (.int al), some (.int s), some (.int c), o5, o6, o7] [] M v M' 0 0) : Ev none e 225 101 [some (.ref 633), some (.int n), some (.int al), some (.int (s + 1)), some (.int c), o5, o6, o7] [] M v M' 0 0 := by
  have H : Ev none e 225 101 [some (.ref 633), some (.int n), some (.int al), some (.int (s + 1)), some (.int c), o5, o6, o7] [] M v M' 0 0 := Ev.back 2 (fun n => rfl) H
  have HF := H
  exact HF
theorem lsr_297 {e : Nat} {M M' : Mem} {v : Option Value} {n al be c : Int32} {o5 o6 o7 : Option Value} (hS : SQ M) (H : Ev none e 225 297 [some (.ref 633), some (.int n), some (.int al), some (.int be), some (.int c), o5, o6, o7] [] M v M' 0 0) : (n ≤ c ∧ be < 10000000 ∧ v = some (.int be) ∧ M' = M) ∨ (n ≤ c ∧ ¬ (be < 10000000) ∧ v = some (.int (-1)) ∧ M' = M) ∨ (¬ (n ≤ c) ∧ be ≤ (rI M 654 ((256 * al) + c)) ∧ (0 ≤ ((256 * al) + c).toInt ∧ ((256 * al) + c).toInt < 16384) ∧ Ev none e 225 297 [some (.ref 633), some (.int n), some (.int al), some (.int be), some (.int (c + 1)), o5, o6, o7] [] M v M' 0 0) ∨ (¬ (n ≤ c) ∧ ¬ (be ≤ (rI M 654 ((256 * al) + c))) ∧ (0 ≤ ((256 * al) + c).toInt ∧ ((256 * al) + c).toInt < 16384) ∧ (0 ≤ ((256 * al) + c).toInt ∧ ((256 * al) + c).toInt < 16384) ∧ Ev none e 225 297 [some (.ref 633), some (.int n), some (.int al), some (.int (rI M 654 ((256 * al) + c))), some (.int (c + 1)), o5, o6, o7] [] M v M' 0 0) := by
  have H : Ev none e 225 (if n ≤ c then 344 else 303) [some (.ref 633), some (.int n), some (.int al), some (.int be), some (.int c), o5, o6, o7] [] M v M' 0 0 := Ev.back 3 (fun n => rfl) H
  by_cases h1 : n ≤ c
  · rw [if_pos h1] at H
    have H : Ev none e 225 (if be < 10000000 then 355 else 351) [some (.ref 633), some (.int n), some (.int al), some (.int be), some (.int c), o5, o6, o7] [] M v M' 0 0 := Ev.back 3 (fun n => rfl) H
    by_cases h2 : be < 10000000
    · rw [if_pos h2] at H
      have H : Ev none e 225 356 [some (.ref 633), some (.int n), some (.int al), some (.int be), some (.int c), o5, o6, o7] [.int be] M v M' 0 0 := Ev.back 1 (fun n => rfl) H
      obtain ⟨z1, z2⟩ := Ev.retz rfl rfl H
      exact Or.inl ⟨h1, h2, z1, z2⟩
    · rw [if_neg h2] at H
      have H : Ev none e 225 356 [some (.ref 633), some (.int n), some (.int al), some (.int be), some (.int c), o5, o6, o7] [.int (-1)] M v M' 0 0 := Ev.back 2 (fun n => rfl) H
      obtain ⟨z1, z2⟩ := Ev.retz rfl rfl H
      exact Or.inr (Or.inl ⟨h1, h2, z1, z2⟩)
  · rw [if_neg h1] at H
    have H : Ev none e 225 304 [some (.ref 633), some (.int n), some (.int al), some (.int be), some (.int c), o5, o6, o7] [.ref 633] M v M' 0 0 := Ev.back 1 (fun n => rfl) H
    have H : Ev none e 225 307 [some (.ref 633), some (.int n), some (.int al), some (.int be), some (.int c), o5, o6, o7] [.ref 654] M v M' 0 0 := Ev.back 1 (gs_3 rfl rfl (gf_u hS.1 qa_633 qr_61_47 qu_82 rfl)) H
    have H : Ev none e 225 315 [some (.ref 633), some (.int n), some (.int al), some (.int be), some (.int c), o5, o6, o7] [.int ((256 * al) + c), .ref 654] M v M' 0 0 := Ev.back 5 (fun n => rfl) H
    obtain ⟨b3, H⟩ := Ev.ial rfl rfl hS.1 qa_654 qw_82 H
    have H : Ev none e 225 316 [some (.ref 633), some (.int n), some (.int al), some (.int be), some (.int c), o5, o6, o7] [.int (rI M 654 ((256 * al) + c))] M v M' 0 0 := H
    have H : Ev none e 225 (if be ≤ (rI M 654 ((256 * al) + c)) then 336 else 320) [some (.ref 633), some (.int n), some (.int al), some (.int be), some (.int c), o5, o6, o7] [] M v M' 0 0 := Ev.back 2 (fun n => rfl) H
    by_cases h4 : be ≤ (rI M 654 ((256 * al) + c))
    · rw [if_pos h4] at H
      have H : Ev none e 225 297 [some (.ref 633), some (.int n), some (.int al), some (.int be), some (.int (c + 1)), o5, o6, o7] [] M v M' 0 0 := Ev.back 4 (fun n => rfl) H
      have HF := H
      exact Or.inr (Or.inr (Or.inl ⟨h1, h4, b3, HF⟩))
    · rw [if_neg h4] at H
      have H : Ev none e 225 321 [some (.ref 633), some (.int n), some (.int al), some (.int be), some (.int c), o5, o6, o7] [.ref 633] M v M' 0 0 := Ev.back 1 (fun n => rfl) H
      have H : Ev none e 225 324 [some (.ref 633), some (.int n), some (.int al), some (.int be), some (.int c), o5, o6, o7] [.ref 654] M v M' 0 0 := Ev.back 1 (gs_3 rfl rfl (gf_u hS.1 qa_633 qr_61_47 qu_82 rfl)) H
      have H : Ev none e 225 332 [some (.ref 633), some (.int n), some (.int al), some (.int be), some (.int c), o5, o6, o7] [.int ((256 * al) + c), .ref 654] M v M' 0 0 := Ev.back 5 (fun n => rfl) H
      obtain ⟨b5, H⟩ := Ev.ial rfl rfl hS.1 qa_654 qw_82 H
      have H : Ev none e 225 333 [some (.ref 633), some (.int n), some (.int al), some (.int be), some (.int c), o5, o6, o7] [.int (rI M 654 ((256 * al) + c))] M v M' 0 0 := H
      have H : Ev none e 225 297 [some (.ref 633), some (.int n), some (.int al), some (.int (rI M 654 ((256 * al) + c))), some (.int (c + 1)), o5, o6, o7] [] M v M' 0 0 := Ev.back 4 (fun n => rfl) H
      have HF := H
      exact Or.inr (Or.inr (Or.inr (⟨h1, h4, b3, b5, HF⟩)))
theorem wid_0 {e : Nat} {M M' : Mem} {v : Option Value} {f n : Int32} (hS : SQ M) (H : Ev none e 226 0 [some (.ref 633), some (.int f), some (.int n), none, none, none, none] [] M v M' 0 0) : Ev none e 226 2 [some (.ref 633), some (.int f), some (.int n), some (.int 1), none, none, none] [] M v M' 0 0 := by
  have H : Ev none e 226 2 [some (.ref 633), some (.int f), some (.int n), some (.int 1), none, none, none] [] M v M' 0 0 := Ev.back 2 (fun n => rfl) H
  have HF := H
  exact HF
theorem wid_2 {e : Nat} {M M' : Mem} {v : Option Value} {f n mo : Int32} {o4 o5 o6 : Option Value} (hS : SQ M) (H : Ev none e 226 2 [some (.ref 633), some (.int f), some (.int n), some (.int mo), o4, o5, o6] [] M v M' 0 0) : (mo = 0 ∧ v = none ∧ M' = M) ∨ (¬ (mo = 0) ∧ Ev none e 226 11 [some (.ref 633), some (.int f), some (.int n), some (.int 0), some (.int 0), o5, o6] [] M v M' 0 0) := by
  have H : Ev none e 226 (if mo = 0 then 133 else 6) [some (.ref 633), some (.int f), some (.int n), some (.int mo), o4, o5, o6] [] M v M' 0 0 := Ev.back 2 (fun n => rfl) H
  by_cases h1 : mo = 0
  · rw [if_pos h1] at H
    obtain ⟨z1, z2⟩ := Ev.retb (fun n => rfl) H
    exact Or.inl ⟨h1, z1, z2⟩
  · rw [if_neg h1] at H
    have H : Ev none e 226 11 [some (.ref 633), some (.int f), some (.int n), some (.int 0), some (.int 0), o5, o6] [] M v M' 0 0 := Ev.back 4 (fun n => rfl) H
    have HF := H
    exact Or.inr (⟨h1, HF⟩)
theorem wid_11 {e : Nat} {M M' : Mem} {v : Option Value} {f n mo c : Int32} {o5 o6 : Option Value} (hS : SQ M) (H : Ev none e 226 11 [some (.ref 633), some (.int f), some (.int n), some (.int mo), some (.int c), o5, o6] [] M v M' 0 0) : (n ≤ c ∧ Ev none e 226 2 [some (.ref 633), some (.int f), some (.int n), some (.int mo), some (.int c), o5, o6] [] M v M' 0 0) ∨ (¬ (n ≤ c) ∧ Ev none e 226 20 [some (.ref 633), some (.int f), some (.int n), some (.int mo), some (.int c), some (.int 0), o6] [] M v M' 0 0) := by
  have H : Ev none e 226 (if n ≤ c then 130 else 17) [some (.ref 633), some (.int f), some (.int n), some (.int mo), some (.int c), o5, o6] [] M v M' 0 0 := Ev.back 3 (fun n => rfl) H
  by_cases h1 : n ≤ c
  · rw [if_pos h1] at H
    have H : Ev none e 226 2 [some (.ref 633), some (.int f), some (.int n), some (.int mo), some (.int c), o5, o6] [] M v M' 0 0 := Ev.back 1 (fun n => rfl) H
    have HF := H
    exact Or.inl ⟨h1, HF⟩
  · rw [if_neg h1] at H
    have H : Ev none e 226 20 [some (.ref 633), some (.int f), some (.int n), some (.int mo), some (.int c), some (.int 0), o6] [] M v M' 0 0 := Ev.back 2 (fun n => rfl) H
    have HF := H
    exact Or.inr (⟨h1, HF⟩)
theorem wid_20 {e : Nat} {M M' : Mem} {v : Option Value} {f n mo c d : Int32} {o6 : Option Value} (hS : SQ M) (H : Ev none e 226 20 [some (.ref 633), some (.int f), some (.int n), some (.int mo), some (.int c), some (.int d), o6] [] M v M' 0 0) : (8 ≤ d ∧ Ev none e 226 11 [some (.ref 633), some (.int f), some (.int n), some (.int mo), some (.int (c + 1)), some (.int d), o6] [] M v M' 0 0) ∨ (¬ (8 ≤ d) ∧ (G_148 M c) = 0 ∧ Ev none e 226 11 [some (.ref 633), some (.int f), some (.int n), some (.int mo), some (.int (c + 1)), some (.int d), o6] [] M v M' 0 0) ∨ (¬ (8 ≤ d) ∧ ¬ ((G_148 M c) = 0) ∧ (G_194 M c d) < 0 ∧ Ev none e 226 20 [some (.ref 633), some (.int f), some (.int n), some (.int mo), some (.int c), some (.int (d + 1)), some (.int (G_194 M c d))] [] M v M' 0 0) ∨ (¬ (8 ≤ d) ∧ ¬ ((G_148 M c) = 0) ∧ ¬ ((G_194 M c d) < 0) ∧ (G_148 M (G_194 M c d)) = 0 ∧ Ev none e 226 20 [some (.ref 633), some (.int f), some (.int n), some (.int mo), some (.int c), some (.int (d + 1)), some (.int (G_194 M c d))] [] M v M' 0 0) ∨ (¬ (8 ≤ d) ∧ ¬ ((G_148 M c) = 0) ∧ ¬ ((G_194 M c d) < 0) ∧ ¬ ((G_148 M (G_194 M c d)) = 0) ∧ ((rI M 654 (f + (G_194 M c d))) + (G_224 M c)) < (rI M 654 (f + c)) ∧ (0 ≤ (f + (G_194 M c d)).toInt ∧ (f + (G_194 M c d)).toInt < 16384) ∧ (0 ≤ (f + c).toInt ∧ (f + c).toInt < 16384) ∧ (0 ≤ (f + (G_194 M c d)).toInt ∧ (f + (G_194 M c d)).toInt < 16384) ∧ (0 ≤ (f + c).toInt ∧ (f + c).toInt < 16384) ∧ Ev none e 226 20 [some (.ref 633), some (.int f), some (.int n), some (.int 1), some (.int c), some (.int (d + 1)), some (.int (G_194 M c d))] [] (wI M 654 ((f + c).toNatClampNeg) ((rI M 654 (f + (G_194 M c d))) + (G_224 M c))) v M' 0 0) ∨ (¬ (8 ≤ d) ∧ ¬ ((G_148 M c) = 0) ∧ ¬ ((G_194 M c d) < 0) ∧ ¬ ((G_148 M (G_194 M c d)) = 0) ∧ ¬ (((rI M 654 (f + (G_194 M c d))) + (G_224 M c)) < (rI M 654 (f + c))) ∧ (0 ≤ (f + (G_194 M c d)).toInt ∧ (f + (G_194 M c d)).toInt < 16384) ∧ (0 ≤ (f + c).toInt ∧ (f + c).toInt < 16384) ∧ Ev none e 226 20 [some (.ref 633), some (.int f), some (.int n), some (.int mo), some (.int c), some (.int (d + 1)), some (.int (G_194 M c d))] [] M v M' 0 0) := by
  have H : Ev none e 226 (if 8 ≤ d then 124 else 27) [some (.ref 633), some (.int f), some (.int n), some (.int mo), some (.int c), some (.int d), o6] [] M v M' 0 0 := Ev.back 3 (fun n => rfl) H
  by_cases h1 : 8 ≤ d
  · rw [if_pos h1] at H
    have H : Ev none e 226 11 [some (.ref 633), some (.int f), some (.int n), some (.int mo), some (.int (c + 1)), some (.int d), o6] [] M v M' 0 0 := Ev.back 2 (fun n => rfl) H
    have HF := H
    exact Or.inl ⟨h1, HF⟩
  · rw [if_neg h1] at H
    have H : Ev none e 226 30 [some (.ref 633), some (.int f), some (.int n), some (.int mo), some (.int c), some (.int d), o6] [.int c, .ref 633] M v M' 0 0 := Ev.back 2 (fun n => rfl) H
    obtain ⟨e1, rfl⟩ := Ev.dpos rfl rfl H
    obtain ⟨vK2, MK2, K2, H⟩ := Ev.callb (fun n_ => gs_7 rfl rfl (show gCal (.invokevirtual 158) 11 (.int c :: .ref 633 :: []) M = some (.inr (148, [some (.ref 633), some (.int c)], [])) from by show @cond (Option ((List Value × Mem) ⊕ (Nat × Lo × List Value))) (true && gRecv M (.ref 633) 11 && gRoom [] && true) (some (.inr (148, [some (.ref 633), some (.int c)], []))) none = _; rw [recv_s hS.1 qa_633 qo_61]; rfl)) H
    obtain ⟨pK2, qK2⟩ := g_148 hS K2
    rw [pK2, qK2] at H
    have H : Ev none (e1 + 1) 226 33 [some (.ref 633), some (.int f), some (.int n), some (.int mo), some (.int c), some (.int d), o6] [.int (G_148 M c)] M v M' 0 0 := H
    have H : Ev none (e1 + 1) 226 (if (G_148 M c) = 0 then 124 else 36) [some (.ref 633), some (.int f), some (.int n), some (.int mo), some (.int c), some (.int d), o6] [] M v M' 0 0 := Ev.back 1 (fun n => rfl) H
    by_cases h3 : (G_148 M c) = 0
    · rw [if_pos h3] at H
      have H : Ev none (e1 + 1) 226 11 [some (.ref 633), some (.int f), some (.int n), some (.int mo), some (.int (c + 1)), some (.int d), o6] [] M v M' 0 0 := Ev.back 2 (fun n => rfl) H
      have HF := H
      exact Or.inr (Or.inl ⟨h1, h3, HF⟩)
    · rw [if_neg h3] at H
      have H : Ev none (e1 + 1) 226 41 [some (.ref 633), some (.int f), some (.int n), some (.int mo), some (.int c), some (.int d), o6] [.int d, .int c, .ref 633] M v M' 0 0 := Ev.back 3 (fun n => rfl) H
      obtain ⟨vK4, MK4, K4, H⟩ := Ev.callb (fun n_ => gs_7 rfl rfl (show gCal (.invokevirtual 380) 11 (.int d :: .int c :: .ref 633 :: []) M = some (.inr (194, [some (.ref 633), some (.int c), some (.int d), none, none], [])) from by show @cond (Option ((List Value × Mem) ⊕ (Nat × Lo × List Value))) (true && gRecv M (.ref 633) 11 && gRoom [] && true) (some (.inr (194, [some (.ref 633), some (.int c), some (.int d), none, none], []))) none = _; rw [recv_s hS.1 qa_633 qo_61]; rfl)) H
      obtain ⟨pK4, qK4⟩ := g_194 hS K4
      rw [pK4, qK4] at H
      have H : Ev none (e1 + 1) 226 44 [some (.ref 633), some (.int f), some (.int n), some (.int mo), some (.int c), some (.int d), o6] [.int (G_194 M c d)] M v M' 0 0 := H
      have H : Ev none (e1 + 1) 226 (if (G_194 M c d) < 0 then 118 else 51) [some (.ref 633), some (.int f), some (.int n), some (.int mo), some (.int c), some (.int d), some (.int (G_194 M c d))] [] M v M' 0 0 := Ev.back 3 (fun n => rfl) H
      by_cases h5 : (G_194 M c d) < 0
      · rw [if_pos h5] at H
        have H : Ev none (e1 + 1) 226 20 [some (.ref 633), some (.int f), some (.int n), some (.int mo), some (.int c), some (.int (d + 1)), some (.int (G_194 M c d))] [] M v M' 0 0 := Ev.back 2 (fun n => rfl) H
        have HF := H
        exact Or.inr (Or.inr (Or.inl ⟨h1, h3, h5, HF⟩))
      · rw [if_neg h5] at H
        have H : Ev none (e1 + 1) 226 54 [some (.ref 633), some (.int f), some (.int n), some (.int mo), some (.int c), some (.int d), some (.int (G_194 M c d))] [.int (G_194 M c d), .ref 633] M v M' 0 0 := Ev.back 2 (fun n => rfl) H
        obtain ⟨vK6, MK6, K6, H⟩ := Ev.callb (fun n_ => gs_7 rfl rfl (show gCal (.invokevirtual 158) 11 (.int (G_194 M c d) :: .ref 633 :: []) M = some (.inr (148, [some (.ref 633), some (.int (G_194 M c d))], [])) from by show @cond (Option ((List Value × Mem) ⊕ (Nat × Lo × List Value))) (true && gRecv M (.ref 633) 11 && gRoom [] && true) (some (.inr (148, [some (.ref 633), some (.int (G_194 M c d))], []))) none = _; rw [recv_s hS.1 qa_633 qo_61]; rfl)) H
        obtain ⟨pK6, qK6⟩ := g_148 hS K6
        rw [pK6, qK6] at H
        have H : Ev none (e1 + 1) 226 57 [some (.ref 633), some (.int f), some (.int n), some (.int mo), some (.int c), some (.int d), some (.int (G_194 M c d))] [.int (G_148 M (G_194 M c d))] M v M' 0 0 := H
        have H : Ev none (e1 + 1) 226 (if (G_148 M (G_194 M c d)) = 0 then 118 else 60) [some (.ref 633), some (.int f), some (.int n), some (.int mo), some (.int c), some (.int d), some (.int (G_194 M c d))] [] M v M' 0 0 := Ev.back 1 (fun n => rfl) H
        by_cases h7 : (G_148 M (G_194 M c d)) = 0
        · rw [if_pos h7] at H
          have H : Ev none (e1 + 1) 226 20 [some (.ref 633), some (.int f), some (.int n), some (.int mo), some (.int c), some (.int (d + 1)), some (.int (G_194 M c d))] [] M v M' 0 0 := Ev.back 2 (fun n => rfl) H
          have HF := H
          exact Or.inr (Or.inr (Or.inr (Or.inl ⟨h1, h3, h5, h7, HF⟩)))
        · rw [if_neg h7] at H
          have H : Ev none (e1 + 1) 226 61 [some (.ref 633), some (.int f), some (.int n), some (.int mo), some (.int c), some (.int d), some (.int (G_194 M c d))] [.ref 633] M v M' 0 0 := Ev.back 1 (fun n => rfl) H
          have H : Ev none (e1 + 1) 226 64 [some (.ref 633), some (.int f), some (.int n), some (.int mo), some (.int c), some (.int d), some (.int (G_194 M c d))] [.ref 654] M v M' 0 0 := Ev.back 1 (gs_3 rfl rfl (gf_u hS.1 qa_633 qr_61_47 qu_82 rfl)) H
          have H : Ev none (e1 + 1) 226 68 [some (.ref 633), some (.int f), some (.int n), some (.int mo), some (.int c), some (.int d), some (.int (G_194 M c d))] [.int (f + (G_194 M c d)), .ref 654] M v M' 0 0 := Ev.back 3 (fun n => rfl) H
          obtain ⟨b8, H⟩ := Ev.ial rfl rfl hS.1 qa_654 qw_82 H
          have H : Ev none (e1 + 1) 226 69 [some (.ref 633), some (.int f), some (.int n), some (.int mo), some (.int c), some (.int d), some (.int (G_194 M c d))] [.int (rI M 654 (f + (G_194 M c d)))] M v M' 0 0 := H
          have H : Ev none (e1 + 1) 226 72 [some (.ref 633), some (.int f), some (.int n), some (.int mo), some (.int c), some (.int d), some (.int (G_194 M c d))] [.int c, .ref 633, .int (rI M 654 (f + (G_194 M c d)))] M v M' 0 0 := Ev.back 2 (fun n => rfl) H
          obtain ⟨vK9, MK9, K9, H⟩ := Ev.callb (fun n_ => gs_7 rfl rfl (show gCal (.invokevirtual 463) 11 (.int c :: .ref 633 :: [.int (rI M 654 (f + (G_194 M c d)))]) M = some (.inr (224, [some (.ref 633), some (.int c)], [.int (rI M 654 (f + (G_194 M c d)))])) from by show @cond (Option ((List Value × Mem) ⊕ (Nat × Lo × List Value))) (true && gRecv M (.ref 633) 11 && gRoom [.int (rI M 654 (f + (G_194 M c d)))] && true) (some (.inr (224, [some (.ref 633), some (.int c)], [.int (rI M 654 (f + (G_194 M c d)))]))) none = _; rw [recv_s hS.1 qa_633 qo_61]; rfl)) H
          obtain ⟨pK9, qK9⟩ := g_224 hS K9
          rw [pK9, qK9] at H
          have H : Ev none (e1 + 1) 226 75 [some (.ref 633), some (.int f), some (.int n), some (.int mo), some (.int c), some (.int d), some (.int (G_194 M c d))] [.int (G_224 M c), .int (rI M 654 (f + (G_194 M c d)))] M v M' 0 0 := H
          have H : Ev none (e1 + 1) 226 77 [some (.ref 633), some (.int f), some (.int n), some (.int mo), some (.int c), some (.int d), some (.int (G_194 M c d))] [.ref 633, .int ((rI M 654 (f + (G_194 M c d))) + (G_224 M c))] M v M' 0 0 := Ev.back 2 (fun n => rfl) H
          have H : Ev none (e1 + 1) 226 80 [some (.ref 633), some (.int f), some (.int n), some (.int mo), some (.int c), some (.int d), some (.int (G_194 M c d))] [.ref 654, .int ((rI M 654 (f + (G_194 M c d))) + (G_224 M c))] M v M' 0 0 := Ev.back 1 (gs_3 rfl rfl (gf_u hS.1 qa_633 qr_61_47 qu_82 rfl)) H
          have H : Ev none (e1 + 1) 226 84 [some (.ref 633), some (.int f), some (.int n), some (.int mo), some (.int c), some (.int d), some (.int (G_194 M c d))] [.int (f + c), .ref 654, .int ((rI M 654 (f + (G_194 M c d))) + (G_224 M c))] M v M' 0 0 := Ev.back 3 (fun n => rfl) H
          obtain ⟨b10, H⟩ := Ev.ial rfl rfl hS.1 qa_654 qw_82 H
          have H : Ev none (e1 + 1) 226 85 [some (.ref 633), some (.int f), some (.int n), some (.int mo), some (.int c), some (.int d), some (.int (G_194 M c d))] [.int (rI M 654 (f + c)), .int ((rI M 654 (f + (G_194 M c d))) + (G_224 M c))] M v M' 0 0 := H
          have H : Ev none (e1 + 1) 226 (if ((rI M 654 (f + (G_194 M c d))) + (G_224 M c)) < (rI M 654 (f + c)) then 91 else 88) [some (.ref 633), some (.int f), some (.int n), some (.int mo), some (.int c), some (.int d), some (.int (G_194 M c d))] [] M v M' 0 0 := Ev.back 1 (fun n => rfl) H
          by_cases h11 : ((rI M 654 (f + (G_194 M c d))) + (G_224 M c)) < (rI M 654 (f + c))
          · rw [if_pos h11] at H
            have H : Ev none (e1 + 1) 226 92 [some (.ref 633), some (.int f), some (.int n), some (.int mo), some (.int c), some (.int d), some (.int (G_194 M c d))] [.ref 633] M v M' 0 0 := Ev.back 1 (fun n => rfl) H
            have H : Ev none (e1 + 1) 226 95 [some (.ref 633), some (.int f), some (.int n), some (.int mo), some (.int c), some (.int d), some (.int (G_194 M c d))] [.ref 654] M v M' 0 0 := Ev.back 1 (gs_3 rfl rfl (gf_u hS.1 qa_633 qr_61_47 qu_82 rfl)) H
            have H : Ev none (e1 + 1) 226 100 [some (.ref 633), some (.int f), some (.int n), some (.int mo), some (.int c), some (.int d), some (.int (G_194 M c d))] [.ref 633, .int (f + c), .ref 654] M v M' 0 0 := Ev.back 4 (fun n => rfl) H
            have H : Ev none (e1 + 1) 226 103 [some (.ref 633), some (.int f), some (.int n), some (.int mo), some (.int c), some (.int d), some (.int (G_194 M c d))] [.ref 654, .int (f + c), .ref 654] M v M' 0 0 := Ev.back 1 (gs_3 rfl rfl (gf_u hS.1 qa_633 qr_61_47 qu_82 rfl)) H
            have H : Ev none (e1 + 1) 226 107 [some (.ref 633), some (.int f), some (.int n), some (.int mo), some (.int c), some (.int d), some (.int (G_194 M c d))] [.int (f + (G_194 M c d)), .ref 654, .int (f + c), .ref 654] M v M' 0 0 := Ev.back 3 (fun n => rfl) H
            obtain ⟨b12, H⟩ := Ev.ial rfl rfl hS.1 qa_654 qw_82 H
            have H : Ev none (e1 + 1) 226 108 [some (.ref 633), some (.int f), some (.int n), some (.int mo), some (.int c), some (.int d), some (.int (G_194 M c d))] [.int (rI M 654 (f + (G_194 M c d))), .int (f + c), .ref 654] M v M' 0 0 := H
            have H : Ev none (e1 + 1) 226 111 [some (.ref 633), some (.int f), some (.int n), some (.int mo), some (.int c), some (.int d), some (.int (G_194 M c d))] [.int c, .ref 633, .int (rI M 654 (f + (G_194 M c d))), .int (f + c), .ref 654] M v M' 0 0 := Ev.back 2 (fun n => rfl) H
            obtain ⟨vK13, MK13, K13, H⟩ := Ev.callb (fun n_ => gs_7 rfl rfl (show gCal (.invokevirtual 463) 11 (.int c :: .ref 633 :: [.int (rI M 654 (f + (G_194 M c d))), .int (f + c), .ref 654]) M = some (.inr (224, [some (.ref 633), some (.int c)], [.int (rI M 654 (f + (G_194 M c d))), .int (f + c), .ref 654])) from by show @cond (Option ((List Value × Mem) ⊕ (Nat × Lo × List Value))) (true && gRecv M (.ref 633) 11 && gRoom [.int (rI M 654 (f + (G_194 M c d))), .int (f + c), .ref 654] && true) (some (.inr (224, [some (.ref 633), some (.int c)], [.int (rI M 654 (f + (G_194 M c d))), .int (f + c), .ref 654]))) none = _; rw [recv_s hS.1 qa_633 qo_61]; rfl)) H
            obtain ⟨pK13, qK13⟩ := g_224 hS K13
            rw [pK13, qK13] at H
            have H : Ev none (e1 + 1) 226 114 [some (.ref 633), some (.int f), some (.int n), some (.int mo), some (.int c), some (.int d), some (.int (G_194 M c d))] [.int (G_224 M c), .int (rI M 654 (f + (G_194 M c d))), .int (f + c), .ref 654] M v M' 0 0 := H
            have H : Ev none (e1 + 1) 226 115 [some (.ref 633), some (.int f), some (.int n), some (.int mo), some (.int c), some (.int d), some (.int (G_194 M c d))] [.int ((rI M 654 (f + (G_194 M c d))) + (G_224 M c)), .int (f + c), .ref 654] M v M' 0 0 := Ev.back 1 (fun n => rfl) H
            obtain ⟨b14, H⟩ := Ev.ias rfl rfl hS.1 qa_654 qw_82 H
            obtain ⟨N15, eN15⟩ : ∃ N, N = (wI M 654 ((f + c).toNatClampNeg) ((rI M 654 (f + (G_194 M c d))) + (G_224 M c))) := ⟨_, rfl⟩
            have hN15 : SQ N15 := by rw [eN15]; exact hS.ki
            have H : Ev none (e1 + 1) 226 116 [some (.ref 633), some (.int f), some (.int n), some (.int mo), some (.int c), some (.int d), some (.int (G_194 M c d))] [] N15 v M' 0 0 := by rw [eN15]; exact H
            have H : Ev none (e1 + 1) 226 20 [some (.ref 633), some (.int f), some (.int n), some (.int 1), some (.int c), some (.int (d + 1)), some (.int (G_194 M c d))] [] N15 v M' 0 0 := Ev.back 4 (fun n => rfl) H
            have HF := H
            subst eN15
            exact Or.inr (Or.inr (Or.inr (Or.inr (Or.inl ⟨h1, h3, h5, h7, h11, b8, b10, b12, b14, HF⟩))))
          · rw [if_neg h11] at H
            have H : Ev none (e1 + 1) 226 20 [some (.ref 633), some (.int f), some (.int n), some (.int mo), some (.int c), some (.int (d + 1)), some (.int (G_194 M c d))] [] M v M' 0 0 := Ev.back 3 (fun n => rfl) H
            have HF := H
            exact Or.inr (Or.inr (Or.inr (Or.inr (Or.inr (⟨h1, h3, h5, h7, h11, b8, b10, HF⟩)))))
