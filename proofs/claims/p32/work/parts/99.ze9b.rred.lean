/-! THE REFERENCE'S reading of the SNOW: pieces (made by gwal12.py) -/
theorem rrd_0 {e : Nat} {M M' : Mem} {v : Option Value} (hS : SQ M) (H : Ev none e 242 0 [some (.ref 633), none, none, none, none, none, none] [] M v M' 0 0) : (((zI (X_139 (wF M 633 0 0)) 633 3) - (zI (X_139 (wF M 633 0 0)) 633 3) / 3 * 3) = 0 ∧ (G_140 (X_139 (wF M 633 0 0)) ((zI (X_139 (wF M 633 0 0)) 633 3) / 3) 1 5) = 0 ∧ v = some (.int (-1)) ∧ M' = (X_139 (wF M 633 0 0))) ∨ (((zI (X_139 (wF M 633 0 0)) 633 3) - (zI (X_139 (wF M 633 0 0)) 633 3) / 3 * 3) = 0 ∧ ¬ ((G_140 (X_139 (wF M 633 0 0)) ((zI (X_139 (wF M 633 0 0)) 633 3) / 3) 1 5) = 0) ∧ Ev none e 242 38 [some (.ref 633), some (.int ((zI (X_139 (wF M 633 0 0)) 633 3) / 3)), some (.int 0), none, none, none, none] [] (X_139 (wF M 633 0 0)) v M' 0 0) ∨ (¬ (((zI (X_139 (wF M 633 0 0)) 633 3) - (zI (X_139 (wF M 633 0 0)) 633 3) / 3 * 3) = 0) ∧ v = some (.int (-1)) ∧ M' = (X_139 (wF M 633 0 0))) := by
  have H : Ev none e 242 2 [some (.ref 633), none, none, none, none, none, none] [.int 0, .ref 633] M v M' 0 0 := Ev.back 2 (fun n => rfl) H
  obtain ⟨N2, eN2⟩ : ∃ N, N = (wF M 633 0 0) := ⟨_, rfl⟩
  have hN2 : SQ N2 := by rw [eN2]; exact hS.kf
  have H : Ev none e 242 5 [some (.ref 633), none, none, none, none, none, none] [] N2 v M' 0 0 := by rw [eN2]; exact Ev.pfi rfl rfl rfl hS.1 qa_633 qi_61_0 H
  have H : Ev none e 242 6 [some (.ref 633), none, none, none, none, none, none] [.ref 633] N2 v M' 0 0 := Ev.back 1 (fun n => rfl) H
  obtain ⟨e1, rfl⟩ := Ev.dpos rfl rfl H
  obtain ⟨vK3, MK3, K3, H⟩ := Ev.callb (fun n_ => gs_7 rfl rfl (show gCal (.invokevirtual 144) 11 (.ref 633 :: []) N2 = some (.inr (139, [some (.ref 633)], [])) from by show @cond (Option ((List Value × Mem) ⊕ (Nat × Lo × List Value))) (true && gRecv N2 (.ref 633) 11 && gRoom [] && true) (some (.inr (139, [some (.ref 633)], []))) none = _; rw [recv_s hN2.1 qa_633 qo_61]; rfl)) H
  obtain ⟨pK3, qK3⟩ := g_139 hN2 K3
  rw [pK3, qK3] at H
  obtain ⟨N4, eN4⟩ : ∃ N, N = (X_139 N2) := ⟨_, rfl⟩
  have hN4 : SQ N4 := by rw [eN4]; exact X_139_sx hN2
  rw [← eN4] at H
  have H : Ev none (e1 + 1) 242 9 [some (.ref 633), none, none, none, none, none, none] [] N4 v M' 0 0 := H
  have H : Ev none (e1 + 1) 242 10 [some (.ref 633), none, none, none, none, none, none] [.ref 633] N4 v M' 0 0 := Ev.back 1 (fun n => rfl) H
  have H : Ev none (e1 + 1) 242 13 [some (.ref 633), none, none, none, none, none, none] [.int (zI N4 633 3)] N4 v M' 0 0 := Ev.back 1 (gs_3 rfl rfl (gf_i hN4.1 qa_633 qi_61_3 rfl)) H
  have H : Ev none (e1 + 1) 242 17 [some (.ref 633), some (.int ((zI N4 633 3) / 3)), none, none, none, none, none] [.ref 633] N4 v M' 0 0 := Ev.back 4 (fun n => rfl) H
  have H : Ev none (e1 + 1) 242 20 [some (.ref 633), some (.int ((zI N4 633 3) / 3)), none, none, none, none, none] [.int (zI N4 633 3)] N4 v M' 0 0 := Ev.back 1 (gs_3 rfl rfl (gf_i hN4.1 qa_633 qi_61_3 rfl)) H
  have H : Ev none (e1 + 1) 242 (if ((zI N4 633 3) - (zI N4 633 3) / 3 * 3) = 0 then 25 else 34) [some (.ref 633), some (.int ((zI N4 633 3) / 3)), none, none, none, none, none] [] N4 v M' 0 0 := Ev.back 3 (fun n => rfl) H
  by_cases h5 : ((zI N4 633 3) - (zI N4 633 3) / 3 * 3) = 0
  · rw [if_pos h5] at H
    have H : Ev none (e1 + 1) 242 28 [some (.ref 633), some (.int ((zI N4 633 3) / 3)), none, none, none, none, none] [.int 5, .int 1, .int ((zI N4 633 3) / 3)] N4 v M' 0 0 := Ev.back 3 (fun n => rfl) H
    obtain ⟨vK6, MK6, K6, H⟩ := Ev.callb (fun n => rfl) H
    obtain ⟨pK6, qK6⟩ := g_140 hN4 K6
    rw [pK6, qK6] at H
    have H : Ev none (e1 + 1) 242 31 [some (.ref 633), some (.int ((zI N4 633 3) / 3)), none, none, none, none, none] [.int (G_140 N4 ((zI N4 633 3) / 3) 1 5)] N4 v M' 0 0 := H
    have H : Ev none (e1 + 1) 242 (if (G_140 N4 ((zI N4 633 3) / 3) 1 5) = 0 then 34 else 36) [some (.ref 633), some (.int ((zI N4 633 3) / 3)), none, none, none, none, none] [] N4 v M' 0 0 := Ev.back 1 (fun n => rfl) H
    by_cases h7 : (G_140 N4 ((zI N4 633 3) / 3) 1 5) = 0
    · rw [if_pos h7] at H
      have H : Ev none (e1 + 1) 242 35 [some (.ref 633), some (.int ((zI N4 633 3) / 3)), none, none, none, none, none] [.int (-1)] N4 v M' 0 0 := Ev.back 1 (fun n => rfl) H
      obtain ⟨z1, z2⟩ := Ev.retz rfl rfl H
      subst eN2 eN4
      exact Or.inl ⟨h5, h7, z1, z2⟩
    · rw [if_neg h7] at H
      have H : Ev none (e1 + 1) 242 38 [some (.ref 633), some (.int ((zI N4 633 3) / 3)), some (.int 0), none, none, none, none] [] N4 v M' 0 0 := Ev.back 2 (fun n => rfl) H
      have HF := H
      subst eN2 eN4
      exact Or.inr (Or.inl ⟨h5, h7, HF⟩)
  · rw [if_neg h5] at H
    have H : Ev none (e1 + 1) 242 35 [some (.ref 633), some (.int ((zI N4 633 3) / 3)), none, none, none, none, none] [.int (-1)] N4 v M' 0 0 := Ev.back 1 (fun n => rfl) H
    obtain ⟨z1, z2⟩ := Ev.retz rfl rfl H
    subst eN2 eN4
    exact Or.inr (Or.inr (⟨h5, z1, z2⟩))
theorem rrd_38 {e : Nat} {M M' : Mem} {v : Option Value} {n i : Int32} {o3 : Option Value} (hS : SQ M) (H : Ev none e 242 38 [some (.ref 633), some (.int n), some (.int i), o3, none, none, none] [] M v M' 0 0) : (n ≤ i ∧ Ev none e 242 184 [some (.ref 633), some (.int n), some (.int 1), some (.int 0), none, none, none] [] M v M' 0 0) ∨ (¬ (n ≤ i) ∧ (G_239 M (G_142 M (3 * i)) (G_142 M ((3 * i) + 1)) (G_142 M ((3 * i) + 2))) = 0 ∧ v = some (.int (-1)) ∧ M' = M) ∨ (¬ (n ≤ i) ∧ ¬ ((G_239 M (G_142 M (3 * i)) (G_142 M ((3 * i) + 1)) (G_142 M ((3 * i) + 2))) = 0) ∧ (∃ e1 v1 M1, e = e1 + 1 ∧ Ev none e1 238 0 [some (.ref 633), some (.int (G_142 M (3 * i))), some (.int (G_142 M ((3 * i) + 1))), some (.int (G_142 M ((3 * i) + 2))), none, none] [] M v1 M1 0 0 ∧ Ev none e 242 104 [some (.ref 633), some (.int n), some (.int i), o3, none, none, none] (v1.toList ++ []) M1 v M' 0 0)) := by
  have H : Ev none e 242 (if n ≤ i then 180 else 43) [some (.ref 633), some (.int n), some (.int i), o3, none, none, none] [] M v M' 0 0 := Ev.back 3 (fun n => rfl) H
  by_cases h1 : n ≤ i
  · rw [if_pos h1] at H
    have H : Ev none e 242 184 [some (.ref 633), some (.int n), some (.int 1), some (.int 0), none, none, none] [] M v M' 0 0 := Ev.back 4 (fun n => rfl) H
    have HF := H
    exact Or.inl ⟨h1, HF⟩
  · rw [if_neg h1] at H
    have H : Ev none e 242 48 [some (.ref 633), some (.int n), some (.int i), o3, none, none, none] [.int (3 * i), .ref 633, .ref 633] M v M' 0 0 := Ev.back 5 (fun n => rfl) H
    obtain ⟨e1, rfl⟩ := Ev.dpos rfl rfl H
    obtain ⟨vK2, MK2, K2, H⟩ := Ev.callb (fun n_ => gs_7 rfl rfl (show gCal (.invokevirtual 147) 11 (.int (3 * i) :: .ref 633 :: [.ref 633]) M = some (.inr (142, [some (.ref 633), some (.int (3 * i))], [.ref 633])) from by show @cond (Option ((List Value × Mem) ⊕ (Nat × Lo × List Value))) (true && gRecv M (.ref 633) 11 && gRoom [.ref 633] && true) (some (.inr (142, [some (.ref 633), some (.int (3 * i))], [.ref 633]))) none = _; rw [recv_s hS.1 qa_633 qo_61]; rfl)) H
    obtain ⟨pK2, qK2⟩ := g_142 hS K2
    rw [pK2, qK2] at H
    have H : Ev none (e1 + 1) 242 51 [some (.ref 633), some (.int n), some (.int i), o3, none, none, none] [.int (G_142 M (3 * i)), .ref 633] M v M' 0 0 := H
    have H : Ev none (e1 + 1) 242 57 [some (.ref 633), some (.int n), some (.int i), o3, none, none, none] [.int ((3 * i) + 1), .ref 633, .int (G_142 M (3 * i)), .ref 633] M v M' 0 0 := Ev.back 6 (fun n => rfl) H
    obtain ⟨vK3, MK3, K3, H⟩ := Ev.callb (fun n_ => gs_7 rfl rfl (show gCal (.invokevirtual 147) 11 (.int ((3 * i) + 1) :: .ref 633 :: [.int (G_142 M (3 * i)), .ref 633]) M = some (.inr (142, [some (.ref 633), some (.int ((3 * i) + 1))], [.int (G_142 M (3 * i)), .ref 633])) from by show @cond (Option ((List Value × Mem) ⊕ (Nat × Lo × List Value))) (true && gRecv M (.ref 633) 11 && gRoom [.int (G_142 M (3 * i)), .ref 633] && true) (some (.inr (142, [some (.ref 633), some (.int ((3 * i) + 1))], [.int (G_142 M (3 * i)), .ref 633]))) none = _; rw [recv_s hS.1 qa_633 qo_61]; rfl)) H
    obtain ⟨pK3, qK3⟩ := g_142 hS K3
    rw [pK3, qK3] at H
    have H : Ev none (e1 + 1) 242 60 [some (.ref 633), some (.int n), some (.int i), o3, none, none, none] [.int (G_142 M ((3 * i) + 1)), .int (G_142 M (3 * i)), .ref 633] M v M' 0 0 := H
    have H : Ev none (e1 + 1) 242 66 [some (.ref 633), some (.int n), some (.int i), o3, none, none, none] [.int ((3 * i) + 2), .ref 633, .int (G_142 M ((3 * i) + 1)), .int (G_142 M (3 * i)), .ref 633] M v M' 0 0 := Ev.back 6 (fun n => rfl) H
    obtain ⟨vK4, MK4, K4, H⟩ := Ev.callb (fun n_ => gs_7 rfl rfl (show gCal (.invokevirtual 147) 11 (.int ((3 * i) + 2) :: .ref 633 :: [.int (G_142 M ((3 * i) + 1)), .int (G_142 M (3 * i)), .ref 633]) M = some (.inr (142, [some (.ref 633), some (.int ((3 * i) + 2))], [.int (G_142 M ((3 * i) + 1)), .int (G_142 M (3 * i)), .ref 633])) from by show @cond (Option ((List Value × Mem) ⊕ (Nat × Lo × List Value))) (true && gRecv M (.ref 633) 11 && gRoom [.int (G_142 M ((3 * i) + 1)), .int (G_142 M (3 * i)), .ref 633] && true) (some (.inr (142, [some (.ref 633), some (.int ((3 * i) + 2))], [.int (G_142 M ((3 * i) + 1)), .int (G_142 M (3 * i)), .ref 633]))) none = _; rw [recv_s hS.1 qa_633 qo_61]; rfl)) H
    obtain ⟨pK4, qK4⟩ := g_142 hS K4
    rw [pK4, qK4] at H
    have H : Ev none (e1 + 1) 242 69 [some (.ref 633), some (.int n), some (.int i), o3, none, none, none] [.int (G_142 M ((3 * i) + 2)), .int (G_142 M ((3 * i) + 1)), .int (G_142 M (3 * i)), .ref 633] M v M' 0 0 := H
    obtain ⟨vK5, MK5, K5, H⟩ := Ev.callb (fun n_ => gs_7 rfl rfl (show gCal (.invokevirtual 497) 11 (.int (G_142 M ((3 * i) + 2)) :: .int (G_142 M ((3 * i) + 1)) :: .int (G_142 M (3 * i)) :: .ref 633 :: []) M = some (.inr (239, [some (.ref 633), some (.int (G_142 M (3 * i))), some (.int (G_142 M ((3 * i) + 1))), some (.int (G_142 M ((3 * i) + 2)))], [])) from by show @cond (Option ((List Value × Mem) ⊕ (Nat × Lo × List Value))) (true && gRecv M (.ref 633) 11 && gRoom [] && true) (some (.inr (239, [some (.ref 633), some (.int (G_142 M (3 * i))), some (.int (G_142 M ((3 * i) + 1))), some (.int (G_142 M ((3 * i) + 2)))], []))) none = _; rw [recv_s hS.1 qa_633 qo_61]; rfl)) H
    obtain ⟨pK5, qK5⟩ := g_239 hS K5
    rw [pK5, qK5] at H
    have H : Ev none (e1 + 1) 242 72 [some (.ref 633), some (.int n), some (.int i), o3, none, none, none] [.int (G_239 M (G_142 M (3 * i)) (G_142 M ((3 * i) + 1)) (G_142 M ((3 * i) + 2)))] M v M' 0 0 := H
    have H : Ev none (e1 + 1) 242 (if (G_239 M (G_142 M (3 * i)) (G_142 M ((3 * i) + 1)) (G_142 M ((3 * i) + 2))) = 0 then 107 else 75) [some (.ref 633), some (.int n), some (.int i), o3, none, none, none] [] M v M' 0 0 := Ev.back 1 (fun n => rfl) H
    by_cases h6 : (G_239 M (G_142 M (3 * i)) (G_142 M ((3 * i) + 1)) (G_142 M ((3 * i) + 2))) = 0
    · rw [if_pos h6] at H
      have H : Ev none (e1 + 1) 242 108 [some (.ref 633), some (.int n), some (.int i), o3, none, none, none] [.int (-1)] M v M' 0 0 := Ev.back 1 (fun n => rfl) H
      obtain ⟨z1, z2⟩ := Ev.retz rfl rfl H
      exact Or.inr (Or.inl ⟨h1, h6, z1, z2⟩)
    · rw [if_neg h6] at H
      have H : Ev none (e1 + 1) 242 80 [some (.ref 633), some (.int n), some (.int i), o3, none, none, none] [.int (3 * i), .ref 633, .ref 633] M v M' 0 0 := Ev.back 5 (fun n => rfl) H
      obtain ⟨vK7, MK7, K7, H⟩ := Ev.callb (fun n_ => gs_7 rfl rfl (show gCal (.invokevirtual 147) 11 (.int (3 * i) :: .ref 633 :: [.ref 633]) M = some (.inr (142, [some (.ref 633), some (.int (3 * i))], [.ref 633])) from by show @cond (Option ((List Value × Mem) ⊕ (Nat × Lo × List Value))) (true && gRecv M (.ref 633) 11 && gRoom [.ref 633] && true) (some (.inr (142, [some (.ref 633), some (.int (3 * i))], [.ref 633]))) none = _; rw [recv_s hS.1 qa_633 qo_61]; rfl)) H
      obtain ⟨pK7, qK7⟩ := g_142 hS K7
      rw [pK7, qK7] at H
      have H : Ev none (e1 + 1) 242 83 [some (.ref 633), some (.int n), some (.int i), o3, none, none, none] [.int (G_142 M (3 * i)), .ref 633] M v M' 0 0 := H
      have H : Ev none (e1 + 1) 242 89 [some (.ref 633), some (.int n), some (.int i), o3, none, none, none] [.int ((3 * i) + 1), .ref 633, .int (G_142 M (3 * i)), .ref 633] M v M' 0 0 := Ev.back 6 (fun n => rfl) H
      obtain ⟨vK8, MK8, K8, H⟩ := Ev.callb (fun n_ => gs_7 rfl rfl (show gCal (.invokevirtual 147) 11 (.int ((3 * i) + 1) :: .ref 633 :: [.int (G_142 M (3 * i)), .ref 633]) M = some (.inr (142, [some (.ref 633), some (.int ((3 * i) + 1))], [.int (G_142 M (3 * i)), .ref 633])) from by show @cond (Option ((List Value × Mem) ⊕ (Nat × Lo × List Value))) (true && gRecv M (.ref 633) 11 && gRoom [.int (G_142 M (3 * i)), .ref 633] && true) (some (.inr (142, [some (.ref 633), some (.int ((3 * i) + 1))], [.int (G_142 M (3 * i)), .ref 633]))) none = _; rw [recv_s hS.1 qa_633 qo_61]; rfl)) H
      obtain ⟨pK8, qK8⟩ := g_142 hS K8
      rw [pK8, qK8] at H
      have H : Ev none (e1 + 1) 242 92 [some (.ref 633), some (.int n), some (.int i), o3, none, none, none] [.int (G_142 M ((3 * i) + 1)), .int (G_142 M (3 * i)), .ref 633] M v M' 0 0 := H
      have H : Ev none (e1 + 1) 242 98 [some (.ref 633), some (.int n), some (.int i), o3, none, none, none] [.int ((3 * i) + 2), .ref 633, .int (G_142 M ((3 * i) + 1)), .int (G_142 M (3 * i)), .ref 633] M v M' 0 0 := Ev.back 6 (fun n => rfl) H
      obtain ⟨vK9, MK9, K9, H⟩ := Ev.callb (fun n_ => gs_7 rfl rfl (show gCal (.invokevirtual 147) 11 (.int ((3 * i) + 2) :: .ref 633 :: [.int (G_142 M ((3 * i) + 1)), .int (G_142 M (3 * i)), .ref 633]) M = some (.inr (142, [some (.ref 633), some (.int ((3 * i) + 2))], [.int (G_142 M ((3 * i) + 1)), .int (G_142 M (3 * i)), .ref 633])) from by show @cond (Option ((List Value × Mem) ⊕ (Nat × Lo × List Value))) (true && gRecv M (.ref 633) 11 && gRoom [.int (G_142 M ((3 * i) + 1)), .int (G_142 M (3 * i)), .ref 633] && true) (some (.inr (142, [some (.ref 633), some (.int ((3 * i) + 2))], [.int (G_142 M ((3 * i) + 1)), .int (G_142 M (3 * i)), .ref 633]))) none = _; rw [recv_s hS.1 qa_633 qo_61]; rfl)) H
      obtain ⟨pK9, qK9⟩ := g_142 hS K9
      rw [pK9, qK9] at H
      have H : Ev none (e1 + 1) 242 101 [some (.ref 633), some (.int n), some (.int i), o3, none, none, none] [.int (G_142 M ((3 * i) + 2)), .int (G_142 M ((3 * i) + 1)), .int (G_142 M (3 * i)), .ref 633] M v M' 0 0 := H
      obtain ⟨vK10, MK10, K10, H⟩ := Ev.callb (fun n_ => gs_7 rfl rfl (show gCal (.invokevirtual 500) 11 (.int (G_142 M ((3 * i) + 2)) :: .int (G_142 M ((3 * i) + 1)) :: .int (G_142 M (3 * i)) :: .ref 633 :: []) M = some (.inr (238, [some (.ref 633), some (.int (G_142 M (3 * i))), some (.int (G_142 M ((3 * i) + 1))), some (.int (G_142 M ((3 * i) + 2))), none, none], [])) from by show @cond (Option ((List Value × Mem) ⊕ (Nat × Lo × List Value))) (true && gRecv M (.ref 633) 11 && gRoom [] && true) (some (.inr (238, [some (.ref 633), some (.int (G_142 M (3 * i))), some (.int (G_142 M ((3 * i) + 1))), some (.int (G_142 M ((3 * i) + 2))), none, none], []))) none = _; rw [recv_s hS.1 qa_633 qo_61]; rfl)) H
      have K10 : Ev none e1 238 0 [some (.ref 633), some (.int (G_142 M (3 * i))), some (.int (G_142 M ((3 * i) + 1))), some (.int (G_142 M ((3 * i) + 2))), none, none] [] M vK10 MK10 0 0 := K10
      have HF := H
      exact Or.inr (Or.inr (⟨h1, h6, ⟨e1, vK10, MK10, rfl, K10, HF⟩⟩))
theorem rrd_104 {e : Nat} {M M' : Mem} {v : Option Value} {n i y : Int32} {o3 : Option Value} (hS : SQ M) (H : Ev none e 242 104 [some (.ref 633), some (.int n), some (.int i), o3, none, none, none] [.int y] M v M' 0 0) : (0 ≤ y ∧ Ev none e 242 111 [some (.ref 633), some (.int n), some (.int i), some (.int 0), none, none, none] [] M v M' 0 0) ∨ (¬ (0 ≤ y) ∧ v = some (.int (-1)) ∧ M' = M) := by
  have H : Ev none e 242 (if 0 ≤ y then 109 else 107) [some (.ref 633), some (.int n), some (.int i), o3, none, none, none] [] M v M' 0 0 := Ev.back 1 (fun n => rfl) H
  by_cases h1 : 0 ≤ y
  · rw [if_pos h1] at H
    have H : Ev none e 242 111 [some (.ref 633), some (.int n), some (.int i), some (.int 0), none, none, none] [] M v M' 0 0 := Ev.back 2 (fun n => rfl) H
    have HF := H
    exact Or.inl ⟨h1, HF⟩
  · rw [if_neg h1] at H
    have H : Ev none e 242 108 [some (.ref 633), some (.int n), some (.int i), o3, none, none, none] [.int (-1)] M v M' 0 0 := Ev.back 1 (fun n => rfl) H
    obtain ⟨z1, z2⟩ := Ev.retz rfl rfl H
    exact Or.inr (⟨h1, z1, z2⟩)
theorem rrd_111 {e : Nat} {M M' : Mem} {v : Option Value} {n i c : Int32} (hS : SQ M) (H : Ev none e 242 111 [some (.ref 633), some (.int n), some (.int i), some (.int c), none, none, none] [] M v M' 0 0) : (256 ≤ c ∧ Ev none e 242 139 [some (.ref 633), some (.int n), some (.int i), some (.int 1), none, none, none] [] M v M' 0 0) ∨ (¬ (256 ≤ c) ∧ (0 ≤ ((256 * i) + c).toInt ∧ ((256 * i) + c).toInt < 1280) ∧ Ev none e 242 111 [some (.ref 633), some (.int n), some (.int i), some (.int (c + 1)), none, none, none] [] (wI M 659 (((256 * i) + c).toNatClampNeg) 0) v M' 0 0) := by
  have H : Ev none e 242 (if 256 ≤ c then 137 else 118) [some (.ref 633), some (.int n), some (.int i), some (.int c), none, none, none] [] M v M' 0 0 := Ev.back 3 (fun n => rfl) H
  by_cases h1 : 256 ≤ c
  · rw [if_pos h1] at H
    have H : Ev none e 242 139 [some (.ref 633), some (.int n), some (.int i), some (.int 1), none, none, none] [] M v M' 0 0 := Ev.back 2 (fun n => rfl) H
    have HF := H
    exact Or.inl ⟨h1, HF⟩
  · rw [if_neg h1] at H
    have H : Ev none e 242 119 [some (.ref 633), some (.int n), some (.int i), some (.int c), none, none, none] [.ref 633] M v M' 0 0 := Ev.back 1 (fun n => rfl) H
    have H : Ev none e 242 122 [some (.ref 633), some (.int n), some (.int i), some (.int c), none, none, none] [.ref 659] M v M' 0 0 := Ev.back 1 (gs_3 rfl rfl (gf_u hS.1 qa_633 qr_61_56 qu_87 rfl)) H
    have H : Ev none e 242 130 [some (.ref 633), some (.int n), some (.int i), some (.int c), none, none, none] [.int 0, .int ((256 * i) + c), .ref 659] M v M' 0 0 := Ev.back 6 (fun n => rfl) H
    obtain ⟨b2, H⟩ := Ev.ias rfl rfl hS.1 qa_659 qw_87 H
    obtain ⟨N3, eN3⟩ : ∃ N, N = (wI M 659 (((256 * i) + c).toNatClampNeg) 0) := ⟨_, rfl⟩
    have hN3 : SQ N3 := by rw [eN3]; exact hS.ki
    have H : Ev none e 242 131 [some (.ref 633), some (.int n), some (.int i), some (.int c), none, none, none] [] N3 v M' 0 0 := by rw [eN3]; exact H
    have H : Ev none e 242 111 [some (.ref 633), some (.int n), some (.int i), some (.int (c + 1)), none, none, none] [] N3 v M' 0 0 := Ev.back 2 (fun n => rfl) H
    have HF := H
    subst eN3
    exact Or.inr (⟨h1, b2, HF⟩)
theorem rrd_139 {e : Nat} {M M' : Mem} {v : Option Value} {n i c : Int32} (hS : SQ M) (H : Ev none e 242 139 [some (.ref 633), some (.int n), some (.int i), some (.int c), none, none, none] [] M v M' 0 0) : ((zI M 633 60) ≤ c ∧ Ev none e 242 38 [some (.ref 633), some (.int n), some (.int (i + 1)), some (.int c), none, none, none] [] M v M' 0 0) ∨ (¬ ((zI M 633 60) ≤ c) ∧ (0 ≤ c.toInt ∧ c.toInt < 201) ∧ (0 ≤ ((256 * i) + (rI M 657 c)).toInt ∧ ((256 * i) + (rI M 657 c)).toInt < 1280) ∧ (0 ≤ ((256 * i) + (rI M 657 c)).toInt ∧ ((256 * i) + (rI M 657 c)).toInt < 1280) ∧ Ev none e 242 139 [some (.ref 633), some (.int n), some (.int i), some (.int (c + 1)), none, none, none] [] (wI M 659 (((256 * i) + (rI M 657 c)).toNatClampNeg) ((rI M 659 ((256 * i) + (rI M 657 c))) + 1)) v M' 0 0) := by
  have H : Ev none e 242 141 [some (.ref 633), some (.int n), some (.int i), some (.int c), none, none, none] [.ref 633, .int c] M v M' 0 0 := Ev.back 2 (fun n => rfl) H
  have H : Ev none e 242 144 [some (.ref 633), some (.int n), some (.int i), some (.int c), none, none, none] [.int (zI M 633 60), .int c] M v M' 0 0 := Ev.back 1 (gs_3 rfl rfl (gf_i hS.1 qa_633 qi_61_60 rfl)) H
  have H : Ev none e 242 (if (zI M 633 60) ≤ c then 174 else 147) [some (.ref 633), some (.int n), some (.int i), some (.int c), none, none, none] [] M v M' 0 0 := Ev.back 1 (fun n => rfl) H
  by_cases h1 : (zI M 633 60) ≤ c
  · rw [if_pos h1] at H
    have H : Ev none e 242 38 [some (.ref 633), some (.int n), some (.int (i + 1)), some (.int c), none, none, none] [] M v M' 0 0 := Ev.back 2 (fun n => rfl) H
    have HF := H
    exact Or.inl ⟨h1, HF⟩
  · rw [if_neg h1] at H
    have H : Ev none e 242 148 [some (.ref 633), some (.int n), some (.int i), some (.int c), none, none, none] [.ref 633] M v M' 0 0 := Ev.back 1 (fun n => rfl) H
    have H : Ev none e 242 151 [some (.ref 633), some (.int n), some (.int i), some (.int c), none, none, none] [.ref 659] M v M' 0 0 := Ev.back 1 (gs_3 rfl rfl (gf_u hS.1 qa_633 qr_61_56 qu_87 rfl)) H
    have H : Ev none e 242 157 [some (.ref 633), some (.int n), some (.int i), some (.int c), none, none, none] [.ref 633, .int (256 * i), .ref 659] M v M' 0 0 := Ev.back 4 (fun n => rfl) H
    have H : Ev none e 242 160 [some (.ref 633), some (.int n), some (.int i), some (.int c), none, none, none] [.ref 657, .int (256 * i), .ref 659] M v M' 0 0 := Ev.back 1 (gs_3 rfl rfl (gf_u hS.1 qa_633 qr_61_54 qu_85 rfl)) H
    have H : Ev none e 242 161 [some (.ref 633), some (.int n), some (.int i), some (.int c), none, none, none] [.int c, .ref 657, .int (256 * i), .ref 659] M v M' 0 0 := Ev.back 1 (fun n => rfl) H
    obtain ⟨b2, H⟩ := Ev.ial rfl rfl hS.1 qa_657 qw_85 H
    have H : Ev none e 242 162 [some (.ref 633), some (.int n), some (.int i), some (.int c), none, none, none] [.int (rI M 657 c), .int (256 * i), .ref 659] M v M' 0 0 := H
    have H : Ev none e 242 164 [some (.ref 633), some (.int n), some (.int i), some (.int c), none, none, none] [.int ((256 * i) + (rI M 657 c)), .ref 659, .int ((256 * i) + (rI M 657 c)), .ref 659] M v M' 0 0 := Ev.back 2 (fun n => rfl) H
    obtain ⟨b3, H⟩ := Ev.ial rfl rfl hS.1 qa_659 qw_87 H
    have H : Ev none e 242 165 [some (.ref 633), some (.int n), some (.int i), some (.int c), none, none, none] [.int (rI M 659 ((256 * i) + (rI M 657 c))), .int ((256 * i) + (rI M 657 c)), .ref 659] M v M' 0 0 := H
    have H : Ev none e 242 167 [some (.ref 633), some (.int n), some (.int i), some (.int c), none, none, none] [.int ((rI M 659 ((256 * i) + (rI M 657 c))) + 1), .int ((256 * i) + (rI M 657 c)), .ref 659] M v M' 0 0 := Ev.back 2 (fun n => rfl) H
    obtain ⟨b4, H⟩ := Ev.ias rfl rfl hS.1 qa_659 qw_87 H
    obtain ⟨N5, eN5⟩ : ∃ N, N = (wI M 659 (((256 * i) + (rI M 657 c)).toNatClampNeg) ((rI M 659 ((256 * i) + (rI M 657 c))) + 1)) := ⟨_, rfl⟩
    have hN5 : SQ N5 := by rw [eN5]; exact hS.ki
    have H : Ev none e 242 168 [some (.ref 633), some (.int n), some (.int i), some (.int c), none, none, none] [] N5 v M' 0 0 := by rw [eN5]; exact H
    have H : Ev none e 242 139 [some (.ref 633), some (.int n), some (.int i), some (.int (c + 1)), none, none, none] [] N5 v M' 0 0 := Ev.back 2 (fun n => rfl) H
    have HF := H
    subst eN5
    exact Or.inr (⟨h1, b2, b3, b4, HF⟩)
theorem rrd_184 {e : Nat} {M M' : Mem} {v : Option Value} {n a k : Int32} (hS : SQ M) (H : Ev none e 242 184 [some (.ref 633), some (.int n), some (.int a), some (.int k), none, none, none] [] M v M' 0 0) : (n ≤ k ∧ Ev none e 242 205 [some (.ref 633), some (.int n), some (.int a), some (.int 0), some (.int 0), none, none] [] M v M' 0 0) ∨ (¬ (n ≤ k) ∧ Ev none e 242 184 [some (.ref 633), some (.int n), some (.int (a * 10)), some (.int (k + 1)), none, none, none] [] M v M' 0 0) := by
  have H : Ev none e 242 (if n ≤ k then 200 else 189) [some (.ref 633), some (.int n), some (.int a), some (.int k), none, none, none] [] M v M' 0 0 := Ev.back 3 (fun n => rfl) H
  by_cases h1 : n ≤ k
  · rw [if_pos h1] at H
    have H : Ev none e 242 205 [some (.ref 633), some (.int n), some (.int a), some (.int 0), some (.int 0), none, none] [] M v M' 0 0 := Ev.back 4 (fun n => rfl) H
    have HF := H
    exact Or.inl ⟨h1, HF⟩
  · rw [if_neg h1] at H
    have H : Ev none e 242 184 [some (.ref 633), some (.int n), some (.int (a * 10)), some (.int (k + 1)), none, none, none] [] M v M' 0 0 := Ev.back 6 (fun n => rfl) H
    have HF := H
    exact Or.inr (⟨h1, HF⟩)
theorem rrd_205 {e : Nat} {M M' : Mem} {v : Option Value} {n a m x : Int32} {o5 o6 : Option Value} (hS : SQ M) (H : Ev none e 242 205 [some (.ref 633), some (.int n), some (.int a), some (.int m), some (.int x), o5, o6] [] M v M' 0 0) : (a ≤ x ∧ v = some (.int m) ∧ M' = M) ∨ (¬ (a ≤ x) ∧ Ev none e 242 218 [some (.ref 633), some (.int n), some (.int a), some (.int m), some (.int x), some (.int x), some (.int 0)] [] M v M' 0 0) := by
  have H : Ev none e 242 (if a ≤ x then 383 else 211) [some (.ref 633), some (.int n), some (.int a), some (.int m), some (.int x), o5, o6] [] M v M' 0 0 := Ev.back 3 (fun n => rfl) H
  by_cases h1 : a ≤ x
  · rw [if_pos h1] at H
    have H : Ev none e 242 384 [some (.ref 633), some (.int n), some (.int a), some (.int m), some (.int x), o5, o6] [.int m] M v M' 0 0 := Ev.back 1 (fun n => rfl) H
    obtain ⟨z1, z2⟩ := Ev.retz rfl rfl H
    exact Or.inl ⟨h1, z1, z2⟩
  · rw [if_neg h1] at H
    have H : Ev none e 242 218 [some (.ref 633), some (.int n), some (.int a), some (.int m), some (.int x), some (.int x), some (.int 0)] [] M v M' 0 0 := Ev.back 4 (fun n => rfl) H
    have HF := H
    exact Or.inr (⟨h1, HF⟩)
theorem rrd_218 {e : Nat} {M M' : Mem} {v : Option Value} {n a m x l j : Int32} (hS : SQ M) (H : Ev none e 242 218 [some (.ref 633), some (.int n), some (.int a), some (.int m), some (.int x), some (.int l), some (.int j)] [] M v M' 0 0) : (n ≤ j ∧ (∃ e1 v1 M1, e = e1 + 1 ∧ Ev none e1 243 0 [some (.ref 633), some (.int n), none, none, none] [] M v1 M1 0 0 ∧ Ev none e 242 254 [some (.ref 633), some (.int n), some (.int a), some (.int m), some (.int x), some (.int l), some (.int j)] (v1.toList ++ []) M1 v M' 0 0)) ∨ (¬ (n ≤ j) ∧ (0 ≤ j.toInt ∧ j.toInt < 5) ∧ Ev none e 242 218 [some (.ref 633), some (.int n), some (.int a), some (.int m), some (.int x), some (.int (l / 10)), some (.int (j + 1))] [] (wI M 662 j.toNatClampNeg (l - l / 10 * 10)) v M' 0 0) := by
  have H : Ev none e 242 (if n ≤ j then 249 else 224) [some (.ref 633), some (.int n), some (.int a), some (.int m), some (.int x), some (.int l), some (.int j)] [] M v M' 0 0 := Ev.back 3 (fun n => rfl) H
  by_cases h1 : n ≤ j
  · rw [if_pos h1] at H
    have H : Ev none e 242 251 [some (.ref 633), some (.int n), some (.int a), some (.int m), some (.int x), some (.int l), some (.int j)] [.int n, .ref 633] M v M' 0 0 := Ev.back 2 (fun n => rfl) H
    obtain ⟨e1, rfl⟩ := Ev.dpos rfl rfl H
    obtain ⟨vK2, MK2, K2, H⟩ := Ev.callb (fun n_ => gs_7 rfl rfl (show gCal (.invokevirtual 506) 11 (.int n :: .ref 633 :: []) M = some (.inr (243, [some (.ref 633), some (.int n), none, none, none], [])) from by show @cond (Option ((List Value × Mem) ⊕ (Nat × Lo × List Value))) (true && gRecv M (.ref 633) 11 && gRoom [] && true) (some (.inr (243, [some (.ref 633), some (.int n), none, none, none], []))) none = _; rw [recv_s hS.1 qa_633 qo_61]; rfl)) H
    have K2 : Ev none e1 243 0 [some (.ref 633), some (.int n), none, none, none] [] M vK2 MK2 0 0 := K2
    have HF := H
    exact Or.inl ⟨h1, ⟨e1, vK2, MK2, rfl, K2, HF⟩⟩
  · rw [if_neg h1] at H
    have H : Ev none e 242 225 [some (.ref 633), some (.int n), some (.int a), some (.int m), some (.int x), some (.int l), some (.int j)] [.ref 633] M v M' 0 0 := Ev.back 1 (fun n => rfl) H
    have H : Ev none e 242 228 [some (.ref 633), some (.int n), some (.int a), some (.int m), some (.int x), some (.int l), some (.int j)] [.ref 662] M v M' 0 0 := Ev.back 1 (gs_3 rfl rfl (gf_u hS.1 qa_633 qr_61_59 qu_90 rfl)) H
    have H : Ev none e 242 235 [some (.ref 633), some (.int n), some (.int a), some (.int m), some (.int x), some (.int l), some (.int j)] [.int (l - l / 10 * 10), .int j, .ref 662] M v M' 0 0 := Ev.back 4 (fun n => rfl) H
    obtain ⟨b3, H⟩ := Ev.ias rfl rfl hS.1 qa_662 qw_90 H
    obtain ⟨N4, eN4⟩ : ∃ N, N = (wI M 662 j.toNatClampNeg (l - l / 10 * 10)) := ⟨_, rfl⟩
    have hN4 : SQ N4 := by rw [eN4]; exact hS.ki
    have H : Ev none e 242 236 [some (.ref 633), some (.int n), some (.int a), some (.int m), some (.int x), some (.int l), some (.int j)] [] N4 v M' 0 0 := by rw [eN4]; exact H
    have H : Ev none e 242 218 [some (.ref 633), some (.int n), some (.int a), some (.int m), some (.int x), some (.int (l / 10)), some (.int (j + 1))] [] N4 v M' 0 0 := Ev.back 6 (fun n => rfl) H
    have HF := H
    subst eN4
    exact Or.inr (⟨h1, b3, HF⟩)
theorem rrd_254 {e : Nat} {M M' : Mem} {v : Option Value} {n a m x l j y : Int32} (hS : SQ M) (H : Ev none e 242 254 [some (.ref 633), some (.int n), some (.int a), some (.int m), some (.int x), some (.int l), some (.int j)] [.int y] M v M' 0 0) : (y = 0 ∧ Ev none e 242 205 [some (.ref 633), some (.int n), some (.int a), some (.int m), some (.int (x + 1)), some (.int l), some (.int j)] [] M v M' 0 0) ∨ (¬ (y = 0) ∧ m = 0 ∧ Ev none e 242 272 [some (.ref 633), some (.int n), some (.int a), some (.int m), some (.int x), some (.int l), some (.int 0)] [] (wF M 633 62 n) v M' 0 0) ∨ (¬ (y = 0) ∧ ¬ (m = 0) ∧ Ev none e 242 272 [some (.ref 633), some (.int n), some (.int a), some (.int m), some (.int x), some (.int l), some (.int 0)] [] M v M' 0 0) := by
  have H : Ev none e 242 (if y = 0 then 257 else 260) [some (.ref 633), some (.int n), some (.int a), some (.int m), some (.int x), some (.int l), some (.int j)] [] M v M' 0 0 := Ev.back 1 (fun n => rfl) H
  by_cases h1 : y = 0
  · rw [if_pos h1] at H
    have H : Ev none e 242 205 [some (.ref 633), some (.int n), some (.int a), some (.int m), some (.int (x + 1)), some (.int l), some (.int j)] [] M v M' 0 0 := Ev.back 3 (fun n => rfl) H
    have HF := H
    exact Or.inl ⟨h1, HF⟩
  · rw [if_neg h1] at H
    have H : Ev none e 242 (if m = 0 then 264 else 269) [some (.ref 633), some (.int n), some (.int a), some (.int m), some (.int x), some (.int l), some (.int j)] [] M v M' 0 0 := Ev.back 2 (fun n => rfl) H
    by_cases h2 : m = 0
    · rw [if_pos h2] at H
      have H : Ev none e 242 266 [some (.ref 633), some (.int n), some (.int a), some (.int m), some (.int x), some (.int l), some (.int j)] [.int n, .ref 633] M v M' 0 0 := Ev.back 2 (fun n => rfl) H
      obtain ⟨N4, eN4⟩ : ∃ N, N = (wF M 633 62 n) := ⟨_, rfl⟩
      have hN4 : SQ N4 := by rw [eN4]; exact hS.kf
      have H : Ev none e 242 269 [some (.ref 633), some (.int n), some (.int a), some (.int m), some (.int x), some (.int l), some (.int j)] [] N4 v M' 0 0 := by rw [eN4]; exact Ev.pfi rfl rfl rfl hS.1 qa_633 qi_61_62 H
      have H : Ev none e 242 272 [some (.ref 633), some (.int n), some (.int a), some (.int m), some (.int x), some (.int l), some (.int 0)] [] N4 v M' 0 0 := Ev.back 2 (fun n => rfl) H
      have HF := H
      subst eN4
      exact Or.inr (Or.inl ⟨h1, h2, HF⟩)
    · rw [if_neg h2] at H
      have H : Ev none e 242 272 [some (.ref 633), some (.int n), some (.int a), some (.int m), some (.int x), some (.int l), some (.int 0)] [] M v M' 0 0 := Ev.back 2 (fun n => rfl) H
      have HF := H
      exact Or.inr (Or.inr (⟨h1, h2, HF⟩))
theorem rrd_272 {e : Nat} {M M' : Mem} {v : Option Value} {n a m x l j : Int32} (hS : SQ M) (H : Ev none e 242 272 [some (.ref 633), some (.int n), some (.int a), some (.int m), some (.int x), some (.int l), some (.int j)] [] M v M' 0 0) : (n ≤ j ∧ Ev none e 242 205 [some (.ref 633), some (.int n), some (.int a), some (.int (m + 1)), some (.int (x + 1)), some (.int l), some (.int j)] [] M v M' 0 0) ∨ (¬ (n ≤ j) ∧ m = 0 ∧ (0 ≤ j.toInt ∧ j.toInt < 5) ∧ (0 ≤ j.toInt ∧ j.toInt < 5) ∧ (0 ≤ j.toInt ∧ j.toInt < 5) ∧ (0 ≤ j.toInt ∧ j.toInt < 5) ∧ Ev none e 242 272 [some (.ref 633), some (.int n), some (.int a), some (.int m), some (.int x), some (.int l), some (.int (j + 1))] [] (wI (wI M 660 j.toNatClampNeg (rI M 662 j)) 661 j.toNatClampNeg (rI M 662 j)) v M' 0 0) ∨ (¬ (n ≤ j) ∧ ¬ (m = 0) ∧ (rI M 660 j) ≤ (rI M 662 j) ∧ (rI M 662 j) ≤ (rI M 661 j) ∧ (0 ≤ j.toInt ∧ j.toInt < 5) ∧ (0 ≤ j.toInt ∧ j.toInt < 5) ∧ (0 ≤ j.toInt ∧ j.toInt < 5) ∧ (0 ≤ j.toInt ∧ j.toInt < 5) ∧ (0 ≤ j.toInt ∧ j.toInt < 5) ∧ (0 ≤ j.toInt ∧ j.toInt < 5) ∧ (0 ≤ j.toInt ∧ j.toInt < 5) ∧ (0 ≤ j.toInt ∧ j.toInt < 5) ∧ Ev none e 242 272 [some (.ref 633), some (.int n), some (.int a), some (.int m), some (.int x), some (.int l), some (.int (j + 1))] [] (wI (wI M 660 j.toNatClampNeg (rI M 660 j)) 661 j.toNatClampNeg (rI M 661 j)) v M' 0 0) ∨ (¬ (n ≤ j) ∧ ¬ (m = 0) ∧ (rI M 660 j) ≤ (rI M 662 j) ∧ ¬ ((rI M 662 j) ≤ (rI M 661 j)) ∧ (0 ≤ j.toInt ∧ j.toInt < 5) ∧ (0 ≤ j.toInt ∧ j.toInt < 5) ∧ (0 ≤ j.toInt ∧ j.toInt < 5) ∧ (0 ≤ j.toInt ∧ j.toInt < 5) ∧ (0 ≤ j.toInt ∧ j.toInt < 5) ∧ (0 ≤ j.toInt ∧ j.toInt < 5) ∧ (0 ≤ j.toInt ∧ j.toInt < 5) ∧ (0 ≤ j.toInt ∧ j.toInt < 5) ∧ Ev none e 242 272 [some (.ref 633), some (.int n), some (.int a), some (.int m), some (.int x), some (.int l), some (.int (j + 1))] [] (wI (wI M 660 j.toNatClampNeg (rI M 660 j)) 661 j.toNatClampNeg (rI M 662 j)) v M' 0 0) ∨ (¬ (n ≤ j) ∧ ¬ (m = 0) ∧ ¬ ((rI M 660 j) ≤ (rI M 662 j)) ∧ (rI M 662 j) ≤ (rI M 661 j) ∧ (0 ≤ j.toInt ∧ j.toInt < 5) ∧ (0 ≤ j.toInt ∧ j.toInt < 5) ∧ (0 ≤ j.toInt ∧ j.toInt < 5) ∧ (0 ≤ j.toInt ∧ j.toInt < 5) ∧ (0 ≤ j.toInt ∧ j.toInt < 5) ∧ (0 ≤ j.toInt ∧ j.toInt < 5) ∧ (0 ≤ j.toInt ∧ j.toInt < 5) ∧ (0 ≤ j.toInt ∧ j.toInt < 5) ∧ Ev none e 242 272 [some (.ref 633), some (.int n), some (.int a), some (.int m), some (.int x), some (.int l), some (.int (j + 1))] [] (wI (wI M 660 j.toNatClampNeg (rI M 662 j)) 661 j.toNatClampNeg (rI M 661 j)) v M' 0 0) ∨ (¬ (n ≤ j) ∧ ¬ (m = 0) ∧ ¬ ((rI M 660 j) ≤ (rI M 662 j)) ∧ ¬ ((rI M 662 j) ≤ (rI M 661 j)) ∧ (0 ≤ j.toInt ∧ j.toInt < 5) ∧ (0 ≤ j.toInt ∧ j.toInt < 5) ∧ (0 ≤ j.toInt ∧ j.toInt < 5) ∧ (0 ≤ j.toInt ∧ j.toInt < 5) ∧ (0 ≤ j.toInt ∧ j.toInt < 5) ∧ (0 ≤ j.toInt ∧ j.toInt < 5) ∧ (0 ≤ j.toInt ∧ j.toInt < 5) ∧ (0 ≤ j.toInt ∧ j.toInt < 5) ∧ Ev none e 242 272 [some (.ref 633), some (.int n), some (.int a), some (.int m), some (.int x), some (.int l), some (.int (j + 1))] [] (wI (wI M 660 j.toNatClampNeg (rI M 662 j)) 661 j.toNatClampNeg (rI M 662 j)) v M' 0 0) := by
  have H : Ev none e 242 (if n ≤ j then 374 else 278) [some (.ref 633), some (.int n), some (.int a), some (.int m), some (.int x), some (.int l), some (.int j)] [] M v M' 0 0 := Ev.back 3 (fun n => rfl) H
  by_cases h1 : n ≤ j
  · rw [if_pos h1] at H
    have H : Ev none e 242 205 [some (.ref 633), some (.int n), some (.int a), some (.int (m + 1)), some (.int (x + 1)), some (.int l), some (.int j)] [] M v M' 0 0 := Ev.back 3 (fun n => rfl) H
    have HF := H
    exact Or.inl ⟨h1, HF⟩
  · rw [if_neg h1] at H
    have H : Ev none e 242 279 [some (.ref 633), some (.int n), some (.int a), some (.int m), some (.int x), some (.int l), some (.int j)] [.ref 633] M v M' 0 0 := Ev.back 1 (fun n => rfl) H
    have H : Ev none e 242 282 [some (.ref 633), some (.int n), some (.int a), some (.int m), some (.int x), some (.int l), some (.int j)] [.ref 660] M v M' 0 0 := Ev.back 1 (gs_3 rfl rfl (gf_u hS.1 qa_633 qr_61_57 qu_88 rfl)) H
    have H : Ev none e 242 (if m = 0 then 305 else 288) [some (.ref 633), some (.int n), some (.int a), some (.int m), some (.int x), some (.int l), some (.int j)] [.int j, .ref 660] M v M' 0 0 := Ev.back 3 (fun n => rfl) H
    by_cases h2 : m = 0
    · rw [if_pos h2] at H
      have H : Ev none e 242 306 [some (.ref 633), some (.int n), some (.int a), some (.int m), some (.int x), some (.int l), some (.int j)] [.ref 633, .int j, .ref 660] M v M' 0 0 := Ev.back 1 (fun n => rfl) H
      have H : Ev none e 242 309 [some (.ref 633), some (.int n), some (.int a), some (.int m), some (.int x), some (.int l), some (.int j)] [.ref 662, .int j, .ref 660] M v M' 0 0 := Ev.back 1 (gs_3 rfl rfl (gf_u hS.1 qa_633 qr_61_59 qu_90 rfl)) H
      have H : Ev none e 242 311 [some (.ref 633), some (.int n), some (.int a), some (.int m), some (.int x), some (.int l), some (.int j)] [.int j, .ref 662, .int j, .ref 660] M v M' 0 0 := Ev.back 1 (fun n => rfl) H
      obtain ⟨b3, H⟩ := Ev.ial rfl rfl hS.1 qa_662 qw_90 H
      have H : Ev none e 242 312 [some (.ref 633), some (.int n), some (.int a), some (.int m), some (.int x), some (.int l), some (.int j)] [.int (rI M 662 j), .int j, .ref 660] M v M' 0 0 := H
      have H : Ev none e 242 322 [some (.ref 633), some (.int n), some (.int a), some (.int m), some (.int x), some (.int l), some (.int j)] [.int (rI M 662 j), .int j, .ref 660] M v M' 0 0 := Ev.back 1 (fun n => rfl) H
      obtain ⟨b4, H⟩ := Ev.ias rfl rfl hS.1 qa_660 qw_88 H
      obtain ⟨N5, eN5⟩ : ∃ N, N = (wI M 660 j.toNatClampNeg (rI M 662 j)) := ⟨_, rfl⟩
      have hN5 : SQ N5 := by rw [eN5]; exact hS.ki
      have H : Ev none e 242 323 [some (.ref 633), some (.int n), some (.int a), some (.int m), some (.int x), some (.int l), some (.int j)] [] N5 v M' 0 0 := by rw [eN5]; exact H
      have H : Ev none e 242 324 [some (.ref 633), some (.int n), some (.int a), some (.int m), some (.int x), some (.int l), some (.int j)] [.ref 633] N5 v M' 0 0 := Ev.back 1 (fun n => rfl) H
      have H : Ev none e 242 327 [some (.ref 633), some (.int n), some (.int a), some (.int m), some (.int x), some (.int l), some (.int j)] [.ref 661] N5 v M' 0 0 := Ev.back 1 (gs_3 rfl rfl (gf_u hN5.1 qa_633 qr_61_58 qu_89 rfl)) H
      have H : Ev none e 242 (if m = 0 then 350 else 333) [some (.ref 633), some (.int n), some (.int a), some (.int m), some (.int x), some (.int l), some (.int j)] [.int j, .ref 661] N5 v M' 0 0 := Ev.back 3 (fun n => rfl) H
      rw [if_pos h2] at H
      have H : Ev none e 242 351 [some (.ref 633), some (.int n), some (.int a), some (.int m), some (.int x), some (.int l), some (.int j)] [.ref 633, .int j, .ref 661] N5 v M' 0 0 := Ev.back 1 (fun n => rfl) H
      have H : Ev none e 242 354 [some (.ref 633), some (.int n), some (.int a), some (.int m), some (.int x), some (.int l), some (.int j)] [.ref 662, .int j, .ref 661] N5 v M' 0 0 := Ev.back 1 (gs_3 rfl rfl (gf_u hN5.1 qa_633 qr_61_59 qu_90 rfl)) H
      have H : Ev none e 242 356 [some (.ref 633), some (.int n), some (.int a), some (.int m), some (.int x), some (.int l), some (.int j)] [.int j, .ref 662, .int j, .ref 661] N5 v M' 0 0 := Ev.back 1 (fun n => rfl) H
      obtain ⟨b6, H⟩ := Ev.ial rfl rfl hN5.1 qa_662 qw_90 H
      have H : Ev none e 242 357 [some (.ref 633), some (.int n), some (.int a), some (.int m), some (.int x), some (.int l), some (.int j)] [.int (rI N5 662 j), .int j, .ref 661] N5 v M' 0 0 := H
      rw [show rI N5 662 j = rI M 662 j from by rw [eN5]; exact rN_wI_ne (fun q => absurd q.1 (by decide))] at H
      have H : Ev none e 242 367 [some (.ref 633), some (.int n), some (.int a), some (.int m), some (.int x), some (.int l), some (.int j)] [.int (rI M 662 j), .int j, .ref 661] N5 v M' 0 0 := Ev.back 1 (fun n => rfl) H
      obtain ⟨b7, H⟩ := Ev.ias rfl rfl hN5.1 qa_661 qw_89 H
      obtain ⟨N8, eN8⟩ : ∃ N, N = (wI N5 661 j.toNatClampNeg (rI M 662 j)) := ⟨_, rfl⟩
      have hN8 : SQ N8 := by rw [eN8]; exact hN5.ki
      have H : Ev none e 242 368 [some (.ref 633), some (.int n), some (.int a), some (.int m), some (.int x), some (.int l), some (.int j)] [] N8 v M' 0 0 := by rw [eN8]; exact H
      have H : Ev none e 242 272 [some (.ref 633), some (.int n), some (.int a), some (.int m), some (.int x), some (.int l), some (.int (j + 1))] [] N8 v M' 0 0 := Ev.back 2 (fun n => rfl) H
      have HF := H
      subst eN5 eN8
      exact Or.inr (Or.inl ⟨h1, h2, b3, b4, b6, b7, HF⟩)
    · rw [if_neg h2] at H
      have H : Ev none e 242 289 [some (.ref 633), some (.int n), some (.int a), some (.int m), some (.int x), some (.int l), some (.int j)] [.ref 633, .int j, .ref 660] M v M' 0 0 := Ev.back 1 (fun n => rfl) H
      have H : Ev none e 242 292 [some (.ref 633), some (.int n), some (.int a), some (.int m), some (.int x), some (.int l), some (.int j)] [.ref 662, .int j, .ref 660] M v M' 0 0 := Ev.back 1 (gs_3 rfl rfl (gf_u hS.1 qa_633 qr_61_59 qu_90 rfl)) H
      have H : Ev none e 242 294 [some (.ref 633), some (.int n), some (.int a), some (.int m), some (.int x), some (.int l), some (.int j)] [.int j, .ref 662, .int j, .ref 660] M v M' 0 0 := Ev.back 1 (fun n => rfl) H
      obtain ⟨b9, H⟩ := Ev.ial rfl rfl hS.1 qa_662 qw_90 H
      have H : Ev none e 242 295 [some (.ref 633), some (.int n), some (.int a), some (.int m), some (.int x), some (.int l), some (.int j)] [.int (rI M 662 j), .int j, .ref 660] M v M' 0 0 := H
      have H : Ev none e 242 296 [some (.ref 633), some (.int n), some (.int a), some (.int m), some (.int x), some (.int l), some (.int j)] [.ref 633, .int (rI M 662 j), .int j, .ref 660] M v M' 0 0 := Ev.back 1 (fun n => rfl) H
      have H : Ev none e 242 299 [some (.ref 633), some (.int n), some (.int a), some (.int m), some (.int x), some (.int l), some (.int j)] [.ref 660, .int (rI M 662 j), .int j, .ref 660] M v M' 0 0 := Ev.back 1 (gs_3 rfl rfl (gf_u hS.1 qa_633 qr_61_57 qu_88 rfl)) H
      have H : Ev none e 242 301 [some (.ref 633), some (.int n), some (.int a), some (.int m), some (.int x), some (.int l), some (.int j)] [.int j, .ref 660, .int (rI M 662 j), .int j, .ref 660] M v M' 0 0 := Ev.back 1 (fun n => rfl) H
      obtain ⟨b10, H⟩ := Ev.ial rfl rfl hS.1 qa_660 qw_88 H
      have H : Ev none e 242 302 [some (.ref 633), some (.int n), some (.int a), some (.int m), some (.int x), some (.int l), some (.int j)] [.int (rI M 660 j), .int (rI M 662 j), .int j, .ref 660] M v M' 0 0 := H
      have H : Ev none e 242 (if (rI M 660 j) ≤ (rI M 662 j) then 315 else 305) [some (.ref 633), some (.int n), some (.int a), some (.int m), some (.int x), some (.int l), some (.int j)] [.int j, .ref 660] M v M' 0 0 := Ev.back 1 (fun n => rfl) H
      by_cases h11 : (rI M 660 j) ≤ (rI M 662 j)
      · rw [if_pos h11] at H
        have H : Ev none e 242 316 [some (.ref 633), some (.int n), some (.int a), some (.int m), some (.int x), some (.int l), some (.int j)] [.ref 633, .int j, .ref 660] M v M' 0 0 := Ev.back 1 (fun n => rfl) H
        have H : Ev none e 242 319 [some (.ref 633), some (.int n), some (.int a), some (.int m), some (.int x), some (.int l), some (.int j)] [.ref 660, .int j, .ref 660] M v M' 0 0 := Ev.back 1 (gs_3 rfl rfl (gf_u hS.1 qa_633 qr_61_57 qu_88 rfl)) H
        have H : Ev none e 242 321 [some (.ref 633), some (.int n), some (.int a), some (.int m), some (.int x), some (.int l), some (.int j)] [.int j, .ref 660, .int j, .ref 660] M v M' 0 0 := Ev.back 1 (fun n => rfl) H
        obtain ⟨b12, H⟩ := Ev.ial rfl rfl hS.1 qa_660 qw_88 H
        have H : Ev none e 242 322 [some (.ref 633), some (.int n), some (.int a), some (.int m), some (.int x), some (.int l), some (.int j)] [.int (rI M 660 j), .int j, .ref 660] M v M' 0 0 := H
        obtain ⟨b13, H⟩ := Ev.ias rfl rfl hS.1 qa_660 qw_88 H
        obtain ⟨N14, eN14⟩ : ∃ N, N = (wI M 660 j.toNatClampNeg (rI M 660 j)) := ⟨_, rfl⟩
        have hN14 : SQ N14 := by rw [eN14]; exact hS.ki
        have H : Ev none e 242 323 [some (.ref 633), some (.int n), some (.int a), some (.int m), some (.int x), some (.int l), some (.int j)] [] N14 v M' 0 0 := by rw [eN14]; exact H
        have H : Ev none e 242 324 [some (.ref 633), some (.int n), some (.int a), some (.int m), some (.int x), some (.int l), some (.int j)] [.ref 633] N14 v M' 0 0 := Ev.back 1 (fun n => rfl) H
        have H : Ev none e 242 327 [some (.ref 633), some (.int n), some (.int a), some (.int m), some (.int x), some (.int l), some (.int j)] [.ref 661] N14 v M' 0 0 := Ev.back 1 (gs_3 rfl rfl (gf_u hN14.1 qa_633 qr_61_58 qu_89 rfl)) H
        have H : Ev none e 242 (if m = 0 then 350 else 333) [some (.ref 633), some (.int n), some (.int a), some (.int m), some (.int x), some (.int l), some (.int j)] [.int j, .ref 661] N14 v M' 0 0 := Ev.back 3 (fun n => rfl) H
        rw [if_neg h2] at H
        have H : Ev none e 242 334 [some (.ref 633), some (.int n), some (.int a), some (.int m), some (.int x), some (.int l), some (.int j)] [.ref 633, .int j, .ref 661] N14 v M' 0 0 := Ev.back 1 (fun n => rfl) H
        have H : Ev none e 242 337 [some (.ref 633), some (.int n), some (.int a), some (.int m), some (.int x), some (.int l), some (.int j)] [.ref 662, .int j, .ref 661] N14 v M' 0 0 := Ev.back 1 (gs_3 rfl rfl (gf_u hN14.1 qa_633 qr_61_59 qu_90 rfl)) H
        have H : Ev none e 242 339 [some (.ref 633), some (.int n), some (.int a), some (.int m), some (.int x), some (.int l), some (.int j)] [.int j, .ref 662, .int j, .ref 661] N14 v M' 0 0 := Ev.back 1 (fun n => rfl) H
        obtain ⟨b15, H⟩ := Ev.ial rfl rfl hN14.1 qa_662 qw_90 H
        have H : Ev none e 242 340 [some (.ref 633), some (.int n), some (.int a), some (.int m), some (.int x), some (.int l), some (.int j)] [.int (rI N14 662 j), .int j, .ref 661] N14 v M' 0 0 := H
        rw [show rI N14 662 j = rI M 662 j from by rw [eN14]; exact rN_wI_ne (fun q => absurd q.1 (by decide))] at H
        have H : Ev none e 242 341 [some (.ref 633), some (.int n), some (.int a), some (.int m), some (.int x), some (.int l), some (.int j)] [.ref 633, .int (rI M 662 j), .int j, .ref 661] N14 v M' 0 0 := Ev.back 1 (fun n => rfl) H
        have H : Ev none e 242 344 [some (.ref 633), some (.int n), some (.int a), some (.int m), some (.int x), some (.int l), some (.int j)] [.ref 661, .int (rI M 662 j), .int j, .ref 661] N14 v M' 0 0 := Ev.back 1 (gs_3 rfl rfl (gf_u hN14.1 qa_633 qr_61_58 qu_89 rfl)) H
        have H : Ev none e 242 346 [some (.ref 633), some (.int n), some (.int a), some (.int m), some (.int x), some (.int l), some (.int j)] [.int j, .ref 661, .int (rI M 662 j), .int j, .ref 661] N14 v M' 0 0 := Ev.back 1 (fun n => rfl) H
        obtain ⟨b16, H⟩ := Ev.ial rfl rfl hN14.1 qa_661 qw_89 H
        have H : Ev none e 242 347 [some (.ref 633), some (.int n), some (.int a), some (.int m), some (.int x), some (.int l), some (.int j)] [.int (rI N14 661 j), .int (rI M 662 j), .int j, .ref 661] N14 v M' 0 0 := H
        rw [show rI N14 661 j = rI M 661 j from by rw [eN14]; exact rN_wI_ne (fun q => absurd q.1 (by decide))] at H
        have H : Ev none e 242 (if (rI M 662 j) ≤ (rI M 661 j) then 360 else 350) [some (.ref 633), some (.int n), some (.int a), some (.int m), some (.int x), some (.int l), some (.int j)] [.int j, .ref 661] N14 v M' 0 0 := Ev.back 1 (fun n => rfl) H
        by_cases h17 : (rI M 662 j) ≤ (rI M 661 j)
        · rw [if_pos h17] at H
          have H : Ev none e 242 361 [some (.ref 633), some (.int n), some (.int a), some (.int m), some (.int x), some (.int l), some (.int j)] [.ref 633, .int j, .ref 661] N14 v M' 0 0 := Ev.back 1 (fun n => rfl) H
          have H : Ev none e 242 364 [some (.ref 633), some (.int n), some (.int a), some (.int m), some (.int x), some (.int l), some (.int j)] [.ref 661, .int j, .ref 661] N14 v M' 0 0 := Ev.back 1 (gs_3 rfl rfl (gf_u hN14.1 qa_633 qr_61_58 qu_89 rfl)) H
          have H : Ev none e 242 366 [some (.ref 633), some (.int n), some (.int a), some (.int m), some (.int x), some (.int l), some (.int j)] [.int j, .ref 661, .int j, .ref 661] N14 v M' 0 0 := Ev.back 1 (fun n => rfl) H
          obtain ⟨b18, H⟩ := Ev.ial rfl rfl hN14.1 qa_661 qw_89 H
          have H : Ev none e 242 367 [some (.ref 633), some (.int n), some (.int a), some (.int m), some (.int x), some (.int l), some (.int j)] [.int (rI N14 661 j), .int j, .ref 661] N14 v M' 0 0 := H
          rw [show rI N14 661 j = rI M 661 j from by rw [eN14]; exact rN_wI_ne (fun q => absurd q.1 (by decide))] at H
          obtain ⟨b19, H⟩ := Ev.ias rfl rfl hN14.1 qa_661 qw_89 H
          obtain ⟨N20, eN20⟩ : ∃ N, N = (wI N14 661 j.toNatClampNeg (rI M 661 j)) := ⟨_, rfl⟩
          have hN20 : SQ N20 := by rw [eN20]; exact hN14.ki
          have H : Ev none e 242 368 [some (.ref 633), some (.int n), some (.int a), some (.int m), some (.int x), some (.int l), some (.int j)] [] N20 v M' 0 0 := by rw [eN20]; exact H
          have H : Ev none e 242 272 [some (.ref 633), some (.int n), some (.int a), some (.int m), some (.int x), some (.int l), some (.int (j + 1))] [] N20 v M' 0 0 := Ev.back 2 (fun n => rfl) H
          have HF := H
          subst eN14 eN20
          exact Or.inr (Or.inr (Or.inl ⟨h1, h2, h11, h17, b9, b10, b12, b13, b15, b16, b18, b19, HF⟩))
        · rw [if_neg h17] at H
          have H : Ev none e 242 351 [some (.ref 633), some (.int n), some (.int a), some (.int m), some (.int x), some (.int l), some (.int j)] [.ref 633, .int j, .ref 661] N14 v M' 0 0 := Ev.back 1 (fun n => rfl) H
          have H : Ev none e 242 354 [some (.ref 633), some (.int n), some (.int a), some (.int m), some (.int x), some (.int l), some (.int j)] [.ref 662, .int j, .ref 661] N14 v M' 0 0 := Ev.back 1 (gs_3 rfl rfl (gf_u hN14.1 qa_633 qr_61_59 qu_90 rfl)) H
          have H : Ev none e 242 356 [some (.ref 633), some (.int n), some (.int a), some (.int m), some (.int x), some (.int l), some (.int j)] [.int j, .ref 662, .int j, .ref 661] N14 v M' 0 0 := Ev.back 1 (fun n => rfl) H
          obtain ⟨b21, H⟩ := Ev.ial rfl rfl hN14.1 qa_662 qw_90 H
          have H : Ev none e 242 357 [some (.ref 633), some (.int n), some (.int a), some (.int m), some (.int x), some (.int l), some (.int j)] [.int (rI N14 662 j), .int j, .ref 661] N14 v M' 0 0 := H
          rw [show rI N14 662 j = rI M 662 j from by rw [eN14]; exact rN_wI_ne (fun q => absurd q.1 (by decide))] at H
          have H : Ev none e 242 367 [some (.ref 633), some (.int n), some (.int a), some (.int m), some (.int x), some (.int l), some (.int j)] [.int (rI M 662 j), .int j, .ref 661] N14 v M' 0 0 := Ev.back 1 (fun n => rfl) H
          obtain ⟨b22, H⟩ := Ev.ias rfl rfl hN14.1 qa_661 qw_89 H
          obtain ⟨N23, eN23⟩ : ∃ N, N = (wI N14 661 j.toNatClampNeg (rI M 662 j)) := ⟨_, rfl⟩
          have hN23 : SQ N23 := by rw [eN23]; exact hN14.ki
          have H : Ev none e 242 368 [some (.ref 633), some (.int n), some (.int a), some (.int m), some (.int x), some (.int l), some (.int j)] [] N23 v M' 0 0 := by rw [eN23]; exact H
          have H : Ev none e 242 272 [some (.ref 633), some (.int n), some (.int a), some (.int m), some (.int x), some (.int l), some (.int (j + 1))] [] N23 v M' 0 0 := Ev.back 2 (fun n => rfl) H
          have HF := H
          subst eN14 eN23
          exact Or.inr (Or.inr (Or.inr (Or.inl ⟨h1, h2, h11, h17, b9, b10, b12, b13, b15, b16, b21, b22, HF⟩)))
      · rw [if_neg h11] at H
        have H : Ev none e 242 306 [some (.ref 633), some (.int n), some (.int a), some (.int m), some (.int x), some (.int l), some (.int j)] [.ref 633, .int j, .ref 660] M v M' 0 0 := Ev.back 1 (fun n => rfl) H
        have H : Ev none e 242 309 [some (.ref 633), some (.int n), some (.int a), some (.int m), some (.int x), some (.int l), some (.int j)] [.ref 662, .int j, .ref 660] M v M' 0 0 := Ev.back 1 (gs_3 rfl rfl (gf_u hS.1 qa_633 qr_61_59 qu_90 rfl)) H
        have H : Ev none e 242 311 [some (.ref 633), some (.int n), some (.int a), some (.int m), some (.int x), some (.int l), some (.int j)] [.int j, .ref 662, .int j, .ref 660] M v M' 0 0 := Ev.back 1 (fun n => rfl) H
        obtain ⟨b24, H⟩ := Ev.ial rfl rfl hS.1 qa_662 qw_90 H
        have H : Ev none e 242 312 [some (.ref 633), some (.int n), some (.int a), some (.int m), some (.int x), some (.int l), some (.int j)] [.int (rI M 662 j), .int j, .ref 660] M v M' 0 0 := H
        have H : Ev none e 242 322 [some (.ref 633), some (.int n), some (.int a), some (.int m), some (.int x), some (.int l), some (.int j)] [.int (rI M 662 j), .int j, .ref 660] M v M' 0 0 := Ev.back 1 (fun n => rfl) H
        obtain ⟨b25, H⟩ := Ev.ias rfl rfl hS.1 qa_660 qw_88 H
        obtain ⟨N26, eN26⟩ : ∃ N, N = (wI M 660 j.toNatClampNeg (rI M 662 j)) := ⟨_, rfl⟩
        have hN26 : SQ N26 := by rw [eN26]; exact hS.ki
        have H : Ev none e 242 323 [some (.ref 633), some (.int n), some (.int a), some (.int m), some (.int x), some (.int l), some (.int j)] [] N26 v M' 0 0 := by rw [eN26]; exact H
        have H : Ev none e 242 324 [some (.ref 633), some (.int n), some (.int a), some (.int m), some (.int x), some (.int l), some (.int j)] [.ref 633] N26 v M' 0 0 := Ev.back 1 (fun n => rfl) H
        have H : Ev none e 242 327 [some (.ref 633), some (.int n), some (.int a), some (.int m), some (.int x), some (.int l), some (.int j)] [.ref 661] N26 v M' 0 0 := Ev.back 1 (gs_3 rfl rfl (gf_u hN26.1 qa_633 qr_61_58 qu_89 rfl)) H
        have H : Ev none e 242 (if m = 0 then 350 else 333) [some (.ref 633), some (.int n), some (.int a), some (.int m), some (.int x), some (.int l), some (.int j)] [.int j, .ref 661] N26 v M' 0 0 := Ev.back 3 (fun n => rfl) H
        rw [if_neg h2] at H
        have H : Ev none e 242 334 [some (.ref 633), some (.int n), some (.int a), some (.int m), some (.int x), some (.int l), some (.int j)] [.ref 633, .int j, .ref 661] N26 v M' 0 0 := Ev.back 1 (fun n => rfl) H
        have H : Ev none e 242 337 [some (.ref 633), some (.int n), some (.int a), some (.int m), some (.int x), some (.int l), some (.int j)] [.ref 662, .int j, .ref 661] N26 v M' 0 0 := Ev.back 1 (gs_3 rfl rfl (gf_u hN26.1 qa_633 qr_61_59 qu_90 rfl)) H
        have H : Ev none e 242 339 [some (.ref 633), some (.int n), some (.int a), some (.int m), some (.int x), some (.int l), some (.int j)] [.int j, .ref 662, .int j, .ref 661] N26 v M' 0 0 := Ev.back 1 (fun n => rfl) H
        obtain ⟨b27, H⟩ := Ev.ial rfl rfl hN26.1 qa_662 qw_90 H
        have H : Ev none e 242 340 [some (.ref 633), some (.int n), some (.int a), some (.int m), some (.int x), some (.int l), some (.int j)] [.int (rI N26 662 j), .int j, .ref 661] N26 v M' 0 0 := H
        rw [show rI N26 662 j = rI M 662 j from by rw [eN26]; exact rN_wI_ne (fun q => absurd q.1 (by decide))] at H
        have H : Ev none e 242 341 [some (.ref 633), some (.int n), some (.int a), some (.int m), some (.int x), some (.int l), some (.int j)] [.ref 633, .int (rI M 662 j), .int j, .ref 661] N26 v M' 0 0 := Ev.back 1 (fun n => rfl) H
        have H : Ev none e 242 344 [some (.ref 633), some (.int n), some (.int a), some (.int m), some (.int x), some (.int l), some (.int j)] [.ref 661, .int (rI M 662 j), .int j, .ref 661] N26 v M' 0 0 := Ev.back 1 (gs_3 rfl rfl (gf_u hN26.1 qa_633 qr_61_58 qu_89 rfl)) H
        have H : Ev none e 242 346 [some (.ref 633), some (.int n), some (.int a), some (.int m), some (.int x), some (.int l), some (.int j)] [.int j, .ref 661, .int (rI M 662 j), .int j, .ref 661] N26 v M' 0 0 := Ev.back 1 (fun n => rfl) H
        obtain ⟨b28, H⟩ := Ev.ial rfl rfl hN26.1 qa_661 qw_89 H
        have H : Ev none e 242 347 [some (.ref 633), some (.int n), some (.int a), some (.int m), some (.int x), some (.int l), some (.int j)] [.int (rI N26 661 j), .int (rI M 662 j), .int j, .ref 661] N26 v M' 0 0 := H
        rw [show rI N26 661 j = rI M 661 j from by rw [eN26]; exact rN_wI_ne (fun q => absurd q.1 (by decide))] at H
        have H : Ev none e 242 (if (rI M 662 j) ≤ (rI M 661 j) then 360 else 350) [some (.ref 633), some (.int n), some (.int a), some (.int m), some (.int x), some (.int l), some (.int j)] [.int j, .ref 661] N26 v M' 0 0 := Ev.back 1 (fun n => rfl) H
        by_cases h29 : (rI M 662 j) ≤ (rI M 661 j)
        · rw [if_pos h29] at H
          have H : Ev none e 242 361 [some (.ref 633), some (.int n), some (.int a), some (.int m), some (.int x), some (.int l), some (.int j)] [.ref 633, .int j, .ref 661] N26 v M' 0 0 := Ev.back 1 (fun n => rfl) H
          have H : Ev none e 242 364 [some (.ref 633), some (.int n), some (.int a), some (.int m), some (.int x), some (.int l), some (.int j)] [.ref 661, .int j, .ref 661] N26 v M' 0 0 := Ev.back 1 (gs_3 rfl rfl (gf_u hN26.1 qa_633 qr_61_58 qu_89 rfl)) H
          have H : Ev none e 242 366 [some (.ref 633), some (.int n), some (.int a), some (.int m), some (.int x), some (.int l), some (.int j)] [.int j, .ref 661, .int j, .ref 661] N26 v M' 0 0 := Ev.back 1 (fun n => rfl) H
          obtain ⟨b30, H⟩ := Ev.ial rfl rfl hN26.1 qa_661 qw_89 H
          have H : Ev none e 242 367 [some (.ref 633), some (.int n), some (.int a), some (.int m), some (.int x), some (.int l), some (.int j)] [.int (rI N26 661 j), .int j, .ref 661] N26 v M' 0 0 := H
          rw [show rI N26 661 j = rI M 661 j from by rw [eN26]; exact rN_wI_ne (fun q => absurd q.1 (by decide))] at H
          obtain ⟨b31, H⟩ := Ev.ias rfl rfl hN26.1 qa_661 qw_89 H
          obtain ⟨N32, eN32⟩ : ∃ N, N = (wI N26 661 j.toNatClampNeg (rI M 661 j)) := ⟨_, rfl⟩
          have hN32 : SQ N32 := by rw [eN32]; exact hN26.ki
          have H : Ev none e 242 368 [some (.ref 633), some (.int n), some (.int a), some (.int m), some (.int x), some (.int l), some (.int j)] [] N32 v M' 0 0 := by rw [eN32]; exact H
          have H : Ev none e 242 272 [some (.ref 633), some (.int n), some (.int a), some (.int m), some (.int x), some (.int l), some (.int (j + 1))] [] N32 v M' 0 0 := Ev.back 2 (fun n => rfl) H
          have HF := H
          subst eN26 eN32
          exact Or.inr (Or.inr (Or.inr (Or.inr (Or.inl ⟨h1, h2, h11, h29, b9, b10, b24, b25, b27, b28, b30, b31, HF⟩))))
        · rw [if_neg h29] at H
          have H : Ev none e 242 351 [some (.ref 633), some (.int n), some (.int a), some (.int m), some (.int x), some (.int l), some (.int j)] [.ref 633, .int j, .ref 661] N26 v M' 0 0 := Ev.back 1 (fun n => rfl) H
          have H : Ev none e 242 354 [some (.ref 633), some (.int n), some (.int a), some (.int m), some (.int x), some (.int l), some (.int j)] [.ref 662, .int j, .ref 661] N26 v M' 0 0 := Ev.back 1 (gs_3 rfl rfl (gf_u hN26.1 qa_633 qr_61_59 qu_90 rfl)) H
          have H : Ev none e 242 356 [some (.ref 633), some (.int n), some (.int a), some (.int m), some (.int x), some (.int l), some (.int j)] [.int j, .ref 662, .int j, .ref 661] N26 v M' 0 0 := Ev.back 1 (fun n => rfl) H
          obtain ⟨b33, H⟩ := Ev.ial rfl rfl hN26.1 qa_662 qw_90 H
          have H : Ev none e 242 357 [some (.ref 633), some (.int n), some (.int a), some (.int m), some (.int x), some (.int l), some (.int j)] [.int (rI N26 662 j), .int j, .ref 661] N26 v M' 0 0 := H
          rw [show rI N26 662 j = rI M 662 j from by rw [eN26]; exact rN_wI_ne (fun q => absurd q.1 (by decide))] at H
          have H : Ev none e 242 367 [some (.ref 633), some (.int n), some (.int a), some (.int m), some (.int x), some (.int l), some (.int j)] [.int (rI M 662 j), .int j, .ref 661] N26 v M' 0 0 := Ev.back 1 (fun n => rfl) H
          obtain ⟨b34, H⟩ := Ev.ias rfl rfl hN26.1 qa_661 qw_89 H
          obtain ⟨N35, eN35⟩ : ∃ N, N = (wI N26 661 j.toNatClampNeg (rI M 662 j)) := ⟨_, rfl⟩
          have hN35 : SQ N35 := by rw [eN35]; exact hN26.ki
          have H : Ev none e 242 368 [some (.ref 633), some (.int n), some (.int a), some (.int m), some (.int x), some (.int l), some (.int j)] [] N35 v M' 0 0 := by rw [eN35]; exact H
          have H : Ev none e 242 272 [some (.ref 633), some (.int n), some (.int a), some (.int m), some (.int x), some (.int l), some (.int (j + 1))] [] N35 v M' 0 0 := Ev.back 2 (fun n => rfl) H
          have HF := H
          subst eN26 eN35
          exact Or.inr (Or.inr (Or.inr (Or.inr (Or.inr (⟨h1, h2, h11, h29, b9, b10, b24, b25, b27, b28, b33, b34, HF⟩)))))
theorem isn_0 {e : Nat} {M M' : Mem} {v : Option Value} {n : Int32} (hS : SQ M) (H : Ev none e 243 0 [some (.ref 633), some (.int n), none, none, none] [] M v M' 0 0) : Ev none e 243 2 [some (.ref 633), some (.int n), some (.int 0), none, none] [] M v M' 0 0 := by
  have H : Ev none e 243 2 [some (.ref 633), some (.int n), some (.int 0), none, none] [] M v M' 0 0 := Ev.back 2 (fun n => rfl) H
  have HF := H
  exact HF
theorem isn_2 {e : Nat} {M M' : Mem} {v : Option Value} {n c : Int32} {o3 o4 : Option Value} (hS : SQ M) (H : Ev none e 243 2 [some (.ref 633), some (.int n), some (.int c), o3, o4] [] M v M' 0 0) : ((G_144 M) ≤ c ∧ v = some (.int 1) ∧ M' = M) ∨ (¬ ((G_144 M) ≤ c) ∧ Ev none e 243 21 [some (.ref 633), some (.int n), some (.int c), some (.int (G_146 M c 6)), some (.int 0)] [] M v M' 0 0) := by
  have H : Ev none e 243 4 [some (.ref 633), some (.int n), some (.int c), o3, o4] [.ref 633, .int c] M v M' 0 0 := Ev.back 2 (fun n => rfl) H
  obtain ⟨e1, rfl⟩ := Ev.dpos rfl rfl H
  obtain ⟨vK1, MK1, K1, H⟩ := Ev.callb (fun n_ => gs_7 rfl rfl (show gCal (.invokevirtual 128) 11 (.ref 633 :: [.int c]) M = some (.inr (144, [some (.ref 633)], [.int c])) from by show @cond (Option ((List Value × Mem) ⊕ (Nat × Lo × List Value))) (true && gRecv M (.ref 633) 11 && gRoom [.int c] && true) (some (.inr (144, [some (.ref 633)], [.int c]))) none = _; rw [recv_s hS.1 qa_633 qo_61]; rfl)) H
  obtain ⟨pK1, qK1⟩ := g_144 hS K1
  rw [pK1, qK1] at H
  have H : Ev none (e1 + 1) 243 7 [some (.ref 633), some (.int n), some (.int c), o3, o4] [.int (G_144 M), .int c] M v M' 0 0 := H
  have H : Ev none (e1 + 1) 243 (if (G_144 M) ≤ c then 69 else 10) [some (.ref 633), some (.int n), some (.int c), o3, o4] [] M v M' 0 0 := Ev.back 1 (fun n => rfl) H
  by_cases h2 : (G_144 M) ≤ c
  · rw [if_pos h2] at H
    have H : Ev none (e1 + 1) 243 70 [some (.ref 633), some (.int n), some (.int c), o3, o4] [.int 1] M v M' 0 0 := Ev.back 1 (fun n => rfl) H
    obtain ⟨z1, z2⟩ := Ev.retz rfl rfl H
    exact Or.inl ⟨h2, z1, z2⟩
  · rw [if_neg h2] at H
    have H : Ev none (e1 + 1) 243 14 [some (.ref 633), some (.int n), some (.int c), o3, o4] [.int 6, .int c, .ref 633] M v M' 0 0 := Ev.back 3 (fun n => rfl) H
    obtain ⟨vK3, MK3, K3, H⟩ := Ev.callb (fun n_ => gs_7 rfl rfl (show gCal (.invokevirtual 136) 11 (.int 6 :: .int c :: .ref 633 :: []) M = some (.inr (146, [some (.ref 633), some (.int c), some (.int 6)], [])) from by show @cond (Option ((List Value × Mem) ⊕ (Nat × Lo × List Value))) (true && gRecv M (.ref 633) 11 && gRoom [] && true) (some (.inr (146, [some (.ref 633), some (.int c), some (.int 6)], []))) none = _; rw [recv_s hS.1 qa_633 qo_61]; rfl)) H
    obtain ⟨pK3, qK3⟩ := g_146 hS K3
    rw [pK3, qK3] at H
    have H : Ev none (e1 + 1) 243 17 [some (.ref 633), some (.int n), some (.int c), o3, o4] [.int (G_146 M c 6)] M v M' 0 0 := H
    have H : Ev none (e1 + 1) 243 21 [some (.ref 633), some (.int n), some (.int c), some (.int (G_146 M c 6)), some (.int 0)] [] M v M' 0 0 := Ev.back 3 (fun n => rfl) H
    have HF := H
    exact Or.inr (⟨h2, HF⟩)
theorem isn_21 {e : Nat} {M M' : Mem} {v : Option Value} {n c w j : Int32} (hS : SQ M) (H : Ev none e 243 21 [some (.ref 633), some (.int n), some (.int c), some (.int w), some (.int j)] [] M v M' 0 0) : (n ≤ j ∧ w = 0 ∧ Ev none e 243 2 [some (.ref 633), some (.int n), some (.int (c + 1)), some (.int w), some (.int j)] [] M v M' 0 0) ∨ (n ≤ j ∧ ¬ (w = 0) ∧ v = some (.int 0) ∧ M' = M) ∨ (¬ (n ≤ j) ∧ (0 ≤ j.toInt ∧ j.toInt < 5) ∧ (0 ≤ ((256 * j) + c).toInt ∧ ((256 * j) + c).toInt < 1280) ∧ Ev none e 243 21 [some (.ref 633), some (.int n), some (.int c), some (.int (w - ((rI M 662 j) * (rI M 659 ((256 * j) + c))))), some (.int (j + 1))] [] M v M' 0 0) := by
  have H : Ev none e 243 (if n ≤ j then 57 else 27) [some (.ref 633), some (.int n), some (.int c), some (.int w), some (.int j)] [] M v M' 0 0 := Ev.back 3 (fun n => rfl) H
  by_cases h1 : n ≤ j
  · rw [if_pos h1] at H
    have H : Ev none e 243 (if w = 0 then 63 else 61) [some (.ref 633), some (.int n), some (.int c), some (.int w), some (.int j)] [] M v M' 0 0 := Ev.back 2 (fun n => rfl) H
    by_cases h2 : w = 0
    · rw [if_pos h2] at H
      have H : Ev none e 243 2 [some (.ref 633), some (.int n), some (.int (c + 1)), some (.int w), some (.int j)] [] M v M' 0 0 := Ev.back 2 (fun n => rfl) H
      have HF := H
      exact Or.inl ⟨h1, h2, HF⟩
    · rw [if_neg h2] at H
      have H : Ev none e 243 62 [some (.ref 633), some (.int n), some (.int c), some (.int w), some (.int j)] [.int 0] M v M' 0 0 := Ev.back 1 (fun n => rfl) H
      obtain ⟨z1, z2⟩ := Ev.retz rfl rfl H
      exact Or.inr (Or.inl ⟨h1, h2, z1, z2⟩)
  · rw [if_neg h1] at H
    have H : Ev none e 243 29 [some (.ref 633), some (.int n), some (.int c), some (.int w), some (.int j)] [.ref 633, .int w] M v M' 0 0 := Ev.back 2 (fun n => rfl) H
    have H : Ev none e 243 32 [some (.ref 633), some (.int n), some (.int c), some (.int w), some (.int j)] [.ref 662, .int w] M v M' 0 0 := Ev.back 1 (gs_3 rfl rfl (gf_u hS.1 qa_633 qr_61_59 qu_90 rfl)) H
    have H : Ev none e 243 34 [some (.ref 633), some (.int n), some (.int c), some (.int w), some (.int j)] [.int j, .ref 662, .int w] M v M' 0 0 := Ev.back 1 (fun n => rfl) H
    obtain ⟨b3, H⟩ := Ev.ial rfl rfl hS.1 qa_662 qw_90 H
    have H : Ev none e 243 35 [some (.ref 633), some (.int n), some (.int c), some (.int w), some (.int j)] [.int (rI M 662 j), .int w] M v M' 0 0 := H
    have H : Ev none e 243 36 [some (.ref 633), some (.int n), some (.int c), some (.int w), some (.int j)] [.ref 633, .int (rI M 662 j), .int w] M v M' 0 0 := Ev.back 1 (fun n => rfl) H
    have H : Ev none e 243 39 [some (.ref 633), some (.int n), some (.int c), some (.int w), some (.int j)] [.ref 659, .int (rI M 662 j), .int w] M v M' 0 0 := Ev.back 1 (gs_3 rfl rfl (gf_u hS.1 qa_633 qr_61_56 qu_87 rfl)) H
    have H : Ev none e 243 47 [some (.ref 633), some (.int n), some (.int c), some (.int w), some (.int j)] [.int ((256 * j) + c), .ref 659, .int (rI M 662 j), .int w] M v M' 0 0 := Ev.back 5 (fun n => rfl) H
    obtain ⟨b4, H⟩ := Ev.ial rfl rfl hS.1 qa_659 qw_87 H
    have H : Ev none e 243 48 [some (.ref 633), some (.int n), some (.int c), some (.int w), some (.int j)] [.int (rI M 659 ((256 * j) + c)), .int (rI M 662 j), .int w] M v M' 0 0 := H
    have H : Ev none e 243 21 [some (.ref 633), some (.int n), some (.int c), some (.int (w - ((rI M 662 j) * (rI M 659 ((256 * j) + c))))), some (.int (j + 1))] [] M v M' 0 0 := Ev.back 5 (fun n => rfl) H
    have HF := H
    exact Or.inr (Or.inr (⟨h1, b3, b4, HF⟩))
theorem rdz_0 {e : Nat} {M M' : Mem} {v : Option Value} {i w : Int32} (hS : SQ M) (H : Ev none e 244 0 [some (.ref 633), some (.int i), some (.int w)] [] M v M' 0 0) : ((G_140 (wF M 633 0 0) i 0 ((zI M 633 62) - 1)) = 0 ∧ v = some (.int (-1)) ∧ M' = (wF M 633 0 0)) ∨ (¬ ((G_140 (wF M 633 0 0) i 0 ((zI M 633 62) - 1)) = 0) ∧ (G_140 (wF M 633 0 0) w 0 1) = 0 ∧ v = some (.int (-1)) ∧ M' = (wF M 633 0 0)) ∨ (¬ ((G_140 (wF M 633 0 0) i 0 ((zI M 633 62) - 1)) = 0) ∧ ¬ ((G_140 (wF M 633 0 0) w 0 1) = 0) ∧ w = 0 ∧ (0 ≤ i.toInt ∧ i.toInt < 5) ∧ v = some (.int (rI M 660 i)) ∧ M' = (wF M 633 0 0)) ∨ (¬ ((G_140 (wF M 633 0 0) i 0 ((zI M 633 62) - 1)) = 0) ∧ ¬ ((G_140 (wF M 633 0 0) w 0 1) = 0) ∧ ¬ (w = 0) ∧ (0 ≤ i.toInt ∧ i.toInt < 5) ∧ v = some (.int (rI M 661 i)) ∧ M' = (wF M 633 0 0)) := by
  have H : Ev none e 244 2 [some (.ref 633), some (.int i), some (.int w)] [.int 0, .ref 633] M v M' 0 0 := Ev.back 2 (fun n => rfl) H
  obtain ⟨N2, eN2⟩ : ∃ N, N = (wF M 633 0 0) := ⟨_, rfl⟩
  have hN2 : SQ N2 := by rw [eN2]; exact hS.kf
  have H : Ev none e 244 5 [some (.ref 633), some (.int i), some (.int w)] [] N2 v M' 0 0 := by rw [eN2]; exact Ev.pfi rfl rfl rfl hS.1 qa_633 qi_61_0 H
  have H : Ev none e 244 8 [some (.ref 633), some (.int i), some (.int w)] [.ref 633, .int 0, .int i] N2 v M' 0 0 := Ev.back 3 (fun n => rfl) H
  have H : Ev none e 244 11 [some (.ref 633), some (.int i), some (.int w)] [.int (zI N2 633 62), .int 0, .int i] N2 v M' 0 0 := Ev.back 1 (gs_3 rfl rfl (gf_i hN2.1 qa_633 qi_61_62 rfl)) H
  rw [show zI N2 633 62 = zI M 633 62 from by rw [eN2]; exact fI_wF_ne (fun q => absurd q.2 (by decide))] at H
  have H : Ev none e 244 13 [some (.ref 633), some (.int i), some (.int w)] [.int ((zI M 633 62) - 1), .int 0, .int i] N2 v M' 0 0 := Ev.back 2 (fun n => rfl) H
  obtain ⟨e1, rfl⟩ := Ev.dpos rfl rfl H
  obtain ⟨vK3, MK3, K3, H⟩ := Ev.callb (fun n => rfl) H
  obtain ⟨pK3, qK3⟩ := g_140 hN2 K3
  rw [pK3, qK3] at H
  have H : Ev none (e1 + 1) 244 16 [some (.ref 633), some (.int i), some (.int w)] [.int (G_140 N2 i 0 ((zI M 633 62) - 1))] N2 v M' 0 0 := H
  have H : Ev none (e1 + 1) 244 (if (G_140 N2 i 0 ((zI M 633 62) - 1)) = 0 then 28 else 19) [some (.ref 633), some (.int i), some (.int w)] [] N2 v M' 0 0 := Ev.back 1 (fun n => rfl) H
  by_cases h4 : (G_140 N2 i 0 ((zI M 633 62) - 1)) = 0
  · rw [if_pos h4] at H
    have H : Ev none (e1 + 1) 244 51 [some (.ref 633), some (.int i), some (.int w)] [.int (-1)] N2 v M' 0 0 := Ev.back 2 (fun n => rfl) H
    obtain ⟨z1, z2⟩ := Ev.retz rfl rfl H
    subst eN2
    exact Or.inl ⟨h4, z1, z2⟩
  · rw [if_neg h4] at H
    have H : Ev none (e1 + 1) 244 22 [some (.ref 633), some (.int i), some (.int w)] [.int 1, .int 0, .int w] N2 v M' 0 0 := Ev.back 3 (fun n => rfl) H
    obtain ⟨vK5, MK5, K5, H⟩ := Ev.callb (fun n => rfl) H
    obtain ⟨pK5, qK5⟩ := g_140 hN2 K5
    rw [pK5, qK5] at H
    have H : Ev none (e1 + 1) 244 25 [some (.ref 633), some (.int i), some (.int w)] [.int (G_140 N2 w 0 1)] N2 v M' 0 0 := H
    have H : Ev none (e1 + 1) 244 (if (G_140 N2 w 0 1) = 0 then 28 else 32) [some (.ref 633), some (.int i), some (.int w)] [] N2 v M' 0 0 := Ev.back 1 (fun n => rfl) H
    by_cases h6 : (G_140 N2 w 0 1) = 0
    · rw [if_pos h6] at H
      have H : Ev none (e1 + 1) 244 51 [some (.ref 633), some (.int i), some (.int w)] [.int (-1)] N2 v M' 0 0 := Ev.back 2 (fun n => rfl) H
      obtain ⟨z1, z2⟩ := Ev.retz rfl rfl H
      subst eN2
      exact Or.inr (Or.inl ⟨h4, h6, z1, z2⟩)
    · rw [if_neg h6] at H
      have H : Ev none (e1 + 1) 244 (if w = 0 then 36 else 45) [some (.ref 633), some (.int i), some (.int w)] [] N2 v M' 0 0 := Ev.back 2 (fun n => rfl) H
      by_cases h7 : w = 0
      · rw [if_pos h7] at H
        have H : Ev none (e1 + 1) 244 37 [some (.ref 633), some (.int i), some (.int w)] [.ref 633] N2 v M' 0 0 := Ev.back 1 (fun n => rfl) H
        have H : Ev none (e1 + 1) 244 40 [some (.ref 633), some (.int i), some (.int w)] [.ref 660] N2 v M' 0 0 := Ev.back 1 (gs_3 rfl rfl (gf_u hN2.1 qa_633 qr_61_57 qu_88 rfl)) H
        have H : Ev none (e1 + 1) 244 41 [some (.ref 633), some (.int i), some (.int w)] [.int i, .ref 660] N2 v M' 0 0 := Ev.back 1 (fun n => rfl) H
        obtain ⟨b8, H⟩ := Ev.ial rfl rfl hN2.1 qa_660 qw_88 H
        have H : Ev none (e1 + 1) 244 42 [some (.ref 633), some (.int i), some (.int w)] [.int (rI N2 660 i)] N2 v M' 0 0 := H
        rw [show rI N2 660 i = rI M 660 i from by rw [eN2]; exact rN_wF] at H
        have H : Ev none (e1 + 1) 244 51 [some (.ref 633), some (.int i), some (.int w)] [.int (rI M 660 i)] N2 v M' 0 0 := Ev.back 1 (fun n => rfl) H
        obtain ⟨z1, z2⟩ := Ev.retz rfl rfl H
        subst eN2
        exact Or.inr (Or.inr (Or.inl ⟨h4, h6, h7, b8, z1, z2⟩))
      · rw [if_neg h7] at H
        have H : Ev none (e1 + 1) 244 46 [some (.ref 633), some (.int i), some (.int w)] [.ref 633] N2 v M' 0 0 := Ev.back 1 (fun n => rfl) H
        have H : Ev none (e1 + 1) 244 49 [some (.ref 633), some (.int i), some (.int w)] [.ref 661] N2 v M' 0 0 := Ev.back 1 (gs_3 rfl rfl (gf_u hN2.1 qa_633 qr_61_58 qu_89 rfl)) H
        have H : Ev none (e1 + 1) 244 50 [some (.ref 633), some (.int i), some (.int w)] [.int i, .ref 661] N2 v M' 0 0 := Ev.back 1 (fun n => rfl) H
        obtain ⟨b9, H⟩ := Ev.ial rfl rfl hN2.1 qa_661 qw_89 H
        have H : Ev none (e1 + 1) 244 51 [some (.ref 633), some (.int i), some (.int w)] [.int (rI N2 661 i)] N2 v M' 0 0 := H
        rw [show rI N2 661 i = rI M 661 i from by rw [eN2]; exact rN_wF] at H
        obtain ⟨z1, z2⟩ := Ev.retz rfl rfl H
        subst eN2
        exact Or.inr (Or.inr (Or.inr (⟨h4, h6, h7, b9, z1, z2⟩)))
