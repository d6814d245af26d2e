/-! THE REFERENCE'S pieces, its spread: pieces (made by gref10.py) -/
theorem rpc_0 {e : Nat} {M M' : Mem} {v : Option Value} (hS : SQ M) (H : Ev none e 218 0 [some (.ref 633), none, none] [] M v M' 0 0) : Ev none e 218 7 [some (.ref 633), some (.int 0), none] [] (wF M 633 0 0) v M' 0 0 := by
  have H : Ev none e 218 2 [some (.ref 633), none, none] [.int 0, .ref 633] M v M' 0 0 := Ev.back 2 (fun n => rfl) H
  obtain ⟨N2, eN2⟩ : ∃ N, N = (wF M 633 0 0) := ⟨_, rfl⟩
  have hN2 : SQ N2 := by rw [eN2]; exact hS.kf
  have H : Ev none e 218 5 [some (.ref 633), none, none] [] N2 v M' 0 0 := by rw [eN2]; exact Ev.pfi rfl rfl rfl hS.1 qa_633 qi_61_0 H
  have H : Ev none e 218 7 [some (.ref 633), some (.int 0), none] [] N2 v M' 0 0 := Ev.back 2 (fun n => rfl) H
  have HF := H
  subst eN2
  exact HF
theorem rpc_7 {e : Nat} {M M' : Mem} {v : Option Value} {c : Int32} (hS : SQ M) (H : Ev none e 218 7 [some (.ref 633), some (.int c), none] [] M v M' 0 0) : ((G_144 M) ≤ c ∧ Ev none e 218 32 [some (.ref 633), some (.int 0), some (.int 0)] [] M v M' 0 0) ∨ (¬ ((G_144 M) ≤ c) ∧ (0 ≤ c.toInt ∧ c.toInt < 256) ∧ Ev none e 218 7 [some (.ref 633), some (.int (c + 1)), none] [] (wI M 650 c.toNatClampNeg (vp_nar .boolean 0)) v M' 0 0) := by
  have H : Ev none e 218 9 [some (.ref 633), some (.int c), none] [.ref 633, .int c] M v M' 0 0 := Ev.back 2 (fun n => rfl) H
  obtain ⟨e1, rfl⟩ := Ev.dpos rfl rfl H
  obtain ⟨vK1, MK1, K1, H⟩ := Ev.callb (fun n_ => gs_7 rfl rfl (show gCal (.invokevirtual 128) 11 (.ref 633 :: [.int c]) M = some (.inr (144, [some (.ref 633)], [.int c])) from by show @cond (Option ((List Value × Mem) ⊕ (Nat × Lo × List Value))) (true && gRecv M (.ref 633) 11 && gRoom [.int c] && true) (some (.inr (144, [some (.ref 633)], [.int c]))) none = _; rw [recv_s hS.1 qa_633 qo_61]; rfl)) H
  obtain ⟨pK1, qK1⟩ := g_144 hS K1
  rw [pK1, qK1] at H
  have H : Ev none (e1 + 1) 218 12 [some (.ref 633), some (.int c), none] [.int (G_144 M), .int c] M v M' 0 0 := H
  have H : Ev none (e1 + 1) 218 (if (G_144 M) ≤ c then 28 else 15) [some (.ref 633), some (.int c), none] [] M v M' 0 0 := Ev.back 1 (fun n => rfl) H
  by_cases h2 : (G_144 M) ≤ c
  · rw [if_pos h2] at H
    have H : Ev none (e1 + 1) 218 32 [some (.ref 633), some (.int 0), some (.int 0)] [] M v M' 0 0 := Ev.back 4 (fun n => rfl) H
    have HF := H
    exact Or.inl ⟨h2, HF⟩
  · rw [if_neg h2] at H
    have H : Ev none (e1 + 1) 218 16 [some (.ref 633), some (.int c), none] [.ref 633] M v M' 0 0 := Ev.back 1 (fun n => rfl) H
    have H : Ev none (e1 + 1) 218 19 [some (.ref 633), some (.int c), none] [.ref 650] M v M' 0 0 := Ev.back 1 (gs_3 rfl rfl (gf_u hS.1 qa_633 qr_61_43 qu_78 rfl)) H
    have H : Ev none (e1 + 1) 218 21 [some (.ref 633), some (.int c), none] [.int 0, .int c, .ref 650] M v M' 0 0 := Ev.back 2 (fun n => rfl) H
    obtain ⟨b3, H⟩ := Ev.bas3 rfl rfl hS.1 qa_650 qw_78 H
    obtain ⟨N4, eN4⟩ : ∃ N, N = (wI M 650 c.toNatClampNeg (vp_nar .boolean 0)) := ⟨_, rfl⟩
    have hN4 : SQ N4 := by rw [eN4]; exact hS.ki
    have H : Ev none (e1 + 1) 218 22 [some (.ref 633), some (.int c), none] [] N4 v M' 0 0 := by rw [eN4]; exact H
    have H : Ev none (e1 + 1) 218 7 [some (.ref 633), some (.int (c + 1)), none] [] N4 v M' 0 0 := Ev.back 2 (fun n => rfl) H
    have HF := H
    subst eN4
    exact Or.inr (⟨h2, b3, HF⟩)
theorem rpc_32 {e : Nat} {M M' : Mem} {v : Option Value} {n c : Int32} (hS : SQ M) (H : Ev none e 218 32 [some (.ref 633), some (.int n), some (.int c)] [] M v M' 0 0) : ((G_144 M) ≤ c ∧ v = some (.int n) ∧ M' = M) ∨ (¬ ((G_144 M) ≤ c) ∧ (G_150 M c) = 0 ∧ Ev none e 218 32 [some (.ref 633), some (.int n), some (.int (c + 1))] [] M v M' 0 0) ∨ (¬ ((G_144 M) ≤ c) ∧ ¬ ((G_150 M c) = 0) ∧ (rI M 650 c) = 0 ∧ (0 ≤ c.toInt ∧ c.toInt < 256) ∧ (0 ≤ c.toInt ∧ c.toInt < 256) ∧ (∃ e1 v1 M1, e = e1 + 1 ∧ Ev none e1 219 0 [some (.ref 633), none, none, none] [] (wI M 650 c.toNatClampNeg (vp_nar .boolean 1)) v1 M1 0 0 ∧ Ev none e 218 74 [some (.ref 633), some (.int (n + 1)), some (.int c)] (v1.toList ++ []) M1 v M' 0 0)) ∨ (¬ ((G_144 M) ≤ c) ∧ ¬ ((G_150 M c) = 0) ∧ ¬ ((rI M 650 c) = 0) ∧ (0 ≤ c.toInt ∧ c.toInt < 256) ∧ Ev none e 218 32 [some (.ref 633), some (.int n), some (.int (c + 1))] [] M v M' 0 0) := by
  have H : Ev none e 218 34 [some (.ref 633), some (.int n), some (.int c)] [.ref 633, .int c] M v M' 0 0 := Ev.back 2 (fun n => rfl) H
  obtain ⟨e1, rfl⟩ := Ev.dpos rfl rfl H
  obtain ⟨vK1, MK1, K1, H⟩ := Ev.callb (fun n_ => gs_7 rfl rfl (show gCal (.invokevirtual 128) 11 (.ref 633 :: [.int c]) M = some (.inr (144, [some (.ref 633)], [.int c])) from by show @cond (Option ((List Value × Mem) ⊕ (Nat × Lo × List Value))) (true && gRecv M (.ref 633) 11 && gRoom [.int c] && true) (some (.inr (144, [some (.ref 633)], [.int c]))) none = _; rw [recv_s hS.1 qa_633 qo_61]; rfl)) H
  obtain ⟨pK1, qK1⟩ := g_144 hS K1
  rw [pK1, qK1] at H
  have H : Ev none (e1 + 1) 218 37 [some (.ref 633), some (.int n), some (.int c)] [.int (G_144 M), .int c] M v M' 0 0 := H
  have H : Ev none (e1 + 1) 218 (if (G_144 M) ≤ c then 80 else 40) [some (.ref 633), some (.int n), some (.int c)] [] M v M' 0 0 := Ev.back 1 (fun n => rfl) H
  by_cases h2 : (G_144 M) ≤ c
  · rw [if_pos h2] at H
    have H : Ev none (e1 + 1) 218 81 [some (.ref 633), some (.int n), some (.int c)] [.int n] M v M' 0 0 := Ev.back 1 (fun n => rfl) H
    obtain ⟨z1, z2⟩ := Ev.retz rfl rfl H
    exact Or.inl ⟨h2, z1, z2⟩
  · rw [if_neg h2] at H
    have H : Ev none (e1 + 1) 218 42 [some (.ref 633), some (.int n), some (.int c)] [.int c, .ref 633] M v M' 0 0 := Ev.back 2 (fun n => rfl) H
    obtain ⟨vK3, MK3, K3, H⟩ := Ev.callb (fun n_ => gs_7 rfl rfl (show gCal (.invokevirtual 140) 11 (.int c :: .ref 633 :: []) M = some (.inr (150, [some (.ref 633), some (.int c)], [])) from by show @cond (Option ((List Value × Mem) ⊕ (Nat × Lo × List Value))) (true && gRecv M (.ref 633) 11 && gRoom [] && true) (some (.inr (150, [some (.ref 633), some (.int c)], []))) none = _; rw [recv_s hS.1 qa_633 qo_61]; rfl)) H
    obtain ⟨pK3, qK3⟩ := g_150 hS K3
    rw [pK3, qK3] at H
    have H : Ev none (e1 + 1) 218 45 [some (.ref 633), some (.int n), some (.int c)] [.int (G_150 M c)] M v M' 0 0 := H
    have H : Ev none (e1 + 1) 218 (if (G_150 M c) = 0 then 74 else 48) [some (.ref 633), some (.int n), some (.int c)] [] M v M' 0 0 := Ev.back 1 (fun n => rfl) H
    by_cases h4 : (G_150 M c) = 0
    · rw [if_pos h4] at H
      have H : Ev none (e1 + 1) 218 32 [some (.ref 633), some (.int n), some (.int (c + 1))] [] M v M' 0 0 := Ev.back 2 (fun n => rfl) H
      have HF := H
      exact Or.inr (Or.inl ⟨h2, h4, HF⟩)
    · rw [if_neg h4] at H
      have H : Ev none (e1 + 1) 218 49 [some (.ref 633), some (.int n), some (.int c)] [.ref 633] M v M' 0 0 := Ev.back 1 (fun n => rfl) H
      have H : Ev none (e1 + 1) 218 52 [some (.ref 633), some (.int n), some (.int c)] [.ref 650] M v M' 0 0 := Ev.back 1 (gs_3 rfl rfl (gf_u hS.1 qa_633 qr_61_43 qu_78 rfl)) H
      have H : Ev none (e1 + 1) 218 53 [some (.ref 633), some (.int n), some (.int c)] [.int c, .ref 650] M v M' 0 0 := Ev.back 1 (fun n => rfl) H
      obtain ⟨b5, H⟩ := Ev.bal rfl rfl hS.1 qa_650 qw_78 (Or.inr rfl) H
      have H : Ev none (e1 + 1) 218 54 [some (.ref 633), some (.int n), some (.int c)] [.int (rI M 650 c)] M v M' 0 0 := H
      have H : Ev none (e1 + 1) 218 (if (rI M 650 c) = 0 then 60 else 57) [some (.ref 633), some (.int n), some (.int c)] [] M v M' 0 0 := Ev.back 1 (fun n => rfl) H
      by_cases h6 : (rI M 650 c) = 0
      · rw [if_pos h6] at H
        have H : Ev none (e1 + 1) 218 61 [some (.ref 633), some (.int n), some (.int c)] [.ref 633] M v M' 0 0 := Ev.back 1 (fun n => rfl) H
        have H : Ev none (e1 + 1) 218 64 [some (.ref 633), some (.int n), some (.int c)] [.ref 650] M v M' 0 0 := Ev.back 1 (gs_3 rfl rfl (gf_u hS.1 qa_633 qr_61_43 qu_78 rfl)) H
        have H : Ev none (e1 + 1) 218 66 [some (.ref 633), some (.int n), some (.int c)] [.int 1, .int c, .ref 650] M v M' 0 0 := Ev.back 2 (fun n => rfl) H
        obtain ⟨b7, H⟩ := Ev.bas3 rfl rfl hS.1 qa_650 qw_78 H
        obtain ⟨N8, eN8⟩ : ∃ N, N = (wI M 650 c.toNatClampNeg (vp_nar .boolean 1)) := ⟨_, rfl⟩
        have hN8 : SQ N8 := by rw [eN8]; exact hS.ki
        have H : Ev none (e1 + 1) 218 67 [some (.ref 633), some (.int n), some (.int c)] [] N8 v M' 0 0 := by rw [eN8]; exact H
        have H : Ev none (e1 + 1) 218 71 [some (.ref 633), some (.int (n + 1)), some (.int c)] [.ref 633] N8 v M' 0 0 := Ev.back 2 (fun n => rfl) H
        obtain ⟨vK9, MK9, K9, H⟩ := Ev.callb (fun n_ => gs_7 rfl rfl (show gCal (.invokevirtual 442) 11 (.ref 633 :: []) N8 = some (.inr (219, [some (.ref 633), none, none, none], [])) from by show @cond (Option ((List Value × Mem) ⊕ (Nat × Lo × List Value))) (true && gRecv N8 (.ref 633) 11 && gRoom [] && true) (some (.inr (219, [some (.ref 633), none, none, none], []))) none = _; rw [recv_s hN8.1 qa_633 qo_61]; rfl)) H
        have K9 : Ev none e1 219 0 [some (.ref 633), none, none, none] [] N8 vK9 MK9 0 0 := K9
        have HF := H
        subst eN8
        exact Or.inr (Or.inr (Or.inl ⟨h2, h4, h6, b5, b7, ⟨e1, vK9, MK9, rfl, K9, HF⟩⟩))
      · rw [if_neg h6] at H
        have H : Ev none (e1 + 1) 218 32 [some (.ref 633), some (.int n), some (.int (c + 1))] [] M v M' 0 0 := Ev.back 3 (fun n => rfl) H
        have HF := H
        exact Or.inr (Or.inr (Or.inr (⟨h2, h4, h6, b5, HF⟩)))
theorem rpc_74 {e : Nat} {M M' : Mem} {v : Option Value} {n c : Int32} (hS : SQ M) (H : Ev none e 218 74 [some (.ref 633), some (.int n), some (.int c)] [] M v M' 0 0) : Ev none e 218 32 [some (.ref 633), some (.int n), some (.int (c + 1))] [] M v M' 0 0 := by
  have H : Ev none e 218 32 [some (.ref 633), some (.int n), some (.int (c + 1))] [] M v M' 0 0 := Ev.back 2 (fun n => rfl) H
  have HF := H
  exact HF
theorem rsp_0 {e : Nat} {M M' : Mem} {v : Option Value} (hS : SQ M) (H : Ev none e 219 0 [some (.ref 633), none, none, none] [] M v M' 0 0) : Ev none e 219 2 [some (.ref 633), some (.int 1), none, none] [] M v M' 0 0 := by
  have H : Ev none e 219 2 [some (.ref 633), some (.int 1), none, none] [] M v M' 0 0 := Ev.back 2 (fun n => rfl) H
  have HF := H
  exact HF
theorem rsp_2 {e : Nat} {M M' : Mem} {v : Option Value} {m : Int32} {o2 o3 : Option Value} (hS : SQ M) (H : Ev none e 219 2 [some (.ref 633), some (.int m), o2, o3] [] M v M' 0 0) : (m = 0 ∧ v = none ∧ M' = M) ∨ (¬ (m = 0) ∧ Ev none e 219 10 [some (.ref 633), some (.int 0), some (.int 0), o3] [] M v M' 0 0) := by
  have H : Ev none e 219 (if m = 0 then 136 else 6) [some (.ref 633), some (.int m), o2, o3] [] M v M' 0 0 := Ev.back 2 (fun n => rfl) H
  by_cases h1 : m = 0
  · rw [if_pos h1] at H
    obtain ⟨z1, z2⟩ := Ev.retb (fun n => rfl) H
    exact Or.inl ⟨h1, z1, z2⟩
  · rw [if_neg h1] at H
    have H : Ev none e 219 10 [some (.ref 633), some (.int 0), some (.int 0), o3] [] M v M' 0 0 := Ev.back 4 (fun n => rfl) H
    have HF := H
    exact Or.inr (⟨h1, HF⟩)
theorem rsp_10 {e : Nat} {M M' : Mem} {v : Option Value} {m c : Int32} {o3 : Option Value} (hS : SQ M) (H : Ev none e 219 10 [some (.ref 633), some (.int m), some (.int c), o3] [] M v M' 0 0) : ((G_144 M) ≤ c ∧ Ev none e 219 2 [some (.ref 633), some (.int m), some (.int c), o3] [] M v M' 0 0) ∨ (¬ ((G_144 M) ≤ c) ∧ (G_150 M c) = 0 ∧ Ev none e 219 10 [some (.ref 633), some (.int m), some (.int (c + 1)), o3] [] M v M' 0 0) ∨ (¬ ((G_144 M) ≤ c) ∧ ¬ ((G_150 M c) = 0) ∧ (rI M 650 c) = 0 ∧ (0 ≤ c.toInt ∧ c.toInt < 256) ∧ Ev none e 219 40 [some (.ref 633), some (.int m), some (.int c), some (.int 0)] [] M v M' 0 0) ∨ (¬ ((G_144 M) ≤ c) ∧ ¬ ((G_150 M c) = 0) ∧ ¬ ((rI M 650 c) = 0) ∧ (0 ≤ c.toInt ∧ c.toInt < 256) ∧ Ev none e 219 10 [some (.ref 633), some (.int m), some (.int (c + 1)), o3] [] M v M' 0 0) := by
  have H : Ev none e 219 12 [some (.ref 633), some (.int m), some (.int c), o3] [.ref 633, .int c] M v M' 0 0 := Ev.back 2 (fun n => rfl) H
  obtain ⟨e1, rfl⟩ := Ev.dpos rfl rfl H
  obtain ⟨vK1, MK1, K1, H⟩ := Ev.callb (fun n_ => gs_7 rfl rfl (show gCal (.invokevirtual 128) 11 (.ref 633 :: [.int c]) M = some (.inr (144, [some (.ref 633)], [.int c])) from by show @cond (Option ((List Value × Mem) ⊕ (Nat × Lo × List Value))) (true && gRecv M (.ref 633) 11 && gRoom [.int c] && true) (some (.inr (144, [some (.ref 633)], [.int c]))) none = _; rw [recv_s hS.1 qa_633 qo_61]; rfl)) H
  obtain ⟨pK1, qK1⟩ := g_144 hS K1
  rw [pK1, qK1] at H
  have H : Ev none (e1 + 1) 219 15 [some (.ref 633), some (.int m), some (.int c), o3] [.int (G_144 M), .int c] M v M' 0 0 := H
  have H : Ev none (e1 + 1) 219 (if (G_144 M) ≤ c then 133 else 18) [some (.ref 633), some (.int m), some (.int c), o3] [] M v M' 0 0 := Ev.back 1 (fun n => rfl) H
  by_cases h2 : (G_144 M) ≤ c
  · rw [if_pos h2] at H
    have H : Ev none (e1 + 1) 219 2 [some (.ref 633), some (.int m), some (.int c), o3] [] M v M' 0 0 := Ev.back 1 (fun n => rfl) H
    have HF := H
    exact Or.inl ⟨h2, HF⟩
  · rw [if_neg h2] at H
    have H : Ev none (e1 + 1) 219 20 [some (.ref 633), some (.int m), some (.int c), o3] [.int c, .ref 633] M v M' 0 0 := Ev.back 2 (fun n => rfl) H
    obtain ⟨vK3, MK3, K3, H⟩ := Ev.callb (fun n_ => gs_7 rfl rfl (show gCal (.invokevirtual 140) 11 (.int c :: .ref 633 :: []) M = some (.inr (150, [some (.ref 633), some (.int c)], [])) from by show @cond (Option ((List Value × Mem) ⊕ (Nat × Lo × List Value))) (true && gRecv M (.ref 633) 11 && gRoom [] && true) (some (.inr (150, [some (.ref 633), some (.int c)], []))) none = _; rw [recv_s hS.1 qa_633 qo_61]; rfl)) H
    obtain ⟨pK3, qK3⟩ := g_150 hS K3
    rw [pK3, qK3] at H
    have H : Ev none (e1 + 1) 219 23 [some (.ref 633), some (.int m), some (.int c), o3] [.int (G_150 M c)] M v M' 0 0 := H
    have H : Ev none (e1 + 1) 219 (if (G_150 M c) = 0 then 127 else 26) [some (.ref 633), some (.int m), some (.int c), o3] [] M v M' 0 0 := Ev.back 1 (fun n => rfl) H
    by_cases h4 : (G_150 M c) = 0
    · rw [if_pos h4] at H
      have H : Ev none (e1 + 1) 219 10 [some (.ref 633), some (.int m), some (.int (c + 1)), o3] [] M v M' 0 0 := Ev.back 2 (fun n => rfl) H
      have HF := H
      exact Or.inr (Or.inl ⟨h2, h4, HF⟩)
    · rw [if_neg h4] at H
      have H : Ev none (e1 + 1) 219 27 [some (.ref 633), some (.int m), some (.int c), o3] [.ref 633] M v M' 0 0 := Ev.back 1 (fun n => rfl) H
      have H : Ev none (e1 + 1) 219 30 [some (.ref 633), some (.int m), some (.int c), o3] [.ref 650] M v M' 0 0 := Ev.back 1 (gs_3 rfl rfl (gf_u hS.1 qa_633 qr_61_43 qu_78 rfl)) H
      have H : Ev none (e1 + 1) 219 31 [some (.ref 633), some (.int m), some (.int c), o3] [.int c, .ref 650] M v M' 0 0 := Ev.back 1 (fun n => rfl) H
      obtain ⟨b5, H⟩ := Ev.bal rfl rfl hS.1 qa_650 qw_78 (Or.inr rfl) H
      have H : Ev none (e1 + 1) 219 32 [some (.ref 633), some (.int m), some (.int c), o3] [.int (rI M 650 c)] M v M' 0 0 := H
      have H : Ev none (e1 + 1) 219 (if (rI M 650 c) = 0 then 38 else 35) [some (.ref 633), some (.int m), some (.int c), o3] [] M v M' 0 0 := Ev.back 1 (fun n => rfl) H
      by_cases h6 : (rI M 650 c) = 0
      · rw [if_pos h6] at H
        have H : Ev none (e1 + 1) 219 40 [some (.ref 633), some (.int m), some (.int c), some (.int 0)] [] M v M' 0 0 := Ev.back 2 (fun n => rfl) H
        have HF := H
        exact Or.inr (Or.inr (Or.inl ⟨h2, h4, h6, b5, HF⟩))
      · rw [if_neg h6] at H
        have H : Ev none (e1 + 1) 219 10 [some (.ref 633), some (.int m), some (.int (c + 1)), o3] [] M v M' 0 0 := Ev.back 3 (fun n => rfl) H
        have HF := H
        exact Or.inr (Or.inr (Or.inr (⟨h2, h4, h6, b5, HF⟩)))
theorem rsp_40 {e : Nat} {M M' : Mem} {v : Option Value} {m c d : Int32} (hS : SQ M) (H : Ev none e 219 40 [some (.ref 633), some (.int m), some (.int c), some (.int d)] [] M v M' 0 0) : (8 ≤ d ∧ m = 0 ∧ (rI M 650 c) = 0 ∧ (0 ≤ c.toInt ∧ c.toInt < 256) ∧ Ev none e 219 10 [some (.ref 633), some (.int 0), some (.int (c + 1)), some (.int d)] [] M v M' 0 0) ∨ (8 ≤ d ∧ m = 0 ∧ ¬ ((rI M 650 c) = 0) ∧ (0 ≤ c.toInt ∧ c.toInt < 256) ∧ Ev none e 219 10 [some (.ref 633), some (.int 1), some (.int (c + 1)), some (.int d)] [] M v M' 0 0) ∨ (8 ≤ d ∧ ¬ (m = 0) ∧ Ev none e 219 10 [some (.ref 633), some (.int 1), some (.int (c + 1)), some (.int d)] [] M v M' 0 0) ∨ (¬ (8 ≤ d) ∧ (rI M 650 c) = 0 ∧ (G_194 M c d) < 0 ∧ (0 ≤ c.toInt ∧ c.toInt < 256) ∧ (0 ≤ c.toInt ∧ c.toInt < 256) ∧ Ev none e 219 40 [some (.ref 633), some (.int m), some (.int c), some (.int (d + 1))] [] (wI M 650 c.toNatClampNeg (vp_nar .boolean 0)) v M' 0 0) ∨ (¬ (8 ≤ d) ∧ (rI M 650 c) = 0 ∧ ¬ ((G_194 M c d) < 0) ∧ (rI M 650 (G_194 M c d)) = 0 ∧ (0 ≤ c.toInt ∧ c.toInt < 256) ∧ (0 ≤ (G_194 M c d).toInt ∧ (G_194 M c d).toInt < 256) ∧ (0 ≤ c.toInt ∧ c.toInt < 256) ∧ Ev none e 219 40 [some (.ref 633), some (.int m), some (.int c), some (.int (d + 1))] [] (wI M 650 c.toNatClampNeg (vp_nar .boolean 0)) v M' 0 0) ∨ (¬ (8 ≤ d) ∧ (rI M 650 c) = 0 ∧ ¬ ((G_194 M c d) < 0) ∧ ¬ ((rI M 650 (G_194 M c d)) = 0) ∧ (G_150 M (G_194 M c d)) = 0 ∧ (0 ≤ c.toInt ∧ c.toInt < 256) ∧ (0 ≤ (G_194 M c d).toInt ∧ (G_194 M c d).toInt < 256) ∧ (0 ≤ c.toInt ∧ c.toInt < 256) ∧ Ev none e 219 40 [some (.ref 633), some (.int m), some (.int c), some (.int (d + 1))] [] (wI M 650 c.toNatClampNeg (vp_nar .boolean 0)) v M' 0 0) ∨ (¬ (8 ≤ d) ∧ (rI M 650 c) = 0 ∧ ¬ ((G_194 M c d) < 0) ∧ ¬ ((rI M 650 (G_194 M c d)) = 0) ∧ ¬ ((G_150 M (G_194 M c d)) = 0) ∧ (0 ≤ c.toInt ∧ c.toInt < 256) ∧ (0 ≤ (G_194 M c d).toInt ∧ (G_194 M c d).toInt < 256) ∧ (0 ≤ c.toInt ∧ c.toInt < 256) ∧ Ev none e 219 40 [some (.ref 633), some (.int m), some (.int c), some (.int (d + 1))] [] (wI M 650 c.toNatClampNeg (vp_nar .boolean 1)) v M' 0 0) ∨ (¬ (8 ≤ d) ∧ ¬ ((rI M 650 c) = 0) ∧ m = 0 ∧ (0 ≤ c.toInt ∧ c.toInt < 256) ∧ (0 ≤ c.toInt ∧ c.toInt < 256) ∧ Ev none e 219 10 [some (.ref 633), some (.int 1), some (.int (c + 1)), some (.int d)] [] M v M' 0 0) ∨ (¬ (8 ≤ d) ∧ ¬ ((rI M 650 c) = 0) ∧ ¬ (m = 0) ∧ (0 ≤ c.toInt ∧ c.toInt < 256) ∧ Ev none e 219 10 [some (.ref 633), some (.int 1), some (.int (c + 1)), some (.int d)] [] M v M' 0 0) := by
  have H : Ev none e 219 (if 8 ≤ d then 108 else 46) [some (.ref 633), some (.int m), some (.int c), some (.int d)] [] M v M' 0 0 := Ev.back 3 (fun n => rfl) H
  by_cases h1 : 8 ≤ d
  · rw [if_pos h1] at H
    have H : Ev none e 219 (if m = 0 then 112 else 121) [some (.ref 633), some (.int m), some (.int c), some (.int d)] [] M v M' 0 0 := Ev.back 2 (fun n => rfl) H
    by_cases h2 : m = 0
    · rw [if_pos h2] at H
      have H : Ev none e 219 113 [some (.ref 633), some (.int m), some (.int c), some (.int d)] [.ref 633] M v M' 0 0 := Ev.back 1 (fun n => rfl) H
      have H : Ev none e 219 116 [some (.ref 633), some (.int m), some (.int c), some (.int d)] [.ref 650] M v M' 0 0 := Ev.back 1 (gs_3 rfl rfl (gf_u hS.1 qa_633 qr_61_43 qu_78 rfl)) H
      have H : Ev none e 219 117 [some (.ref 633), some (.int m), some (.int c), some (.int d)] [.int c, .ref 650] M v M' 0 0 := Ev.back 1 (fun n => rfl) H
      obtain ⟨b3, H⟩ := Ev.bal rfl rfl hS.1 qa_650 qw_78 (Or.inr rfl) H
      have H : Ev none e 219 118 [some (.ref 633), some (.int m), some (.int c), some (.int d)] [.int (rI M 650 c)] M v M' 0 0 := H
      have H : Ev none e 219 (if (rI M 650 c) = 0 then 125 else 121) [some (.ref 633), some (.int m), some (.int c), some (.int d)] [] M v M' 0 0 := Ev.back 1 (fun n => rfl) H
      by_cases h4 : (rI M 650 c) = 0
      · rw [if_pos h4] at H
        have H : Ev none e 219 10 [some (.ref 633), some (.int 0), some (.int (c + 1)), some (.int d)] [] M v M' 0 0 := Ev.back 4 (fun n => rfl) H
        have HF := H
        exact Or.inl ⟨h1, h2, h4, b3, HF⟩
      · rw [if_neg h4] at H
        have H : Ev none e 219 10 [some (.ref 633), some (.int 1), some (.int (c + 1)), some (.int d)] [] M v M' 0 0 := Ev.back 5 (fun n => rfl) H
        have HF := H
        exact Or.inr (Or.inl ⟨h1, h2, h4, b3, HF⟩)
    · rw [if_neg h2] at H
      have H : Ev none e 219 10 [some (.ref 633), some (.int 1), some (.int (c + 1)), some (.int d)] [] M v M' 0 0 := Ev.back 5 (fun n => rfl) H
      have HF := H
      exact Or.inr (Or.inr (Or.inl ⟨h1, h2, HF⟩))
  · rw [if_neg h1] at H
    have H : Ev none e 219 47 [some (.ref 633), some (.int m), some (.int c), some (.int d)] [.ref 633] M v M' 0 0 := Ev.back 1 (fun n => rfl) H
    have H : Ev none e 219 50 [some (.ref 633), some (.int m), some (.int c), some (.int d)] [.ref 650] M v M' 0 0 := Ev.back 1 (gs_3 rfl rfl (gf_u hS.1 qa_633 qr_61_43 qu_78 rfl)) H
    have H : Ev none e 219 51 [some (.ref 633), some (.int m), some (.int c), some (.int d)] [.int c, .ref 650] M v M' 0 0 := Ev.back 1 (fun n => rfl) H
    obtain ⟨b5, H⟩ := Ev.bal rfl rfl hS.1 qa_650 qw_78 (Or.inr rfl) H
    have H : Ev none e 219 52 [some (.ref 633), some (.int m), some (.int c), some (.int d)] [.int (rI M 650 c)] M v M' 0 0 := H
    have H : Ev none e 219 (if (rI M 650 c) = 0 then 55 else 108) [some (.ref 633), some (.int m), some (.int c), some (.int d)] [] M v M' 0 0 := Ev.back 1 (fun n => rfl) H
    by_cases h6 : (rI M 650 c) = 0
    · rw [if_pos h6] at H
      have H : Ev none e 219 56 [some (.ref 633), some (.int m), some (.int c), some (.int d)] [.ref 633] M v M' 0 0 := Ev.back 1 (fun n => rfl) H
      have H : Ev none e 219 59 [some (.ref 633), some (.int m), some (.int c), some (.int d)] [.ref 650] M v M' 0 0 := Ev.back 1 (gs_3 rfl rfl (gf_u hS.1 qa_633 qr_61_43 qu_78 rfl)) H
      have H : Ev none e 219 63 [some (.ref 633), some (.int m), some (.int c), some (.int d)] [.int d, .int c, .ref 633, .int c, .ref 650] M v M' 0 0 := Ev.back 4 (fun n => rfl) H
      obtain ⟨e1, rfl⟩ := Ev.dpos rfl rfl H
      obtain ⟨vK7, MK7, K7, H⟩ := Ev.callb (fun n_ => gs_7 rfl rfl (show gCal (.invokevirtual 380) 11 (.int d :: .int c :: .ref 633 :: [.int c, .ref 650]) M = some (.inr (194, [some (.ref 633), some (.int c), some (.int d), none, none], [.int c, .ref 650])) from by show @cond (Option ((List Value × Mem) ⊕ (Nat × Lo × List Value))) (true && gRecv M (.ref 633) 11 && gRoom [.int c, .ref 650] && true) (some (.inr (194, [some (.ref 633), some (.int c), some (.int d), none, none], [.int c, .ref 650]))) none = _; rw [recv_s hS.1 qa_633 qo_61]; rfl)) H
      obtain ⟨pK7, qK7⟩ := g_194 hS K7
      rw [pK7, qK7] at H
      have H : Ev none (e1 + 1) 219 66 [some (.ref 633), some (.int m), some (.int c), some (.int d)] [.int (G_194 M c d), .int c, .ref 650] M v M' 0 0 := H
      have H : Ev none (e1 + 1) 219 (if (G_194 M c d) < 0 then 100 else 69) [some (.ref 633), some (.int m), some (.int c), some (.int d)] [.int c, .ref 650] M v M' 0 0 := Ev.back 1 (fun n => rfl) H
      by_cases h8 : (G_194 M c d) < 0
      · rw [if_pos h8] at H
        have H : Ev none (e1 + 1) 219 101 [some (.ref 633), some (.int m), some (.int c), some (.int d)] [.int 0, .int c, .ref 650] M v M' 0 0 := Ev.back 1 (fun n => rfl) H
        obtain ⟨b9, H⟩ := Ev.bas3 rfl rfl hS.1 qa_650 qw_78 H
        obtain ⟨N10, eN10⟩ : ∃ N, N = (wI M 650 c.toNatClampNeg (vp_nar .boolean 0)) := ⟨_, rfl⟩
        have hN10 : SQ N10 := by rw [eN10]; exact hS.ki
        have H : Ev none (e1 + 1) 219 102 [some (.ref 633), some (.int m), some (.int c), some (.int d)] [] N10 v M' 0 0 := by rw [eN10]; exact H
        have H : Ev none (e1 + 1) 219 40 [some (.ref 633), some (.int m), some (.int c), some (.int (d + 1))] [] N10 v M' 0 0 := Ev.back 2 (fun n => rfl) H
        have HF := H
        subst eN10
        exact Or.inr (Or.inr (Or.inr (Or.inl ⟨h1, h6, h8, b5, b9, HF⟩)))
      · rw [if_neg h8] at H
        have H : Ev none (e1 + 1) 219 70 [some (.ref 633), some (.int m), some (.int c), some (.int d)] [.ref 633, .int c, .ref 650] M v M' 0 0 := Ev.back 1 (fun n => rfl) H
        have H : Ev none (e1 + 1) 219 73 [some (.ref 633), some (.int m), some (.int c), some (.int d)] [.ref 650, .int c, .ref 650] M v M' 0 0 := Ev.back 1 (gs_3 rfl rfl (gf_u hS.1 qa_633 qr_61_43 qu_78 rfl)) H
        have H : Ev none (e1 + 1) 219 76 [some (.ref 633), some (.int m), some (.int c), some (.int d)] [.int d, .int c, .ref 633, .ref 650, .int c, .ref 650] M v M' 0 0 := Ev.back 3 (fun n => rfl) H
        obtain ⟨vK11, MK11, K11, H⟩ := Ev.callb (fun n_ => gs_7 rfl rfl (show gCal (.invokevirtual 380) 11 (.int d :: .int c :: .ref 633 :: [.ref 650, .int c, .ref 650]) M = some (.inr (194, [some (.ref 633), some (.int c), some (.int d), none, none], [.ref 650, .int c, .ref 650])) from by show @cond (Option ((List Value × Mem) ⊕ (Nat × Lo × List Value))) (true && gRecv M (.ref 633) 11 && gRoom [.ref 650, .int c, .ref 650] && true) (some (.inr (194, [some (.ref 633), some (.int c), some (.int d), none, none], [.ref 650, .int c, .ref 650]))) none = _; rw [recv_s hS.1 qa_633 qo_61]; rfl)) H
        obtain ⟨pK11, qK11⟩ := g_194 hS K11
        rw [pK11, qK11] at H
        have H : Ev none (e1 + 1) 219 79 [some (.ref 633), some (.int m), some (.int c), some (.int d)] [.int (G_194 M c d), .ref 650, .int c, .ref 650] M v M' 0 0 := H
        obtain ⟨b12, H⟩ := Ev.bal rfl rfl hS.1 qa_650 qw_78 (Or.inr rfl) H
        have H : Ev none (e1 + 1) 219 80 [some (.ref 633), some (.int m), some (.int c), some (.int d)] [.int (rI M 650 (G_194 M c d)), .int c, .ref 650] M v M' 0 0 := H
        have H : Ev none (e1 + 1) 219 (if (rI M 650 (G_194 M c d)) = 0 then 100 else 83) [some (.ref 633), some (.int m), some (.int c), some (.int d)] [.int c, .ref 650] M v M' 0 0 := Ev.back 1 (fun n => rfl) H
        by_cases h13 : (rI M 650 (G_194 M c d)) = 0
        · rw [if_pos h13] at H
          have H : Ev none (e1 + 1) 219 101 [some (.ref 633), some (.int m), some (.int c), some (.int d)] [.int 0, .int c, .ref 650] M v M' 0 0 := Ev.back 1 (fun n => rfl) H
          obtain ⟨b14, H⟩ := Ev.bas3 rfl rfl hS.1 qa_650 qw_78 H
          obtain ⟨N15, eN15⟩ : ∃ N, N = (wI M 650 c.toNatClampNeg (vp_nar .boolean 0)) := ⟨_, rfl⟩
          have hN15 : SQ N15 := by rw [eN15]; exact hS.ki
          have H : Ev none (e1 + 1) 219 102 [some (.ref 633), some (.int m), some (.int c), some (.int d)] [] N15 v M' 0 0 := by rw [eN15]; exact H
          have H : Ev none (e1 + 1) 219 40 [some (.ref 633), some (.int m), some (.int c), some (.int (d + 1))] [] N15 v M' 0 0 := Ev.back 2 (fun n => rfl) H
          have HF := H
          subst eN15
          exact Or.inr (Or.inr (Or.inr (Or.inr (Or.inl ⟨h1, h6, h8, h13, b5, b12, b14, HF⟩))))
        · rw [if_neg h13] at H
          have H : Ev none (e1 + 1) 219 87 [some (.ref 633), some (.int m), some (.int c), some (.int d)] [.int d, .int c, .ref 633, .ref 633, .int c, .ref 650] M v M' 0 0 := Ev.back 4 (fun n => rfl) H
          obtain ⟨vK16, MK16, K16, H⟩ := Ev.callb (fun n_ => gs_7 rfl rfl (show gCal (.invokevirtual 380) 11 (.int d :: .int c :: .ref 633 :: [.ref 633, .int c, .ref 650]) M = some (.inr (194, [some (.ref 633), some (.int c), some (.int d), none, none], [.ref 633, .int c, .ref 650])) from by show @cond (Option ((List Value × Mem) ⊕ (Nat × Lo × List Value))) (true && gRecv M (.ref 633) 11 && gRoom [.ref 633, .int c, .ref 650] && true) (some (.inr (194, [some (.ref 633), some (.int c), some (.int d), none, none], [.ref 633, .int c, .ref 650]))) none = _; rw [recv_s hS.1 qa_633 qo_61]; rfl)) H
          obtain ⟨pK16, qK16⟩ := g_194 hS K16
          rw [pK16, qK16] at H
          have H : Ev none (e1 + 1) 219 90 [some (.ref 633), some (.int m), some (.int c), some (.int d)] [.int (G_194 M c d), .ref 633, .int c, .ref 650] M v M' 0 0 := H
          obtain ⟨vK17, MK17, K17, H⟩ := Ev.callb (fun n_ => gs_7 rfl rfl (show gCal (.invokevirtual 140) 11 (.int (G_194 M c d) :: .ref 633 :: [.int c, .ref 650]) M = some (.inr (150, [some (.ref 633), some (.int (G_194 M c d))], [.int c, .ref 650])) from by show @cond (Option ((List Value × Mem) ⊕ (Nat × Lo × List Value))) (true && gRecv M (.ref 633) 11 && gRoom [.int c, .ref 650] && true) (some (.inr (150, [some (.ref 633), some (.int (G_194 M c d))], [.int c, .ref 650]))) none = _; rw [recv_s hS.1 qa_633 qo_61]; rfl)) H
          obtain ⟨pK17, qK17⟩ := g_150 hS K17
          rw [pK17, qK17] at H
          have H : Ev none (e1 + 1) 219 93 [some (.ref 633), some (.int m), some (.int c), some (.int d)] [.int (G_150 M (G_194 M c d)), .int c, .ref 650] M v M' 0 0 := H
          have H : Ev none (e1 + 1) 219 (if (G_150 M (G_194 M c d)) = 0 then 100 else 96) [some (.ref 633), some (.int m), some (.int c), some (.int d)] [.int c, .ref 650] M v M' 0 0 := Ev.back 1 (fun n => rfl) H
          by_cases h18 : (G_150 M (G_194 M c d)) = 0
          · rw [if_pos h18] at H
            have H : Ev none (e1 + 1) 219 101 [some (.ref 633), some (.int m), some (.int c), some (.int d)] [.int 0, .int c, .ref 650] M v M' 0 0 := Ev.back 1 (fun n => rfl) H
            obtain ⟨b19, H⟩ := Ev.bas3 rfl rfl hS.1 qa_650 qw_78 H
            obtain ⟨N20, eN20⟩ : ∃ N, N = (wI M 650 c.toNatClampNeg (vp_nar .boolean 0)) := ⟨_, rfl⟩
            have hN20 : SQ N20 := by rw [eN20]; exact hS.ki
            have H : Ev none (e1 + 1) 219 102 [some (.ref 633), some (.int m), some (.int c), some (.int d)] [] N20 v M' 0 0 := by rw [eN20]; exact H
            have H : Ev none (e1 + 1) 219 40 [some (.ref 633), some (.int m), some (.int c), some (.int (d + 1))] [] N20 v M' 0 0 := Ev.back 2 (fun n => rfl) H
            have HF := H
            subst eN20
            exact Or.inr (Or.inr (Or.inr (Or.inr (Or.inr (Or.inl ⟨h1, h6, h8, h13, h18, b5, b12, b19, HF⟩)))))
          · rw [if_neg h18] at H
            have H : Ev none (e1 + 1) 219 101 [some (.ref 633), some (.int m), some (.int c), some (.int d)] [.int 1, .int c, .ref 650] M v M' 0 0 := Ev.back 2 (fun n => rfl) H
            obtain ⟨b21, H⟩ := Ev.bas3 rfl rfl hS.1 qa_650 qw_78 H
            obtain ⟨N22, eN22⟩ : ∃ N, N = (wI M 650 c.toNatClampNeg (vp_nar .boolean 1)) := ⟨_, rfl⟩
            have hN22 : SQ N22 := by rw [eN22]; exact hS.ki
            have H : Ev none (e1 + 1) 219 102 [some (.ref 633), some (.int m), some (.int c), some (.int d)] [] N22 v M' 0 0 := by rw [eN22]; exact H
            have H : Ev none (e1 + 1) 219 40 [some (.ref 633), some (.int m), some (.int c), some (.int (d + 1))] [] N22 v M' 0 0 := Ev.back 2 (fun n => rfl) H
            have HF := H
            subst eN22
            exact Or.inr (Or.inr (Or.inr (Or.inr (Or.inr (Or.inr (Or.inl ⟨h1, h6, h8, h13, h18, b5, b12, b21, HF⟩))))))
    · rw [if_neg h6] at H
      have H : Ev none e 219 (if m = 0 then 112 else 121) [some (.ref 633), some (.int m), some (.int c), some (.int d)] [] M v M' 0 0 := Ev.back 2 (fun n => rfl) H
      by_cases h23 : m = 0
      · rw [if_pos h23] at H
        have H : Ev none e 219 113 [some (.ref 633), some (.int m), some (.int c), some (.int d)] [.ref 633] M v M' 0 0 := Ev.back 1 (fun n => rfl) H
        have H : Ev none e 219 116 [some (.ref 633), some (.int m), some (.int c), some (.int d)] [.ref 650] M v M' 0 0 := Ev.back 1 (gs_3 rfl rfl (gf_u hS.1 qa_633 qr_61_43 qu_78 rfl)) H
        have H : Ev none e 219 117 [some (.ref 633), some (.int m), some (.int c), some (.int d)] [.int c, .ref 650] M v M' 0 0 := Ev.back 1 (fun n => rfl) H
        obtain ⟨b24, H⟩ := Ev.bal rfl rfl hS.1 qa_650 qw_78 (Or.inr rfl) H
        have H : Ev none e 219 118 [some (.ref 633), some (.int m), some (.int c), some (.int d)] [.int (rI M 650 c)] M v M' 0 0 := H
        have H : Ev none e 219 (if (rI M 650 c) = 0 then 125 else 121) [some (.ref 633), some (.int m), some (.int c), some (.int d)] [] M v M' 0 0 := Ev.back 1 (fun n => rfl) H
        rw [if_neg h6] at H
        have H : Ev none e 219 10 [some (.ref 633), some (.int 1), some (.int (c + 1)), some (.int d)] [] M v M' 0 0 := Ev.back 5 (fun n => rfl) H
        have HF := H
        exact Or.inr (Or.inr (Or.inr (Or.inr (Or.inr (Or.inr (Or.inr (Or.inl ⟨h1, h6, h23, b5, b24, HF⟩)))))))
      · rw [if_neg h23] at H
        have H : Ev none e 219 10 [some (.ref 633), some (.int 1), some (.int (c + 1)), some (.int d)] [] M v M' 0 0 := Ev.back 5 (fun n => rfl) H
        have HF := H
        exact Or.inr (Or.inr (Or.inr (Or.inr (Or.inr (Or.inr (Or.inr (Or.inr (⟨h1, h6, h23, b5, HF⟩))))))))
