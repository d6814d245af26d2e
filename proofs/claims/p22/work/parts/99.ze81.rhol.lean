/-! THE REFERENCE'S walking: small ones, holds: pieces (made by gref.py) -/
noncomputable def G_141 (M : Mem) (x : Int32) : Int32 := if 0 ≤ x then x else -x
theorem g_141 {e : Nat} {M M' : Mem} {v : Option Value} {x : Int32} (hS : SQ M) (H : Ev none e 141 0 [some (.int x)] [] M v M' 0 0) : v = some (.int (G_141 M x)) ∧ M' = M := by
  unfold G_141
  have H : Ev none e 141 (if 0 ≤ x then 9 else 4) [some (.int x)] [] M v M' 0 0 := Ev.back 2 (fun n => rfl) H
  by_cases h1 : 0 ≤ x
  · rw [if_pos h1] at H
    have H : Ev none e 141 10 [some (.int x)] [.int x] M v M' 0 0 := Ev.back 1 (fun n => rfl) H
    obtain ⟨p1, p2⟩ := Ev.retz rfl rfl H
    exact ⟨by rw [if_pos h1]; exact p1, p2⟩
  · rw [if_neg h1] at H
    have H : Ev none e 141 10 [some (.int x)] [.int (-x)] M v M' 0 0 := Ev.back 3 (fun n => rfl) H
    obtain ⟨p1, p2⟩ := Ev.retz rfl rfl H
    exact ⟨by rw [if_neg h1]; exact p1, p2⟩
noncomputable def G_144 (M : Mem) : Int32 := (rI M 635 0) * (rI M 635 1)
theorem g_144 {e : Nat} {M M' : Mem} {v : Option Value} (hS : SQ M) (H : Ev none e 144 0 [some (.ref 633)] [] M v M' 0 0) : v = some (.int (G_144 M)) ∧ M' = M := by
  unfold G_144
  have H : Ev none e 144 1 [some (.ref 633)] [.ref 633] M v M' 0 0 := Ev.back 1 (fun n => rfl) H
  have H : Ev none e 144 4 [some (.ref 633)] [.ref 635] M v M' 0 0 := Ev.back 1 (gs_3 rfl rfl (gf_u hS.1 qa_633 qr_61_5 qu_63 rfl)) H
  have H : Ev none e 144 5 [some (.ref 633)] [.int 0, .ref 635] M v M' 0 0 := Ev.back 1 (fun n => rfl) H
  obtain ⟨b1, H⟩ := Ev.ial rfl rfl hS.1 qa_635 qw_63 H
  have H : Ev none e 144 6 [some (.ref 633)] [.int (rI M 635 0)] M v M' 0 0 := H
  have H : Ev none e 144 7 [some (.ref 633)] [.ref 633, .int (rI M 635 0)] M v M' 0 0 := Ev.back 1 (fun n => rfl) H
  have H : Ev none e 144 10 [some (.ref 633)] [.ref 635, .int (rI M 635 0)] M v M' 0 0 := Ev.back 1 (gs_3 rfl rfl (gf_u hS.1 qa_633 qr_61_5 qu_63 rfl)) H
  have H : Ev none e 144 11 [some (.ref 633)] [.int 1, .ref 635, .int (rI M 635 0)] M v M' 0 0 := Ev.back 1 (fun n => rfl) H
  obtain ⟨b2, H⟩ := Ev.ial rfl rfl hS.1 qa_635 qw_63 H
  have H : Ev none e 144 12 [some (.ref 633)] [.int (rI M 635 1), .int (rI M 635 0)] M v M' 0 0 := H
  have H : Ev none e 144 13 [some (.ref 633)] [.int ((rI M 635 0) * (rI M 635 1))] M v M' 0 0 := Ev.back 1 (fun n => rfl) H
  obtain ⟨p1, p2⟩ := Ev.retz rfl rfl H
  exact ⟨p1, p2⟩
noncomputable def G_146 (M : Mem) (c : Int32) (wh : Int32) : Int32 := rI M 635 ((522 + (7 * c)) + wh)
theorem g_146 {e : Nat} {M M' : Mem} {v : Option Value} {c wh : Int32} (hS : SQ M) (H : Ev none e 146 0 [some (.ref 633), some (.int c), some (.int wh)] [] M v M' 0 0) : v = some (.int (G_146 M c wh)) ∧ M' = M := by
  unfold G_146
  have H : Ev none e 146 1 [some (.ref 633), some (.int c), some (.int wh)] [.ref 633] M v M' 0 0 := Ev.back 1 (fun n => rfl) H
  have H : Ev none e 146 4 [some (.ref 633), some (.int c), some (.int wh)] [.ref 635] M v M' 0 0 := Ev.back 1 (gs_3 rfl rfl (gf_u hS.1 qa_633 qr_61_5 qu_63 rfl)) H
  have H : Ev none e 146 14 [some (.ref 633), some (.int c), some (.int wh)] [.int ((522 + (7 * c)) + wh), .ref 635] M v M' 0 0 := Ev.back 7 (fun n => rfl) H
  obtain ⟨b1, H⟩ := Ev.ial rfl rfl hS.1 qa_635 qw_63 H
  have H : Ev none e 146 15 [some (.ref 633), some (.int c), some (.int wh)] [.int (rI M 635 ((522 + (7 * c)) + wh))] M v M' 0 0 := H
  obtain ⟨p1, p2⟩ := Ev.retz rfl rfl H
  exact ⟨p1, p2⟩
noncomputable def X_147 (M : Mem) (c : Int32) (wh : Int32) (vv : Int32) : Mem := (wI M 635 (((522 + (7 * c)) + wh).toNatClampNeg) vv)
theorem g_147 {e : Nat} {M M' : Mem} {v : Option Value} {c wh vv : Int32} (hS : SQ M) (H : Ev none e 147 0 [some (.ref 633), some (.int c), some (.int wh), some (.int vv)] [] M v M' 0 0) : v = none ∧ M' = X_147 M c wh vv := by
  unfold X_147
  have H : Ev none e 147 1 [some (.ref 633), some (.int c), some (.int wh), some (.int vv)] [.ref 633] M v M' 0 0 := Ev.back 1 (fun n => rfl) H
  have H : Ev none e 147 4 [some (.ref 633), some (.int c), some (.int wh), some (.int vv)] [.ref 635] M v M' 0 0 := Ev.back 1 (gs_3 rfl rfl (gf_u hS.1 qa_633 qr_61_5 qu_63 rfl)) H
  have H : Ev none e 147 15 [some (.ref 633), some (.int c), some (.int wh), some (.int vv)] [.int vv, .int ((522 + (7 * c)) + wh), .ref 635] M v M' 0 0 := Ev.back 8 (fun n => rfl) H
  obtain ⟨b1, H⟩ := Ev.ias rfl rfl hS.1 qa_635 qw_63 H
  obtain ⟨N2, eN2⟩ : ∃ N, N = (wI M 635 (((522 + (7 * c)) + wh).toNatClampNeg) vv) := ⟨_, rfl⟩
  have hN2 : SQ N2 := by rw [eN2]; exact hS.ki
  have H : Ev none e 147 16 [some (.ref 633), some (.int c), some (.int wh), some (.int vv)] [] N2 v M' 0 0 := by rw [eN2]; exact H
  obtain ⟨p1, p2⟩ := Ev.retb (fun n => rfl) H
  subst eN2
  exact ⟨p1, p2⟩
theorem X_147_sx {M : Mem} {c wh vv : Int32} (hS : SQ M) : SQ (X_147 M c wh vv) := by
  unfold X_147
  exact hS.ki
noncomputable def G_148 (M : Mem) (c : Int32) : Int32 := if (G_146 M c 0) = 3 then 0 else (if (G_146 M c 0) = 6 then 0 else 1)
theorem g_148 {e : Nat} {M M' : Mem} {v : Option Value} {c : Int32} (hS : SQ M) (H : Ev none e 148 0 [some (.ref 633), some (.int c)] [] M v M' 0 0) : v = some (.int (G_148 M c)) ∧ M' = M := by
  unfold G_148
  have H : Ev none e 148 3 [some (.ref 633), some (.int c)] [.int 0, .int c, .ref 633] M v M' 0 0 := Ev.back 3 (fun n => rfl) H
  obtain ⟨e1, rfl⟩ := Ev.dpos rfl rfl H
  obtain ⟨vK1, MK1, K1, H⟩ := Ev.callb (fun n_ => gs_7 rfl rfl (show gCal (.invokevirtual 136) 11 (.int 0 :: .int c :: .ref 633 :: []) M = some (.inr (146, [some (.ref 633), some (.int c), some (.int 0)], [])) from by show @cond (Option ((List Value × Mem) ⊕ (Nat × Lo × List Value))) (true && gRecv M (.ref 633) 11 && gRoom [] && true) (some (.inr (146, [some (.ref 633), some (.int c), some (.int 0)], []))) none = _; rw [recv_s hS.1 qa_633 qo_61]; rfl)) H
  obtain ⟨pK1, qK1⟩ := g_146 hS K1
  rw [pK1, qK1] at H
  have H : Ev none (e1 + 1) 148 6 [some (.ref 633), some (.int c)] [.int (G_146 M c 0)] M v M' 0 0 := H
  have H : Ev none (e1 + 1) 148 (if (G_146 M c 0) = 3 then 25 else 10) [some (.ref 633), some (.int c)] [] M v M' 0 0 := Ev.back 2 (fun n => rfl) H
  by_cases h2 : (G_146 M c 0) = 3
  · rw [if_pos h2] at H
    have H : Ev none (e1 + 1) 148 26 [some (.ref 633), some (.int c)] [.int 0] M v M' 0 0 := Ev.back 1 (fun n => rfl) H
    obtain ⟨p1, p2⟩ := Ev.retz rfl rfl H
    exact ⟨by rw [if_pos h2]; exact p1, p2⟩
  · rw [if_neg h2] at H
    have H : Ev none (e1 + 1) 148 13 [some (.ref 633), some (.int c)] [.int 0, .int c, .ref 633] M v M' 0 0 := Ev.back 3 (fun n => rfl) H
    obtain ⟨vK3, MK3, K3, H⟩ := Ev.callb (fun n_ => gs_7 rfl rfl (show gCal (.invokevirtual 136) 11 (.int 0 :: .int c :: .ref 633 :: []) M = some (.inr (146, [some (.ref 633), some (.int c), some (.int 0)], [])) from by show @cond (Option ((List Value × Mem) ⊕ (Nat × Lo × List Value))) (true && gRecv M (.ref 633) 11 && gRoom [] && true) (some (.inr (146, [some (.ref 633), some (.int c), some (.int 0)], []))) none = _; rw [recv_s hS.1 qa_633 qo_61]; rfl)) H
    obtain ⟨pK3, qK3⟩ := g_146 hS K3
    rw [pK3, qK3] at H
    have H : Ev none (e1 + 1) 148 16 [some (.ref 633), some (.int c)] [.int (G_146 M c 0)] M v M' 0 0 := H
    have H : Ev none (e1 + 1) 148 (if (G_146 M c 0) = 6 then 25 else 21) [some (.ref 633), some (.int c)] [] M v M' 0 0 := Ev.back 2 (fun n => rfl) H
    by_cases h4 : (G_146 M c 0) = 6
    · rw [if_pos h4] at H
      have H : Ev none (e1 + 1) 148 26 [some (.ref 633), some (.int c)] [.int 0] M v M' 0 0 := Ev.back 1 (fun n => rfl) H
      obtain ⟨p1, p2⟩ := Ev.retz rfl rfl H
      exact ⟨by rw [if_neg h2, if_pos h4]; exact p1, p2⟩
    · rw [if_neg h4] at H
      have H : Ev none (e1 + 1) 148 26 [some (.ref 633), some (.int c)] [.int 1] M v M' 0 0 := Ev.back 2 (fun n => rfl) H
      obtain ⟨p1, p2⟩ := Ev.retz rfl rfl H
      exact ⟨by rw [if_neg h2, if_neg h4]; exact p1, p2⟩
noncomputable def G_149 (M : Mem) (c : Int32) : Int32 := if (G_146 M c 0) = 0 then 1 else (if (G_146 M c 0) = 2 then 1 else 0)
theorem g_149 {e : Nat} {M M' : Mem} {v : Option Value} {c : Int32} (hS : SQ M) (H : Ev none e 149 0 [some (.ref 633), some (.int c)] [] M v M' 0 0) : v = some (.int (G_149 M c)) ∧ M' = M := by
  unfold G_149
  have H : Ev none e 149 3 [some (.ref 633), some (.int c)] [.int 0, .int c, .ref 633] M v M' 0 0 := Ev.back 3 (fun n => rfl) H
  obtain ⟨e1, rfl⟩ := Ev.dpos rfl rfl H
  obtain ⟨vK1, MK1, K1, H⟩ := Ev.callb (fun n_ => gs_7 rfl rfl (show gCal (.invokevirtual 136) 11 (.int 0 :: .int c :: .ref 633 :: []) M = some (.inr (146, [some (.ref 633), some (.int c), some (.int 0)], [])) from by show @cond (Option ((List Value × Mem) ⊕ (Nat × Lo × List Value))) (true && gRecv M (.ref 633) 11 && gRoom [] && true) (some (.inr (146, [some (.ref 633), some (.int c), some (.int 0)], []))) none = _; rw [recv_s hS.1 qa_633 qo_61]; rfl)) H
  obtain ⟨pK1, qK1⟩ := g_146 hS K1
  rw [pK1, qK1] at H
  have H : Ev none (e1 + 1) 149 6 [some (.ref 633), some (.int c)] [.int (G_146 M c 0)] M v M' 0 0 := H
  have H : Ev none (e1 + 1) 149 (if (G_146 M c 0) = 0 then 19 else 9) [some (.ref 633), some (.int c)] [] M v M' 0 0 := Ev.back 1 (fun n => rfl) H
  by_cases h2 : (G_146 M c 0) = 0
  · rw [if_pos h2] at H
    have H : Ev none (e1 + 1) 149 24 [some (.ref 633), some (.int c)] [.int 1] M v M' 0 0 := Ev.back 2 (fun n => rfl) H
    obtain ⟨p1, p2⟩ := Ev.retz rfl rfl H
    exact ⟨by rw [if_pos h2]; exact p1, p2⟩
  · rw [if_neg h2] at H
    have H : Ev none (e1 + 1) 149 12 [some (.ref 633), some (.int c)] [.int 0, .int c, .ref 633] M v M' 0 0 := Ev.back 3 (fun n => rfl) H
    obtain ⟨vK3, MK3, K3, H⟩ := Ev.callb (fun n_ => gs_7 rfl rfl (show gCal (.invokevirtual 136) 11 (.int 0 :: .int c :: .ref 633 :: []) M = some (.inr (146, [some (.ref 633), some (.int c), some (.int 0)], [])) from by show @cond (Option ((List Value × Mem) ⊕ (Nat × Lo × List Value))) (true && gRecv M (.ref 633) 11 && gRoom [] && true) (some (.inr (146, [some (.ref 633), some (.int c), some (.int 0)], []))) none = _; rw [recv_s hS.1 qa_633 qo_61]; rfl)) H
    obtain ⟨pK3, qK3⟩ := g_146 hS K3
    rw [pK3, qK3] at H
    have H : Ev none (e1 + 1) 149 15 [some (.ref 633), some (.int c)] [.int (G_146 M c 0)] M v M' 0 0 := H
    have H : Ev none (e1 + 1) 149 (if (G_146 M c 0) = 2 then 19 else 23) [some (.ref 633), some (.int c)] [] M v M' 0 0 := Ev.back 2 (fun n => rfl) H
    by_cases h4 : (G_146 M c 0) = 2
    · rw [if_pos h4] at H
      have H : Ev none (e1 + 1) 149 24 [some (.ref 633), some (.int c)] [.int 1] M v M' 0 0 := Ev.back 2 (fun n => rfl) H
      obtain ⟨p1, p2⟩ := Ev.retz rfl rfl H
      exact ⟨by rw [if_neg h2, if_pos h4]; exact p1, p2⟩
    · rw [if_neg h4] at H
      have H : Ev none (e1 + 1) 149 24 [some (.ref 633), some (.int c)] [.int 0] M v M' 0 0 := Ev.back 1 (fun n => rfl) H
      obtain ⟨p1, p2⟩ := Ev.retz rfl rfl H
      exact ⟨by rw [if_neg h2, if_neg h4]; exact p1, p2⟩
noncomputable def G_150 (M : Mem) (c : Int32) : Int32 := if (G_146 M c 3) < (zI M 633 28) then 0 else 1
theorem g_150 {e : Nat} {M M' : Mem} {v : Option Value} {c : Int32} (hS : SQ M) (H : Ev none e 150 0 [some (.ref 633), some (.int c)] [] M v M' 0 0) : v = some (.int (G_150 M c)) ∧ M' = M := by
  unfold G_150
  have H : Ev none e 150 3 [some (.ref 633), some (.int c)] [.int 3, .int c, .ref 633] M v M' 0 0 := Ev.back 3 (fun n => rfl) H
  obtain ⟨e1, rfl⟩ := Ev.dpos rfl rfl H
  obtain ⟨vK1, MK1, K1, H⟩ := Ev.callb (fun n_ => gs_7 rfl rfl (show gCal (.invokevirtual 136) 11 (.int 3 :: .int c :: .ref 633 :: []) M = some (.inr (146, [some (.ref 633), some (.int c), some (.int 3)], [])) from by show @cond (Option ((List Value × Mem) ⊕ (Nat × Lo × List Value))) (true && gRecv M (.ref 633) 11 && gRoom [] && true) (some (.inr (146, [some (.ref 633), some (.int c), some (.int 3)], []))) none = _; rw [recv_s hS.1 qa_633 qo_61]; rfl)) H
  obtain ⟨pK1, qK1⟩ := g_146 hS K1
  rw [pK1, qK1] at H
  have H : Ev none (e1 + 1) 150 6 [some (.ref 633), some (.int c)] [.int (G_146 M c 3)] M v M' 0 0 := H
  have H : Ev none (e1 + 1) 150 7 [some (.ref 633), some (.int c)] [.ref 633, .int (G_146 M c 3)] M v M' 0 0 := Ev.back 1 (fun n => rfl) H
  have H : Ev none (e1 + 1) 150 10 [some (.ref 633), some (.int c)] [.int (zI M 633 28), .int (G_146 M c 3)] M v M' 0 0 := Ev.back 1 (gs_3 rfl rfl (gf_i hS.1 qa_633 qi_61_28 rfl)) H
  have H : Ev none (e1 + 1) 150 (if (G_146 M c 3) < (zI M 633 28) then 17 else 13) [some (.ref 633), some (.int c)] [] M v M' 0 0 := Ev.back 1 (fun n => rfl) H
  by_cases h2 : (G_146 M c 3) < (zI M 633 28)
  · rw [if_pos h2] at H
    have H : Ev none (e1 + 1) 150 18 [some (.ref 633), some (.int c)] [.int 0] M v M' 0 0 := Ev.back 1 (fun n => rfl) H
    obtain ⟨p1, p2⟩ := Ev.retz rfl rfl H
    exact ⟨by rw [if_pos h2]; exact p1, p2⟩
  · rw [if_neg h2] at H
    have H : Ev none (e1 + 1) 150 18 [some (.ref 633), some (.int c)] [.int 1] M v M' 0 0 := Ev.back 2 (fun n => rfl) H
    obtain ⟨p1, p2⟩ := Ev.retz rfl rfl H
    exact ⟨by rw [if_neg h2]; exact p1, p2⟩
noncomputable def G_151 (M : Mem) (c : Int32) : Int32 := if (G_150 M c) = 0 then 0 else (if (G_146 M c 4) < (zI M 633 29) then 0 else 1)
theorem g_151 {e : Nat} {M M' : Mem} {v : Option Value} {c : Int32} (hS : SQ M) (H : Ev none e 151 0 [some (.ref 633), some (.int c)] [] M v M' 0 0) : v = some (.int (G_151 M c)) ∧ M' = M := by
  unfold G_151
  have H : Ev none e 151 2 [some (.ref 633), some (.int c)] [.int c, .ref 633] M v M' 0 0 := Ev.back 2 (fun n => rfl) H
  obtain ⟨e1, rfl⟩ := Ev.dpos rfl rfl H
  obtain ⟨vK1, MK1, K1, H⟩ := Ev.callb (fun n_ => gs_7 rfl rfl (show gCal (.invokevirtual 140) 11 (.int c :: .ref 633 :: []) M = some (.inr (150, [some (.ref 633), some (.int c)], [])) from by show @cond (Option ((List Value × Mem) ⊕ (Nat × Lo × List Value))) (true && gRecv M (.ref 633) 11 && gRoom [] && true) (some (.inr (150, [some (.ref 633), some (.int c)], []))) none = _; rw [recv_s hS.1 qa_633 qo_61]; rfl)) H
  obtain ⟨pK1, qK1⟩ := g_150 hS K1
  rw [pK1, qK1] at H
  have H : Ev none (e1 + 1) 151 5 [some (.ref 633), some (.int c)] [.int (G_150 M c)] M v M' 0 0 := H
  have H : Ev none (e1 + 1) 151 (if (G_150 M c) = 0 then 25 else 8) [some (.ref 633), some (.int c)] [] M v M' 0 0 := Ev.back 1 (fun n => rfl) H
  by_cases h2 : (G_150 M c) = 0
  · rw [if_pos h2] at H
    have H : Ev none (e1 + 1) 151 26 [some (.ref 633), some (.int c)] [.int 0] M v M' 0 0 := Ev.back 1 (fun n => rfl) H
    obtain ⟨p1, p2⟩ := Ev.retz rfl rfl H
    exact ⟨by rw [if_pos h2]; exact p1, p2⟩
  · rw [if_neg h2] at H
    have H : Ev none (e1 + 1) 151 11 [some (.ref 633), some (.int c)] [.int 4, .int c, .ref 633] M v M' 0 0 := Ev.back 3 (fun n => rfl) H
    obtain ⟨vK3, MK3, K3, H⟩ := Ev.callb (fun n_ => gs_7 rfl rfl (show gCal (.invokevirtual 136) 11 (.int 4 :: .int c :: .ref 633 :: []) M = some (.inr (146, [some (.ref 633), some (.int c), some (.int 4)], [])) from by show @cond (Option ((List Value × Mem) ⊕ (Nat × Lo × List Value))) (true && gRecv M (.ref 633) 11 && gRoom [] && true) (some (.inr (146, [some (.ref 633), some (.int c), some (.int 4)], []))) none = _; rw [recv_s hS.1 qa_633 qo_61]; rfl)) H
    obtain ⟨pK3, qK3⟩ := g_146 hS K3
    rw [pK3, qK3] at H
    have H : Ev none (e1 + 1) 151 14 [some (.ref 633), some (.int c)] [.int (G_146 M c 4)] M v M' 0 0 := H
    have H : Ev none (e1 + 1) 151 15 [some (.ref 633), some (.int c)] [.ref 633, .int (G_146 M c 4)] M v M' 0 0 := Ev.back 1 (fun n => rfl) H
    have H : Ev none (e1 + 1) 151 18 [some (.ref 633), some (.int c)] [.int (zI M 633 29), .int (G_146 M c 4)] M v M' 0 0 := Ev.back 1 (gs_3 rfl rfl (gf_i hS.1 qa_633 qi_61_29 rfl)) H
    have H : Ev none (e1 + 1) 151 (if (G_146 M c 4) < (zI M 633 29) then 25 else 21) [some (.ref 633), some (.int c)] [] M v M' 0 0 := Ev.back 1 (fun n => rfl) H
    by_cases h4 : (G_146 M c 4) < (zI M 633 29)
    · rw [if_pos h4] at H
      have H : Ev none (e1 + 1) 151 26 [some (.ref 633), some (.int c)] [.int 0] M v M' 0 0 := Ev.back 1 (fun n => rfl) H
      obtain ⟨p1, p2⟩ := Ev.retz rfl rfl H
      exact ⟨by rw [if_neg h2, if_pos h4]; exact p1, p2⟩
    · rw [if_neg h4] at H
      have H : Ev none (e1 + 1) 151 26 [some (.ref 633), some (.int c)] [.int 1] M v M' 0 0 := Ev.back 2 (fun n => rfl) H
      obtain ⟨p1, p2⟩ := Ev.retz rfl rfl H
      exact ⟨by rw [if_neg h2, if_neg h4]; exact p1, p2⟩
noncomputable def G_192 (M : Mem) (d : Int32) : Int32 := if (d - d / 4 * 4) = 0 then 0 else (if 4 ≤ d then (-1) else 1)
theorem g_192 {e : Nat} {M M' : Mem} {v : Option Value} {d : Int32} (hS : SQ M) (H : Ev none e 192 0 [some (.int d)] [] M v M' 0 0) : v = some (.int (G_192 M d)) ∧ M' = M := by
  unfold G_192
  have H : Ev none e 192 (if (d - d / 4 * 4) = 0 then 6 else 10) [some (.int d)] [] M v M' 0 0 := Ev.back 4 (fun n => rfl) H
  by_cases h1 : (d - d / 4 * 4) = 0
  · rw [if_pos h1] at H
    have H : Ev none e 192 20 [some (.int d)] [.int 0] M v M' 0 0 := Ev.back 2 (fun n => rfl) H
    obtain ⟨p1, p2⟩ := Ev.retz rfl rfl H
    exact ⟨by rw [if_pos h1]; exact p1, p2⟩
  · rw [if_neg h1] at H
    have H : Ev none e 192 (if 4 ≤ d then 19 else 15) [some (.int d)] [] M v M' 0 0 := Ev.back 3 (fun n => rfl) H
    by_cases h2 : 4 ≤ d
    · rw [if_pos h2] at H
      have H : Ev none e 192 20 [some (.int d)] [.int (-1)] M v M' 0 0 := Ev.back 1 (fun n => rfl) H
      obtain ⟨p1, p2⟩ := Ev.retz rfl rfl H
      exact ⟨by rw [if_neg h1, if_pos h2]; exact p1, p2⟩
    · rw [if_neg h2] at H
      have H : Ev none e 192 20 [some (.int d)] [.int 1] M v M' 0 0 := Ev.back 2 (fun n => rfl) H
      obtain ⟨p1, p2⟩ := Ev.retz rfl rfl H
      exact ⟨by rw [if_neg h1, if_neg h2]; exact p1, p2⟩
noncomputable def G_193 (M : Mem) (d : Int32) : Int32 := if (d - d / 4 * 4) = 2 then 0 else (if (G_140 M d 3 5) = 0 then (-1) else 1)
theorem g_193 {e : Nat} {M M' : Mem} {v : Option Value} {d : Int32} (hS : SQ M) (H : Ev none e 193 0 [some (.int d)] [] M v M' 0 0) : v = some (.int (G_193 M d)) ∧ M' = M := by
  unfold G_193
  have H : Ev none e 193 (if (d - d / 4 * 4) = 2 then 7 else 11) [some (.int d)] [] M v M' 0 0 := Ev.back 5 (fun n => rfl) H
  by_cases h1 : (d - d / 4 * 4) = 2
  · rw [if_pos h1] at H
    have H : Ev none e 193 25 [some (.int d)] [.int 0] M v M' 0 0 := Ev.back 2 (fun n => rfl) H
    obtain ⟨p1, p2⟩ := Ev.retz rfl rfl H
    exact ⟨by rw [if_pos h1]; exact p1, p2⟩
  · rw [if_neg h1] at H
    have H : Ev none e 193 14 [some (.int d)] [.int 5, .int 3, .int d] M v M' 0 0 := Ev.back 3 (fun n => rfl) H
    obtain ⟨e1, rfl⟩ := Ev.dpos rfl rfl H
    obtain ⟨vK2, MK2, K2, H⟩ := Ev.callb (fun n => rfl) H
    obtain ⟨pK2, qK2⟩ := g_140 hS K2
    rw [pK2, qK2] at H
    have H : Ev none (e1 + 1) 193 17 [some (.int d)] [.int (G_140 M d 3 5)] M v M' 0 0 := H
    have H : Ev none (e1 + 1) 193 (if (G_140 M d 3 5) = 0 then 24 else 20) [some (.int d)] [] M v M' 0 0 := Ev.back 1 (fun n => rfl) H
    by_cases h3 : (G_140 M d 3 5) = 0
    · rw [if_pos h3] at H
      have H : Ev none (e1 + 1) 193 25 [some (.int d)] [.int (-1)] M v M' 0 0 := Ev.back 1 (fun n => rfl) H
      obtain ⟨p1, p2⟩ := Ev.retz rfl rfl H
      exact ⟨by rw [if_neg h1, if_pos h3]; exact p1, p2⟩
    · rw [if_neg h3] at H
      have H : Ev none (e1 + 1) 193 25 [some (.int d)] [.int 1] M v M' 0 0 := Ev.back 2 (fun n => rfl) H
      obtain ⟨p1, p2⟩ := Ev.retz rfl rfl H
      exact ⟨by rw [if_neg h1, if_neg h3]; exact p1, p2⟩
noncomputable def G_194 (M : Mem) (c : Int32) (d : Int32) : Int32 := if (G_140 M ((c - c / (rI M 635 0) * (rI M 635 0)) + (G_192 M d)) 0 ((rI M 635 0) - 1)) = 0 then (-1) else (if (G_140 M ((c / (rI M 635 0)) + (G_193 M d)) 0 ((rI M 635 1) - 1)) = 0 then (-1) else ((rI M 635 0) * ((c / (rI M 635 0)) + (G_193 M d))) + ((c - c / (rI M 635 0) * (rI M 635 0)) + (G_192 M d)))
theorem g_194 {e : Nat} {M M' : Mem} {v : Option Value} {c d : Int32} (hS : SQ M) (H : Ev none e 194 0 [some (.ref 633), some (.int c), some (.int d), none, none] [] M v M' 0 0) : v = some (.int (G_194 M c d)) ∧ M' = M := by
  unfold G_194
  have H : Ev none e 194 2 [some (.ref 633), some (.int c), some (.int d), none, none] [.ref 633, .int c] M v M' 0 0 := Ev.back 2 (fun n => rfl) H
  have H : Ev none e 194 5 [some (.ref 633), some (.int c), some (.int d), none, none] [.ref 635, .int c] M v M' 0 0 := Ev.back 1 (gs_3 rfl rfl (gf_u hS.1 qa_633 qr_61_5 qu_63 rfl)) H
  have H : Ev none e 194 6 [some (.ref 633), some (.int c), some (.int d), none, none] [.int 0, .ref 635, .int c] M v M' 0 0 := Ev.back 1 (fun n => rfl) H
  obtain ⟨b1, H⟩ := Ev.ial rfl rfl hS.1 qa_635 qw_63 H
  have H : Ev none e 194 7 [some (.ref 633), some (.int c), some (.int d), none, none] [.int (rI M 635 0), .int c] M v M' 0 0 := H
  obtain ⟨nz2, H⟩ := rm_i H rfl rfl
  have H : Ev none e 194 8 [some (.ref 633), some (.int c), some (.int d), none, none] [.int (c - c / (rI M 635 0) * (rI M 635 0))] M v M' 0 0 := H
  have H : Ev none e 194 9 [some (.ref 633), some (.int c), some (.int d), none, none] [.int d, .int (c - c / (rI M 635 0) * (rI M 635 0))] M v M' 0 0 := Ev.back 1 (fun n => rfl) H
  obtain ⟨e1, rfl⟩ := Ev.dpos rfl rfl H
  obtain ⟨vK3, MK3, K3, H⟩ := Ev.callb (fun n => rfl) H
  obtain ⟨pK3, qK3⟩ := g_192 hS K3
  rw [pK3, qK3] at H
  have H : Ev none (e1 + 1) 194 12 [some (.ref 633), some (.int c), some (.int d), none, none] [.int (G_192 M d), .int (c - c / (rI M 635 0) * (rI M 635 0))] M v M' 0 0 := H
  have H : Ev none (e1 + 1) 194 16 [some (.ref 633), some (.int c), some (.int d), some (.int ((c - c / (rI M 635 0) * (rI M 635 0)) + (G_192 M d))), none] [.ref 633, .int c] M v M' 0 0 := Ev.back 4 (fun n => rfl) H
  have H : Ev none (e1 + 1) 194 19 [some (.ref 633), some (.int c), some (.int d), some (.int ((c - c / (rI M 635 0) * (rI M 635 0)) + (G_192 M d))), none] [.ref 635, .int c] M v M' 0 0 := Ev.back 1 (gs_3 rfl rfl (gf_u hS.1 qa_633 qr_61_5 qu_63 rfl)) H
  have H : Ev none (e1 + 1) 194 20 [some (.ref 633), some (.int c), some (.int d), some (.int ((c - c / (rI M 635 0) * (rI M 635 0)) + (G_192 M d))), none] [.int 0, .ref 635, .int c] M v M' 0 0 := Ev.back 1 (fun n => rfl) H
  obtain ⟨b4, H⟩ := Ev.ial rfl rfl hS.1 qa_635 qw_63 H
  have H : Ev none (e1 + 1) 194 21 [some (.ref 633), some (.int c), some (.int d), some (.int ((c - c / (rI M 635 0) * (rI M 635 0)) + (G_192 M d))), none] [.int (rI M 635 0), .int c] M v M' 0 0 := H
  obtain ⟨nz5, H⟩ := dv_i H rfl rfl
  have H : Ev none (e1 + 1) 194 22 [some (.ref 633), some (.int c), some (.int d), some (.int ((c - c / (rI M 635 0) * (rI M 635 0)) + (G_192 M d))), none] [.int (c / (rI M 635 0))] M v M' 0 0 := H
  have H : Ev none (e1 + 1) 194 23 [some (.ref 633), some (.int c), some (.int d), some (.int ((c - c / (rI M 635 0) * (rI M 635 0)) + (G_192 M d))), none] [.int d, .int (c / (rI M 635 0))] M v M' 0 0 := Ev.back 1 (fun n => rfl) H
  obtain ⟨vK6, MK6, K6, H⟩ := Ev.callb (fun n => rfl) H
  obtain ⟨pK6, qK6⟩ := g_193 hS K6
  rw [pK6, qK6] at H
  have H : Ev none (e1 + 1) 194 26 [some (.ref 633), some (.int c), some (.int d), some (.int ((c - c / (rI M 635 0) * (rI M 635 0)) + (G_192 M d))), none] [.int (G_193 M d), .int (c / (rI M 635 0))] M v M' 0 0 := H
  have H : Ev none (e1 + 1) 194 32 [some (.ref 633), some (.int c), some (.int d), some (.int ((c - c / (rI M 635 0) * (rI M 635 0)) + (G_192 M d))), some (.int ((c / (rI M 635 0)) + (G_193 M d)))] [.ref 633, .int 0, .int ((c - c / (rI M 635 0) * (rI M 635 0)) + (G_192 M d))] M v M' 0 0 := Ev.back 5 (fun n => rfl) H
  have H : Ev none (e1 + 1) 194 35 [some (.ref 633), some (.int c), some (.int d), some (.int ((c - c / (rI M 635 0) * (rI M 635 0)) + (G_192 M d))), some (.int ((c / (rI M 635 0)) + (G_193 M d)))] [.ref 635, .int 0, .int ((c - c / (rI M 635 0) * (rI M 635 0)) + (G_192 M d))] M v M' 0 0 := Ev.back 1 (gs_3 rfl rfl (gf_u hS.1 qa_633 qr_61_5 qu_63 rfl)) H
  have H : Ev none (e1 + 1) 194 36 [some (.ref 633), some (.int c), some (.int d), some (.int ((c - c / (rI M 635 0) * (rI M 635 0)) + (G_192 M d))), some (.int ((c / (rI M 635 0)) + (G_193 M d)))] [.int 0, .ref 635, .int 0, .int ((c - c / (rI M 635 0) * (rI M 635 0)) + (G_192 M d))] M v M' 0 0 := Ev.back 1 (fun n => rfl) H
  obtain ⟨b7, H⟩ := Ev.ial rfl rfl hS.1 qa_635 qw_63 H
  have H : Ev none (e1 + 1) 194 37 [some (.ref 633), some (.int c), some (.int d), some (.int ((c - c / (rI M 635 0) * (rI M 635 0)) + (G_192 M d))), some (.int ((c / (rI M 635 0)) + (G_193 M d)))] [.int (rI M 635 0), .int 0, .int ((c - c / (rI M 635 0) * (rI M 635 0)) + (G_192 M d))] M v M' 0 0 := H
  have H : Ev none (e1 + 1) 194 39 [some (.ref 633), some (.int c), some (.int d), some (.int ((c - c / (rI M 635 0) * (rI M 635 0)) + (G_192 M d))), some (.int ((c / (rI M 635 0)) + (G_193 M d)))] [.int ((rI M 635 0) - 1), .int 0, .int ((c - c / (rI M 635 0) * (rI M 635 0)) + (G_192 M d))] M v M' 0 0 := Ev.back 2 (fun n => rfl) H
  obtain ⟨vK8, MK8, K8, H⟩ := Ev.callb (fun n => rfl) H
  obtain ⟨pK8, qK8⟩ := g_140 hS K8
  rw [pK8, qK8] at H
  have H : Ev none (e1 + 1) 194 42 [some (.ref 633), some (.int c), some (.int d), some (.int ((c - c / (rI M 635 0) * (rI M 635 0)) + (G_192 M d))), some (.int ((c / (rI M 635 0)) + (G_193 M d)))] [.int (G_140 M ((c - c / (rI M 635 0) * (rI M 635 0)) + (G_192 M d)) 0 ((rI M 635 0) - 1))] M v M' 0 0 := H
  have H : Ev none (e1 + 1) 194 (if (G_140 M ((c - c / (rI M 635 0) * (rI M 635 0)) + (G_192 M d)) 0 ((rI M 635 0) - 1)) = 0 then 76 else 45) [some (.ref 633), some (.int c), some (.int d), some (.int ((c - c / (rI M 635 0) * (rI M 635 0)) + (G_192 M d))), some (.int ((c / (rI M 635 0)) + (G_193 M d)))] [] M v M' 0 0 := Ev.back 1 (fun n => rfl) H
  by_cases h9 : (G_140 M ((c - c / (rI M 635 0) * (rI M 635 0)) + (G_192 M d)) 0 ((rI M 635 0) - 1)) = 0
  · rw [if_pos h9] at H
    have H : Ev none (e1 + 1) 194 77 [some (.ref 633), some (.int c), some (.int d), some (.int ((c - c / (rI M 635 0) * (rI M 635 0)) + (G_192 M d))), some (.int ((c / (rI M 635 0)) + (G_193 M d)))] [.int (-1)] M v M' 0 0 := Ev.back 1 (fun n => rfl) H
    obtain ⟨p1, p2⟩ := Ev.retz rfl rfl H
    exact ⟨by rw [if_pos h9]; exact p1, p2⟩
  · rw [if_neg h9] at H
    have H : Ev none (e1 + 1) 194 49 [some (.ref 633), some (.int c), some (.int d), some (.int ((c - c / (rI M 635 0) * (rI M 635 0)) + (G_192 M d))), some (.int ((c / (rI M 635 0)) + (G_193 M d)))] [.ref 633, .int 0, .int ((c / (rI M 635 0)) + (G_193 M d))] M v M' 0 0 := Ev.back 3 (fun n => rfl) H
    have H : Ev none (e1 + 1) 194 52 [some (.ref 633), some (.int c), some (.int d), some (.int ((c - c / (rI M 635 0) * (rI M 635 0)) + (G_192 M d))), some (.int ((c / (rI M 635 0)) + (G_193 M d)))] [.ref 635, .int 0, .int ((c / (rI M 635 0)) + (G_193 M d))] M v M' 0 0 := Ev.back 1 (gs_3 rfl rfl (gf_u hS.1 qa_633 qr_61_5 qu_63 rfl)) H
    have H : Ev none (e1 + 1) 194 53 [some (.ref 633), some (.int c), some (.int d), some (.int ((c - c / (rI M 635 0) * (rI M 635 0)) + (G_192 M d))), some (.int ((c / (rI M 635 0)) + (G_193 M d)))] [.int 1, .ref 635, .int 0, .int ((c / (rI M 635 0)) + (G_193 M d))] M v M' 0 0 := Ev.back 1 (fun n => rfl) H
    obtain ⟨b10, H⟩ := Ev.ial rfl rfl hS.1 qa_635 qw_63 H
    have H : Ev none (e1 + 1) 194 54 [some (.ref 633), some (.int c), some (.int d), some (.int ((c - c / (rI M 635 0) * (rI M 635 0)) + (G_192 M d))), some (.int ((c / (rI M 635 0)) + (G_193 M d)))] [.int (rI M 635 1), .int 0, .int ((c / (rI M 635 0)) + (G_193 M d))] M v M' 0 0 := H
    have H : Ev none (e1 + 1) 194 56 [some (.ref 633), some (.int c), some (.int d), some (.int ((c - c / (rI M 635 0) * (rI M 635 0)) + (G_192 M d))), some (.int ((c / (rI M 635 0)) + (G_193 M d)))] [.int ((rI M 635 1) - 1), .int 0, .int ((c / (rI M 635 0)) + (G_193 M d))] M v M' 0 0 := Ev.back 2 (fun n => rfl) H
    obtain ⟨vK11, MK11, K11, H⟩ := Ev.callb (fun n => rfl) H
    obtain ⟨pK11, qK11⟩ := g_140 hS K11
    rw [pK11, qK11] at H
    have H : Ev none (e1 + 1) 194 59 [some (.ref 633), some (.int c), some (.int d), some (.int ((c - c / (rI M 635 0) * (rI M 635 0)) + (G_192 M d))), some (.int ((c / (rI M 635 0)) + (G_193 M d)))] [.int (G_140 M ((c / (rI M 635 0)) + (G_193 M d)) 0 ((rI M 635 1) - 1))] M v M' 0 0 := H
    have H : Ev none (e1 + 1) 194 (if (G_140 M ((c / (rI M 635 0)) + (G_193 M d)) 0 ((rI M 635 1) - 1)) = 0 then 76 else 62) [some (.ref 633), some (.int c), some (.int d), some (.int ((c - c / (rI M 635 0) * (rI M 635 0)) + (G_192 M d))), some (.int ((c / (rI M 635 0)) + (G_193 M d)))] [] M v M' 0 0 := Ev.back 1 (fun n => rfl) H
    by_cases h12 : (G_140 M ((c / (rI M 635 0)) + (G_193 M d)) 0 ((rI M 635 1) - 1)) = 0
    · rw [if_pos h12] at H
      have H : Ev none (e1 + 1) 194 77 [some (.ref 633), some (.int c), some (.int d), some (.int ((c - c / (rI M 635 0) * (rI M 635 0)) + (G_192 M d))), some (.int ((c / (rI M 635 0)) + (G_193 M d)))] [.int (-1)] M v M' 0 0 := Ev.back 1 (fun n => rfl) H
      obtain ⟨p1, p2⟩ := Ev.retz rfl rfl H
      exact ⟨by rw [if_neg h9, if_pos h12]; exact p1, p2⟩
    · rw [if_neg h12] at H
      have H : Ev none (e1 + 1) 194 63 [some (.ref 633), some (.int c), some (.int d), some (.int ((c - c / (rI M 635 0) * (rI M 635 0)) + (G_192 M d))), some (.int ((c / (rI M 635 0)) + (G_193 M d)))] [.ref 633] M v M' 0 0 := Ev.back 1 (fun n => rfl) H
      have H : Ev none (e1 + 1) 194 66 [some (.ref 633), some (.int c), some (.int d), some (.int ((c - c / (rI M 635 0) * (rI M 635 0)) + (G_192 M d))), some (.int ((c / (rI M 635 0)) + (G_193 M d)))] [.ref 635] M v M' 0 0 := Ev.back 1 (gs_3 rfl rfl (gf_u hS.1 qa_633 qr_61_5 qu_63 rfl)) H
      have H : Ev none (e1 + 1) 194 67 [some (.ref 633), some (.int c), some (.int d), some (.int ((c - c / (rI M 635 0) * (rI M 635 0)) + (G_192 M d))), some (.int ((c / (rI M 635 0)) + (G_193 M d)))] [.int 0, .ref 635] M v M' 0 0 := Ev.back 1 (fun n => rfl) H
      obtain ⟨b13, H⟩ := Ev.ial rfl rfl hS.1 qa_635 qw_63 H
      have H : Ev none (e1 + 1) 194 68 [some (.ref 633), some (.int c), some (.int d), some (.int ((c - c / (rI M 635 0) * (rI M 635 0)) + (G_192 M d))), some (.int ((c / (rI M 635 0)) + (G_193 M d)))] [.int (rI M 635 0)] M v M' 0 0 := H
      have H : Ev none (e1 + 1) 194 77 [some (.ref 633), some (.int c), some (.int d), some (.int ((c - c / (rI M 635 0) * (rI M 635 0)) + (G_192 M d))), some (.int ((c / (rI M 635 0)) + (G_193 M d)))] [.int (((rI M 635 0) * ((c / (rI M 635 0)) + (G_193 M d))) + ((c - c / (rI M 635 0) * (rI M 635 0)) + (G_192 M d)))] M v M' 0 0 := Ev.back 5 (fun n => rfl) H
      obtain ⟨p1, p2⟩ := Ev.retz rfl rfl H
      exact ⟨by rw [if_neg h9, if_neg h12]; exact p1, p2⟩
noncomputable def G_195 (M : Mem) (x : Int32) (y : Int32) : Int32 := G_141 M ((x - x / (rI M 635 0) * (rI M 635 0)) - (y - y / (rI M 635 0) * (rI M 635 0)))
theorem g_195 {e : Nat} {M M' : Mem} {v : Option Value} {x y : Int32} (hS : SQ M) (H : Ev none e 195 0 [some (.ref 633), some (.int x), some (.int y)] [] M v M' 0 0) : v = some (.int (G_195 M x y)) ∧ M' = M := by
  unfold G_195
  have H : Ev none e 195 2 [some (.ref 633), some (.int x), some (.int y)] [.ref 633, .int x] M v M' 0 0 := Ev.back 2 (fun n => rfl) H
  have H : Ev none e 195 5 [some (.ref 633), some (.int x), some (.int y)] [.ref 635, .int x] M v M' 0 0 := Ev.back 1 (gs_3 rfl rfl (gf_u hS.1 qa_633 qr_61_5 qu_63 rfl)) H
  have H : Ev none e 195 6 [some (.ref 633), some (.int x), some (.int y)] [.int 0, .ref 635, .int x] M v M' 0 0 := Ev.back 1 (fun n => rfl) H
  obtain ⟨b1, H⟩ := Ev.ial rfl rfl hS.1 qa_635 qw_63 H
  have H : Ev none e 195 7 [some (.ref 633), some (.int x), some (.int y)] [.int (rI M 635 0), .int x] M v M' 0 0 := H
  obtain ⟨nz2, H⟩ := rm_i H rfl rfl
  have H : Ev none e 195 8 [some (.ref 633), some (.int x), some (.int y)] [.int (x - x / (rI M 635 0) * (rI M 635 0))] M v M' 0 0 := H
  have H : Ev none e 195 10 [some (.ref 633), some (.int x), some (.int y)] [.ref 633, .int y, .int (x - x / (rI M 635 0) * (rI M 635 0))] M v M' 0 0 := Ev.back 2 (fun n => rfl) H
  have H : Ev none e 195 13 [some (.ref 633), some (.int x), some (.int y)] [.ref 635, .int y, .int (x - x / (rI M 635 0) * (rI M 635 0))] M v M' 0 0 := Ev.back 1 (gs_3 rfl rfl (gf_u hS.1 qa_633 qr_61_5 qu_63 rfl)) H
  have H : Ev none e 195 14 [some (.ref 633), some (.int x), some (.int y)] [.int 0, .ref 635, .int y, .int (x - x / (rI M 635 0) * (rI M 635 0))] M v M' 0 0 := Ev.back 1 (fun n => rfl) H
  obtain ⟨b3, H⟩ := Ev.ial rfl rfl hS.1 qa_635 qw_63 H
  have H : Ev none e 195 15 [some (.ref 633), some (.int x), some (.int y)] [.int (rI M 635 0), .int y, .int (x - x / (rI M 635 0) * (rI M 635 0))] M v M' 0 0 := H
  obtain ⟨nz4, H⟩ := rm_i H rfl rfl
  have H : Ev none e 195 16 [some (.ref 633), some (.int x), some (.int y)] [.int (y - y / (rI M 635 0) * (rI M 635 0)), .int (x - x / (rI M 635 0) * (rI M 635 0))] M v M' 0 0 := H
  have H : Ev none e 195 17 [some (.ref 633), some (.int x), some (.int y)] [.int ((x - x / (rI M 635 0) * (rI M 635 0)) - (y - y / (rI M 635 0) * (rI M 635 0)))] M v M' 0 0 := Ev.back 1 (fun n => rfl) H
  obtain ⟨e1, rfl⟩ := Ev.dpos rfl rfl H
  obtain ⟨vK5, MK5, K5, H⟩ := Ev.callb (fun n => rfl) H
  obtain ⟨pK5, qK5⟩ := g_141 hS K5
  rw [pK5, qK5] at H
  have H : Ev none (e1 + 1) 195 20 [some (.ref 633), some (.int x), some (.int y)] [.int (G_141 M ((x - x / (rI M 635 0) * (rI M 635 0)) - (y - y / (rI M 635 0) * (rI M 635 0))))] M v M' 0 0 := H
  obtain ⟨p1, p2⟩ := Ev.retz rfl rfl H
  exact ⟨p1, p2⟩
noncomputable def G_196 (M : Mem) (x : Int32) (y : Int32) : Int32 := G_141 M ((x / (rI M 635 0)) - (y / (rI M 635 0)))
theorem g_196 {e : Nat} {M M' : Mem} {v : Option Value} {x y : Int32} (hS : SQ M) (H : Ev none e 196 0 [some (.ref 633), some (.int x), some (.int y)] [] M v M' 0 0) : v = some (.int (G_196 M x y)) ∧ M' = M := by
  unfold G_196
  have H : Ev none e 196 2 [some (.ref 633), some (.int x), some (.int y)] [.ref 633, .int x] M v M' 0 0 := Ev.back 2 (fun n => rfl) H
  have H : Ev none e 196 5 [some (.ref 633), some (.int x), some (.int y)] [.ref 635, .int x] M v M' 0 0 := Ev.back 1 (gs_3 rfl rfl (gf_u hS.1 qa_633 qr_61_5 qu_63 rfl)) H
  have H : Ev none e 196 6 [some (.ref 633), some (.int x), some (.int y)] [.int 0, .ref 635, .int x] M v M' 0 0 := Ev.back 1 (fun n => rfl) H
  obtain ⟨b1, H⟩ := Ev.ial rfl rfl hS.1 qa_635 qw_63 H
  have H : Ev none e 196 7 [some (.ref 633), some (.int x), some (.int y)] [.int (rI M 635 0), .int x] M v M' 0 0 := H
  obtain ⟨nz2, H⟩ := dv_i H rfl rfl
  have H : Ev none e 196 8 [some (.ref 633), some (.int x), some (.int y)] [.int (x / (rI M 635 0))] M v M' 0 0 := H
  have H : Ev none e 196 10 [some (.ref 633), some (.int x), some (.int y)] [.ref 633, .int y, .int (x / (rI M 635 0))] M v M' 0 0 := Ev.back 2 (fun n => rfl) H
  have H : Ev none e 196 13 [some (.ref 633), some (.int x), some (.int y)] [.ref 635, .int y, .int (x / (rI M 635 0))] M v M' 0 0 := Ev.back 1 (gs_3 rfl rfl (gf_u hS.1 qa_633 qr_61_5 qu_63 rfl)) H
  have H : Ev none e 196 14 [some (.ref 633), some (.int x), some (.int y)] [.int 0, .ref 635, .int y, .int (x / (rI M 635 0))] M v M' 0 0 := Ev.back 1 (fun n => rfl) H
  obtain ⟨b3, H⟩ := Ev.ial rfl rfl hS.1 qa_635 qw_63 H
  have H : Ev none e 196 15 [some (.ref 633), some (.int x), some (.int y)] [.int (rI M 635 0), .int y, .int (x / (rI M 635 0))] M v M' 0 0 := H
  obtain ⟨nz4, H⟩ := dv_i H rfl rfl
  have H : Ev none e 196 16 [some (.ref 633), some (.int x), some (.int y)] [.int (y / (rI M 635 0)), .int (x / (rI M 635 0))] M v M' 0 0 := H
  have H : Ev none e 196 17 [some (.ref 633), some (.int x), some (.int y)] [.int ((x / (rI M 635 0)) - (y / (rI M 635 0)))] M v M' 0 0 := Ev.back 1 (fun n => rfl) H
  obtain ⟨e1, rfl⟩ := Ev.dpos rfl rfl H
  obtain ⟨vK5, MK5, K5, H⟩ := Ev.callb (fun n => rfl) H
  obtain ⟨pK5, qK5⟩ := g_141 hS K5
  rw [pK5, qK5] at H
  have H : Ev none (e1 + 1) 196 20 [some (.ref 633), some (.int x), some (.int y)] [.int (G_141 M ((x / (rI M 635 0)) - (y / (rI M 635 0))))] M v M' 0 0 := H
  obtain ⟨p1, p2⟩ := Ev.retz rfl rfl H
  exact ⟨p1, p2⟩
theorem ris0_0 {e : Nat} {M M' : Mem} {v : Option Value} {c : Int32} (hS : SQ M) (H : Ev none e 186 0 [some (.ref 633), some (.int c), some (.int 0)] [] M v M' 0 0) : ((G_146 M c 0) = 0 ∧ v = some (.int 1) ∧ M' = M) ∨ (¬ ((G_146 M c 0) = 0) ∧ v = some (.int 0) ∧ M' = M) := by
  have H : Ev none e 186 47 [some (.ref 633), some (.int c), some (.int 0)] [.int 0, .int c, .ref 633] M v M' 0 0 := Ev.back 5 (fun n => rfl) H
  obtain ⟨e1, rfl⟩ := Ev.dpos rfl rfl H
  obtain ⟨vK1, MK1, K1, H⟩ := Ev.callb (fun n_ => gs_7 rfl rfl (show gCal (.invokevirtual 136) 11 (.int 0 :: .int c :: .ref 633 :: []) M = some (.inr (146, [some (.ref 633), some (.int c), some (.int 0)], [])) from by show @cond (Option ((List Value × Mem) ⊕ (Nat × Lo × List Value))) (true && gRecv M (.ref 633) 11 && gRoom [] && true) (some (.inr (146, [some (.ref 633), some (.int c), some (.int 0)], []))) none = _; rw [recv_s hS.1 qa_633 qo_61]; rfl)) H
  obtain ⟨pK1, qK1⟩ := g_146 hS K1
  rw [pK1, qK1] at H
  have H : Ev none (e1 + 1) 186 50 [some (.ref 633), some (.int c), some (.int 0)] [.int (G_146 M c 0)] M v M' 0 0 := H
  have H : Ev none (e1 + 1) 186 (if (G_146 M c 0) = 0 then 53 else 57) [some (.ref 633), some (.int c), some (.int 0)] [] M v M' 0 0 := Ev.back 1 (fun n => rfl) H
  by_cases h2 : (G_146 M c 0) = 0
  · rw [if_pos h2] at H
    have H : Ev none (e1 + 1) 186 58 [some (.ref 633), some (.int c), some (.int 0)] [.int 1] M v M' 0 0 := Ev.back 2 (fun n => rfl) H
    obtain ⟨z1, z2⟩ := Ev.retz rfl rfl H
    exact Or.inl ⟨h2, z1, z2⟩
  · rw [if_neg h2] at H
    have H : Ev none (e1 + 1) 186 58 [some (.ref 633), some (.int c), some (.int 0)] [.int 0] M v M' 0 0 := Ev.back 1 (fun n => rfl) H
    obtain ⟨z1, z2⟩ := Ev.retz rfl rfl H
    exact Or.inr (⟨h2, z1, z2⟩)
theorem ris1_0 {e : Nat} {M M' : Mem} {v : Option Value} {c : Int32} (hS : SQ M) (H : Ev none e 186 0 [some (.ref 633), some (.int c), some (.int 1)] [] M v M' 0 0) : ((G_146 M c 0) = 1 ∧ v = some (.int 1) ∧ M' = M) ∨ (¬ ((G_146 M c 0) = 1) ∧ v = some (.int 0) ∧ M' = M) := by
  have H : Ev none e 186 62 [some (.ref 633), some (.int c), some (.int 1)] [.int 0, .int c, .ref 633] M v M' 0 0 := Ev.back 5 (fun n => rfl) H
  obtain ⟨e1, rfl⟩ := Ev.dpos rfl rfl H
  obtain ⟨vK1, MK1, K1, H⟩ := Ev.callb (fun n_ => gs_7 rfl rfl (show gCal (.invokevirtual 136) 11 (.int 0 :: .int c :: .ref 633 :: []) M = some (.inr (146, [some (.ref 633), some (.int c), some (.int 0)], [])) from by show @cond (Option ((List Value × Mem) ⊕ (Nat × Lo × List Value))) (true && gRecv M (.ref 633) 11 && gRoom [] && true) (some (.inr (146, [some (.ref 633), some (.int c), some (.int 0)], []))) none = _; rw [recv_s hS.1 qa_633 qo_61]; rfl)) H
  obtain ⟨pK1, qK1⟩ := g_146 hS K1
  rw [pK1, qK1] at H
  have H : Ev none (e1 + 1) 186 65 [some (.ref 633), some (.int c), some (.int 1)] [.int (G_146 M c 0)] M v M' 0 0 := H
  have H : Ev none (e1 + 1) 186 (if (G_146 M c 0) = 1 then 69 else 73) [some (.ref 633), some (.int c), some (.int 1)] [] M v M' 0 0 := Ev.back 2 (fun n => rfl) H
  by_cases h2 : (G_146 M c 0) = 1
  · rw [if_pos h2] at H
    have H : Ev none (e1 + 1) 186 74 [some (.ref 633), some (.int c), some (.int 1)] [.int 1] M v M' 0 0 := Ev.back 2 (fun n => rfl) H
    obtain ⟨z1, z2⟩ := Ev.retz rfl rfl H
    exact Or.inl ⟨h2, z1, z2⟩
  · rw [if_neg h2] at H
    have H : Ev none (e1 + 1) 186 74 [some (.ref 633), some (.int c), some (.int 1)] [.int 0] M v M' 0 0 := Ev.back 1 (fun n => rfl) H
    obtain ⟨z1, z2⟩ := Ev.retz rfl rfl H
    exact Or.inr (⟨h2, z1, z2⟩)
theorem ris2_0 {e : Nat} {M M' : Mem} {v : Option Value} {c : Int32} (hS : SQ M) (H : Ev none e 186 0 [some (.ref 633), some (.int c), some (.int 2)] [] M v M' 0 0) : ((G_146 M c 0) = 2 ∧ v = some (.int 1) ∧ M' = M) ∨ (¬ ((G_146 M c 0) = 2) ∧ v = some (.int 0) ∧ M' = M) := by
  have H : Ev none e 186 78 [some (.ref 633), some (.int c), some (.int 2)] [.int 0, .int c, .ref 633] M v M' 0 0 := Ev.back 5 (fun n => rfl) H
  obtain ⟨e1, rfl⟩ := Ev.dpos rfl rfl H
  obtain ⟨vK1, MK1, K1, H⟩ := Ev.callb (fun n_ => gs_7 rfl rfl (show gCal (.invokevirtual 136) 11 (.int 0 :: .int c :: .ref 633 :: []) M = some (.inr (146, [some (.ref 633), some (.int c), some (.int 0)], [])) from by show @cond (Option ((List Value × Mem) ⊕ (Nat × Lo × List Value))) (true && gRecv M (.ref 633) 11 && gRoom [] && true) (some (.inr (146, [some (.ref 633), some (.int c), some (.int 0)], []))) none = _; rw [recv_s hS.1 qa_633 qo_61]; rfl)) H
  obtain ⟨pK1, qK1⟩ := g_146 hS K1
  rw [pK1, qK1] at H
  have H : Ev none (e1 + 1) 186 81 [some (.ref 633), some (.int c), some (.int 2)] [.int (G_146 M c 0)] M v M' 0 0 := H
  have H : Ev none (e1 + 1) 186 (if (G_146 M c 0) = 2 then 85 else 89) [some (.ref 633), some (.int c), some (.int 2)] [] M v M' 0 0 := Ev.back 2 (fun n => rfl) H
  by_cases h2 : (G_146 M c 0) = 2
  · rw [if_pos h2] at H
    have H : Ev none (e1 + 1) 186 90 [some (.ref 633), some (.int c), some (.int 2)] [.int 1] M v M' 0 0 := Ev.back 2 (fun n => rfl) H
    obtain ⟨z1, z2⟩ := Ev.retz rfl rfl H
    exact Or.inl ⟨h2, z1, z2⟩
  · rw [if_neg h2] at H
    have H : Ev none (e1 + 1) 186 90 [some (.ref 633), some (.int c), some (.int 2)] [.int 0] M v M' 0 0 := Ev.back 1 (fun n => rfl) H
    obtain ⟨z1, z2⟩ := Ev.retz rfl rfl H
    exact Or.inr (⟨h2, z1, z2⟩)
theorem ris3_0 {e : Nat} {M M' : Mem} {v : Option Value} {c : Int32} (hS : SQ M) (H : Ev none e 186 0 [some (.ref 633), some (.int c), some (.int 3)] [] M v M' 0 0) : ((G_146 M c 0) = 4 ∧ v = some (.int 1) ∧ M' = M) ∨ (¬ ((G_146 M c 0) = 4) ∧ v = some (.int 0) ∧ M' = M) := by
  have H : Ev none e 186 94 [some (.ref 633), some (.int c), some (.int 3)] [.int 0, .int c, .ref 633] M v M' 0 0 := Ev.back 5 (fun n => rfl) H
  obtain ⟨e1, rfl⟩ := Ev.dpos rfl rfl H
  obtain ⟨vK1, MK1, K1, H⟩ := Ev.callb (fun n_ => gs_7 rfl rfl (show gCal (.invokevirtual 136) 11 (.int 0 :: .int c :: .ref 633 :: []) M = some (.inr (146, [some (.ref 633), some (.int c), some (.int 0)], [])) from by show @cond (Option ((List Value × Mem) ⊕ (Nat × Lo × List Value))) (true && gRecv M (.ref 633) 11 && gRoom [] && true) (some (.inr (146, [some (.ref 633), some (.int c), some (.int 0)], []))) none = _; rw [recv_s hS.1 qa_633 qo_61]; rfl)) H
  obtain ⟨pK1, qK1⟩ := g_146 hS K1
  rw [pK1, qK1] at H
  have H : Ev none (e1 + 1) 186 97 [some (.ref 633), some (.int c), some (.int 3)] [.int (G_146 M c 0)] M v M' 0 0 := H
  have H : Ev none (e1 + 1) 186 (if (G_146 M c 0) = 4 then 101 else 105) [some (.ref 633), some (.int c), some (.int 3)] [] M v M' 0 0 := Ev.back 2 (fun n => rfl) H
  by_cases h2 : (G_146 M c 0) = 4
  · rw [if_pos h2] at H
    have H : Ev none (e1 + 1) 186 106 [some (.ref 633), some (.int c), some (.int 3)] [.int 1] M v M' 0 0 := Ev.back 2 (fun n => rfl) H
    obtain ⟨z1, z2⟩ := Ev.retz rfl rfl H
    exact Or.inl ⟨h2, z1, z2⟩
  · rw [if_neg h2] at H
    have H : Ev none (e1 + 1) 186 106 [some (.ref 633), some (.int c), some (.int 3)] [.int 0] M v M' 0 0 := Ev.back 1 (fun n => rfl) H
    obtain ⟨z1, z2⟩ := Ev.retz rfl rfl H
    exact Or.inr (⟨h2, z1, z2⟩)
theorem ris4_0 {e : Nat} {M M' : Mem} {v : Option Value} {c : Int32} (hS : SQ M) (H : Ev none e 186 0 [some (.ref 633), some (.int c), some (.int 4)] [] M v M' 0 0) : ((G_146 M c 0) = 5 ∧ v = some (.int 1) ∧ M' = M) ∨ (¬ ((G_146 M c 0) = 5) ∧ v = some (.int 0) ∧ M' = M) := by
  have H : Ev none e 186 110 [some (.ref 633), some (.int c), some (.int 4)] [.int 0, .int c, .ref 633] M v M' 0 0 := Ev.back 5 (fun n => rfl) H
  obtain ⟨e1, rfl⟩ := Ev.dpos rfl rfl H
  obtain ⟨vK1, MK1, K1, H⟩ := Ev.callb (fun n_ => gs_7 rfl rfl (show gCal (.invokevirtual 136) 11 (.int 0 :: .int c :: .ref 633 :: []) M = some (.inr (146, [some (.ref 633), some (.int c), some (.int 0)], [])) from by show @cond (Option ((List Value × Mem) ⊕ (Nat × Lo × List Value))) (true && gRecv M (.ref 633) 11 && gRoom [] && true) (some (.inr (146, [some (.ref 633), some (.int c), some (.int 0)], []))) none = _; rw [recv_s hS.1 qa_633 qo_61]; rfl)) H
  obtain ⟨pK1, qK1⟩ := g_146 hS K1
  rw [pK1, qK1] at H
  have H : Ev none (e1 + 1) 186 113 [some (.ref 633), some (.int c), some (.int 4)] [.int (G_146 M c 0)] M v M' 0 0 := H
  have H : Ev none (e1 + 1) 186 (if (G_146 M c 0) = 5 then 117 else 121) [some (.ref 633), some (.int c), some (.int 4)] [] M v M' 0 0 := Ev.back 2 (fun n => rfl) H
  by_cases h2 : (G_146 M c 0) = 5
  · rw [if_pos h2] at H
    have H : Ev none (e1 + 1) 186 122 [some (.ref 633), some (.int c), some (.int 4)] [.int 1] M v M' 0 0 := Ev.back 2 (fun n => rfl) H
    obtain ⟨z1, z2⟩ := Ev.retz rfl rfl H
    exact Or.inl ⟨h2, z1, z2⟩
  · rw [if_neg h2] at H
    have H : Ev none (e1 + 1) 186 122 [some (.ref 633), some (.int c), some (.int 4)] [.int 0] M v M' 0 0 := Ev.back 1 (fun n => rfl) H
    obtain ⟨z1, z2⟩ := Ev.retz rfl rfl H
    exact Or.inr (⟨h2, z1, z2⟩)
theorem ris5_0 {e : Nat} {M M' : Mem} {v : Option Value} {c : Int32} (hS : SQ M) (H : Ev none e 186 0 [some (.ref 633), some (.int c), some (.int 5)] [] M v M' 0 0) : ((G_146 M c 1) = 1 ∧ v = some (.int 1) ∧ M' = M) ∨ (¬ ((G_146 M c 1) = 1) ∧ v = some (.int 0) ∧ M' = M) := by
  have H : Ev none e 186 126 [some (.ref 633), some (.int c), some (.int 5)] [.int 1, .int c, .ref 633] M v M' 0 0 := Ev.back 5 (fun n => rfl) H
  obtain ⟨e1, rfl⟩ := Ev.dpos rfl rfl H
  obtain ⟨vK1, MK1, K1, H⟩ := Ev.callb (fun n_ => gs_7 rfl rfl (show gCal (.invokevirtual 136) 11 (.int 1 :: .int c :: .ref 633 :: []) M = some (.inr (146, [some (.ref 633), some (.int c), some (.int 1)], [])) from by show @cond (Option ((List Value × Mem) ⊕ (Nat × Lo × List Value))) (true && gRecv M (.ref 633) 11 && gRoom [] && true) (some (.inr (146, [some (.ref 633), some (.int c), some (.int 1)], []))) none = _; rw [recv_s hS.1 qa_633 qo_61]; rfl)) H
  obtain ⟨pK1, qK1⟩ := g_146 hS K1
  rw [pK1, qK1] at H
  have H : Ev none (e1 + 1) 186 129 [some (.ref 633), some (.int c), some (.int 5)] [.int (G_146 M c 1)] M v M' 0 0 := H
  have H : Ev none (e1 + 1) 186 (if (G_146 M c 1) = 1 then 133 else 137) [some (.ref 633), some (.int c), some (.int 5)] [] M v M' 0 0 := Ev.back 2 (fun n => rfl) H
  by_cases h2 : (G_146 M c 1) = 1
  · rw [if_pos h2] at H
    have H : Ev none (e1 + 1) 186 138 [some (.ref 633), some (.int c), some (.int 5)] [.int 1] M v M' 0 0 := Ev.back 2 (fun n => rfl) H
    obtain ⟨z1, z2⟩ := Ev.retz rfl rfl H
    exact Or.inl ⟨h2, z1, z2⟩
  · rw [if_neg h2] at H
    have H : Ev none (e1 + 1) 186 138 [some (.ref 633), some (.int c), some (.int 5)] [.int 0] M v M' 0 0 := Ev.back 1 (fun n => rfl) H
    obtain ⟨z1, z2⟩ := Ev.retz rfl rfl H
    exact Or.inr (⟨h2, z1, z2⟩)
theorem ris6_0 {e : Nat} {M M' : Mem} {v : Option Value} {c : Int32} (hS : SQ M) (H : Ev none e 186 0 [some (.ref 633), some (.int c), some (.int 6)] [] M v M' 0 0) : v = some (.int (G_151 M c)) ∧ M' = M := by
  have H : Ev none e 186 141 [some (.ref 633), some (.int c), some (.int 6)] [.int c, .ref 633] M v M' 0 0 := Ev.back 4 (fun n => rfl) H
  obtain ⟨e1, rfl⟩ := Ev.dpos rfl rfl H
  obtain ⟨vK1, MK1, K1, H⟩ := Ev.callb (fun n_ => gs_7 rfl rfl (show gCal (.invokevirtual 331) 11 (.int c :: .ref 633 :: []) M = some (.inr (151, [some (.ref 633), some (.int c)], [])) from by show @cond (Option ((List Value × Mem) ⊕ (Nat × Lo × List Value))) (true && gRecv M (.ref 633) 11 && gRoom [] && true) (some (.inr (151, [some (.ref 633), some (.int c)], []))) none = _; rw [recv_s hS.1 qa_633 qo_61]; rfl)) H
  obtain ⟨pK1, qK1⟩ := g_151 hS K1
  rw [pK1, qK1] at H
  have H : Ev none (e1 + 1) 186 144 [some (.ref 633), some (.int c), some (.int 6)] [.int (G_151 M c)] M v M' 0 0 := H
  obtain ⟨z1, z2⟩ := Ev.retz rfl rfl H
  exact ⟨z1, z2⟩
theorem ris7_0 {e : Nat} {M M' : Mem} {v : Option Value} {c : Int32} (hS : SQ M) (H : Ev none e 186 0 [some (.ref 633), some (.int c), some (.int 7)] [] M v M' 0 0) : v = some (.int (G_150 M c)) ∧ M' = M := by
  have H : Ev none e 186 147 [some (.ref 633), some (.int c), some (.int 7)] [.int c, .ref 633] M v M' 0 0 := Ev.back 4 (fun n => rfl) H
  obtain ⟨e1, rfl⟩ := Ev.dpos rfl rfl H
  obtain ⟨vK1, MK1, K1, H⟩ := Ev.callb (fun n_ => gs_7 rfl rfl (show gCal (.invokevirtual 140) 11 (.int c :: .ref 633 :: []) M = some (.inr (150, [some (.ref 633), some (.int c)], [])) from by show @cond (Option ((List Value × Mem) ⊕ (Nat × Lo × List Value))) (true && gRecv M (.ref 633) 11 && gRoom [] && true) (some (.inr (150, [some (.ref 633), some (.int c)], []))) none = _; rw [recv_s hS.1 qa_633 qo_61]; rfl)) H
  obtain ⟨pK1, qK1⟩ := g_150 hS K1
  rw [pK1, qK1] at H
  have H : Ev none (e1 + 1) 186 150 [some (.ref 633), some (.int c), some (.int 7)] [.int (G_150 M c)] M v M' 0 0 := H
  obtain ⟨z1, z2⟩ := Ev.retz rfl rfl H
  exact ⟨z1, z2⟩
theorem rho_0 {e : Nat} {M M' : Mem} {v : Option Value} {x c : Int32} (hS : SQ M) (H : Ev none e 187 0 [some (.ref 633), some (.int x), some (.int c), none, none, none, none, none] [] M v M' 0 0) : ((rI M 643 x) = (rI M 644 x) ∧ (0 ≤ x.toInt ∧ x.toInt < 128) ∧ (0 ≤ x.toInt ∧ x.toInt < 128) ∧ v = some (.int 1) ∧ M' = M) ∨ (¬ ((rI M 643 x) = (rI M 644 x)) ∧ (0 ≤ x.toInt ∧ x.toInt < 128) ∧ (0 ≤ x.toInt ∧ x.toInt < 128) ∧ (0 ≤ x.toInt ∧ x.toInt < 128) ∧ Ev none e 187 39 [some (.ref 633), some (.int x), some (.int c), some (.int (x / 16)), some (.int 0), some (.int ((200 * (x / 16)) + (rI M 643 x))), none, none] [] M v M' 0 0) := by
  have H : Ev none e 187 6 [some (.ref 633), some (.int x), some (.int c), some (.int (x / 16)), none, none, none, none] [.ref 633] M v M' 0 0 := Ev.back 5 (fun n => rfl) H
  have H : Ev none e 187 9 [some (.ref 633), some (.int x), some (.int c), some (.int (x / 16)), none, none, none, none] [.ref 643] M v M' 0 0 := Ev.back 1 (gs_3 rfl rfl (gf_u hS.1 qa_633 qr_61_13 qu_71 rfl)) H
  have H : Ev none e 187 10 [some (.ref 633), some (.int x), some (.int c), some (.int (x / 16)), none, none, none, none] [.int x, .ref 643] M v M' 0 0 := Ev.back 1 (fun n => rfl) H
  obtain ⟨b1, H⟩ := Ev.ial rfl rfl hS.1 qa_643 qw_71 H
  have H : Ev none e 187 11 [some (.ref 633), some (.int x), some (.int c), some (.int (x / 16)), none, none, none, none] [.int (rI M 643 x)] M v M' 0 0 := H
  have H : Ev none e 187 12 [some (.ref 633), some (.int x), some (.int c), some (.int (x / 16)), none, none, none, none] [.ref 633, .int (rI M 643 x)] M v M' 0 0 := Ev.back 1 (fun n => rfl) H
  have H : Ev none e 187 15 [some (.ref 633), some (.int x), some (.int c), some (.int (x / 16)), none, none, none, none] [.ref 644, .int (rI M 643 x)] M v M' 0 0 := Ev.back 1 (gs_3 rfl rfl (gf_u hS.1 qa_633 qr_61_14 qu_72 rfl)) H
  have H : Ev none e 187 16 [some (.ref 633), some (.int x), some (.int c), some (.int (x / 16)), none, none, none, none] [.int x, .ref 644, .int (rI M 643 x)] M v M' 0 0 := Ev.back 1 (fun n => rfl) H
  obtain ⟨b2, H⟩ := Ev.ial rfl rfl hS.1 qa_644 qw_72 H
  have H : Ev none e 187 17 [some (.ref 633), some (.int x), some (.int c), some (.int (x / 16)), none, none, none, none] [.int (rI M 644 x), .int (rI M 643 x)] M v M' 0 0 := H
  have H : Ev none e 187 (if (rI M 643 x) = (rI M 644 x) then 20 else 22) [some (.ref 633), some (.int x), some (.int c), some (.int (x / 16)), none, none, none, none] [] M v M' 0 0 := Ev.back 1 (fun n => rfl) H
  by_cases h3 : (rI M 643 x) = (rI M 644 x)
  · rw [if_pos h3] at H
    have H : Ev none e 187 21 [some (.ref 633), some (.int x), some (.int c), some (.int (x / 16)), none, none, none, none] [.int 1] M v M' 0 0 := Ev.back 1 (fun n => rfl) H
    obtain ⟨z1, z2⟩ := Ev.retz rfl rfl H
    exact Or.inl ⟨h3, b1, b2, z1, z2⟩
  · rw [if_neg h3] at H
    have H : Ev none e 187 31 [some (.ref 633), some (.int x), some (.int c), some (.int (x / 16)), some (.int 0), none, none, none] [.ref 633, .int (200 * (x / 16))] M v M' 0 0 := Ev.back 6 (fun n => rfl) H
    have H : Ev none e 187 34 [some (.ref 633), some (.int x), some (.int c), some (.int (x / 16)), some (.int 0), none, none, none] [.ref 643, .int (200 * (x / 16))] M v M' 0 0 := Ev.back 1 (gs_3 rfl rfl (gf_u hS.1 qa_633 qr_61_13 qu_71 rfl)) H
    have H : Ev none e 187 35 [some (.ref 633), some (.int x), some (.int c), some (.int (x / 16)), some (.int 0), none, none, none] [.int x, .ref 643, .int (200 * (x / 16))] M v M' 0 0 := Ev.back 1 (fun n => rfl) H
    obtain ⟨b4, H⟩ := Ev.ial rfl rfl hS.1 qa_643 qw_71 H
    have H : Ev none e 187 36 [some (.ref 633), some (.int x), some (.int c), some (.int (x / 16)), some (.int 0), none, none, none] [.int (rI M 643 x), .int (200 * (x / 16))] M v M' 0 0 := H
    have H : Ev none e 187 39 [some (.ref 633), some (.int x), some (.int c), some (.int (x / 16)), some (.int 0), some (.int ((200 * (x / 16)) + (rI M 643 x))), none, none] [] M v M' 0 0 := Ev.back 2 (fun n => rfl) H
    have HF := H
    exact Or.inr (⟨h3, b1, b2, b4, HF⟩)
theorem rho_39 {e : Nat} {M M' : Mem} {v : Option Value} {x c tx sn kk : Int32} {c6 c7 : Option Value} (hS : SQ M) (H : Ev none e 187 39 [some (.ref 633), some (.int x), some (.int c), some (.int tx), some (.int sn), some (.int kk), c6, c7] [] M v M' 0 0) : (((200 * tx) + (rI M 644 x)) ≤ kk ∧ (0 ≤ x.toInt ∧ x.toInt < 128) ∧ (0 ≤ (0 : Int32).toInt ∧ (0 : Int32).toInt < 60) ∧ v = some (.int (rI M 649 0)) ∧ M' = M) ∨ (¬ (((200 * tx) + (rI M 644 x)) ≤ kk) ∧ (0 ≤ x.toInt ∧ x.toInt < 128) ∧ (0 ≤ kk.toInt ∧ kk.toInt < 1600) ∧ Ev none e 187 65 [some (.ref 633), some (.int x), some (.int c), some (.int tx), some (.int sn), some (.int kk), some (.int (rI M 645 kk)), c7] [] M v M' 0 0) := by
  have H : Ev none e 187 47 [some (.ref 633), some (.int x), some (.int c), some (.int tx), some (.int sn), some (.int kk), c6, c7] [.ref 633, .int (200 * tx), .int kk] M v M' 0 0 := Ev.back 5 (fun n => rfl) H
  have H : Ev none e 187 50 [some (.ref 633), some (.int x), some (.int c), some (.int tx), some (.int sn), some (.int kk), c6, c7] [.ref 644, .int (200 * tx), .int kk] M v M' 0 0 := Ev.back 1 (gs_3 rfl rfl (gf_u hS.1 qa_633 qr_61_14 qu_72 rfl)) H
  have H : Ev none e 187 51 [some (.ref 633), some (.int x), some (.int c), some (.int tx), some (.int sn), some (.int kk), c6, c7] [.int x, .ref 644, .int (200 * tx), .int kk] M v M' 0 0 := Ev.back 1 (fun n => rfl) H
  obtain ⟨b1, H⟩ := Ev.ial rfl rfl hS.1 qa_644 qw_72 H
  have H : Ev none e 187 52 [some (.ref 633), some (.int x), some (.int c), some (.int tx), some (.int sn), some (.int kk), c6, c7] [.int (rI M 644 x), .int (200 * tx), .int kk] M v M' 0 0 := H
  have H : Ev none e 187 (if ((200 * tx) + (rI M 644 x)) ≤ kk then 360 else 56) [some (.ref 633), some (.int x), some (.int c), some (.int tx), some (.int sn), some (.int kk), c6, c7] [] M v M' 0 0 := Ev.back 2 (fun n => rfl) H
  by_cases h2 : ((200 * tx) + (rI M 644 x)) ≤ kk
  · rw [if_pos h2] at H
    have H : Ev none e 187 361 [some (.ref 633), some (.int x), some (.int c), some (.int tx), some (.int sn), some (.int kk), c6, c7] [.ref 633] M v M' 0 0 := Ev.back 1 (fun n => rfl) H
    have H : Ev none e 187 364 [some (.ref 633), some (.int x), some (.int c), some (.int tx), some (.int sn), some (.int kk), c6, c7] [.ref 649] M v M' 0 0 := Ev.back 1 (gs_3 rfl rfl (gf_u hS.1 qa_633 qr_61_33 qu_77 rfl)) H
    have H : Ev none e 187 365 [some (.ref 633), some (.int x), some (.int c), some (.int tx), some (.int sn), some (.int kk), c6, c7] [.int 0, .ref 649] M v M' 0 0 := Ev.back 1 (fun n => rfl) H
    obtain ⟨b3, H⟩ := Ev.bal rfl rfl hS.1 qa_649 qw_77 (Or.inr rfl) H
    have H : Ev none e 187 366 [some (.ref 633), some (.int x), some (.int c), some (.int tx), some (.int sn), some (.int kk), c6, c7] [.int (rI M 649 0)] M v M' 0 0 := H
    obtain ⟨z1, z2⟩ := Ev.retz rfl rfl H
    exact Or.inl ⟨h2, b1, b3, z1, z2⟩
  · rw [if_neg h2] at H
    have H : Ev none e 187 57 [some (.ref 633), some (.int x), some (.int c), some (.int tx), some (.int sn), some (.int kk), c6, c7] [.ref 633] M v M' 0 0 := Ev.back 1 (fun n => rfl) H
    have H : Ev none e 187 60 [some (.ref 633), some (.int x), some (.int c), some (.int tx), some (.int sn), some (.int kk), c6, c7] [.ref 645] M v M' 0 0 := Ev.back 1 (gs_3 rfl rfl (gf_u hS.1 qa_633 qr_61_15 qu_73 rfl)) H
    have H : Ev none e 187 62 [some (.ref 633), some (.int x), some (.int c), some (.int tx), some (.int sn), some (.int kk), c6, c7] [.int kk, .ref 645] M v M' 0 0 := Ev.back 1 (fun n => rfl) H
    obtain ⟨b4, H⟩ := Ev.ial rfl rfl hS.1 qa_645 qw_73 H
    have H : Ev none e 187 63 [some (.ref 633), some (.int x), some (.int c), some (.int tx), some (.int sn), some (.int kk), c6, c7] [.int (rI M 645 kk)] M v M' 0 0 := H
    have H : Ev none e 187 65 [some (.ref 633), some (.int x), some (.int c), some (.int tx), some (.int sn), some (.int kk), some (.int (rI M 645 kk)), c7] [] M v M' 0 0 := Ev.back 1 (fun n => rfl) H
    have HF := H
    exact Or.inr (⟨h2, b1, b4, HF⟩)
theorem rho_65 {e : Nat} {M M' : Mem} {v : Option Value} {x c tx sn kk wh : Int32} {c7 : Option Value} (hS : SQ M) (H : Ev none e 187 65 [some (.ref 633), some (.int x), some (.int c), some (.int tx), some (.int sn), some (.int kk), some (.int wh), c7] [] M v M' 0 0) : (wh = 20 ∧ (rI M 649 (sn - 1)) = 0 ∧ (0 ≤ (sn - 1).toInt ∧ (sn - 1).toInt < 60) ∧ (0 ≤ (sn - 1).toInt ∧ (sn - 1).toInt < 60) ∧ Ev none e 187 39 [some (.ref 633), some (.int x), some (.int c), some (.int tx), some (.int sn), some (.int (kk + 1)), some (.int wh), c7] [] (wI M 649 ((sn - 1).toNatClampNeg) (vp_nar .boolean 1)) v M' 0 0) ∨ (wh = 20 ∧ ¬ ((rI M 649 (sn - 1)) = 0) ∧ (0 ≤ (sn - 1).toInt ∧ (sn - 1).toInt < 60) ∧ (0 ≤ (sn - 1).toInt ∧ (sn - 1).toInt < 60) ∧ Ev none e 187 39 [some (.ref 633), some (.int x), some (.int c), some (.int tx), some (.int sn), some (.int (kk + 1)), some (.int wh), c7] [] (wI M 649 ((sn - 1).toNatClampNeg) (vp_nar .boolean 0)) v M' 0 0) ∨ (¬ (wh = 20) ∧ wh = 21 ∧ Ev none e 187 118 [some (.ref 633), some (.int x), some (.int c), some (.int tx), some (.int (sn + Int32.ofInt (-1))), some (.int kk), some (.int wh), c7] [] M v M' 0 0) ∨ (¬ (wh = 20) ∧ ¬ (wh = 21) ∧ wh = 22 ∧ Ev none e 187 118 [some (.ref 633), some (.int x), some (.int c), some (.int tx), some (.int (sn + Int32.ofInt (-1))), some (.int kk), some (.int wh), c7] [] M v M' 0 0) ∨ (¬ (wh = 20) ∧ ¬ (wh = 21) ∧ ¬ (wh = 22) ∧ 8 ≤ wh ∧ wh = 8 ∧ Ev none e 187 246 [some (.ref 633), some (.int x), some (.int c), some (.int tx), some (.int sn), some (.int kk), some (.int wh), some (.int (G_146 M c 3))] [] M v M' 0 0) ∨ (¬ (wh = 20) ∧ ¬ (wh = 21) ∧ ¬ (wh = 22) ∧ 8 ≤ wh ∧ ¬ (wh = 8) ∧ wh = 9 ∧ Ev none e 187 246 [some (.ref 633), some (.int x), some (.int c), some (.int tx), some (.int sn), some (.int kk), some (.int wh), some (.int (G_146 M c 4))] [] M v M' 0 0) ∨ (¬ (wh = 20) ∧ ¬ (wh = 21) ∧ ¬ (wh = 22) ∧ 8 ≤ wh ∧ ¬ (wh = 8) ∧ ¬ (wh = 9) ∧ wh = 10 ∧ Ev none e 187 246 [some (.ref 633), some (.int x), some (.int c), some (.int tx), some (.int sn), some (.int kk), some (.int wh), some (.int (G_146 M c 2))] [] M v M' 0 0) ∨ (¬ (wh = 20) ∧ ¬ (wh = 21) ∧ ¬ (wh = 22) ∧ 8 ≤ wh ∧ ¬ (wh = 8) ∧ ¬ (wh = 9) ∧ ¬ (wh = 10) ∧ Ev none e 187 246 [some (.ref 633), some (.int x), some (.int c), some (.int tx), some (.int sn), some (.int kk), some (.int wh), some (.int (G_146 M c 5))] [] M v M' 0 0) ∨ (¬ (wh = 20) ∧ ¬ (wh = 21) ∧ ¬ (wh = 22) ∧ ¬ (8 ≤ wh) ∧ Ev none e 187 246 [some (.ref 633), some (.int x), some (.int c), some (.int tx), some (.int sn), some (.int kk), some (.int wh), some (.int 0)] [] M v M' 0 0) := by
  have H : Ev none e 187 (if wh = 20 then 72 else 101) [some (.ref 633), some (.int x), some (.int c), some (.int tx), some (.int sn), some (.int kk), some (.int wh), c7] [] M v M' 0 0 := Ev.back 3 (fun n => rfl) H
  by_cases h1 : wh = 20
  · rw [if_pos h1] at H
    have H : Ev none e 187 73 [some (.ref 633), some (.int x), some (.int c), some (.int tx), some (.int sn), some (.int kk), some (.int wh), c7] [.ref 633] M v M' 0 0 := Ev.back 1 (fun n => rfl) H
    have H : Ev none e 187 76 [some (.ref 633), some (.int x), some (.int c), some (.int tx), some (.int sn), some (.int kk), some (.int wh), c7] [.ref 649] M v M' 0 0 := Ev.back 1 (gs_3 rfl rfl (gf_u hS.1 qa_633 qr_61_33 qu_77 rfl)) H
    have H : Ev none e 187 81 [some (.ref 633), some (.int x), some (.int c), some (.int tx), some (.int sn), some (.int kk), some (.int wh), c7] [.ref 633, .int (sn - 1), .ref 649] M v M' 0 0 := Ev.back 4 (fun n => rfl) H
    have H : Ev none e 187 84 [some (.ref 633), some (.int x), some (.int c), some (.int tx), some (.int sn), some (.int kk), some (.int wh), c7] [.ref 649, .int (sn - 1), .ref 649] M v M' 0 0 := Ev.back 1 (gs_3 rfl rfl (gf_u hS.1 qa_633 qr_61_33 qu_77 rfl)) H
    have H : Ev none e 187 88 [some (.ref 633), some (.int x), some (.int c), some (.int tx), some (.int sn), some (.int kk), some (.int wh), c7] [.int (sn - 1), .ref 649, .int (sn - 1), .ref 649] M v M' 0 0 := Ev.back 3 (fun n => rfl) H
    obtain ⟨b2, H⟩ := Ev.bal rfl rfl hS.1 qa_649 qw_77 (Or.inr rfl) H
    have H : Ev none e 187 89 [some (.ref 633), some (.int x), some (.int c), some (.int tx), some (.int sn), some (.int kk), some (.int wh), c7] [.int (rI M 649 (sn - 1)), .int (sn - 1), .ref 649] M v M' 0 0 := H
    have H : Ev none e 187 (if (rI M 649 (sn - 1)) = 0 then 92 else 96) [some (.ref 633), some (.int x), some (.int c), some (.int tx), some (.int sn), some (.int kk), some (.int wh), c7] [.int (sn - 1), .ref 649] M v M' 0 0 := Ev.back 1 (fun n => rfl) H
    by_cases h3 : (rI M 649 (sn - 1)) = 0
    · rw [if_pos h3] at H
      have H : Ev none e 187 97 [some (.ref 633), some (.int x), some (.int c), some (.int tx), some (.int sn), some (.int kk), some (.int wh), c7] [.int 1, .int (sn - 1), .ref 649] M v M' 0 0 := Ev.back 2 (fun n => rfl) H
      obtain ⟨b4, H⟩ := Ev.bas3 rfl rfl hS.1 qa_649 qw_77 H
      obtain ⟨N5, eN5⟩ : ∃ N, N = (wI M 649 ((sn - 1).toNatClampNeg) (vp_nar .boolean 1)) := ⟨_, rfl⟩
      have hN5 : SQ N5 := by rw [eN5]; exact hS.ki
      have H : Ev none e 187 98 [some (.ref 633), some (.int x), some (.int c), some (.int tx), some (.int sn), some (.int kk), some (.int wh), c7] [] N5 v M' 0 0 := by rw [eN5]; exact H
      have H : Ev none e 187 39 [some (.ref 633), some (.int x), some (.int c), some (.int tx), some (.int sn), some (.int (kk + 1)), some (.int wh), c7] [] N5 v M' 0 0 := Ev.back 3 (fun n => rfl) H
      have HF := H
      subst eN5
      exact Or.inl ⟨h1, h3, b2, b4, HF⟩
    · rw [if_neg h3] at H
      have H : Ev none e 187 97 [some (.ref 633), some (.int x), some (.int c), some (.int tx), some (.int sn), some (.int kk), some (.int wh), c7] [.int 0, .int (sn - 1), .ref 649] M v M' 0 0 := Ev.back 1 (fun n => rfl) H
      obtain ⟨b6, H⟩ := Ev.bas3 rfl rfl hS.1 qa_649 qw_77 H
      obtain ⟨N7, eN7⟩ : ∃ N, N = (wI M 649 ((sn - 1).toNatClampNeg) (vp_nar .boolean 0)) := ⟨_, rfl⟩
      have hN7 : SQ N7 := by rw [eN7]; exact hS.ki
      have H : Ev none e 187 98 [some (.ref 633), some (.int x), some (.int c), some (.int tx), some (.int sn), some (.int kk), some (.int wh), c7] [] N7 v M' 0 0 := by rw [eN7]; exact H
      have H : Ev none e 187 39 [some (.ref 633), some (.int x), some (.int c), some (.int tx), some (.int sn), some (.int (kk + 1)), some (.int wh), c7] [] N7 v M' 0 0 := Ev.back 3 (fun n => rfl) H
      have HF := H
      subst eN7
      exact Or.inr (Or.inl ⟨h1, h3, b2, b6, HF⟩)
  · rw [if_neg h1] at H
    have H : Ev none e 187 (if wh = 21 then 115 else 108) [some (.ref 633), some (.int x), some (.int c), some (.int tx), some (.int sn), some (.int kk), some (.int wh), c7] [] M v M' 0 0 := Ev.back 3 (fun n => rfl) H
    by_cases h8 : wh = 21
    · rw [if_pos h8] at H
      have H : Ev none e 187 118 [some (.ref 633), some (.int x), some (.int c), some (.int tx), some (.int (sn + Int32.ofInt (-1))), some (.int kk), some (.int wh), c7] [] M v M' 0 0 := Ev.back 1 (gs_1 (i := .iinc 4 (-1)) rfl rfl rfl) H
      have HF := H
      exact Or.inr (Or.inr (Or.inl ⟨h1, h8, HF⟩))
    · rw [if_neg h8] at H
      have H : Ev none e 187 (if wh = 22 then 115 else 194) [some (.ref 633), some (.int x), some (.int c), some (.int tx), some (.int sn), some (.int kk), some (.int wh), c7] [] M v M' 0 0 := Ev.back 3 (fun n => rfl) H
      by_cases h9 : wh = 22
      · rw [if_pos h9] at H
        have H : Ev none e 187 118 [some (.ref 633), some (.int x), some (.int c), some (.int tx), some (.int (sn + Int32.ofInt (-1))), some (.int kk), some (.int wh), c7] [] M v M' 0 0 := Ev.back 1 (gs_1 (i := .iinc 4 (-1)) rfl rfl rfl) H
        have HF := H
        exact Or.inr (Or.inr (Or.inr (Or.inl ⟨h1, h8, h9, HF⟩)))
      · rw [if_neg h9] at H
        have H : Ev none e 187 (if 8 ≤ wh then 205 else 201) [some (.ref 633), some (.int x), some (.int c), some (.int tx), some (.int sn), some (.int kk), some (.int wh), c7] [] M v M' 0 0 := Ev.back 3 (fun n => rfl) H
        by_cases h10 : 8 ≤ wh
        · rw [if_pos h10] at H
          have H : Ev none e 187 (if wh = 8 then 214 else 218) [some (.ref 633), some (.int x), some (.int c), some (.int tx), some (.int sn), some (.int kk), some (.int wh), c7] [.int c, .ref 633] M v M' 0 0 := Ev.back 5 (fun n => rfl) H
          by_cases h11 : wh = 8
          · rw [if_pos h11] at H
            have H : Ev none e 187 241 [some (.ref 633), some (.int x), some (.int c), some (.int tx), some (.int sn), some (.int kk), some (.int wh), c7] [.int 3, .int c, .ref 633] M v M' 0 0 := Ev.back 2 (fun n => rfl) H
            obtain ⟨e1, rfl⟩ := Ev.dpos rfl rfl H
            obtain ⟨vK12, MK12, K12, H⟩ := Ev.callb (fun n_ => gs_7 rfl rfl (show gCal (.invokevirtual 136) 11 (.int 3 :: .int c :: .ref 633 :: []) M = some (.inr (146, [some (.ref 633), some (.int c), some (.int 3)], [])) from by show @cond (Option ((List Value × Mem) ⊕ (Nat × Lo × List Value))) (true && gRecv M (.ref 633) 11 && gRoom [] && true) (some (.inr (146, [some (.ref 633), some (.int c), some (.int 3)], []))) none = _; rw [recv_s hS.1 qa_633 qo_61]; rfl)) H
            obtain ⟨pK12, qK12⟩ := g_146 hS K12
            rw [pK12, qK12] at H
            have H : Ev none (e1 + 1) 187 244 [some (.ref 633), some (.int x), some (.int c), some (.int tx), some (.int sn), some (.int kk), some (.int wh), c7] [.int (G_146 M c 3)] M v M' 0 0 := H
            have H : Ev none (e1 + 1) 187 246 [some (.ref 633), some (.int x), some (.int c), some (.int tx), some (.int sn), some (.int kk), some (.int wh), some (.int (G_146 M c 3))] [] M v M' 0 0 := Ev.back 1 (fun n => rfl) H
            have HF := H
            exact Or.inr (Or.inr (Or.inr (Or.inr (Or.inl ⟨h1, h8, h9, h10, h11, HF⟩))))
          · rw [if_neg h11] at H
            have H : Ev none e 187 (if wh = 9 then 225 else 229) [some (.ref 633), some (.int x), some (.int c), some (.int tx), some (.int sn), some (.int kk), some (.int wh), c7] [.int c, .ref 633] M v M' 0 0 := Ev.back 3 (fun n => rfl) H
            by_cases h13 : wh = 9
            · rw [if_pos h13] at H
              have H : Ev none e 187 241 [some (.ref 633), some (.int x), some (.int c), some (.int tx), some (.int sn), some (.int kk), some (.int wh), c7] [.int 4, .int c, .ref 633] M v M' 0 0 := Ev.back 2 (fun n => rfl) H
              obtain ⟨e1, rfl⟩ := Ev.dpos rfl rfl H
              obtain ⟨vK14, MK14, K14, H⟩ := Ev.callb (fun n_ => gs_7 rfl rfl (show gCal (.invokevirtual 136) 11 (.int 4 :: .int c :: .ref 633 :: []) M = some (.inr (146, [some (.ref 633), some (.int c), some (.int 4)], [])) from by show @cond (Option ((List Value × Mem) ⊕ (Nat × Lo × List Value))) (true && gRecv M (.ref 633) 11 && gRoom [] && true) (some (.inr (146, [some (.ref 633), some (.int c), some (.int 4)], []))) none = _; rw [recv_s hS.1 qa_633 qo_61]; rfl)) H
              obtain ⟨pK14, qK14⟩ := g_146 hS K14
              rw [pK14, qK14] at H
              have H : Ev none (e1 + 1) 187 244 [some (.ref 633), some (.int x), some (.int c), some (.int tx), some (.int sn), some (.int kk), some (.int wh), c7] [.int (G_146 M c 4)] M v M' 0 0 := H
              have H : Ev none (e1 + 1) 187 246 [some (.ref 633), some (.int x), some (.int c), some (.int tx), some (.int sn), some (.int kk), some (.int wh), some (.int (G_146 M c 4))] [] M v M' 0 0 := Ev.back 1 (fun n => rfl) H
              have HF := H
              exact Or.inr (Or.inr (Or.inr (Or.inr (Or.inr (Or.inl ⟨h1, h8, h9, h10, h11, h13, HF⟩)))))
            · rw [if_neg h13] at H
              have H : Ev none e 187 (if wh = 10 then 236 else 240) [some (.ref 633), some (.int x), some (.int c), some (.int tx), some (.int sn), some (.int kk), some (.int wh), c7] [.int c, .ref 633] M v M' 0 0 := Ev.back 3 (fun n => rfl) H
              by_cases h15 : wh = 10
              · rw [if_pos h15] at H
                have H : Ev none e 187 241 [some (.ref 633), some (.int x), some (.int c), some (.int tx), some (.int sn), some (.int kk), some (.int wh), c7] [.int 2, .int c, .ref 633] M v M' 0 0 := Ev.back 2 (fun n => rfl) H
                obtain ⟨e1, rfl⟩ := Ev.dpos rfl rfl H
                obtain ⟨vK16, MK16, K16, H⟩ := Ev.callb (fun n_ => gs_7 rfl rfl (show gCal (.invokevirtual 136) 11 (.int 2 :: .int c :: .ref 633 :: []) M = some (.inr (146, [some (.ref 633), some (.int c), some (.int 2)], [])) from by show @cond (Option ((List Value × Mem) ⊕ (Nat × Lo × List Value))) (true && gRecv M (.ref 633) 11 && gRoom [] && true) (some (.inr (146, [some (.ref 633), some (.int c), some (.int 2)], []))) none = _; rw [recv_s hS.1 qa_633 qo_61]; rfl)) H
                obtain ⟨pK16, qK16⟩ := g_146 hS K16
                rw [pK16, qK16] at H
                have H : Ev none (e1 + 1) 187 244 [some (.ref 633), some (.int x), some (.int c), some (.int tx), some (.int sn), some (.int kk), some (.int wh), c7] [.int (G_146 M c 2)] M v M' 0 0 := H
                have H : Ev none (e1 + 1) 187 246 [some (.ref 633), some (.int x), some (.int c), some (.int tx), some (.int sn), some (.int kk), some (.int wh), some (.int (G_146 M c 2))] [] M v M' 0 0 := Ev.back 1 (fun n => rfl) H
                have HF := H
                exact Or.inr (Or.inr (Or.inr (Or.inr (Or.inr (Or.inr (Or.inl ⟨h1, h8, h9, h10, h11, h13, h15, HF⟩))))))
              · rw [if_neg h15] at H
                have H : Ev none e 187 241 [some (.ref 633), some (.int x), some (.int c), some (.int tx), some (.int sn), some (.int kk), some (.int wh), c7] [.int 5, .int c, .ref 633] M v M' 0 0 := Ev.back 1 (fun n => rfl) H
                obtain ⟨e1, rfl⟩ := Ev.dpos rfl rfl H
                obtain ⟨vK17, MK17, K17, H⟩ := Ev.callb (fun n_ => gs_7 rfl rfl (show gCal (.invokevirtual 136) 11 (.int 5 :: .int c :: .ref 633 :: []) M = some (.inr (146, [some (.ref 633), some (.int c), some (.int 5)], [])) from by show @cond (Option ((List Value × Mem) ⊕ (Nat × Lo × List Value))) (true && gRecv M (.ref 633) 11 && gRoom [] && true) (some (.inr (146, [some (.ref 633), some (.int c), some (.int 5)], []))) none = _; rw [recv_s hS.1 qa_633 qo_61]; rfl)) H
                obtain ⟨pK17, qK17⟩ := g_146 hS K17
                rw [pK17, qK17] at H
                have H : Ev none (e1 + 1) 187 244 [some (.ref 633), some (.int x), some (.int c), some (.int tx), some (.int sn), some (.int kk), some (.int wh), c7] [.int (G_146 M c 5)] M v M' 0 0 := H
                have H : Ev none (e1 + 1) 187 246 [some (.ref 633), some (.int x), some (.int c), some (.int tx), some (.int sn), some (.int kk), some (.int wh), some (.int (G_146 M c 5))] [] M v M' 0 0 := Ev.back 1 (fun n => rfl) H
                have HF := H
                exact Or.inr (Or.inr (Or.inr (Or.inr (Or.inr (Or.inr (Or.inr (Or.inl ⟨h1, h8, h9, h10, h11, h13, h15, HF⟩)))))))
        · rw [if_neg h10] at H
          have H : Ev none e 187 246 [some (.ref 633), some (.int x), some (.int c), some (.int tx), some (.int sn), some (.int kk), some (.int wh), some (.int 0)] [] M v M' 0 0 := Ev.back 3 (fun n => rfl) H
          have HF := H
          exact Or.inr (Or.inr (Or.inr (Or.inr (Or.inr (Or.inr (Or.inr (Or.inr (⟨h1, h8, h9, h10, HF⟩))))))))
theorem rho_118 {e : Nat} {M M' : Mem} {v : Option Value} {x c tx sn kk wh : Int32} {c7 : Option Value} (hS : SQ M) (H : Ev none e 187 118 [some (.ref 633), some (.int x), some (.int c), some (.int tx), some (.int sn), some (.int kk), some (.int wh), c7] [] M v M' 0 0) : (wh = 21 ∧ (rI M 649 (sn - 1)) = 0 ∧ (0 ≤ (sn - 1).toInt ∧ (sn - 1).toInt < 60) ∧ (0 ≤ (sn - 1).toInt ∧ (sn - 1).toInt < 60) ∧ Ev none e 187 39 [some (.ref 633), some (.int x), some (.int c), some (.int tx), some (.int sn), some (.int (kk + 1)), some (.int wh), c7] [] (wI M 649 ((sn - 1).toNatClampNeg) (vp_nar .boolean 0)) v M' 0 0) ∨ (wh = 21 ∧ ¬ ((rI M 649 (sn - 1)) = 0) ∧ (rI M 649 sn) = 0 ∧ (0 ≤ (sn - 1).toInt ∧ (sn - 1).toInt < 60) ∧ (0 ≤ sn.toInt ∧ sn.toInt < 60) ∧ (0 ≤ (sn - 1).toInt ∧ (sn - 1).toInt < 60) ∧ Ev none e 187 39 [some (.ref 633), some (.int x), some (.int c), some (.int tx), some (.int sn), some (.int (kk + 1)), some (.int wh), c7] [] (wI M 649 ((sn - 1).toNatClampNeg) (vp_nar .boolean 0)) v M' 0 0) ∨ (wh = 21 ∧ ¬ ((rI M 649 (sn - 1)) = 0) ∧ ¬ ((rI M 649 sn) = 0) ∧ (0 ≤ (sn - 1).toInt ∧ (sn - 1).toInt < 60) ∧ (0 ≤ sn.toInt ∧ sn.toInt < 60) ∧ (0 ≤ (sn - 1).toInt ∧ (sn - 1).toInt < 60) ∧ Ev none e 187 39 [some (.ref 633), some (.int x), some (.int c), some (.int tx), some (.int sn), some (.int (kk + 1)), some (.int wh), c7] [] (wI M 649 ((sn - 1).toNatClampNeg) (vp_nar .boolean 1)) v M' 0 0) ∨ (¬ (wh = 21) ∧ (rI M 649 (sn - 1)) = 0 ∧ (rI M 649 sn) = 0 ∧ (0 ≤ (sn - 1).toInt ∧ (sn - 1).toInt < 60) ∧ (0 ≤ sn.toInt ∧ sn.toInt < 60) ∧ (0 ≤ (sn - 1).toInt ∧ (sn - 1).toInt < 60) ∧ Ev none e 187 39 [some (.ref 633), some (.int x), some (.int c), some (.int tx), some (.int sn), some (.int (kk + 1)), some (.int wh), c7] [] (wI M 649 ((sn - 1).toNatClampNeg) (vp_nar .boolean 0)) v M' 0 0) ∨ (¬ (wh = 21) ∧ (rI M 649 (sn - 1)) = 0 ∧ ¬ ((rI M 649 sn) = 0) ∧ (0 ≤ (sn - 1).toInt ∧ (sn - 1).toInt < 60) ∧ (0 ≤ sn.toInt ∧ sn.toInt < 60) ∧ (0 ≤ (sn - 1).toInt ∧ (sn - 1).toInt < 60) ∧ Ev none e 187 39 [some (.ref 633), some (.int x), some (.int c), some (.int tx), some (.int sn), some (.int (kk + 1)), some (.int wh), c7] [] (wI M 649 ((sn - 1).toNatClampNeg) (vp_nar .boolean 1)) v M' 0 0) ∨ (¬ (wh = 21) ∧ ¬ ((rI M 649 (sn - 1)) = 0) ∧ (0 ≤ (sn - 1).toInt ∧ (sn - 1).toInt < 60) ∧ (0 ≤ (sn - 1).toInt ∧ (sn - 1).toInt < 60) ∧ Ev none e 187 39 [some (.ref 633), some (.int x), some (.int c), some (.int tx), some (.int sn), some (.int (kk + 1)), some (.int wh), c7] [] (wI M 649 ((sn - 1).toNatClampNeg) (vp_nar .boolean 1)) v M' 0 0) := by
  have H : Ev none e 187 119 [some (.ref 633), some (.int x), some (.int c), some (.int tx), some (.int sn), some (.int kk), some (.int wh), c7] [.ref 633] M v M' 0 0 := Ev.back 1 (fun n => rfl) H
  have H : Ev none e 187 122 [some (.ref 633), some (.int x), some (.int c), some (.int tx), some (.int sn), some (.int kk), some (.int wh), c7] [.ref 649] M v M' 0 0 := Ev.back 1 (gs_3 rfl rfl (gf_u hS.1 qa_633 qr_61_33 qu_77 rfl)) H
  have H : Ev none e 187 (if wh = 21 then 133 else 163) [some (.ref 633), some (.int x), some (.int c), some (.int tx), some (.int sn), some (.int kk), some (.int wh), c7] [.int (sn - 1), .ref 649] M v M' 0 0 := Ev.back 6 (fun n => rfl) H
  by_cases h1 : wh = 21
  · rw [if_pos h1] at H
    have H : Ev none e 187 134 [some (.ref 633), some (.int x), some (.int c), some (.int tx), some (.int sn), some (.int kk), some (.int wh), c7] [.ref 633, .int (sn - 1), .ref 649] M v M' 0 0 := Ev.back 1 (fun n => rfl) H
    have H : Ev none e 187 137 [some (.ref 633), some (.int x), some (.int c), some (.int tx), some (.int sn), some (.int kk), some (.int wh), c7] [.ref 649, .int (sn - 1), .ref 649] M v M' 0 0 := Ev.back 1 (gs_3 rfl rfl (gf_u hS.1 qa_633 qr_61_33 qu_77 rfl)) H
    have H : Ev none e 187 141 [some (.ref 633), some (.int x), some (.int c), some (.int tx), some (.int sn), some (.int kk), some (.int wh), c7] [.int (sn - 1), .ref 649, .int (sn - 1), .ref 649] M v M' 0 0 := Ev.back 3 (fun n => rfl) H
    obtain ⟨b2, H⟩ := Ev.bal rfl rfl hS.1 qa_649 qw_77 (Or.inr rfl) H
    have H : Ev none e 187 142 [some (.ref 633), some (.int x), some (.int c), some (.int tx), some (.int sn), some (.int kk), some (.int wh), c7] [.int (rI M 649 (sn - 1)), .int (sn - 1), .ref 649] M v M' 0 0 := H
    have H : Ev none e 187 (if (rI M 649 (sn - 1)) = 0 then 159 else 145) [some (.ref 633), some (.int x), some (.int c), some (.int tx), some (.int sn), some (.int kk), some (.int wh), c7] [.int (sn - 1), .ref 649] M v M' 0 0 := Ev.back 1 (fun n => rfl) H
    by_cases h3 : (rI M 649 (sn - 1)) = 0
    · rw [if_pos h3] at H
      have H : Ev none e 187 190 [some (.ref 633), some (.int x), some (.int c), some (.int tx), some (.int sn), some (.int kk), some (.int wh), c7] [.int 0, .int (sn - 1), .ref 649] M v M' 0 0 := Ev.back 2 (fun n => rfl) H
      obtain ⟨b4, H⟩ := Ev.bas3 rfl rfl hS.1 qa_649 qw_77 H
      obtain ⟨N5, eN5⟩ : ∃ N, N = (wI M 649 ((sn - 1).toNatClampNeg) (vp_nar .boolean 0)) := ⟨_, rfl⟩
      have hN5 : SQ N5 := by rw [eN5]; exact hS.ki
      have H : Ev none e 187 191 [some (.ref 633), some (.int x), some (.int c), some (.int tx), some (.int sn), some (.int kk), some (.int wh), c7] [] N5 v M' 0 0 := by rw [eN5]; exact H
      have H : Ev none e 187 39 [some (.ref 633), some (.int x), some (.int c), some (.int tx), some (.int sn), some (.int (kk + 1)), some (.int wh), c7] [] N5 v M' 0 0 := Ev.back 3 (fun n => rfl) H
      have HF := H
      subst eN5
      exact Or.inl ⟨h1, h3, b2, b4, HF⟩
    · rw [if_neg h3] at H
      have H : Ev none e 187 146 [some (.ref 633), some (.int x), some (.int c), some (.int tx), some (.int sn), some (.int kk), some (.int wh), c7] [.ref 633, .int (sn - 1), .ref 649] M v M' 0 0 := Ev.back 1 (fun n => rfl) H
      have H : Ev none e 187 149 [some (.ref 633), some (.int x), some (.int c), some (.int tx), some (.int sn), some (.int kk), some (.int wh), c7] [.ref 649, .int (sn - 1), .ref 649] M v M' 0 0 := Ev.back 1 (gs_3 rfl rfl (gf_u hS.1 qa_633 qr_61_33 qu_77 rfl)) H
      have H : Ev none e 187 151 [some (.ref 633), some (.int x), some (.int c), some (.int tx), some (.int sn), some (.int kk), some (.int wh), c7] [.int sn, .ref 649, .int (sn - 1), .ref 649] M v M' 0 0 := Ev.back 1 (fun n => rfl) H
      obtain ⟨b6, H⟩ := Ev.bal rfl rfl hS.1 qa_649 qw_77 (Or.inr rfl) H
      have H : Ev none e 187 152 [some (.ref 633), some (.int x), some (.int c), some (.int tx), some (.int sn), some (.int kk), some (.int wh), c7] [.int (rI M 649 sn), .int (sn - 1), .ref 649] M v M' 0 0 := H
      have H : Ev none e 187 (if (rI M 649 sn) = 0 then 159 else 155) [some (.ref 633), some (.int x), some (.int c), some (.int tx), some (.int sn), some (.int kk), some (.int wh), c7] [.int (sn - 1), .ref 649] M v M' 0 0 := Ev.back 1 (fun n => rfl) H
      by_cases h7 : (rI M 649 sn) = 0
      · rw [if_pos h7] at H
        have H : Ev none e 187 190 [some (.ref 633), some (.int x), some (.int c), some (.int tx), some (.int sn), some (.int kk), some (.int wh), c7] [.int 0, .int (sn - 1), .ref 649] M v M' 0 0 := Ev.back 2 (fun n => rfl) H
        obtain ⟨b8, H⟩ := Ev.bas3 rfl rfl hS.1 qa_649 qw_77 H
        obtain ⟨N9, eN9⟩ : ∃ N, N = (wI M 649 ((sn - 1).toNatClampNeg) (vp_nar .boolean 0)) := ⟨_, rfl⟩
        have hN9 : SQ N9 := by rw [eN9]; exact hS.ki
        have H : Ev none e 187 191 [some (.ref 633), some (.int x), some (.int c), some (.int tx), some (.int sn), some (.int kk), some (.int wh), c7] [] N9 v M' 0 0 := by rw [eN9]; exact H
        have H : Ev none e 187 39 [some (.ref 633), some (.int x), some (.int c), some (.int tx), some (.int sn), some (.int (kk + 1)), some (.int wh), c7] [] N9 v M' 0 0 := Ev.back 3 (fun n => rfl) H
        have HF := H
        subst eN9
        exact Or.inr (Or.inl ⟨h1, h3, h7, b2, b6, b8, HF⟩)
      · rw [if_neg h7] at H
        have H : Ev none e 187 190 [some (.ref 633), some (.int x), some (.int c), some (.int tx), some (.int sn), some (.int kk), some (.int wh), c7] [.int 1, .int (sn - 1), .ref 649] M v M' 0 0 := Ev.back 2 (fun n => rfl) H
        obtain ⟨b10, H⟩ := Ev.bas3 rfl rfl hS.1 qa_649 qw_77 H
        obtain ⟨N11, eN11⟩ : ∃ N, N = (wI M 649 ((sn - 1).toNatClampNeg) (vp_nar .boolean 1)) := ⟨_, rfl⟩
        have hN11 : SQ N11 := by rw [eN11]; exact hS.ki
        have H : Ev none e 187 191 [some (.ref 633), some (.int x), some (.int c), some (.int tx), some (.int sn), some (.int kk), some (.int wh), c7] [] N11 v M' 0 0 := by rw [eN11]; exact H
        have H : Ev none e 187 39 [some (.ref 633), some (.int x), some (.int c), some (.int tx), some (.int sn), some (.int (kk + 1)), some (.int wh), c7] [] N11 v M' 0 0 := Ev.back 3 (fun n => rfl) H
        have HF := H
        subst eN11
        exact Or.inr (Or.inr (Or.inl ⟨h1, h3, h7, b2, b6, b10, HF⟩))
  · rw [if_neg h1] at H
    have H : Ev none e 187 164 [some (.ref 633), some (.int x), some (.int c), some (.int tx), some (.int sn), some (.int kk), some (.int wh), c7] [.ref 633, .int (sn - 1), .ref 649] M v M' 0 0 := Ev.back 1 (fun n => rfl) H
    have H : Ev none e 187 167 [some (.ref 633), some (.int x), some (.int c), some (.int tx), some (.int sn), some (.int kk), some (.int wh), c7] [.ref 649, .int (sn - 1), .ref 649] M v M' 0 0 := Ev.back 1 (gs_3 rfl rfl (gf_u hS.1 qa_633 qr_61_33 qu_77 rfl)) H
    have H : Ev none e 187 171 [some (.ref 633), some (.int x), some (.int c), some (.int tx), some (.int sn), some (.int kk), some (.int wh), c7] [.int (sn - 1), .ref 649, .int (sn - 1), .ref 649] M v M' 0 0 := Ev.back 3 (fun n => rfl) H
    obtain ⟨b12, H⟩ := Ev.bal rfl rfl hS.1 qa_649 qw_77 (Or.inr rfl) H
    have H : Ev none e 187 172 [some (.ref 633), some (.int x), some (.int c), some (.int tx), some (.int sn), some (.int kk), some (.int wh), c7] [.int (rI M 649 (sn - 1)), .int (sn - 1), .ref 649] M v M' 0 0 := H
    have H : Ev none e 187 (if (rI M 649 (sn - 1)) = 0 then 175 else 185) [some (.ref 633), some (.int x), some (.int c), some (.int tx), some (.int sn), some (.int kk), some (.int wh), c7] [.int (sn - 1), .ref 649] M v M' 0 0 := Ev.back 1 (fun n => rfl) H
    by_cases h13 : (rI M 649 (sn - 1)) = 0
    · rw [if_pos h13] at H
      have H : Ev none e 187 176 [some (.ref 633), some (.int x), some (.int c), some (.int tx), some (.int sn), some (.int kk), some (.int wh), c7] [.ref 633, .int (sn - 1), .ref 649] M v M' 0 0 := Ev.back 1 (fun n => rfl) H
      have H : Ev none e 187 179 [some (.ref 633), some (.int x), some (.int c), some (.int tx), some (.int sn), some (.int kk), some (.int wh), c7] [.ref 649, .int (sn - 1), .ref 649] M v M' 0 0 := Ev.back 1 (gs_3 rfl rfl (gf_u hS.1 qa_633 qr_61_33 qu_77 rfl)) H
      have H : Ev none e 187 181 [some (.ref 633), some (.int x), some (.int c), some (.int tx), some (.int sn), some (.int kk), some (.int wh), c7] [.int sn, .ref 649, .int (sn - 1), .ref 649] M v M' 0 0 := Ev.back 1 (fun n => rfl) H
      obtain ⟨b14, H⟩ := Ev.bal rfl rfl hS.1 qa_649 qw_77 (Or.inr rfl) H
      have H : Ev none e 187 182 [some (.ref 633), some (.int x), some (.int c), some (.int tx), some (.int sn), some (.int kk), some (.int wh), c7] [.int (rI M 649 sn), .int (sn - 1), .ref 649] M v M' 0 0 := H
      have H : Ev none e 187 (if (rI M 649 sn) = 0 then 189 else 185) [some (.ref 633), some (.int x), some (.int c), some (.int tx), some (.int sn), some (.int kk), some (.int wh), c7] [.int (sn - 1), .ref 649] M v M' 0 0 := Ev.back 1 (fun n => rfl) H
      by_cases h15 : (rI M 649 sn) = 0
      · rw [if_pos h15] at H
        have H : Ev none e 187 190 [some (.ref 633), some (.int x), some (.int c), some (.int tx), some (.int sn), some (.int kk), some (.int wh), c7] [.int 0, .int (sn - 1), .ref 649] M v M' 0 0 := Ev.back 1 (fun n => rfl) H
        obtain ⟨b16, H⟩ := Ev.bas3 rfl rfl hS.1 qa_649 qw_77 H
        obtain ⟨N17, eN17⟩ : ∃ N, N = (wI M 649 ((sn - 1).toNatClampNeg) (vp_nar .boolean 0)) := ⟨_, rfl⟩
        have hN17 : SQ N17 := by rw [eN17]; exact hS.ki
        have H : Ev none e 187 191 [some (.ref 633), some (.int x), some (.int c), some (.int tx), some (.int sn), some (.int kk), some (.int wh), c7] [] N17 v M' 0 0 := by rw [eN17]; exact H
        have H : Ev none e 187 39 [some (.ref 633), some (.int x), some (.int c), some (.int tx), some (.int sn), some (.int (kk + 1)), some (.int wh), c7] [] N17 v M' 0 0 := Ev.back 3 (fun n => rfl) H
        have HF := H
        subst eN17
        exact Or.inr (Or.inr (Or.inr (Or.inl ⟨h1, h13, h15, b12, b14, b16, HF⟩)))
      · rw [if_neg h15] at H
        have H : Ev none e 187 190 [some (.ref 633), some (.int x), some (.int c), some (.int tx), some (.int sn), some (.int kk), some (.int wh), c7] [.int 1, .int (sn - 1), .ref 649] M v M' 0 0 := Ev.back 2 (fun n => rfl) H
        obtain ⟨b18, H⟩ := Ev.bas3 rfl rfl hS.1 qa_649 qw_77 H
        obtain ⟨N19, eN19⟩ : ∃ N, N = (wI M 649 ((sn - 1).toNatClampNeg) (vp_nar .boolean 1)) := ⟨_, rfl⟩
        have hN19 : SQ N19 := by rw [eN19]; exact hS.ki
        have H : Ev none e 187 191 [some (.ref 633), some (.int x), some (.int c), some (.int tx), some (.int sn), some (.int kk), some (.int wh), c7] [] N19 v M' 0 0 := by rw [eN19]; exact H
        have H : Ev none e 187 39 [some (.ref 633), some (.int x), some (.int c), some (.int tx), some (.int sn), some (.int (kk + 1)), some (.int wh), c7] [] N19 v M' 0 0 := Ev.back 3 (fun n => rfl) H
        have HF := H
        subst eN19
        exact Or.inr (Or.inr (Or.inr (Or.inr (Or.inl ⟨h1, h13, h15, b12, b14, b18, HF⟩))))
    · rw [if_neg h13] at H
      have H : Ev none e 187 190 [some (.ref 633), some (.int x), some (.int c), some (.int tx), some (.int sn), some (.int kk), some (.int wh), c7] [.int 1, .int (sn - 1), .ref 649] M v M' 0 0 := Ev.back 2 (fun n => rfl) H
      obtain ⟨b20, H⟩ := Ev.bas3 rfl rfl hS.1 qa_649 qw_77 H
      obtain ⟨N21, eN21⟩ : ∃ N, N = (wI M 649 ((sn - 1).toNatClampNeg) (vp_nar .boolean 1)) := ⟨_, rfl⟩
      have hN21 : SQ N21 := by rw [eN21]; exact hS.ki
      have H : Ev none e 187 191 [some (.ref 633), some (.int x), some (.int c), some (.int tx), some (.int sn), some (.int kk), some (.int wh), c7] [] N21 v M' 0 0 := by rw [eN21]; exact H
      have H : Ev none e 187 39 [some (.ref 633), some (.int x), some (.int c), some (.int tx), some (.int sn), some (.int (kk + 1)), some (.int wh), c7] [] N21 v M' 0 0 := Ev.back 3 (fun n => rfl) H
      have HF := H
      subst eN21
      exact Or.inr (Or.inr (Or.inr (Or.inr (Or.inr (⟨h1, h13, b12, b20, HF⟩)))))
theorem rho_246 {e : Nat} {M M' : Mem} {v : Option Value} {x c tx sn kk wh vv : Int32} (hS : SQ M) (H : Ev none e 187 246 [some (.ref 633), some (.int x), some (.int c), some (.int tx), some (.int sn), some (.int kk), some (.int wh), some (.int vv)] [] M v M' 0 0) : (8 ≤ wh ∧ (rI M 646 kk) = 60 ∧ (rI M 647 kk) ≤ vv ∧ (0 ≤ kk.toInt ∧ kk.toInt < 1600) ∧ (0 ≤ kk.toInt ∧ kk.toInt < 1600) ∧ (0 ≤ sn.toInt ∧ sn.toInt < 60) ∧ Ev none e 187 39 [some (.ref 633), some (.int x), some (.int c), some (.int tx), some (.int (sn + 1)), some (.int (kk + 1)), some (.int wh), some (.int vv)] [] (wI M 649 sn.toNatClampNeg (vp_nar .boolean 0)) v M' 0 0) ∨ (8 ≤ wh ∧ (rI M 646 kk) = 60 ∧ ¬ ((rI M 647 kk) ≤ vv) ∧ (0 ≤ kk.toInt ∧ kk.toInt < 1600) ∧ (0 ≤ kk.toInt ∧ kk.toInt < 1600) ∧ (0 ≤ sn.toInt ∧ sn.toInt < 60) ∧ Ev none e 187 39 [some (.ref 633), some (.int x), some (.int c), some (.int tx), some (.int (sn + 1)), some (.int (kk + 1)), some (.int wh), some (.int vv)] [] (wI M 649 sn.toNatClampNeg (vp_nar .boolean 1)) v M' 0 0) ∨ (8 ≤ wh ∧ ¬ ((rI M 646 kk) = 60) ∧ (rI M 646 kk) = 61 ∧ vv = (rI M 647 kk) ∧ (0 ≤ kk.toInt ∧ kk.toInt < 1600) ∧ (0 ≤ kk.toInt ∧ kk.toInt < 1600) ∧ (0 ≤ kk.toInt ∧ kk.toInt < 1600) ∧ (0 ≤ sn.toInt ∧ sn.toInt < 60) ∧ Ev none e 187 39 [some (.ref 633), some (.int x), some (.int c), some (.int tx), some (.int (sn + 1)), some (.int (kk + 1)), some (.int wh), some (.int vv)] [] (wI M 649 sn.toNatClampNeg (vp_nar .boolean 1)) v M' 0 0) ∨ (8 ≤ wh ∧ ¬ ((rI M 646 kk) = 60) ∧ (rI M 646 kk) = 61 ∧ ¬ (vv = (rI M 647 kk)) ∧ (0 ≤ kk.toInt ∧ kk.toInt < 1600) ∧ (0 ≤ kk.toInt ∧ kk.toInt < 1600) ∧ (0 ≤ kk.toInt ∧ kk.toInt < 1600) ∧ (0 ≤ sn.toInt ∧ sn.toInt < 60) ∧ Ev none e 187 39 [some (.ref 633), some (.int x), some (.int c), some (.int tx), some (.int (sn + 1)), some (.int (kk + 1)), some (.int wh), some (.int vv)] [] (wI M 649 sn.toNatClampNeg (vp_nar .boolean 0)) v M' 0 0) ∨ (8 ≤ wh ∧ ¬ ((rI M 646 kk) = 60) ∧ ¬ ((rI M 646 kk) = 61) ∧ vv ≤ (rI M 647 kk) ∧ (0 ≤ kk.toInt ∧ kk.toInt < 1600) ∧ (0 ≤ kk.toInt ∧ kk.toInt < 1600) ∧ (0 ≤ kk.toInt ∧ kk.toInt < 1600) ∧ (0 ≤ sn.toInt ∧ sn.toInt < 60) ∧ Ev none e 187 39 [some (.ref 633), some (.int x), some (.int c), some (.int tx), some (.int (sn + 1)), some (.int (kk + 1)), some (.int wh), some (.int vv)] [] (wI M 649 sn.toNatClampNeg (vp_nar .boolean 0)) v M' 0 0) ∨ (8 ≤ wh ∧ ¬ ((rI M 646 kk) = 60) ∧ ¬ ((rI M 646 kk) = 61) ∧ ¬ (vv ≤ (rI M 647 kk)) ∧ (0 ≤ kk.toInt ∧ kk.toInt < 1600) ∧ (0 ≤ kk.toInt ∧ kk.toInt < 1600) ∧ (0 ≤ kk.toInt ∧ kk.toInt < 1600) ∧ (0 ≤ sn.toInt ∧ sn.toInt < 60) ∧ Ev none e 187 39 [some (.ref 633), some (.int x), some (.int c), some (.int tx), some (.int (sn + 1)), some (.int (kk + 1)), some (.int wh), some (.int vv)] [] (wI M 649 sn.toNatClampNeg (vp_nar .boolean 1)) v M' 0 0) ∨ (¬ (8 ≤ wh) ∧ (∃ e1 v1 M1, e = e1 + 1 ∧ Ev none e1 186 0 [some (.ref 633), some (.int c), some (.int wh)] [] M v1 M1 0 0 ∧ Ev none e 187 266 [some (.ref 633), some (.int x), some (.int c), some (.int tx), some (.int sn), some (.int kk), some (.int wh), some (.int vv)] (v1.toList ++ [.int sn, .ref 649]) M1 v M' 0 0)) := by
  have H : Ev none e 187 247 [some (.ref 633), some (.int x), some (.int c), some (.int tx), some (.int sn), some (.int kk), some (.int wh), some (.int vv)] [.ref 633] M v M' 0 0 := Ev.back 1 (fun n => rfl) H
  have H : Ev none e 187 250 [some (.ref 633), some (.int x), some (.int c), some (.int tx), some (.int sn), some (.int kk), some (.int wh), some (.int vv)] [.ref 649] M v M' 0 0 := Ev.back 1 (gs_3 rfl rfl (gf_u hS.1 qa_633 qr_61_33 qu_77 rfl)) H
  have H : Ev none e 187 (if 8 ≤ wh then 269 else 259) [some (.ref 633), some (.int x), some (.int c), some (.int tx), some (.int sn), some (.int kk), some (.int wh), some (.int vv)] [.int sn, .ref 649] M v M' 0 0 := Ev.back 4 (fun n => rfl) H
  by_cases h1 : 8 ≤ wh
  · rw [if_pos h1] at H
    have H : Ev none e 187 270 [some (.ref 633), some (.int x), some (.int c), some (.int tx), some (.int sn), some (.int kk), some (.int wh), some (.int vv)] [.ref 633, .int sn, .ref 649] M v M' 0 0 := Ev.back 1 (fun n => rfl) H
    have H : Ev none e 187 273 [some (.ref 633), some (.int x), some (.int c), some (.int tx), some (.int sn), some (.int kk), some (.int wh), some (.int vv)] [.ref 646, .int sn, .ref 649] M v M' 0 0 := Ev.back 1 (gs_3 rfl rfl (gf_u hS.1 qa_633 qr_61_16 qu_74 rfl)) H
    have H : Ev none e 187 275 [some (.ref 633), some (.int x), some (.int c), some (.int tx), some (.int sn), some (.int kk), some (.int wh), some (.int vv)] [.int kk, .ref 646, .int sn, .ref 649] M v M' 0 0 := Ev.back 1 (fun n => rfl) H
    obtain ⟨b2, H⟩ := Ev.ial rfl rfl hS.1 qa_646 qw_74 H
    have H : Ev none e 187 276 [some (.ref 633), some (.int x), some (.int c), some (.int tx), some (.int sn), some (.int kk), some (.int wh), some (.int vv)] [.int (rI M 646 kk), .int sn, .ref 649] M v M' 0 0 := H
    have H : Ev none e 187 (if (rI M 646 kk) = 60 then 281 else 301) [some (.ref 633), some (.int x), some (.int c), some (.int tx), some (.int sn), some (.int kk), some (.int wh), some (.int vv)] [.int sn, .ref 649] M v M' 0 0 := Ev.back 2 (fun n => rfl) H
    by_cases h3 : (rI M 646 kk) = 60
    · rw [if_pos h3] at H
      have H : Ev none e 187 284 [some (.ref 633), some (.int x), some (.int c), some (.int tx), some (.int sn), some (.int kk), some (.int wh), some (.int vv)] [.ref 633, .int vv, .int sn, .ref 649] M v M' 0 0 := Ev.back 2 (fun n => rfl) H
      have H : Ev none e 187 287 [some (.ref 633), some (.int x), some (.int c), some (.int tx), some (.int sn), some (.int kk), some (.int wh), some (.int vv)] [.ref 647, .int vv, .int sn, .ref 649] M v M' 0 0 := Ev.back 1 (gs_3 rfl rfl (gf_u hS.1 qa_633 qr_61_17 qu_75 rfl)) H
      have H : Ev none e 187 289 [some (.ref 633), some (.int x), some (.int c), some (.int tx), some (.int sn), some (.int kk), some (.int wh), some (.int vv)] [.int kk, .ref 647, .int vv, .int sn, .ref 649] M v M' 0 0 := Ev.back 1 (fun n => rfl) H
      obtain ⟨b4, H⟩ := Ev.ial rfl rfl hS.1 qa_647 qw_75 H
      have H : Ev none e 187 290 [some (.ref 633), some (.int x), some (.int c), some (.int tx), some (.int sn), some (.int kk), some (.int wh), some (.int vv)] [.int (rI M 647 kk), .int vv, .int sn, .ref 649] M v M' 0 0 := H
      have H : Ev none e 187 (if (rI M 647 kk) ≤ vv then 297 else 293) [some (.ref 633), some (.int x), some (.int c), some (.int tx), some (.int sn), some (.int kk), some (.int wh), some (.int vv)] [.int sn, .ref 649] M v M' 0 0 := Ev.back 1 (fun n => rfl) H
      by_cases h5 : (rI M 647 kk) ≤ vv
      · rw [if_pos h5] at H
        have H : Ev none e 187 350 [some (.ref 633), some (.int x), some (.int c), some (.int tx), some (.int sn), some (.int kk), some (.int wh), some (.int vv)] [.int 0, .int sn, .ref 649] M v M' 0 0 := Ev.back 2 (fun n => rfl) H
        obtain ⟨b6, H⟩ := Ev.bas3 rfl rfl hS.1 qa_649 qw_77 H
        obtain ⟨N7, eN7⟩ : ∃ N, N = (wI M 649 sn.toNatClampNeg (vp_nar .boolean 0)) := ⟨_, rfl⟩
        have hN7 : SQ N7 := by rw [eN7]; exact hS.ki
        have H : Ev none e 187 351 [some (.ref 633), some (.int x), some (.int c), some (.int tx), some (.int sn), some (.int kk), some (.int wh), some (.int vv)] [] N7 v M' 0 0 := by rw [eN7]; exact H
        have H : Ev none e 187 39 [some (.ref 633), some (.int x), some (.int c), some (.int tx), some (.int (sn + 1)), some (.int (kk + 1)), some (.int wh), some (.int vv)] [] N7 v M' 0 0 := Ev.back 3 (fun n => rfl) H
        have HF := H
        subst eN7
        exact Or.inl ⟨h1, h3, h5, b2, b4, b6, HF⟩
      · rw [if_neg h5] at H
        have H : Ev none e 187 350 [some (.ref 633), some (.int x), some (.int c), some (.int tx), some (.int sn), some (.int kk), some (.int wh), some (.int vv)] [.int 1, .int sn, .ref 649] M v M' 0 0 := Ev.back 2 (fun n => rfl) H
        obtain ⟨b8, H⟩ := Ev.bas3 rfl rfl hS.1 qa_649 qw_77 H
        obtain ⟨N9, eN9⟩ : ∃ N, N = (wI M 649 sn.toNatClampNeg (vp_nar .boolean 1)) := ⟨_, rfl⟩
        have hN9 : SQ N9 := by rw [eN9]; exact hS.ki
        have H : Ev none e 187 351 [some (.ref 633), some (.int x), some (.int c), some (.int tx), some (.int sn), some (.int kk), some (.int wh), some (.int vv)] [] N9 v M' 0 0 := by rw [eN9]; exact H
        have H : Ev none e 187 39 [some (.ref 633), some (.int x), some (.int c), some (.int tx), some (.int (sn + 1)), some (.int (kk + 1)), some (.int wh), some (.int vv)] [] N9 v M' 0 0 := Ev.back 3 (fun n => rfl) H
        have HF := H
        subst eN9
        exact Or.inr (Or.inl ⟨h1, h3, h5, b2, b4, b8, HF⟩)
    · rw [if_neg h3] at H
      have H : Ev none e 187 302 [some (.ref 633), some (.int x), some (.int c), some (.int tx), some (.int sn), some (.int kk), some (.int wh), some (.int vv)] [.ref 633, .int sn, .ref 649] M v M' 0 0 := Ev.back 1 (fun n => rfl) H
      have H : Ev none e 187 305 [some (.ref 633), some (.int x), some (.int c), some (.int tx), some (.int sn), some (.int kk), some (.int wh), some (.int vv)] [.ref 646, .int sn, .ref 649] M v M' 0 0 := Ev.back 1 (gs_3 rfl rfl (gf_u hS.1 qa_633 qr_61_16 qu_74 rfl)) H
      have H : Ev none e 187 307 [some (.ref 633), some (.int x), some (.int c), some (.int tx), some (.int sn), some (.int kk), some (.int wh), some (.int vv)] [.int kk, .ref 646, .int sn, .ref 649] M v M' 0 0 := Ev.back 1 (fun n => rfl) H
      obtain ⟨b10, H⟩ := Ev.ial rfl rfl hS.1 qa_646 qw_74 H
      have H : Ev none e 187 308 [some (.ref 633), some (.int x), some (.int c), some (.int tx), some (.int sn), some (.int kk), some (.int wh), some (.int vv)] [.int (rI M 646 kk), .int sn, .ref 649] M v M' 0 0 := H
      have H : Ev none e 187 (if (rI M 646 kk) = 61 then 313 else 333) [some (.ref 633), some (.int x), some (.int c), some (.int tx), some (.int sn), some (.int kk), some (.int wh), some (.int vv)] [.int sn, .ref 649] M v M' 0 0 := Ev.back 2 (fun n => rfl) H
      by_cases h11 : (rI M 646 kk) = 61
      · rw [if_pos h11] at H
        have H : Ev none e 187 316 [some (.ref 633), some (.int x), some (.int c), some (.int tx), some (.int sn), some (.int kk), some (.int wh), some (.int vv)] [.ref 633, .int vv, .int sn, .ref 649] M v M' 0 0 := Ev.back 2 (fun n => rfl) H
        have H : Ev none e 187 319 [some (.ref 633), some (.int x), some (.int c), some (.int tx), some (.int sn), some (.int kk), some (.int wh), some (.int vv)] [.ref 647, .int vv, .int sn, .ref 649] M v M' 0 0 := Ev.back 1 (gs_3 rfl rfl (gf_u hS.1 qa_633 qr_61_17 qu_75 rfl)) H
        have H : Ev none e 187 321 [some (.ref 633), some (.int x), some (.int c), some (.int tx), some (.int sn), some (.int kk), some (.int wh), some (.int vv)] [.int kk, .ref 647, .int vv, .int sn, .ref 649] M v M' 0 0 := Ev.back 1 (fun n => rfl) H
        obtain ⟨b12, H⟩ := Ev.ial rfl rfl hS.1 qa_647 qw_75 H
        have H : Ev none e 187 322 [some (.ref 633), some (.int x), some (.int c), some (.int tx), some (.int sn), some (.int kk), some (.int wh), some (.int vv)] [.int (rI M 647 kk), .int vv, .int sn, .ref 649] M v M' 0 0 := H
        have H : Ev none e 187 (if vv = (rI M 647 kk) then 325 else 329) [some (.ref 633), some (.int x), some (.int c), some (.int tx), some (.int sn), some (.int kk), some (.int wh), some (.int vv)] [.int sn, .ref 649] M v M' 0 0 := Ev.back 1 (fun n => rfl) H
        by_cases h13 : vv = (rI M 647 kk)
        · rw [if_pos h13] at H
          have H : Ev none e 187 350 [some (.ref 633), some (.int x), some (.int c), some (.int tx), some (.int sn), some (.int kk), some (.int wh), some (.int vv)] [.int 1, .int sn, .ref 649] M v M' 0 0 := Ev.back 2 (fun n => rfl) H
          obtain ⟨b14, H⟩ := Ev.bas3 rfl rfl hS.1 qa_649 qw_77 H
          obtain ⟨N15, eN15⟩ : ∃ N, N = (wI M 649 sn.toNatClampNeg (vp_nar .boolean 1)) := ⟨_, rfl⟩
          have hN15 : SQ N15 := by rw [eN15]; exact hS.ki
          have H : Ev none e 187 351 [some (.ref 633), some (.int x), some (.int c), some (.int tx), some (.int sn), some (.int kk), some (.int wh), some (.int vv)] [] N15 v M' 0 0 := by rw [eN15]; exact H
          have H : Ev none e 187 39 [some (.ref 633), some (.int x), some (.int c), some (.int tx), some (.int (sn + 1)), some (.int (kk + 1)), some (.int wh), some (.int vv)] [] N15 v M' 0 0 := Ev.back 3 (fun n => rfl) H
          have HF := H
          subst eN15
          exact Or.inr (Or.inr (Or.inl ⟨h1, h3, h11, h13, b2, b10, b12, b14, HF⟩))
        · rw [if_neg h13] at H
          have H : Ev none e 187 350 [some (.ref 633), some (.int x), some (.int c), some (.int tx), some (.int sn), some (.int kk), some (.int wh), some (.int vv)] [.int 0, .int sn, .ref 649] M v M' 0 0 := Ev.back 2 (fun n => rfl) H
          obtain ⟨b16, H⟩ := Ev.bas3 rfl rfl hS.1 qa_649 qw_77 H
          obtain ⟨N17, eN17⟩ : ∃ N, N = (wI M 649 sn.toNatClampNeg (vp_nar .boolean 0)) := ⟨_, rfl⟩
          have hN17 : SQ N17 := by rw [eN17]; exact hS.ki
          have H : Ev none e 187 351 [some (.ref 633), some (.int x), some (.int c), some (.int tx), some (.int sn), some (.int kk), some (.int wh), some (.int vv)] [] N17 v M' 0 0 := by rw [eN17]; exact H
          have H : Ev none e 187 39 [some (.ref 633), some (.int x), some (.int c), some (.int tx), some (.int (sn + 1)), some (.int (kk + 1)), some (.int wh), some (.int vv)] [] N17 v M' 0 0 := Ev.back 3 (fun n => rfl) H
          have HF := H
          subst eN17
          exact Or.inr (Or.inr (Or.inr (Or.inl ⟨h1, h3, h11, h13, b2, b10, b12, b16, HF⟩)))
      · rw [if_neg h11] at H
        have H : Ev none e 187 336 [some (.ref 633), some (.int x), some (.int c), some (.int tx), some (.int sn), some (.int kk), some (.int wh), some (.int vv)] [.ref 633, .int vv, .int sn, .ref 649] M v M' 0 0 := Ev.back 2 (fun n => rfl) H
        have H : Ev none e 187 339 [some (.ref 633), some (.int x), some (.int c), some (.int tx), some (.int sn), some (.int kk), some (.int wh), some (.int vv)] [.ref 647, .int vv, .int sn, .ref 649] M v M' 0 0 := Ev.back 1 (gs_3 rfl rfl (gf_u hS.1 qa_633 qr_61_17 qu_75 rfl)) H
        have H : Ev none e 187 341 [some (.ref 633), some (.int x), some (.int c), some (.int tx), some (.int sn), some (.int kk), some (.int wh), some (.int vv)] [.int kk, .ref 647, .int vv, .int sn, .ref 649] M v M' 0 0 := Ev.back 1 (fun n => rfl) H
        obtain ⟨b18, H⟩ := Ev.ial rfl rfl hS.1 qa_647 qw_75 H
        have H : Ev none e 187 342 [some (.ref 633), some (.int x), some (.int c), some (.int tx), some (.int sn), some (.int kk), some (.int wh), some (.int vv)] [.int (rI M 647 kk), .int vv, .int sn, .ref 649] M v M' 0 0 := H
        have H : Ev none e 187 (if vv ≤ (rI M 647 kk) then 349 else 345) [some (.ref 633), some (.int x), some (.int c), some (.int tx), some (.int sn), some (.int kk), some (.int wh), some (.int vv)] [.int sn, .ref 649] M v M' 0 0 := Ev.back 1 (fun n => rfl) H
        by_cases h19 : vv ≤ (rI M 647 kk)
        · rw [if_pos h19] at H
          have H : Ev none e 187 350 [some (.ref 633), some (.int x), some (.int c), some (.int tx), some (.int sn), some (.int kk), some (.int wh), some (.int vv)] [.int 0, .int sn, .ref 649] M v M' 0 0 := Ev.back 1 (fun n => rfl) H
          obtain ⟨b20, H⟩ := Ev.bas3 rfl rfl hS.1 qa_649 qw_77 H
          obtain ⟨N21, eN21⟩ : ∃ N, N = (wI M 649 sn.toNatClampNeg (vp_nar .boolean 0)) := ⟨_, rfl⟩
          have hN21 : SQ N21 := by rw [eN21]; exact hS.ki
          have H : Ev none e 187 351 [some (.ref 633), some (.int x), some (.int c), some (.int tx), some (.int sn), some (.int kk), some (.int wh), some (.int vv)] [] N21 v M' 0 0 := by rw [eN21]; exact H
          have H : Ev none e 187 39 [some (.ref 633), some (.int x), some (.int c), some (.int tx), some (.int (sn + 1)), some (.int (kk + 1)), some (.int wh), some (.int vv)] [] N21 v M' 0 0 := Ev.back 3 (fun n => rfl) H
          have HF := H
          subst eN21
          exact Or.inr (Or.inr (Or.inr (Or.inr (Or.inl ⟨h1, h3, h11, h19, b2, b10, b18, b20, HF⟩))))
        · rw [if_neg h19] at H
          have H : Ev none e 187 350 [some (.ref 633), some (.int x), some (.int c), some (.int tx), some (.int sn), some (.int kk), some (.int wh), some (.int vv)] [.int 1, .int sn, .ref 649] M v M' 0 0 := Ev.back 2 (fun n => rfl) H
          obtain ⟨b22, H⟩ := Ev.bas3 rfl rfl hS.1 qa_649 qw_77 H
          obtain ⟨N23, eN23⟩ : ∃ N, N = (wI M 649 sn.toNatClampNeg (vp_nar .boolean 1)) := ⟨_, rfl⟩
          have hN23 : SQ N23 := by rw [eN23]; exact hS.ki
          have H : Ev none e 187 351 [some (.ref 633), some (.int x), some (.int c), some (.int tx), some (.int sn), some (.int kk), some (.int wh), some (.int vv)] [] N23 v M' 0 0 := by rw [eN23]; exact H
          have H : Ev none e 187 39 [some (.ref 633), some (.int x), some (.int c), some (.int tx), some (.int (sn + 1)), some (.int (kk + 1)), some (.int wh), some (.int vv)] [] N23 v M' 0 0 := Ev.back 3 (fun n => rfl) H
          have HF := H
          subst eN23
          exact Or.inr (Or.inr (Or.inr (Or.inr (Or.inr (Or.inl ⟨h1, h3, h11, h19, b2, b10, b18, b22, HF⟩)))))
  · rw [if_neg h1] at H
    have H : Ev none e 187 263 [some (.ref 633), some (.int x), some (.int c), some (.int tx), some (.int sn), some (.int kk), some (.int wh), some (.int vv)] [.int wh, .int c, .ref 633, .int sn, .ref 649] M v M' 0 0 := Ev.back 3 (fun n => rfl) H
    obtain ⟨e1, rfl⟩ := Ev.dpos rfl rfl H
    obtain ⟨vK24, MK24, K24, H⟩ := Ev.callb (fun n_ => gs_7 rfl rfl (show gCal (.invokevirtual 334) 11 (.int wh :: .int c :: .ref 633 :: [.int sn, .ref 649]) M = some (.inr (186, [some (.ref 633), some (.int c), some (.int wh)], [.int sn, .ref 649])) from by show @cond (Option ((List Value × Mem) ⊕ (Nat × Lo × List Value))) (true && gRecv M (.ref 633) 11 && gRoom [.int sn, .ref 649] && true) (some (.inr (186, [some (.ref 633), some (.int c), some (.int wh)], [.int sn, .ref 649]))) none = _; rw [recv_s hS.1 qa_633 qo_61]; rfl)) H
    have K24 : Ev none e1 186 0 [some (.ref 633), some (.int c), some (.int wh)] [] M vK24 MK24 0 0 := K24
    have HF := H
    exact Or.inr (Or.inr (Or.inr (Or.inr (Or.inr (Or.inr (⟨h1, ⟨e1, vK24, MK24, rfl, K24, HF⟩⟩))))))
theorem rho_266 {e : Nat} {M M' : Mem} {v : Option Value} {x c tx sn kk wh vv y z : Int32} (hS : SQ M) (H : Ev none e 187 266 [some (.ref 633), some (.int x), some (.int c), some (.int tx), some (.int sn), some (.int kk), some (.int wh), some (.int vv)] [.int y, .int z, .ref 649] M v M' 0 0) : (0 ≤ z.toInt ∧ z.toInt < 60) ∧ Ev none e 187 39 [some (.ref 633), some (.int x), some (.int c), some (.int tx), some (.int (sn + 1)), some (.int (kk + 1)), some (.int wh), some (.int vv)] [] (wI M 649 z.toNatClampNeg (vp_nar .boolean y)) v M' 0 0 := by
  have H : Ev none e 187 350 [some (.ref 633), some (.int x), some (.int c), some (.int tx), some (.int sn), some (.int kk), some (.int wh), some (.int vv)] [.int y, .int z, .ref 649] M v M' 0 0 := Ev.back 1 (fun n => rfl) H
  obtain ⟨b1, H⟩ := Ev.bas3 rfl rfl hS.1 qa_649 qw_77 H
  obtain ⟨N2, eN2⟩ : ∃ N, N = (wI M 649 z.toNatClampNeg (vp_nar .boolean y)) := ⟨_, rfl⟩
  have hN2 : SQ N2 := by rw [eN2]; exact hS.ki
  have H : Ev none e 187 351 [some (.ref 633), some (.int x), some (.int c), some (.int tx), some (.int sn), some (.int kk), some (.int wh), some (.int vv)] [] N2 v M' 0 0 := by rw [eN2]; exact H
  have H : Ev none e 187 39 [some (.ref 633), some (.int x), some (.int c), some (.int tx), some (.int (sn + 1)), some (.int (kk + 1)), some (.int wh), some (.int vv)] [] N2 v M' 0 0 := Ev.back 3 (fun n => rfl) H
  have HF := H
  subst eN2
  exact ⟨b1, HF⟩
