/-! THE REFERENCE'S walking: small ones, holds: pieces (made by gref.py) -/
noncomputable def G_141 (M : Mem) (x : Int32) : Int32 := if 0 ≤ x then x else -x
theorem g_141 {e : Nat} {M M' : Mem} {v : Option Value} {x : Int32} (hS : SQ M) (H : Ev none e 141 0 [some (.int x)] [] M v M' 0 0) : v = some (.int (G_141 M x)) ∧ M' = M := by
  unfold G_141
  have H : Ev none e 141 (if 0 ≤ x then 9 else 4) [some (.int x)] [] M v M' 0 0 := Ev.back 2 (fun n => rfl) H
  by_cases h1 : 0 ≤ x
  · rw [if_pos h1] at H
    have H : Ev none e 141 10 [some (.int x)] [.int x] M v M' 0 0 := Ev.back 1 (fun n => rfl) H
    obtain ⟨p1, p2⟩ := Ev.retz rfl rfl H
    exact ⟨by rw [if_pos h1]; exact p1, p2⟩
  · rw [if_neg h1] at H
    have H : Ev none e 141 10 [some (.int x)] [.int (-x)] M v M' 0 0 := Ev.back 3 (fun n => rfl) H
    obtain ⟨p1, p2⟩ := Ev.retz rfl rfl H
    exact ⟨by rw [if_neg h1]; exact p1, p2⟩
noncomputable def G_144 (M : Mem) : Int32 := (rI M 635 0) * (rI M 635 1)
theorem g_144 {e : Nat} {M M' : Mem} {v : Option Value} (hS : SQ M) (H : Ev none e 144 0 [some (.ref 633)] [] M v M' 0 0) : v = some (.int (G_144 M)) ∧ M' = M := by
  unfold G_144
  have H : Ev none e 144 1 [some (.ref 633)] [.ref 633] M v M' 0 0 := Ev.back 1 (fun n => rfl) H
  have H : Ev none e 144 4 [some (.ref 633)] [.ref 635] M v M' 0 0 := Ev.back 1 (gs_3 rfl rfl (gf_u hS.1 qa_633 qr_61_5 qu_63 rfl)) H
  have H : Ev none e 144 5 [some (.ref 633)] [.int 0, .ref 635] M v M' 0 0 := Ev.back 1 (fun n => rfl) H
  obtain ⟨b1, H⟩ := Ev.ial rfl rfl hS.1 qa_635 qw_63 H
  have H : Ev none e 144 6 [some (.ref 633)] [.int (rI M 635 0)] M v M' 0 0 := H
  have H : Ev none e 144 7 [some (.ref 633)] [.ref 633, .int (rI M 635 0)] M v M' 0 0 := Ev.back 1 (fun n => rfl) H
  have H : Ev none e 144 10 [some (.ref 633)] [.ref 635, .int (rI M 635 0)] M v M' 0 0 := Ev.back 1 (gs_3 rfl rfl (gf_u hS.1 qa_633 qr_61_5 qu_63 rfl)) H
  have H : Ev none e 144 11 [some (.ref 633)] [.int 1, .ref 635, .int (rI M 635 0)] M v M' 0 0 := Ev.back 1 (fun n => rfl) H
  obtain ⟨b2, H⟩ := Ev.ial rfl rfl hS.1 qa_635 qw_63 H
  have H : Ev none e 144 12 [some (.ref 633)] [.int (rI M 635 1), .int (rI M 635 0)] M v M' 0 0 := H
  have H : Ev none e 144 13 [some (.ref 633)] [.int ((rI M 635 0) * (rI M 635 1))] M v M' 0 0 := Ev.back 1 (fun n => rfl) H
  obtain ⟨p1, p2⟩ := Ev.retz rfl rfl H
  exact ⟨p1, p2⟩
noncomputable def G_146 (M : Mem) (c : Int32) (wh : Int32) : Int32 := rI M 635 ((522 + (7 * c)) + wh)
theorem g_146 {e : Nat} {M M' : Mem} {v : Option Value} {c wh : Int32} (hS : SQ M) (H : Ev none e 146 0 [some (.ref 633), some (.int c), some (.int wh)] [] M v M' 0 0) : v = some (.int (G_146 M c wh)) ∧ M' = M := by
  unfold G_146
  have H : Ev none e 146 1 [some (.ref 633), some (.int c), some (.int wh)] [.ref 633] M v M' 0 0 := Ev.back 1 (fun n => rfl) H
  have H : Ev none e 146 4 [some (.ref 633), some (.int c), some (.int wh)] [.ref 635] M v M' 0 0 := Ev.back 1 (gs_3 rfl rfl (gf_u hS.1 qa_633 qr_61_5 qu_63 rfl)) H
  have H : Ev none e 146 14 [some (.ref 633), some (.int c), some (.int wh)] [.int ((522 + (7 * c)) + wh), .ref 635] M v M' 0 0 := Ev.back 7 (fun n => rfl) H
  obtain ⟨b1, H⟩ := Ev.ial rfl rfl hS.1 qa_635 qw_63 H
  have H : Ev none e 146 15 [some (.ref 633), some (.int c), some (.int wh)] [.int (rI M 635 ((522 + (7 * c)) + wh))] M v M' 0 0 := H
  obtain ⟨p1, p2⟩ := Ev.retz rfl rfl H
  exact ⟨p1, p2⟩
noncomputable def X_147 (M : Mem) (c : Int32) (wh : Int32) (vv : Int32) : Mem := (wI M 635 (((522 + (7 * c)) + wh).toNatClampNeg) vv)
theorem g_147 {e : Nat} {M M' : Mem} {v : Option Value} {c wh vv : Int32} (hS : SQ M) (H : Ev none e 147 0 [some (.ref 633), some (.int c), some (.int wh), some (.int vv)] [] M v M' 0 0) : v = none ∧ M' = X_147 M c wh vv := by
  unfold X_147
  have H : Ev none e 147 1 [some (.ref 633), some (.int c), some (.int wh), some (.int vv)] [.ref 633] M v M' 0 0 := Ev.back 1 (fun n => rfl) H
  have H : Ev none e 147 4 [some (.ref 633), some (.int c), some (.int wh), some (.int vv)] [.ref 635] M v M' 0 0 := Ev.back 1 (gs_3 rfl rfl (gf_u hS.1 qa_633 qr_61_5 qu_63 rfl)) H
  have H : Ev none e 147 15 [some (.ref 633), some (.int c), some (.int wh), some (.int vv)] [.int vv, .int ((522 + (7 * c)) + wh), .ref 635] M v M' 0 0 := Ev.back 8 (fun n => rfl) H
  obtain ⟨b1, H⟩ := Ev.ias rfl rfl hS.1 qa_635 qw_63 H
  obtain ⟨N2, eN2⟩ : ∃ N, N = (wI M 635 (((522 + (7 * c)) + wh).toNatClampNeg) vv) := ⟨_, rfl⟩
  have hN2 : SQ N2 := by rw [eN2]; exact hS.ki
  have H : Ev none e 147 16 [some (.ref 633), some (.int c), some (.int wh), some (.int vv)] [] N2 v M' 0 0 := by rw [eN2]; exact H
  obtain ⟨p1, p2⟩ := Ev.retb (fun n => rfl) H
  subst eN2
  exact ⟨p1, p2⟩
theorem X_147_sx {M : Mem} {c wh vv : Int32} (hS : SQ M) : SQ (X_147 M c wh vv) := by
  unfold X_147
  exact hS.ki
noncomputable def G_148 (M : Mem) (c : Int32) : Int32 := if (G_146 M c 0) = 3 then 0 else (if (G_146 M c 0) = 6 then 0 else 1)
theorem g_148 {e : Nat} {M M' : Mem} {v : Option Value} {c : Int32} (hS : SQ M) (H : Ev none e 148 0 [some (.ref 633), some (.int c)] [] M v M' 0 0) : v = some (.int (G_148 M c)) ∧ M' = M := by
  unfold G_148
  have H : Ev none e 148 3 [some (.ref 633), some (.int c)] [.int 0, .int c, .ref 633] M v M' 0 0 := Ev.back 3 (fun n => rfl) H
  obtain ⟨e1, rfl⟩ := Ev.dpos rfl rfl H
  obtain ⟨vK1, MK1, K1, H⟩ := Ev.callb (fun n_ => gs_7 rfl rfl (show gCal (.invokevirtual 136) 11 (.int 0 :: .int c :: .ref 633 :: []) M = some (.inr (146, [some (.ref 633), some (.int c), some (.int 0)], [])) from by show @cond (Option ((List Value × Mem) ⊕ (Nat × Lo × List Value))) (true && gRecv M (.ref 633) 11 && gRoom [] && true) (some (.inr (146, [some (.ref 633), some (.int c), some (.int 0)], []))) none = _; rw [recv_s hS.1 qa_633 qo_61]; rfl)) H
  obtain ⟨pK1, qK1⟩ := g_146 hS K1
  rw [pK1, qK1] at H
  have H : Ev none (e1 + 1) 148 6 [some (.ref 633), some (.int c)] [.int (G_146 M c 0)] M v M' 0 0 := H
  have H : Ev none (e1 + 1) 148 (if (G_146 M c 0) = 3 then 25 else 10) [some (.ref 633), some (.int c)] [] M v M' 0 0 := Ev.back 2 (fun n => rfl) H
  by_cases h2 : (G_146 M c 0) = 3
  · rw [if_pos h2] at H
    have H : Ev none (e1 + 1) 148 26 [some (.ref 633), some (.int c)] [.int 0] M v M' 0 0 := Ev.back 1 (fun n => rfl) H
    obtain ⟨p1, p2⟩ := Ev.retz rfl rfl H
    exact ⟨by rw [if_pos h2]; exact p1, p2⟩
  · rw [if_neg h2] at H
    have H : Ev none (e1 + 1) 148 13 [some (.ref 633), some (.int c)] [.int 0, .int c, .ref 633] M v M' 0 0 := Ev.back 3 (fun n => rfl) H
    obtain ⟨vK3, MK3, K3, H⟩ := Ev.callb (fun n_ => gs_7 rfl rfl (show gCal (.invokevirtual 136) 11 (.int 0 :: .int c :: .ref 633 :: []) M = some (.inr (146, [some (.ref 633), some (.int c), some (.int 0)], [])) from by show @cond (Option ((List Value × Mem) ⊕ (Nat × Lo × List Value))) (true && gRecv M (.ref 633) 11 && gRoom [] && true) (some (.inr (146, [some (.ref 633), some (.int c), some (.int 0)], []))) none = _; rw [recv_s hS.1 qa_633 qo_61]; rfl)) H
    obtain ⟨pK3, qK3⟩ := g_146 hS K3
    rw [pK3, qK3] at H
    have H : Ev none (e1 + 1) 148 16 [some (.ref 633), some (.int c)] [.int (G_146 M c 0)] M v M' 0 0 := H
    have H : Ev none (e1 + 1) 148 (if (G_146 M c 0) = 6 then 25 else 21) [some (.ref 633), some (.int c)] [] M v M' 0 0 := Ev.back 2 (fun n => rfl) H
    by_cases h4 : (G_146 M c 0) = 6
    · rw [if_pos h4] at H
      have H : Ev none (e1 + 1) 148 26 [some (.ref 633), some (.int c)] [.int 0] M v M' 0 0 := Ev.back 1 (fun n => rfl) H
      obtain ⟨p1, p2⟩ := Ev.retz rfl rfl H
      exact ⟨by rw [if_neg h2, if_pos h4]; exact p1, p2⟩
    · rw [if_neg h4] at H
      have H : Ev none (e1 + 1) 148 26 [some (.ref 633), some (.int c)] [.int 1] M v M' 0 0 := Ev.back 2 (fun n => rfl) H
      obtain ⟨p1, p2⟩ := Ev.retz rfl rfl H
      exact ⟨by rw [if_neg h2, if_neg h4]; exact p1, p2⟩
noncomputable def G_149 (M : Mem) (c : Int32) : Int32 := if (G_146 M c 0) = 0 then 1 else (if (G_146 M c 0) = 2 then 1 else 0)
theorem g_149 {e : Nat} {M M' : Mem} {v : Option Value} {c : Int32} (hS : SQ M) (H : Ev none e 149 0 [some (.ref 633), some (.int c)] [] M v M' 0 0) : v = some (.int (G_149 M c)) ∧ M' = M := by
  unfold G_149
  have H : Ev none e 149 3 [some (.ref 633), some (.int c)] [.int 0, .int c, .ref 633] M v M' 0 0 := Ev.back 3 (fun n => rfl) H
  obtain ⟨e1, rfl⟩ := Ev.dpos rfl rfl H
  obtain ⟨vK1, MK1, K1, H⟩ := Ev.callb (fun n_ => gs_7 rfl rfl (show gCal (.invokevirtual 136) 11 (.int 0 :: .int c :: .ref 633 :: []) M = some (.inr (146, [some (.ref 633), some (.int c), some (.int 0)], [])) from by show @cond (Option ((List Value × Mem) ⊕ (Nat × Lo × List Value))) (true && gRecv M (.ref 633) 11 && gRoom [] && true) (some (.inr (146, [some (.ref 633), some (.int c), some (.int 0)], []))) none = _; rw [recv_s hS.1 qa_633 qo_61]; rfl)) H
  obtain ⟨pK1, qK1⟩ := g_146 hS K1
  rw [pK1, qK1] at H
  have H : Ev none (e1 + 1) 149 6 [some (.ref 633), some (.int c)] [.int (G_146 M c 0)] M v M' 0 0 := H
  have H : Ev none (e1 + 1) 149 (if (G_146 M c 0) = 0 then 19 else 9) [some (.ref 633), some (.int c)] [] M v M' 0 0 := Ev.back 1 (fun n => rfl) H
  by_cases h2 : (G_146 M c 0) = 0
  · rw [if_pos h2] at H
    have H : Ev none (e1 + 1) 149 24 [some (.ref 633), some (.int c)] [.int 1] M v M' 0 0 := Ev.back 2 (fun n => rfl) H
    obtain ⟨p1, p2⟩ := Ev.retz rfl rfl H
    exact ⟨by rw [if_pos h2]; exact p1, p2⟩
  · rw [if_neg h2] at H
    have H : Ev none (e1 + 1) 149 12 [some (.ref 633), some (.int c)] [.int 0, .int c, .ref 633] M v M' 0 0 := Ev.back 3 (fun n => rfl) H
    obtain ⟨vK3, MK3, K3, H⟩ := Ev.callb (fun n_ => gs_7 rfl rfl (show gCal (.invokevirtual 136) 11 (.int 0 :: .int c :: .ref 633 :: []) M = some (.inr (146, [some (.ref 633), some (.int c), some (.int 0)], [])) from by show @cond (Option ((List Value × Mem) ⊕ (Nat × Lo × List Value))) (true && gRecv M (.ref 633) 11 && gRoom [] && true) (some (.inr (146, [some (.ref 633), some (.int c), some (.int 0)], []))) none = _; rw [recv_s hS.1 qa_633 qo_61]; rfl)) H
    obtain ⟨pK3, qK3⟩ := g_146 hS K3
    rw [pK3, qK3] at H
    have H : Ev none (e1 + 1) 149 15 [some (.ref 633), some (.int c)] [.int (G_146 M c 0)] M v M' 0 0 := H
    have H : Ev none (e1 + 1) 149 (if (G_146 M c 0) = 2 then 19 else 23) [some (.ref 633), some (.int c)] [] M v M' 0 0 := Ev.back 2 (fun n => rfl) H
    by_cases h4 : (G_146 M c 0) = 2
    · rw [if_pos h4] at H
      have H : Ev none (e1 + 1) 149 24 [some (.ref 633), some (.int c)] [.int 1] M v M' 0 0 := Ev.back 2 (fun n => rfl) H
      obtain ⟨p1, p2⟩ := Ev.retz rfl rfl H
      exact ⟨by rw [if_neg h2, if_pos h4]; exact p1, p2⟩
    · rw [if_neg h4] at H
      have H : Ev none (e1 + 1) 149 24 [some (.ref 633), some (.int c)] [.int 0] M v M' 0 0 := Ev.back 1 (fun n => rfl) H
      obtain ⟨p1, p2⟩ := Ev.retz rfl rfl H
      exact ⟨by rw [if_neg h2, if_neg h4]; exact p1, p2⟩
noncomputable def G_150 (M : Mem) (c : Int32) : Int32 := if (G_146 M c 3) < (zI M 633 28) then 0 else 1
theorem g_150 {e : Nat} {M M' : Mem} {v : Option Value} {c : Int32} (hS : SQ M) (H : Ev none e 150 0 [some (.ref 633), some (.int c)] [] M v M' 0 0) : v = some (.int (G_150 M c)) ∧ M' = M := by
  unfold G_150
  have H : Ev none e 150 3 [some (.ref 633), some (.int c)] [.int 3, .int c, .ref 633] M v M' 0 0 := Ev.back 3 (fun n => rfl) H
  obtain ⟨e1, rfl⟩ := Ev.dpos rfl rfl H
  obtain ⟨vK1, MK1, K1, H⟩ := Ev.callb (fun n_ => gs_7 rfl rfl (show gCal (.invokevirtual 136) 11 (.int 3 :: .int c :: .ref 633 :: []) M = some (.inr (146, [some (.ref 633), some (.int c), some (.int 3)], [])) from by show @cond (Option ((List Value × Mem) ⊕ (Nat × Lo × List Value))) (true && gRecv M (.ref 633) 11 && gRoom [] && true) (some (.inr (146, [some (.ref 633), some (.int c), some (.int 3)], []))) none = _; rw [recv_s hS.1 qa_633 qo_61]; rfl)) H
  obtain ⟨pK1, qK1⟩ := g_146 hS K1
  rw [pK1, qK1] at H
  have H : Ev none (e1 + 1) 150 6 [some (.ref 633), some (.int c)] [.int (G_146 M c 3)] M v M' 0 0 := H
  have H : Ev none (e1 + 1) 150 7 [some (.ref 633), some (.int c)] [.ref 633, .int (G_146 M c 3)] M v M' 0 0 := Ev.back 1 (fun n => rfl) H
  have H : Ev none (e1 + 1) 150 10 [some (.ref 633), some (.int c)] [.int (zI M 633 28), .int (G_146 M c 3)] M v M' 0 0 := Ev.back 1 (gs_3 rfl rfl (gf_i hS.1 qa_633 qi_61_28 rfl)) H
  have H : Ev none (e1 + 1) 150 (if (G_146 M c 3) < (zI M 633 28) then 17 else 13) [some (.ref 633), some (.int c)] [] M v M' 0 0 := Ev.back 1 (fun n => rfl) H
  by_cases h2 : (G_146 M c 3) < (zI M 633 28)
  · rw [if_pos h2] at H
    have H : Ev none (e1 + 1) 150 18 [some (.ref 633), some (.int c)] [.int 0] M v M' 0 0 := Ev.back 1 (fun n => rfl) H
    obtain ⟨p1, p2⟩ := Ev.retz rfl rfl H
    exact ⟨by rw [if_pos h2]; exact p1, p2⟩
  · rw [if_neg h2] at H
    have H : Ev none (e1 + 1) 150 18 [some (.ref 633), some (.int c)] [.int 1] M v M' 0 0 := Ev.back 2 (fun n => rfl) H
    obtain ⟨p1, p2⟩ := Ev.retz rfl rfl H
    exact ⟨by rw [if_neg h2]; exact p1, p2⟩
noncomputable def G_151 (M : Mem) (c : Int32) : Int32 := if (G_150 M c) = 0 then 0 else (if (G_146 M c 4) < (zI M 633 29) then 0 else 1)
theorem g_151 {e : Nat} {M M' : Mem} {v : Option Value} {c : Int32} (hS : SQ M) (H : Ev none e 151 0 [some (.ref 633), some (.int c)] [] M v M' 0 0) : v = some (.int (G_151 M c)) ∧ M' = M := by
  unfold G_151
  have H : Ev none e 151 2 [some (.ref 633), some (.int c)] [.int c, .ref 633] M v M' 0 0 := Ev.back 2 (fun n => rfl) H
  obtain ⟨e1, rfl⟩ := Ev.dpos rfl rfl H
  obtain ⟨vK1, MK1, K1, H⟩ := Ev.callb (fun n_ => gs_7 rfl rfl (show gCal (.invokevirtual 140) 11 (.int c :: .ref 633 :: []) M = some (.inr (150, [some (.ref 633), some (.int c)], [])) from by show @cond (Option ((List Value × Mem) ⊕ (Nat × Lo × List Value))) (true && gRecv M (.ref 633) 11 && gRoom [] && true) (some (.inr (150, [some (.ref 633), some (.int c)], []))) none = _; rw [recv_s hS.1 qa_633 qo_61]; rfl)) H
  obtain ⟨pK1, qK1⟩ := g_150 hS K1
  rw [pK1, qK1] at H
  have H : Ev none (e1 + 1) 151 5 [some (.ref 633), some (.int c)] [.int (G_150 M c)] M v M' 0 0 := H
  have H : Ev none (e1 + 1) 151 (if (G_150 M c) = 0 then 25 else 8) [some (.ref 633), some (.int c)] [] M v M' 0 0 := Ev.back 1 (fun n => rfl) H
  by_cases h2 : (G_150 M c) = 0
  · rw [if_pos h2] at H
    have H : Ev none (e1 + 1) 151 26 [some (.ref 633), some (.int c)] [.int 0] M v M' 0 0 := Ev.back 1 (fun n => rfl) H
    obtain ⟨p1, p2⟩ := Ev.retz rfl rfl H
    exact ⟨by rw [if_pos h2]; exact p1, p2⟩
  · rw [if_neg h2] at H
    have H : Ev none (e1 + 1) 151 11 [some (.ref 633), some (.int c)] [.int 4, .int c, .ref 633] M v M' 0 0 := Ev.back 3 (fun n => rfl) H
    obtain ⟨vK3, MK3, K3, H⟩ := Ev.callb (fun n_ => gs_7 rfl rfl (show gCal (.invokevirtual 136) 11 (.int 4 :: .int c :: .ref 633 :: []) M = some (.inr (146, [some (.ref 633), some (.int c), some (.int 4)], [])) from by show @cond (Option ((List Value × Mem) ⊕ (Nat × Lo × List Value))) (true && gRecv M (.ref 633) 11 && gRoom [] && true) (some (.inr (146, [some (.ref 633), some (.int c), some (.int 4)], []))) none = _; rw [recv_s hS.1 qa_633 qo_61]; rfl)) H
    obtain ⟨pK3, qK3⟩ := g_146 hS K3
    rw [pK3, qK3] at H
    have H : Ev none (e1 + 1) 151 14 [some (.ref 633), some (.int c)] [.int (G_146 M c 4)] M v M' 0 0 := H
    have H : Ev none (e1 + 1) 151 15 [some (.ref 633), some (.int c)] [.ref 633, .int (G_146 M c 4)] M v M' 0 0 := Ev.back 1 (fun n => rfl) H
    have H : Ev none (e1 + 1) 151 18 [some (.ref 633), some (.int c)] [.int (zI M 633 29), .int (G_146 M c 4)] M v M' 0 0 := Ev.back 1 (gs_3 rfl rfl (gf_i hS.1 qa_633 qi_61_29 rfl)) H
    have H : Ev none (e1 + 1) 151 (if (G_146 M c 4) < (zI M 633 29) then 25 else 21) [some (.ref 633), some (.int c)] [] M v M' 0 0 := Ev.back 1 (fun n => rfl) H
    by_cases h4 : (G_146 M c 4) < (zI M 633 29)
    · rw [if_pos h4] at H
      have H : Ev none (e1 + 1) 151 26 [some (.ref 633), some (.int c)] [.int 0] M v M' 0 0 := Ev.back 1 (fun n => rfl) H
      obtain ⟨p1, p2⟩ := Ev.retz rfl rfl H
      exact ⟨by rw [if_neg h2, if_pos h4]; exact p1, p2⟩
    · rw [if_neg h4] at H
      have H : Ev none (e1 + 1) 151 26 [some (.ref 633), some (.int c)] [.int 1] M v M' 0 0 := Ev.back 2 (fun n => rfl) H
      obtain ⟨p1, p2⟩ := Ev.retz rfl rfl H
      exact ⟨by rw [if_neg h2, if_neg h4]; exact p1, p2⟩
noncomputable def G_192 (M : Mem) (d : Int32) : Int32 := if (d - d / 4 * 4) = 0 then 0 else (if 4 ≤ d then (-1) else 1)
theorem g_192 {e : Nat} {M M' : Mem} {v : Option Value} {d : Int32} (hS : SQ M) (H : Ev none e 192 0 [some (.int d)] [] M v M' 0 0) : v = some (.int (G_192 M d)) ∧ M' = M := by
  unfold G_192
  have H : Ev none e 192 (if (d - d / 4 * 4) = 0 then 6 else 10) [some (.int d)] [] M v M' 0 0 := Ev.back 4 (fun n => rfl) H
  by_cases h1 : (d - d / 4 * 4) = 0
  · rw [if_pos h1] at H
    have H : Ev none e 192 20 [some (.int d)] [.int 0] M v M' 0 0 := Ev.back 2 (fun n => rfl) H
    obtain ⟨p1, p2⟩ := Ev.retz rfl rfl H
    exact ⟨by rw [if_pos h1]; exact p1, p2⟩
  · rw [if_neg h1] at H
    have H : Ev none e 192 (if 4 ≤ d then 19 else 15) [some (.int d)] [] M v M' 0 0 := Ev.back 3 (fun n => rfl) H
    by_cases h2 : 4 ≤ d
    · rw [if_pos h2] at H
      have H : Ev none e 192 20 [some (.int d)] [.int (-1)] M v M' 0 0 := Ev.back 1 (fun n => rfl) H
      obtain ⟨p1, p2⟩ := Ev.retz rfl rfl H
      exact ⟨by rw [if_neg h1, if_pos h2]; exact p1, p2⟩
    · rw [if_neg h2] at H
      have H : Ev none e 192 20 [some (.int d)] [.int 1] M v M' 0 0 := Ev.back 2 (fun n => rfl) H
      obtain ⟨p1, p2⟩ := Ev.retz rfl rfl H
      exact ⟨by rw [if_neg h1, if_neg h2]; exact p1, p2⟩
noncomputable def G_193 (M : Mem) (d : Int32) : Int32 := if (d - d / 4 * 4) = 2 then 0 else (if (G_140 M d 3 5) = 0 then (-1) else 1)
theorem g_193 {e : Nat} {M M' : Mem} {v : Option Value} {d : Int32} (hS : SQ M) (H : Ev none e 193 0 [some (.int d)] [] M v M' 0 0) : v = some (.int (G_193 M d)) ∧ M' = M := by
  unfold G_193
  have H : Ev none e 193 (if (d - d / 4 * 4) = 2 then 7 else 11) [some (.int d)] [] M v M' 0 0 := Ev.back 5 (fun n => rfl) H
  by_cases h1 : (d - d / 4 * 4) = 2
  · rw [if_pos h1] at H
    have H : Ev none e 193 25 [some (.int d)] [.int 0] M v M' 0 0 := Ev.back 2 (fun n => rfl) H
    obtain ⟨p1, p2⟩ := Ev.retz rfl rfl H
    exact ⟨by rw [if_pos h1]; exact p1, p2⟩
  · rw [if_neg h1] at H
    have H : Ev none e 193 14 [some (.int d)] [.int 5, .int 3, .int d] M v M' 0 0 := Ev.back 3 (fun n => rfl) H
    obtain ⟨e1, rfl⟩ := Ev.dpos rfl rfl H
    obtain ⟨vK2, MK2, K2, H⟩ := Ev.callb (fun n => rfl) H
    obtain ⟨pK2, qK2⟩ := g_140 hS K2
    rw [pK2, qK2] at H
    have H : Ev none (e1 + 1) 193 17 [some (.int d)] [.int (G_140 M d 3 5)] M v M' 0 0 := H
    have H : Ev none (e1 + 1) 193 (if (G_140 M d 3 5) = 0 then 24 else 20) [some (.int d)] [] M v M' 0 0 := Ev.back 1 (fun n => rfl) H
    by_cases h3 : (G_140 M d 3 5) = 0
    · rw [if_pos h3] at H
      have H : Ev none (e1 + 1) 193 25 [some (.int d)] [.int (-1)] M v M' 0 0 := Ev.back 1 (fun n => rfl) H
      obtain ⟨p1, p2⟩ := Ev.retz rfl rfl H
      exact ⟨by rw [if_neg h1, if_pos h3]; exact p1, p2⟩
    · rw [if_neg h3] at H
      have H : Ev none (e1 + 1) 193 25 [some (.int d)] [.int 1] M v M' 0 0 := Ev.back 2 (fun n => rfl) H
      obtain ⟨p1, p2⟩ := Ev.retz rfl rfl H
      exact ⟨by rw [if_neg h1, if_neg h3]; exact p1, p2⟩
noncomputable def G_194 (M : Mem) (c : Int32) (d : Int32) : Int32 := if (G_140 M ((c - c / (rI M 635 0) * (rI M 635 0)) + (G_192 M d)) 0 ((rI M 635 0) - 1)) = 0 then (-1) else (if (G_140 M ((c / (rI M 635 0)) + (G_193 M d)) 0 ((rI M 635 1) - 1)) = 0 then (-1) else ((rI M 635 0) * ((c / (rI M 635 0)) + (G_193 M d))) + ((c - c / (rI M 635 0) * (rI M 635 0)) + (G_192 M d)))
theorem g_194 {e : Nat} {M M' : Mem} {v : Option Value} {c d : Int32} (hS : SQ M) (H : Ev none e 194 0 [some (.ref 633), some (.int c), some (.int d), none, none] [] M v M' 0 0) : v = some (.int (G_194 M c d)) ∧ M' = M := by
  unfold G_194
  have H : Ev none e 194 2 [some (.ref 633), some (.int c), some (.int d), none, none] [.ref 633, .int c] M v M' 0 0 := Ev.back 2 (fun n => rfl) H
  have H : Ev none e 194 5 [some (.ref 633), some (.int c), some (.int d), none, none] [.ref 635, .int c] M v M' 0 0 := Ev.back 1 (gs_3 rfl rfl (gf_u hS.1 qa_633 qr_61_5 qu_63 rfl)) H
  have H : Ev none e 194 6 [some (.ref 633), some (.int c), some (.int d), none, none] [.int 0, .ref 635, .int c] M v M' 0 0 := Ev.back 1 (fun n => rfl) H
  obtain ⟨b1, H⟩ := Ev.ial rfl rfl hS.1 qa_635 qw_63 H
  have H : Ev none e 194 7 [some (.ref 633), some (.int c), some (.int d), none, none] [.int (rI M 635 0), .int c] M v M' 0 0 := H
  obtain ⟨nz2, H⟩ := rm_i H rfl rfl
  have H : Ev none e 194 8 [some (.ref 633), some (.int c), some (.int d), none, none] [.int (c - c / (rI M 635 0) * (rI M 635 0))] M v M' 0 0 := H
  have H : Ev none e 194 9 [some (.ref 633), some (.int c), some (.int d), none, none] [.int d, .int (c - c / (rI M 635 0) * (rI M 635 0))] M v M' 0 0 := Ev.back 1 (fun n => rfl) H
  obtain ⟨e1, rfl⟩ := Ev.dpos rfl rfl H
  obtain ⟨vK3, MK3, K3, H⟩ := Ev.callb (fun n => rfl) H
  obtain ⟨pK3, qK3⟩ := g_192 hS K3
  rw [pK3, qK3] at H
  have H : Ev none (e1 + 1) 194 12 [some (.ref 633), some (.int c), some (.int d), none, none] [.int (G_192 M d), .int (c - c / (rI M 635 0) * (rI M 635 0))] M v M' 0 0 := H
  have H : Ev none (e1 + 1) 194 16 [some (.ref 633), some (.int c), some (.int d), some (.int ((c - c / (rI M 635 0) * (rI M 635 0)) + (G_192 M d))), none] [.ref 633, .int c] M v M' 0 0 := Ev.back 4 (fun n => rfl) H
  have H : Ev none (e1 + 1) 194 19 [some (.ref 633), some (.int c), some (.int d), some (.int ((c - c / (rI M 635 0) * (rI M 635 0)) + (G_192 M d))), none] [.ref 635, .int c] M v M' 0 0 := Ev.back 1 (gs_3 rfl rfl (gf_u hS.1 qa_633 qr_61_5 qu_63 rfl)) H
  have H : Ev none (e1 + 1) 194 20 [some (.ref 633), some (.int c), some (.int d), some (.int ((c - c / (rI M 635 0) * (rI M 635 0)) + (G_192 M d))), none] [.int 0, .ref 635, .int c] M v M' 0 0 := Ev.back 1 (fun n => rfl) H
  obtain ⟨b4, H⟩ := Ev.ial rfl rfl hS.1 qa_635 qw_63 H
  have H : Ev none (e1 + 1) 194 21 [some (.ref 633), some (.int c), some (.int d), some (.int ((c - c / (rI M 635 0) * (rI M 635 0)) + (G_192 M d))), none] [.int (rI M 635 0), .int c] M v M' 0 0 := H
  obtain ⟨nz5, H⟩ := dv_i H rfl rfl
  have H : Ev none (e1 + 1) 194 22 [some (.ref 633), some (.int c), some (.int d), some (.int ((c - c / (rI M 635 0) * (rI M 635 0)) + (G_192 M d))), none] [.int (c / (rI M 635 0))] M v M' 0 0 := H
  have H : Ev none (e1 + 1) 194 23 [some (.ref 633), some (.int c), some (.int d), some (.int ((c - c / (rI M 635 0) * (rI M 635 0)) + (G_192 M d))), none] [.int d, .int (c / (rI M 635 0))] M v M' 0 0 := Ev.back 1 (fun n => rfl) H
  obtain ⟨vK6, MK6, K6, H⟩ := Ev.callb (fun n => rfl) H
  obtain ⟨pK6, qK6⟩ := g_193 hS K6
  rw [pK6, qK6] at H
  have H : Ev none (e1 + 1) 194 26 [some (.ref 633), some (.int c), some (.int d), some (.int ((c - c / (rI M 635 0) * (rI M 635 0)) + (G_192 M d))), none] [.int (G_193 M d), .int (c / (rI M 635 0))] M v M' 0 0 := H
  have H : Ev none (e1 + 1) 194 32 [some (.ref 633), some (.int c), some (.int d), some (.int ((c - c / (rI M 635 0) * (rI M 635 0)) + (G_192 M d))), some (.int ((c / (rI M 635 0)) + (G_193 M d)))] [.ref 633, .int 0, .int ((c - c / (rI M 635 0) * (rI M 635 0)) + (G_192 M d))] M v M' 0 0 := Ev.back 5 (fun n => rfl) H
  have H : Ev none (e1 + 1) 194 35 [some (.ref 633), some (.int c), some (.int d), some (.int ((c - c / (rI M 635 0) * (rI M 635 0)) + (G_192 M d))), some (.int ((c / (rI M 635 0)) + (G_193 M d)))] [.ref 635, .int 0, .int ((c - c / (rI M 635 0) * (rI M 635 0)) + (G_192 M d))] M v M' 0 0 := Ev.back 1 (gs_3 rfl rfl (gf_u hS.1 qa_633 qr_61_5 qu_63 rfl)) H
  have H : Ev none (e1 + 1) 194 36 [some (.ref 633), some (.int c), some (.int d), some (.int ((c - c / (rI M 635 0) * (rI M 635 0)) + (G_192 M d))), some (.int ((c / (rI M 635 0)) + (G_193 M d)))] [.int 0, .ref 635, .int 0, .int ((c - c / (rI M 635 0) * (rI M 635 0)) + (G_192 M d))] M v M' 0 0 := Ev.back 1 (fun n => rfl) H
  obtain ⟨b7, H⟩ := Ev.ial rfl rfl hS.1 qa_635 qw_63 H
  have H : Ev none (e1 + 1) 194 37 [some (.ref 633), some (.int c), some (.int d), some (.int ((c - c / (rI M 635 0) * (rI M 635 0)) + (G_192 M d))), some (.int ((c / (rI M 635 0)) + (G_193 M d)))] [.int (rI M 635 0), .int 0, .int ((c - c / (rI M 635 0) * (rI M 635 0)) + (G_192 M d))] M v M' 0 0 := H
  have H : Ev none (e1 + 1) 194 39 [some (.ref 633), some (.int c), some (.int d), some (.int ((c - c / (rI M 635 0) * (rI M 635 0)) + (G_192 M d))), some (.int ((c / (rI M 635 0)) + (G_193 M d)))] [.int ((rI M 635 0) - 1), .int 0, .int ((c - c / (rI M 635 0) * (rI M 635 0)) + (G_192 M d))] M v M' 0 0 := Ev.back 2 (fun n => rfl) H
  obtain ⟨vK8, MK8, K8, H⟩ := Ev.callb (fun n => rfl) H
  obtain ⟨pK8, qK8⟩ := g_140 hS K8
  rw [pK8, qK8] at H
  have H : Ev none (e1 + 1) 194 42 [some (.ref 633), some (.int c), some (.int d), some (.int ((c - c / (rI M 635 0) * (rI M 635 0)) + (G_192 M d))), some (.int ((c / (rI M 635 0)) + (G_193 M d)))] [.int (G_140 M ((c - c / (rI M 635 0) * (rI M 635 0)) + (G_192 M d)) 0 ((rI M 635 0) - 1))] M v M' 0 0 := H
  have H : Ev none (e1 + 1) 194 (if (G_140 M ((c - c / (rI M 635 0) * (rI M 635 0)) + (G_192 M d)) 0 ((rI M 635 0) - 1)) = 0 then 76 else 45) [some (.ref 633), some (.int c), some (.int d), some (.int ((c - c / (rI M 635 0) * (rI M 635 0)) + (G_192 M d))), some (.int ((c / (rI M 635 0)) + (G_193 M d)))] [] M v M' 0 0 := Ev.back 1 (fun n => rfl) H
  by_cases h9 : (G_140 M ((c - c / (rI M 635 0) * (rI M 635 0)) + (G_192 M d)) 0 ((rI M 635 0) - 1)) = 0
  · rw [if_pos h9] at H
    have H : Ev none (e1 + 1) 194 77 [some (.ref 633), some (.int c), some (.int d), some (.int ((c - c / (rI M 635 0) * (rI M 635 0)) + (G_192 M d))), some (.int ((c / (rI M 635 0)) + (G_193 M d)))] [.int (-1)] M v M' 0 0 := Ev.back 1 (fun n => rfl) H
    obtain ⟨p1, p2⟩ := Ev.retz rfl rfl H
    exact ⟨by rw [if_pos h9]; exact p1, p2⟩
  · rw [if_neg h9] at H
    have H : Ev none (e1 + 1) 194 49 [some (.ref 633), some (.int c), some (.int d), some (.int ((c - c / (rI M 635 0) * (rI M 635 0)) + (G_192 M d))), some (.int ((c / (rI M 635 0)) + (G_193 M d)))] [.ref 633, .int 0, .int ((c / (rI M 635 0)) + (G_193 M d))] M v M' 0 0 := Ev.back 3 (fun n => rfl) H
    have H : Ev none (e1 + 1) 194 52 [some (.ref 633), some (.int c), some (.int d), some (.int ((c - c / (rI M 635 0) * (rI M 635 0)) + (G_192 M d))), some (.int ((c / (rI M 635 0)) + (G_193 M d)))] [.ref 635, .int 0, .int ((c / (rI M 635 0)) + (G_193 M d))] M v M' 0 0 := Ev.back 1 (gs_3 rfl rfl (gf_u hS.1 qa_633 qr_61_5 qu_63 rfl)) H
    have H : Ev none (e1 + 1) 194 53 [some (.ref 633), some (.int c), some (.int d), some (.int ((c - c / (rI M 635 0) * (rI M 635 0)) + (G_192 M d))), some (.int ((c / (rI M 635 0)) + (G_193 M d)))] [.int 1, .ref 635, .int 0, .int ((c / (rI M 635 0)) + (G_193 M d))] M v M' 0 0 := Ev.back 1 (fun n => rfl) H
    obtain ⟨b10, H⟩ := Ev.ial rfl rfl hS.1 qa_635 qw_63 H
    have H : Ev none (e1 + 1) 194 54 [some (.ref 633), some (.int c), some (.int d), some (.int ((c - c / (rI M 635 0) * (rI M 635 0)) + (G_192 M d))), some (.int ((c / (rI M 635 0)) + (G_193 M d)))] [.int (rI M 635 1), .int 0, .int ((c / (rI M 635 0)) + (G_193 M d))] M v M' 0 0 := H
    have H : Ev none (e1 + 1) 194 56 [some (.ref 633), some (.int c), some (.int d), some (.int ((c - c / (rI M 635 0) * (rI M 635 0)) + (G_192 M d))), some (.int ((c / (rI M 635 0)) + (G_193 M d)))] [.int ((rI M 635 1) - 1), .int 0, .int ((c / (rI M 635 0)) + (G_193 M d))] M v M' 0 0 := Ev.back 2 (fun n => rfl) H
    obtain ⟨vK11, MK11, K11, H⟩ := Ev.callb (fun n => rfl) H
    obtain ⟨pK11, qK11⟩ := g_140 hS K11
    rw [pK11, qK11] at H
    have H : Ev none (e1 + 1) 194 59 [some (.ref 633), some (.int c), some (.int d), some (.int ((c - c / (rI M 635 0) * (rI M 635 0)) + (G_192 M d))), some (.int ((c / (rI M 635 0)) + (G_193 M d)))] [.int (G_140 M ((c / (rI M 635 0)) + (G_193 M d)) 0 ((rI M 635 1) - 1))] M v M' 0 0 := H
    have H : Ev none (e1 + 1) 194 (if (G_140 M ((c / (rI M 635 0)) + (G_193 M d)) 0 ((rI M 635 1) - 1)) = 0 then 76 else 62) [some (.ref 633), some (.int c), some (.int d), some (.int ((c - c / (rI M 635 0) * (rI M 635 0)) + (G_192 M d))), some (.int ((c / (rI M 635 0)) + (G_193 M d)))] [] M v M' 0 0 := Ev.back 1 (fun n => rfl) H
    by_cases h12 : (G_140 M ((c / (rI M 635 0)) + (G_193 M d)) 0 ((rI M 635 1) - 1)) = 0
    · rw [if_pos h12] at H
      have H : Ev none (e1 + 1) 194 77 [some (.ref 633), some (.int c), some (.int d), some (.int ((c - c / (rI M 635 0) * (rI M 635 0)) + (G_192 M d))), some (.int ((c / (rI M 635 0)) + (G_193 M d)))] [.int (-1)] M v M' 0 0 := Ev.back 1 (fun n => rfl) H
      obtain ⟨p1, p2⟩ := Ev.retz rfl rfl H
      exact ⟨by rw [if_neg h9, if_pos h12]; exact p1, p2⟩
    · rw [if_neg h12] at H
      have H : Ev none (e1 + 1) 194 63 [some (.ref 633), some (.int c), some (.int d), some (.int ((c - c / (rI M 635 0) * (rI M 635 0)) + (G_192 M d))), some (.int ((c / (rI M 635 0)) + (G_193 M d)))] [.ref 633] M v M' 0 0 := Ev.back 1 (fun n => rfl) H
      have H : Ev none (e1 + 1) 194 66 [some (.ref 633), some (.int c), some (.int d), some (.int ((c - c / (rI M 635 0) * (rI M 635 0)) + (G_192 M d))), some (.int ((c / (rI M 635 0)) + (G_193 M d)))] [.ref 635] M v M' 0 0 := Ev.back 1 (gs_3 rfl rfl (gf_u hS.1 qa_633 qr_61_5 qu_63 rfl)) H
      have H : Ev none (e1 + 1) 194 67 [some (.ref 633), some (.int c), some (.int d), some (.int ((c - c / (rI M 635 0) * (rI M 635 0)) + (G_192 M d))), some (.int ((c / (rI M 635 0)) + (G_193 M d)))] [.int 0, .ref 635] M v M' 0 0 := Ev.back 1 (fun n => rfl) H
      obtain ⟨b13, H⟩ := Ev.ial rfl rfl hS.1 qa_635 qw_63 H
      have H : Ev none (e1 + 1) 194 68 [some (.ref 633), some (.int c), some (.int d), some (.int ((c - c / (rI M 635 0) * (rI M 635 0)) + (G_192 M d))), some (.int ((c / (rI M 635 0)) + (G_193 M d)))] [.int (rI M 635 0)] M v M' 0 0 := H
      have H : Ev none (e1 + 1) 194 77 [some (.ref 633), some (.int c), some (.int d), some (.int ((c - c / (rI M 635 0) * (rI M 635 0)) + (G_192 M d))), some (.int ((c / (rI M 635 0)) + (G_193 M d)))] [.int (((rI M 635 0) * ((c / (rI M 635 0)) + (G_193 M d))) + ((c - c / (rI M 635 0) * (rI M 635 0)) + (G_192 M d)))] M v M' 0 0 := Ev.back 5 (fun n => rfl) H
      obtain ⟨p1, p2⟩ := Ev.retz rfl rfl H
      exact ⟨by rw [if_neg h9, if_neg h12]; exact p1, p2⟩
noncomputable def G_195 (M : Mem) (x : Int32) (y : Int32) : Int32 := G_141 M ((x - x / (rI M 635 0) * (rI M 635 0)) - (y - y / (rI M 635 0) * (rI M 635 0)))
theorem g_195 {e : Nat} {M M' : Mem} {v : Option Value} {x y : Int32} (hS : SQ M) (H : Ev none e 195 0 [some (.ref 633), some (.int x), some (.int y)] [] M v M' 0 0) : v = some (.int (G_195 M x y)) ∧ M' = M := by
  unfold G_195
  have H : Ev none e 195 2 [some (.ref 633), some (.int x), some (.int y)] [.ref 633, .int x] M v M' 0 0 := Ev.back 2 (fun n => rfl) H
  have H : Ev none e 195 5 [some (.ref 633), some (.int x), some (.int y)] [.ref 635, .int x] M v M' 0 0 := Ev.back 1 (gs_3 rfl rfl (gf_u hS.1 qa_633 qr_61_5 qu_63 rfl)) H
  have H : Ev none e 195 6 [some (.ref 633), some (.int x), some (.int y)] [.int 0, .ref 635, .int x] M v M' 0 0 := Ev.back 1 (fun n => rfl) H
  obtain ⟨b1, H⟩ := Ev.ial rfl rfl hS.1 qa_635 qw_63 H
  have H : Ev none e 195 7 [some (.ref 633), some (.int x), some (.int y)] [.int (rI M 635 0), .int x] M v M' 0 0 := H
  obtain ⟨nz2, H⟩ := rm_i H rfl rfl
  have H : Ev none e 195 8 [some (.ref 633), some (.int x), some (.int y)] [.int (x - x / (rI M 635 0) * (rI M 635 0))] M v M' 0 0 := H
  have H : Ev none e 195 10 [some (.ref 633), some (.int x), some (.int y)] [.ref 633, .int y, .int (x - x / (rI M 635 0) * (rI M 635 0))] M v M' 0 0 := Ev.back 2 (fun n => rfl) H
  have H : Ev none e 195 13 [some (.ref 633), some (.int x), some (.int y)] [.ref 635, .int y, .int (x - x / (rI M 635 0) * (rI M 635 0))] M v M' 0 0 := Ev.back 1 (gs_3 rfl rfl (gf_u hS.1 qa_633 qr_61_5 qu_63 rfl)) H
  have H : Ev none e 195 14 [some (.ref 633), some (.int x), some (.int y)] [.int 0, .ref 635, .int y, .int (x - x / (rI M 635 0) * (rI M 635 0))] M v M' 0 0 := Ev.back 1 (fun n => rfl) H
  obtain ⟨b3, H⟩ := Ev.ial rfl rfl hS.1 qa_635 qw_63 H
  have H : Ev none e 195 15 [some (.ref 633), some (.int x), some (.int y)] [.int (rI M 635 0), .int y, .int (x - x / (rI M 635 0) * (rI M 635 0))] M v M' 0 0 := H
  obtain ⟨nz4, H⟩ := rm_i H rfl rfl
  have H : Ev none e 195 16 [some (.ref 633), some (.int x), some (.int y)] [.int (y - y / (rI M 635 0) * (rI M 635 0)), .int (x - x / (rI M 635 0) * (rI M 635 0))] M v M' 0 0 := H
  have H : Ev none e 195 17 [some (.ref 633), some (.int x), some (.int y)] [.int ((x - x / (rI M 635 0) * (rI M 635 0)) - (y - y / (rI M 635 0) * (rI M 635 0)))] M v M' 0 0 := Ev.back 1 (fun n => rfl) H
  obtain ⟨e1, rfl⟩ := Ev.dpos rfl rfl H
  obtain ⟨vK5, MK5, K5, H⟩ := Ev.callb (fun n => rfl) H
  obtain ⟨pK5, qK5⟩ := g_141 hS K5
  rw [pK5, qK5] at H
  have H : Ev none (e1 + 1) 195 20 [some (.ref 633), some (.int x), some (.int y)] [.int (G_141 M ((x - x / (rI M 635 0) * (rI M 635 0)) - (y - y / (rI M 635 0) * (rI M 635 0))))] M v M' 0 0 := H
  obtain ⟨p1, p2⟩ := Ev.retz rfl rfl H
  exact ⟨p1, p2⟩
noncomputable def G_196 (M : Mem) (x : Int32) (y : Int32) : Int32 := G_141 M ((x / (rI M 635 0)) - (y / (rI M 635 0)))
theorem g_196 {e : Nat} {M M' : Mem} {v : Option Value} {x y : Int32} (hS : SQ M) (H : Ev none e 196 0 [some (.ref 633), some (.int x), some (.int y)] [] M v M' 0 0) : v = some (.int (G_196 M x y)) ∧ M' = M := by
  unfold G_196
  have H : Ev none e 196 2 [some (.ref 633), some (.int x), some (.int y)] [.ref 633, .int x] M v M' 0 0 := Ev.back 2 (fun n => rfl) H
  have H : Ev none e 196 5 [some (.ref 633), some (.int x), some (.int y)] [.ref 635, .int x] M v M' 0 0 := Ev.back 1 (gs_3 rfl rfl (gf_u hS.1 qa_633 qr_61_5 qu_63 rfl)) H
  have H : Ev none e 196 6 [some (.ref 633), some (.int x), some (.int y)] [.int 0, .ref 635, .int x] M v M' 0 0 := Ev.back 1 (fun n => rfl) H
  obtain ⟨b1, H⟩ := Ev.ial rfl rfl hS.1 qa_635 qw_63 H
  have H : Ev none e 196 7 [some (.ref 633), some (.int x), some (.int y)] [.int (rI M 635 0), .int x] M v M' 0 0 := H
  obtain ⟨nz2, H⟩ := dv_i H rfl rfl
  have H : Ev none e 196 8 [some (.ref 633), some (.int x), some (.int y)] [.int (x / (rI M 635 0))] M v M' 0 0 := H
  have H : Ev none e 196 10 [some (.ref 633), some (.int x), some (.int y)] [.ref 633, .int y, .int (x / (rI M 635 0))] M v M' 0 0 := Ev.back 2 (fun n => rfl) H
  have H : Ev none e 196 13 [some (.ref 633), some (.int x), some (.int y)] [.ref 635, .int y, .int (x / (rI M 635 0))] M v M' 0 0 := Ev.back 1 (gs_3 rfl rfl (gf_u hS.1 qa_633 qr_61_5 qu_63 rfl)) H
  have H : Ev none e 196 14 [some (.ref 633), some (.int x), some (.int y)] [.int 0, .ref 635, .int y, .int (x / (rI M 635 0))] M v M' 0 0 := Ev.back 1 (fun n => rfl) H
  obtain ⟨b3, H⟩ := Ev.ial rfl rfl hS.1 qa_635 qw_63 H
  have H : Ev none e 196 15 [some (.ref 633), some (.int x), some (.int y)] [.int (rI M 635 0), .int y, .int (x / (rI M 635 0))] M v M' 0 0 := H
  obtain ⟨nz4, H⟩ := dv_i H rfl rfl
  have H : Ev none e 196 16 [some (.ref 633), some (.int x), some (.int y)] [.int (y / (rI M 635 0)), .int (x / (rI M 635 0))] M v M' 0 0 := H
  have H : Ev none e 196 17 [some (.ref 633), some (.int x), some (.int y)] [.int ((x / (rI M 635 0)) - (y / (rI M 635 0)))] M v M' 0 0 := Ev.back 1 (fun n => rfl) H
  obtain ⟨e1, rfl⟩ := Ev.dpos rfl rfl H
  obtain ⟨vK5, MK5, K5, H⟩ := Ev.callb (fun n => rfl) H
  obtain ⟨pK5, qK5⟩ := g_141 hS K5
  rw [pK5, qK5] at H
  have H : Ev none (e1 + 1) 196 20 [some (.ref 633), some (.int x), some (.int y)] [.int (G_141 M ((x / (rI M 635 0)) - (y / (rI M 635 0))))] M v M' 0 0 := H
  obtain ⟨p1, p2⟩ := Ev.retz rfl rfl H
  exact ⟨p1, p2⟩
theorem ris0_0 {e : Nat} {M M' : Mem} {v : Option Value} {c : Int32} (hS : SQ M) (H : Ev none e 186 0 [some (.ref 633), some (.int c), some (.int 0)] [] M v M' 0 0) : ((G_146 M c 0) = 0 ∧ v = some (.int 1) ∧ M' = M) ∨ (¬ ((G_146 M c 0) = 0) ∧ v = some (.int 0) ∧ M' = M) := by
  have H : Ev none e 186 47 [some (.ref 633), some (.int c), some (.int 0)] [.int 0, .int c, .ref 633] M v M' 0 0 := Ev.back 5 (fun n => rfl) H
  obtain ⟨e1, rfl⟩ := Ev.dpos rfl rfl H
  obtain ⟨vK1, MK1, K1, H⟩ := Ev.callb (fun n_ => gs_7 rfl rfl (show gCal (.invokevirtual 136) 11 (.int 0 :: .int c :: .ref 633 :: []) M = some (.inr (146, [some (.ref 633), some (.int c), some (.int 0)], [])) from by show @cond (Option ((List Value × Mem) ⊕ (Nat × Lo × List Value))) (true && gRecv M (.ref 633) 11 && gRoom [] && true) (some (.inr (146, [some (.ref 633), some (.int c), some (.int 0)], []))) none = _; rw [recv_s hS.1 qa_633 qo_61]; rfl)) H
  obtain ⟨pK1, qK1⟩ := g_146 hS K1
  rw [pK1, qK1] at H
  have H : Ev none (e1 + 1) 186 50 [some (.ref 633), some (.int c), some (.int 0)] [.int (G_146 M c 0)] M v M' 0 0 := H
  have H : Ev none (e1 + 1) 186 (if (G_146 M c 0) = 0 then 53 else 57) [some (.ref 633), some (.int c), some (.int 0)] [] M v M' 0 0 := Ev.back 1 (fun n => rfl) H
  by_cases h2 : (G_146 M c 0) = 0
  · rw [if_pos h2] at H
    have H : Ev none (e1 + 1) 186 58 [some (.ref 633), some (.int c), some (.int 0)] [.int 1] M v M' 0 0 := Ev.back 2 (fun n => rfl) H
    obtain ⟨z1, z2⟩ := Ev.retz rfl rfl H
    exact Or.inl ⟨h2, z1, z2⟩
  · rw [if_neg h2] at H
    have H : Ev none (e1 + 1) 186 58 [some (.ref 633), some (.int c), some (.int 0)] [.int 0] M v M' 0 0 := Ev.back 1 (fun n => rfl) H
    obtain ⟨z1, z2⟩ := Ev.retz rfl rfl H
    exact Or.inr (⟨h2, z1, z2⟩)
theorem ris1_0 {e : Nat} {M M' : Mem} {v : Option Value} {c : Int32} (hS : SQ M) (H : Ev none e 186 0 [some (.ref 633), some (.int c), some (.int 1)] [] M v M' 0 0) : ((G_146 M c 0) = 1 ∧ v = some (.int 1) ∧ M' = M) ∨ (¬ ((G_146 M c 0) = 1) ∧ v = some (.int 0) ∧ M' = M) := by
  have H : Ev none e 186 62 [some (.ref 633), some (.int c), some (.int 1)] [.int 0, .int c, .ref 633] M v M' 0 0 := Ev.back 5 (fun n => rfl) H
  obtain ⟨e1, rfl⟩ := Ev.dpos rfl rfl H
  obtain ⟨vK1, MK1, K1, H⟩ := Ev.callb (fun n_ => gs_7 rfl rfl (show gCal (.invokevirtual 136) 11 (.int 0 :: .int c :: .ref 633 :: []) M = some (.inr (146, [some (.ref 633), some (.int c), some (.int 0)], [])) from by show @cond (Option ((List Value × Mem) ⊕ (Nat × Lo × List Value))) (true && gRecv M (.ref 633) 11 && gRoom [] && true) (some (.inr (146, [some (.ref 633), some (.int c), some (.int 0)], []))) none = _; rw [recv_s hS.1 qa_633 qo_61]; rfl)) H
  obtain ⟨pK1, qK1⟩ := g_146 hS K1
  rw [pK1, qK1] at H
  have H : Ev none (e1 + 1) 186 65 [some (.ref 633), some (.int c), some (.int 1)] [.int (G_146 M c 0)] M v M' 0 0 := H
  have H : Ev none (e1 + 1) 186 (if (G_146 M c 0) = 1 then 69 else 73) [some (.ref 633), some (.int c), some (.int 1)] [] M v M' 0 0 := Ev.back 2 (fun n => rfl) H
  by_cases h2 : (G_146 M c 0) = 1
  · rw [if_pos h2] at H
    have H : Ev none (e1 + 1) 186 74 [some (.ref 633), some (.int c), some (.int 1)] [.int 1] M v M' 0 0 := Ev.back 2 (fun n => rfl) H
    obtain ⟨z1, z2⟩ := Ev.retz rfl rfl H
    exact Or.inl ⟨h2, z1, z2⟩
  · rw [if_neg h2] at H
    have H : Ev none (e1 + 1) 186 74 [some (.ref 633), some (.int c), some (.int 1)] [.int 0] M v M' 0 0 := Ev.back 1 (fun n => rfl) H
    obtain ⟨z1, z2⟩ := Ev.retz rfl rfl H
    exact Or.inr (⟨h2, z1, z2⟩)
theorem ris2_0 {e : Nat} {M M' : Mem} {v : Option Value} {c : Int32} (hS : SQ M) (H : Ev none e 186 0 [some (.ref 633), some (.int c), some (.int 2)] [] M v M' 0 0) : ((G_146 M c 0) = 2 ∧ v = some (.int 1) ∧ M' = M) ∨ (¬ ((G_146 M c 0) = 2) ∧ v = some (.int 0) ∧ M' = M) := by
  have H : Ev none e 186 78 [some (.ref 633), some (.int c), some (.int 2)] [.int 0, .int c, .ref 633] M v M' 0 0 := Ev.back 5 (fun n => rfl) H
  obtain ⟨e1, rfl⟩ := Ev.dpos rfl rfl H
  obtain ⟨vK1, MK1, K1, H⟩ := Ev.callb (fun n_ => gs_7 rfl rfl (show gCal (.invokevirtual 136) 11 (.int 0 :: .int c :: .ref 633 :: []) M = some (.inr (146, [some (.ref 633), some (.int c), some (.int 0)], [])) from by show @cond (Option ((List Value × Mem) ⊕ (Nat × Lo × List Value))) (true && gRecv M (.ref 633) 11 && gRoom [] && true) (some (.inr (146, [some (.ref 633), some (.int c), some (.int 0)], []))) none = _; rw [recv_s hS.1 qa_633 qo_61]; rfl)) H
  obtain ⟨pK1, qK1⟩ := g_146 hS K1
  rw [pK1, qK1] at H
  have H : Ev none (e1 + 1) 186 81 [some (.ref 633), some (.int c), some (.int 2)] [.int (G_146 M c 0)] M v M' 0 0 := H
  have H : Ev none (e1 + 1) 186 (if (G_146 M c 0) = 2 then 85 else 89) [some (.ref 633), some (.int c), some (.int 2)] [] M v M' 0 0 := Ev.back 2 (fun n => rfl) H
  by_cases h2 : (G_146 M c 0) = 2
  · rw [if_pos h2] at H
    have H : Ev none (e1 + 1) 186 90 [some (.ref 633), some (.int c), some (.int 2)] [.int 1] M v M' 0 0 := Ev.back 2 (fun n => rfl) H
    obtain ⟨z1, z2⟩ := Ev.retz rfl rfl H
    exact Or.inl ⟨h2, z1, z2⟩
  · rw [if_neg h2] at H
    have H : Ev none (e1 + 1) 186 90 [some (.ref 633), some (.int c), some (.int 2)] [.int 0] M v M' 0 0 := Ev.back 1 (fun n => rfl) H
    obtain ⟨z1, z2⟩ := Ev.retz rfl rfl H
    exact Or.inr (⟨h2, z1, z2⟩)
theorem ris3_0 {e : Nat} {M M' : Mem} {v : Option Value} {c : Int32} (hS : SQ M) (H : Ev none e 186 0 [some (.ref 633), some (.int c), some (.int 3)] [] M v M' 0 0) : ((G_146 M c 0) = 4 ∧ v = some (.int 1) ∧ M' = M) ∨ (¬ ((G_146 M c 0) = 4) ∧ v = some (.int 0) ∧ M' = M) := by
  have H : Ev none e 186 94 [some (.ref 633), some (.int c), some (.int 3)] [.int 0, .int c, .ref 633] M v M' 0 0 := Ev.back 5 (fun n => rfl) H
  obtain ⟨e1, rfl⟩ := Ev.dpos rfl rfl H
  obtain ⟨vK1, MK1, K1, H⟩ := Ev.callb (fun n_ => gs_7 rfl rfl (show gCal (.invokevirtual 136) 11 (.int 0 :: .int c :: .ref 633 :: []) M = some (.inr (146, [some (.ref 633), some (.int c), some (.int 0)], [])) from by show @cond (Option ((List Value × Mem) ⊕ (Nat × Lo × List Value))) (true && gRecv M (.ref 633) 11 && gRoom [] && true) (some (.inr (146, [some (.ref 633), some (.int c), some (.int 0)], []))) none = _; rw [recv_s hS.1 qa_633 qo_61]; rfl)) H
  obtain ⟨pK1, qK1⟩ := g_146 hS K1
  rw [pK1, qK1] at H
  have H : Ev none (e1 + 1) 186 97 [some (.ref 633), some (.int c), some (.int 3)] [.int (G_146 M c 0)] M v M' 0 0 := H
  have H : Ev none (e1 + 1) 186 (if (G_146 M c 0) = 4 then 101 else 105) [some (.ref 633), some (.int c), some (.int 3)] [] M v M' 0 0 := Ev.back 2 (fun n => rfl) H
  by_cases h2 : (G_146 M c 0) = 4
  · rw [if_pos h2] at H
    have H : Ev none (e1 + 1) 186 106 [some (.ref 633), some (.int c), some (.int 3)] [.int 1] M v M' 0 0 := Ev.back 2 (fun n => rfl) H
    obtain ⟨z1, z2⟩ := Ev.retz rfl rfl H
    exact Or.inl ⟨h2, z1, z2⟩
  · rw [if_neg h2] at H
    have H : Ev none (e1 + 1) 186 106 [some (.ref 633), some (.int c), some (.int 3)] [.int 0] M v M' 0 0 := Ev.back 1 (fun n => rfl) H
    obtain ⟨z1, z2⟩ := Ev.retz rfl rfl H
    exact Or.inr (⟨h2, z1, z2⟩)
theorem ris4_0 {e : Nat} {M M' : Mem} {v : Option Value} {c : Int32} (hS : SQ M) (H : Ev none e 186 0 [some (.ref 633), some (.int c), some (.int 4)] [] M v M' 0 0) : ((G_146 M c 0) = 5 ∧ v = some (.int 1) ∧ M' = M) ∨ (¬ ((G_146 M c 0) = 5) ∧ v = some (.int 0) ∧ M' = M) := by
  have H : Ev none e 186 110 [some (.ref 633), some (.int c), some (.int 4)] [.int 0, .int c, .ref 633] M v M' 0 0 := Ev.back 5 (fun n => rfl) H
  obtain ⟨e1, rfl⟩ := Ev.dpos rfl rfl H
  obtain ⟨vK1, MK1, K1, H⟩ := Ev.callb (fun n_ => gs_7 rfl rfl (show gCal (.invokevirtual 136) 11 (.int 0 :: .int c :: .ref 633 :: []) M = some (.inr (146, [some (.ref 633), some (.int c), some (.int 0)], [])) from by show @cond (Option ((List Value × Mem) ⊕ (Nat × Lo × List Value))) (true && gRecv M (.ref 633) 11 && gRoom [] && true) (some (.inr (146, [some (.ref 633), some (.int c), some (.int 0)], []))) none = _; rw [recv_s hS.1 qa_633 qo_61]; rfl)) H
  obtain ⟨pK1, qK1⟩ := g_146 hS K1
  rw [pK1, qK1] at H
  have H : Ev none (e1 + 1) 186 113 [some (.ref 633), some (.int c), some (.int 4)] [.int (G_146 M c 0)] M v M' 0 0 := H
  have H : Ev none (e1 + 1) 186 (if (G_146 M c 0) = 5 then 117 else 121) [some (.ref 633), some (.int c), some (.int 4)] [] M v M' 0 0 := Ev.back 2 (fun n => rfl) H
  by_cases h2 : (G_146 M c 0) = 5
  · rw [if_pos h2] at H
    have H : Ev none (e1 + 1) 186 122 [some (.ref 633), some (.int c), some (.int 4)] [.int 1] M v M' 0 0 := Ev.back 2 (fun n => rfl) H
    obtain ⟨z1, z2⟩ := Ev.retz rfl rfl H
    exact Or.inl ⟨h2, z1, z2⟩
  · rw [if_neg h2] at H
    have H : Ev none (e1 + 1) 186 122 [some (.ref 633), some (.int c), some (.int 4)] [.int 0] M v M' 0 0 := Ev.back 1 (fun n => rfl) H
    obtain ⟨z1, z2⟩ := Ev.retz rfl rfl H
    exact Or.inr (⟨h2, z1, z2⟩)
theorem ris5_0 {e : Nat} {M M' : Mem} {v : Option Value} {c : Int32} (hS : SQ M) (H : Ev none e 186 0 [some (.ref 633), some (.int c), some (.int 5)] [] M v M' 0 0) : ((G_146 M c 1) = 1 ∧ v = some (.int 1) ∧ M' = M) ∨ (¬ ((G_146 M c 1) = 1) ∧ v = some (.int 0) ∧ M' = M) := by
  have H : Ev none e 186 126 [some (.ref 633), some (.int c), some (.int 5)] [.int 1, .int c, .ref 633] M v M' 0 0 := Ev.back 5 (fun n => rfl) H
  obtain ⟨e1, rfl⟩ := Ev.dpos rfl rfl H
  obtain ⟨vK1, MK1, K1, H⟩ := Ev.callb (fun n_ => gs_7 rfl rfl (show gCal (.invokevirtual 136) 11 (.int 1 :: .int c :: .ref 633 :: []) M = some (.inr (146, [some (.ref 633), some (.int c), some (.int 1)], [])) from by show @cond (Option ((List Value × Mem) ⊕ (Nat × Lo × List Value))) (true && gRecv M (.ref 633) 11 && gRoom [] && true) (some (.inr (146, [some (.ref 633), some (.int c), some (.int 1)], []))) none = _; rw [recv_s hS.1 qa_633 qo_61]; rfl)) H
  obtain ⟨pK1, qK1⟩ := g_146 hS K1
  rw [pK1, qK1] at H
  have H : Ev none (e1 + 1) 186 129 [some (.ref 633), some (.int c), some (.int 5)] [.int (G_146 M c 1)] M v M' 0 0 := H
  have H : Ev none (e1 + 1) 186 (if (G_146 M c 1) = 1 then 133 else 137) [some (.ref 633), some (.int c), some (.int 5)] [] M v M' 0 0 := Ev.back 2 (fun n => rfl) H
  by_cases h2 : (G_146 M c 1) = 1
  · rw [if_pos h2] at H
    have H : Ev none (e1 + 1) 186 138 [some (.ref 633), some (.int c), some (.int 5)] [.int 1] M v M' 0 0 := Ev.back 2 (fun n => rfl) H
    obtain ⟨z1, z2⟩ := Ev.retz rfl rfl H
    exact Or.inl ⟨h2, z1, z2⟩
  · rw [if_neg h2] at H
    have H : Ev none (e1 + 1) 186 138 [some (.ref 633), some (.int c), some (.int 5)] [.int 0] M v M' 0 0 := Ev.back 1 (fun n => rfl) H
    obtain ⟨z1, z2⟩ := Ev.retz rfl rfl H
    exact Or.inr (⟨h2, z1, z2⟩)
theorem ris6_0 {e : Nat} {M M' : Mem} {v : Option Value} {c : Int32} (hS : SQ M) (H : Ev none e 186 0 [some (.ref 633), some (.int c), some (.int 6)] [] M v M' 0 0) : v = some (.int (G_151 M c)) ∧ M' = M := by
  have H : Ev none e 186 141 [some (.ref 633), some (.int c), some (.int 6)] [.int c, .ref 633] M v M' 0 0 := Ev.back 4 (fun n => rfl) H
  obtain ⟨e1, rfl⟩ := Ev.dpos rfl rfl H
  obtain ⟨vK1, MK1, K1, H⟩ := Ev.callb (fun n_ => gs_7 rfl rfl (show gCal (.invokevirtual 331) 11 (.int c :: .ref 633 :: []) M = some (.inr (151, [some (.ref 633), some (.int c)], [])) from by show @cond (Option ((List Value × Mem) ⊕ (Nat × Lo × List Value))) (true && gRecv M (.ref 633) 11 && gRoom [] && true) (some (.inr (151, [some (.ref 633), some (.int c)], []))) none = _; rw [recv_s hS.1 qa_633 qo_61]; rfl)) H
  obtain ⟨pK1, qK1⟩ := g_151 hS K1
  rw [pK1, qK1] at H
  have H : Ev none (e1 + 1) 186 144 [some (.ref 633), some (.int c), some (.int 6)] [.int (G_151 M c)] M v M' 0 0 := H
  obtain ⟨z1, z2⟩ := Ev.retz rfl rfl H
  exact ⟨z1, z2⟩
theorem ris7_0 {e : Nat} {M M' : Mem} {v : Option Value} {c : Int32} (hS : SQ M) (H : Ev none e 186 0 [some (.ref 633), some (.int c), some (.int 7)] [] M v M' 0 0) : v = some (.int (G_150 M c)) ∧ M' = M := by
  have H : Ev none e 186 147 [some (.ref 633), some (.int c), some (.int 7)] [.int c, .ref 633] M v M' 0 0 := Ev.back 4 (fun n => rfl) H
  obtain ⟨e1, rfl⟩ := Ev.dpos rfl rfl H
  obtain ⟨vK1, MK1, K1, H⟩ := Ev.callb (fun n_ => gs_7 rfl rfl (show gCal (.invokevirtual 140) 11 (.int c :: .ref 633 :: []) M = some (.inr (150, [some (.ref 633), some (.int c)], [])) from by show @cond (Option ((List Value × Mem) ⊕ (Nat × Lo × List Value))) (true && gRecv M (.ref 633) 11 && gRoom [] && true) (some (.inr (150, [some (.ref 633), some (.int c)], []))) none = _; rw [recv_s hS.1 qa_633 qo_61]; rfl)) H
  obtain ⟨pK1, qK1⟩ := g_150 hS K1
  rw [pK1, qK1] at H
  have H : Ev none (e1 + 1) 186 150 [some (.ref 633), some (.int c), some (.int 7)] [.int (G_150 M c)] M v M' 0 0 := H
  obtain ⟨z1, z2⟩ := Ev.retz rfl rfl H
  exact ⟨z1, z2⟩
theorem rho_0 {e : Nat} {M M' : Mem} {v : Option Value} {x c : Int32} (hS : SQ M) (H : Ev none e 187 0 [some (.ref 633), some (.int x), some (.int c), none, none, none, none, none] [] M v M' 0 0) : ((rI M 643 x) = (rI M 644 x) ∧ (0 ≤ x.toInt ∧ x.toInt < 128) ∧ (0 ≤ x.toInt ∧ x.toInt < 128) ∧ v = some (.int 1) ∧ M' = M) ∨ (¬ ((rI M 643 x) = (rI M 644 x)) ∧ (0 ≤ x.toInt ∧ x.toInt < 128) ∧ (0 ≤ x.toInt ∧ x.toInt < 128) ∧ (0 ≤ x.toInt ∧ x.toInt < 128) ∧ Ev none e 187 39 [some (.ref 633), some (.int x), some (.int c), some (.int (x / 16)), some (.int 0), some (.int ((200 * (x / 16)) + (rI M 643 x))), none, none] [] M v M' 0 0) := by
  have H : Ev none e 187 6 [some (.ref 633), some (.int x), some (.int c), some (.int (x / 16)), none, none, none, none] [.ref 633] M v M' 0 0 := Ev.back 5 (fun n => rfl) H
  have H : Ev none e 187 9 [some (.ref 633), some (.int x), some (.int c), some (.int (x / 16)), none, none, none, none] [.ref 643] M v M' 0 0 := Ev.back 1 (gs_3 rfl rfl (gf_u hS.1 qa_633 qr_61_13 qu_71 rfl)) H
  have H : Ev none e 187 10 [some (.ref 633), some (.int x), some (.int c), some (.int (x / 16)), none, none, none, none] [.int x, .ref 643] M v M' 0 0 := Ev.back 1 (fun n => rfl) H
  obtain ⟨b1, H⟩ := Ev.ial rfl rfl hS.1 qa_643 qw_71 H
  have H : Ev none e 187 11 [some (.ref 633), some (.int x), some (.int c), some (.int (x / 16)), none, none, none, none] [.int (rI M 643 x)] M v M' 0 0 := H
  have H : Ev none e 187 12 [some (.ref 633), some (.int x), some (.int c), some (.int (x / 16)), none, none, none, none] [.ref 633, .int (rI M 643 x)] M v M' 0 0 := Ev.back 1 (fun n => rfl) H
  have H : Ev none e 187 15 [some (.ref 633), some (.int x), some (.int c), some (.int (x / 16)), none, none, none, none] [.ref 644, .int (rI M 643 x)] M v M' 0 0 := Ev.back 1 (gs_3 rfl rfl (gf_u hS.1 qa_633 qr_61_14 qu_72 rfl)) H
  have H : Ev none e 187 16 [some (.ref 633), some (.int x), some (.int c), some (.int (x / 16)), none, none, none, none] [.int x, .ref 644, .int (rI M 643 x)] M v M' 0 0 := Ev.back 1 (fun n => rfl) H
  obtain ⟨b2, H⟩ := Ev.ial rfl rfl hS.1 qa_644 qw_72 H
  have H : Ev none e 187 17 [some (.ref 633), some (.int x), some (.int c), some (.int (x / 16)), none, none, none, none] [.int (rI M 644 x), .int (rI M 643 x)] M v M' 0 0 := H
  have H : Ev none e 187 (if (rI M 643 x) = (rI M 644 x) then 20 else 22) [some (.ref 633), some (.int x), some (.int c), some (.int (x / 16)), none, none, none, none] [] M v M' 0 0 := Ev.back 1 (fun n => rfl) H
  by_cases h3 : (rI M 643 x) = (rI M 644 x)
  · rw [if_pos h3] at H
    have H : Ev none e 187 21 [some (.ref 633), some (.int x), some (.int c), some (.int (x / 16)), none, none, none, none] [.int 1] M v M' 0 0 := Ev.back 1 (fun n => rfl) H
    obtain ⟨z1, z2⟩ := Ev.retz rfl rfl H
    exact Or.inl ⟨h3, b1, b2, z1, z2⟩
  · rw [if_neg h3] at H
    have H : Ev none e 187 31 [some (.ref 633), some (.int x), some (.int c), some (.int (x / 16)), some (.int 0), none, none, none] [.ref 633, .int (200 * (x / 16))] M v M' 0 0 := Ev.back 6 (fun n => rfl) H
    have H : Ev none e 187 34 [some (.ref 633), some (.int x), some (.int c), some (.int (x / 16)), some (.int 0), none, none, none] [.ref 643, .int (200 * (x / 16))] M v M' 0 0 := Ev.back 1 (gs_3 rfl rfl (gf_u hS.1 qa_633 qr_61_13 qu_71 rfl)) H
    have H : Ev none e 187 35 [some (.ref 633), some (.int x), some (.int c), some (.int (x / 16)), some (.int 0), none, none, none] [.int x, .ref 643, .int (200 * (x / 16))] M v M' 0 0 := Ev.back 1 (fun n => rfl) H
    obtain ⟨b4, H⟩ := Ev.ial rfl rfl hS.1 qa_643 qw_71 H
    have H : Ev none e 187 36 [some (.ref 633), some (.int x), some (.int c), some (.int (x / 16)), some (.int 0), none, none, none] [.int (rI M 643 x), .int (200 * (x / 16))] M v M' 0 0 := H
    have H : Ev none e 187 39 [some (.ref 633), some (.int x), some (.int c), some (.int (x / 16)), some (.int 0), some (.int ((200 * (x / 16)) + (rI M 643 x))), none, none] [] M v M' 0 0 := Ev.back 2 (fun n => rfl) H
    have HF := H
    exact Or.inr (⟨h3, b1, b2, b4, HF⟩)
theorem rho_39 {e : Nat} {M M' : Mem} {v : Option Value} {x c tx sn kk : Int32} {c6 c7 : Option Value} (hS : SQ M) (H : Ev none e 187 39 [some (.ref 633), some (.int x), some (.int c), some (.int tx), some (.int sn), some (.int kk), c6, c7] [] M v M' 0 0) : (((200 * tx) + (rI M 644 x)) ≤ kk ∧ (0 ≤ x.toInt ∧ x.toInt < 128) ∧ (0 ≤ (0 : Int32).toInt ∧ (0 : Int32).toInt < 60) ∧ v = some (.int (rI M 649 0)) ∧ M' = M) ∨ (¬ (((200 * tx) + (rI M 644 x)) ≤ kk) ∧ (0 ≤ x.toInt ∧ x.toInt < 128) ∧ (0 ≤ kk.toInt ∧ kk.toInt < 1600) ∧ Ev none e 187 65 [some (.ref 633), some (.int x), some (.int c), some (.int tx), some (.int sn), some (.int kk), some (.int (rI M 645 kk)), c7] [] M v M' 0 0) := by
  have H : Ev none e 187 47 [some (.ref 633), some (.int x), some (.int c), some (.int tx), some (.int sn), some (.int kk), c6, c7] [.ref 633, .int (200 * tx), .int kk] M v M' 0 0 := Ev.back 5 (fun n => rfl) H
  have H : Ev none e 187 50 [some (.ref 633), some (.int x), some (.int c), some (.int tx), some (.int sn), some (.int kk), c6, c7] [.ref 644, .int (200 * tx), .int kk] M v M' 0 0 := Ev.back 1 (gs_3 rfl rfl (gf_u hS.1 qa_633 qr_61_14 qu_72 rfl)) H
  have H : Ev none e 187 51 [some (.ref 633), some (.int x), some (.int c), some (.int tx), some (.int sn), some (.int kk), c6, c7] [.int x, .ref 644, .int (200 * tx), .int kk] M v M' 0 0 := Ev.back 1 (fun n => rfl) H
  obtain ⟨b1, H⟩ := Ev.ial rfl rfl hS.1 qa_644 qw_72 H
  have H : Ev none e 187 52 [some (.ref 633), some (.int x), some (.int c), some (.int tx), some (.int sn), some (.int kk), c6, c7] [.int (rI M 644 x), .int (200 * tx), .int kk] M v M' 0 0 := H
  have H : Ev none e 187 (if ((200 * tx) + (rI M 644 x)) ≤ kk then 360 else 56) [some (.ref 633), some (.int x), some (.int c), some (.int tx), some (.int sn), some (.int kk), c6, c7] [] M v M' 0 0 := Ev.back 2 (fun n => rfl) H
  by_cases h2 : ((200 * tx) + (rI M 644 x)) ≤ kk
  · rw [if_pos h2] at H
    have H : Ev none e 187 361 [some (.ref 633), some (.int x), some (.int c), some (.int tx), some (.int sn), some (.int kk), c6, c7] [.ref 633] M v M' 0 0 := Ev.back 1 (fun n => rfl) H
    have H : Ev none e 187 364 [some (.ref 633), some (.int x), some (.int c), some (.int tx), some (.int sn), some (.int kk), c6, c7] [.ref 649] M v M' 0 0 := Ev.back 1 (gs_3 rfl rfl (gf_u hS.1 qa_633 qr_61_33 qu_77 rfl)) H
    have H : Ev none e 187 365 [some (.ref 633), some (.int x), some (.int c), some (.int tx), some (.int sn), some (.int kk), c6, c7] [.int 0, .ref 649] M v M' 0 0 := Ev.back 1 (fun n => rfl) H
    obtain ⟨b3, H⟩ := Ev.bal rfl rfl hS.1 qa_649 qw_77 (Or.inr rfl) H
    have H : Ev none e 187 366 [some (.ref 633), some (.int x), some (.int c), some (.int tx), some (.int sn), some (.int kk), c6, c7] [.int (rI M 649 0)] M v M' 0 0 := H
    obtain ⟨z1, z2⟩ := Ev.retz rfl rfl H
    exact Or.inl ⟨h2, b1, b3, z1, z2⟩
  · rw [if_neg h2] at H
    have H : Ev none e 187 57 [some (.ref 633), some (.int x), some (.int c), some (.int tx), some (.int sn), some (.int kk), c6, c7] [.ref 633] M v M' 0 0 := Ev.back 1 (fun n => rfl) H
    have H : Ev none e 187 60 [some (.ref 633), some (.int x), some (.int c), some (.int tx), some (.int sn), some (.int kk), c6, c7] [.ref 645] M v M' 0 0 := Ev.back 1 (gs_3 rfl rfl (gf_u hS.1 qa_633 qr_61_15 qu_73 rfl)) H
    have H : Ev none e 187 62 [some (.ref 633), some (.int x), some (.int c), some (.int tx), some (.int sn), some (.int kk), c6, c7] [.int kk, .ref 645] M v M' 0 0 := Ev.back 1 (fun n => rfl) H
    obtain ⟨b4, H⟩ := Ev.ial rfl rfl hS.1 qa_645 qw_73 H
    have H : Ev none e 187 63 [some (.ref 633), some (.int x), some (.int c), some (.int tx), some (.int sn), some (.int kk), c6, c7] [.int (rI M 645 kk)] M v M' 0 0 := H
    have H : Ev none e 187 65 [some (.ref 633), some (.int x), some (.int c), some (.int tx), some (.int sn), some (.int kk), some (.int (rI M 645 kk)), c7] [] M v M' 0 0 := Ev.back 1 (fun n => rfl) H
    have HF := H
    exact Or.inr (⟨h2, b1, b4, HF⟩)
theorem rho_65 {e : Nat} {M M' : Mem} {v : Option Value} {x c tx sn kk wh : Int32} {c7 : Option Value} (hS : SQ M) (H : Ev none e 187 65 [some (.ref 633), some (.int x), some (.int c), some (.int tx), some (.int sn), some (.int kk), some (.int wh), c7] [] M v M' 0 0) : (wh = 20 ∧ (rI M 649 (sn - 1)) = 0 ∧ (0 ≤ (sn - 1).toInt ∧ (sn - 1).toInt < 60) ∧ (0 ≤ (sn - 1).toInt ∧ (sn - 1).toInt < 60) ∧ Ev none e 187 39 [some (.ref 633), some (.int x), some (.int c), some (.int tx), some (.int sn), some (.int (kk + 1)), some (.int wh), c7] [] (wI M 649 ((sn - 1).toNatClampNeg) (vp_nar .boolean 1)) v M' 0 0) ∨ (wh = 20 ∧ ¬ ((rI M 649 (sn - 1)) = 0) ∧ (0 ≤ (sn - 1).toInt ∧ (sn - 1).toInt < 60) ∧ (0 ≤ (sn - 1).toInt ∧ (sn - 1).toInt < 60) ∧ Ev none e 187 39 [some (.ref 633), some (.int x), some (.int c), some (.int tx), some (.int sn), some (.int (kk + 1)), some (.int wh), c7] [] (wI M 649 ((sn - 1).toNatClampNeg) (vp_nar .boolean 0)) v M' 0 0) ∨ (¬ (wh = 20) ∧ wh = 21 ∧ Ev none e 187 118 [some (.ref 633), some (.int x), some (.int c), some (.int tx), some (.int (sn + Int32.ofInt (-1))), some (.int kk), some (.int wh), c7] [] M v M' 0 0) ∨ (¬ (wh = 20) ∧ ¬ (wh = 21) ∧ wh = 22 ∧ Ev none e 187 118 [some (.ref 633), some (.int x), some (.int c), some (.int tx), some (.int (sn + Int32.ofInt (-1))), some (.int kk), some (.int wh), c7] [] M v M' 0 0) ∨ (¬ (wh = 20) ∧ ¬ (wh = 21) ∧ ¬ (wh = 22) ∧ 8 ≤ wh ∧ wh = 8 ∧ Ev none e 187 246 [some (.ref 633), some (.int x), some (.int c), some (.int tx), some (.int sn), some (.int kk), some (.int wh), some (.int (G_146 M c 3))] [] M v M' 0 0) ∨ (¬ (wh = 20) ∧ ¬ (wh = 21) ∧ ¬ (wh = 22) ∧ 8 ≤ wh ∧ ¬ (wh = 8) ∧ wh = 9 ∧ Ev none e 187 246 [some (.ref 633), some (.int x), some (.int c), some (.int tx), some (.int sn), some (.int kk), some (.int wh), some (.int (G_146 M c 4))] [] M v M' 0 0) ∨ (¬ (wh = 20) ∧ ¬ (wh = 21) ∧ ¬ (wh = 22) ∧ 8 ≤ wh ∧ ¬ (wh = 8) ∧ ¬ (wh = 9) ∧ wh = 10 ∧ Ev none e 187 246 [some (.ref 633), some (.int x), some (.int c), some (.int tx), some (.int sn), some (.int kk), some (.int wh), some (.int (G_146 M c 2))] [] M v M' 0 0) ∨ (¬ (wh = 20) ∧ ¬ (wh = 21) ∧ ¬ (wh = 22) ∧ 8 ≤ wh ∧ ¬ (wh = 8) ∧ ¬ (wh = 9) ∧ ¬ (wh = 10) ∧ Ev none e 187 246 [some (.ref 633), some (.int x), some (.int c), some (.int tx), some (.int sn), some (.int kk), some (.int wh), some (.int (G_146 M c 5))] [] M v M' 0 0) ∨ (¬ (wh = 20) ∧ ¬ (wh = 21) ∧ ¬ (wh = 22) ∧ ¬ (8 ≤ wh) ∧ Ev none e 187 246 [some (.ref 633), some (.int x), some (.int c), some (.int tx), some (.int sn), some (.int kk), some (.int wh), some (.int 0)] [] M v M' 0 0) := by
  have H : Ev none e 187 (if wh = 20 then 72 else 101) [some (.ref 633), some (.int x), some (.int c), some (.int tx), some (.int sn), some (.int kk), some (.int wh), c7] [] M v M' 0 0 := Ev.back 3 (fun n => rfl) H
  by_cases h1 : wh = 20
  · rw [if_pos h1] at H
    have H : Ev none e 187 73 [some (.ref 633), some (.int x), some (.int c), some (.int tx), some (.int sn), some (.int kk), some (.int wh), c7] [.ref 633] M v M' 0 0 := Ev.back 1 (fun n => rfl) H
    have H : Ev none e 187 76 [some (.ref 633), some (.int x), some (.int c), some (.int tx), some (.int sn), some (.int kk), some (.int wh), c7] [.ref 649] M v M' 0 0 := Ev.back 1 (gs_3 rfl rfl (gf_u hS.1 qa_633 qr_61_33 qu_77 rfl)) H
    have H : Ev none e 187 81 [some (.ref 633), some (.int x), some (.int c), some (.int tx), some (.int sn), some (.int kk), some (.int wh), c7] [.ref 633, .int (sn - 1), .ref 649] M v M' 0 0 := Ev.back 4 (fun n => rfl) H
    have H : Ev none e 187 84 [some (.ref 633), some (.int x), some (.int c), some (.int tx), some (.int sn), some (.int kk), some (.int wh), c7] [.ref 649, .int (sn - 1), .ref 649] M v M' 0 0 := Ev.back 1 (gs_3 rfl rfl (gf_u hS.1 qa_633 qr_61_33 qu_77 rfl)) H
    have H : Ev none e 187 88 [some (.ref 633), some (.int x), some (.int c), some (.int tx), some (.int sn), some (.int kk), some (.int wh), c7] [.int (sn - 1), .ref 649, .int (sn - 1), .ref 649] M v M' 0 0 := Ev.back 3 (fun n => rfl) H
    obtain ⟨b2, H⟩ := Ev.bal rfl rfl hS.1 qa_649 qw_77 (Or.inr rfl) H
    have H : Ev none e 187 89 [some (.ref 633), some (.int x), some (.int c), some (.int tx), some (.int sn), some (.int kk), some (.int wh), c7] [.int (rI M 649 (sn - 1)), .int (sn - 1), .ref 649] M v M' 0 0 := H
    have H : Ev none e 187 (if (rI M 649 (sn - 1)) = 0 then 92 else 96) [some (.ref 633), some (.int x), some (.int c), some (.int tx), some (.int sn), some (.int kk), some (.int wh), c7] [.int (sn - 1), .ref 649] M v M' 0 0 := Ev.back 1 (fun n => rfl) H
    by_cases h3 : (rI M 649 (sn - 1)) = 0
    · rw [if_pos h3] at H
      have H : Ev none e 187 97 [some (.ref 633), some (.int x), some (.int c), some (.int tx), some (.int sn), some (.int kk), some (.int wh), c7] [.int 1, .int (sn - 1), .ref 649] M v M' 0 0 := Ev.back 2 (fun n => rfl) H
      obtain ⟨b4, H⟩ := Ev.bas3 rfl rfl hS.1 qa_649 qw_77 H
      obtain ⟨N5, eN5⟩ : ∃ N, N = (wI M 649 ((sn - 1).toNatClampNeg) (vp_nar .boolean 1)) := ⟨_, rfl⟩
      have hN5 : SQ N5 := by rw [eN5]; exact hS.ki
      have H : Ev none e 187 98 [some (.ref 633), some (.int x), some (.int c), some (.int tx), some (.int sn), some (.int kk), some (.int wh), c7] [] N5 v M' 0 0 := by rw [eN5]; exact H
      have H : Ev none e 187 39 [some (.ref 633), some (.int x), some (.int c), some (.int tx), some (.int sn), some (.int (kk + 1)), some (.int wh), c7] [] N5 v M' 0 0 := Ev.back 3 (fun n => rfl) H
      have HF := H
      subst eN5
      exact Or.inl ⟨h1, h3, b2, b4, HF⟩
    · rw [if_neg h3] at H
      have H : Ev none e 187 97 [some (.ref 633), some (.int x), some (.int c), some (.int tx), some (.int sn), some (.int kk), some (.int wh), c7] [.int 0, .int (sn - 1), .ref 649] M v M' 0 0 := Ev.back 1 (fun n => rfl) H
      obtain ⟨b6, H⟩ := Ev.bas3 rfl rfl hS.1 qa_649 qw_77 H
      obtain ⟨N7, eN7⟩ : ∃ N, N = (wI M 649 ((sn - 1).toNatClampNeg) (vp_nar .boolean 0)) := ⟨_, rfl⟩
      have hN7 : SQ N7 := by rw [eN7]; exact hS.ki
      have H : Ev none e 187 98 [some (.ref 633), some (.int x), some (.int c), some (.int tx), some (.int sn), some (.int kk), some (.int wh), c7] [] N7 v M' 0 0 := by rw [eN7]; exact H
      have H : Ev none e 187 39 [some (.ref 633), some (.int x), some (.int c), some (.int tx), some (.int sn), some (.int (kk + 1)), some (.int wh), c7] [] N7 v M' 0 0 := Ev.back 3 (fun n => rfl) H
      have HF := H
      subst eN7
      exact Or.inr (Or.inl ⟨h1, h3, b2, b6, HF⟩)
  · rw [if_neg h1] at H
    have H : Ev none e 187 (if wh = 21 then 115 else 108) [some (.ref 633), some (.int x), some (.int c), some (.int tx), some (.int sn), some (.int kk), some (.int wh), c7] [] M v M' 0 0 := Ev.back 3 (fun n => rfl) H
    by_cases h8 : wh = 21
    · rw [if_pos h8] at H
      have H : Ev none e 187 118 [some (.ref 633), some (.int x), some (.int c), some (.int tx), some (.int (sn + Int32.ofInt (-1))), some (.int kk), some (.int wh), c7] [] M v M' 0 0 := Ev.back 1 (gs_1 (i := .iinc 4 (-1)) rfl rfl rfl) H
      have HF := H
      exact Or.inr (Or.inr (Or.inl ⟨h1, h8, HF⟩))
    · rw [if_neg h8] at H
      have H : Ev none e 187 (if wh = 22 then 115 else 194) [some (.ref 633), some (.int x), some (.int c), some (.int tx), some (.int sn), some (.int kk), some (.int wh), c7] [] M v M' 0 0 := Ev.back 3 (fun n => rfl) H
      by_cases h9 : wh = 22
      · rw [if_pos h9] at H
        have H : Ev none e 187 118 [some (.ref 633), some (.int x), some (.int c), some (.int tx), some (.int (sn + Int32.ofInt (-1))), some (.int kk), some (.int wh), c7] [] M v M' 0 0 := Ev.back 1 (gs_1 (i := .iinc 4 (-1)) rfl rfl rfl) H
        have HF := H
        exact Or.inr (Or.inr (Or.inr (Or.inl ⟨h1, h8, h9, HF⟩)))
      · rw [if_neg h9] at H
        have H : Ev none e 187 (if 8 ≤ wh then 205 else 201) [some (.ref 633), some (.int x), some (.int c), some (.int tx), some (.int sn), some (.int kk), some (.int wh), c7] [] M v M' 0 0 := Ev.back 3 (fun n => rfl) H
        by_cases h10 : 8 ≤ wh
        · rw [if_pos h10] at H
          have H : Ev none e 187 (if wh = 8 then 214 else 218) [some (.ref 633), some (.int x), some (.int c), some (.int tx), some (.int sn), some (.int kk), some (.int wh), c7] [.int c, .ref 633] M v M' 0 0 := Ev.back 5 (fun n => rfl) H
          by_cases h11 : wh = 8
          · rw [if_pos h11] at H
            have H : Ev none e 187 241 [some (.ref 633), some (.int x), some (.int c), some (.int tx), some (.int sn), some (.int kk), some (.int wh), c7] [.int 3, .int c, .ref 633] M v M' 0 0 := Ev.back 2 (fun n => rfl) H
            obtain ⟨e1, rfl⟩ := Ev.dpos rfl rfl H
            obtain ⟨vK12, MK12, K12, H⟩ := Ev.callb (fun n_ => gs_7 rfl rfl (show gCal (.invokevirtual 136) 11 (.int 3 :: .int c :: .ref 633 :: []) M = some (.inr (146, [some (.ref 633), some (.int c), some (.int 3)], [])) from by show @cond (Option ((List Value × Mem) ⊕ (Nat × Lo × List Value))) (true && gRecv M (.ref 633) 11 && gRoom [] && true) (some (.inr (146, [some (.ref 633), some (.int c), some (.int 3)], []))) none = _; rw [recv_s hS.1 qa_633 qo_61]; rfl)) H
            obtain ⟨pK12, qK12⟩ := g_146 hS K12
            rw [pK12, qK12] at H
            have H : Ev none (e1 + 1) 187 244 [some (.ref 633), some (.int x), some (.int c), some (.int tx), some (.int sn), some (.int kk), some (.int wh), c7] [.int (G_146 M c 3)] M v M' 0 0 := H
            have H : Ev none (e1 + 1) 187 246 [some (.ref 633), some (.int x), some (.int c), some (.int tx), some (.int sn), some (.int kk), some (.int wh), some (.int (G_146 M c 3))] [] M v M' 0 0 := Ev.back 1 (fun n => rfl) H
            have HF := H
            exact Or.inr (Or.inr (Or.inr (Or.inr (Or.inl ⟨h1, h8, h9, h10, h11, HF⟩))))
          · rw [if_neg h11] at H
            have H : Ev none e 187 (if wh = 9 then 225 else 229) [some (.ref 633), some (.int x), some (.int c), some (.int tx), some (.int sn), some (.int kk), some (.int wh), c7] [.int c, .ref 633] M v M' 0 0 := Ev.back 3 (fun n => rfl) H
            by_cases h13 : wh = 9
            · rw [if_pos h13] at H
              have H : Ev none e 187 241 [some (.ref 633), some (.int x), some (.int c), some (.int tx), some (.int sn), some (.int kk), some (.int wh), c7] [.int 4, .int c, .ref 633] M v M' 0 0 := Ev.back 2 (fun n => rfl) H
              obtain ⟨e1, rfl⟩ := Ev.dpos rfl rfl H
              obtain ⟨vK14, MK14, K14, H⟩ := Ev.callb (fun n_ => gs_7 rfl rfl (show gCal (.invokevirtual 136) 11 (.int 4 :: .int c :: .ref 633 :: []) M = some (.inr (146, [some (.ref 633), some (.int c), some (.int 4)], [])) from by show @cond (Option ((List Value × Mem) ⊕ (Nat × Lo × List Value))) (true && gRecv M (.ref 633) 11 && gRoom [] && true) (some (.inr (146, [some (.ref 633), some (.int c), some (.int 4)], []))) none = _; rw [recv_s hS.1 qa_633 qo_61]; rfl)) H
              obtain ⟨pK14, qK14⟩ := g_146 hS K14
              rw [pK14, qK14] at H
              have H : Ev none (e1 + 1) 187 244 [some (.ref 633), some (.int x), some (.int c), some (.int tx), some (.int sn), some (.int kk), some (.int wh), c7] [.int (G_146 M c 4)] M v M' 0 0 := H
              have H : Ev none (e1 + 1) 187 246 [some (.ref 633), some (.int x), some (.int c), some (.int tx), some (.int sn), some (.int kk), some (.int wh), some (.int (G_146 M c 4))] [] M v M' 0 0 := Ev.back 1 (fun n => rfl) H
              have HF := H
              exact Or.inr (Or.inr (Or.inr (Or.inr (Or.inr (Or.inl ⟨h1, h8, h9, h10, h11, h13, HF⟩)))))
            · rw [if_neg h13] at H
              have H : Ev none e 187 (if wh = 10 then 236 else 240) [some (.ref 633), some (.int x), some (.int c), some (.int tx), some (.int sn), some (.int kk), some (.int wh), c7] [.int c, .ref 633] M v M' 0 0 := Ev.back 3 (fun n => rfl) H
              by_cases h15 : wh = 10
              · rw [if_pos h15] at H
                have H : Ev none e 187 241 [some (.ref 633), some (.int x), some (.int c), some (.int tx), some (.int sn), some (.int kk), some (.int wh), c7] [.int 2, .int c, .ref 633] M v M' 0 0 := Ev.back 2 (fun n => rfl) H
                obtain ⟨e1, rfl⟩ := Ev.dpos rfl rfl H
                obtain ⟨vK16, MK16, K16, H⟩ := Ev.callb (fun n_ => gs_7 rfl rfl (show gCal (.invokevirtual 136) 11 (.int 2 :: .int c :: .ref 633 :: []) M = some (.inr (146, [some (.ref 633), some (.int c), some (.int 2)], [])) from by show @cond (Option ((List Value × Mem) ⊕ (Nat × Lo × List Value))) (true && gRecv M (.ref 633) 11 && gRoom [] && true) (some (.inr (146, [some (.ref 633), some (.int c), some (.int 2)], []))) none = _; rw [recv_s hS.1 qa_633 qo_61]; rfl)) H
                obtain ⟨pK16, qK16⟩ := g_146 hS K16
                rw [pK16, qK16] at H
                have H : Ev none (e1 + 1) 187 244 [some (.ref 633), some (.int x), some (.int c), some (.int tx), some (.int sn), some (.int kk), some (.int wh), c7] [.int (G_146 M c 2)] M v M' 0 0 := H
                have H : Ev none (e1 + 1) 187 246 [some (.ref 633), some (.int x), some (.int c), some (.int tx), some (.int sn), some (.int kk), some (.int wh), some (.int (G_146 M c 2))] [] M v M' 0 0 := Ev.back 1 (fun n => rfl) H
                have HF := H
                exact Or.inr (Or.inr (Or.inr (Or.inr (Or.inr (Or.inr (Or.inl ⟨h1, h8, h9, h10, h11, h13, h15, HF⟩))))))
              · rw [if_neg h15] at H
                have H : Ev none e 187 241 [some (.ref 633), some (.int x), some (.int c), some (.int tx), some (.int sn), some (.int kk), some (.int wh), c7] [.int 5, .int c, .ref 633] M v M' 0 0 := Ev.back 1 (fun n => rfl) H
                obtain ⟨e1, rfl⟩ := Ev.dpos rfl rfl H
                obtain ⟨vK17, MK17, K17, H⟩ := Ev.callb (fun n_ => gs_7 rfl rfl (show gCal (.invokevirtual 136) 11 (.int 5 :: .int c :: .ref 633 :: []) M = some (.inr (146, [some (.ref 633), some (.int c), some (.int 5)], [])) from by show @cond (Option ((List Value × Mem) ⊕ (Nat × Lo × List Value))) (true && gRecv M (.ref 633) 11 && gRoom [] && true) (some (.inr (146, [some (.ref 633), some (.int c), some (.int 5)], []))) none = _; rw [recv_s hS.1 qa_633 qo_61]; rfl)) H
                obtain ⟨pK17, qK17⟩ := g_146 hS K17
                rw [pK17, qK17] at H
                have H : Ev none (e1 + 1) 187 244 [some (.ref 633), some (.int x), some (.int c), some (.int tx), some (.int sn), some (.int kk), some (.int wh), c7] [.int (G_146 M c 5)] M v M' 0 0 := H
                have H : Ev none (e1 + 1) 187 246 [some (.ref 633), some (.int x), some (.int c), some (.int tx), some (.int sn), some (.int kk), some (.int wh), some (.int (G_146 M c 5))] [] M v M' 0 0 := Ev.back 1 (fun n => rfl) H
                have HF := H
                exact Or.inr (Or.inr (Or.inr (Or.inr (Or.inr (Or.inr (Or.inr (Or.inl ⟨h1, h8, h9, h10, h11, h13, h15, HF⟩)))))))
        · rw [if_neg h10] at H
          have H : Ev none e 187 246 [some (.ref 633), some (.int x), some (.int c), some (.int tx), some (.int sn), some (.int kk), some (.int wh), some (.int 0)] [] M v M' 0 0 := Ev.back 3 (fun n => rfl) H
          have HF := H
          exact Or.inr (Or.inr (Or.inr (Or.inr (Or.inr (Or.inr (Or.inr (Or.inr (⟨h1, h8, h9, h10, HF⟩))))))))
theorem rho_118 {e : Nat} {M M' : Mem} {v : Option Value} {x c tx sn kk wh : Int32} {c7 : Option Value} (hS : SQ M) (H : Ev none e 187 118 [some (.ref 633), some (.int x), some (.int c), some (.int tx), some (.int sn), some (.int kk), some (.int wh), c7] [] M v M' 0 0) : (wh = 21 ∧ (rI M 649 (sn - 1)) = 0 ∧ (0 ≤ (sn - 1).toInt ∧ (sn - 1).toInt < 60) ∧ (0 ≤ (sn - 1).toInt ∧ (sn - 1).toInt < 60) ∧ Ev none e 187 39 [some (.ref 633), some (.int x), some (.int c), some (.int tx), some (.int sn), some (.int (kk + 1)), some (.int wh), c7] [] (wI M 649 ((sn - 1).toNatClampNeg) (vp_nar .boolean 0)) v M' 0 0) ∨ (wh = 21 ∧ ¬ ((rI M 649 (sn - 1)) = 0) ∧ (rI M 649 sn) = 0 ∧ (0 ≤ (sn - 1).toInt ∧ (sn - 1).toInt < 60) ∧ (0 ≤ sn.toInt ∧ sn.toInt < 60) ∧ (0 ≤ (sn - 1).toInt ∧ (sn - 1).toInt < 60) ∧ Ev none e 187 39 [some (.ref 633), some (.int x), some (.int c), some (.int tx), some (.int sn), some (.int (kk + 1)), some (.int wh), c7] [] (wI M 649 ((sn - 1).toNatClampNeg) (vp_nar .boolean 0)) v M' 0 0) ∨ (wh = 21 ∧ ¬ ((rI M 649 (sn - 1)) = 0) ∧ ¬ ((rI M 649 sn) = 0) ∧ (0 ≤ (sn - 1).toInt ∧ (sn - 1).toInt < 60) ∧ (0 ≤ sn.toInt ∧ sn.toInt < 60) ∧ (0 ≤ (sn - 1).toInt ∧ (sn - 1).toInt < 60) ∧ Ev none e 187 39 [some (.ref 633), some (.int x), some (.int c), some (.int tx), some (.int sn), some (.int (kk + 1)), some (.int wh), c7] [] (wI M 649 ((sn - 1).toNatClampNeg) (vp_nar .boolean 1)) v M' 0 0) ∨ (¬ (wh = 21) ∧ (rI M 649 (sn - 1)) = 0 ∧ (rI M 649 sn) = 0 ∧ (0 ≤ (sn - 1).toInt ∧ (sn - 1).toInt < 60) ∧ (0 ≤ sn.toInt ∧ sn.toInt < 60) ∧ (0 ≤ (sn - 1).toInt ∧ (sn - 1).toInt < 60) ∧ Ev none e 187 39 [some (.ref 633), some (.int x), some (.int c), some (.int tx), some (.int sn), some (.int (kk + 1)), some (.int wh), c7] [] (wI M 649 ((sn - 1).toNatClampNeg) (vp_nar .boolean 0)) v M' 0 0) ∨ (¬ (wh = 21) ∧ (rI M 649 (sn - 1)) = 0 ∧ ¬ ((rI M 649 sn) = 0) ∧ (0 ≤ (sn - 1).toInt ∧ (sn - 1).toInt < 60) ∧ (0 ≤ sn.toInt ∧ sn.toInt < 60) ∧ (0 ≤ (sn - 1).toInt ∧ (sn - 1).toInt < 60) ∧ Ev none e 187 39 [some (.ref 633), some (.int x), some (.int c), some (.int tx), some (.int sn), some (.int (kk + 1)), some (.int wh), c7] [] (wI M 649 ((sn - 1).toNatClampNeg) (vp_nar .boolean 1)) v M' 0 0) ∨ (¬ (wh = 21) ∧ ¬ ((rI M 649 (sn - 1)) = 0) ∧ (0 ≤ (sn - 1).toInt ∧ (sn - 1).toInt < 60) ∧ (0 ≤ (sn - 1).toInt ∧ (sn - 1).toInt < 60) ∧ Ev none e 187 39 [some (.ref 633), some (.int x), some (.int c), some (.int tx), some (.int sn), some (.int (kk + 1)), some (.int wh), c7] [] (wI M 649 ((sn - 1).toNatClampNeg) (vp_nar .boolean 1)) v M' 0 0) := by
  have H : Ev none e 187 119 [some (.ref 633), some (.int x), some (.int c), some (.int tx), some (.int sn), some (.int kk), some (.int wh), c7] [.ref 633] M v M' 0 0 := Ev.back 1 (fun n => rfl) H
  have H : Ev none e 187 122 [some (.ref 633), some (.int x), some (.int c), some (.int tx), some (.int sn), some (.int kk), some (.int wh), c7] [.ref 649] M v M' 0 0 := Ev.back 1 (gs_3 rfl rfl (gf_u hS.1 qa_633 qr_61_33 qu_77 rfl)) H
  have H : Ev none e 187 (if wh = 21 then 133 else 163) [some (.ref 633), some (.int x), some (.int c), some (.int tx), some (.int sn), some (.int kk), some (.int wh), c7] [.int (sn - 1), .ref 649] M v M' 0 0 := Ev.back 6 (fun n => rfl) H
  by_cases h1 : wh = 21
  · rw [if_pos h1] at H
    have H : Ev none e 187 134 [some (.ref 633), some (.int x), some (.int c), some (.int tx), some (.int sn), some (.int kk), some (.int wh), c7] [.ref 633, .int (sn - 1), .ref 649] M v M' 0 0 := Ev.back 1 (fun n => rfl) H
    have H : Ev none e 187 137 [some (.ref 633), some (.int x), some (.int c), some (.int tx), some (.int sn), some (.int kk), some (.int wh), c7] [.ref 649, .int (sn - 1), .ref 649] M v M' 0 0 := Ev.back 1 (gs_3 rfl rfl (gf_u hS.1 qa_633 qr_61_33 qu_77 rfl)) H
    have H : Ev none e 187 141 [some (.ref 633), some (.int x), some (.int c), some (.int tx), some (.int sn), some (.int kk), some (.int wh), c7] [.int (sn - 1), .ref 649, .int (sn - 1), .ref 649] M v M' 0 0 := Ev.back 3 (fun n => rfl) H
    obtain ⟨b2, H⟩ := Ev.bal rfl rfl hS.1 qa_649 qw_77 (Or.inr rfl) H
    have H : Ev none e 187 142 [some (.ref 633), some (.int x), some (.int c), some (.int tx), some (.int sn), some (.int kk), some (.int wh), c7] [.int (rI M 649 (sn - 1)), .int (sn - 1), .ref 649] M v M' 0 0 := H
    have H : Ev none e 187 (if (rI M 649 (sn - 1)) = 0 then 159 else 145) [some (.ref 633), some (.int x), some (.int c), some (.int tx), some (.int sn), some (.int kk), some (.int wh), c7] [.int (sn - 1), .ref 649] M v M' 0 0 := Ev.back 1 (fun n => rfl) H
    by_cases h3 : (rI M 649 (sn - 1)) = 0
    · rw [if_pos h3] at H
      have H : Ev none e 187 190 [some (.ref 633), some (.int x), some (.int c), some (.int tx), some (.int sn), some (.int kk), some (.int wh), c7] [.int 0, .int (sn - 1), .ref 649] M v M' 0 0 := Ev.back 2 (fun n => rfl) H
      obtain ⟨b4, H⟩ := Ev.bas3 rfl rfl hS.1 qa_649 qw_77 H
      obtain ⟨N5, eN5⟩ : ∃ N, N = (wI M 649 ((sn - 1).toNatClampNeg) (vp_nar .boolean 0)) := ⟨_, rfl⟩
      have hN5 : SQ N5 := by rw [eN5]; exact hS.ki
      have H : Ev none e 187 191 [some (.ref 633), some (.int x), some (.int c), some (.int tx), some (.int sn), some (.int kk), some (.int wh), c7] [] N5 v M' 0 0 := by rw [eN5]; exact H
      have H : Ev none e 187 39 [some (.ref 633), some (.int x), some (.int c), some (.int tx), some (.int sn), some (.int (kk + 1)), some (.int wh), c7] [] N5 v M' 0 0 := Ev.back 3 (fun n => rfl) H
      have HF := H
      subst eN5
      exact Or.inl ⟨h1, h3, b2, b4, HF⟩
    · rw [if_neg h3] at H
      have H : Ev none e 187 146 [some (.ref 633), some (.int x), some (.int c), some (.int tx), some (.int sn), some (.int kk), some (.int wh), c7] [.ref 633, .int (sn - 1), .ref 649] M v M' 0 0 := Ev.back 1 (fun n => rfl) H
      have H : Ev none e 187 149 [some (.ref 633), some (.int x), some (.int c), some (.int tx), some (.int sn), some (.int kk), some (.int wh), c7] [.ref 649, .int (sn - 1), .ref 649] M v M' 0 0 := Ev.back 1 (gs_3 rfl rfl (gf_u hS.1 qa_633 qr_61_33 qu_77 rfl)) H
      have H : Ev none e 187 151 [some (.ref 633), some (.int x), some (.int c), some (.int tx), some (.int sn), some (.int kk), some (.int wh), c7] [.int sn, .ref 649, .int (sn - 1), .ref 649] M v M' 0 0 := Ev.back 1 (fun n => rfl) H
      obtain ⟨b6, H⟩ := Ev.bal rfl rfl hS.1 qa_649 qw_77 (Or.inr rfl) H
      have H : Ev none e 187 152 [some (.ref 633), some (.int x), some (.int c), some (.int tx), some (.int sn), some (.int kk), some (.int wh), c7] [.int (rI M 649 sn), .int (sn - 1), .ref 649] M v M' 0 0 := H
      have H : Ev none e 187 (if (rI M 649 sn) = 0 then 159 else 155) [some (.ref 633), some (.int x), some (.int c), some (.int tx), some (.int sn), some (.int kk), some (.int wh), c7] [.int (sn - 1), .ref 649] M v M' 0 0 := Ev.back 1 (fun n => rfl) H
      by_cases h7 : (rI M 649 sn) = 0
      · rw [if_pos h7] at H
        have H : Ev none e 187 190 [some (.ref 633), some (.int x), some (.int c), some (.int tx), some (.int sn), some (.int kk), some (.int wh), c7] [.int 0, .int (sn - 1), .ref 649] M v M' 0 0 := Ev.back 2 (fun n => rfl) H
        obtain ⟨b8, H⟩ := Ev.bas3 rfl rfl hS.1 qa_649 qw_77 H
        obtain ⟨N9, eN9⟩ : ∃ N, N = (wI M 649 ((sn - 1).toNatClampNeg) (vp_nar .boolean 0)) := ⟨_, rfl⟩
        have hN9 : SQ N9 := by rw [eN9]; exact hS.ki
        have H : Ev none e 187 191 [some (.ref 633), some (.int x), some (.int c), some (.int tx), some (.int sn), some (.int kk), some (.int wh), c7] [] N9 v M' 0 0 := by rw [eN9]; exact H
        have H : Ev none e 187 39 [some (.ref 633), some (.int x), some (.int c), some (.int tx), some (.int sn), some (.int (kk + 1)), some (.int wh), c7] [] N9 v M' 0 0 := Ev.back 3 (fun n => rfl) H
        have HF := H
        subst eN9
        exact Or.inr (Or.inl ⟨h1, h3, h7, b2, b6, b8, HF⟩)
      · rw [if_neg h7] at H
        have H : Ev none e 187 190 [some (.ref 633), some (.int x), some (.int c), some (.int tx), some (.int sn), some (.int kk), some (.int wh), c7] [.int 1, .int (sn - 1), .ref 649] M v M' 0 0 := Ev.back 2 (fun n => rfl) H
        obtain ⟨b10, H⟩ := Ev.bas3 rfl rfl hS.1 qa_649 qw_77 H
        obtain ⟨N11, eN11⟩ : ∃ N, N = (wI M 649 ((sn - 1).toNatClampNeg) (vp_nar .boolean 1)) := ⟨_, rfl⟩
        have hN11 : SQ N11 := by rw [eN11]; exact hS.ki
        have H : Ev none e 187 191 [some (.ref 633), some (.int x), some (.int c), some (.int tx), some (.int sn), some (.int kk), some (.int wh), c7] [] N11 v M' 0 0 := by rw [eN11]; exact H
        have H : Ev none e 187 39 [some (.ref 633), some (.int x), some (.int c), some (.int tx), some (.int sn), some (.int (kk + 1)), some (.int wh), c7] [] N11 v M' 0 0 := Ev.back 3 (fun n => rfl) H
        have HF := H
        subst eN11
        exact Or.inr (Or.inr (Or.inl ⟨h1, h3, h7, b2, b6, b10, HF⟩))
  · rw [if_neg h1] at H
    have H : Ev none e 187 164 [some (.ref 633), some (.int x), some (.int c), some (.int tx), some (.int sn), some (.int kk), some (.int wh), c7] [.ref 633, .int (sn - 1), .ref 649] M v M' 0 0 := Ev.back 1 (fun n => rfl) H
    have H : Ev none e 187 167 [some (.ref 633), some (.int x), some (.int c), some (.int tx), some (.int sn), some (.int kk), some (.int wh), c7] [.ref 649, .int (sn - 1), .ref 649] M v M' 0 0 := Ev.back 1 (gs_3 rfl rfl (gf_u hS.1 qa_633 qr_61_33 qu_77 rfl)) H
    have H : Ev none e 187 171 [some (.ref 633), some (.int x), some (.int c), some (.int tx), some (.int sn), some (.int kk), some (.int wh), c7] [.int (sn - 1), .ref 649, .int (sn - 1), .ref 649] M v M' 0 0 := Ev.back 3 (fun n => rfl) H
    obtain ⟨b12, H⟩ := Ev.bal rfl rfl hS.1 qa_649 qw_77 (Or.inr rfl) H
    have H : Ev none e 187 172 [some (.ref 633), some (.int x), some (.int c), some (.int tx), some (.int sn), some (.int kk), some (.int wh), c7] [.int (rI M 649 (sn - 1)), .int (sn - 1), .ref 649] M v M' 0 0 := H
    have H : Ev none e 187 (if (rI M 649 (sn - 1)) = 0 then 175 else 185) [some (.ref 633), some (.int x), some (.int c), some (.int tx), some (.int sn), some (.int kk), some (.int wh), c7] [.int (sn - 1), .ref 649] M v M' 0 0 := Ev.back 1 (fun n => rfl) H
    by_cases h13 : (rI M 649 (sn - 1)) = 0
    · rw [if_pos h13] at H
      have H : Ev none e 187 176 [some (.ref 633), some (.int x), some (.int c), some (.int tx), some (.int sn), some (.int kk), some (.int wh), c7] [.ref 633, .int (sn - 1), .ref 649] M v M' 0 0 := Ev.back 1 (fun n => rfl) H
      have H : Ev none e 187 179 [some (.ref 633), some (.int x), some (.int c), some (.int tx), some (.int sn), some (.int kk), some (.int wh), c7] [.ref 649, .int (sn - 1), .ref 649] M v M' 0 0 := Ev.back 1 (gs_3 rfl rfl (gf_u hS.1 qa_633 qr_61_33 qu_77 rfl)) H
      have H : Ev none e 187 181 [some (.ref 633), some (.int x), some (.int c), some (.int tx), some (.int sn), some (.int kk), some (.int wh), c7] [.int sn, .ref 649, .int (sn - 1), .ref 649] M v M' 0 0 := Ev.back 1 (fun n => rfl) H
      obtain ⟨b14, H⟩ := Ev.bal rfl rfl hS.1 qa_649 qw_77 (Or.inr rfl) H
      have H : Ev none e 187 182 [some (.ref 633), some (.int x), some (.int c), some (.int tx), some (.int sn), some (.int kk), some (.int wh), c7] [.int (rI M 649 sn), .int (sn - 1), .ref 649] M v M' 0 0 := H
      have H : Ev none e 187 (if (rI M 649 sn) = 0 then 189 else 185) [some (.ref 633), some (.int x), some (.int c), some (.int tx), some (.int sn), some (.int kk), some (.int wh), c7] [.int (sn - 1), .ref 649] M v M' 0 0 := Ev.back 1 (fun n => rfl) H
      by_cases h15 : (rI M 649 sn) = 0
      · rw [if_pos h15] at H
        have H : Ev none e 187 190 [some (.ref 633), some (.int x), some (.int c), some (.int tx), some (.int sn), some (.int kk), some (.int wh), c7] [.int 0, .int (sn - 1), .ref 649] M v M' 0 0 := Ev.back 1 (fun n => rfl) H
        obtain ⟨b16, H⟩ := Ev.bas3 rfl rfl hS.1 qa_649 qw_77 H
        obtain ⟨N17, eN17⟩ : ∃ N, N = (wI M 649 ((sn - 1).toNatClampNeg) (vp_nar .boolean 0)) := ⟨_, rfl⟩
        have hN17 : SQ N17 := by rw [eN17]; exact hS.ki
        have H : Ev none e 187 191 [some (.ref 633), some (.int x), some (.int c), some (.int tx), some (.int sn), some (.int kk), some (.int wh), c7] [] N17 v M' 0 0 := by rw [eN17]; exact H
        have H : Ev none e 187 39 [some (.ref 633), some (.int x), some (.int c), some (.int tx), some (.int sn), some (.int (kk + 1)), some (.int wh), c7] [] N17 v M' 0 0 := Ev.back 3 (fun n => rfl) H
        have HF := H
        subst eN17
        exact Or.inr (Or.inr (Or.inr (Or.inl ⟨h1, h13, h15, b12, b14, b16, HF⟩)))
      · rw [if_neg h15] at H
        have H : Ev none e 187 190 [some (.ref 633), some (.int x), some (.int c), some (.int tx), some (.int sn), some (.int kk), some (.int wh), c7] [.int 1, .int (sn - 1), .ref 649] M v M' 0 0 := Ev.back 2 (fun n => rfl) H
        obtain ⟨b18, H⟩ := Ev.bas3 rfl rfl hS.1 qa_649 qw_77 H
        obtain ⟨N19, eN19⟩ : ∃ N, N = (wI M 649 ((sn - 1).toNatClampNeg) (vp_nar .boolean 1)) := ⟨_, rfl⟩
        have hN19 : SQ N19 := by rw [eN19]; exact hS.ki
        have H : Ev none e 187 191 [some (.ref 633), some (.int x), some (.int c), some (.int tx), some (.int sn), some (.int kk), some (.int wh), c7] [] N19 v M' 0 0 := by rw [eN19]; exact H
        have H : Ev none e 187 39 [some (.ref 633), some (.int x), some (.int c), some (.int tx), some (.int sn), some (.int (kk + 1)), some (.int wh), c7] [] N19 v M' 0 0 := Ev.back 3 (fun n => rfl) H
        have HF := H
        subst eN19
        exact Or.inr (Or.inr (Or.inr (Or.inr (Or.inl ⟨h1, h13, h15, b12, b14, b18, HF⟩))))
    · rw [if_neg h13] at H
      have H : Ev none e 187 190 [some (.ref 633), some (.int x), some (.int c), some (.int tx), some (.int sn), some (.int kk), some (.int wh), c7] [.int 1, .int (sn - 1), .ref 649] M v M' 0 0 := Ev.back 2 (fun n => rfl) H
      obtain ⟨b20, H⟩ := Ev.bas3 rfl rfl hS.1 qa_649 qw_77 H
      obtain ⟨N21, eN21⟩ : ∃ N, N = (wI M 649 ((sn - 1).toNatClampNeg) (vp_nar .boolean 1)) := ⟨_, rfl⟩
      have hN21 : SQ N21 := by rw [eN21]; exact hS.ki
      have H : Ev none e 187 191 [some (.ref 633), some (.int x), some (.int c), some (.int tx), some (.int sn), some (.int kk), some (.int wh), c7] [] N21 v M' 0 0 := by rw [eN21]; exact H
      have H : Ev none e 187 39 [some (.ref 633), some (.int x), some (.int c), some (.int tx), some (.int sn), some (.int (kk + 1)), some (.int wh), c7] [] N21 v M' 0 0 := Ev.back 3 (fun n => rfl) H
      have HF := H
      subst eN21
      exact Or.inr (Or.inr (Or.inr (Or.inr (Or.inr (⟨h1, h13, b12, b20, HF⟩)))))
theorem rho_246 {e : Nat} {M M' : Mem} {v : Option Value} {x c tx sn kk wh vv : Int32} (hS : SQ M) (H : Ev none e 187 246 [some (.ref 633), some (.int x), some (.int c), some (.int tx), some (.int sn), some (.int kk), some (.int wh), some (.int vv)] [] M v M' 0 0) : (8 ≤ wh ∧ (rI M 646 kk) = 60 ∧ (rI M 647 kk) ≤ vv ∧ (0 ≤ kk.toInt ∧ kk.toInt < 1600) ∧ (0 ≤ kk.toInt ∧ kk.toInt < 1600) ∧ (0 ≤ sn.toInt ∧ sn.toInt < 60) ∧ Ev none e 187 39 [some (.ref 633), some (.int x), some (.int c), some (.int tx), some (.int (sn + 1)), some (.int (kk + 1)), some (.int wh), some (.int vv)] [] (wI M 649 sn.toNatClampNeg (vp_nar .boolean 0)) v M' 0 0) ∨ (8 ≤ wh ∧ (rI M 646 kk) = 60 ∧ ¬ ((rI M 647 kk) ≤ vv) ∧ (0 ≤ kk.toInt ∧ kk.toInt < 1600) ∧ (0 ≤ kk.toInt ∧ kk.toInt < 1600) ∧ (0 ≤ sn.toInt ∧ sn.toInt < 60) ∧ Ev none e 187 39 [some (.ref 633), some (.int x), some (.int c), some (.int tx), some (.int (sn + 1)), some (.int (kk + 1)), some (.int wh), some (.int vv)] [] (wI M 649 sn.toNatClampNeg (vp_nar .boolean 1)) v M' 0 0) ∨ (8 ≤ wh ∧ ¬ ((rI M 646 kk) = 60) ∧ (rI M 646 kk) = 61 ∧ vv = (rI M 647 kk) ∧ (0 ≤ kk.toInt ∧ kk.toInt < 1600) ∧ (0 ≤ kk.toInt ∧ kk.toInt < 1600) ∧ (0 ≤ kk.toInt ∧ kk.toInt < 1600) ∧ (0 ≤ sn.toInt ∧ sn.toInt < 60) ∧ Ev none e 187 39 [some (.ref 633), some (.int x), some (.int c), some (.int tx), some (.int (sn + 1)), some (.int (kk + 1)), some (.int wh), some (.int vv)] [] (wI M 649 sn.toNatClampNeg (vp_nar .boolean 1)) v M' 0 0) ∨ (8 ≤ wh ∧ ¬ ((rI M 646 kk) = 60) ∧ (rI M 646 kk) = 61 ∧ ¬ (vv = (rI M 647 kk)) ∧ (0 ≤ kk.toInt ∧ kk.toInt < 1600) ∧ (0 ≤ kk.toInt ∧ kk.toInt < 1600) ∧ (0 ≤ kk.toInt ∧ kk.toInt < 1600) ∧ (0 ≤ sn.toInt ∧ sn.toInt < 60) ∧ Ev none e 187 39 [some (.ref 633), some (.int x), some (.int c), some (.int tx), some (.int (sn + 1)), some (.int (kk + 1)), some (.int wh), some (.int vv)] [] (wI M 649 sn.toNatClampNeg (vp_nar .boolean 0)) v M' 0 0) ∨ (8 ≤ wh ∧ ¬ ((rI M 646 kk) = 60) ∧ ¬ ((rI M 646 kk) = 61) ∧ vv ≤ (rI M 647 kk) ∧ (0 ≤ kk.toInt ∧ kk.toInt < 1600) ∧ (0 ≤ kk.toInt ∧ kk.toInt < 1600) ∧ (0 ≤ kk.toInt ∧ kk.toInt < 1600) ∧ (0 ≤ sn.toInt ∧ sn.toInt < 60) ∧ Ev none e 187 39 [some (.ref 633), some (.int x), some (.int c), some (.int tx), some (.int (sn + 1)), some (.int (kk + 1)), some (.int wh), some (.int vv)] [] (wI M 649 sn.toNatClampNeg (vp_nar .boolean 0)) v M' 0 0) ∨ (8 ≤ wh ∧ ¬ ((rI M 646 kk) = 60) ∧ ¬ ((rI M 646 kk) = 61) ∧ ¬ (vv ≤ (rI M 647 kk)) ∧ (0 ≤ kk.toInt ∧ kk.toInt < 1600) ∧ (0 ≤ kk.toInt ∧ kk.toInt < 1600) ∧ (0 ≤ kk.toInt ∧ kk.toInt < 1600) ∧ (0 ≤ sn.toInt ∧ sn.toInt < 60) ∧ Ev none e 187 39 [some (.ref 633), some (.int x), some (.int c), some (.int tx), some (.int (sn + 1)), some (.int (kk + 1)), some (.int wh), some (.int vv)] [] (wI M 649 sn.toNatClampNeg (vp_nar .boolean 1)) v M' 0 0) ∨ (¬ (8 ≤ wh) ∧ (∃ e1 v1 M1, e = e1 + 1 ∧ Ev none e1 186 0 [some (.ref 633), some (.int c), some (.int wh)] [] M v1 M1 0 0 ∧ Ev none e 187 266 [some (.ref 633), some (.int x), some (.int c), some (.int tx), some (.int sn), some (.int kk), some (.int wh), some (.int vv)] (v1.toList ++ [.int sn, .ref 649]) M1 v M' 0 0)) := by
  have H : Ev none e 187 247 [some (.ref 633), some (.int x), some (.int c), some (.int tx), some (.int sn), some (.int kk), some (.int wh), some (.int vv)] [.ref 633] M v M' 0 0 := Ev.back 1 (fun n => rfl) H
  have H : Ev none e 187 250 [some (.ref 633), some (.int x), some (.int c), some (.int tx), some (.int sn), some (.int kk), some (.int wh), some (.int vv)] [.ref 649] M v M' 0 0 := Ev.back 1 (gs_3 rfl rfl (gf_u hS.1 qa_633 qr_61_33 qu_77 rfl)) H
  have H : Ev none e 187 (if 8 ≤ wh then 269 else 259) [some (.ref 633), some (.int x), some (.int c), some (.int tx), some (.int sn), some (.int kk), some (.int wh), some (.int vv)] [.int sn, .ref 649] M v M' 0 0 := Ev.back 4 (fun n => rfl) H
  by_cases h1 : 8 ≤ wh
  · rw [if_pos h1] at H
    have H : Ev none e 187 270 [some (.ref 633), some (.int x), some (.int c), some (.int tx), some (.int sn), some (.int kk), some (.int wh), some (.int vv)] [.ref 633, .int sn, .ref 649] M v M' 0 0 := Ev.back 1 (fun n => rfl) H
    have H : Ev none e 187 273 [some (.ref 633), some (.int x), some (.int c), some (.int tx), some (.int sn), some (.int kk), some (.int wh), some (.int vv)] [.ref 646, .int sn, .ref 649] M v M' 0 0 := Ev.back 1 (gs_3 rfl rfl (gf_u hS.1 qa_633 qr_61_16 qu_74 rfl)) H
    have H : Ev none e 187 275 [some (.ref 633), some (.int x), some (.int c), some (.int tx), some (.int sn), some (.int kk), some (.int wh), some (.int vv)] [.int kk, .ref 646, .int sn, .ref 649] M v M' 0 0 := Ev.back 1 (fun n => rfl) H
    obtain ⟨b2, H⟩ := Ev.ial rfl rfl hS.1 qa_646 qw_74 H
    have H : Ev none e 187 276 [some (.ref 633), some (.int x), some (.int c), some (.int tx), some (.int sn), some (.int kk), some (.int wh), some (.int vv)] [.int (rI M 646 kk), .int sn, .ref 649] M v M' 0 0 := H
    have H : Ev none e 187 (if (rI M 646 kk) = 60 then 281 else 301) [some (.ref 633), some (.int x), some (.int c), some (.int tx), some (.int sn), some (.int kk), some (.int wh), some (.int vv)] [.int sn, .ref 649] M v M' 0 0 := Ev.back 2 (fun n => rfl) H
    by_cases h3 : (rI M 646 kk) = 60
    · rw [if_pos h3] at H
      have H : Ev none e 187 284 [some (.ref 633), some (.int x), some (.int c), some (.int tx), some (.int sn), some (.int kk), some (.int wh), some (.int vv)] [.ref 633, .int vv, .int sn, .ref 649] M v M' 0 0 := Ev.back 2 (fun n => rfl) H
      have H : Ev none e 187 287 [some (.ref 633), some (.int x), some (.int c), some (.int tx), some (.int sn), some (.int kk), some (.int wh), some (.int vv)] [.ref 647, .int vv, .int sn, .ref 649] M v M' 0 0 := Ev.back 1 (gs_3 rfl rfl (gf_u hS.1 qa_633 qr_61_17 qu_75 rfl)) H
      have H : Ev none e 187 289 [some (.ref 633), some (.int x), some (.int c), some (.int tx), some (.int sn), some (.int kk), some (.int wh), some (.int vv)] [.int kk, .ref 647, .int vv, .int sn, .ref 649] M v M' 0 0 := Ev.back 1 (fun n => rfl) H
      obtain ⟨b4, H⟩ := Ev.ial rfl rfl hS.1 qa_647 qw_75 H
      have H : Ev none e 187 290 [some (.ref 633), some (.int x), some (.int c), some (.int tx), some (.int sn), some (.int kk), some (.int wh), some (.int vv)] [.int (rI M 647 kk), .int vv, .int sn, .ref 649] M v M' 0 0 := H
      have H : Ev none e 187 (if (rI M 647 kk) ≤ vv then 297 else 293) [some (.ref 633), some (.int x), some (.int c), some (.int tx), some (.int sn), some (.int kk), some (.int wh), some (.int vv)] [.int sn, .ref 649] M v M' 0 0 := Ev.back 1 (fun n => rfl) H
      by_cases h5 : (rI M 647 kk) ≤ vv
      · rw [if_pos h5] at H
        have H : Ev none e 187 350 [some (.ref 633), some (.int x), some (.int c), some (.int tx), some (.int sn), some (.int kk), some (.int wh), some (.int vv)] [.int 0, .int sn, .ref 649] M v M' 0 0 := Ev.back 2 (fun n => rfl) H
        obtain ⟨b6, H⟩ := Ev.bas3 rfl rfl hS.1 qa_649 qw_77 H
        obtain ⟨N7, eN7⟩ : ∃ N, N = (wI M 649 sn.toNatClampNeg (vp_nar .boolean 0)) := ⟨_, rfl⟩
        have hN7 : SQ N7 := by rw [eN7]; exact hS.ki
        have H : Ev none e 187 351 [some (.ref 633), some (.int x), some (.int c), some (.int tx), some (.int sn), some (.int kk), some (.int wh), some (.int vv)] [] N7 v M' 0 0 := by rw [eN7]; exact H
        have H : Ev none e 187 39 [some (.ref 633), some (.int x), some (.int c), some (.int tx), some (.int (sn + 1)), some (.int (kk + 1)), some (.int wh), some (.int vv)] [] N7 v M' 0 0 := Ev.back 3 (fun n => rfl) H
        have HF := H
        subst eN7
        exact Or.inl ⟨h1, h3, h5, b2, b4, b6, HF⟩
      · rw [if_neg h5] at H
        have H : Ev none e 187 350 [some (.ref 633), some (.int x), some (.int c), some (.int tx), some (.int sn), some (.int kk), some (.int wh), some (.int vv)] [.int 1, .int sn, .ref 649] M v M' 0 0 := Ev.back 2 (fun n => rfl) H
        obtain ⟨b8, H⟩ := Ev.bas3 rfl rfl hS.1 qa_649 qw_77 H
        obtain ⟨N9, eN9⟩ : ∃ N, N = (wI M 649 sn.toNatClampNeg (vp_nar .boolean 1)) := ⟨_, rfl⟩
        have hN9 : SQ N9 := by rw [eN9]; exact hS.ki
        have H : Ev none e 187 351 [some (.ref 633), some (.int x), some (.int c), some (.int tx), some (.int sn), some (.int kk), some (.int wh), some (.int vv)] [] N9 v M' 0 0 := by rw [eN9]; exact H
        have H : Ev none e 187 39 [some (.ref 633), some (.int x), some (.int c), some (.int tx), some (.int (sn + 1)), some (.int (kk + 1)), some (.int wh), some (.int vv)] [] N9 v M' 0 0 := Ev.back 3 (fun n => rfl) H
        have HF := H
        subst eN9
        exact Or.inr (Or.inl ⟨h1, h3, h5, b2, b4, b8, HF⟩)
    · rw [if_neg h3] at H
      have H : Ev none e 187 302 [some (.ref 633), some (.int x), some (.int c), some (.int tx), some (.int sn), some (.int kk), some (.int wh), some (.int vv)] [.ref 633, .int sn, .ref 649] M v M' 0 0 := Ev.back 1 (fun n => rfl) H
      have H : Ev none e 187 305 [some (.ref 633), some (.int x), some (.int c), some (.int tx), some (.int sn), some (.int kk), some (.int wh), some (.int vv)] [.ref 646, .int sn, .ref 649] M v M' 0 0 := Ev.back 1 (gs_3 rfl rfl (gf_u hS.1 qa_633 qr_61_16 qu_74 rfl)) H
      have H : Ev none e 187 307 [some (.ref 633), some (.int x), some (.int c), some (.int tx), some (.int sn), some (.int kk), some (.int wh), some (.int vv)] [.int kk, .ref 646, .int sn, .ref 649] M v M' 0 0 := Ev.back 1 (fun n => rfl) H
      obtain ⟨b10, H⟩ := Ev.ial rfl rfl hS.1 qa_646 qw_74 H
      have H : Ev none e 187 308 [some (.ref 633), some (.int x), some (.int c), some (.int tx), some (.int sn), some (.int kk), some (.int wh), some (.int vv)] [.int (rI M 646 kk), .int sn, .ref 649] M v M' 0 0 := H
      have H : Ev none e 187 (if (rI M 646 kk) = 61 then 313 else 333) [some (.ref 633), some (.int x), some (.int c), some (.int tx), some (.int sn), some (.int kk), some (.int wh), some (.int vv)] [.int sn, .ref 649] M v M' 0 0 := Ev.back 2 (fun n => rfl) H
      by_cases h11 : (rI M 646 kk) = 61
      · rw [if_pos h11] at H
        have H : Ev none e 187 316 [some (.ref 633), some (.int x), some (.int c), some (.int tx), some (.int sn), some (.int kk), some (.int wh), some (.int vv)] [.ref 633, .int vv, .int sn, .ref 649] M v M' 0 0 := Ev.back 2 (fun n => rfl) H
        have H : Ev none e 187 319 [some (.ref 633), some (.int x), some (.int c), some (.int tx), some (.int sn), some (.int kk), some (.int wh), some (.int vv)] [.ref 647, .int vv, .int sn, .ref 649] M v M' 0 0 := Ev.back 1 (gs_3 rfl rfl (gf_u hS.1 qa_633 qr_61_17 qu_75 rfl)) H
        have H : Ev none e 187 321 [some (.ref 633), some (.int x), some (.int c), some (.int tx), some (.int sn), some (.int kk), some (.int wh), some (.int vv)] [.int kk, .ref 647, .int vv, .int sn, .ref 649] M v M' 0 0 := Ev.back 1 (fun n => rfl) H
        obtain ⟨b12, H⟩ := Ev.ial rfl rfl hS.1 qa_647 qw_75 H
        have H : Ev none e 187 322 [some (.ref 633), some (.int x), some (.int c), some (.int tx), some (.int sn), some (.int kk), some (.int wh), some (.int vv)] [.int (rI M 647 kk), .int vv, .int sn, .ref 649] M v M' 0 0 := H
        have H : Ev none e 187 (if vv = (rI M 647 kk) then 325 else 329) [some (.ref 633), some (.int x), some (.int c), some (.int tx), some (.int sn), some (.int kk), some (.int wh), some (.int vv)] [.int sn, .ref 649] M v M' 0 0 := Ev.back 1 (fun n => rfl) H
        by_cases h13 : vv = (rI M 647 kk)
        · rw [if_pos h13] at H
          have H : Ev none e 187 350 [some (.ref 633), some (.int x), some (.int c), some (.int tx), some (.int sn), some (.int kk), some (.int wh), some (.int vv)] [.int 1, .int sn, .ref 649] M v M' 0 0 := Ev.back 2 (fun n => rfl) H
          obtain ⟨b14, H⟩ := Ev.bas3 rfl rfl hS.1 qa_649 qw_77 H
          obtain ⟨N15, eN15⟩ : ∃ N, N = (wI M 649 sn.toNatClampNeg (vp_nar .boolean 1)) := ⟨_, rfl⟩
          have hN15 : SQ N15 := by rw [eN15]; exact hS.ki
          have H : Ev none e 187 351 [some (.ref 633), some (.int x), some (.int c), some (.int tx), some (.int sn), some (.int kk), some (.int wh), some (.int vv)] [] N15 v M' 0 0 := by rw [eN15]; exact H
          have H : Ev none e 187 39 [some (.ref 633), some (.int x), some (.int c), some (.int tx), some (.int (sn + 1)), some (.int (kk + 1)), some (.int wh), some (.int vv)] [] N15 v M' 0 0 := Ev.back 3 (fun n => rfl) H
          have HF := H
          subst eN15
          exact Or.inr (Or.inr (Or.inl ⟨h1, h3, h11, h13, b2, b10, b12, b14, HF⟩))
        · rw [if_neg h13] at H
          have H : Ev none e 187 350 [some (.ref 633), some (.int x), some (.int c), some (.int tx), some (.int sn), some (.int kk), some (.int wh), some (.int vv)] [.int 0, .int sn, .ref 649] M v M' 0 0 := Ev.back 2 (fun n => rfl) H
          obtain ⟨b16, H⟩ := Ev.bas3 rfl rfl hS.1 qa_649 qw_77 H
          obtain ⟨N17, eN17⟩ : ∃ N, N = (wI M 649 sn.toNatClampNeg (vp_nar .boolean 0)) := ⟨_, rfl⟩
          have hN17 : SQ N17 := by rw [eN17]; exact hS.ki
          have H : Ev none e 187 351 [some (.ref 633), some (.int x), some (.int c), some (.int tx), some (.int sn), some (.int kk), some (.int wh), some (.int vv)] [] N17 v M' 0 0 := by rw [eN17]; exact H
          have H : Ev none e 187 39 [some (.ref 633), some (.int x), some (.int c), some (.int tx), some (.int (sn + 1)), some (.int (kk + 1)), some (.int wh), some (.int vv)] [] N17 v M' 0 0 := Ev.back 3 (fun n => rfl) H
          have HF := H
          subst eN17
          exact Or.inr (Or.inr (Or.inr (Or.inl ⟨h1, h3, h11, h13, b2, b10, b12, b16, HF⟩)))
      · rw [if_neg h11] at H
        have H : Ev none e 187 336 [some (.ref 633), some (.int x), some (.int c), some (.int tx), some (.int sn), some (.int kk), some (.int wh), some (.int vv)] [.ref 633, .int vv, .int sn, .ref 649] M v M' 0 0 := Ev.back 2 (fun n => rfl) H
        have H : Ev none e 187 339 [some (.ref 633), some (.int x), some (.int c), some (.int tx), some (.int sn), some (.int kk), some (.int wh), some (.int vv)] [.ref 647, .int vv, .int sn, .ref 649] M v M' 0 0 := Ev.back 1 (gs_3 rfl rfl (gf_u hS.1 qa_633 qr_61_17 qu_75 rfl)) H
        have H : Ev none e 187 341 [some (.ref 633), some (.int x), some (.int c), some (.int tx), some (.int sn), some (.int kk), some (.int wh), some (.int vv)] [.int kk, .ref 647, .int vv, .int sn, .ref 649] M v M' 0 0 := Ev.back 1 (fun n => rfl) H
        obtain ⟨b18, H⟩ := Ev.ial rfl rfl hS.1 qa_647 qw_75 H
        have H : Ev none e 187 342 [some (.ref 633), some (.int x), some (.int c), some (.int tx), some (.int sn), some (.int kk), some (.int wh), some (.int vv)] [.int (rI M 647 kk), .int vv, .int sn, .ref 649] M v M' 0 0 := H
        have H : Ev none e 187 (if vv ≤ (rI M 647 kk) then 349 else 345) [some (.ref 633), some (.int x), some (.int c), some (.int tx), some (.int sn), some (.int kk), some (.int wh), some (.int vv)] [.int sn, .ref 649] M v M' 0 0 := Ev.back 1 (fun n => rfl) H
        by_cases h19 : vv ≤ (rI M 647 kk)
        · rw [if_pos h19] at H
          have H : Ev none e 187 350 [some (.ref 633), some (.int x), some (.int c), some (.int tx), some (.int sn), some (.int kk), some (.int wh), some (.int vv)] [.int 0, .int sn, .ref 649] M v M' 0 0 := Ev.back 1 (fun n => rfl) H
          obtain ⟨b20, H⟩ := Ev.bas3 rfl rfl hS.1 qa_649 qw_77 H
          obtain ⟨N21, eN21⟩ : ∃ N, N = (wI M 649 sn.toNatClampNeg (vp_nar .boolean 0)) := ⟨_, rfl⟩
          have hN21 : SQ N21 := by rw [eN21]; exact hS.ki
          have H : Ev none e 187 351 [some (.ref 633), some (.int x), some (.int c), some (.int tx), some (.int sn), some (.int kk), some (.int wh), some (.int vv)] [] N21 v M' 0 0 := by rw [eN21]; exact H
          have H : Ev none e 187 39 [some (.ref 633), some (.int x), some (.int c), some (.int tx), some (.int (sn + 1)), some (.int (kk + 1)), some (.int wh), some (.int vv)] [] N21 v M' 0 0 := Ev.back 3 (fun n => rfl) H
          have HF := H
          subst eN21
          exact Or.inr (Or.inr (Or.inr (Or.inr (Or.inl ⟨h1, h3, h11, h19, b2, b10, b18, b20, HF⟩))))
        · rw [if_neg h19] at H
          have H : Ev none e 187 350 [some (.ref 633), some (.int x), some (.int c), some (.int tx), some (.int sn), some (.int kk), some (.int wh), some (.int vv)] [.int 1, .int sn, .ref 649] M v M' 0 0 := Ev.back 2 (fun n => rfl) H
          obtain ⟨b22, H⟩ := Ev.bas3 rfl rfl hS.1 qa_649 qw_77 H
          obtain ⟨N23, eN23⟩ : ∃ N, N = (wI M 649 sn.toNatClampNeg (vp_nar .boolean 1)) := ⟨_, rfl⟩
          have hN23 : SQ N23 := by rw [eN23]; exact hS.ki
          have H : Ev none e 187 351 [some (.ref 633), some (.int x), some (.int c), some (.int tx), some (.int sn), some (.int kk), some (.int wh), some (.int vv)] [] N23 v M' 0 0 := by rw [eN23]; exact H
          have H : Ev none e 187 39 [some (.ref 633), some (.int x), some (.int c), some (.int tx), some (.int (sn + 1)), some (.int (kk + 1)), some (.int wh), some (.int vv)] [] N23 v M' 0 0 := Ev.back 3 (fun n => rfl) H
          have HF := H
          subst eN23
          exact Or.inr (Or.inr (Or.inr (Or.inr (Or.inr (Or.inl ⟨h1, h3, h11, h19, b2, b10, b18, b22, HF⟩)))))
  · rw [if_neg h1] at H
    have H : Ev none e 187 263 [some (.ref 633), some (.int x), some (.int c), some (.int tx), some (.int sn), some (.int kk), some (.int wh), some (.int vv)] [.int wh, .int c, .ref 633, .int sn, .ref 649] M v M' 0 0 := Ev.back 3 (fun n => rfl) H
    obtain ⟨e1, rfl⟩ := Ev.dpos rfl rfl H
    obtain ⟨vK24, MK24, K24, H⟩ := Ev.callb (fun n_ => gs_7 rfl rfl (show gCal (.invokevirtual 334) 11 (.int wh :: .int c :: .ref 633 :: [.int sn, .ref 649]) M = some (.inr (186, [some (.ref 633), some (.int c), some (.int wh)], [.int sn, .ref 649])) from by show @cond (Option ((List Value × Mem) ⊕ (Nat × Lo × List Value))) (true && gRecv M (.ref 633) 11 && gRoom [.int sn, .ref 649] && true) (some (.inr (186, [some (.ref 633), some (.int c), some (.int wh)], [.int sn, .ref 649]))) none = _; rw [recv_s hS.1 qa_633 qo_61]; rfl)) H
    have K24 : Ev none e1 186 0 [some (.ref 633), some (.int c), some (.int wh)] [] M vK24 MK24 0 0 := K24
    have HF := H
    exact Or.inr (Or.inr (Or.inr (Or.inr (Or.inr (Or.inr (⟨h1, ⟨e1, vK24, MK24, rfl, K24, HF⟩⟩))))))
theorem rho_266 {e : Nat} {M M' : Mem} {v : Option Value} {x c tx sn kk wh vv y z : Int32} (hS : SQ M) (H : Ev none e 187 266 [some (.ref 633), some (.int x), some (.int c), some (.int tx), some (.int sn), some (.int kk), some (.int wh), some (.int vv)] [.int y, .int z, .ref 649] M v M' 0 0) : (0 ≤ z.toInt ∧ z.toInt < 60) ∧ Ev none e 187 39 [some (.ref 633), some (.int x), some (.int c), some (.int tx), some (.int (sn + 1)), some (.int (kk + 1)), some (.int wh), some (.int vv)] [] (wI M 649 z.toNatClampNeg (vp_nar .boolean y)) v M' 0 0 := by
  have H : Ev none e 187 350 [some (.ref 633), some (.int x), some (.int c), some (.int tx), some (.int sn), some (.int kk), some (.int wh), some (.int vv)] [.int y, .int z, .ref 649] M v M' 0 0 := Ev.back 1 (fun n => rfl) H
  obtain ⟨b1, H⟩ := Ev.bas3 rfl rfl hS.1 qa_649 qw_77 H
  obtain ⟨N2, eN2⟩ : ∃ N, N = (wI M 649 z.toNatClampNeg (vp_nar .boolean y)) := ⟨_, rfl⟩
  have hN2 : SQ N2 := by rw [eN2]; exact hS.ki
  have H : Ev none e 187 351 [some (.ref 633), some (.int x), some (.int c), some (.int tx), some (.int sn), some (.int kk), some (.int wh), some (.int vv)] [] N2 v M' 0 0 := by rw [eN2]; exact H
  have H : Ev none e 187 39 [some (.ref 633), some (.int x), some (.int c), some (.int tx), some (.int (sn + 1)), some (.int (kk + 1)), some (.int wh), some (.int vv)] [] N2 v M' 0 0 := Ev.back 3 (fun n => rfl) H
  have HF := H
  subst eN2
  exact ⟨b1, HF⟩
/-! THE REFERENCE'S walking: choose: pieces (made by gref.py) -/
theorem rfs_0 {e : Nat} {M M' : Mem} {v : Option Value} {k c d : Int32} (hS : SQ M) (H : Ev none e 188 0 [some (.ref 633), some (.int k), some (.int c), some (.int d), none] [] M v M' 0 0) : Ev none e 188 3 [some (.ref 633), some (.int k), some (.int c), some (.int d), some (.int 0)] [] M v M' 0 0 := by
  have H : Ev none e 188 3 [some (.ref 633), some (.int k), some (.int c), some (.int d), some (.int 0)] [] M v M' 0 0 := Ev.back 2 (fun n => rfl) H
  have HF := H
  exact HF
theorem rfs_3 {e : Nat} {M M' : Mem} {v : Option Value} {k c d i : Int32} (hS : SQ M) (H : Ev none e 188 3 [some (.ref 633), some (.int k), some (.int c), some (.int d), some (.int i)] [] M v M' 0 0) : ((rI M 639 0) ≤ i ∧ (0 ≤ (0 : Int32).toInt ∧ (0 : Int32).toInt < 8) ∧ v = some (.int d) ∧ M' = M) ∨ (¬ ((rI M 639 0) ≤ i) ∧ (rI M 640 i) = k ∧ (0 ≤ (0 : Int32).toInt ∧ (0 : Int32).toInt < 8) ∧ (0 ≤ i.toInt ∧ i.toInt < 128) ∧ (∃ e1 v1 M1, e = e1 + 1 ∧ Ev none e1 187 0 [some (.ref 633), some (.int i), some (.int c), none, none, none, none, none] [] M v1 M1 0 0 ∧ Ev none e 188 32 [some (.ref 633), some (.int k), some (.int c), some (.int d), some (.int i)] (v1.toList ++ []) M1 v M' 0 0)) ∨ (¬ ((rI M 639 0) ≤ i) ∧ ¬ ((rI M 640 i) = k) ∧ (0 ≤ (0 : Int32).toInt ∧ (0 : Int32).toInt < 8) ∧ (0 ≤ i.toInt ∧ i.toInt < 128) ∧ Ev none e 188 3 [some (.ref 633), some (.int k), some (.int c), some (.int d), some (.int (i + 1))] [] M v M' 0 0) := by
  have H : Ev none e 188 6 [some (.ref 633), some (.int k), some (.int c), some (.int d), some (.int i)] [.ref 633, .int i] M v M' 0 0 := Ev.back 2 (fun n => rfl) H
  have H : Ev none e 188 9 [some (.ref 633), some (.int k), some (.int c), some (.int d), some (.int i)] [.ref 639, .int i] M v M' 0 0 := Ev.back 1 (gs_3 rfl rfl (gf_u hS.1 qa_633 qr_61_9 qu_67 rfl)) H
  have H : Ev none e 188 10 [some (.ref 633), some (.int k), some (.int c), some (.int d), some (.int i)] [.int 0, .ref 639, .int i] M v M' 0 0 := Ev.back 1 (fun n => rfl) H
  obtain ⟨b1, H⟩ := Ev.ial rfl rfl hS.1 qa_639 qw_67 H
  have H : Ev none e 188 11 [some (.ref 633), some (.int k), some (.int c), some (.int d), some (.int i)] [.int (rI M 639 0), .int i] M v M' 0 0 := H
  have H : Ev none e 188 (if (rI M 639 0) ≤ i then 49 else 14) [some (.ref 633), some (.int k), some (.int c), some (.int d), some (.int i)] [] M v M' 0 0 := Ev.back 1 (fun n => rfl) H
  by_cases h2 : (rI M 639 0) ≤ i
  · rw [if_pos h2] at H
    have H : Ev none e 188 50 [some (.ref 633), some (.int k), some (.int c), some (.int d), some (.int i)] [.int d] M v M' 0 0 := Ev.back 1 (fun n => rfl) H
    obtain ⟨z1, z2⟩ := Ev.retz rfl rfl H
    exact Or.inl ⟨h2, b1, z1, z2⟩
  · rw [if_neg h2] at H
    have H : Ev none e 188 15 [some (.ref 633), some (.int k), some (.int c), some (.int d), some (.int i)] [.ref 633] M v M' 0 0 := Ev.back 1 (fun n => rfl) H
    have H : Ev none e 188 18 [some (.ref 633), some (.int k), some (.int c), some (.int d), some (.int i)] [.ref 640] M v M' 0 0 := Ev.back 1 (gs_3 rfl rfl (gf_u hS.1 qa_633 qr_61_10 qu_68 rfl)) H
    have H : Ev none e 188 20 [some (.ref 633), some (.int k), some (.int c), some (.int d), some (.int i)] [.int i, .ref 640] M v M' 0 0 := Ev.back 1 (fun n => rfl) H
    obtain ⟨b3, H⟩ := Ev.ial rfl rfl hS.1 qa_640 qw_68 H
    have H : Ev none e 188 21 [some (.ref 633), some (.int k), some (.int c), some (.int d), some (.int i)] [.int (rI M 640 i)] M v M' 0 0 := H
    have H : Ev none e 188 (if (rI M 640 i) = k then 25 else 43) [some (.ref 633), some (.int k), some (.int c), some (.int d), some (.int i)] [] M v M' 0 0 := Ev.back 2 (fun n => rfl) H
    by_cases h4 : (rI M 640 i) = k
    · rw [if_pos h4] at H
      have H : Ev none e 188 29 [some (.ref 633), some (.int k), some (.int c), some (.int d), some (.int i)] [.int c, .int i, .ref 633] M v M' 0 0 := Ev.back 3 (fun n => rfl) H
      obtain ⟨e1, rfl⟩ := Ev.dpos rfl rfl H
      obtain ⟨vK5, MK5, K5, H⟩ := Ev.callb (fun n_ => gs_7 rfl rfl (show gCal (.invokevirtual 337) 11 (.int c :: .int i :: .ref 633 :: []) M = some (.inr (187, [some (.ref 633), some (.int i), some (.int c), none, none, none, none, none], [])) from by show @cond (Option ((List Value × Mem) ⊕ (Nat × Lo × List Value))) (true && gRecv M (.ref 633) 11 && gRoom [] && true) (some (.inr (187, [some (.ref 633), some (.int i), some (.int c), none, none, none, none, none], []))) none = _; rw [recv_s hS.1 qa_633 qo_61]; rfl)) H
      have K5 : Ev none e1 187 0 [some (.ref 633), some (.int i), some (.int c), none, none, none, none, none] [] M vK5 MK5 0 0 := K5
      have HF := H
      exact Or.inr (Or.inl ⟨h2, h4, b1, b3, ⟨e1, vK5, MK5, rfl, K5, HF⟩⟩)
    · rw [if_neg h4] at H
      have H : Ev none e 188 3 [some (.ref 633), some (.int k), some (.int c), some (.int d), some (.int (i + 1))] [] M v M' 0 0 := Ev.back 2 (fun n => rfl) H
      have HF := H
      exact Or.inr (Or.inr (⟨h2, h4, b1, b3, HF⟩))
theorem rfs_32 {e : Nat} {M M' : Mem} {v : Option Value} {k c d i y : Int32} (hS : SQ M) (H : Ev none e 188 32 [some (.ref 633), some (.int k), some (.int c), some (.int d), some (.int i)] [.int y] M v M' 0 0) : (y = 0 ∧ Ev none e 188 3 [some (.ref 633), some (.int k), some (.int c), some (.int d), some (.int (i + 1))] [] M v M' 0 0) ∨ (¬ (y = 0) ∧ (0 ≤ i.toInt ∧ i.toInt < 128) ∧ v = some (.int (rI M 642 i)) ∧ M' = M) := by
  have H : Ev none e 188 (if y = 0 then 43 else 35) [some (.ref 633), some (.int k), some (.int c), some (.int d), some (.int i)] [] M v M' 0 0 := Ev.back 1 (fun n => rfl) H
  by_cases h1 : y = 0
  · rw [if_pos h1] at H
    have H : Ev none e 188 3 [some (.ref 633), some (.int k), some (.int c), some (.int d), some (.int (i + 1))] [] M v M' 0 0 := Ev.back 2 (fun n => rfl) H
    have HF := H
    exact Or.inl ⟨h1, HF⟩
  · rw [if_neg h1] at H
    have H : Ev none e 188 36 [some (.ref 633), some (.int k), some (.int c), some (.int d), some (.int i)] [.ref 633] M v M' 0 0 := Ev.back 1 (fun n => rfl) H
    have H : Ev none e 188 39 [some (.ref 633), some (.int k), some (.int c), some (.int d), some (.int i)] [.ref 642] M v M' 0 0 := Ev.back 1 (gs_3 rfl rfl (gf_u hS.1 qa_633 qr_61_12 qu_70 rfl)) H
    have H : Ev none e 188 41 [some (.ref 633), some (.int k), some (.int c), some (.int d), some (.int i)] [.int i, .ref 642] M v M' 0 0 := Ev.back 1 (fun n => rfl) H
    obtain ⟨b2, H⟩ := Ev.ial rfl rfl hS.1 qa_642 qw_70 H
    have H : Ev none e 188 42 [some (.ref 633), some (.int k), some (.int c), some (.int d), some (.int i)] [.int (rI M 642 i)] M v M' 0 0 := H
    obtain ⟨z1, z2⟩ := Ev.retz rfl rfl H
    exact Or.inr (⟨h1, b2, z1, z2⟩)
theorem rfd_0 {e : Nat} {M M' : Mem} {v : Option Value} {tx k : Int32} (hS : SQ M) (H : Ev none e 172 0 [some (.ref 633), some (.int tx), some (.int k), none] [] M v M' 0 0) : Ev none e 172 5 [some (.ref 633), some (.int tx), some (.int k), some (.int (16 * tx))] [] M v M' 0 0 := by
  have H : Ev none e 172 5 [some (.ref 633), some (.int tx), some (.int k), some (.int (16 * tx))] [] M v M' 0 0 := Ev.back 4 (fun n => rfl) H
  have HF := H
  exact HF
theorem rfd_5 {e : Nat} {M M' : Mem} {v : Option Value} {tx k i : Int32} (hS : SQ M) (H : Ev none e 172 5 [some (.ref 633), some (.int tx), some (.int k), some (.int i)] [] M v M' 0 0) : (((16 * tx) + (rI M 639 tx)) ≤ i ∧ (0 ≤ tx.toInt ∧ tx.toInt < 8) ∧ v = some (.int (-1)) ∧ M' = M) ∨ (¬ (((16 * tx) + (rI M 639 tx)) ≤ i) ∧ (rI M 640 i) = k ∧ (0 ≤ tx.toInt ∧ tx.toInt < 8) ∧ (0 ≤ i.toInt ∧ i.toInt < 128) ∧ v = some (.int i) ∧ M' = M) ∨ (¬ (((16 * tx) + (rI M 639 tx)) ≤ i) ∧ ¬ ((rI M 640 i) = k) ∧ (0 ≤ tx.toInt ∧ tx.toInt < 8) ∧ (0 ≤ i.toInt ∧ i.toInt < 128) ∧ Ev none e 172 5 [some (.ref 633), some (.int tx), some (.int k), some (.int (i + 1))] [] M v M' 0 0) := by
  have H : Ev none e 172 11 [some (.ref 633), some (.int tx), some (.int k), some (.int i)] [.ref 633, .int (16 * tx), .int i] M v M' 0 0 := Ev.back 5 (fun n => rfl) H
  have H : Ev none e 172 14 [some (.ref 633), some (.int tx), some (.int k), some (.int i)] [.ref 639, .int (16 * tx), .int i] M v M' 0 0 := Ev.back 1 (gs_3 rfl rfl (gf_u hS.1 qa_633 qr_61_9 qu_67 rfl)) H
  have H : Ev none e 172 15 [some (.ref 633), some (.int tx), some (.int k), some (.int i)] [.int tx, .ref 639, .int (16 * tx), .int i] M v M' 0 0 := Ev.back 1 (fun n => rfl) H
  obtain ⟨b1, H⟩ := Ev.ial rfl rfl hS.1 qa_639 qw_67 H
  have H : Ev none e 172 16 [some (.ref 633), some (.int tx), some (.int k), some (.int i)] [.int (rI M 639 tx), .int (16 * tx), .int i] M v M' 0 0 := H
  have H : Ev none e 172 (if ((16 * tx) + (rI M 639 tx)) ≤ i then 38 else 20) [some (.ref 633), some (.int tx), some (.int k), some (.int i)] [] M v M' 0 0 := Ev.back 2 (fun n => rfl) H
  by_cases h2 : ((16 * tx) + (rI M 639 tx)) ≤ i
  · rw [if_pos h2] at H
    have H : Ev none e 172 39 [some (.ref 633), some (.int tx), some (.int k), some (.int i)] [.int (-1)] M v M' 0 0 := Ev.back 1 (fun n => rfl) H
    obtain ⟨z1, z2⟩ := Ev.retz rfl rfl H
    exact Or.inl ⟨h2, b1, z1, z2⟩
  · rw [if_neg h2] at H
    have H : Ev none e 172 21 [some (.ref 633), some (.int tx), some (.int k), some (.int i)] [.ref 633] M v M' 0 0 := Ev.back 1 (fun n => rfl) H
    have H : Ev none e 172 24 [some (.ref 633), some (.int tx), some (.int k), some (.int i)] [.ref 640] M v M' 0 0 := Ev.back 1 (gs_3 rfl rfl (gf_u hS.1 qa_633 qr_61_10 qu_68 rfl)) H
    have H : Ev none e 172 25 [some (.ref 633), some (.int tx), some (.int k), some (.int i)] [.int i, .ref 640] M v M' 0 0 := Ev.back 1 (fun n => rfl) H
    obtain ⟨b3, H⟩ := Ev.ial rfl rfl hS.1 qa_640 qw_68 H
    have H : Ev none e 172 26 [some (.ref 633), some (.int tx), some (.int k), some (.int i)] [.int (rI M 640 i)] M v M' 0 0 := H
    have H : Ev none e 172 (if (rI M 640 i) = k then 30 else 32) [some (.ref 633), some (.int tx), some (.int k), some (.int i)] [] M v M' 0 0 := Ev.back 2 (fun n => rfl) H
    by_cases h4 : (rI M 640 i) = k
    · rw [if_pos h4] at H
      have H : Ev none e 172 31 [some (.ref 633), some (.int tx), some (.int k), some (.int i)] [.int i] M v M' 0 0 := Ev.back 1 (fun n => rfl) H
      obtain ⟨z1, z2⟩ := Ev.retz rfl rfl H
      exact Or.inr (Or.inl ⟨h2, h4, b1, b3, z1, z2⟩)
    · rw [if_neg h4] at H
      have H : Ev none e 172 5 [some (.ref 633), some (.int tx), some (.int k), some (.int (i + 1))] [] M v M' 0 0 := Ev.back 2 (fun n => rfl) H
      have HF := H
      exact Or.inr (Or.inr (⟨h2, h4, b1, b3, HF⟩))
theorem rme0_0 {e : Nat} {M M' : Mem} {v : Option Value} {c d : Int32} (hS : SQ M) (H : Ev none e 197 0 [some (.ref 633), some (.int c), some (.int d), some (.int 0)] [] M v M' 0 0) : ((G_149 M c) = 0 ∧ v = some (.int 0) ∧ M' = M) ∨ (¬ ((G_149 M c) = 0) ∧ (G_150 M c) = 0 ∧ v = some (.int (((zI M 633 28) - (G_146 M c 3)) / 10)) ∧ M' = M) ∨ (¬ ((G_149 M c) = 0) ∧ ¬ ((G_150 M c) = 0) ∧ v = some (.int 0) ∧ M' = M) := by
  have H : Ev none e 197 42 [some (.ref 633), some (.int c), some (.int d), some (.int 0)] [.int c, .ref 633] M v M' 0 0 := Ev.back 4 (fun n => rfl) H
  obtain ⟨e1, rfl⟩ := Ev.dpos rfl rfl H
  obtain ⟨vK1, MK1, K1, H⟩ := Ev.callb (fun n_ => gs_7 rfl rfl (show gCal (.invokevirtual 356) 11 (.int c :: .ref 633 :: []) M = some (.inr (149, [some (.ref 633), some (.int c)], [])) from by show @cond (Option ((List Value × Mem) ⊕ (Nat × Lo × List Value))) (true && gRecv M (.ref 633) 11 && gRoom [] && true) (some (.inr (149, [some (.ref 633), some (.int c)], []))) none = _; rw [recv_s hS.1 qa_633 qo_61]; rfl)) H
  obtain ⟨pK1, qK1⟩ := g_149 hS K1
  rw [pK1, qK1] at H
  have H : Ev none (e1 + 1) 197 45 [some (.ref 633), some (.int c), some (.int d), some (.int 0)] [.int (G_149 M c)] M v M' 0 0 := H
  have H : Ev none (e1 + 1) 197 (if (G_149 M c) = 0 then 73 else 48) [some (.ref 633), some (.int c), some (.int d), some (.int 0)] [] M v M' 0 0 := Ev.back 1 (fun n => rfl) H
  by_cases h2 : (G_149 M c) = 0
  · rw [if_pos h2] at H
    have H : Ev none (e1 + 1) 197 74 [some (.ref 633), some (.int c), some (.int d), some (.int 0)] [.int 0] M v M' 0 0 := Ev.back 1 (fun n => rfl) H
    obtain ⟨z1, z2⟩ := Ev.retz rfl rfl H
    exact Or.inl ⟨h2, z1, z2⟩
  · rw [if_neg h2] at H
    have H : Ev none (e1 + 1) 197 50 [some (.ref 633), some (.int c), some (.int d), some (.int 0)] [.int c, .ref 633] M v M' 0 0 := Ev.back 2 (fun n => rfl) H
    obtain ⟨vK3, MK3, K3, H⟩ := Ev.callb (fun n_ => gs_7 rfl rfl (show gCal (.invokevirtual 140) 11 (.int c :: .ref 633 :: []) M = some (.inr (150, [some (.ref 633), some (.int c)], [])) from by show @cond (Option ((List Value × Mem) ⊕ (Nat × Lo × List Value))) (true && gRecv M (.ref 633) 11 && gRoom [] && true) (some (.inr (150, [some (.ref 633), some (.int c)], []))) none = _; rw [recv_s hS.1 qa_633 qo_61]; rfl)) H
    obtain ⟨pK3, qK3⟩ := g_150 hS K3
    rw [pK3, qK3] at H
    have H : Ev none (e1 + 1) 197 53 [some (.ref 633), some (.int c), some (.int d), some (.int 0)] [.int (G_150 M c)] M v M' 0 0 := H
    have H : Ev none (e1 + 1) 197 (if (G_150 M c) = 0 then 56 else 73) [some (.ref 633), some (.int c), some (.int d), some (.int 0)] [] M v M' 0 0 := Ev.back 1 (fun n => rfl) H
    by_cases h4 : (G_150 M c) = 0
    · rw [if_pos h4] at H
      have H : Ev none (e1 + 1) 197 57 [some (.ref 633), some (.int c), some (.int d), some (.int 0)] [.ref 633] M v M' 0 0 := Ev.back 1 (fun n => rfl) H
      have H : Ev none (e1 + 1) 197 60 [some (.ref 633), some (.int c), some (.int d), some (.int 0)] [.int (zI M 633 28)] M v M' 0 0 := Ev.back 1 (gs_3 rfl rfl (gf_i hS.1 qa_633 qi_61_28 rfl)) H
      have H : Ev none (e1 + 1) 197 63 [some (.ref 633), some (.int c), some (.int d), some (.int 0)] [.int 3, .int c, .ref 633, .int (zI M 633 28)] M v M' 0 0 := Ev.back 3 (fun n => rfl) H
      obtain ⟨vK5, MK5, K5, H⟩ := Ev.callb (fun n_ => gs_7 rfl rfl (show gCal (.invokevirtual 136) 11 (.int 3 :: .int c :: .ref 633 :: [.int (zI M 633 28)]) M = some (.inr (146, [some (.ref 633), some (.int c), some (.int 3)], [.int (zI M 633 28)])) from by show @cond (Option ((List Value × Mem) ⊕ (Nat × Lo × List Value))) (true && gRecv M (.ref 633) 11 && gRoom [.int (zI M 633 28)] && true) (some (.inr (146, [some (.ref 633), some (.int c), some (.int 3)], [.int (zI M 633 28)]))) none = _; rw [recv_s hS.1 qa_633 qo_61]; rfl)) H
      obtain ⟨pK5, qK5⟩ := g_146 hS K5
      rw [pK5, qK5] at H
      have H : Ev none (e1 + 1) 197 66 [some (.ref 633), some (.int c), some (.int d), some (.int 0)] [.int (G_146 M c 3), .int (zI M 633 28)] M v M' 0 0 := H
      have H : Ev none (e1 + 1) 197 74 [some (.ref 633), some (.int c), some (.int d), some (.int 0)] [.int (((zI M 633 28) - (G_146 M c 3)) / 10)] M v M' 0 0 := Ev.back 4 (fun n => rfl) H
      obtain ⟨z1, z2⟩ := Ev.retz rfl rfl H
      exact Or.inr (Or.inl ⟨h2, h4, z1, z2⟩)
    · rw [if_neg h4] at H
      have H : Ev none (e1 + 1) 197 74 [some (.ref 633), some (.int c), some (.int d), some (.int 0)] [.int 0] M v M' 0 0 := Ev.back 1 (fun n => rfl) H
      obtain ⟨z1, z2⟩ := Ev.retz rfl rfl H
      exact Or.inr (Or.inr (⟨h2, h4, z1, z2⟩))
theorem rme1_0 {e : Nat} {M M' : Mem} {v : Option Value} {c d : Int32} (hS : SQ M) (H : Ev none e 197 0 [some (.ref 633), some (.int c), some (.int d), some (.int 1)] [] M v M' 0 0) : v = some (.int ((G_146 M c 4) / 10)) ∧ M' = M := by
  have H : Ev none e 197 78 [some (.ref 633), some (.int c), some (.int d), some (.int 1)] [.int 4, .int c, .ref 633] M v M' 0 0 := Ev.back 5 (fun n => rfl) H
  obtain ⟨e1, rfl⟩ := Ev.dpos rfl rfl H
  obtain ⟨vK1, MK1, K1, H⟩ := Ev.callb (fun n_ => gs_7 rfl rfl (show gCal (.invokevirtual 136) 11 (.int 4 :: .int c :: .ref 633 :: []) M = some (.inr (146, [some (.ref 633), some (.int c), some (.int 4)], [])) from by show @cond (Option ((List Value × Mem) ⊕ (Nat × Lo × List Value))) (true && gRecv M (.ref 633) 11 && gRoom [] && true) (some (.inr (146, [some (.ref 633), some (.int c), some (.int 4)], []))) none = _; rw [recv_s hS.1 qa_633 qo_61]; rfl)) H
  obtain ⟨pK1, qK1⟩ := g_146 hS K1
  rw [pK1, qK1] at H
  have H : Ev none (e1 + 1) 197 81 [some (.ref 633), some (.int c), some (.int d), some (.int 1)] [.int (G_146 M c 4)] M v M' 0 0 := H
  have H : Ev none (e1 + 1) 197 84 [some (.ref 633), some (.int c), some (.int d), some (.int 1)] [.int ((G_146 M c 4) / 10)] M v M' 0 0 := Ev.back 2 (fun n => rfl) H
  obtain ⟨z1, z2⟩ := Ev.retz rfl rfl H
  exact ⟨z1, z2⟩
theorem rme2_0 {e : Nat} {M M' : Mem} {v : Option Value} {c d : Int32} (hS : SQ M) (H : Ev none e 197 0 [some (.ref 633), some (.int c), some (.int d), some (.int 2)] [] M v M' 0 0) : v = some (.int (G_141 M ((G_146 M c 2) - (G_146 M (zI M 633 34) 2)))) ∧ M' = M := by
  have H : Ev none e 197 88 [some (.ref 633), some (.int c), some (.int d), some (.int 2)] [.int 2, .int c, .ref 633] M v M' 0 0 := Ev.back 5 (fun n => rfl) H
  obtain ⟨e1, rfl⟩ := Ev.dpos rfl rfl H
  obtain ⟨vK1, MK1, K1, H⟩ := Ev.callb (fun n_ => gs_7 rfl rfl (show gCal (.invokevirtual 136) 11 (.int 2 :: .int c :: .ref 633 :: []) M = some (.inr (146, [some (.ref 633), some (.int c), some (.int 2)], [])) from by show @cond (Option ((List Value × Mem) ⊕ (Nat × Lo × List Value))) (true && gRecv M (.ref 633) 11 && gRoom [] && true) (some (.inr (146, [some (.ref 633), some (.int c), some (.int 2)], []))) none = _; rw [recv_s hS.1 qa_633 qo_61]; rfl)) H
  obtain ⟨pK1, qK1⟩ := g_146 hS K1
  rw [pK1, qK1] at H
  have H : Ev none (e1 + 1) 197 91 [some (.ref 633), some (.int c), some (.int d), some (.int 2)] [.int (G_146 M c 2)] M v M' 0 0 := H
  have H : Ev none (e1 + 1) 197 93 [some (.ref 633), some (.int c), some (.int d), some (.int 2)] [.ref 633, .ref 633, .int (G_146 M c 2)] M v M' 0 0 := Ev.back 2 (fun n => rfl) H
  have H : Ev none (e1 + 1) 197 96 [some (.ref 633), some (.int c), some (.int d), some (.int 2)] [.int (zI M 633 34), .ref 633, .int (G_146 M c 2)] M v M' 0 0 := Ev.back 1 (gs_3 rfl rfl (gf_i hS.1 qa_633 qi_61_34 rfl)) H
  have H : Ev none (e1 + 1) 197 97 [some (.ref 633), some (.int c), some (.int d), some (.int 2)] [.int 2, .int (zI M 633 34), .ref 633, .int (G_146 M c 2)] M v M' 0 0 := Ev.back 1 (fun n => rfl) H
  obtain ⟨vK2, MK2, K2, H⟩ := Ev.callb (fun n_ => gs_7 rfl rfl (show gCal (.invokevirtual 136) 11 (.int 2 :: .int (zI M 633 34) :: .ref 633 :: [.int (G_146 M c 2)]) M = some (.inr (146, [some (.ref 633), some (.int (zI M 633 34)), some (.int 2)], [.int (G_146 M c 2)])) from by show @cond (Option ((List Value × Mem) ⊕ (Nat × Lo × List Value))) (true && gRecv M (.ref 633) 11 && gRoom [.int (G_146 M c 2)] && true) (some (.inr (146, [some (.ref 633), some (.int (zI M 633 34)), some (.int 2)], [.int (G_146 M c 2)]))) none = _; rw [recv_s hS.1 qa_633 qo_61]; rfl)) H
  obtain ⟨pK2, qK2⟩ := g_146 hS K2
  rw [pK2, qK2] at H
  have H : Ev none (e1 + 1) 197 100 [some (.ref 633), some (.int c), some (.int d), some (.int 2)] [.int (G_146 M (zI M 633 34) 2), .int (G_146 M c 2)] M v M' 0 0 := H
  have H : Ev none (e1 + 1) 197 101 [some (.ref 633), some (.int c), some (.int d), some (.int 2)] [.int ((G_146 M c 2) - (G_146 M (zI M 633 34) 2))] M v M' 0 0 := Ev.back 1 (fun n => rfl) H
  obtain ⟨vK3, MK3, K3, H⟩ := Ev.callb (fun n => rfl) H
  obtain ⟨pK3, qK3⟩ := g_141 hS K3
  rw [pK3, qK3] at H
  have H : Ev none (e1 + 1) 197 104 [some (.ref 633), some (.int c), some (.int d), some (.int 2)] [.int (G_141 M ((G_146 M c 2) - (G_146 M (zI M 633 34) 2)))] M v M' 0 0 := H
  obtain ⟨z1, z2⟩ := Ev.retz rfl rfl H
  exact ⟨z1, z2⟩
theorem rme3_0 {e : Nat} {M M' : Mem} {v : Option Value} {c d : Int32} (hS : SQ M) (H : Ev none e 197 0 [some (.ref 633), some (.int c), some (.int d), some (.int 3)] [] M v M' 0 0) : ((zI M 633 39) = 0 ∧ (∃ e1 v1 M1, e = e1 + 1 ∧ Ev none e1 198 0 [some (.ref 633), some (.int c), none, none] [] M v1 M1 0 0 ∧ Ev none e 197 121 [some (.ref 633), some (.int c), some (.int d), some (.int 3)] (v1.toList ++ []) M1 v M' 0 0)) ∨ (¬ ((zI M 633 39) = 0) ∧ v = some (.int 0) ∧ M' = M) := by
  have H : Ev none e 197 106 [some (.ref 633), some (.int c), some (.int d), some (.int 3)] [.ref 633] M v M' 0 0 := Ev.back 3 (fun n => rfl) H
  have H : Ev none e 197 109 [some (.ref 633), some (.int c), some (.int d), some (.int 3)] [.int (zI M 633 39)] M v M' 0 0 := Ev.back 1 (gs_3 rfl rfl (gf_i hS.1 qa_633 qi_61_39 rfl)) H
  have H : Ev none e 197 (if (zI M 633 39) = 0 then 116 else 112) [some (.ref 633), some (.int c), some (.int d), some (.int 3)] [] M v M' 0 0 := Ev.back 1 (fun n => rfl) H
  by_cases h1 : (zI M 633 39) = 0
  · rw [if_pos h1] at H
    have H : Ev none e 197 118 [some (.ref 633), some (.int c), some (.int d), some (.int 3)] [.int c, .ref 633] M v M' 0 0 := Ev.back 2 (fun n => rfl) H
    obtain ⟨e1, rfl⟩ := Ev.dpos rfl rfl H
    obtain ⟨vK2, MK2, K2, H⟩ := Ev.callb (fun n_ => gs_7 rfl rfl (show gCal (.invokevirtual 366) 11 (.int c :: .ref 633 :: []) M = some (.inr (198, [some (.ref 633), some (.int c), none, none], [])) from by show @cond (Option ((List Value × Mem) ⊕ (Nat × Lo × List Value))) (true && gRecv M (.ref 633) 11 && gRoom [] && true) (some (.inr (198, [some (.ref 633), some (.int c), none, none], []))) none = _; rw [recv_s hS.1 qa_633 qo_61]; rfl)) H
    have K2 : Ev none e1 198 0 [some (.ref 633), some (.int c), none, none] [] M vK2 MK2 0 0 := K2
    have HF := H
    exact Or.inl ⟨h1, ⟨e1, vK2, MK2, rfl, K2, HF⟩⟩
  · rw [if_neg h1] at H
    have H : Ev none e 197 121 [some (.ref 633), some (.int c), some (.int d), some (.int 3)] [.int 0] M v M' 0 0 := Ev.back 2 (fun n => rfl) H
    obtain ⟨z1, z2⟩ := Ev.retz rfl rfl H
    exact Or.inr (⟨h1, z1, z2⟩)
theorem rme4_0 {e : Nat} {M M' : Mem} {v : Option Value} {c d : Int32} (hS : SQ M) (H : Ev none e 197 0 [some (.ref 633), some (.int c), some (.int d), some (.int 4)] [] M v M' 0 0) : ((zI M 633 37) < 0 ∧ v = some (.int 0) ∧ M' = M) ∨ (¬ ((zI M 633 37) < 0) ∧ (zI M 633 37) = d ∧ v = some (.int 0) ∧ M' = M) ∨ (¬ ((zI M 633 37) < 0) ∧ ¬ ((zI M 633 37) = d) ∧ v = some (.int 1) ∧ M' = M) := by
  have H : Ev none e 197 123 [some (.ref 633), some (.int c), some (.int d), some (.int 4)] [.ref 633] M v M' 0 0 := Ev.back 3 (fun n => rfl) H
  have H : Ev none e 197 126 [some (.ref 633), some (.int c), some (.int d), some (.int 4)] [.int (zI M 633 37)] M v M' 0 0 := Ev.back 1 (gs_3 rfl rfl (gf_i hS.1 qa_633 qi_61_37 rfl)) H
  have H : Ev none e 197 (if (zI M 633 37) < 0 then 141 else 129) [some (.ref 633), some (.int c), some (.int d), some (.int 4)] [] M v M' 0 0 := Ev.back 1 (fun n => rfl) H
  by_cases h1 : (zI M 633 37) < 0
  · rw [if_pos h1] at H
    have H : Ev none e 197 142 [some (.ref 633), some (.int c), some (.int d), some (.int 4)] [.int 0] M v M' 0 0 := Ev.back 1 (fun n => rfl) H
    obtain ⟨z1, z2⟩ := Ev.retz rfl rfl H
    exact Or.inl ⟨h1, z1, z2⟩
  · rw [if_neg h1] at H
    have H : Ev none e 197 130 [some (.ref 633), some (.int c), some (.int d), some (.int 4)] [.ref 633] M v M' 0 0 := Ev.back 1 (fun n => rfl) H
    have H : Ev none e 197 133 [some (.ref 633), some (.int c), some (.int d), some (.int 4)] [.int (zI M 633 37)] M v M' 0 0 := Ev.back 1 (gs_3 rfl rfl (gf_i hS.1 qa_633 qi_61_37 rfl)) H
    have H : Ev none e 197 (if (zI M 633 37) = d then 141 else 137) [some (.ref 633), some (.int c), some (.int d), some (.int 4)] [] M v M' 0 0 := Ev.back 2 (fun n => rfl) H
    by_cases h2 : (zI M 633 37) = d
    · rw [if_pos h2] at H
      have H : Ev none e 197 142 [some (.ref 633), some (.int c), some (.int d), some (.int 4)] [.int 0] M v M' 0 0 := Ev.back 1 (fun n => rfl) H
      obtain ⟨z1, z2⟩ := Ev.retz rfl rfl H
      exact Or.inr (Or.inl ⟨h1, h2, z1, z2⟩)
    · rw [if_neg h2] at H
      have H : Ev none e 197 142 [some (.ref 633), some (.int c), some (.int d), some (.int 4)] [.int 1] M v M' 0 0 := Ev.back 2 (fun n => rfl) H
      obtain ⟨z1, z2⟩ := Ev.retz rfl rfl H
      exact Or.inr (Or.inr (⟨h1, h2, z1, z2⟩))
theorem rme5_0 {e : Nat} {M M' : Mem} {v : Option Value} {c d : Int32} (hS : SQ M) (H : Ev none e 197 0 [some (.ref 633), some (.int c), some (.int d), some (.int 5)] [] M v M' 0 0) : (c = (zI M 633 38) ∧ v = some (.int 1) ∧ M' = M) ∨ (¬ (c = (zI M 633 38)) ∧ v = some (.int 0) ∧ M' = M) := by
  have H : Ev none e 197 145 [some (.ref 633), some (.int c), some (.int d), some (.int 5)] [.ref 633, .int c] M v M' 0 0 := Ev.back 4 (fun n => rfl) H
  have H : Ev none e 197 148 [some (.ref 633), some (.int c), some (.int d), some (.int 5)] [.int (zI M 633 38), .int c] M v M' 0 0 := Ev.back 1 (gs_3 rfl rfl (gf_i hS.1 qa_633 qi_61_38 rfl)) H
  have H : Ev none e 197 (if c = (zI M 633 38) then 151 else 155) [some (.ref 633), some (.int c), some (.int d), some (.int 5)] [] M v M' 0 0 := Ev.back 1 (fun n => rfl) H
  by_cases h1 : c = (zI M 633 38)
  · rw [if_pos h1] at H
    have H : Ev none e 197 156 [some (.ref 633), some (.int c), some (.int d), some (.int 5)] [.int 1] M v M' 0 0 := Ev.back 2 (fun n => rfl) H
    obtain ⟨z1, z2⟩ := Ev.retz rfl rfl H
    exact Or.inl ⟨h1, z1, z2⟩
  · rw [if_neg h1] at H
    have H : Ev none e 197 156 [some (.ref 633), some (.int c), some (.int d), some (.int 5)] [.int 0] M v M' 0 0 := Ev.back 1 (fun n => rfl) H
    obtain ⟨z1, z2⟩ := Ev.retz rfl rfl H
    exact Or.inr (⟨h1, z1, z2⟩)
theorem rme6_0 {e : Nat} {M M' : Mem} {v : Option Value} {c d : Int32} (hS : SQ M) (H : Ev none e 197 0 [some (.ref 633), some (.int c), some (.int d), some (.int 6)] [] M v M' 0 0) : (∃ e1 v1 M1, e = e1 + 1 ∧ Ev none e1 199 0 [some (.ref 633), some (.int c), some (.int d), none, none, none, none] [] M v1 M1 0 0 ∧ Ev none e 197 163 [some (.ref 633), some (.int c), some (.int d), some (.int 6)] (v1.toList ++ []) M1 v M' 0 0) := by
  have H : Ev none e 197 160 [some (.ref 633), some (.int c), some (.int d), some (.int 6)] [.int d, .int c, .ref 633] M v M' 0 0 := Ev.back 5 (fun n => rfl) H
  obtain ⟨e1, rfl⟩ := Ev.dpos rfl rfl H
  obtain ⟨vK1, MK1, K1, H⟩ := Ev.callb (fun n_ => gs_7 rfl rfl (show gCal (.invokevirtual 375) 11 (.int d :: .int c :: .ref 633 :: []) M = some (.inr (199, [some (.ref 633), some (.int c), some (.int d), none, none, none, none], [])) from by show @cond (Option ((List Value × Mem) ⊕ (Nat × Lo × List Value))) (true && gRecv M (.ref 633) 11 && gRoom [] && true) (some (.inr (199, [some (.ref 633), some (.int c), some (.int d), none, none, none, none], []))) none = _; rw [recv_s hS.1 qa_633 qo_61]; rfl)) H
  have K1 : Ev none e1 199 0 [some (.ref 633), some (.int c), some (.int d), none, none, none, none] [] M vK1 MK1 0 0 := K1
  have HF := H
  exact ⟨e1, vK1, MK1, rfl, K1, HF⟩
theorem rme3_121 {e : Nat} {M M' : Mem} {v : Option Value} {c d y : Int32} (hS : SQ M) (H : Ev none e 197 121 [some (.ref 633), some (.int c), some (.int d), some (.int 3)] [.int y] M v M' 0 0) : v = some (.int y) ∧ M' = M := by
  obtain ⟨z1, z2⟩ := Ev.retz rfl rfl H
  exact ⟨z1, z2⟩
theorem rme6_163 {e : Nat} {M M' : Mem} {v : Option Value} {c d y : Int32} (hS : SQ M) (H : Ev none e 197 163 [some (.ref 633), some (.int c), some (.int d), some (.int 6)] [.int y] M v M' 0 0) : v = some (.int y) ∧ M' = M := by
  obtain ⟨z1, z2⟩ := Ev.retz rfl rfl H
  exact ⟨z1, z2⟩
theorem rcr_0 {e : Nat} {M M' : Mem} {v : Option Value} {c : Int32} (hS : SQ M) (H : Ev none e 198 0 [some (.ref 633), some (.int c), none, none] [] M v M' 0 0) : Ev none e 198 4 [some (.ref 633), some (.int c), some (.int 0), some (.int 0)] [] M v M' 0 0 := by
  have H : Ev none e 198 4 [some (.ref 633), some (.int c), some (.int 0), some (.int 0)] [] M v M' 0 0 := Ev.back 4 (fun n => rfl) H
  have HF := H
  exact HF
theorem rcr_4 {e : Nat} {M M' : Mem} {v : Option Value} {c nn k : Int32} (hS : SQ M) (H : Ev none e 198 4 [some (.ref 633), some (.int c), some (.int nn), some (.int k)] [] M v M' 0 0) : ((rI M 635 157) ≤ k ∧ (0 ≤ (157 : Int32).toInt ∧ (157 : Int32).toInt < 2314) ∧ v = some (.int nn) ∧ M' = M) ∨ (¬ ((rI M 635 157) ≤ k) ∧ (rI M 635 (158 + (6 * k))) = c ∧ (0 ≤ (157 : Int32).toInt ∧ (157 : Int32).toInt < 2314) ∧ (0 ≤ (158 + (6 * k)).toInt ∧ (158 + (6 * k)).toInt < 2314) ∧ Ev none e 198 4 [some (.ref 633), some (.int c), some (.int (nn + 1)), some (.int (k + 1))] [] M v M' 0 0) ∨ (¬ ((rI M 635 157) ≤ k) ∧ ¬ ((rI M 635 (158 + (6 * k))) = c) ∧ (0 ≤ (157 : Int32).toInt ∧ (157 : Int32).toInt < 2314) ∧ (0 ≤ (158 + (6 * k)).toInt ∧ (158 + (6 * k)).toInt < 2314) ∧ Ev none e 198 4 [some (.ref 633), some (.int c), some (.int (nn + 0)), some (.int (k + 1))] [] M v M' 0 0) := by
  have H : Ev none e 198 6 [some (.ref 633), some (.int c), some (.int nn), some (.int k)] [.ref 633, .int k] M v M' 0 0 := Ev.back 2 (fun n => rfl) H
  have H : Ev none e 198 9 [some (.ref 633), some (.int c), some (.int nn), some (.int k)] [.ref 635, .int k] M v M' 0 0 := Ev.back 1 (gs_3 rfl rfl (gf_u hS.1 qa_633 qr_61_5 qu_63 rfl)) H
  have H : Ev none e 198 12 [some (.ref 633), some (.int c), some (.int nn), some (.int k)] [.int 157, .ref 635, .int k] M v M' 0 0 := Ev.back 1 (fun n => rfl) H
  obtain ⟨b1, H⟩ := Ev.ial rfl rfl hS.1 qa_635 qw_63 H
  have H : Ev none e 198 13 [some (.ref 633), some (.int c), some (.int nn), some (.int k)] [.int (rI M 635 157), .int k] M v M' 0 0 := H
  have H : Ev none e 198 (if (rI M 635 157) ≤ k then 47 else 16) [some (.ref 633), some (.int c), some (.int nn), some (.int k)] [] M v M' 0 0 := Ev.back 1 (fun n => rfl) H
  by_cases h2 : (rI M 635 157) ≤ k
  · rw [if_pos h2] at H
    have H : Ev none e 198 48 [some (.ref 633), some (.int c), some (.int nn), some (.int k)] [.int nn] M v M' 0 0 := Ev.back 1 (fun n => rfl) H
    obtain ⟨z1, z2⟩ := Ev.retz rfl rfl H
    exact Or.inl ⟨h2, b1, z1, z2⟩
  · rw [if_neg h2] at H
    have H : Ev none e 198 18 [some (.ref 633), some (.int c), some (.int nn), some (.int k)] [.ref 633, .int nn] M v M' 0 0 := Ev.back 2 (fun n => rfl) H
    have H : Ev none e 198 21 [some (.ref 633), some (.int c), some (.int nn), some (.int k)] [.ref 635, .int nn] M v M' 0 0 := Ev.back 1 (gs_3 rfl rfl (gf_u hS.1 qa_633 qr_61_5 qu_63 rfl)) H
    have H : Ev none e 198 29 [some (.ref 633), some (.int c), some (.int nn), some (.int k)] [.int (158 + (6 * k)), .ref 635, .int nn] M v M' 0 0 := Ev.back 5 (fun n => rfl) H
    obtain ⟨b3, H⟩ := Ev.ial rfl rfl hS.1 qa_635 qw_63 H
    have H : Ev none e 198 30 [some (.ref 633), some (.int c), some (.int nn), some (.int k)] [.int (rI M 635 (158 + (6 * k))), .int nn] M v M' 0 0 := H
    have H : Ev none e 198 (if (rI M 635 (158 + (6 * k))) = c then 34 else 38) [some (.ref 633), some (.int c), some (.int nn), some (.int k)] [.int nn] M v M' 0 0 := Ev.back 2 (fun n => rfl) H
    by_cases h4 : (rI M 635 (158 + (6 * k))) = c
    · rw [if_pos h4] at H
      have H : Ev none e 198 4 [some (.ref 633), some (.int c), some (.int (nn + 1)), some (.int (k + 1))] [] M v M' 0 0 := Ev.back 6 (fun n => rfl) H
      have HF := H
      exact Or.inr (Or.inl ⟨h2, h4, b1, b3, HF⟩)
    · rw [if_neg h4] at H
      have H : Ev none e 198 4 [some (.ref 633), some (.int c), some (.int (nn + 0)), some (.int (k + 1))] [] M v M' 0 0 := Ev.back 5 (fun n => rfl) H
      have HF := H
      exact Or.inr (Or.inr (⟨h2, h4, b1, b3, HF⟩))
theorem rse_0 {e : Nat} {M M' : Mem} {v : Option Value} {c d : Int32} (hS : SQ M) (H : Ev none e 199 0 [some (.ref 633), some (.int c), some (.int d), none, none, none, none] [] M v M' 0 0) : (∃ e1 v1 M1, e = e1 + 1 ∧ Ev none e1 172 0 [some (.ref 633), some (.int (zI M 633 36)), some (.int 7), none] [] M v1 M1 0 0 ∧ Ev none e 199 10 [some (.ref 633), some (.int c), some (.int d), none, none, none, none] (v1.toList ++ []) M1 v M' 0 0) := by
  have H : Ev none e 199 2 [some (.ref 633), some (.int c), some (.int d), none, none, none, none] [.ref 633, .ref 633] M v M' 0 0 := Ev.back 2 (fun n => rfl) H
  have H : Ev none e 199 5 [some (.ref 633), some (.int c), some (.int d), none, none, none, none] [.int (zI M 633 36), .ref 633] M v M' 0 0 := Ev.back 1 (gs_3 rfl rfl (gf_i hS.1 qa_633 qi_61_36 rfl)) H
  have H : Ev none e 199 7 [some (.ref 633), some (.int c), some (.int d), none, none, none, none] [.int 7, .int (zI M 633 36), .ref 633] M v M' 0 0 := Ev.back 1 (fun n => rfl) H
  obtain ⟨e1, rfl⟩ := Ev.dpos rfl rfl H
  obtain ⟨vK1, MK1, K1, H⟩ := Ev.callb (fun n_ => gs_7 rfl rfl (show gCal (.invokevirtual 227) 11 (.int 7 :: .int (zI M 633 36) :: .ref 633 :: []) M = some (.inr (172, [some (.ref 633), some (.int (zI M 633 36)), some (.int 7), none], [])) from by show @cond (Option ((List Value × Mem) ⊕ (Nat × Lo × List Value))) (true && gRecv M (.ref 633) 11 && gRoom [] && true) (some (.inr (172, [some (.ref 633), some (.int (zI M 633 36)), some (.int 7), none], []))) none = _; rw [recv_s hS.1 qa_633 qo_61]; rfl)) H
  have K1 : Ev none e1 172 0 [some (.ref 633), some (.int (zI M 633 36)), some (.int 7), none] [] M vK1 MK1 0 0 := K1
  have HF := H
  exact ⟨e1, vK1, MK1, rfl, K1, HF⟩
theorem rse_10 {e : Nat} {M M' : Mem} {v : Option Value} {c d y : Int32} (hS : SQ M) (H : Ev none e 199 10 [some (.ref 633), some (.int c), some (.int d), none, none, none, none] [.int y] M v M' 0 0) : (0 ≤ y ∧ (0 ≤ y.toInt ∧ y.toInt < 128) ∧ Ev none e 199 33 [some (.ref 633), some (.int c), some (.int d), some (.int y), some (.int (rI M 642 y)), some (.int 0), some (.int c)] [] M v M' 0 0) ∨ (¬ (0 ≤ y) ∧ Ev none e 199 33 [some (.ref 633), some (.int c), some (.int d), some (.int y), some (.int 3), some (.int 0), some (.int c)] [] M v M' 0 0) := by
  have H : Ev none e 199 (if 0 ≤ y then 19 else 15) [some (.ref 633), some (.int c), some (.int d), some (.int y), none, none, none] [] M v M' 0 0 := Ev.back 3 (fun n => rfl) H
  by_cases h1 : 0 ≤ y
  · rw [if_pos h1] at H
    have H : Ev none e 199 20 [some (.ref 633), some (.int c), some (.int d), some (.int y), none, none, none] [.ref 633] M v M' 0 0 := Ev.back 1 (fun n => rfl) H
    have H : Ev none e 199 23 [some (.ref 633), some (.int c), some (.int d), some (.int y), none, none, none] [.ref 642] M v M' 0 0 := Ev.back 1 (gs_3 rfl rfl (gf_u hS.1 qa_633 qr_61_12 qu_70 rfl)) H
    have H : Ev none e 199 24 [some (.ref 633), some (.int c), some (.int d), some (.int y), none, none, none] [.int y, .ref 642] M v M' 0 0 := Ev.back 1 (fun n => rfl) H
    obtain ⟨b2, H⟩ := Ev.ial rfl rfl hS.1 qa_642 qw_70 H
    have H : Ev none e 199 25 [some (.ref 633), some (.int c), some (.int d), some (.int y), none, none, none] [.int (rI M 642 y)] M v M' 0 0 := H
    have H : Ev none e 199 33 [some (.ref 633), some (.int c), some (.int d), some (.int y), some (.int (rI M 642 y)), some (.int 0), some (.int c)] [] M v M' 0 0 := Ev.back 5 (fun n => rfl) H
    have HF := H
    exact Or.inl ⟨h1, b2, HF⟩
  · rw [if_neg h1] at H
    have H : Ev none e 199 33 [some (.ref 633), some (.int c), some (.int d), some (.int y), some (.int 3), some (.int 0), some (.int c)] [] M v M' 0 0 := Ev.back 7 (fun n => rfl) H
    have HF := H
    exact Or.inr (⟨h1, HF⟩)
theorem rse_33 {e : Nat} {M M' : Mem} {v : Option Value} {c d fa le nn vv : Int32} (hS : SQ M) (H : Ev none e 199 33 [some (.ref 633), some (.int c), some (.int d), some (.int fa), some (.int le), some (.int nn), some (.int vv)] [] M v M' 0 0) : (le ≤ 0 ∧ v = some (.int nn) ∧ M' = M) ∨ (¬ (le ≤ 0) ∧ vv < 0 ∧ v = some (.int nn) ∧ M' = M) ∨ (¬ (le ≤ 0) ∧ ¬ (vv < 0) ∧ (G_148 M vv) = 0 ∧ v = some (.int nn) ∧ M' = M) ∨ (¬ (le ≤ 0) ∧ ¬ (vv < 0) ∧ ¬ ((G_148 M vv) = 0) ∧ (G_150 M vv) = 0 ∧ Ev none e 199 33 [some (.ref 633), some (.int c), some (.int d), some (.int fa), some (.int (le + Int32.ofInt (-1))), some (.int (nn + 0)), some (.int (G_194 M vv d))] [] M v M' 0 0) ∨ (¬ (le ≤ 0) ∧ ¬ (vv < 0) ∧ ¬ ((G_148 M vv) = 0) ∧ ¬ ((G_150 M vv) = 0) ∧ Ev none e 199 33 [some (.ref 633), some (.int c), some (.int d), some (.int fa), some (.int (le + Int32.ofInt (-1))), some (.int (nn + 1)), some (.int (G_194 M vv d))] [] M v M' 0 0) := by
  have H : Ev none e 199 (if le ≤ 0 then 86 else 38) [some (.ref 633), some (.int c), some (.int d), some (.int fa), some (.int le), some (.int nn), some (.int vv)] [] M v M' 0 0 := Ev.back 2 (fun n => rfl) H
  by_cases h1 : le ≤ 0
  · rw [if_pos h1] at H
    have H : Ev none e 199 88 [some (.ref 633), some (.int c), some (.int d), some (.int fa), some (.int le), some (.int nn), some (.int vv)] [.int nn] M v M' 0 0 := Ev.back 1 (fun n => rfl) H
    obtain ⟨z1, z2⟩ := Ev.retz rfl rfl H
    exact Or.inl ⟨h1, z1, z2⟩
  · rw [if_neg h1] at H
    have H : Ev none e 199 (if vv < 0 then 86 else 43) [some (.ref 633), some (.int c), some (.int d), some (.int fa), some (.int le), some (.int nn), some (.int vv)] [] M v M' 0 0 := Ev.back 2 (fun n => rfl) H
    by_cases h2 : vv < 0
    · rw [if_pos h2] at H
      have H : Ev none e 199 88 [some (.ref 633), some (.int c), some (.int d), some (.int fa), some (.int le), some (.int nn), some (.int vv)] [.int nn] M v M' 0 0 := Ev.back 1 (fun n => rfl) H
      obtain ⟨z1, z2⟩ := Ev.retz rfl rfl H
      exact Or.inr (Or.inl ⟨h1, h2, z1, z2⟩)
    · rw [if_neg h2] at H
      have H : Ev none e 199 46 [some (.ref 633), some (.int c), some (.int d), some (.int fa), some (.int le), some (.int nn), some (.int vv)] [.int vv, .ref 633] M v M' 0 0 := Ev.back 2 (fun n => rfl) H
      obtain ⟨e1, rfl⟩ := Ev.dpos rfl rfl H
      obtain ⟨vK3, MK3, K3, H⟩ := Ev.callb (fun n_ => gs_7 rfl rfl (show gCal (.invokevirtual 158) 11 (.int vv :: .ref 633 :: []) M = some (.inr (148, [some (.ref 633), some (.int vv)], [])) from by show @cond (Option ((List Value × Mem) ⊕ (Nat × Lo × List Value))) (true && gRecv M (.ref 633) 11 && gRoom [] && true) (some (.inr (148, [some (.ref 633), some (.int vv)], []))) none = _; rw [recv_s hS.1 qa_633 qo_61]; rfl)) H
      obtain ⟨pK3, qK3⟩ := g_148 hS K3
      rw [pK3, qK3] at H
      have H : Ev none (e1 + 1) 199 49 [some (.ref 633), some (.int c), some (.int d), some (.int fa), some (.int le), some (.int nn), some (.int vv)] [.int (G_148 M vv)] M v M' 0 0 := H
      have H : Ev none (e1 + 1) 199 (if (G_148 M vv) = 0 then 86 else 52) [some (.ref 633), some (.int c), some (.int d), some (.int fa), some (.int le), some (.int nn), some (.int vv)] [] M v M' 0 0 := Ev.back 1 (fun n => rfl) H
      by_cases h4 : (G_148 M vv) = 0
      · rw [if_pos h4] at H
        have H : Ev none (e1 + 1) 199 88 [some (.ref 633), some (.int c), some (.int d), some (.int fa), some (.int le), some (.int nn), some (.int vv)] [.int nn] M v M' 0 0 := Ev.back 1 (fun n => rfl) H
        obtain ⟨z1, z2⟩ := Ev.retz rfl rfl H
        exact Or.inr (Or.inr (Or.inl ⟨h1, h2, h4, z1, z2⟩))
      · rw [if_neg h4] at H
        have H : Ev none (e1 + 1) 199 57 [some (.ref 633), some (.int c), some (.int d), some (.int fa), some (.int le), some (.int nn), some (.int vv)] [.int vv, .ref 633, .int nn] M v M' 0 0 := Ev.back 3 (fun n => rfl) H
        obtain ⟨vK5, MK5, K5, H⟩ := Ev.callb (fun n_ => gs_7 rfl rfl (show gCal (.invokevirtual 140) 11 (.int vv :: .ref 633 :: [.int nn]) M = some (.inr (150, [some (.ref 633), some (.int vv)], [.int nn])) from by show @cond (Option ((List Value × Mem) ⊕ (Nat × Lo × List Value))) (true && gRecv M (.ref 633) 11 && gRoom [.int nn] && true) (some (.inr (150, [some (.ref 633), some (.int vv)], [.int nn]))) none = _; rw [recv_s hS.1 qa_633 qo_61]; rfl)) H
        obtain ⟨pK5, qK5⟩ := g_150 hS K5
        rw [pK5, qK5] at H
        have H : Ev none (e1 + 1) 199 60 [some (.ref 633), some (.int c), some (.int d), some (.int fa), some (.int le), some (.int nn), some (.int vv)] [.int (G_150 M vv), .int nn] M v M' 0 0 := H
        have H : Ev none (e1 + 1) 199 (if (G_150 M vv) = 0 then 67 else 63) [some (.ref 633), some (.int c), some (.int d), some (.int fa), some (.int le), some (.int nn), some (.int vv)] [.int nn] M v M' 0 0 := Ev.back 1 (fun n => rfl) H
        by_cases h6 : (G_150 M vv) = 0
        · rw [if_pos h6] at H
          have H : Ev none (e1 + 1) 199 75 [some (.ref 633), some (.int c), some (.int d), some (.int fa), some (.int le), some (.int (nn + 0)), some (.int vv)] [.int d, .int vv, .ref 633] M v M' 0 0 := Ev.back 6 (fun n => rfl) H
          obtain ⟨vK7, MK7, K7, H⟩ := Ev.callb (fun n_ => gs_7 rfl rfl (show gCal (.invokevirtual 380) 11 (.int d :: .int vv :: .ref 633 :: []) M = some (.inr (194, [some (.ref 633), some (.int vv), some (.int d), none, none], [])) from by show @cond (Option ((List Value × Mem) ⊕ (Nat × Lo × List Value))) (true && gRecv M (.ref 633) 11 && gRoom [] && true) (some (.inr (194, [some (.ref 633), some (.int vv), some (.int d), none, none], []))) none = _; rw [recv_s hS.1 qa_633 qo_61]; rfl)) H
          obtain ⟨pK7, qK7⟩ := g_194 hS K7
          rw [pK7, qK7] at H
          have H : Ev none (e1 + 1) 199 78 [some (.ref 633), some (.int c), some (.int d), some (.int fa), some (.int le), some (.int (nn + 0)), some (.int vv)] [.int (G_194 M vv d)] M v M' 0 0 := H
          have H : Ev none (e1 + 1) 199 80 [some (.ref 633), some (.int c), some (.int d), some (.int fa), some (.int le), some (.int (nn + 0)), some (.int (G_194 M vv d))] [] M v M' 0 0 := Ev.back 1 (fun n => rfl) H
          have H : Ev none (e1 + 1) 199 83 [some (.ref 633), some (.int c), some (.int d), some (.int fa), some (.int (le + Int32.ofInt (-1))), some (.int (nn + 0)), some (.int (G_194 M vv d))] [] M v M' 0 0 := Ev.back 1 (gs_1 (i := .iinc 4 (-1)) rfl rfl rfl) H
          have H : Ev none (e1 + 1) 199 33 [some (.ref 633), some (.int c), some (.int d), some (.int fa), some (.int (le + Int32.ofInt (-1))), some (.int (nn + 0)), some (.int (G_194 M vv d))] [] M v M' 0 0 := Ev.back 1 (fun n => rfl) H
          have HF := H
          exact Or.inr (Or.inr (Or.inr (Or.inl ⟨h1, h2, h4, h6, HF⟩)))
        · rw [if_neg h6] at H
          have H : Ev none (e1 + 1) 199 75 [some (.ref 633), some (.int c), some (.int d), some (.int fa), some (.int le), some (.int (nn + 1)), some (.int vv)] [.int d, .int vv, .ref 633] M v M' 0 0 := Ev.back 7 (fun n => rfl) H
          obtain ⟨vK8, MK8, K8, H⟩ := Ev.callb (fun n_ => gs_7 rfl rfl (show gCal (.invokevirtual 380) 11 (.int d :: .int vv :: .ref 633 :: []) M = some (.inr (194, [some (.ref 633), some (.int vv), some (.int d), none, none], [])) from by show @cond (Option ((List Value × Mem) ⊕ (Nat × Lo × List Value))) (true && gRecv M (.ref 633) 11 && gRoom [] && true) (some (.inr (194, [some (.ref 633), some (.int vv), some (.int d), none, none], []))) none = _; rw [recv_s hS.1 qa_633 qo_61]; rfl)) H
          obtain ⟨pK8, qK8⟩ := g_194 hS K8
          rw [pK8, qK8] at H
          have H : Ev none (e1 + 1) 199 78 [some (.ref 633), some (.int c), some (.int d), some (.int fa), some (.int le), some (.int (nn + 1)), some (.int vv)] [.int (G_194 M vv d)] M v M' 0 0 := H
          have H : Ev none (e1 + 1) 199 80 [some (.ref 633), some (.int c), some (.int d), some (.int fa), some (.int le), some (.int (nn + 1)), some (.int (G_194 M vv d))] [] M v M' 0 0 := Ev.back 1 (fun n => rfl) H
          have H : Ev none (e1 + 1) 199 83 [some (.ref 633), some (.int c), some (.int d), some (.int fa), some (.int (le + Int32.ofInt (-1))), some (.int (nn + 1)), some (.int (G_194 M vv d))] [] M v M' 0 0 := Ev.back 1 (gs_1 (i := .iinc 4 (-1)) rfl rfl rfl) H
          have H : Ev none (e1 + 1) 199 33 [some (.ref 633), some (.int c), some (.int d), some (.int fa), some (.int (le + Int32.ofInt (-1))), some (.int (nn + 1)), some (.int (G_194 M vv d))] [] M v M' 0 0 := Ev.back 1 (fun n => rfl) H
          have HF := H
          exact Or.inr (Or.inr (Or.inr (Or.inr (⟨h1, h2, h4, h6, HF⟩))))
theorem rwe_0 {e : Nat} {M M' : Mem} {v : Option Value} {c d : Int32} (hS : SQ M) (H : Ev none e 200 0 [some (.ref 633), some (.int c), some (.int d), none, none, none, none, none] [] M v M' 0 0) : ((G_195 M c (zI M 633 35)) ≤ (G_196 M c (zI M 633 35)) ∧ Ev none e 200 59 [some (.ref 633), some (.int c), some (.int d), some (.int (G_195 M c (zI M 633 35))), some (.int (G_196 M c (zI M 633 35))), some (.int ((10 * (G_196 M c (zI M 633 35))) + (4 * (G_195 M c (zI M 633 35))))), some (.int (16 * (zI M 633 36))), none] [] M v M' 0 0) ∨ (¬ ((G_195 M c (zI M 633 35)) ≤ (G_196 M c (zI M 633 35))) ∧ Ev none e 200 59 [some (.ref 633), some (.int c), some (.int d), some (.int (G_195 M c (zI M 633 35))), some (.int (G_196 M c (zI M 633 35))), some (.int ((10 * (G_195 M c (zI M 633 35))) + (4 * (G_196 M c (zI M 633 35))))), some (.int (16 * (zI M 633 36))), none] [] M v M' 0 0) := by
  have H : Ev none e 200 3 [some (.ref 633), some (.int c), some (.int d), none, none, none, none, none] [.ref 633, .int c, .ref 633] M v M' 0 0 := Ev.back 3 (fun n => rfl) H
  have H : Ev none e 200 6 [some (.ref 633), some (.int c), some (.int d), none, none, none, none, none] [.int (zI M 633 35), .int c, .ref 633] M v M' 0 0 := Ev.back 1 (gs_3 rfl rfl (gf_i hS.1 qa_633 qi_61_35 rfl)) H
  obtain ⟨e1, rfl⟩ := Ev.dpos rfl rfl H
  obtain ⟨vK1, MK1, K1, H⟩ := Ev.callb (fun n_ => gs_7 rfl rfl (show gCal (.invokevirtual 386) 11 (.int (zI M 633 35) :: .int c :: .ref 633 :: []) M = some (.inr (195, [some (.ref 633), some (.int c), some (.int (zI M 633 35))], [])) from by show @cond (Option ((List Value × Mem) ⊕ (Nat × Lo × List Value))) (true && gRecv M (.ref 633) 11 && gRoom [] && true) (some (.inr (195, [some (.ref 633), some (.int c), some (.int (zI M 633 35))], []))) none = _; rw [recv_s hS.1 qa_633 qo_61]; rfl)) H
  obtain ⟨pK1, qK1⟩ := g_195 hS K1
  rw [pK1, qK1] at H
  have H : Ev none (e1 + 1) 200 9 [some (.ref 633), some (.int c), some (.int d), none, none, none, none, none] [.int (G_195 M c (zI M 633 35))] M v M' 0 0 := H
  have H : Ev none (e1 + 1) 200 13 [some (.ref 633), some (.int c), some (.int d), some (.int (G_195 M c (zI M 633 35))), none, none, none, none] [.ref 633, .int c, .ref 633] M v M' 0 0 := Ev.back 4 (fun n => rfl) H
  have H : Ev none (e1 + 1) 200 16 [some (.ref 633), some (.int c), some (.int d), some (.int (G_195 M c (zI M 633 35))), none, none, none, none] [.int (zI M 633 35), .int c, .ref 633] M v M' 0 0 := Ev.back 1 (gs_3 rfl rfl (gf_i hS.1 qa_633 qi_61_35 rfl)) H
  obtain ⟨vK2, MK2, K2, H⟩ := Ev.callb (fun n_ => gs_7 rfl rfl (show gCal (.invokevirtual 389) 11 (.int (zI M 633 35) :: .int c :: .ref 633 :: []) M = some (.inr (196, [some (.ref 633), some (.int c), some (.int (zI M 633 35))], [])) from by show @cond (Option ((List Value × Mem) ⊕ (Nat × Lo × List Value))) (true && gRecv M (.ref 633) 11 && gRoom [] && true) (some (.inr (196, [some (.ref 633), some (.int c), some (.int (zI M 633 35))], []))) none = _; rw [recv_s hS.1 qa_633 qo_61]; rfl)) H
  obtain ⟨pK2, qK2⟩ := g_196 hS K2
  rw [pK2, qK2] at H
  have H : Ev none (e1 + 1) 200 19 [some (.ref 633), some (.int c), some (.int d), some (.int (G_195 M c (zI M 633 35))), none, none, none, none] [.int (G_196 M c (zI M 633 35))] M v M' 0 0 := H
  have H : Ev none (e1 + 1) 200 (if (G_195 M c (zI M 633 35)) ≤ (G_196 M c (zI M 633 35)) then 39 else 27) [some (.ref 633), some (.int c), some (.int d), some (.int (G_195 M c (zI M 633 35))), some (.int (G_196 M c (zI M 633 35))), none, none, none] [] M v M' 0 0 := Ev.back 4 (fun n => rfl) H
  by_cases h3 : (G_195 M c (zI M 633 35)) ≤ (G_196 M c (zI M 633 35))
  · rw [if_pos h3] at H
    have H : Ev none (e1 + 1) 200 53 [some (.ref 633), some (.int c), some (.int d), some (.int (G_195 M c (zI M 633 35))), some (.int (G_196 M c (zI M 633 35))), some (.int ((10 * (G_196 M c (zI M 633 35))) + (4 * (G_195 M c (zI M 633 35))))), none, none] [.ref 633, .int 16] M v M' 0 0 := Ev.back 10 (fun n => rfl) H
    have H : Ev none (e1 + 1) 200 56 [some (.ref 633), some (.int c), some (.int d), some (.int (G_195 M c (zI M 633 35))), some (.int (G_196 M c (zI M 633 35))), some (.int ((10 * (G_196 M c (zI M 633 35))) + (4 * (G_195 M c (zI M 633 35))))), none, none] [.int (zI M 633 36), .int 16] M v M' 0 0 := Ev.back 1 (gs_3 rfl rfl (gf_i hS.1 qa_633 qi_61_36 rfl)) H
    have H : Ev none (e1 + 1) 200 59 [some (.ref 633), some (.int c), some (.int d), some (.int (G_195 M c (zI M 633 35))), some (.int (G_196 M c (zI M 633 35))), some (.int ((10 * (G_196 M c (zI M 633 35))) + (4 * (G_195 M c (zI M 633 35))))), some (.int (16 * (zI M 633 36))), none] [] M v M' 0 0 := Ev.back 2 (fun n => rfl) H
    have HF := H
    exact Or.inl ⟨h3, HF⟩
  · rw [if_neg h3] at H
    have H : Ev none (e1 + 1) 200 53 [some (.ref 633), some (.int c), some (.int d), some (.int (G_195 M c (zI M 633 35))), some (.int (G_196 M c (zI M 633 35))), some (.int ((10 * (G_195 M c (zI M 633 35))) + (4 * (G_196 M c (zI M 633 35))))), none, none] [.ref 633, .int 16] M v M' 0 0 := Ev.back 11 (fun n => rfl) H
    have H : Ev none (e1 + 1) 200 56 [some (.ref 633), some (.int c), some (.int d), some (.int (G_195 M c (zI M 633 35))), some (.int (G_196 M c (zI M 633 35))), some (.int ((10 * (G_195 M c (zI M 633 35))) + (4 * (G_196 M c (zI M 633 35))))), none, none] [.int (zI M 633 36), .int 16] M v M' 0 0 := Ev.back 1 (gs_3 rfl rfl (gf_i hS.1 qa_633 qi_61_36 rfl)) H
    have H : Ev none (e1 + 1) 200 59 [some (.ref 633), some (.int c), some (.int d), some (.int (G_195 M c (zI M 633 35))), some (.int (G_196 M c (zI M 633 35))), some (.int ((10 * (G_195 M c (zI M 633 35))) + (4 * (G_196 M c (zI M 633 35))))), some (.int (16 * (zI M 633 36))), none] [] M v M' 0 0 := Ev.back 2 (fun n => rfl) H
    have HF := H
    exact Or.inr (⟨h3, HF⟩)
theorem rwe_59 {e : Nat} {M M' : Mem} {v : Option Value} {c d x y vv k : Int32} {c7 : Option Value} (hS : SQ M) (H : Ev none e 200 59 [some (.ref 633), some (.int c), some (.int d), some (.int x), some (.int y), some (.int vv), some (.int k), c7] [] M v M' 0 0) : (((16 * (zI M 633 36)) + (rI M 639 (zI M 633 36))) ≤ k ∧ (0 ≤ (zI M 633 36).toInt ∧ (zI M 633 36).toInt < 8) ∧ v = some (.int vv) ∧ M' = M) ∨ (¬ (((16 * (zI M 633 36)) + (rI M 639 (zI M 633 36))) ≤ k) ∧ (rI M 640 k) = 5 ∧ (0 ≤ (zI M 633 36).toInt ∧ (zI M 633 36).toInt < 8) ∧ (0 ≤ k.toInt ∧ k.toInt < 128) ∧ (∃ e1 v1 M1, e = e1 + 1 ∧ Ev none e1 187 0 [some (.ref 633), some (.int k), some (.int c), none, none, none, none, none] [] M v1 M1 0 0 ∧ Ev none e 200 99 [some (.ref 633), some (.int c), some (.int d), some (.int x), some (.int y), some (.int vv), some (.int k), c7] (v1.toList ++ []) M1 v M' 0 0)) ∨ (¬ (((16 * (zI M 633 36)) + (rI M 639 (zI M 633 36))) ≤ k) ∧ ¬ ((rI M 640 k) = 5) ∧ (0 ≤ (zI M 633 36).toInt ∧ (zI M 633 36).toInt < 8) ∧ (0 ≤ k.toInt ∧ k.toInt < 128) ∧ Ev none e 200 59 [some (.ref 633), some (.int c), some (.int d), some (.int x), some (.int y), some (.int vv), some (.int (k + 1)), c7] [] M v M' 0 0) := by
  have H : Ev none e 200 64 [some (.ref 633), some (.int c), some (.int d), some (.int x), some (.int y), some (.int vv), some (.int k), c7] [.ref 633, .int 16, .int k] M v M' 0 0 := Ev.back 3 (fun n => rfl) H
  have H : Ev none e 200 67 [some (.ref 633), some (.int c), some (.int d), some (.int x), some (.int y), some (.int vv), some (.int k), c7] [.int (zI M 633 36), .int 16, .int k] M v M' 0 0 := Ev.back 1 (gs_3 rfl rfl (gf_i hS.1 qa_633 qi_61_36 rfl)) H
  have H : Ev none e 200 69 [some (.ref 633), some (.int c), some (.int d), some (.int x), some (.int y), some (.int vv), some (.int k), c7] [.ref 633, .int (16 * (zI M 633 36)), .int k] M v M' 0 0 := Ev.back 2 (fun n => rfl) H
  have H : Ev none e 200 72 [some (.ref 633), some (.int c), some (.int d), some (.int x), some (.int y), some (.int vv), some (.int k), c7] [.ref 639, .int (16 * (zI M 633 36)), .int k] M v M' 0 0 := Ev.back 1 (gs_3 rfl rfl (gf_u hS.1 qa_633 qr_61_9 qu_67 rfl)) H
  have H : Ev none e 200 73 [some (.ref 633), some (.int c), some (.int d), some (.int x), some (.int y), some (.int vv), some (.int k), c7] [.ref 633, .ref 639, .int (16 * (zI M 633 36)), .int k] M v M' 0 0 := Ev.back 1 (fun n => rfl) H
  have H : Ev none e 200 76 [some (.ref 633), some (.int c), some (.int d), some (.int x), some (.int y), some (.int vv), some (.int k), c7] [.int (zI M 633 36), .ref 639, .int (16 * (zI M 633 36)), .int k] M v M' 0 0 := Ev.back 1 (gs_3 rfl rfl (gf_i hS.1 qa_633 qi_61_36 rfl)) H
  obtain ⟨b1, H⟩ := Ev.ial rfl rfl hS.1 qa_639 qw_67 H
  have H : Ev none e 200 77 [some (.ref 633), some (.int c), some (.int d), some (.int x), some (.int y), some (.int vv), some (.int k), c7] [.int (rI M 639 (zI M 633 36)), .int (16 * (zI M 633 36)), .int k] M v M' 0 0 := H
  have H : Ev none e 200 (if ((16 * (zI M 633 36)) + (rI M 639 (zI M 633 36))) ≤ k then 159 else 81) [some (.ref 633), some (.int c), some (.int d), some (.int x), some (.int y), some (.int vv), some (.int k), c7] [] M v M' 0 0 := Ev.back 2 (fun n => rfl) H
  by_cases h2 : ((16 * (zI M 633 36)) + (rI M 639 (zI M 633 36))) ≤ k
  · rw [if_pos h2] at H
    have H : Ev none e 200 161 [some (.ref 633), some (.int c), some (.int d), some (.int x), some (.int y), some (.int vv), some (.int k), c7] [.int vv] M v M' 0 0 := Ev.back 1 (fun n => rfl) H
    obtain ⟨z1, z2⟩ := Ev.retz rfl rfl H
    exact Or.inl ⟨h2, b1, z1, z2⟩
  · rw [if_neg h2] at H
    have H : Ev none e 200 82 [some (.ref 633), some (.int c), some (.int d), some (.int x), some (.int y), some (.int vv), some (.int k), c7] [.ref 633] M v M' 0 0 := Ev.back 1 (fun n => rfl) H
    have H : Ev none e 200 85 [some (.ref 633), some (.int c), some (.int d), some (.int x), some (.int y), some (.int vv), some (.int k), c7] [.ref 640] M v M' 0 0 := Ev.back 1 (gs_3 rfl rfl (gf_u hS.1 qa_633 qr_61_10 qu_68 rfl)) H
    have H : Ev none e 200 87 [some (.ref 633), some (.int c), some (.int d), some (.int x), some (.int y), some (.int vv), some (.int k), c7] [.int k, .ref 640] M v M' 0 0 := Ev.back 1 (fun n => rfl) H
    obtain ⟨b3, H⟩ := Ev.ial rfl rfl hS.1 qa_640 qw_68 H
    have H : Ev none e 200 88 [some (.ref 633), some (.int c), some (.int d), some (.int x), some (.int y), some (.int vv), some (.int k), c7] [.int (rI M 640 k)] M v M' 0 0 := H
    have H : Ev none e 200 (if (rI M 640 k) = 5 then 92 else 153) [some (.ref 633), some (.int c), some (.int d), some (.int x), some (.int y), some (.int vv), some (.int k), c7] [] M v M' 0 0 := Ev.back 2 (fun n => rfl) H
    by_cases h4 : (rI M 640 k) = 5
    · rw [if_pos h4] at H
      have H : Ev none e 200 96 [some (.ref 633), some (.int c), some (.int d), some (.int x), some (.int y), some (.int vv), some (.int k), c7] [.int c, .int k, .ref 633] M v M' 0 0 := Ev.back 3 (fun n => rfl) H
      obtain ⟨e1, rfl⟩ := Ev.dpos rfl rfl H
      obtain ⟨vK5, MK5, K5, H⟩ := Ev.callb (fun n_ => gs_7 rfl rfl (show gCal (.invokevirtual 337) 11 (.int c :: .int k :: .ref 633 :: []) M = some (.inr (187, [some (.ref 633), some (.int k), some (.int c), none, none, none, none, none], [])) from by show @cond (Option ((List Value × Mem) ⊕ (Nat × Lo × List Value))) (true && gRecv M (.ref 633) 11 && gRoom [] && true) (some (.inr (187, [some (.ref 633), some (.int k), some (.int c), none, none, none, none, none], []))) none = _; rw [recv_s hS.1 qa_633 qo_61]; rfl)) H
      have K5 : Ev none e1 187 0 [some (.ref 633), some (.int k), some (.int c), none, none, none, none, none] [] M vK5 MK5 0 0 := K5
      have HF := H
      exact Or.inr (Or.inl ⟨h2, h4, b1, b3, ⟨e1, vK5, MK5, rfl, K5, HF⟩⟩)
    · rw [if_neg h4] at H
      have H : Ev none e 200 59 [some (.ref 633), some (.int c), some (.int d), some (.int x), some (.int y), some (.int vv), some (.int (k + 1)), c7] [] M v M' 0 0 := Ev.back 2 (fun n => rfl) H
      have HF := H
      exact Or.inr (Or.inr (⟨h2, h4, b1, b3, HF⟩))
theorem rwe_99 {e : Nat} {M M' : Mem} {v : Option Value} {c d x y vv k z : Int32} {c7 : Option Value} (hS : SQ M) (H : Ev none e 200 99 [some (.ref 633), some (.int c), some (.int d), some (.int x), some (.int y), some (.int vv), some (.int k), c7] [.int z] M v M' 0 0) : (z = 0 ∧ Ev none e 200 59 [some (.ref 633), some (.int c), some (.int d), some (.int x), some (.int y), some (.int vv), some (.int (k + 1)), c7] [] M v M' 0 0) ∨ (¬ (z = 0) ∧ (0 ≤ k.toInt ∧ k.toInt < 128) ∧ (0 ≤ k.toInt ∧ k.toInt < 128) ∧ (∃ e1 v1 M1, e = e1 + 1 ∧ Ev none e1 197 0 [some (.ref 633), some (.int c), some (.int d), some (.int (rI M 641 k))] [] M v1 M1 0 0 ∧ Ev none e 200 125 [some (.ref 633), some (.int c), some (.int d), some (.int x), some (.int y), some (.int vv), some (.int k), c7] (v1.toList ++ [.int (rI M 642 k)]) M1 v M' 0 0)) := by
  have H : Ev none e 200 (if z = 0 then 102 else 105) [some (.ref 633), some (.int c), some (.int d), some (.int x), some (.int y), some (.int vv), some (.int k), c7] [] M v M' 0 0 := Ev.back 1 (fun n => rfl) H
  by_cases h1 : z = 0
  · rw [if_pos h1] at H
    have H : Ev none e 200 59 [some (.ref 633), some (.int c), some (.int d), some (.int x), some (.int y), some (.int vv), some (.int (k + 1)), c7] [] M v M' 0 0 := Ev.back 3 (fun n => rfl) H
    have HF := H
    exact Or.inl ⟨h1, HF⟩
  · rw [if_neg h1] at H
    have H : Ev none e 200 106 [some (.ref 633), some (.int c), some (.int d), some (.int x), some (.int y), some (.int vv), some (.int k), c7] [.ref 633] M v M' 0 0 := Ev.back 1 (fun n => rfl) H
    have H : Ev none e 200 109 [some (.ref 633), some (.int c), some (.int d), some (.int x), some (.int y), some (.int vv), some (.int k), c7] [.ref 642] M v M' 0 0 := Ev.back 1 (gs_3 rfl rfl (gf_u hS.1 qa_633 qr_61_12 qu_70 rfl)) H
    have H : Ev none e 200 111 [some (.ref 633), some (.int c), some (.int d), some (.int x), some (.int y), some (.int vv), some (.int k), c7] [.int k, .ref 642] M v M' 0 0 := Ev.back 1 (fun n => rfl) H
    obtain ⟨b2, H⟩ := Ev.ial rfl rfl hS.1 qa_642 qw_70 H
    have H : Ev none e 200 112 [some (.ref 633), some (.int c), some (.int d), some (.int x), some (.int y), some (.int vv), some (.int k), c7] [.int (rI M 642 k)] M v M' 0 0 := H
    have H : Ev none e 200 116 [some (.ref 633), some (.int c), some (.int d), some (.int x), some (.int y), some (.int vv), some (.int k), c7] [.ref 633, .int d, .int c, .ref 633, .int (rI M 642 k)] M v M' 0 0 := Ev.back 4 (fun n => rfl) H
    have H : Ev none e 200 119 [some (.ref 633), some (.int c), some (.int d), some (.int x), some (.int y), some (.int vv), some (.int k), c7] [.ref 641, .int d, .int c, .ref 633, .int (rI M 642 k)] M v M' 0 0 := Ev.back 1 (gs_3 rfl rfl (gf_u hS.1 qa_633 qr_61_11 qu_69 rfl)) H
    have H : Ev none e 200 121 [some (.ref 633), some (.int c), some (.int d), some (.int x), some (.int y), some (.int vv), some (.int k), c7] [.int k, .ref 641, .int d, .int c, .ref 633, .int (rI M 642 k)] M v M' 0 0 := Ev.back 1 (fun n => rfl) H
    obtain ⟨b3, H⟩ := Ev.ial rfl rfl hS.1 qa_641 qw_69 H
    have H : Ev none e 200 122 [some (.ref 633), some (.int c), some (.int d), some (.int x), some (.int y), some (.int vv), some (.int k), c7] [.int (rI M 641 k), .int d, .int c, .ref 633, .int (rI M 642 k)] M v M' 0 0 := H
    obtain ⟨e1, rfl⟩ := Ev.dpos rfl rfl H
    obtain ⟨vK4, MK4, K4, H⟩ := Ev.callb (fun n_ => gs_7 rfl rfl (show gCal (.invokevirtual 392) 11 (.int (rI M 641 k) :: .int d :: .int c :: .ref 633 :: [.int (rI M 642 k)]) M = some (.inr (197, [some (.ref 633), some (.int c), some (.int d), some (.int (rI M 641 k))], [.int (rI M 642 k)])) from by show @cond (Option ((List Value × Mem) ⊕ (Nat × Lo × List Value))) (true && gRecv M (.ref 633) 11 && gRoom [.int (rI M 642 k)] && true) (some (.inr (197, [some (.ref 633), some (.int c), some (.int d), some (.int (rI M 641 k))], [.int (rI M 642 k)]))) none = _; rw [recv_s hS.1 qa_633 qo_61]; rfl)) H
    have K4 : Ev none e1 197 0 [some (.ref 633), some (.int c), some (.int d), some (.int (rI M 641 k))] [] M vK4 MK4 0 0 := K4
    have HF := H
    exact Or.inr (⟨h1, b2, b3, ⟨e1, vK4, MK4, rfl, K4, HF⟩⟩)
theorem rwe_125 {e : Nat} {M M' : Mem} {v : Option Value} {c d x y vv k z nu : Int32} {c7 : Option Value} (hS : SQ M) (H : Ev none e 200 125 [some (.ref 633), some (.int c), some (.int d), some (.int x), some (.int y), some (.int vv), some (.int k), c7] [.int z, .int nu] M v M' 0 0) : ((rI M 641 k) = 6 ∧ (0 ≤ k.toInt ∧ k.toInt < 128) ∧ Ev none e 200 59 [some (.ref 633), some (.int c), some (.int d), some (.int x), some (.int y), some (.int (vv + (-(nu * z)))), some (.int (k + 1)), some (.int (nu * z))] [] M v M' 0 0) ∨ (¬ ((rI M 641 k) = 6) ∧ (0 ≤ k.toInt ∧ k.toInt < 128) ∧ Ev none e 200 59 [some (.ref 633), some (.int c), some (.int d), some (.int x), some (.int y), some (.int (vv + (nu * z))), some (.int (k + 1)), some (.int (nu * z))] [] M v M' 0 0) := by
  have H : Ev none e 200 131 [some (.ref 633), some (.int c), some (.int d), some (.int x), some (.int y), some (.int vv), some (.int k), some (.int (nu * z))] [.ref 633, .int vv] M v M' 0 0 := Ev.back 4 (fun n => rfl) H
  have H : Ev none e 200 134 [some (.ref 633), some (.int c), some (.int d), some (.int x), some (.int y), some (.int vv), some (.int k), some (.int (nu * z))] [.ref 641, .int vv] M v M' 0 0 := Ev.back 1 (gs_3 rfl rfl (gf_u hS.1 qa_633 qr_61_11 qu_69 rfl)) H
  have H : Ev none e 200 136 [some (.ref 633), some (.int c), some (.int d), some (.int x), some (.int y), some (.int vv), some (.int k), some (.int (nu * z))] [.int k, .ref 641, .int vv] M v M' 0 0 := Ev.back 1 (fun n => rfl) H
  obtain ⟨b1, H⟩ := Ev.ial rfl rfl hS.1 qa_641 qw_69 H
  have H : Ev none e 200 137 [some (.ref 633), some (.int c), some (.int d), some (.int x), some (.int y), some (.int vv), some (.int k), some (.int (nu * z))] [.int (rI M 641 k), .int vv] M v M' 0 0 := H
  have H : Ev none e 200 (if (rI M 641 k) = 6 then 142 else 148) [some (.ref 633), some (.int c), some (.int d), some (.int x), some (.int y), some (.int vv), some (.int k), some (.int (nu * z))] [.int vv] M v M' 0 0 := Ev.back 2 (fun n => rfl) H
  by_cases h2 : (rI M 641 k) = 6
  · rw [if_pos h2] at H
    have H : Ev none e 200 59 [some (.ref 633), some (.int c), some (.int d), some (.int x), some (.int y), some (.int (vv + (-(nu * z)))), some (.int (k + 1)), some (.int (nu * z))] [] M v M' 0 0 := Ev.back 7 (fun n => rfl) H
    have HF := H
    exact Or.inl ⟨h2, b1, HF⟩
  · rw [if_neg h2] at H
    have H : Ev none e 200 59 [some (.ref 633), some (.int c), some (.int d), some (.int x), some (.int y), some (.int (vv + (nu * z))), some (.int (k + 1)), some (.int (nu * z))] [] M v M' 0 0 := Ev.back 5 (fun n => rfl) H
    have HF := H
    exact Or.inr (⟨h2, b1, HF⟩)
theorem rma_0 {e : Nat} {M M' : Mem} {v : Option Value} {c : Int32} (hS : SQ M) (H : Ev none e 201 0 [some (.ref 633), some (.int c), none] [] M v M' 0 0) : Ev none e 201 8 [some (.ref 633), some (.int c), some (.int (16 * (zI M 633 36)))] [] M v M' 0 0 := by
  have H : Ev none e 201 3 [some (.ref 633), some (.int c), none] [.ref 633, .int 16] M v M' 0 0 := Ev.back 2 (fun n => rfl) H
  have H : Ev none e 201 6 [some (.ref 633), some (.int c), none] [.int (zI M 633 36), .int 16] M v M' 0 0 := Ev.back 1 (gs_3 rfl rfl (gf_i hS.1 qa_633 qi_61_36 rfl)) H
  have H : Ev none e 201 8 [some (.ref 633), some (.int c), some (.int (16 * (zI M 633 36)))] [] M v M' 0 0 := Ev.back 2 (fun n => rfl) H
  have HF := H
  exact HF
theorem rma_8 {e : Nat} {M M' : Mem} {v : Option Value} {c k : Int32} (hS : SQ M) (H : Ev none e 201 8 [some (.ref 633), some (.int c), some (.int k)] [] M v M' 0 0) : (((16 * (zI M 633 36)) + (rI M 639 (zI M 633 36))) ≤ k ∧ (0 ≤ (zI M 633 36).toInt ∧ (zI M 633 36).toInt < 8) ∧ v = some (.int 0) ∧ M' = M) ∨ (¬ (((16 * (zI M 633 36)) + (rI M 639 (zI M 633 36))) ≤ k) ∧ (rI M 640 k) = 6 ∧ (0 ≤ (zI M 633 36).toInt ∧ (zI M 633 36).toInt < 8) ∧ (0 ≤ k.toInt ∧ k.toInt < 128) ∧ (∃ e1 v1 M1, e = e1 + 1 ∧ Ev none e1 187 0 [some (.ref 633), some (.int k), some (.int c), none, none, none, none, none] [] M v1 M1 0 0 ∧ Ev none e 201 46 [some (.ref 633), some (.int c), some (.int k)] (v1.toList ++ []) M1 v M' 0 0)) ∨ (¬ (((16 * (zI M 633 36)) + (rI M 639 (zI M 633 36))) ≤ k) ∧ ¬ ((rI M 640 k) = 6) ∧ (0 ≤ (zI M 633 36).toInt ∧ (zI M 633 36).toInt < 8) ∧ (0 ≤ k.toInt ∧ k.toInt < 128) ∧ Ev none e 201 8 [some (.ref 633), some (.int c), some (.int (k + 1))] [] M v M' 0 0) := by
  have H : Ev none e 201 12 [some (.ref 633), some (.int c), some (.int k)] [.ref 633, .int 16, .int k] M v M' 0 0 := Ev.back 3 (fun n => rfl) H
  have H : Ev none e 201 15 [some (.ref 633), some (.int c), some (.int k)] [.int (zI M 633 36), .int 16, .int k] M v M' 0 0 := Ev.back 1 (gs_3 rfl rfl (gf_i hS.1 qa_633 qi_61_36 rfl)) H
  have H : Ev none e 201 17 [some (.ref 633), some (.int c), some (.int k)] [.ref 633, .int (16 * (zI M 633 36)), .int k] M v M' 0 0 := Ev.back 2 (fun n => rfl) H
  have H : Ev none e 201 20 [some (.ref 633), some (.int c), some (.int k)] [.ref 639, .int (16 * (zI M 633 36)), .int k] M v M' 0 0 := Ev.back 1 (gs_3 rfl rfl (gf_u hS.1 qa_633 qr_61_9 qu_67 rfl)) H
  have H : Ev none e 201 21 [some (.ref 633), some (.int c), some (.int k)] [.ref 633, .ref 639, .int (16 * (zI M 633 36)), .int k] M v M' 0 0 := Ev.back 1 (fun n => rfl) H
  have H : Ev none e 201 24 [some (.ref 633), some (.int c), some (.int k)] [.int (zI M 633 36), .ref 639, .int (16 * (zI M 633 36)), .int k] M v M' 0 0 := Ev.back 1 (gs_3 rfl rfl (gf_i hS.1 qa_633 qi_61_36 rfl)) H
  obtain ⟨b1, H⟩ := Ev.ial rfl rfl hS.1 qa_639 qw_67 H
  have H : Ev none e 201 25 [some (.ref 633), some (.int c), some (.int k)] [.int (rI M 639 (zI M 633 36)), .int (16 * (zI M 633 36)), .int k] M v M' 0 0 := H
  have H : Ev none e 201 (if ((16 * (zI M 633 36)) + (rI M 639 (zI M 633 36))) ≤ k then 57 else 29) [some (.ref 633), some (.int c), some (.int k)] [] M v M' 0 0 := Ev.back 2 (fun n => rfl) H
  by_cases h2 : ((16 * (zI M 633 36)) + (rI M 639 (zI M 633 36))) ≤ k
  · rw [if_pos h2] at H
    have H : Ev none e 201 58 [some (.ref 633), some (.int c), some (.int k)] [.int 0] M v M' 0 0 := Ev.back 1 (fun n => rfl) H
    obtain ⟨z1, z2⟩ := Ev.retz rfl rfl H
    exact Or.inl ⟨h2, b1, z1, z2⟩
  · rw [if_neg h2] at H
    have H : Ev none e 201 30 [some (.ref 633), some (.int c), some (.int k)] [.ref 633] M v M' 0 0 := Ev.back 1 (fun n => rfl) H
    have H : Ev none e 201 33 [some (.ref 633), some (.int c), some (.int k)] [.ref 640] M v M' 0 0 := Ev.back 1 (gs_3 rfl rfl (gf_u hS.1 qa_633 qr_61_10 qu_68 rfl)) H
    have H : Ev none e 201 34 [some (.ref 633), some (.int c), some (.int k)] [.int k, .ref 640] M v M' 0 0 := Ev.back 1 (fun n => rfl) H
    obtain ⟨b3, H⟩ := Ev.ial rfl rfl hS.1 qa_640 qw_68 H
    have H : Ev none e 201 35 [some (.ref 633), some (.int c), some (.int k)] [.int (rI M 640 k)] M v M' 0 0 := H
    have H : Ev none e 201 (if (rI M 640 k) = 6 then 40 else 51) [some (.ref 633), some (.int c), some (.int k)] [] M v M' 0 0 := Ev.back 2 (fun n => rfl) H
    by_cases h4 : (rI M 640 k) = 6
    · rw [if_pos h4] at H
      have H : Ev none e 201 43 [some (.ref 633), some (.int c), some (.int k)] [.int c, .int k, .ref 633] M v M' 0 0 := Ev.back 3 (fun n => rfl) H
      obtain ⟨e1, rfl⟩ := Ev.dpos rfl rfl H
      obtain ⟨vK5, MK5, K5, H⟩ := Ev.callb (fun n_ => gs_7 rfl rfl (show gCal (.invokevirtual 337) 11 (.int c :: .int k :: .ref 633 :: []) M = some (.inr (187, [some (.ref 633), some (.int k), some (.int c), none, none, none, none, none], [])) from by show @cond (Option ((List Value × Mem) ⊕ (Nat × Lo × List Value))) (true && gRecv M (.ref 633) 11 && gRoom [] && true) (some (.inr (187, [some (.ref 633), some (.int k), some (.int c), none, none, none, none, none], []))) none = _; rw [recv_s hS.1 qa_633 qo_61]; rfl)) H
      have K5 : Ev none e1 187 0 [some (.ref 633), some (.int k), some (.int c), none, none, none, none, none] [] M vK5 MK5 0 0 := K5
      have HF := H
      exact Or.inr (Or.inl ⟨h2, h4, b1, b3, ⟨e1, vK5, MK5, rfl, K5, HF⟩⟩)
    · rw [if_neg h4] at H
      have H : Ev none e 201 8 [some (.ref 633), some (.int c), some (.int (k + 1))] [] M v M' 0 0 := Ev.back 2 (fun n => rfl) H
      have HF := H
      exact Or.inr (Or.inr (⟨h2, h4, b1, b3, HF⟩))
theorem rma_46 {e : Nat} {M M' : Mem} {v : Option Value} {c k y : Int32} (hS : SQ M) (H : Ev none e 201 46 [some (.ref 633), some (.int c), some (.int k)] [.int y] M v M' 0 0) : (y = 0 ∧ Ev none e 201 8 [some (.ref 633), some (.int c), some (.int (k + 1))] [] M v M' 0 0) ∨ (¬ (y = 0) ∧ v = some (.int 1) ∧ M' = M) := by
  have H : Ev none e 201 (if y = 0 then 51 else 49) [some (.ref 633), some (.int c), some (.int k)] [] M v M' 0 0 := Ev.back 1 (fun n => rfl) H
  by_cases h1 : y = 0
  · rw [if_pos h1] at H
    have H : Ev none e 201 8 [some (.ref 633), some (.int c), some (.int (k + 1))] [] M v M' 0 0 := Ev.back 2 (fun n => rfl) H
    have HF := H
    exact Or.inl ⟨h1, HF⟩
  · rw [if_neg h1] at H
    have H : Ev none e 201 50 [some (.ref 633), some (.int c), some (.int k)] [.int 1] M v M' 0 0 := Ev.back 1 (fun n => rfl) H
    obtain ⟨z1, z2⟩ := Ev.retz rfl rfl H
    exact Or.inr (⟨h1, z1, z2⟩)
theorem rch_0 {e : Nat} {M M' : Mem} {v : Option Value} (hS : SQ M) (H : Ev none e 202 0 [some (.ref 633), none, none, none, none, none] [] M v M' 0 0) : (2 ≤ (G_195 M (zI M 633 34) (zI M 633 35)) ∧ Ev none e 202 70 [some (.ref 633), some (.int (-1)), some (.int 0), some (.int 0), none, none] [] M v M' 0 0) ∨ (¬ (2 ≤ (G_195 M (zI M 633 34) (zI M 633 35))) ∧ 2 ≤ (G_196 M (zI M 633 34) (zI M 633 35)) ∧ Ev none e 202 70 [some (.ref 633), some (.int (-1)), some (.int 0), some (.int 0), none, none] [] M v M' 0 0) ∨ (¬ (2 ≤ (G_195 M (zI M 633 34) (zI M 633 35))) ∧ ¬ (2 ≤ (G_196 M (zI M 633 34) (zI M 633 35))) ∧ Ev none e 202 34 [some (.ref 633), some (.int 0), none, none, none, none] [] M v M' 0 0) := by
  have H : Ev none e 202 2 [some (.ref 633), none, none, none, none, none] [.ref 633, .ref 633] M v M' 0 0 := Ev.back 2 (fun n => rfl) H
  have H : Ev none e 202 5 [some (.ref 633), none, none, none, none, none] [.int (zI M 633 34), .ref 633] M v M' 0 0 := Ev.back 1 (gs_3 rfl rfl (gf_i hS.1 qa_633 qi_61_34 rfl)) H
  have H : Ev none e 202 6 [some (.ref 633), none, none, none, none, none] [.ref 633, .int (zI M 633 34), .ref 633] M v M' 0 0 := Ev.back 1 (fun n => rfl) H
  have H : Ev none e 202 9 [some (.ref 633), none, none, none, none, none] [.int (zI M 633 35), .int (zI M 633 34), .ref 633] M v M' 0 0 := Ev.back 1 (gs_3 rfl rfl (gf_i hS.1 qa_633 qi_61_35 rfl)) H
  obtain ⟨e1, rfl⟩ := Ev.dpos rfl rfl H
  obtain ⟨vK1, MK1, K1, H⟩ := Ev.callb (fun n_ => gs_7 rfl rfl (show gCal (.invokevirtual 386) 11 (.int (zI M 633 35) :: .int (zI M 633 34) :: .ref 633 :: []) M = some (.inr (195, [some (.ref 633), some (.int (zI M 633 34)), some (.int (zI M 633 35))], [])) from by show @cond (Option ((List Value × Mem) ⊕ (Nat × Lo × List Value))) (true && gRecv M (.ref 633) 11 && gRoom [] && true) (some (.inr (195, [some (.ref 633), some (.int (zI M 633 34)), some (.int (zI M 633 35))], []))) none = _; rw [recv_s hS.1 qa_633 qo_61]; rfl)) H
  obtain ⟨pK1, qK1⟩ := g_195 hS K1
  rw [pK1, qK1] at H
  have H : Ev none (e1 + 1) 202 12 [some (.ref 633), none, none, none, none, none] [.int (G_195 M (zI M 633 34) (zI M 633 35))] M v M' 0 0 := H
  have H : Ev none (e1 + 1) 202 (if 2 ≤ (G_195 M (zI M 633 34) (zI M 633 35)) then 64 else 16) [some (.ref 633), none, none, none, none, none] [] M v M' 0 0 := Ev.back 2 (fun n => rfl) H
  by_cases h2 : 2 ≤ (G_195 M (zI M 633 34) (zI M 633 35))
  · rw [if_pos h2] at H
    have H : Ev none (e1 + 1) 202 70 [some (.ref 633), some (.int (-1)), some (.int 0), some (.int 0), none, none] [] M v M' 0 0 := Ev.back 6 (fun n => rfl) H
    have HF := H
    exact Or.inl ⟨h2, HF⟩
  · rw [if_neg h2] at H
    have H : Ev none (e1 + 1) 202 18 [some (.ref 633), none, none, none, none, none] [.ref 633, .ref 633] M v M' 0 0 := Ev.back 2 (fun n => rfl) H
    have H : Ev none (e1 + 1) 202 21 [some (.ref 633), none, none, none, none, none] [.int (zI M 633 34), .ref 633] M v M' 0 0 := Ev.back 1 (gs_3 rfl rfl (gf_i hS.1 qa_633 qi_61_34 rfl)) H
    have H : Ev none (e1 + 1) 202 22 [some (.ref 633), none, none, none, none, none] [.ref 633, .int (zI M 633 34), .ref 633] M v M' 0 0 := Ev.back 1 (fun n => rfl) H
    have H : Ev none (e1 + 1) 202 25 [some (.ref 633), none, none, none, none, none] [.int (zI M 633 35), .int (zI M 633 34), .ref 633] M v M' 0 0 := Ev.back 1 (gs_3 rfl rfl (gf_i hS.1 qa_633 qi_61_35 rfl)) H
    obtain ⟨vK3, MK3, K3, H⟩ := Ev.callb (fun n_ => gs_7 rfl rfl (show gCal (.invokevirtual 389) 11 (.int (zI M 633 35) :: .int (zI M 633 34) :: .ref 633 :: []) M = some (.inr (196, [some (.ref 633), some (.int (zI M 633 34)), some (.int (zI M 633 35))], [])) from by show @cond (Option ((List Value × Mem) ⊕ (Nat × Lo × List Value))) (true && gRecv M (.ref 633) 11 && gRoom [] && true) (some (.inr (196, [some (.ref 633), some (.int (zI M 633 34)), some (.int (zI M 633 35))], []))) none = _; rw [recv_s hS.1 qa_633 qo_61]; rfl)) H
    obtain ⟨pK3, qK3⟩ := g_196 hS K3
    rw [pK3, qK3] at H
    have H : Ev none (e1 + 1) 202 28 [some (.ref 633), none, none, none, none, none] [.int (G_196 M (zI M 633 34) (zI M 633 35))] M v M' 0 0 := H
    have H : Ev none (e1 + 1) 202 (if 2 ≤ (G_196 M (zI M 633 34) (zI M 633 35)) then 64 else 32) [some (.ref 633), none, none, none, none, none] [] M v M' 0 0 := Ev.back 2 (fun n => rfl) H
    by_cases h4 : 2 ≤ (G_196 M (zI M 633 34) (zI M 633 35))
    · rw [if_pos h4] at H
      have H : Ev none (e1 + 1) 202 70 [some (.ref 633), some (.int (-1)), some (.int 0), some (.int 0), none, none] [] M v M' 0 0 := Ev.back 6 (fun n => rfl) H
      have HF := H
      exact Or.inr (Or.inl ⟨h2, h4, HF⟩)
    · rw [if_neg h4] at H
      have H : Ev none (e1 + 1) 202 34 [some (.ref 633), some (.int 0), none, none, none, none] [] M v M' 0 0 := Ev.back 2 (fun n => rfl) H
      have HF := H
      exact Or.inr (Or.inr (⟨h2, h4, HF⟩))
theorem rch_34 {e : Nat} {M M' : Mem} {v : Option Value} {d : Int32} (hS : SQ M) (H : Ev none e 202 34 [some (.ref 633), some (.int d), none, none, none, none] [] M v M' 0 0) : (8 ≤ d ∧ Ev none e 202 70 [some (.ref 633), some (.int (-1)), some (.int 0), some (.int 0), none, none] [] M v M' 0 0) ∨ (¬ (8 ≤ d) ∧ (G_194 M (zI M 633 34) d) = (zI M 633 35) ∧ v = some (.int d) ∧ M' = M) ∨ (¬ (8 ≤ d) ∧ ¬ ((G_194 M (zI M 633 34) d) = (zI M 633 35)) ∧ Ev none e 202 34 [some (.ref 633), some (.int (d + 1)), none, none, none, none] [] M v M' 0 0) := by
  have H : Ev none e 202 (if 8 ≤ d then 64 else 40) [some (.ref 633), some (.int d), none, none, none, none] [] M v M' 0 0 := Ev.back 3 (fun n => rfl) H
  by_cases h1 : 8 ≤ d
  · rw [if_pos h1] at H
    have H : Ev none e 202 70 [some (.ref 633), some (.int (-1)), some (.int 0), some (.int 0), none, none] [] M v M' 0 0 := Ev.back 6 (fun n => rfl) H
    have HF := H
    exact Or.inl ⟨h1, HF⟩
  · rw [if_neg h1] at H
    have H : Ev none e 202 42 [some (.ref 633), some (.int d), none, none, none, none] [.ref 633, .ref 633] M v M' 0 0 := Ev.back 2 (fun n => rfl) H
    have H : Ev none e 202 45 [some (.ref 633), some (.int d), none, none, none, none] [.int (zI M 633 34), .ref 633] M v M' 0 0 := Ev.back 1 (gs_3 rfl rfl (gf_i hS.1 qa_633 qi_61_34 rfl)) H
    have H : Ev none e 202 46 [some (.ref 633), some (.int d), none, none, none, none] [.int d, .int (zI M 633 34), .ref 633] M v M' 0 0 := Ev.back 1 (fun n => rfl) H
    obtain ⟨e1, rfl⟩ := Ev.dpos rfl rfl H
    obtain ⟨vK2, MK2, K2, H⟩ := Ev.callb (fun n_ => gs_7 rfl rfl (show gCal (.invokevirtual 380) 11 (.int d :: .int (zI M 633 34) :: .ref 633 :: []) M = some (.inr (194, [some (.ref 633), some (.int (zI M 633 34)), some (.int d), none, none], [])) from by show @cond (Option ((List Value × Mem) ⊕ (Nat × Lo × List Value))) (true && gRecv M (.ref 633) 11 && gRoom [] && true) (some (.inr (194, [some (.ref 633), some (.int (zI M 633 34)), some (.int d), none, none], []))) none = _; rw [recv_s hS.1 qa_633 qo_61]; rfl)) H
    obtain ⟨pK2, qK2⟩ := g_194 hS K2
    rw [pK2, qK2] at H
    have H : Ev none (e1 + 1) 202 49 [some (.ref 633), some (.int d), none, none, none, none] [.int (G_194 M (zI M 633 34) d)] M v M' 0 0 := H
    have H : Ev none (e1 + 1) 202 50 [some (.ref 633), some (.int d), none, none, none, none] [.ref 633, .int (G_194 M (zI M 633 34) d)] M v M' 0 0 := Ev.back 1 (fun n => rfl) H
    have H : Ev none (e1 + 1) 202 53 [some (.ref 633), some (.int d), none, none, none, none] [.int (zI M 633 35), .int (G_194 M (zI M 633 34) d)] M v M' 0 0 := Ev.back 1 (gs_3 rfl rfl (gf_i hS.1 qa_633 qi_61_35 rfl)) H
    have H : Ev none (e1 + 1) 202 (if (G_194 M (zI M 633 34) d) = (zI M 633 35) then 56 else 58) [some (.ref 633), some (.int d), none, none, none, none] [] M v M' 0 0 := Ev.back 1 (fun n => rfl) H
    by_cases h3 : (G_194 M (zI M 633 34) d) = (zI M 633 35)
    · rw [if_pos h3] at H
      have H : Ev none (e1 + 1) 202 57 [some (.ref 633), some (.int d), none, none, none, none] [.int d] M v M' 0 0 := Ev.back 1 (fun n => rfl) H
      obtain ⟨z1, z2⟩ := Ev.retz rfl rfl H
      exact Or.inr (Or.inl ⟨h1, h3, z1, z2⟩)
    · rw [if_neg h3] at H
      have H : Ev none (e1 + 1) 202 34 [some (.ref 633), some (.int (d + 1)), none, none, none, none] [] M v M' 0 0 := Ev.back 2 (fun n => rfl) H
      have HF := H
      exact Or.inr (Or.inr (⟨h1, h3, HF⟩))
theorem rch_70 {e : Nat} {M M' : Mem} {v : Option Value} {be le d : Int32} {c4 c5 : Option Value} (hS : SQ M) (H : Ev none e 202 70 [some (.ref 633), some (.int be), some (.int le), some (.int d), c4, c5] [] M v M' 0 0) : (8 ≤ d ∧ v = some (.int be) ∧ M' = M) ∨ (¬ (8 ≤ d) ∧ (G_194 M (zI M 633 34) d) < 0 ∧ Ev none e 202 70 [some (.ref 633), some (.int be), some (.int le), some (.int (d + 1)), some (.int (G_194 M (zI M 633 34) d)), c5] [] M v M' 0 0) ∨ (¬ (8 ≤ d) ∧ ¬ ((G_194 M (zI M 633 34) d) < 0) ∧ (G_148 M (G_194 M (zI M 633 34) d)) = 0 ∧ Ev none e 202 70 [some (.ref 633), some (.int be), some (.int le), some (.int (d + 1)), some (.int (G_194 M (zI M 633 34) d)), c5] [] M v M' 0 0) ∨ (¬ (8 ≤ d) ∧ ¬ ((G_194 M (zI M 633 34) d) < 0) ∧ ¬ ((G_148 M (G_194 M (zI M 633 34) d)) = 0) ∧ (∃ e1 v1 M1, e = e1 + 1 ∧ Ev none e1 201 0 [some (.ref 633), some (.int (G_194 M (zI M 633 34) d)), none] [] M v1 M1 0 0 ∧ Ev none e 202 107 [some (.ref 633), some (.int be), some (.int le), some (.int d), some (.int (G_194 M (zI M 633 34) d)), c5] (v1.toList ++ []) M1 v M' 0 0)) := by
  have H : Ev none e 202 (if 8 ≤ d then 146 else 76) [some (.ref 633), some (.int be), some (.int le), some (.int d), c4, c5] [] M v M' 0 0 := Ev.back 3 (fun n => rfl) H
  by_cases h1 : 8 ≤ d
  · rw [if_pos h1] at H
    have H : Ev none e 202 147 [some (.ref 633), some (.int be), some (.int le), some (.int d), c4, c5] [.int be] M v M' 0 0 := Ev.back 1 (fun n => rfl) H
    obtain ⟨z1, z2⟩ := Ev.retz rfl rfl H
    exact Or.inl ⟨h1, z1, z2⟩
  · rw [if_neg h1] at H
    have H : Ev none e 202 78 [some (.ref 633), some (.int be), some (.int le), some (.int d), c4, c5] [.ref 633, .ref 633] M v M' 0 0 := Ev.back 2 (fun n => rfl) H
    have H : Ev none e 202 81 [some (.ref 633), some (.int be), some (.int le), some (.int d), c4, c5] [.int (zI M 633 34), .ref 633] M v M' 0 0 := Ev.back 1 (gs_3 rfl rfl (gf_i hS.1 qa_633 qi_61_34 rfl)) H
    have H : Ev none e 202 82 [some (.ref 633), some (.int be), some (.int le), some (.int d), c4, c5] [.int d, .int (zI M 633 34), .ref 633] M v M' 0 0 := Ev.back 1 (fun n => rfl) H
    obtain ⟨e1, rfl⟩ := Ev.dpos rfl rfl H
    obtain ⟨vK2, MK2, K2, H⟩ := Ev.callb (fun n_ => gs_7 rfl rfl (show gCal (.invokevirtual 380) 11 (.int d :: .int (zI M 633 34) :: .ref 633 :: []) M = some (.inr (194, [some (.ref 633), some (.int (zI M 633 34)), some (.int d), none, none], [])) from by show @cond (Option ((List Value × Mem) ⊕ (Nat × Lo × List Value))) (true && gRecv M (.ref 633) 11 && gRoom [] && true) (some (.inr (194, [some (.ref 633), some (.int (zI M 633 34)), some (.int d), none, none], []))) none = _; rw [recv_s hS.1 qa_633 qo_61]; rfl)) H
    obtain ⟨pK2, qK2⟩ := g_194 hS K2
    rw [pK2, qK2] at H
    have H : Ev none (e1 + 1) 202 85 [some (.ref 633), some (.int be), some (.int le), some (.int d), c4, c5] [.int (G_194 M (zI M 633 34) d)] M v M' 0 0 := H
    have H : Ev none (e1 + 1) 202 (if (G_194 M (zI M 633 34) d) < 0 then 140 else 92) [some (.ref 633), some (.int be), some (.int le), some (.int d), some (.int (G_194 M (zI M 633 34) d)), c5] [] M v M' 0 0 := Ev.back 3 (fun n => rfl) H
    by_cases h3 : (G_194 M (zI M 633 34) d) < 0
    · rw [if_pos h3] at H
      have H : Ev none (e1 + 1) 202 70 [some (.ref 633), some (.int be), some (.int le), some (.int (d + 1)), some (.int (G_194 M (zI M 633 34) d)), c5] [] M v M' 0 0 := Ev.back 2 (fun n => rfl) H
      have HF := H
      exact Or.inr (Or.inl ⟨h1, h3, HF⟩)
    · rw [if_neg h3] at H
      have H : Ev none (e1 + 1) 202 95 [some (.ref 633), some (.int be), some (.int le), some (.int d), some (.int (G_194 M (zI M 633 34) d)), c5] [.int (G_194 M (zI M 633 34) d), .ref 633] M v M' 0 0 := Ev.back 2 (fun n => rfl) H
      obtain ⟨vK4, MK4, K4, H⟩ := Ev.callb (fun n_ => gs_7 rfl rfl (show gCal (.invokevirtual 158) 11 (.int (G_194 M (zI M 633 34) d) :: .ref 633 :: []) M = some (.inr (148, [some (.ref 633), some (.int (G_194 M (zI M 633 34) d))], [])) from by show @cond (Option ((List Value × Mem) ⊕ (Nat × Lo × List Value))) (true && gRecv M (.ref 633) 11 && gRoom [] && true) (some (.inr (148, [some (.ref 633), some (.int (G_194 M (zI M 633 34) d))], []))) none = _; rw [recv_s hS.1 qa_633 qo_61]; rfl)) H
      obtain ⟨pK4, qK4⟩ := g_148 hS K4
      rw [pK4, qK4] at H
      have H : Ev none (e1 + 1) 202 98 [some (.ref 633), some (.int be), some (.int le), some (.int d), some (.int (G_194 M (zI M 633 34) d)), c5] [.int (G_148 M (G_194 M (zI M 633 34) d))] M v M' 0 0 := H
      have H : Ev none (e1 + 1) 202 (if (G_148 M (G_194 M (zI M 633 34) d)) = 0 then 140 else 101) [some (.ref 633), some (.int be), some (.int le), some (.int d), some (.int (G_194 M (zI M 633 34) d)), c5] [] M v M' 0 0 := Ev.back 1 (fun n => rfl) H
      by_cases h5 : (G_148 M (G_194 M (zI M 633 34) d)) = 0
      · rw [if_pos h5] at H
        have H : Ev none (e1 + 1) 202 70 [some (.ref 633), some (.int be), some (.int le), some (.int (d + 1)), some (.int (G_194 M (zI M 633 34) d)), c5] [] M v M' 0 0 := Ev.back 2 (fun n => rfl) H
        have HF := H
        exact Or.inr (Or.inr (Or.inl ⟨h1, h3, h5, HF⟩))
      · rw [if_neg h5] at H
        have H : Ev none (e1 + 1) 202 104 [some (.ref 633), some (.int be), some (.int le), some (.int d), some (.int (G_194 M (zI M 633 34) d)), c5] [.int (G_194 M (zI M 633 34) d), .ref 633] M v M' 0 0 := Ev.back 2 (fun n => rfl) H
        obtain ⟨vK6, MK6, K6, H⟩ := Ev.callb (fun n_ => gs_7 rfl rfl (show gCal (.invokevirtual 396) 11 (.int (G_194 M (zI M 633 34) d) :: .ref 633 :: []) M = some (.inr (201, [some (.ref 633), some (.int (G_194 M (zI M 633 34) d)), none], [])) from by show @cond (Option ((List Value × Mem) ⊕ (Nat × Lo × List Value))) (true && gRecv M (.ref 633) 11 && gRoom [] && true) (some (.inr (201, [some (.ref 633), some (.int (G_194 M (zI M 633 34) d)), none], []))) none = _; rw [recv_s hS.1 qa_633 qo_61]; rfl)) H
        have K6 : Ev none e1 201 0 [some (.ref 633), some (.int (G_194 M (zI M 633 34) d)), none] [] M vK6 MK6 0 0 := K6
        have HF := H
        exact Or.inr (Or.inr (Or.inr (⟨h1, h3, h5, ⟨e1, vK6, MK6, rfl, K6, HF⟩⟩)))
theorem rch_107 {e : Nat} {M M' : Mem} {v : Option Value} {be le d c y : Int32} {c5 : Option Value} (hS : SQ M) (H : Ev none e 202 107 [some (.ref 633), some (.int be), some (.int le), some (.int d), some (.int c), c5] [.int y] M v M' 0 0) : (y = 0 ∧ (∃ e1 v1 M1, e = e1 + 1 ∧ Ev none e1 200 0 [some (.ref 633), some (.int c), some (.int d), none, none, none, none, none] [] M v1 M1 0 0 ∧ Ev none e 202 120 [some (.ref 633), some (.int be), some (.int le), some (.int d), some (.int c), c5] (v1.toList ++ []) M1 v M' 0 0)) ∨ (¬ (y = 0) ∧ Ev none e 202 70 [some (.ref 633), some (.int be), some (.int le), some (.int (d + 1)), some (.int c), c5] [] M v M' 0 0) := by
  have H : Ev none e 202 (if y = 0 then 113 else 110) [some (.ref 633), some (.int be), some (.int le), some (.int d), some (.int c), c5] [] M v M' 0 0 := Ev.back 1 (fun n => rfl) H
  by_cases h1 : y = 0
  · rw [if_pos h1] at H
    have H : Ev none e 202 117 [some (.ref 633), some (.int be), some (.int le), some (.int d), some (.int c), c5] [.int d, .int c, .ref 633] M v M' 0 0 := Ev.back 3 (fun n => rfl) H
    obtain ⟨e1, rfl⟩ := Ev.dpos rfl rfl H
    obtain ⟨vK2, MK2, K2, H⟩ := Ev.callb (fun n_ => gs_7 rfl rfl (show gCal (.invokevirtual 399) 11 (.int d :: .int c :: .ref 633 :: []) M = some (.inr (200, [some (.ref 633), some (.int c), some (.int d), none, none, none, none, none], [])) from by show @cond (Option ((List Value × Mem) ⊕ (Nat × Lo × List Value))) (true && gRecv M (.ref 633) 11 && gRoom [] && true) (some (.inr (200, [some (.ref 633), some (.int c), some (.int d), none, none, none, none, none], []))) none = _; rw [recv_s hS.1 qa_633 qo_61]; rfl)) H
    have K2 : Ev none e1 200 0 [some (.ref 633), some (.int c), some (.int d), none, none, none, none, none] [] M vK2 MK2 0 0 := K2
    have HF := H
    exact Or.inl ⟨h1, ⟨e1, vK2, MK2, rfl, K2, HF⟩⟩
  · rw [if_neg h1] at H
    have H : Ev none e 202 70 [some (.ref 633), some (.int be), some (.int le), some (.int (d + 1)), some (.int c), c5] [] M v M' 0 0 := Ev.back 3 (fun n => rfl) H
    have HF := H
    exact Or.inr (⟨h1, HF⟩)
theorem rch_120 {e : Nat} {M M' : Mem} {v : Option Value} {be le d c y : Int32} {c5 : Option Value} (hS : SQ M) (H : Ev none e 202 120 [some (.ref 633), some (.int be), some (.int le), some (.int d), some (.int c), c5] [.int y] M v M' 0 0) : (be < 0 ∧ Ev none e 202 70 [some (.ref 633), some (.int d), some (.int y), some (.int (d + 1)), some (.int c), some (.int y)] [] M v M' 0 0) ∨ (¬ (be < 0) ∧ y < le ∧ Ev none e 202 70 [some (.ref 633), some (.int d), some (.int y), some (.int (d + 1)), some (.int c), some (.int y)] [] M v M' 0 0) ∨ (¬ (be < 0) ∧ ¬ (y < le) ∧ Ev none e 202 70 [some (.ref 633), some (.int be), some (.int le), some (.int (d + 1)), some (.int c), some (.int y)] [] M v M' 0 0) := by
  have H : Ev none e 202 (if be < 0 then 135 else 126) [some (.ref 633), some (.int be), some (.int le), some (.int d), some (.int c), some (.int y)] [] M v M' 0 0 := Ev.back 3 (fun n => rfl) H
  by_cases h1 : be < 0
  · rw [if_pos h1] at H
    have H : Ev none e 202 70 [some (.ref 633), some (.int d), some (.int y), some (.int (d + 1)), some (.int c), some (.int y)] [] M v M' 0 0 := Ev.back 6 (fun n => rfl) H
    have HF := H
    exact Or.inl ⟨h1, HF⟩
  · rw [if_neg h1] at H
    have H : Ev none e 202 (if y < le then 135 else 132) [some (.ref 633), some (.int be), some (.int le), some (.int d), some (.int c), some (.int y)] [] M v M' 0 0 := Ev.back 3 (fun n => rfl) H
    by_cases h2 : y < le
    · rw [if_pos h2] at H
      have H : Ev none e 202 70 [some (.ref 633), some (.int d), some (.int y), some (.int (d + 1)), some (.int c), some (.int y)] [] M v M' 0 0 := Ev.back 6 (fun n => rfl) H
      have HF := H
      exact Or.inr (Or.inl ⟨h1, h2, HF⟩)
    · rw [if_neg h2] at H
      have H : Ev none e 202 70 [some (.ref 633), some (.int be), some (.int le), some (.int (d + 1)), some (.int c), some (.int y)] [] M v M' 0 0 := Ev.back 3 (fun n => rfl) H
      have HF := H
      exact Or.inr (Or.inr (⟨h1, h2, HF⟩))
/-! THE REFERENCE'S walking: tread, goes, leave, tick, endWeek: pieces (made by gref.py) -/
theorem rtr_0 {e : Nat} {M M' : Mem} {v : Option Value} {c : Int32} (hS : SQ M) (H : Ev none e 203 0 [some (.ref 633), some (.int c), none] [] M v M' 0 0) : ((G_149 M c) = 0 ∧ Ev none e 203 43 [some (.ref 633), some (.int c), none] [] M v M' 0 0) ∨ (¬ ((G_149 M c) = 0) ∧ (∃ e1 v1 M1, e = e1 + 1 ∧ Ev none e1 188 0 [some (.ref 633), some (.int 0), some (.int c), some (.int 5), none] [] M v1 M1 0 0 ∧ Ev none e 203 21 [some (.ref 633), some (.int c), none] (v1.toList ++ [.int (G_146 M c 3)]) M1 v M' 0 0)) := by
  have H : Ev none e 203 2 [some (.ref 633), some (.int c), none] [.int c, .ref 633] M v M' 0 0 := Ev.back 2 (fun n => rfl) H
  obtain ⟨e1, rfl⟩ := Ev.dpos rfl rfl H
  obtain ⟨vK1, MK1, K1, H⟩ := Ev.callb (fun n_ => gs_7 rfl rfl (show gCal (.invokevirtual 356) 11 (.int c :: .ref 633 :: []) M = some (.inr (149, [some (.ref 633), some (.int c)], [])) from by show @cond (Option ((List Value × Mem) ⊕ (Nat × Lo × List Value))) (true && gRecv M (.ref 633) 11 && gRoom [] && true) (some (.inr (149, [some (.ref 633), some (.int c)], []))) none = _; rw [recv_s hS.1 qa_633 qo_61]; rfl)) H
  obtain ⟨pK1, qK1⟩ := g_149 hS K1
  rw [pK1, qK1] at H
  have H : Ev none (e1 + 1) 203 5 [some (.ref 633), some (.int c), none] [.int (G_149 M c)] M v M' 0 0 := H
  have H : Ev none (e1 + 1) 203 (if (G_149 M c) = 0 then 43 else 8) [some (.ref 633), some (.int c), none] [] M v M' 0 0 := Ev.back 1 (fun n => rfl) H
  by_cases h2 : (G_149 M c) = 0
  · rw [if_pos h2] at H
    have HF := H
    exact Or.inl ⟨h2, HF⟩
  · rw [if_neg h2] at H
    have H : Ev none (e1 + 1) 203 11 [some (.ref 633), some (.int c), none] [.int 3, .int c, .ref 633] M v M' 0 0 := Ev.back 3 (fun n => rfl) H
    obtain ⟨vK3, MK3, K3, H⟩ := Ev.callb (fun n_ => gs_7 rfl rfl (show gCal (.invokevirtual 136) 11 (.int 3 :: .int c :: .ref 633 :: []) M = some (.inr (146, [some (.ref 633), some (.int c), some (.int 3)], [])) from by show @cond (Option ((List Value × Mem) ⊕ (Nat × Lo × List Value))) (true && gRecv M (.ref 633) 11 && gRoom [] && true) (some (.inr (146, [some (.ref 633), some (.int c), some (.int 3)], []))) none = _; rw [recv_s hS.1 qa_633 qo_61]; rfl)) H
    obtain ⟨pK3, qK3⟩ := g_146 hS K3
    rw [pK3, qK3] at H
    have H : Ev none (e1 + 1) 203 14 [some (.ref 633), some (.int c), none] [.int (G_146 M c 3)] M v M' 0 0 := H
    have H : Ev none (e1 + 1) 203 18 [some (.ref 633), some (.int c), none] [.int 5, .int c, .int 0, .ref 633, .int (G_146 M c 3)] M v M' 0 0 := Ev.back 4 (fun n => rfl) H
    obtain ⟨vK4, MK4, K4, H⟩ := Ev.callb (fun n_ => gs_7 rfl rfl (show gCal (.invokevirtual 402) 11 (.int 5 :: .int c :: .int 0 :: .ref 633 :: [.int (G_146 M c 3)]) M = some (.inr (188, [some (.ref 633), some (.int 0), some (.int c), some (.int 5), none], [.int (G_146 M c 3)])) from by show @cond (Option ((List Value × Mem) ⊕ (Nat × Lo × List Value))) (true && gRecv M (.ref 633) 11 && gRoom [.int (G_146 M c 3)] && true) (some (.inr (188, [some (.ref 633), some (.int 0), some (.int c), some (.int 5), none], [.int (G_146 M c 3)]))) none = _; rw [recv_s hS.1 qa_633 qo_61]; rfl)) H
    have K4 : Ev none e1 188 0 [some (.ref 633), some (.int 0), some (.int c), some (.int 5), none] [] M vK4 MK4 0 0 := K4
    have HF := H
    exact Or.inr (⟨h2, ⟨e1, vK4, MK4, rfl, K4, HF⟩⟩)
theorem rtr_21 {e : Nat} {M M' : Mem} {v : Option Value} {c y we : Int32} (hS : SQ M) (H : Ev none e 203 21 [some (.ref 633), some (.int c), none] [.int y, .int we] M v M' 0 0) : ((we + y) ≤ 999 ∧ Ev none e 203 43 [some (.ref 633), some (.int c), some (.int (we + y))] [] (X_147 M c 3 (we + y)) v M' 0 0) ∨ (¬ ((we + y) ≤ 999) ∧ Ev none e 203 43 [some (.ref 633), some (.int c), some (.int (we + y))] [] (X_147 M c 3 999) v M' 0 0) := by
  have H : Ev none e 203 (if (we + y) ≤ 999 then 39 else 33) [some (.ref 633), some (.int c), some (.int (we + y))] [.int 3, .int c, .ref 633] M v M' 0 0 := Ev.back 8 (fun n => rfl) H
  by_cases h1 : (we + y) ≤ 999
  · rw [if_pos h1] at H
    have H : Ev none e 203 40 [some (.ref 633), some (.int c), some (.int (we + y))] [.int (we + y), .int 3, .int c, .ref 633] M v M' 0 0 := Ev.back 1 (fun n => rfl) H
    obtain ⟨e1, rfl⟩ := Ev.dpos rfl rfl H
    obtain ⟨vK2, MK2, K2, H⟩ := Ev.callb (fun n_ => gs_7 rfl rfl (show gCal (.invokevirtual 151) 11 (.int (we + y) :: .int 3 :: .int c :: .ref 633 :: []) M = some (.inr (147, [some (.ref 633), some (.int c), some (.int 3), some (.int (we + y))], [])) from by show @cond (Option ((List Value × Mem) ⊕ (Nat × Lo × List Value))) (true && gRecv M (.ref 633) 11 && gRoom [] && true) (some (.inr (147, [some (.ref 633), some (.int c), some (.int 3), some (.int (we + y))], []))) none = _; rw [recv_s hS.1 qa_633 qo_61]; rfl)) H
    obtain ⟨pK2, qK2⟩ := g_147 hS K2
    rw [pK2, qK2] at H
    obtain ⟨N3, eN3⟩ : ∃ N, N = (X_147 M c 3 (we + y)) := ⟨_, rfl⟩
    have hN3 : SQ N3 := by rw [eN3]; exact X_147_sx hS
    rw [← eN3] at H
    have H : Ev none (e1 + 1) 203 43 [some (.ref 633), some (.int c), some (.int (we + y))] [] N3 v M' 0 0 := H
    have HF := H
    subst eN3
    exact Or.inl ⟨h1, HF⟩
  · rw [if_neg h1] at H
    have H : Ev none e 203 40 [some (.ref 633), some (.int c), some (.int (we + y))] [.int 999, .int 3, .int c, .ref 633] M v M' 0 0 := Ev.back 2 (fun n => rfl) H
    obtain ⟨e1, rfl⟩ := Ev.dpos rfl rfl H
    obtain ⟨vK4, MK4, K4, H⟩ := Ev.callb (fun n_ => gs_7 rfl rfl (show gCal (.invokevirtual 151) 11 (.int 999 :: .int 3 :: .int c :: .ref 633 :: []) M = some (.inr (147, [some (.ref 633), some (.int c), some (.int 3), some (.int 999)], [])) from by show @cond (Option ((List Value × Mem) ⊕ (Nat × Lo × List Value))) (true && gRecv M (.ref 633) 11 && gRoom [] && true) (some (.inr (147, [some (.ref 633), some (.int c), some (.int 3), some (.int 999)], []))) none = _; rw [recv_s hS.1 qa_633 qo_61]; rfl)) H
    obtain ⟨pK4, qK4⟩ := g_147 hS K4
    rw [pK4, qK4] at H
    obtain ⟨N5, eN5⟩ : ∃ N, N = (X_147 M c 3 999) := ⟨_, rfl⟩
    have hN5 : SQ N5 := by rw [eN5]; exact X_147_sx hS
    rw [← eN5] at H
    have H : Ev none (e1 + 1) 203 43 [some (.ref 633), some (.int c), some (.int (we + y))] [] N5 v M' 0 0 := H
    have HF := H
    subst eN5
    exact Or.inr (⟨h1, HF⟩)
theorem rtr_43 {e : Nat} {M M' : Mem} {v : Option Value} {c : Int32} {c2 : Option Value} (hS : SQ M) (H : Ev none e 203 43 [some (.ref 633), some (.int c), c2] [] M v M' 0 0) : ((zI (X_147 (X_147 M c 5 ((G_146 M c 5) + 1)) c 6 ((G_146 (X_147 M c 5 ((G_146 M c 5) + 1)) c 6) + 1)) 633 42) = 0 ∧ c = (zI (X_147 (X_147 M c 5 ((G_146 M c 5) + 1)) c 6 ((G_146 (X_147 M c 5 ((G_146 M c 5) + 1)) c 6) + 1)) 633 40) ∧ v = none ∧ M' = (wF (X_147 (X_147 M c 5 ((G_146 M c 5) + 1)) c 6 ((G_146 (X_147 M c 5 ((G_146 M c 5) + 1)) c 6) + 1)) 633 42 1)) ∨ ((zI (X_147 (X_147 M c 5 ((G_146 M c 5) + 1)) c 6 ((G_146 (X_147 M c 5 ((G_146 M c 5) + 1)) c 6) + 1)) 633 42) = 0 ∧ ¬ (c = (zI (X_147 (X_147 M c 5 ((G_146 M c 5) + 1)) c 6 ((G_146 (X_147 M c 5 ((G_146 M c 5) + 1)) c 6) + 1)) 633 40)) ∧ v = none ∧ M' = (wF (X_147 (X_147 M c 5 ((G_146 M c 5) + 1)) c 6 ((G_146 (X_147 M c 5 ((G_146 M c 5) + 1)) c 6) + 1)) 633 42 0)) ∨ (¬ ((zI (X_147 (X_147 M c 5 ((G_146 M c 5) + 1)) c 6 ((G_146 (X_147 M c 5 ((G_146 M c 5) + 1)) c 6) + 1)) 633 42) = 0) ∧ v = none ∧ M' = (wF (X_147 (X_147 M c 5 ((G_146 M c 5) + 1)) c 6 ((G_146 (X_147 M c 5 ((G_146 M c 5) + 1)) c 6) + 1)) 633 42 1)) := by
  have H : Ev none e 203 49 [some (.ref 633), some (.int c), c2] [.int 5, .int c, .ref 633, .int 5, .int c, .ref 633] M v M' 0 0 := Ev.back 6 (fun n => rfl) H
  obtain ⟨e1, rfl⟩ := Ev.dpos rfl rfl H
  obtain ⟨vK1, MK1, K1, H⟩ := Ev.callb (fun n_ => gs_7 rfl rfl (show gCal (.invokevirtual 136) 11 (.int 5 :: .int c :: .ref 633 :: [.int 5, .int c, .ref 633]) M = some (.inr (146, [some (.ref 633), some (.int c), some (.int 5)], [.int 5, .int c, .ref 633])) from by show @cond (Option ((List Value × Mem) ⊕ (Nat × Lo × List Value))) (true && gRecv M (.ref 633) 11 && gRoom [.int 5, .int c, .ref 633] && true) (some (.inr (146, [some (.ref 633), some (.int c), some (.int 5)], [.int 5, .int c, .ref 633]))) none = _; rw [recv_s hS.1 qa_633 qo_61]; rfl)) H
  obtain ⟨pK1, qK1⟩ := g_146 hS K1
  rw [pK1, qK1] at H
  have H : Ev none (e1 + 1) 203 52 [some (.ref 633), some (.int c), c2] [.int (G_146 M c 5), .int 5, .int c, .ref 633] M v M' 0 0 := H
  have H : Ev none (e1 + 1) 203 54 [some (.ref 633), some (.int c), c2] [.int ((G_146 M c 5) + 1), .int 5, .int c, .ref 633] M v M' 0 0 := Ev.back 2 (fun n => rfl) H
  obtain ⟨vK2, MK2, K2, H⟩ := Ev.callb (fun n_ => gs_7 rfl rfl (show gCal (.invokevirtual 151) 11 (.int ((G_146 M c 5) + 1) :: .int 5 :: .int c :: .ref 633 :: []) M = some (.inr (147, [some (.ref 633), some (.int c), some (.int 5), some (.int ((G_146 M c 5) + 1))], [])) from by show @cond (Option ((List Value × Mem) ⊕ (Nat × Lo × List Value))) (true && gRecv M (.ref 633) 11 && gRoom [] && true) (some (.inr (147, [some (.ref 633), some (.int c), some (.int 5), some (.int ((G_146 M c 5) + 1))], []))) none = _; rw [recv_s hS.1 qa_633 qo_61]; rfl)) H
  obtain ⟨pK2, qK2⟩ := g_147 hS K2
  rw [pK2, qK2] at H
  obtain ⟨N3, eN3⟩ : ∃ N, N = (X_147 M c 5 ((G_146 M c 5) + 1)) := ⟨_, rfl⟩
  have hN3 : SQ N3 := by rw [eN3]; exact X_147_sx hS
  rw [← eN3] at H
  have H : Ev none (e1 + 1) 203 57 [some (.ref 633), some (.int c), c2] [] N3 v M' 0 0 := H
  have H : Ev none (e1 + 1) 203 65 [some (.ref 633), some (.int c), c2] [.int 6, .int c, .ref 633, .int 6, .int c, .ref 633] N3 v M' 0 0 := Ev.back 6 (fun n => rfl) H
  obtain ⟨vK4, MK4, K4, H⟩ := Ev.callb (fun n_ => gs_7 rfl rfl (show gCal (.invokevirtual 136) 11 (.int 6 :: .int c :: .ref 633 :: [.int 6, .int c, .ref 633]) N3 = some (.inr (146, [some (.ref 633), some (.int c), some (.int 6)], [.int 6, .int c, .ref 633])) from by show @cond (Option ((List Value × Mem) ⊕ (Nat × Lo × List Value))) (true && gRecv N3 (.ref 633) 11 && gRoom [.int 6, .int c, .ref 633] && true) (some (.inr (146, [some (.ref 633), some (.int c), some (.int 6)], [.int 6, .int c, .ref 633]))) none = _; rw [recv_s hN3.1 qa_633 qo_61]; rfl)) H
  obtain ⟨pK4, qK4⟩ := g_146 hN3 K4
  rw [pK4, qK4] at H
  have H : Ev none (e1 + 1) 203 68 [some (.ref 633), some (.int c), c2] [.int (G_146 N3 c 6), .int 6, .int c, .ref 633] N3 v M' 0 0 := H
  have H : Ev none (e1 + 1) 203 70 [some (.ref 633), some (.int c), c2] [.int ((G_146 N3 c 6) + 1), .int 6, .int c, .ref 633] N3 v M' 0 0 := Ev.back 2 (fun n => rfl) H
  obtain ⟨vK5, MK5, K5, H⟩ := Ev.callb (fun n_ => gs_7 rfl rfl (show gCal (.invokevirtual 151) 11 (.int ((G_146 N3 c 6) + 1) :: .int 6 :: .int c :: .ref 633 :: []) N3 = some (.inr (147, [some (.ref 633), some (.int c), some (.int 6), some (.int ((G_146 N3 c 6) + 1))], [])) from by show @cond (Option ((List Value × Mem) ⊕ (Nat × Lo × List Value))) (true && gRecv N3 (.ref 633) 11 && gRoom [] && true) (some (.inr (147, [some (.ref 633), some (.int c), some (.int 6), some (.int ((G_146 N3 c 6) + 1))], []))) none = _; rw [recv_s hN3.1 qa_633 qo_61]; rfl)) H
  obtain ⟨pK5, qK5⟩ := g_147 hN3 K5
  rw [pK5, qK5] at H
  obtain ⟨N6, eN6⟩ : ∃ N, N = (X_147 N3 c 6 ((G_146 N3 c 6) + 1)) := ⟨_, rfl⟩
  have hN6 : SQ N6 := by rw [eN6]; exact X_147_sx hN3
  rw [← eN6] at H
  have H : Ev none (e1 + 1) 203 73 [some (.ref 633), some (.int c), c2] [] N6 v M' 0 0 := H
  have H : Ev none (e1 + 1) 203 75 [some (.ref 633), some (.int c), c2] [.ref 633, .ref 633] N6 v M' 0 0 := Ev.back 2 (fun n => rfl) H
  have H : Ev none (e1 + 1) 203 78 [some (.ref 633), some (.int c), c2] [.int (zI N6 633 42), .ref 633] N6 v M' 0 0 := Ev.back 1 (gs_3 rfl rfl (gf_i hN6.1 qa_633 qi_61_42 rfl)) H
  have H : Ev none (e1 + 1) 203 (if (zI N6 633 42) = 0 then 81 else 89) [some (.ref 633), some (.int c), c2] [.ref 633] N6 v M' 0 0 := Ev.back 1 (fun n => rfl) H
  by_cases h7 : (zI N6 633 42) = 0
  · rw [if_pos h7] at H
    have H : Ev none (e1 + 1) 203 83 [some (.ref 633), some (.int c), c2] [.ref 633, .int c, .ref 633] N6 v M' 0 0 := Ev.back 2 (fun n => rfl) H
    have H : Ev none (e1 + 1) 203 86 [some (.ref 633), some (.int c), c2] [.int (zI N6 633 40), .int c, .ref 633] N6 v M' 0 0 := Ev.back 1 (gs_3 rfl rfl (gf_i hN6.1 qa_633 qi_61_40 rfl)) H
    have H : Ev none (e1 + 1) 203 (if c = (zI N6 633 40) then 89 else 93) [some (.ref 633), some (.int c), c2] [.ref 633] N6 v M' 0 0 := Ev.back 1 (fun n => rfl) H
    by_cases h8 : c = (zI N6 633 40)
    · rw [if_pos h8] at H
      have H : Ev none (e1 + 1) 203 94 [some (.ref 633), some (.int c), c2] [.int 1, .ref 633] N6 v M' 0 0 := Ev.back 2 (fun n => rfl) H
      obtain ⟨N10, eN10⟩ : ∃ N, N = (wF N6 633 42 1) := ⟨_, rfl⟩
      have hN10 : SQ N10 := by rw [eN10]; exact hN6.kf
      have H : Ev none (e1 + 1) 203 97 [some (.ref 633), some (.int c), c2] [] N10 v M' 0 0 := by rw [eN10]; exact Ev.pfi rfl rfl rfl hN6.1 qa_633 qi_61_42 H
      obtain ⟨z1, z2⟩ := Ev.retb (fun n => rfl) H
      subst eN3 eN6 eN10
      exact Or.inl ⟨h7, h8, z1, z2⟩
    · rw [if_neg h8] at H
      have H : Ev none (e1 + 1) 203 94 [some (.ref 633), some (.int c), c2] [.int 0, .ref 633] N6 v M' 0 0 := Ev.back 1 (fun n => rfl) H
      obtain ⟨N12, eN12⟩ : ∃ N, N = (wF N6 633 42 0) := ⟨_, rfl⟩
      have hN12 : SQ N12 := by rw [eN12]; exact hN6.kf
      have H : Ev none (e1 + 1) 203 97 [some (.ref 633), some (.int c), c2] [] N12 v M' 0 0 := by rw [eN12]; exact Ev.pfi rfl rfl rfl hN6.1 qa_633 qi_61_42 H
      obtain ⟨z1, z2⟩ := Ev.retb (fun n => rfl) H
      subst eN3 eN6 eN12
      exact Or.inr (Or.inl ⟨h7, h8, z1, z2⟩)
  · rw [if_neg h7] at H
    have H : Ev none (e1 + 1) 203 94 [some (.ref 633), some (.int c), c2] [.int 1, .ref 633] N6 v M' 0 0 := Ev.back 2 (fun n => rfl) H
    obtain ⟨N14, eN14⟩ : ∃ N, N = (wF N6 633 42 1) := ⟨_, rfl⟩
    have hN14 : SQ N14 := by rw [eN14]; exact hN6.kf
    have H : Ev none (e1 + 1) 203 97 [some (.ref 633), some (.int c), c2] [] N14 v M' 0 0 := by rw [eN14]; exact Ev.pfi rfl rfl rfl hN6.1 qa_633 qi_61_42 H
    obtain ⟨z1, z2⟩ := Ev.retb (fun n => rfl) H
    subst eN3 eN6 eN14
    exact Or.inr (Or.inr (⟨h7, z1, z2⟩))
theorem rtk_0 {e : Nat} {M M' : Mem} {v : Option Value} (hS : SQ M) (H : Ev none e 204 0 [some (.ref 633), none, none, none] [] M v M' 0 0) : Ev none e 204 2 [some (.ref 633), some (.int 0), none, none] [] M v M' 0 0 := by
  have H : Ev none e 204 2 [some (.ref 633), some (.int 0), none, none] [] M v M' 0 0 := Ev.back 2 (fun n => rfl) H
  have HF := H
  exact HF
theorem rtk_2 {e : Nat} {M M' : Mem} {v : Option Value} {k : Int32} {c2 c3 : Option Value} (hS : SQ M) (H : Ev none e 204 2 [some (.ref 633), some (.int k), c2, c3] [] M v M' 0 0) : ((rI M 635 12) ≤ k ∧ (0 ≤ (12 : Int32).toInt ∧ (12 : Int32).toInt < 2314) ∧ Ev none e 204 202 [some (.ref 633), some (.int 0), c2, c3] [] M v M' 0 0) ∨ (¬ ((rI M 635 12) ≤ k) ∧ (rI M 635 ((13 + (6 * k)) + 5)) = 0 ∧ (0 ≤ (12 : Int32).toInt ∧ (12 : Int32).toInt < 2314) ∧ (0 ≤ ((13 + (6 * k)) + 5).toInt ∧ ((13 + (6 * k)) + 5).toInt < 2314) ∧ Ev none e 204 2 [some (.ref 633), some (.int (k + 1)), some (.int (13 + (6 * k))), c3] [] M v M' 0 0) ∨ (¬ ((rI M 635 12) ≤ k) ∧ ¬ ((rI M 635 ((13 + (6 * k)) + 5)) = 0) ∧ (rI M 635 518) < (rI M 635 ((13 + (6 * k)) + 4)) ∧ (0 ≤ (12 : Int32).toInt ∧ (12 : Int32).toInt < 2314) ∧ (0 ≤ ((13 + (6 * k)) + 5).toInt ∧ ((13 + (6 * k)) + 5).toInt < 2314) ∧ (0 ≤ (518 : Int32).toInt ∧ (518 : Int32).toInt < 2314) ∧ (0 ≤ ((13 + (6 * k)) + 4).toInt ∧ ((13 + (6 * k)) + 4).toInt < 2314) ∧ Ev none e 204 2 [some (.ref 633), some (.int (k + 1)), some (.int (13 + (6 * k))), c3] [] M v M' 0 0) ∨ (¬ ((rI M 635 12) ≤ k) ∧ ¬ ((rI M 635 ((13 + (6 * k)) + 5)) = 0) ∧ ¬ ((rI M 635 518) < (rI M 635 ((13 + (6 * k)) + 4))) ∧ (((rI M 635 518) - (rI M 635 ((13 + (6 * k)) + 4))) - ((rI M 635 518) - (rI M 635 ((13 + (6 * k)) + 4))) / (rI M 635 ((13 + (6 * k)) + 3)) * (rI M 635 ((13 + (6 * k)) + 3))) = 0 ∧ (rI M 635 157) = 60 ∧ (0 ≤ (12 : Int32).toInt ∧ (12 : Int32).toInt < 2314) ∧ (0 ≤ ((13 + (6 * k)) + 5).toInt ∧ ((13 + (6 * k)) + 5).toInt < 2314) ∧ (0 ≤ (518 : Int32).toInt ∧ (518 : Int32).toInt < 2314) ∧ (0 ≤ ((13 + (6 * k)) + 4).toInt ∧ ((13 + (6 * k)) + 4).toInt < 2314) ∧ (0 ≤ (518 : Int32).toInt ∧ (518 : Int32).toInt < 2314) ∧ (0 ≤ ((13 + (6 * k)) + 4).toInt ∧ ((13 + (6 * k)) + 4).toInt < 2314) ∧ (0 ≤ ((13 + (6 * k)) + 3).toInt ∧ ((13 + (6 * k)) + 3).toInt < 2314) ∧ ¬ (rI M 635 ((13 + (6 * k)) + 3)) = 0 ∧ (0 ≤ (157 : Int32).toInt ∧ (157 : Int32).toInt < 2314) ∧ (0 ≤ (521 : Int32).toInt ∧ (521 : Int32).toInt < 2314) ∧ (0 ≤ (521 : Int32).toInt ∧ (521 : Int32).toInt < 2314) ∧ Ev none e 204 2 [some (.ref 633), some (.int (k + 1)), some (.int (13 + (6 * k))), c3] [] (wI M 635 ((521 : Int32).toNatClampNeg) ((rI M 635 521) + 1)) v M' 0 0) ∨ (¬ ((rI M 635 12) ≤ k) ∧ ¬ ((rI M 635 ((13 + (6 * k)) + 5)) = 0) ∧ ¬ ((rI M 635 518) < (rI M 635 ((13 + (6 * k)) + 4))) ∧ (((rI M 635 518) - (rI M 635 ((13 + (6 * k)) + 4))) - ((rI M 635 518) - (rI M 635 ((13 + (6 * k)) + 4))) / (rI M 635 ((13 + (6 * k)) + 3)) * (rI M 635 ((13 + (6 * k)) + 3))) = 0 ∧ ¬ ((rI M 635 157) = 60) ∧ (0 ≤ (12 : Int32).toInt ∧ (12 : Int32).toInt < 2314) ∧ (0 ≤ ((13 + (6 * k)) + 5).toInt ∧ ((13 + (6 * k)) + 5).toInt < 2314) ∧ (0 ≤ (518 : Int32).toInt ∧ (518 : Int32).toInt < 2314) ∧ (0 ≤ ((13 + (6 * k)) + 4).toInt ∧ ((13 + (6 * k)) + 4).toInt < 2314) ∧ (0 ≤ (518 : Int32).toInt ∧ (518 : Int32).toInt < 2314) ∧ (0 ≤ ((13 + (6 * k)) + 4).toInt ∧ ((13 + (6 * k)) + 4).toInt < 2314) ∧ (0 ≤ ((13 + (6 * k)) + 3).toInt ∧ ((13 + (6 * k)) + 3).toInt < 2314) ∧ ¬ (rI M 635 ((13 + (6 * k)) + 3)) = 0 ∧ (0 ≤ (157 : Int32).toInt ∧ (157 : Int32).toInt < 2314) ∧ (0 ≤ (157 : Int32).toInt ∧ (157 : Int32).toInt < 2314) ∧ (0 ≤ (13 + (6 * k)).toInt ∧ (13 + (6 * k)).toInt < 2314) ∧ (0 ≤ (3 + (rI M 635 (13 + (6 * k)))).toInt ∧ (3 + (rI M 635 (13 + (6 * k)))).toInt < 2314) ∧ (0 ≤ (158 + (6 * (rI M 635 157))).toInt ∧ (158 + (6 * (rI M 635 157))).toInt < 2314) ∧ (0 ≤ ((158 + (6 * (rI M 635 157))) + 1).toInt ∧ ((158 + (6 * (rI M 635 157))) + 1).toInt < 2314) ∧ (0 ≤ ((158 + (6 * (rI M 635 157))) + 2).toInt ∧ ((158 + (6 * (rI M 635 157))) + 2).toInt < 2314) ∧ (0 ≤ ((158 + (6 * (rI M 635 157))) + 3).toInt ∧ ((158 + (6 * (rI M 635 157))) + 3).toInt < 2314) ∧ (0 ≤ ((158 + (6 * (rI M 635 157))) + 4).toInt ∧ ((158 + (6 * (rI M 635 157))) + 4).toInt < 2314) ∧ (0 ≤ (157 : Int32).toInt ∧ (157 : Int32).toInt < 2314) ∧ (0 ≤ (157 : Int32).toInt ∧ (157 : Int32).toInt < 2314) ∧ Ev none e 204 2 [some (.ref 633), some (.int (k + 1)), some (.int (13 + (6 * k))), some (.int (158 + (6 * (rI M 635 157))))] [] (wI (wI (wI (wI (wI (wI M 635 ((158 + (6 * (rI M 635 157))).toNatClampNeg) (rI M 635 (3 + (rI M 635 (13 + (6 * k)))))) 635 (((158 + (6 * (rI M 635 157))) + 1).toNatClampNeg) k) 635 (((158 + (6 * (rI M 635 157))) + 2).toNatClampNeg) 0) 635 (((158 + (6 * (rI M 635 157))) + 3).toNatClampNeg) (-1)) 635 (((158 + (6 * (rI M 635 157))) + 4).toNatClampNeg) (-1)) 635 ((157 : Int32).toNatClampNeg) ((rI (wI (wI (wI (wI (wI M 635 ((158 + (6 * (rI M 635 157))).toNatClampNeg) (rI M 635 (3 + (rI M 635 (13 + (6 * k)))))) 635 (((158 + (6 * (rI M 635 157))) + 1).toNatClampNeg) k) 635 (((158 + (6 * (rI M 635 157))) + 2).toNatClampNeg) 0) 635 (((158 + (6 * (rI M 635 157))) + 3).toNatClampNeg) (-1)) 635 (((158 + (6 * (rI M 635 157))) + 4).toNatClampNeg) (-1)) 635 157) + 1)) v M' 0 0) ∨ (¬ ((rI M 635 12) ≤ k) ∧ ¬ ((rI M 635 ((13 + (6 * k)) + 5)) = 0) ∧ ¬ ((rI M 635 518) < (rI M 635 ((13 + (6 * k)) + 4))) ∧ ¬ ((((rI M 635 518) - (rI M 635 ((13 + (6 * k)) + 4))) - ((rI M 635 518) - (rI M 635 ((13 + (6 * k)) + 4))) / (rI M 635 ((13 + (6 * k)) + 3)) * (rI M 635 ((13 + (6 * k)) + 3))) = 0) ∧ (0 ≤ (12 : Int32).toInt ∧ (12 : Int32).toInt < 2314) ∧ (0 ≤ ((13 + (6 * k)) + 5).toInt ∧ ((13 + (6 * k)) + 5).toInt < 2314) ∧ (0 ≤ (518 : Int32).toInt ∧ (518 : Int32).toInt < 2314) ∧ (0 ≤ ((13 + (6 * k)) + 4).toInt ∧ ((13 + (6 * k)) + 4).toInt < 2314) ∧ (0 ≤ (518 : Int32).toInt ∧ (518 : Int32).toInt < 2314) ∧ (0 ≤ ((13 + (6 * k)) + 4).toInt ∧ ((13 + (6 * k)) + 4).toInt < 2314) ∧ (0 ≤ ((13 + (6 * k)) + 3).toInt ∧ ((13 + (6 * k)) + 3).toInt < 2314) ∧ ¬ (rI M 635 ((13 + (6 * k)) + 3)) = 0 ∧ Ev none e 204 2 [some (.ref 633), some (.int (k + 1)), some (.int (13 + (6 * k))), c3] [] M v M' 0 0) := by
  have H : Ev none e 204 4 [some (.ref 633), some (.int k), c2, c3] [.ref 633, .int k] M v M' 0 0 := Ev.back 2 (fun n => rfl) H
  have H : Ev none e 204 7 [some (.ref 633), some (.int k), c2, c3] [.ref 635, .int k] M v M' 0 0 := Ev.back 1 (gs_3 rfl rfl (gf_u hS.1 qa_633 qr_61_5 qu_63 rfl)) H
  have H : Ev none e 204 9 [some (.ref 633), some (.int k), c2, c3] [.int 12, .ref 635, .int k] M v M' 0 0 := Ev.back 1 (fun n => rfl) H
  obtain ⟨b1, H⟩ := Ev.ial rfl rfl hS.1 qa_635 qw_63 H
  have H : Ev none e 204 10 [some (.ref 633), some (.int k), c2, c3] [.int (rI M 635 12), .int k] M v M' 0 0 := H
  have H : Ev none e 204 (if (rI M 635 12) ≤ k then 200 else 13) [some (.ref 633), some (.int k), c2, c3] [] M v M' 0 0 := Ev.back 1 (fun n => rfl) H
  by_cases h2 : (rI M 635 12) ≤ k
  · rw [if_pos h2] at H
    have H : Ev none e 204 202 [some (.ref 633), some (.int 0), c2, c3] [] M v M' 0 0 := Ev.back 2 (fun n => rfl) H
    have HF := H
    exact Or.inl ⟨h2, b1, HF⟩
  · rw [if_neg h2] at H
    have H : Ev none e 204 22 [some (.ref 633), some (.int k), some (.int (13 + (6 * k))), c3] [.ref 633] M v M' 0 0 := Ev.back 7 (fun n => rfl) H
    have H : Ev none e 204 25 [some (.ref 633), some (.int k), some (.int (13 + (6 * k))), c3] [.ref 635] M v M' 0 0 := Ev.back 1 (gs_3 rfl rfl (gf_u hS.1 qa_633 qr_61_5 qu_63 rfl)) H
    have H : Ev none e 204 28 [some (.ref 633), some (.int k), some (.int (13 + (6 * k))), c3] [.int ((13 + (6 * k)) + 5), .ref 635] M v M' 0 0 := Ev.back 3 (fun n => rfl) H
    obtain ⟨b3, H⟩ := Ev.ial rfl rfl hS.1 qa_635 qw_63 H
    have H : Ev none e 204 29 [some (.ref 633), some (.int k), some (.int (13 + (6 * k))), c3] [.int (rI M 635 ((13 + (6 * k)) + 5))] M v M' 0 0 := H
    have H : Ev none e 204 (if (rI M 635 ((13 + (6 * k)) + 5)) = 0 then 194 else 32) [some (.ref 633), some (.int k), some (.int (13 + (6 * k))), c3] [] M v M' 0 0 := Ev.back 1 (fun n => rfl) H
    by_cases h4 : (rI M 635 ((13 + (6 * k)) + 5)) = 0
    · rw [if_pos h4] at H
      have H : Ev none e 204 2 [some (.ref 633), some (.int (k + 1)), some (.int (13 + (6 * k))), c3] [] M v M' 0 0 := Ev.back 2 (fun n => rfl) H
      have HF := H
      exact Or.inr (Or.inl ⟨h2, h4, b1, b3, HF⟩)
    · rw [if_neg h4] at H
      have H : Ev none e 204 33 [some (.ref 633), some (.int k), some (.int (13 + (6 * k))), c3] [.ref 633] M v M' 0 0 := Ev.back 1 (fun n => rfl) H
      have H : Ev none e 204 36 [some (.ref 633), some (.int k), some (.int (13 + (6 * k))), c3] [.ref 635] M v M' 0 0 := Ev.back 1 (gs_3 rfl rfl (gf_u hS.1 qa_633 qr_61_5 qu_63 rfl)) H
      have H : Ev none e 204 39 [some (.ref 633), some (.int k), some (.int (13 + (6 * k))), c3] [.int 518, .ref 635] M v M' 0 0 := Ev.back 1 (fun n => rfl) H
      obtain ⟨b5, H⟩ := Ev.ial rfl rfl hS.1 qa_635 qw_63 H
      have H : Ev none e 204 40 [some (.ref 633), some (.int k), some (.int (13 + (6 * k))), c3] [.int (rI M 635 518)] M v M' 0 0 := H
      have H : Ev none e 204 41 [some (.ref 633), some (.int k), some (.int (13 + (6 * k))), c3] [.ref 633, .int (rI M 635 518)] M v M' 0 0 := Ev.back 1 (fun n => rfl) H
      have H : Ev none e 204 44 [some (.ref 633), some (.int k), some (.int (13 + (6 * k))), c3] [.ref 635, .int (rI M 635 518)] M v M' 0 0 := Ev.back 1 (gs_3 rfl rfl (gf_u hS.1 qa_633 qr_61_5 qu_63 rfl)) H
      have H : Ev none e 204 47 [some (.ref 633), some (.int k), some (.int (13 + (6 * k))), c3] [.int ((13 + (6 * k)) + 4), .ref 635, .int (rI M 635 518)] M v M' 0 0 := Ev.back 3 (fun n => rfl) H
      obtain ⟨b6, H⟩ := Ev.ial rfl rfl hS.1 qa_635 qw_63 H
      have H : Ev none e 204 48 [some (.ref 633), some (.int k), some (.int (13 + (6 * k))), c3] [.int (rI M 635 ((13 + (6 * k)) + 4)), .int (rI M 635 518)] M v M' 0 0 := H
      have H : Ev none e 204 (if (rI M 635 518) < (rI M 635 ((13 + (6 * k)) + 4)) then 194 else 51) [some (.ref 633), some (.int k), some (.int (13 + (6 * k))), c3] [] M v M' 0 0 := Ev.back 1 (fun n => rfl) H
      by_cases h7 : (rI M 635 518) < (rI M 635 ((13 + (6 * k)) + 4))
      · rw [if_pos h7] at H
        have H : Ev none e 204 2 [some (.ref 633), some (.int (k + 1)), some (.int (13 + (6 * k))), c3] [] M v M' 0 0 := Ev.back 2 (fun n => rfl) H
        have HF := H
        exact Or.inr (Or.inr (Or.inl ⟨h2, h4, h7, b1, b3, b5, b6, HF⟩))
      · rw [if_neg h7] at H
        have H : Ev none e 204 52 [some (.ref 633), some (.int k), some (.int (13 + (6 * k))), c3] [.ref 633] M v M' 0 0 := Ev.back 1 (fun n => rfl) H
        have H : Ev none e 204 55 [some (.ref 633), some (.int k), some (.int (13 + (6 * k))), c3] [.ref 635] M v M' 0 0 := Ev.back 1 (gs_3 rfl rfl (gf_u hS.1 qa_633 qr_61_5 qu_63 rfl)) H
        have H : Ev none e 204 58 [some (.ref 633), some (.int k), some (.int (13 + (6 * k))), c3] [.int 518, .ref 635] M v M' 0 0 := Ev.back 1 (fun n => rfl) H
        obtain ⟨b8, H⟩ := Ev.ial rfl rfl hS.1 qa_635 qw_63 H
        have H : Ev none e 204 59 [some (.ref 633), some (.int k), some (.int (13 + (6 * k))), c3] [.int (rI M 635 518)] M v M' 0 0 := H
        have H : Ev none e 204 60 [some (.ref 633), some (.int k), some (.int (13 + (6 * k))), c3] [.ref 633, .int (rI M 635 518)] M v M' 0 0 := Ev.back 1 (fun n => rfl) H
        have H : Ev none e 204 63 [some (.ref 633), some (.int k), some (.int (13 + (6 * k))), c3] [.ref 635, .int (rI M 635 518)] M v M' 0 0 := Ev.back 1 (gs_3 rfl rfl (gf_u hS.1 qa_633 qr_61_5 qu_63 rfl)) H
        have H : Ev none e 204 66 [some (.ref 633), some (.int k), some (.int (13 + (6 * k))), c3] [.int ((13 + (6 * k)) + 4), .ref 635, .int (rI M 635 518)] M v M' 0 0 := Ev.back 3 (fun n => rfl) H
        obtain ⟨b9, H⟩ := Ev.ial rfl rfl hS.1 qa_635 qw_63 H
        have H : Ev none e 204 67 [some (.ref 633), some (.int k), some (.int (13 + (6 * k))), c3] [.int (rI M 635 ((13 + (6 * k)) + 4)), .int (rI M 635 518)] M v M' 0 0 := H
        have H : Ev none e 204 69 [some (.ref 633), some (.int k), some (.int (13 + (6 * k))), c3] [.ref 633, .int ((rI M 635 518) - (rI M 635 ((13 + (6 * k)) + 4)))] M v M' 0 0 := Ev.back 2 (fun n => rfl) H
        have H : Ev none e 204 72 [some (.ref 633), some (.int k), some (.int (13 + (6 * k))), c3] [.ref 635, .int ((rI M 635 518) - (rI M 635 ((13 + (6 * k)) + 4)))] M v M' 0 0 := Ev.back 1 (gs_3 rfl rfl (gf_u hS.1 qa_633 qr_61_5 qu_63 rfl)) H
        have H : Ev none e 204 75 [some (.ref 633), some (.int k), some (.int (13 + (6 * k))), c3] [.int ((13 + (6 * k)) + 3), .ref 635, .int ((rI M 635 518) - (rI M 635 ((13 + (6 * k)) + 4)))] M v M' 0 0 := Ev.back 3 (fun n => rfl) H
        obtain ⟨b10, H⟩ := Ev.ial rfl rfl hS.1 qa_635 qw_63 H
        have H : Ev none e 204 76 [some (.ref 633), some (.int k), some (.int (13 + (6 * k))), c3] [.int (rI M 635 ((13 + (6 * k)) + 3)), .int ((rI M 635 518) - (rI M 635 ((13 + (6 * k)) + 4)))] M v M' 0 0 := H
        obtain ⟨nz11, H⟩ := rm_i H rfl rfl
        have H : Ev none e 204 77 [some (.ref 633), some (.int k), some (.int (13 + (6 * k))), c3] [.int (((rI M 635 518) - (rI M 635 ((13 + (6 * k)) + 4))) - ((rI M 635 518) - (rI M 635 ((13 + (6 * k)) + 4))) / (rI M 635 ((13 + (6 * k)) + 3)) * (rI M 635 ((13 + (6 * k)) + 3)))] M v M' 0 0 := H
        have H : Ev none e 204 (if (((rI M 635 518) - (rI M 635 ((13 + (6 * k)) + 4))) - ((rI M 635 518) - (rI M 635 ((13 + (6 * k)) + 4))) / (rI M 635 ((13 + (6 * k)) + 3)) * (rI M 635 ((13 + (6 * k)) + 3))) = 0 then 83 else 80) [some (.ref 633), some (.int k), some (.int (13 + (6 * k))), c3] [] M v M' 0 0 := Ev.back 1 (fun n => rfl) H
        by_cases h12 : (((rI M 635 518) - (rI M 635 ((13 + (6 * k)) + 4))) - ((rI M 635 518) - (rI M 635 ((13 + (6 * k)) + 4))) / (rI M 635 ((13 + (6 * k)) + 3)) * (rI M 635 ((13 + (6 * k)) + 3))) = 0
        · rw [if_pos h12] at H
          have H : Ev none e 204 84 [some (.ref 633), some (.int k), some (.int (13 + (6 * k))), c3] [.ref 633] M v M' 0 0 := Ev.back 1 (fun n => rfl) H
          have H : Ev none e 204 87 [some (.ref 633), some (.int k), some (.int (13 + (6 * k))), c3] [.ref 635] M v M' 0 0 := Ev.back 1 (gs_3 rfl rfl (gf_u hS.1 qa_633 qr_61_5 qu_63 rfl)) H
          have H : Ev none e 204 90 [some (.ref 633), some (.int k), some (.int (13 + (6 * k))), c3] [.int 157, .ref 635] M v M' 0 0 := Ev.back 1 (fun n => rfl) H
          obtain ⟨b13, H⟩ := Ev.ial rfl rfl hS.1 qa_635 qw_63 H
          have H : Ev none e 204 91 [some (.ref 633), some (.int k), some (.int (13 + (6 * k))), c3] [.int (rI M 635 157)] M v M' 0 0 := H
          have H : Ev none e 204 (if (rI M 635 157) = 60 then 96 else 111) [some (.ref 633), some (.int k), some (.int (13 + (6 * k))), c3] [] M v M' 0 0 := Ev.back 2 (fun n => rfl) H
          by_cases h14 : (rI M 635 157) = 60
          · rw [if_pos h14] at H
            have H : Ev none e 204 97 [some (.ref 633), some (.int k), some (.int (13 + (6 * k))), c3] [.ref 633] M v M' 0 0 := Ev.back 1 (fun n => rfl) H
            have H : Ev none e 204 100 [some (.ref 633), some (.int k), some (.int (13 + (6 * k))), c3] [.ref 635] M v M' 0 0 := Ev.back 1 (gs_3 rfl rfl (gf_u hS.1 qa_633 qr_61_5 qu_63 rfl)) H
            have H : Ev none e 204 104 [some (.ref 633), some (.int k), some (.int (13 + (6 * k))), c3] [.int 521, .ref 635, .int 521, .ref 635] M v M' 0 0 := Ev.back 2 (fun n => rfl) H
            obtain ⟨b15, H⟩ := Ev.ial rfl rfl hS.1 qa_635 qw_63 H
            have H : Ev none e 204 105 [some (.ref 633), some (.int k), some (.int (13 + (6 * k))), c3] [.int (rI M 635 521), .int 521, .ref 635] M v M' 0 0 := H
            have H : Ev none e 204 107 [some (.ref 633), some (.int k), some (.int (13 + (6 * k))), c3] [.int ((rI M 635 521) + 1), .int 521, .ref 635] M v M' 0 0 := Ev.back 2 (fun n => rfl) H
            obtain ⟨b16, H⟩ := Ev.ias rfl rfl hS.1 qa_635 qw_63 H
            obtain ⟨N17, eN17⟩ : ∃ N, N = (wI M 635 ((521 : Int32).toNatClampNeg) ((rI M 635 521) + 1)) := ⟨_, rfl⟩
            have hN17 : SQ N17 := by rw [eN17]; exact hS.ki
            have H : Ev none e 204 108 [some (.ref 633), some (.int k), some (.int (13 + (6 * k))), c3] [] N17 v M' 0 0 := by rw [eN17]; exact H
            have H : Ev none e 204 2 [some (.ref 633), some (.int (k + 1)), some (.int (13 + (6 * k))), c3] [] N17 v M' 0 0 := Ev.back 3 (fun n => rfl) H
            have HF := H
            subst eN17
            exact Or.inr (Or.inr (Or.inr (Or.inl ⟨h2, h4, h7, h12, h14, b1, b3, b5, b6, b8, b9, b10, nz11, b13, b15, b16, HF⟩)))
          · rw [if_neg h14] at H
            have H : Ev none e 204 117 [some (.ref 633), some (.int k), some (.int (13 + (6 * k))), c3] [.ref 633, .int 6, .int 158] M v M' 0 0 := Ev.back 3 (fun n => rfl) H
            have H : Ev none e 204 120 [some (.ref 633), some (.int k), some (.int (13 + (6 * k))), c3] [.ref 635, .int 6, .int 158] M v M' 0 0 := Ev.back 1 (gs_3 rfl rfl (gf_u hS.1 qa_633 qr_61_5 qu_63 rfl)) H
            have H : Ev none e 204 123 [some (.ref 633), some (.int k), some (.int (13 + (6 * k))), c3] [.int 157, .ref 635, .int 6, .int 158] M v M' 0 0 := Ev.back 1 (fun n => rfl) H
            obtain ⟨b18, H⟩ := Ev.ial rfl rfl hS.1 qa_635 qw_63 H
            have H : Ev none e 204 124 [some (.ref 633), some (.int k), some (.int (13 + (6 * k))), c3] [.int (rI M 635 157), .int 6, .int 158] M v M' 0 0 := H
            have H : Ev none e 204 128 [some (.ref 633), some (.int k), some (.int (13 + (6 * k))), some (.int (158 + (6 * (rI M 635 157))))] [.ref 633] M v M' 0 0 := Ev.back 4 (fun n => rfl) H
            have H : Ev none e 204 131 [some (.ref 633), some (.int k), some (.int (13 + (6 * k))), some (.int (158 + (6 * (rI M 635 157))))] [.ref 635] M v M' 0 0 := Ev.back 1 (gs_3 rfl rfl (gf_u hS.1 qa_633 qr_61_5 qu_63 rfl)) H
            have H : Ev none e 204 133 [some (.ref 633), some (.int k), some (.int (13 + (6 * k))), some (.int (158 + (6 * (rI M 635 157))))] [.ref 633, .int (158 + (6 * (rI M 635 157))), .ref 635] M v M' 0 0 := Ev.back 2 (fun n => rfl) H
            have H : Ev none e 204 136 [some (.ref 633), some (.int k), some (.int (13 + (6 * k))), some (.int (158 + (6 * (rI M 635 157))))] [.ref 635, .int (158 + (6 * (rI M 635 157))), .ref 635] M v M' 0 0 := Ev.back 1 (gs_3 rfl rfl (gf_u hS.1 qa_633 qr_61_5 qu_63 rfl)) H
            have H : Ev none e 204 138 [some (.ref 633), some (.int k), some (.int (13 + (6 * k))), some (.int (158 + (6 * (rI M 635 157))))] [.ref 633, .int 3, .ref 635, .int (158 + (6 * (rI M 635 157))), .ref 635] M v M' 0 0 := Ev.back 2 (fun n => rfl) H
            have H : Ev none e 204 141 [some (.ref 633), some (.int k), some (.int (13 + (6 * k))), some (.int (158 + (6 * (rI M 635 157))))] [.ref 635, .int 3, .ref 635, .int (158 + (6 * (rI M 635 157))), .ref 635] M v M' 0 0 := Ev.back 1 (gs_3 rfl rfl (gf_u hS.1 qa_633 qr_61_5 qu_63 rfl)) H
            have H : Ev none e 204 142 [some (.ref 633), some (.int k), some (.int (13 + (6 * k))), some (.int (158 + (6 * (rI M 635 157))))] [.int (13 + (6 * k)), .ref 635, .int 3, .ref 635, .int (158 + (6 * (rI M 635 157))), .ref 635] M v M' 0 0 := Ev.back 1 (fun n => rfl) H
            obtain ⟨b19, H⟩ := Ev.ial rfl rfl hS.1 qa_635 qw_63 H
            have H : Ev none e 204 143 [some (.ref 633), some (.int k), some (.int (13 + (6 * k))), some (.int (158 + (6 * (rI M 635 157))))] [.int (rI M 635 (13 + (6 * k))), .int 3, .ref 635, .int (158 + (6 * (rI M 635 157))), .ref 635] M v M' 0 0 := H
            have H : Ev none e 204 144 [some (.ref 633), some (.int k), some (.int (13 + (6 * k))), some (.int (158 + (6 * (rI M 635 157))))] [.int (3 + (rI M 635 (13 + (6 * k)))), .ref 635, .int (158 + (6 * (rI M 635 157))), .ref 635] M v M' 0 0 := Ev.back 1 (fun n => rfl) H
            obtain ⟨b20, H⟩ := Ev.ial rfl rfl hS.1 qa_635 qw_63 H
            have H : Ev none e 204 145 [some (.ref 633), some (.int k), some (.int (13 + (6 * k))), some (.int (158 + (6 * (rI M 635 157))))] [.int (rI M 635 (3 + (rI M 635 (13 + (6 * k))))), .int (158 + (6 * (rI M 635 157))), .ref 635] M v M' 0 0 := H
            obtain ⟨b21, H⟩ := Ev.ias rfl rfl hS.1 qa_635 qw_63 H
            obtain ⟨N22, eN22⟩ : ∃ N, N = (wI M 635 ((158 + (6 * (rI M 635 157))).toNatClampNeg) (rI M 635 (3 + (rI M 635 (13 + (6 * k)))))) := ⟨_, rfl⟩
            have hN22 : SQ N22 := by rw [eN22]; exact hS.ki
            have H : Ev none e 204 146 [some (.ref 633), some (.int k), some (.int (13 + (6 * k))), some (.int (158 + (6 * (rI M 635 157))))] [] N22 v M' 0 0 := by rw [eN22]; exact H
            have H : Ev none e 204 147 [some (.ref 633), some (.int k), some (.int (13 + (6 * k))), some (.int (158 + (6 * (rI M 635 157))))] [.ref 633] N22 v M' 0 0 := Ev.back 1 (fun n => rfl) H
            have H : Ev none e 204 150 [some (.ref 633), some (.int k), some (.int (13 + (6 * k))), some (.int (158 + (6 * (rI M 635 157))))] [.ref 635] N22 v M' 0 0 := Ev.back 1 (gs_3 rfl rfl (gf_u hN22.1 qa_633 qr_61_5 qu_63 rfl)) H
            have H : Ev none e 204 154 [some (.ref 633), some (.int k), some (.int (13 + (6 * k))), some (.int (158 + (6 * (rI M 635 157))))] [.int k, .int ((158 + (6 * (rI M 635 157))) + 1), .ref 635] N22 v M' 0 0 := Ev.back 4 (fun n => rfl) H
            obtain ⟨b23, H⟩ := Ev.ias rfl rfl hN22.1 qa_635 qw_63 H
            obtain ⟨N24, eN24⟩ : ∃ N, N = (wI N22 635 (((158 + (6 * (rI M 635 157))) + 1).toNatClampNeg) k) := ⟨_, rfl⟩
            have hN24 : SQ N24 := by rw [eN24]; exact hN22.ki
            have H : Ev none e 204 155 [some (.ref 633), some (.int k), some (.int (13 + (6 * k))), some (.int (158 + (6 * (rI M 635 157))))] [] N24 v M' 0 0 := by rw [eN24]; exact H
            have H : Ev none e 204 156 [some (.ref 633), some (.int k), some (.int (13 + (6 * k))), some (.int (158 + (6 * (rI M 635 157))))] [.ref 633] N24 v M' 0 0 := Ev.back 1 (fun n => rfl) H
            have H : Ev none e 204 159 [some (.ref 633), some (.int k), some (.int (13 + (6 * k))), some (.int (158 + (6 * (rI M 635 157))))] [.ref 635] N24 v M' 0 0 := Ev.back 1 (gs_3 rfl rfl (gf_u hN24.1 qa_633 qr_61_5 qu_63 rfl)) H
            have H : Ev none e 204 163 [some (.ref 633), some (.int k), some (.int (13 + (6 * k))), some (.int (158 + (6 * (rI M 635 157))))] [.int 0, .int ((158 + (6 * (rI M 635 157))) + 2), .ref 635] N24 v M' 0 0 := Ev.back 4 (fun n => rfl) H
            obtain ⟨b25, H⟩ := Ev.ias rfl rfl hN24.1 qa_635 qw_63 H
            obtain ⟨N26, eN26⟩ : ∃ N, N = (wI N24 635 (((158 + (6 * (rI M 635 157))) + 2).toNatClampNeg) 0) := ⟨_, rfl⟩
            have hN26 : SQ N26 := by rw [eN26]; exact hN24.ki
            have H : Ev none e 204 164 [some (.ref 633), some (.int k), some (.int (13 + (6 * k))), some (.int (158 + (6 * (rI M 635 157))))] [] N26 v M' 0 0 := by rw [eN26]; exact H
            have H : Ev none e 204 165 [some (.ref 633), some (.int k), some (.int (13 + (6 * k))), some (.int (158 + (6 * (rI M 635 157))))] [.ref 633] N26 v M' 0 0 := Ev.back 1 (fun n => rfl) H
            have H : Ev none e 204 168 [some (.ref 633), some (.int k), some (.int (13 + (6 * k))), some (.int (158 + (6 * (rI M 635 157))))] [.ref 635] N26 v M' 0 0 := Ev.back 1 (gs_3 rfl rfl (gf_u hN26.1 qa_633 qr_61_5 qu_63 rfl)) H
            have H : Ev none e 204 172 [some (.ref 633), some (.int k), some (.int (13 + (6 * k))), some (.int (158 + (6 * (rI M 635 157))))] [.int (-1), .int ((158 + (6 * (rI M 635 157))) + 3), .ref 635] N26 v M' 0 0 := Ev.back 4 (fun n => rfl) H
            obtain ⟨b27, H⟩ := Ev.ias rfl rfl hN26.1 qa_635 qw_63 H
            obtain ⟨N28, eN28⟩ : ∃ N, N = (wI N26 635 (((158 + (6 * (rI M 635 157))) + 3).toNatClampNeg) (-1)) := ⟨_, rfl⟩
            have hN28 : SQ N28 := by rw [eN28]; exact hN26.ki
            have H : Ev none e 204 173 [some (.ref 633), some (.int k), some (.int (13 + (6 * k))), some (.int (158 + (6 * (rI M 635 157))))] [] N28 v M' 0 0 := by rw [eN28]; exact H
            have H : Ev none e 204 174 [some (.ref 633), some (.int k), some (.int (13 + (6 * k))), some (.int (158 + (6 * (rI M 635 157))))] [.ref 633] N28 v M' 0 0 := Ev.back 1 (fun n => rfl) H
            have H : Ev none e 204 177 [some (.ref 633), some (.int k), some (.int (13 + (6 * k))), some (.int (158 + (6 * (rI M 635 157))))] [.ref 635] N28 v M' 0 0 := Ev.back 1 (gs_3 rfl rfl (gf_u hN28.1 qa_633 qr_61_5 qu_63 rfl)) H
            have H : Ev none e 204 181 [some (.ref 633), some (.int k), some (.int (13 + (6 * k))), some (.int (158 + (6 * (rI M 635 157))))] [.int (-1), .int ((158 + (6 * (rI M 635 157))) + 4), .ref 635] N28 v M' 0 0 := Ev.back 4 (fun n => rfl) H
            obtain ⟨b29, H⟩ := Ev.ias rfl rfl hN28.1 qa_635 qw_63 H
            obtain ⟨N30, eN30⟩ : ∃ N, N = (wI N28 635 (((158 + (6 * (rI M 635 157))) + 4).toNatClampNeg) (-1)) := ⟨_, rfl⟩
            have hN30 : SQ N30 := by rw [eN30]; exact hN28.ki
            have H : Ev none e 204 182 [some (.ref 633), some (.int k), some (.int (13 + (6 * k))), some (.int (158 + (6 * (rI M 635 157))))] [] N30 v M' 0 0 := by rw [eN30]; exact H
            have H : Ev none e 204 183 [some (.ref 633), some (.int k), some (.int (13 + (6 * k))), some (.int (158 + (6 * (rI M 635 157))))] [.ref 633] N30 v M' 0 0 := Ev.back 1 (fun n => rfl) H
            have H : Ev none e 204 186 [some (.ref 633), some (.int k), some (.int (13 + (6 * k))), some (.int (158 + (6 * (rI M 635 157))))] [.ref 635] N30 v M' 0 0 := Ev.back 1 (gs_3 rfl rfl (gf_u hN30.1 qa_633 qr_61_5 qu_63 rfl)) H
            have H : Ev none e 204 190 [some (.ref 633), some (.int k), some (.int (13 + (6 * k))), some (.int (158 + (6 * (rI M 635 157))))] [.int 157, .ref 635, .int 157, .ref 635] N30 v M' 0 0 := Ev.back 2 (fun n => rfl) H
            obtain ⟨b31, H⟩ := Ev.ial rfl rfl hN30.1 qa_635 qw_63 H
            have H : Ev none e 204 191 [some (.ref 633), some (.int k), some (.int (13 + (6 * k))), some (.int (158 + (6 * (rI M 635 157))))] [.int (rI N30 635 157), .int 157, .ref 635] N30 v M' 0 0 := H
            have H : Ev none e 204 193 [some (.ref 633), some (.int k), some (.int (13 + (6 * k))), some (.int (158 + (6 * (rI M 635 157))))] [.int ((rI N30 635 157) + 1), .int 157, .ref 635] N30 v M' 0 0 := Ev.back 2 (fun n => rfl) H
            obtain ⟨b32, H⟩ := Ev.ias rfl rfl hN30.1 qa_635 qw_63 H
            obtain ⟨N33, eN33⟩ : ∃ N, N = (wI N30 635 ((157 : Int32).toNatClampNeg) ((rI N30 635 157) + 1)) := ⟨_, rfl⟩
            have hN33 : SQ N33 := by rw [eN33]; exact hN30.ki
            have H : Ev none e 204 194 [some (.ref 633), some (.int k), some (.int (13 + (6 * k))), some (.int (158 + (6 * (rI M 635 157))))] [] N33 v M' 0 0 := by rw [eN33]; exact H
            have H : Ev none e 204 2 [some (.ref 633), some (.int (k + 1)), some (.int (13 + (6 * k))), some (.int (158 + (6 * (rI M 635 157))))] [] N33 v M' 0 0 := Ev.back 2 (fun n => rfl) H
            have HF := H
            subst eN22 eN24 eN26 eN28 eN30 eN33
            exact Or.inr (Or.inr (Or.inr (Or.inr (Or.inl ⟨h2, h4, h7, h12, h14, b1, b3, b5, b6, b8, b9, b10, nz11, b13, b18, b19, b20, b21, b23, b25, b27, b29, b31, b32, HF⟩))))
        · rw [if_neg h12] at H
          have H : Ev none e 204 2 [some (.ref 633), some (.int (k + 1)), some (.int (13 + (6 * k))), c3] [] M v M' 0 0 := Ev.back 3 (fun n => rfl) H
          have HF := H
          exact Or.inr (Or.inr (Or.inr (Or.inr (Or.inr (⟨h2, h4, h7, h12, b1, b3, b5, b6, b8, b9, b10, nz11, HF⟩)))))
theorem rtk_202 {e : Nat} {M M' : Mem} {v : Option Value} {k : Int32} {c2 c3 : Option Value} (hS : SQ M) (H : Ev none e 204 202 [some (.ref 633), some (.int k), c2, c3] [] M v M' 0 0) : ((rI M 635 157) ≤ k ∧ (0 ≤ (157 : Int32).toInt ∧ (157 : Int32).toInt < 2314) ∧ (0 ≤ (518 : Int32).toInt ∧ (518 : Int32).toInt < 2314) ∧ (0 ≤ (518 : Int32).toInt ∧ (518 : Int32).toInt < 2314) ∧ v = none ∧ M' = (wI M 635 ((518 : Int32).toNatClampNeg) ((rI M 635 518) + 1))) ∨ (¬ ((rI M 635 157) ≤ k) ∧ (0 ≤ (157 : Int32).toInt ∧ (157 : Int32).toInt < 2314) ∧ (∃ e1 v1 M1, e = e1 + 1 ∧ Ev none e1 206 0 [some (.ref 633), some (.int (158 + (6 * k))), none, none] [] M v1 M1 0 0 ∧ Ev none e 204 226 [some (.ref 633), some (.int k), c2, c3] (v1.toList ++ []) M1 v M' 0 0)) := by
  have H : Ev none e 204 204 [some (.ref 633), some (.int k), c2, c3] [.ref 633, .int k] M v M' 0 0 := Ev.back 2 (fun n => rfl) H
  have H : Ev none e 204 207 [some (.ref 633), some (.int k), c2, c3] [.ref 635, .int k] M v M' 0 0 := Ev.back 1 (gs_3 rfl rfl (gf_u hS.1 qa_633 qr_61_5 qu_63 rfl)) H
  have H : Ev none e 204 210 [some (.ref 633), some (.int k), c2, c3] [.int 157, .ref 635, .int k] M v M' 0 0 := Ev.back 1 (fun n => rfl) H
  obtain ⟨b1, H⟩ := Ev.ial rfl rfl hS.1 qa_635 qw_63 H
  have H : Ev none e 204 211 [some (.ref 633), some (.int k), c2, c3] [.int (rI M 635 157), .int k] M v M' 0 0 := H
  have H : Ev none e 204 (if (rI M 635 157) ≤ k then 243 else 214) [some (.ref 633), some (.int k), c2, c3] [] M v M' 0 0 := Ev.back 1 (fun n => rfl) H
  by_cases h2 : (rI M 635 157) ≤ k
  · rw [if_pos h2] at H
    have H : Ev none e 204 244 [some (.ref 633), some (.int k), c2, c3] [.ref 633] M v M' 0 0 := Ev.back 1 (fun n => rfl) H
    have H : Ev none e 204 247 [some (.ref 633), some (.int k), c2, c3] [.ref 635] M v M' 0 0 := Ev.back 1 (gs_3 rfl rfl (gf_u hS.1 qa_633 qr_61_5 qu_63 rfl)) H
    have H : Ev none e 204 251 [some (.ref 633), some (.int k), c2, c3] [.int 518, .ref 635, .int 518, .ref 635] M v M' 0 0 := Ev.back 2 (fun n => rfl) H
    obtain ⟨b3, H⟩ := Ev.ial rfl rfl hS.1 qa_635 qw_63 H
    have H : Ev none e 204 252 [some (.ref 633), some (.int k), c2, c3] [.int (rI M 635 518), .int 518, .ref 635] M v M' 0 0 := H
    have H : Ev none e 204 254 [some (.ref 633), some (.int k), c2, c3] [.int ((rI M 635 518) + 1), .int 518, .ref 635] M v M' 0 0 := Ev.back 2 (fun n => rfl) H
    obtain ⟨b4, H⟩ := Ev.ias rfl rfl hS.1 qa_635 qw_63 H
    obtain ⟨N5, eN5⟩ : ∃ N, N = (wI M 635 ((518 : Int32).toNatClampNeg) ((rI M 635 518) + 1)) := ⟨_, rfl⟩
    have hN5 : SQ N5 := by rw [eN5]; exact hS.ki
    have H : Ev none e 204 255 [some (.ref 633), some (.int k), c2, c3] [] N5 v M' 0 0 := by rw [eN5]; exact H
    obtain ⟨z1, z2⟩ := Ev.retb (fun n => rfl) H
    subst eN5
    exact Or.inl ⟨h2, b1, b3, b4, z1, z2⟩
  · rw [if_neg h2] at H
    have H : Ev none e 204 223 [some (.ref 633), some (.int k), c2, c3] [.int (158 + (6 * k)), .ref 633] M v M' 0 0 := Ev.back 6 (fun n => rfl) H
    obtain ⟨e1, rfl⟩ := Ev.dpos rfl rfl H
    obtain ⟨vK6, MK6, K6, H⟩ := Ev.callb (fun n_ => gs_7 rfl rfl (show gCal (.invokevirtual 408) 11 (.int (158 + (6 * k)) :: .ref 633 :: []) M = some (.inr (206, [some (.ref 633), some (.int (158 + (6 * k))), none, none], [])) from by show @cond (Option ((List Value × Mem) ⊕ (Nat × Lo × List Value))) (true && gRecv M (.ref 633) 11 && gRoom [] && true) (some (.inr (206, [some (.ref 633), some (.int (158 + (6 * k))), none, none], []))) none = _; rw [recv_s hS.1 qa_633 qo_61]; rfl)) H
    have K6 : Ev none e1 206 0 [some (.ref 633), some (.int (158 + (6 * k))), none, none] [] M vK6 MK6 0 0 := K6
    have HF := H
    exact Or.inr (⟨h2, b1, ⟨e1, vK6, MK6, rfl, K6, HF⟩⟩)
theorem rtk_226 {e : Nat} {M M' : Mem} {v : Option Value} {k y : Int32} {c2 c3 : Option Value} (hS : SQ M) (H : Ev none e 204 226 [some (.ref 633), some (.int k), c2, c3] [.int y] M v M' 0 0) : (y = 0 ∧ (∃ e1 v1 M1, e = e1 + 1 ∧ Ev none e1 205 0 [some (.ref 633), some (.int k), none] [] M v1 M1 0 0 ∧ Ev none e 204 240 [some (.ref 633), some (.int k), c2, c3] (v1.toList ++ []) M1 v M' 0 0)) ∨ (¬ (y = 0) ∧ Ev none e 204 202 [some (.ref 633), some (.int (k + 1)), c2, c3] [] M v M' 0 0) := by
  have H : Ev none e 204 (if y = 0 then 235 else 229) [some (.ref 633), some (.int k), c2, c3] [] M v M' 0 0 := Ev.back 1 (fun n => rfl) H
  by_cases h1 : y = 0
  · rw [if_pos h1] at H
    have H : Ev none e 204 237 [some (.ref 633), some (.int k), c2, c3] [.int k, .ref 633] M v M' 0 0 := Ev.back 2 (fun n => rfl) H
    obtain ⟨e1, rfl⟩ := Ev.dpos rfl rfl H
    obtain ⟨vK2, MK2, K2, H⟩ := Ev.callb (fun n_ => gs_7 rfl rfl (show gCal (.invokevirtual 411) 11 (.int k :: .ref 633 :: []) M = some (.inr (205, [some (.ref 633), some (.int k), none], [])) from by show @cond (Option ((List Value × Mem) ⊕ (Nat × Lo × List Value))) (true && gRecv M (.ref 633) 11 && gRoom [] && true) (some (.inr (205, [some (.ref 633), some (.int k), none], []))) none = _; rw [recv_s hS.1 qa_633 qo_61]; rfl)) H
    have K2 : Ev none e1 205 0 [some (.ref 633), some (.int k), none] [] M vK2 MK2 0 0 := K2
    have HF := H
    exact Or.inl ⟨h1, ⟨e1, vK2, MK2, rfl, K2, HF⟩⟩
  · rw [if_neg h1] at H
    have H : Ev none e 204 202 [some (.ref 633), some (.int (k + 1)), c2, c3] [] M v M' 0 0 := Ev.back 2 (fun n => rfl) H
    have HF := H
    exact Or.inr (⟨h1, HF⟩)
theorem rtk_240 {e : Nat} {M M' : Mem} {v : Option Value} {k : Int32} {c2 c3 : Option Value} (hS : SQ M) (H : Ev none e 204 240 [some (.ref 633), some (.int k), c2, c3] [] M v M' 0 0) : Ev none e 204 202 [some (.ref 633), some (.int k), c2, c3] [] M v M' 0 0 := by
  have H : Ev none e 204 202 [some (.ref 633), some (.int k), c2, c3] [] M v M' 0 0 := Ev.back 1 (fun n => rfl) H
  have HF := H
  exact HF
theorem rle_0 {e : Nat} {M M' : Mem} {v : Option Value} {k : Int32} (hS : SQ M) (H : Ev none e 205 0 [some (.ref 633), some (.int k), none] [] M v M' 0 0) : (0 ≤ (157 : Int32).toInt ∧ (157 : Int32).toInt < 2314) ∧ (0 ≤ (157 : Int32).toInt ∧ (157 : Int32).toInt < 2314) ∧ Ev none e 205 21 [some (.ref 633), some (.int k), some (.int (158 + (6 * k)))] [] (wI M 635 ((157 : Int32).toNatClampNeg) ((rI M 635 157) - 1)) v M' 0 0 := by
  have H : Ev none e 205 1 [some (.ref 633), some (.int k), none] [.ref 633] M v M' 0 0 := Ev.back 1 (fun n => rfl) H
  have H : Ev none e 205 4 [some (.ref 633), some (.int k), none] [.ref 635] M v M' 0 0 := Ev.back 1 (gs_3 rfl rfl (gf_u hS.1 qa_633 qr_61_5 qu_63 rfl)) H
  have H : Ev none e 205 8 [some (.ref 633), some (.int k), none] [.int 157, .ref 635, .int 157, .ref 635] M v M' 0 0 := Ev.back 2 (fun n => rfl) H
  obtain ⟨b1, H⟩ := Ev.ial rfl rfl hS.1 qa_635 qw_63 H
  have H : Ev none e 205 9 [some (.ref 633), some (.int k), none] [.int (rI M 635 157), .int 157, .ref 635] M v M' 0 0 := H
  have H : Ev none e 205 11 [some (.ref 633), some (.int k), none] [.int ((rI M 635 157) - 1), .int 157, .ref 635] M v M' 0 0 := Ev.back 2 (fun n => rfl) H
  obtain ⟨b2, H⟩ := Ev.ias rfl rfl hS.1 qa_635 qw_63 H
  obtain ⟨N3, eN3⟩ : ∃ N, N = (wI M 635 ((157 : Int32).toNatClampNeg) ((rI M 635 157) - 1)) := ⟨_, rfl⟩
  have hN3 : SQ N3 := by rw [eN3]; exact hS.ki
  have H : Ev none e 205 12 [some (.ref 633), some (.int k), none] [] N3 v M' 0 0 := by rw [eN3]; exact H
  have H : Ev none e 205 21 [some (.ref 633), some (.int k), some (.int (158 + (6 * k)))] [] N3 v M' 0 0 := Ev.back 6 (fun n => rfl) H
  have HF := H
  subst eN3
  exact ⟨b1, b2, HF⟩
theorem rle_21 {e : Nat} {M M' : Mem} {v : Option Value} {k i : Int32} (hS : SQ M) (H : Ev none e 205 21 [some (.ref 633), some (.int k), some (.int i)] [] M v M' 0 0) : ((158 + (6 * (rI M 635 157))) ≤ i ∧ (0 ≤ (157 : Int32).toInt ∧ (157 : Int32).toInt < 2314) ∧ (0 ≤ (157 : Int32).toInt ∧ (157 : Int32).toInt < 2314) ∧ Ev none e 205 77 [some (.ref 633), some (.int k), some (.int (158 + (6 * (rI M 635 157))))] [] M v M' 0 0) ∨ (¬ ((158 + (6 * (rI M 635 157))) ≤ i) ∧ (0 ≤ (157 : Int32).toInt ∧ (157 : Int32).toInt < 2314) ∧ (0 ≤ (i + 6).toInt ∧ (i + 6).toInt < 2314) ∧ (0 ≤ i.toInt ∧ i.toInt < 2314) ∧ Ev none e 205 21 [some (.ref 633), some (.int k), some (.int (i + 1))] [] (wI M 635 i.toNatClampNeg (rI M 635 (i + 6))) v M' 0 0) := by
  have H : Ev none e 205 28 [some (.ref 633), some (.int k), some (.int i)] [.ref 633, .int 6, .int 158, .int i] M v M' 0 0 := Ev.back 4 (fun n => rfl) H
  have H : Ev none e 205 31 [some (.ref 633), some (.int k), some (.int i)] [.ref 635, .int 6, .int 158, .int i] M v M' 0 0 := Ev.back 1 (gs_3 rfl rfl (gf_u hS.1 qa_633 qr_61_5 qu_63 rfl)) H
  have H : Ev none e 205 34 [some (.ref 633), some (.int k), some (.int i)] [.int 157, .ref 635, .int 6, .int 158, .int i] M v M' 0 0 := Ev.back 1 (fun n => rfl) H
  obtain ⟨b1, H⟩ := Ev.ial rfl rfl hS.1 qa_635 qw_63 H
  have H : Ev none e 205 35 [some (.ref 633), some (.int k), some (.int i)] [.int (rI M 635 157), .int 6, .int 158, .int i] M v M' 0 0 := H
  have H : Ev none e 205 (if (158 + (6 * (rI M 635 157))) ≤ i then 61 else 40) [some (.ref 633), some (.int k), some (.int i)] [] M v M' 0 0 := Ev.back 3 (fun n => rfl) H
  by_cases h2 : (158 + (6 * (rI M 635 157))) ≤ i
  · rw [if_pos h2] at H
    have H : Ev none e 205 67 [some (.ref 633), some (.int k), some (.int i)] [.ref 633, .int 6, .int 158] M v M' 0 0 := Ev.back 3 (fun n => rfl) H
    have H : Ev none e 205 70 [some (.ref 633), some (.int k), some (.int i)] [.ref 635, .int 6, .int 158] M v M' 0 0 := Ev.back 1 (gs_3 rfl rfl (gf_u hS.1 qa_633 qr_61_5 qu_63 rfl)) H
    have H : Ev none e 205 73 [some (.ref 633), some (.int k), some (.int i)] [.int 157, .ref 635, .int 6, .int 158] M v M' 0 0 := Ev.back 1 (fun n => rfl) H
    obtain ⟨b3, H⟩ := Ev.ial rfl rfl hS.1 qa_635 qw_63 H
    have H : Ev none e 205 74 [some (.ref 633), some (.int k), some (.int i)] [.int (rI M 635 157), .int 6, .int 158] M v M' 0 0 := H
    have H : Ev none e 205 77 [some (.ref 633), some (.int k), some (.int (158 + (6 * (rI M 635 157))))] [] M v M' 0 0 := Ev.back 3 (fun n => rfl) H
    have HF := H
    exact Or.inl ⟨h2, b1, b3, HF⟩
  · rw [if_neg h2] at H
    have H : Ev none e 205 41 [some (.ref 633), some (.int k), some (.int i)] [.ref 633] M v M' 0 0 := Ev.back 1 (fun n => rfl) H
    have H : Ev none e 205 44 [some (.ref 633), some (.int k), some (.int i)] [.ref 635] M v M' 0 0 := Ev.back 1 (gs_3 rfl rfl (gf_u hS.1 qa_633 qr_61_5 qu_63 rfl)) H
    have H : Ev none e 205 46 [some (.ref 633), some (.int k), some (.int i)] [.ref 633, .int i, .ref 635] M v M' 0 0 := Ev.back 2 (fun n => rfl) H
    have H : Ev none e 205 49 [some (.ref 633), some (.int k), some (.int i)] [.ref 635, .int i, .ref 635] M v M' 0 0 := Ev.back 1 (gs_3 rfl rfl (gf_u hS.1 qa_633 qr_61_5 qu_63 rfl)) H
    have H : Ev none e 205 53 [some (.ref 633), some (.int k), some (.int i)] [.int (i + 6), .ref 635, .int i, .ref 635] M v M' 0 0 := Ev.back 3 (fun n => rfl) H
    obtain ⟨b4, H⟩ := Ev.ial rfl rfl hS.1 qa_635 qw_63 H
    have H : Ev none e 205 54 [some (.ref 633), some (.int k), some (.int i)] [.int (rI M 635 (i + 6)), .int i, .ref 635] M v M' 0 0 := H
    obtain ⟨b5, H⟩ := Ev.ias rfl rfl hS.1 qa_635 qw_63 H
    obtain ⟨N6, eN6⟩ : ∃ N, N = (wI M 635 i.toNatClampNeg (rI M 635 (i + 6))) := ⟨_, rfl⟩
    have hN6 : SQ N6 := by rw [eN6]; exact hS.ki
    have H : Ev none e 205 55 [some (.ref 633), some (.int k), some (.int i)] [] N6 v M' 0 0 := by rw [eN6]; exact H
    have H : Ev none e 205 21 [some (.ref 633), some (.int k), some (.int (i + 1))] [] N6 v M' 0 0 := Ev.back 2 (fun n => rfl) H
    have HF := H
    subst eN6
    exact Or.inr (⟨h2, b1, b4, b5, HF⟩)
theorem rle_77 {e : Nat} {M M' : Mem} {v : Option Value} {k i : Int32} (hS : SQ M) (H : Ev none e 205 77 [some (.ref 633), some (.int k), some (.int i)] [] M v M' 0 0) : (((158 + (6 * (rI M 635 157))) + 6) ≤ i ∧ (0 ≤ (157 : Int32).toInt ∧ (157 : Int32).toInt < 2314) ∧ v = none ∧ M' = M) ∨ (¬ (((158 + (6 * (rI M 635 157))) + 6) ≤ i) ∧ (0 ≤ (157 : Int32).toInt ∧ (157 : Int32).toInt < 2314) ∧ (0 ≤ i.toInt ∧ i.toInt < 2314) ∧ Ev none e 205 77 [some (.ref 633), some (.int k), some (.int (i + 1))] [] (wI M 635 i.toNatClampNeg 0) v M' 0 0) := by
  have H : Ev none e 205 84 [some (.ref 633), some (.int k), some (.int i)] [.ref 633, .int 6, .int 158, .int i] M v M' 0 0 := Ev.back 4 (fun n => rfl) H
  have H : Ev none e 205 87 [some (.ref 633), some (.int k), some (.int i)] [.ref 635, .int 6, .int 158, .int i] M v M' 0 0 := Ev.back 1 (gs_3 rfl rfl (gf_u hS.1 qa_633 qr_61_5 qu_63 rfl)) H
  have H : Ev none e 205 90 [some (.ref 633), some (.int k), some (.int i)] [.int 157, .ref 635, .int 6, .int 158, .int i] M v M' 0 0 := Ev.back 1 (fun n => rfl) H
  obtain ⟨b1, H⟩ := Ev.ial rfl rfl hS.1 qa_635 qw_63 H
  have H : Ev none e 205 91 [some (.ref 633), some (.int k), some (.int i)] [.int (rI M 635 157), .int 6, .int 158, .int i] M v M' 0 0 := H
  have H : Ev none e 205 (if ((158 + (6 * (rI M 635 157))) + 6) ≤ i then 112 else 99) [some (.ref 633), some (.int k), some (.int i)] [] M v M' 0 0 := Ev.back 5 (fun n => rfl) H
  by_cases h2 : ((158 + (6 * (rI M 635 157))) + 6) ≤ i
  · rw [if_pos h2] at H
    obtain ⟨z1, z2⟩ := Ev.retb (fun n => rfl) H
    exact Or.inl ⟨h2, b1, z1, z2⟩
  · rw [if_neg h2] at H
    have H : Ev none e 205 100 [some (.ref 633), some (.int k), some (.int i)] [.ref 633] M v M' 0 0 := Ev.back 1 (fun n => rfl) H
    have H : Ev none e 205 103 [some (.ref 633), some (.int k), some (.int i)] [.ref 635] M v M' 0 0 := Ev.back 1 (gs_3 rfl rfl (gf_u hS.1 qa_633 qr_61_5 qu_63 rfl)) H
    have H : Ev none e 205 105 [some (.ref 633), some (.int k), some (.int i)] [.int 0, .int i, .ref 635] M v M' 0 0 := Ev.back 2 (fun n => rfl) H
    obtain ⟨b3, H⟩ := Ev.ias rfl rfl hS.1 qa_635 qw_63 H
    obtain ⟨N4, eN4⟩ : ∃ N, N = (wI M 635 i.toNatClampNeg 0) := ⟨_, rfl⟩
    have hN4 : SQ N4 := by rw [eN4]; exact hS.ki
    have H : Ev none e 205 106 [some (.ref 633), some (.int k), some (.int i)] [] N4 v M' 0 0 := by rw [eN4]; exact H
    have H : Ev none e 205 77 [some (.ref 633), some (.int k), some (.int (i + 1))] [] N4 v M' 0 0 := Ev.back 2 (fun n => rfl) H
    have HF := H
    subst eN4
    exact Or.inr (⟨h2, b1, b3, HF⟩)
theorem rgo_0 {e : Nat} {M M' : Mem} {v : Option Value} {ww : Int32} (hS : SQ M) (H : Ev none e 206 0 [some (.ref 633), some (.int ww), none, none] [] M v M' 0 0) : (0 ≤ (ww + 1).toInt ∧ (ww + 1).toInt < 2314) ∧ (0 ≤ ww.toInt ∧ ww.toInt < 2314) ∧ (0 ≤ ((13 + (6 * (rI M 635 (ww + 1)))) + 1).toInt ∧ ((13 + (6 * (rI M 635 (ww + 1)))) + 1).toInt < 2314) ∧ (0 ≤ (3 + (rI M 635 ((13 + (6 * (rI M 635 (ww + 1)))) + 1))).toInt ∧ (3 + (rI M 635 ((13 + (6 * (rI M 635 (ww + 1)))) + 1))).toInt < 2314) ∧ (0 ≤ ((13 + (6 * (rI M 635 (ww + 1)))) + 2).toInt ∧ ((13 + (6 * (rI M 635 (ww + 1)))) + 2).toInt < 2314) ∧ (0 ≤ (ww + 3).toInt ∧ (ww + 3).toInt < 2314) ∧ (0 ≤ (ww + 4).toInt ∧ (ww + 4).toInt < 2314) ∧ (∃ e1 v1 M1, e = e1 + 1 ∧ Ev none e1 202 0 [some (.ref 633), none, none, none, none, none] [] (wF (wF (wF (wF (wF (wF M 633 34 (rI M 635 ww)) 633 35 (rI M 635 (3 + (rI M 635 ((13 + (6 * (rI M 635 (ww + 1)))) + 1))))) 633 36 (1 + (rI M 635 ((13 + (6 * (rI M 635 (ww + 1)))) + 2)))) 633 37 (rI M 635 (ww + 3))) 633 38 (rI M 635 (ww + 4))) 633 39 0) v1 M1 0 0 ∧ Ev none e 206 91 [some (.ref 633), some (.int ww), some (.int (13 + (6 * (rI M 635 (ww + 1))))), none] (v1.toList ++ []) M1 v M' 0 0) := by
  have H : Ev none e 206 5 [some (.ref 633), some (.int ww), none, none] [.ref 633, .int 6, .int 13] M v M' 0 0 := Ev.back 3 (fun n => rfl) H
  have H : Ev none e 206 8 [some (.ref 633), some (.int ww), none, none] [.ref 635, .int 6, .int 13] M v M' 0 0 := Ev.back 1 (gs_3 rfl rfl (gf_u hS.1 qa_633 qr_61_5 qu_63 rfl)) H
  have H : Ev none e 206 11 [some (.ref 633), some (.int ww), none, none] [.int (ww + 1), .ref 635, .int 6, .int 13] M v M' 0 0 := Ev.back 3 (fun n => rfl) H
  obtain ⟨b1, H⟩ := Ev.ial rfl rfl hS.1 qa_635 qw_63 H
  have H : Ev none e 206 12 [some (.ref 633), some (.int ww), none, none] [.int (rI M 635 (ww + 1)), .int 6, .int 13] M v M' 0 0 := H
  have H : Ev none e 206 17 [some (.ref 633), some (.int ww), some (.int (13 + (6 * (rI M 635 (ww + 1))))), none] [.ref 633, .ref 633] M v M' 0 0 := Ev.back 5 (fun n => rfl) H
  have H : Ev none e 206 20 [some (.ref 633), some (.int ww), some (.int (13 + (6 * (rI M 635 (ww + 1))))), none] [.ref 635, .ref 633] M v M' 0 0 := Ev.back 1 (gs_3 rfl rfl (gf_u hS.1 qa_633 qr_61_5 qu_63 rfl)) H
  have H : Ev none e 206 21 [some (.ref 633), some (.int ww), some (.int (13 + (6 * (rI M 635 (ww + 1))))), none] [.int ww, .ref 635, .ref 633] M v M' 0 0 := Ev.back 1 (fun n => rfl) H
  obtain ⟨b2, H⟩ := Ev.ial rfl rfl hS.1 qa_635 qw_63 H
  have H : Ev none e 206 22 [some (.ref 633), some (.int ww), some (.int (13 + (6 * (rI M 635 (ww + 1))))), none] [.int (rI M 635 ww), .ref 633] M v M' 0 0 := H
  obtain ⟨N4, eN4⟩ : ∃ N, N = (wF M 633 34 (rI M 635 ww)) := ⟨_, rfl⟩
  have hN4 : SQ N4 := by rw [eN4]; exact hS.kf
  have H : Ev none e 206 25 [some (.ref 633), some (.int ww), some (.int (13 + (6 * (rI M 635 (ww + 1))))), none] [] N4 v M' 0 0 := by rw [eN4]; exact Ev.pfi rfl rfl rfl hS.1 qa_633 qi_61_34 H
  have H : Ev none e 206 27 [some (.ref 633), some (.int ww), some (.int (13 + (6 * (rI M 635 (ww + 1))))), none] [.ref 633, .ref 633] N4 v M' 0 0 := Ev.back 2 (fun n => rfl) H
  have H : Ev none e 206 30 [some (.ref 633), some (.int ww), some (.int (13 + (6 * (rI M 635 (ww + 1))))), none] [.ref 635, .ref 633] N4 v M' 0 0 := Ev.back 1 (gs_3 rfl rfl (gf_u hN4.1 qa_633 qr_61_5 qu_63 rfl)) H
  have H : Ev none e 206 32 [some (.ref 633), some (.int ww), some (.int (13 + (6 * (rI M 635 (ww + 1))))), none] [.ref 633, .int 3, .ref 635, .ref 633] N4 v M' 0 0 := Ev.back 2 (fun n => rfl) H
  have H : Ev none e 206 35 [some (.ref 633), some (.int ww), some (.int (13 + (6 * (rI M 635 (ww + 1))))), none] [.ref 635, .int 3, .ref 635, .ref 633] N4 v M' 0 0 := Ev.back 1 (gs_3 rfl rfl (gf_u hN4.1 qa_633 qr_61_5 qu_63 rfl)) H
  have H : Ev none e 206 38 [some (.ref 633), some (.int ww), some (.int (13 + (6 * (rI M 635 (ww + 1))))), none] [.int ((13 + (6 * (rI M 635 (ww + 1)))) + 1), .ref 635, .int 3, .ref 635, .ref 633] N4 v M' 0 0 := Ev.back 3 (fun n => rfl) H
  obtain ⟨b5, H⟩ := Ev.ial rfl rfl hN4.1 qa_635 qw_63 H
  have H : Ev none e 206 39 [some (.ref 633), some (.int ww), some (.int (13 + (6 * (rI M 635 (ww + 1))))), none] [.int (rI N4 635 ((13 + (6 * (rI M 635 (ww + 1)))) + 1)), .int 3, .ref 635, .ref 633] N4 v M' 0 0 := H
  rw [show rI N4 635 ((13 + (6 * (rI M 635 (ww + 1)))) + 1) = rI M 635 ((13 + (6 * (rI M 635 (ww + 1)))) + 1) from by rw [eN4]; exact rN_wF] at H
  have H : Ev none e 206 40 [some (.ref 633), some (.int ww), some (.int (13 + (6 * (rI M 635 (ww + 1))))), none] [.int (3 + (rI M 635 ((13 + (6 * (rI M 635 (ww + 1)))) + 1))), .ref 635, .ref 633] N4 v M' 0 0 := Ev.back 1 (fun n => rfl) H
  obtain ⟨b6, H⟩ := Ev.ial rfl rfl hN4.1 qa_635 qw_63 H
  have H : Ev none e 206 41 [some (.ref 633), some (.int ww), some (.int (13 + (6 * (rI M 635 (ww + 1))))), none] [.int (rI N4 635 (3 + (rI M 635 ((13 + (6 * (rI M 635 (ww + 1)))) + 1)))), .ref 633] N4 v M' 0 0 := H
  rw [show rI N4 635 (3 + (rI M 635 ((13 + (6 * (rI M 635 (ww + 1)))) + 1))) = rI M 635 (3 + (rI M 635 ((13 + (6 * (rI M 635 (ww + 1)))) + 1))) from by rw [eN4]; exact rN_wF] at H
  obtain ⟨N8, eN8⟩ : ∃ N, N = (wF N4 633 35 (rI M 635 (3 + (rI M 635 ((13 + (6 * (rI M 635 (ww + 1)))) + 1))))) := ⟨_, rfl⟩
  have hN8 : SQ N8 := by rw [eN8]; exact hN4.kf
  have H : Ev none e 206 44 [some (.ref 633), some (.int ww), some (.int (13 + (6 * (rI M 635 (ww + 1))))), none] [] N8 v M' 0 0 := by rw [eN8]; exact Ev.pfi rfl rfl rfl hN4.1 qa_633 qi_61_35 H
  have H : Ev none e 206 47 [some (.ref 633), some (.int ww), some (.int (13 + (6 * (rI M 635 (ww + 1))))), none] [.ref 633, .int 1, .ref 633] N8 v M' 0 0 := Ev.back 3 (fun n => rfl) H
  have H : Ev none e 206 50 [some (.ref 633), some (.int ww), some (.int (13 + (6 * (rI M 635 (ww + 1))))), none] [.ref 635, .int 1, .ref 633] N8 v M' 0 0 := Ev.back 1 (gs_3 rfl rfl (gf_u hN8.1 qa_633 qr_61_5 qu_63 rfl)) H
  have H : Ev none e 206 53 [some (.ref 633), some (.int ww), some (.int (13 + (6 * (rI M 635 (ww + 1))))), none] [.int ((13 + (6 * (rI M 635 (ww + 1)))) + 2), .ref 635, .int 1, .ref 633] N8 v M' 0 0 := Ev.back 3 (fun n => rfl) H
  obtain ⟨b9, H⟩ := Ev.ial rfl rfl hN8.1 qa_635 qw_63 H
  have H : Ev none e 206 54 [some (.ref 633), some (.int ww), some (.int (13 + (6 * (rI M 635 (ww + 1))))), none] [.int (rI N8 635 ((13 + (6 * (rI M 635 (ww + 1)))) + 2)), .int 1, .ref 633] N8 v M' 0 0 := H
  rw [(show rI N8 635 ((13 + (6 * (rI M 635 (ww + 1)))) + 2) = rI N4 635 ((13 + (6 * (rI M 635 (ww + 1)))) + 2) from by rw [eN8]; exact rN_wF).trans (show rI N4 635 ((13 + (6 * (rI M 635 (ww + 1)))) + 2) = rI M 635 ((13 + (6 * (rI M 635 (ww + 1)))) + 2) from by rw [eN4]; exact rN_wF)] at H
  have H : Ev none e 206 55 [some (.ref 633), some (.int ww), some (.int (13 + (6 * (rI M 635 (ww + 1))))), none] [.int (1 + (rI M 635 ((13 + (6 * (rI M 635 (ww + 1)))) + 2))), .ref 633] N8 v M' 0 0 := Ev.back 1 (fun n => rfl) H
  obtain ⟨N11, eN11⟩ : ∃ N, N = (wF N8 633 36 (1 + (rI M 635 ((13 + (6 * (rI M 635 (ww + 1)))) + 2)))) := ⟨_, rfl⟩
  have hN11 : SQ N11 := by rw [eN11]; exact hN8.kf
  have H : Ev none e 206 58 [some (.ref 633), some (.int ww), some (.int (13 + (6 * (rI M 635 (ww + 1))))), none] [] N11 v M' 0 0 := by rw [eN11]; exact Ev.pfi rfl rfl rfl hN8.1 qa_633 qi_61_36 H
  have H : Ev none e 206 60 [some (.ref 633), some (.int ww), some (.int (13 + (6 * (rI M 635 (ww + 1))))), none] [.ref 633, .ref 633] N11 v M' 0 0 := Ev.back 2 (fun n => rfl) H
  have H : Ev none e 206 63 [some (.ref 633), some (.int ww), some (.int (13 + (6 * (rI M 635 (ww + 1))))), none] [.ref 635, .ref 633] N11 v M' 0 0 := Ev.back 1 (gs_3 rfl rfl (gf_u hN11.1 qa_633 qr_61_5 qu_63 rfl)) H
  have H : Ev none e 206 66 [some (.ref 633), some (.int ww), some (.int (13 + (6 * (rI M 635 (ww + 1))))), none] [.int (ww + 3), .ref 635, .ref 633] N11 v M' 0 0 := Ev.back 3 (fun n => rfl) H
  obtain ⟨b12, H⟩ := Ev.ial rfl rfl hN11.1 qa_635 qw_63 H
  have H : Ev none e 206 67 [some (.ref 633), some (.int ww), some (.int (13 + (6 * (rI M 635 (ww + 1))))), none] [.int (rI N11 635 (ww + 3)), .ref 633] N11 v M' 0 0 := H
  rw [((show rI N11 635 (ww + 3) = rI N8 635 (ww + 3) from by rw [eN11]; exact rN_wF).trans (show rI N8 635 (ww + 3) = rI N4 635 (ww + 3) from by rw [eN8]; exact rN_wF)).trans (show rI N4 635 (ww + 3) = rI M 635 (ww + 3) from by rw [eN4]; exact rN_wF)] at H
  obtain ⟨N14, eN14⟩ : ∃ N, N = (wF N11 633 37 (rI M 635 (ww + 3))) := ⟨_, rfl⟩
  have hN14 : SQ N14 := by rw [eN14]; exact hN11.kf
  have H : Ev none e 206 70 [some (.ref 633), some (.int ww), some (.int (13 + (6 * (rI M 635 (ww + 1))))), none] [] N14 v M' 0 0 := by rw [eN14]; exact Ev.pfi rfl rfl rfl hN11.1 qa_633 qi_61_37 H
  have H : Ev none e 206 72 [some (.ref 633), some (.int ww), some (.int (13 + (6 * (rI M 635 (ww + 1))))), none] [.ref 633, .ref 633] N14 v M' 0 0 := Ev.back 2 (fun n => rfl) H
  have H : Ev none e 206 75 [some (.ref 633), some (.int ww), some (.int (13 + (6 * (rI M 635 (ww + 1))))), none] [.ref 635, .ref 633] N14 v M' 0 0 := Ev.back 1 (gs_3 rfl rfl (gf_u hN14.1 qa_633 qr_61_5 qu_63 rfl)) H
  have H : Ev none e 206 78 [some (.ref 633), some (.int ww), some (.int (13 + (6 * (rI M 635 (ww + 1))))), none] [.int (ww + 4), .ref 635, .ref 633] N14 v M' 0 0 := Ev.back 3 (fun n => rfl) H
  obtain ⟨b15, H⟩ := Ev.ial rfl rfl hN14.1 qa_635 qw_63 H
  have H : Ev none e 206 79 [some (.ref 633), some (.int ww), some (.int (13 + (6 * (rI M 635 (ww + 1))))), none] [.int (rI N14 635 (ww + 4)), .ref 633] N14 v M' 0 0 := H
  rw [(((show rI N14 635 (ww + 4) = rI N11 635 (ww + 4) from by rw [eN14]; exact rN_wF).trans (show rI N11 635 (ww + 4) = rI N8 635 (ww + 4) from by rw [eN11]; exact rN_wF)).trans (show rI N8 635 (ww + 4) = rI N4 635 (ww + 4) from by rw [eN8]; exact rN_wF)).trans (show rI N4 635 (ww + 4) = rI M 635 (ww + 4) from by rw [eN4]; exact rN_wF)] at H
  obtain ⟨N17, eN17⟩ : ∃ N, N = (wF N14 633 38 (rI M 635 (ww + 4))) := ⟨_, rfl⟩
  have hN17 : SQ N17 := by rw [eN17]; exact hN14.kf
  have H : Ev none e 206 82 [some (.ref 633), some (.int ww), some (.int (13 + (6 * (rI M 635 (ww + 1))))), none] [] N17 v M' 0 0 := by rw [eN17]; exact Ev.pfi rfl rfl rfl hN14.1 qa_633 qi_61_38 H
  have H : Ev none e 206 84 [some (.ref 633), some (.int ww), some (.int (13 + (6 * (rI M 635 (ww + 1))))), none] [.int 0, .ref 633] N17 v M' 0 0 := Ev.back 2 (fun n => rfl) H
  obtain ⟨N19, eN19⟩ : ∃ N, N = (wF N17 633 39 0) := ⟨_, rfl⟩
  have hN19 : SQ N19 := by rw [eN19]; exact hN17.kf
  have H : Ev none e 206 87 [some (.ref 633), some (.int ww), some (.int (13 + (6 * (rI M 635 (ww + 1))))), none] [] N19 v M' 0 0 := by rw [eN19]; exact Ev.pfi rfl rfl rfl hN17.1 qa_633 qi_61_39 H
  have H : Ev none e 206 88 [some (.ref 633), some (.int ww), some (.int (13 + (6 * (rI M 635 (ww + 1))))), none] [.ref 633] N19 v M' 0 0 := Ev.back 1 (fun n => rfl) H
  obtain ⟨e1, rfl⟩ := Ev.dpos rfl rfl H
  obtain ⟨vK20, MK20, K20, H⟩ := Ev.callb (fun n_ => gs_7 rfl rfl (show gCal (.invokevirtual 414) 11 (.ref 633 :: []) N19 = some (.inr (202, [some (.ref 633), none, none, none, none, none], [])) from by show @cond (Option ((List Value × Mem) ⊕ (Nat × Lo × List Value))) (true && gRecv N19 (.ref 633) 11 && gRoom [] && true) (some (.inr (202, [some (.ref 633), none, none, none, none, none], []))) none = _; rw [recv_s hN19.1 qa_633 qo_61]; rfl)) H
  have K20 : Ev none e1 202 0 [some (.ref 633), none, none, none, none, none] [] N19 vK20 MK20 0 0 := K20
  have HF := H
  subst eN4 eN8 eN11 eN14 eN17 eN19
  exact ⟨b1, b2, b5, b6, b9, b12, b15, ⟨e1, vK20, MK20, rfl, K20, HF⟩⟩
theorem rgo_91 {e : Nat} {M M' : Mem} {v : Option Value} {ww x d : Int32} (hS : SQ M) (H : Ev none e 206 91 [some (.ref 633), some (.int ww), some (.int x), none] [.int d] M v M' 0 0) : (d < 0 ∧ (0 ≤ (ww + 2).toInt ∧ (ww + 2).toInt < 2314) ∧ (0 ≤ (ww + 2).toInt ∧ (ww + 2).toInt < 2314) ∧ Ev none e 206 154 [some (.ref 633), some (.int ww), some (.int x), some (.int d)] [] (wI M 635 ((ww + 2).toNatClampNeg) ((rI M 635 (ww + 2)) + 1)) v M' 0 0) ∨ (¬ (d < 0) ∧ (0 ≤ (ww + 2).toInt ∧ (ww + 2).toInt < 2314) ∧ (0 ≤ (ww + 2).toInt ∧ (ww + 2).toInt < 2314) ∧ (0 ≤ (ww + 3).toInt ∧ (ww + 3).toInt < 2314) ∧ (0 ≤ (ww + 4).toInt ∧ (ww + 4).toInt < 2314) ∧ (0 ≤ ww.toInt ∧ ww.toInt < 2314) ∧ (0 ≤ ww.toInt ∧ ww.toInt < 2314) ∧ (∃ e1 v1 M1, e = e1 + 1 ∧ Ev none e1 203 0 [some (.ref 633), some (.int (rI (wI (wI (wI (wI M 635 ((ww + 2).toNatClampNeg) ((rI M 635 (ww + 2)) + 1)) 635 ((ww + 3).toNatClampNeg) d) 635 ((ww + 4).toNatClampNeg) (zI M 633 34)) 635 ww.toNatClampNeg (G_194 (wI (wI (wI M 635 ((ww + 2).toNatClampNeg) ((rI M 635 (ww + 2)) + 1)) 635 ((ww + 3).toNatClampNeg) d) 635 ((ww + 4).toNatClampNeg) (zI M 633 34)) (zI M 633 34) d)) 635 ww)), none] [] (wI (wI (wI (wI M 635 ((ww + 2).toNatClampNeg) ((rI M 635 (ww + 2)) + 1)) 635 ((ww + 3).toNatClampNeg) d) 635 ((ww + 4).toNatClampNeg) (zI M 633 34)) 635 ww.toNatClampNeg (G_194 (wI (wI (wI M 635 ((ww + 2).toNatClampNeg) ((rI M 635 (ww + 2)) + 1)) 635 ((ww + 3).toNatClampNeg) d) 635 ((ww + 4).toNatClampNeg) (zI M 633 34)) (zI M 633 34) d)) v1 M1 0 0 ∧ Ev none e 206 154 [some (.ref 633), some (.int ww), some (.int x), some (.int d)] (v1.toList ++ []) M1 v M' 0 0)) := by
  have H : Ev none e 206 93 [some (.ref 633), some (.int ww), some (.int x), some (.int d)] [.ref 633] M v M' 0 0 := Ev.back 2 (fun n => rfl) H
  have H : Ev none e 206 96 [some (.ref 633), some (.int ww), some (.int x), some (.int d)] [.ref 635] M v M' 0 0 := Ev.back 1 (gs_3 rfl rfl (gf_u hS.1 qa_633 qr_61_5 qu_63 rfl)) H
  have H : Ev none e 206 100 [some (.ref 633), some (.int ww), some (.int x), some (.int d)] [.int (ww + 2), .ref 635, .int (ww + 2), .ref 635] M v M' 0 0 := Ev.back 4 (fun n => rfl) H
  obtain ⟨b1, H⟩ := Ev.ial rfl rfl hS.1 qa_635 qw_63 H
  have H : Ev none e 206 101 [some (.ref 633), some (.int ww), some (.int x), some (.int d)] [.int (rI M 635 (ww + 2)), .int (ww + 2), .ref 635] M v M' 0 0 := H
  have H : Ev none e 206 103 [some (.ref 633), some (.int ww), some (.int x), some (.int d)] [.int ((rI M 635 (ww + 2)) + 1), .int (ww + 2), .ref 635] M v M' 0 0 := Ev.back 2 (fun n => rfl) H
  obtain ⟨b2, H⟩ := Ev.ias rfl rfl hS.1 qa_635 qw_63 H
  obtain ⟨N3, eN3⟩ : ∃ N, N = (wI M 635 ((ww + 2).toNatClampNeg) ((rI M 635 (ww + 2)) + 1)) := ⟨_, rfl⟩
  have hN3 : SQ N3 := by rw [eN3]; exact hS.ki
  have H : Ev none e 206 104 [some (.ref 633), some (.int ww), some (.int x), some (.int d)] [] N3 v M' 0 0 := by rw [eN3]; exact H
  have H : Ev none e 206 (if d < 0 then 154 else 108) [some (.ref 633), some (.int ww), some (.int x), some (.int d)] [] N3 v M' 0 0 := Ev.back 2 (fun n => rfl) H
  by_cases h4 : d < 0
  · rw [if_pos h4] at H
    have HF := H
    subst eN3
    exact Or.inl ⟨h4, b1, b2, HF⟩
  · rw [if_neg h4] at H
    have H : Ev none e 206 109 [some (.ref 633), some (.int ww), some (.int x), some (.int d)] [.ref 633] N3 v M' 0 0 := Ev.back 1 (fun n => rfl) H
    have H : Ev none e 206 112 [some (.ref 633), some (.int ww), some (.int x), some (.int d)] [.ref 635] N3 v M' 0 0 := Ev.back 1 (gs_3 rfl rfl (gf_u hN3.1 qa_633 qr_61_5 qu_63 rfl)) H
    have H : Ev none e 206 116 [some (.ref 633), some (.int ww), some (.int x), some (.int d)] [.int d, .int (ww + 3), .ref 635] N3 v M' 0 0 := Ev.back 4 (fun n => rfl) H
    obtain ⟨b5, H⟩ := Ev.ias rfl rfl hN3.1 qa_635 qw_63 H
    obtain ⟨N6, eN6⟩ : ∃ N, N = (wI N3 635 ((ww + 3).toNatClampNeg) d) := ⟨_, rfl⟩
    have hN6 : SQ N6 := by rw [eN6]; exact hN3.ki
    have H : Ev none e 206 117 [some (.ref 633), some (.int ww), some (.int x), some (.int d)] [] N6 v M' 0 0 := by rw [eN6]; exact H
    have H : Ev none e 206 118 [some (.ref 633), some (.int ww), some (.int x), some (.int d)] [.ref 633] N6 v M' 0 0 := Ev.back 1 (fun n => rfl) H
    have H : Ev none e 206 121 [some (.ref 633), some (.int ww), some (.int x), some (.int d)] [.ref 635] N6 v M' 0 0 := Ev.back 1 (gs_3 rfl rfl (gf_u hN6.1 qa_633 qr_61_5 qu_63 rfl)) H
    have H : Ev none e 206 125 [some (.ref 633), some (.int ww), some (.int x), some (.int d)] [.ref 633, .int (ww + 4), .ref 635] N6 v M' 0 0 := Ev.back 4 (fun n => rfl) H
    have H : Ev none e 206 128 [some (.ref 633), some (.int ww), some (.int x), some (.int d)] [.int (zI N6 633 34), .int (ww + 4), .ref 635] N6 v M' 0 0 := Ev.back 1 (gs_3 rfl rfl (gf_i hN6.1 qa_633 qi_61_34 rfl)) H
    rw [(show zI N6 633 34 = zI N3 633 34 from by rw [eN6]; exact fI_wI).trans (show zI N3 633 34 = zI M 633 34 from by rw [eN3]; exact fI_wI)] at H
    obtain ⟨b7, H⟩ := Ev.ias rfl rfl hN6.1 qa_635 qw_63 H
    obtain ⟨N8, eN8⟩ : ∃ N, N = (wI N6 635 ((ww + 4).toNatClampNeg) (zI M 633 34)) := ⟨_, rfl⟩
    have hN8 : SQ N8 := by rw [eN8]; exact hN6.ki
    have H : Ev none e 206 129 [some (.ref 633), some (.int ww), some (.int x), some (.int d)] [] N8 v M' 0 0 := by rw [eN8]; exact H
    have H : Ev none e 206 130 [some (.ref 633), some (.int ww), some (.int x), some (.int d)] [.ref 633] N8 v M' 0 0 := Ev.back 1 (fun n => rfl) H
    have H : Ev none e 206 133 [some (.ref 633), some (.int ww), some (.int x), some (.int d)] [.ref 635] N8 v M' 0 0 := Ev.back 1 (gs_3 rfl rfl (gf_u hN8.1 qa_633 qr_61_5 qu_63 rfl)) H
    have H : Ev none e 206 136 [some (.ref 633), some (.int ww), some (.int x), some (.int d)] [.ref 633, .ref 633, .int ww, .ref 635] N8 v M' 0 0 := Ev.back 3 (fun n => rfl) H
    have H : Ev none e 206 139 [some (.ref 633), some (.int ww), some (.int x), some (.int d)] [.int (zI N8 633 34), .ref 633, .int ww, .ref 635] N8 v M' 0 0 := Ev.back 1 (gs_3 rfl rfl (gf_i hN8.1 qa_633 qi_61_34 rfl)) H
    rw [((show zI N8 633 34 = zI N6 633 34 from by rw [eN8]; exact fI_wI).trans (show zI N6 633 34 = zI N3 633 34 from by rw [eN6]; exact fI_wI)).trans (show zI N3 633 34 = zI M 633 34 from by rw [eN3]; exact fI_wI)] at H
    have H : Ev none e 206 140 [some (.ref 633), some (.int ww), some (.int x), some (.int d)] [.int d, .int (zI M 633 34), .ref 633, .int ww, .ref 635] N8 v M' 0 0 := Ev.back 1 (fun n => rfl) H
    obtain ⟨e1, rfl⟩ := Ev.dpos rfl rfl H
    obtain ⟨vK9, MK9, K9, H⟩ := Ev.callb (fun n_ => gs_7 rfl rfl (show gCal (.invokevirtual 380) 11 (.int d :: .int (zI M 633 34) :: .ref 633 :: [.int ww, .ref 635]) N8 = some (.inr (194, [some (.ref 633), some (.int (zI M 633 34)), some (.int d), none, none], [.int ww, .ref 635])) from by show @cond (Option ((List Value × Mem) ⊕ (Nat × Lo × List Value))) (true && gRecv N8 (.ref 633) 11 && gRoom [.int ww, .ref 635] && true) (some (.inr (194, [some (.ref 633), some (.int (zI M 633 34)), some (.int d), none, none], [.int ww, .ref 635]))) none = _; rw [recv_s hN8.1 qa_633 qo_61]; rfl)) H
    obtain ⟨pK9, qK9⟩ := g_194 hN8 K9
    rw [pK9, qK9] at H
    have H : Ev none (e1 + 1) 206 143 [some (.ref 633), some (.int ww), some (.int x), some (.int d)] [.int (G_194 N8 (zI M 633 34) d), .int ww, .ref 635] N8 v M' 0 0 := H
    obtain ⟨b10, H⟩ := Ev.ias rfl rfl hN8.1 qa_635 qw_63 H
    obtain ⟨N11, eN11⟩ : ∃ N, N = (wI N8 635 ww.toNatClampNeg (G_194 N8 (zI M 633 34) d)) := ⟨_, rfl⟩
    have hN11 : SQ N11 := by rw [eN11]; exact hN8.ki
    have H : Ev none (e1 + 1) 206 144 [some (.ref 633), some (.int ww), some (.int x), some (.int d)] [] N11 v M' 0 0 := by rw [eN11]; exact H
    have H : Ev none (e1 + 1) 206 146 [some (.ref 633), some (.int ww), some (.int x), some (.int d)] [.ref 633, .ref 633] N11 v M' 0 0 := Ev.back 2 (fun n => rfl) H
    have H : Ev none (e1 + 1) 206 149 [some (.ref 633), some (.int ww), some (.int x), some (.int d)] [.ref 635, .ref 633] N11 v M' 0 0 := Ev.back 1 (gs_3 rfl rfl (gf_u hN11.1 qa_633 qr_61_5 qu_63 rfl)) H
    have H : Ev none (e1 + 1) 206 150 [some (.ref 633), some (.int ww), some (.int x), some (.int d)] [.int ww, .ref 635, .ref 633] N11 v M' 0 0 := Ev.back 1 (fun n => rfl) H
    obtain ⟨b12, H⟩ := Ev.ial rfl rfl hN11.1 qa_635 qw_63 H
    have H : Ev none (e1 + 1) 206 151 [some (.ref 633), some (.int ww), some (.int x), some (.int d)] [.int (rI N11 635 ww), .ref 633] N11 v M' 0 0 := H
    obtain ⟨vK13, MK13, K13, H⟩ := Ev.callb (fun n_ => gs_7 rfl rfl (show gCal (.invokevirtual 417) 11 (.int (rI N11 635 ww) :: .ref 633 :: []) N11 = some (.inr (203, [some (.ref 633), some (.int (rI N11 635 ww)), none], [])) from by show @cond (Option ((List Value × Mem) ⊕ (Nat × Lo × List Value))) (true && gRecv N11 (.ref 633) 11 && gRoom [] && true) (some (.inr (203, [some (.ref 633), some (.int (rI N11 635 ww)), none], []))) none = _; rw [recv_s hN11.1 qa_633 qo_61]; rfl)) H
    have K13 : Ev none e1 203 0 [some (.ref 633), some (.int (rI N11 635 ww)), none] [] N11 vK13 MK13 0 0 := K13
    have HF := H
    subst eN3 eN6 eN8 eN11
    exact Or.inr (⟨h4, b1, b2, b5, b7, b10, b12, ⟨e1, vK13, MK13, rfl, K13, HF⟩⟩)
theorem rgo_154 {e : Nat} {M M' : Mem} {v : Option Value} {ww x d : Int32} (hS : SQ M) (H : Ev none e 206 154 [some (.ref 633), some (.int ww), some (.int x), some (.int d)] [] M v M' 0 0) : ((rI M 635 ww) = (zI M 633 35) ∧ (0 ≤ ww.toInt ∧ ww.toInt < 2314) ∧ (0 ≤ (519 : Int32).toInt ∧ (519 : Int32).toInt < 2314) ∧ (0 ≤ (519 : Int32).toInt ∧ (519 : Int32).toInt < 2314) ∧ v = some (.int 0) ∧ M' = (wF (wI M 635 ((519 : Int32).toNatClampNeg) ((rI M 635 519) + 1)) 633 41 ((zI M 633 41) + 1))) ∨ (¬ ((rI M 635 ww) = (zI M 633 35)) ∧ 200 ≤ (rI M 635 (ww + 2)) ∧ (0 ≤ ww.toInt ∧ ww.toInt < 2314) ∧ (0 ≤ (ww + 2).toInt ∧ (ww + 2).toInt < 2314) ∧ (0 ≤ (520 : Int32).toInt ∧ (520 : Int32).toInt < 2314) ∧ (0 ≤ (520 : Int32).toInt ∧ (520 : Int32).toInt < 2314) ∧ v = some (.int 0) ∧ M' = (wI M 635 ((520 : Int32).toNatClampNeg) ((rI M 635 520) + 1))) ∨ (¬ ((rI M 635 ww) = (zI M 633 35)) ∧ ¬ (200 ≤ (rI M 635 (ww + 2))) ∧ (0 ≤ ww.toInt ∧ ww.toInt < 2314) ∧ (0 ≤ (ww + 2).toInt ∧ (ww + 2).toInt < 2314) ∧ v = some (.int 1) ∧ M' = M) := by
  have H : Ev none e 206 155 [some (.ref 633), some (.int ww), some (.int x), some (.int d)] [.ref 633] M v M' 0 0 := Ev.back 1 (fun n => rfl) H
  have H : Ev none e 206 158 [some (.ref 633), some (.int ww), some (.int x), some (.int d)] [.ref 635] M v M' 0 0 := Ev.back 1 (gs_3 rfl rfl (gf_u hS.1 qa_633 qr_61_5 qu_63 rfl)) H
  have H : Ev none e 206 159 [some (.ref 633), some (.int ww), some (.int x), some (.int d)] [.int ww, .ref 635] M v M' 0 0 := Ev.back 1 (fun n => rfl) H
  obtain ⟨b1, H⟩ := Ev.ial rfl rfl hS.1 qa_635 qw_63 H
  have H : Ev none e 206 160 [some (.ref 633), some (.int ww), some (.int x), some (.int d)] [.int (rI M 635 ww)] M v M' 0 0 := H
  have H : Ev none e 206 161 [some (.ref 633), some (.int ww), some (.int x), some (.int d)] [.ref 633, .int (rI M 635 ww)] M v M' 0 0 := Ev.back 1 (fun n => rfl) H
  have H : Ev none e 206 164 [some (.ref 633), some (.int ww), some (.int x), some (.int d)] [.int (zI M 633 35), .int (rI M 635 ww)] M v M' 0 0 := Ev.back 1 (gs_3 rfl rfl (gf_i hS.1 qa_633 qi_61_35 rfl)) H
  have H : Ev none e 206 (if (rI M 635 ww) = (zI M 633 35) then 167 else 191) [some (.ref 633), some (.int ww), some (.int x), some (.int d)] [] M v M' 0 0 := Ev.back 1 (fun n => rfl) H
  by_cases h2 : (rI M 635 ww) = (zI M 633 35)
  · rw [if_pos h2] at H
    have H : Ev none e 206 168 [some (.ref 633), some (.int ww), some (.int x), some (.int d)] [.ref 633] M v M' 0 0 := Ev.back 1 (fun n => rfl) H
    have H : Ev none e 206 171 [some (.ref 633), some (.int ww), some (.int x), some (.int d)] [.ref 635] M v M' 0 0 := Ev.back 1 (gs_3 rfl rfl (gf_u hS.1 qa_633 qr_61_5 qu_63 rfl)) H
    have H : Ev none e 206 175 [some (.ref 633), some (.int ww), some (.int x), some (.int d)] [.int 519, .ref 635, .int 519, .ref 635] M v M' 0 0 := Ev.back 2 (fun n => rfl) H
    obtain ⟨b3, H⟩ := Ev.ial rfl rfl hS.1 qa_635 qw_63 H
    have H : Ev none e 206 176 [some (.ref 633), some (.int ww), some (.int x), some (.int d)] [.int (rI M 635 519), .int 519, .ref 635] M v M' 0 0 := H
    have H : Ev none e 206 178 [some (.ref 633), some (.int ww), some (.int x), some (.int d)] [.int ((rI M 635 519) + 1), .int 519, .ref 635] M v M' 0 0 := Ev.back 2 (fun n => rfl) H
    obtain ⟨b4, H⟩ := Ev.ias rfl rfl hS.1 qa_635 qw_63 H
    obtain ⟨N5, eN5⟩ : ∃ N, N = (wI M 635 ((519 : Int32).toNatClampNeg) ((rI M 635 519) + 1)) := ⟨_, rfl⟩
    have hN5 : SQ N5 := by rw [eN5]; exact hS.ki
    have H : Ev none e 206 179 [some (.ref 633), some (.int ww), some (.int x), some (.int d)] [] N5 v M' 0 0 := by rw [eN5]; exact H
    have H : Ev none e 206 181 [some (.ref 633), some (.int ww), some (.int x), some (.int d)] [.ref 633, .ref 633] N5 v M' 0 0 := Ev.back 2 (fun n => rfl) H
    have H : Ev none e 206 184 [some (.ref 633), some (.int ww), some (.int x), some (.int d)] [.int (zI N5 633 41), .ref 633] N5 v M' 0 0 := Ev.back 1 (gs_3 rfl rfl (gf_i hN5.1 qa_633 qi_61_41 rfl)) H
    rw [show zI N5 633 41 = zI M 633 41 from by rw [eN5]; exact fI_wI] at H
    have H : Ev none e 206 186 [some (.ref 633), some (.int ww), some (.int x), some (.int d)] [.int ((zI M 633 41) + 1), .ref 633] N5 v M' 0 0 := Ev.back 2 (fun n => rfl) H
    obtain ⟨N7, eN7⟩ : ∃ N, N = (wF N5 633 41 ((zI M 633 41) + 1)) := ⟨_, rfl⟩
    have hN7 : SQ N7 := by rw [eN7]; exact hN5.kf
    have H : Ev none e 206 189 [some (.ref 633), some (.int ww), some (.int x), some (.int d)] [] N7 v M' 0 0 := by rw [eN7]; exact Ev.pfi rfl rfl rfl hN5.1 qa_633 qi_61_41 H
    have H : Ev none e 206 190 [some (.ref 633), some (.int ww), some (.int x), some (.int d)] [.int 0] N7 v M' 0 0 := Ev.back 1 (fun n => rfl) H
    obtain ⟨z1, z2⟩ := Ev.retz rfl rfl H
    subst eN5 eN7
    exact Or.inl ⟨h2, b1, b3, b4, z1, z2⟩
  · rw [if_neg h2] at H
    have H : Ev none e 206 192 [some (.ref 633), some (.int ww), some (.int x), some (.int d)] [.ref 633] M v M' 0 0 := Ev.back 1 (fun n => rfl) H
    have H : Ev none e 206 195 [some (.ref 633), some (.int ww), some (.int x), some (.int d)] [.ref 635] M v M' 0 0 := Ev.back 1 (gs_3 rfl rfl (gf_u hS.1 qa_633 qr_61_5 qu_63 rfl)) H
    have H : Ev none e 206 198 [some (.ref 633), some (.int ww), some (.int x), some (.int d)] [.int (ww + 2), .ref 635] M v M' 0 0 := Ev.back 3 (fun n => rfl) H
    obtain ⟨b8, H⟩ := Ev.ial rfl rfl hS.1 qa_635 qw_63 H
    have H : Ev none e 206 199 [some (.ref 633), some (.int ww), some (.int x), some (.int d)] [.int (rI M 635 (ww + 2))] M v M' 0 0 := H
    have H : Ev none e 206 (if 200 ≤ (rI M 635 (ww + 2)) then 207 else 205) [some (.ref 633), some (.int ww), some (.int x), some (.int d)] [] M v M' 0 0 := Ev.back 2 (fun n => rfl) H
    by_cases h9 : 200 ≤ (rI M 635 (ww + 2))
    · rw [if_pos h9] at H
      have H : Ev none e 206 208 [some (.ref 633), some (.int ww), some (.int x), some (.int d)] [.ref 633] M v M' 0 0 := Ev.back 1 (fun n => rfl) H
      have H : Ev none e 206 211 [some (.ref 633), some (.int ww), some (.int x), some (.int d)] [.ref 635] M v M' 0 0 := Ev.back 1 (gs_3 rfl rfl (gf_u hS.1 qa_633 qr_61_5 qu_63 rfl)) H
      have H : Ev none e 206 215 [some (.ref 633), some (.int ww), some (.int x), some (.int d)] [.int 520, .ref 635, .int 520, .ref 635] M v M' 0 0 := Ev.back 2 (fun n => rfl) H
      obtain ⟨b10, H⟩ := Ev.ial rfl rfl hS.1 qa_635 qw_63 H
      have H : Ev none e 206 216 [some (.ref 633), some (.int ww), some (.int x), some (.int d)] [.int (rI M 635 520), .int 520, .ref 635] M v M' 0 0 := H
      have H : Ev none e 206 218 [some (.ref 633), some (.int ww), some (.int x), some (.int d)] [.int ((rI M 635 520) + 1), .int 520, .ref 635] M v M' 0 0 := Ev.back 2 (fun n => rfl) H
      obtain ⟨b11, H⟩ := Ev.ias rfl rfl hS.1 qa_635 qw_63 H
      obtain ⟨N12, eN12⟩ : ∃ N, N = (wI M 635 ((520 : Int32).toNatClampNeg) ((rI M 635 520) + 1)) := ⟨_, rfl⟩
      have hN12 : SQ N12 := by rw [eN12]; exact hS.ki
      have H : Ev none e 206 219 [some (.ref 633), some (.int ww), some (.int x), some (.int d)] [] N12 v M' 0 0 := by rw [eN12]; exact H
      have H : Ev none e 206 220 [some (.ref 633), some (.int ww), some (.int x), some (.int d)] [.int 0] N12 v M' 0 0 := Ev.back 1 (fun n => rfl) H
      obtain ⟨z1, z2⟩ := Ev.retz rfl rfl H
      subst eN12
      exact Or.inr (Or.inl ⟨h2, h9, b1, b8, b10, b11, z1, z2⟩)
    · rw [if_neg h9] at H
      have H : Ev none e 206 206 [some (.ref 633), some (.int ww), some (.int x), some (.int d)] [.int 1] M v M' 0 0 := Ev.back 1 (fun n => rfl) H
      obtain ⟨z1, z2⟩ := Ev.retz rfl rfl H
      exact Or.inr (Or.inr (⟨h2, h9, b1, b8, z1, z2⟩))
theorem rew_0 {e : Nat} {M M' : Mem} {v : Option Value} (hS : SQ M) (H : Ev none e 208 0 [some (.ref 633), none, none, none] [] M v M' 0 0) : Ev none e 208 2 [some (.ref 633), some (.int 0), none, none] [] M v M' 0 0 := by
  have H : Ev none e 208 2 [some (.ref 633), some (.int 0), none, none] [] M v M' 0 0 := Ev.back 2 (fun n => rfl) H
  have HF := H
  exact HF
theorem rew_2 {e : Nat} {M M' : Mem} {v : Option Value} {c : Int32} {c2 c3 : Option Value} (hS : SQ M) (H : Ev none e 208 2 [some (.ref 633), some (.int c), c2, c3] [] M v M' 0 0) : ((G_144 M) ≤ c ∧ Ev none e 208 76 [some (.ref 633), some (.int 0), c2, c3] [] M v M' 0 0) ∨ (¬ ((G_144 M) ≤ c) ∧ (∃ e1 v1 M1, e = e1 + 1 ∧ Ev none e1 188 0 [some (.ref 633), some (.int 1), some (.int c), some (.int 10), none] [] M v1 M1 0 0 ∧ Ev none e 208 24 [some (.ref 633), some (.int c), c2, c3] (v1.toList ++ [.int (G_146 M c 3)]) M1 v M' 0 0)) := by
  have H : Ev none e 208 4 [some (.ref 633), some (.int c), c2, c3] [.ref 633, .int c] M v M' 0 0 := Ev.back 2 (fun n => rfl) H
  obtain ⟨e1, rfl⟩ := Ev.dpos rfl rfl H
  obtain ⟨vK1, MK1, K1, H⟩ := Ev.callb (fun n_ => gs_7 rfl rfl (show gCal (.invokevirtual 128) 11 (.ref 633 :: [.int c]) M = some (.inr (144, [some (.ref 633)], [.int c])) from by show @cond (Option ((List Value × Mem) ⊕ (Nat × Lo × List Value))) (true && gRecv M (.ref 633) 11 && gRoom [.int c] && true) (some (.inr (144, [some (.ref 633)], [.int c]))) none = _; rw [recv_s hS.1 qa_633 qo_61]; rfl)) H
  obtain ⟨pK1, qK1⟩ := g_144 hS K1
  rw [pK1, qK1] at H
  have H : Ev none (e1 + 1) 208 7 [some (.ref 633), some (.int c), c2, c3] [.int (G_144 M), .int c] M v M' 0 0 := H
  have H : Ev none (e1 + 1) 208 (if (G_144 M) ≤ c then 74 else 10) [some (.ref 633), some (.int c), c2, c3] [] M v M' 0 0 := Ev.back 1 (fun n => rfl) H
  by_cases h2 : (G_144 M) ≤ c
  · rw [if_pos h2] at H
    have H : Ev none (e1 + 1) 208 76 [some (.ref 633), some (.int 0), c2, c3] [] M v M' 0 0 := Ev.back 2 (fun n => rfl) H
    have HF := H
    exact Or.inl ⟨h2, HF⟩
  · rw [if_neg h2] at H
    have H : Ev none (e1 + 1) 208 13 [some (.ref 633), some (.int c), c2, c3] [.int 3, .int c, .ref 633] M v M' 0 0 := Ev.back 3 (fun n => rfl) H
    obtain ⟨vK3, MK3, K3, H⟩ := Ev.callb (fun n_ => gs_7 rfl rfl (show gCal (.invokevirtual 136) 11 (.int 3 :: .int c :: .ref 633 :: []) M = some (.inr (146, [some (.ref 633), some (.int c), some (.int 3)], [])) from by show @cond (Option ((List Value × Mem) ⊕ (Nat × Lo × List Value))) (true && gRecv M (.ref 633) 11 && gRoom [] && true) (some (.inr (146, [some (.ref 633), some (.int c), some (.int 3)], []))) none = _; rw [recv_s hS.1 qa_633 qo_61]; rfl)) H
    obtain ⟨pK3, qK3⟩ := g_146 hS K3
    rw [pK3, qK3] at H
    have H : Ev none (e1 + 1) 208 16 [some (.ref 633), some (.int c), c2, c3] [.int (G_146 M c 3)] M v M' 0 0 := H
    have H : Ev none (e1 + 1) 208 21 [some (.ref 633), some (.int c), c2, c3] [.int 10, .int c, .int 1, .ref 633, .int (G_146 M c 3)] M v M' 0 0 := Ev.back 4 (fun n => rfl) H
    obtain ⟨vK4, MK4, K4, H⟩ := Ev.callb (fun n_ => gs_7 rfl rfl (show gCal (.invokevirtual 402) 11 (.int 10 :: .int c :: .int 1 :: .ref 633 :: [.int (G_146 M c 3)]) M = some (.inr (188, [some (.ref 633), some (.int 1), some (.int c), some (.int 10), none], [.int (G_146 M c 3)])) from by show @cond (Option ((List Value × Mem) ⊕ (Nat × Lo × List Value))) (true && gRecv M (.ref 633) 11 && gRoom [.int (G_146 M c 3)] && true) (some (.inr (188, [some (.ref 633), some (.int 1), some (.int c), some (.int 10), none], [.int (G_146 M c 3)]))) none = _; rw [recv_s hS.1 qa_633 qo_61]; rfl)) H
    have K4 : Ev none e1 188 0 [some (.ref 633), some (.int 1), some (.int c), some (.int 10), none] [] M vK4 MK4 0 0 := K4
    have HF := H
    exact Or.inr (⟨h2, ⟨e1, vK4, MK4, rfl, K4, HF⟩⟩)
theorem rew_24 {e : Nat} {M M' : Mem} {v : Option Value} {c y we : Int32} {c2 c3 : Option Value} (hS : SQ M) (H : Ev none e 208 24 [some (.ref 633), some (.int c), c2, c3] [.int y, .int we] M v M' 0 0) : (0 ≤ (we - y) ∧ 0 ≤ ((G_146 M c 4) - (zI M 633 30)) ∧ Ev none e 208 2 [some (.ref 633), some (.int (c + 1)), some (.int (we - y)), some (.int ((G_146 M c 4) - (zI M 633 30)))] [] (X_147 (X_147 M c 3 (we - y)) c 4 ((G_146 M c 4) - (zI M 633 30))) v M' 0 0) ∨ (0 ≤ (we - y) ∧ ¬ (0 ≤ ((G_146 M c 4) - (zI M 633 30))) ∧ Ev none e 208 2 [some (.ref 633), some (.int (c + 1)), some (.int (we - y)), some (.int ((G_146 M c 4) - (zI M 633 30)))] [] (X_147 (X_147 M c 3 (we - y)) c 4 0) v M' 0 0) ∨ (¬ (0 ≤ (we - y)) ∧ 0 ≤ ((G_146 M c 4) - (zI M 633 30)) ∧ Ev none e 208 2 [some (.ref 633), some (.int (c + 1)), some (.int (we - y)), some (.int ((G_146 M c 4) - (zI M 633 30)))] [] (X_147 (X_147 M c 3 0) c 4 ((G_146 M c 4) - (zI M 633 30))) v M' 0 0) ∨ (¬ (0 ≤ (we - y)) ∧ ¬ (0 ≤ ((G_146 M c 4) - (zI M 633 30))) ∧ Ev none e 208 2 [some (.ref 633), some (.int (c + 1)), some (.int (we - y)), some (.int ((G_146 M c 4) - (zI M 633 30)))] [] (X_147 (X_147 M c 3 0) c 4 0) v M' 0 0) := by
  have H : Ev none e 208 29 [some (.ref 633), some (.int c), some (.int (we - y)), c3] [.int 4, .int c, .ref 633] M v M' 0 0 := Ev.back 5 (fun n => rfl) H
  obtain ⟨e1, rfl⟩ := Ev.dpos rfl rfl H
  obtain ⟨vK1, MK1, K1, H⟩ := Ev.callb (fun n_ => gs_7 rfl rfl (show gCal (.invokevirtual 136) 11 (.int 4 :: .int c :: .ref 633 :: []) M = some (.inr (146, [some (.ref 633), some (.int c), some (.int 4)], [])) from by show @cond (Option ((List Value × Mem) ⊕ (Nat × Lo × List Value))) (true && gRecv M (.ref 633) 11 && gRoom [] && true) (some (.inr (146, [some (.ref 633), some (.int c), some (.int 4)], []))) none = _; rw [recv_s hS.1 qa_633 qo_61]; rfl)) H
  obtain ⟨pK1, qK1⟩ := g_146 hS K1
  rw [pK1, qK1] at H
  have H : Ev none (e1 + 1) 208 32 [some (.ref 633), some (.int c), some (.int (we - y)), c3] [.int (G_146 M c 4)] M v M' 0 0 := H
  have H : Ev none (e1 + 1) 208 33 [some (.ref 633), some (.int c), some (.int (we - y)), c3] [.ref 633, .int (G_146 M c 4)] M v M' 0 0 := Ev.back 1 (fun n => rfl) H
  have H : Ev none (e1 + 1) 208 36 [some (.ref 633), some (.int c), some (.int (we - y)), c3] [.int (zI M 633 30), .int (G_146 M c 4)] M v M' 0 0 := Ev.back 1 (gs_3 rfl rfl (gf_i hS.1 qa_633 qi_61_30 rfl)) H
  have H : Ev none (e1 + 1) 208 (if 0 ≤ (we - y) then 49 else 45) [some (.ref 633), some (.int c), some (.int (we - y)), some (.int ((G_146 M c 4) - (zI M 633 30)))] [.int 3, .int c, .ref 633] M v M' 0 0 := Ev.back 7 (fun n => rfl) H
  by_cases h2 : 0 ≤ (we - y)
  · rw [if_pos h2] at H
    have H : Ev none (e1 + 1) 208 50 [some (.ref 633), some (.int c), some (.int (we - y)), some (.int ((G_146 M c 4) - (zI M 633 30)))] [.int (we - y), .int 3, .int c, .ref 633] M v M' 0 0 := Ev.back 1 (fun n => rfl) H
    obtain ⟨vK3, MK3, K3, H⟩ := Ev.callb (fun n_ => gs_7 rfl rfl (show gCal (.invokevirtual 151) 11 (.int (we - y) :: .int 3 :: .int c :: .ref 633 :: []) M = some (.inr (147, [some (.ref 633), some (.int c), some (.int 3), some (.int (we - y))], [])) from by show @cond (Option ((List Value × Mem) ⊕ (Nat × Lo × List Value))) (true && gRecv M (.ref 633) 11 && gRoom [] && true) (some (.inr (147, [some (.ref 633), some (.int c), some (.int 3), some (.int (we - y))], []))) none = _; rw [recv_s hS.1 qa_633 qo_61]; rfl)) H
    obtain ⟨pK3, qK3⟩ := g_147 hS K3
    rw [pK3, qK3] at H
    obtain ⟨N4, eN4⟩ : ∃ N, N = (X_147 M c 3 (we - y)) := ⟨_, rfl⟩
    have hN4 : SQ N4 := by rw [eN4]; exact X_147_sx hS
    rw [← eN4] at H
    have H : Ev none (e1 + 1) 208 53 [some (.ref 633), some (.int c), some (.int (we - y)), some (.int ((G_146 M c 4) - (zI M 633 30)))] [] N4 v M' 0 0 := H
    have H : Ev none (e1 + 1) 208 (if 0 ≤ ((G_146 M c 4) - (zI M 633 30)) then 64 else 60) [some (.ref 633), some (.int c), some (.int (we - y)), some (.int ((G_146 M c 4) - (zI M 633 30)))] [.int 4, .int c, .ref 633] N4 v M' 0 0 := Ev.back 5 (fun n => rfl) H
    by_cases h5 : 0 ≤ ((G_146 M c 4) - (zI M 633 30))
    · rw [if_pos h5] at H
      have H : Ev none (e1 + 1) 208 65 [some (.ref 633), some (.int c), some (.int (we - y)), some (.int ((G_146 M c 4) - (zI M 633 30)))] [.int ((G_146 M c 4) - (zI M 633 30)), .int 4, .int c, .ref 633] N4 v M' 0 0 := Ev.back 1 (fun n => rfl) H
      obtain ⟨vK6, MK6, K6, H⟩ := Ev.callb (fun n_ => gs_7 rfl rfl (show gCal (.invokevirtual 151) 11 (.int ((G_146 M c 4) - (zI M 633 30)) :: .int 4 :: .int c :: .ref 633 :: []) N4 = some (.inr (147, [some (.ref 633), some (.int c), some (.int 4), some (.int ((G_146 M c 4) - (zI M 633 30)))], [])) from by show @cond (Option ((List Value × Mem) ⊕ (Nat × Lo × List Value))) (true && gRecv N4 (.ref 633) 11 && gRoom [] && true) (some (.inr (147, [some (.ref 633), some (.int c), some (.int 4), some (.int ((G_146 M c 4) - (zI M 633 30)))], []))) none = _; rw [recv_s hN4.1 qa_633 qo_61]; rfl)) H
      obtain ⟨pK6, qK6⟩ := g_147 hN4 K6
      rw [pK6, qK6] at H
      obtain ⟨N7, eN7⟩ : ∃ N, N = (X_147 N4 c 4 ((G_146 M c 4) - (zI M 633 30))) := ⟨_, rfl⟩
      have hN7 : SQ N7 := by rw [eN7]; exact X_147_sx hN4
      rw [← eN7] at H
      have H : Ev none (e1 + 1) 208 68 [some (.ref 633), some (.int c), some (.int (we - y)), some (.int ((G_146 M c 4) - (zI M 633 30)))] [] N7 v M' 0 0 := H
      have H : Ev none (e1 + 1) 208 2 [some (.ref 633), some (.int (c + 1)), some (.int (we - y)), some (.int ((G_146 M c 4) - (zI M 633 30)))] [] N7 v M' 0 0 := Ev.back 2 (fun n => rfl) H
      have HF := H
      subst eN4 eN7
      exact Or.inl ⟨h2, h5, HF⟩
    · rw [if_neg h5] at H
      have H : Ev none (e1 + 1) 208 65 [some (.ref 633), some (.int c), some (.int (we - y)), some (.int ((G_146 M c 4) - (zI M 633 30)))] [.int 0, .int 4, .int c, .ref 633] N4 v M' 0 0 := Ev.back 2 (fun n => rfl) H
      obtain ⟨vK8, MK8, K8, H⟩ := Ev.callb (fun n_ => gs_7 rfl rfl (show gCal (.invokevirtual 151) 11 (.int 0 :: .int 4 :: .int c :: .ref 633 :: []) N4 = some (.inr (147, [some (.ref 633), some (.int c), some (.int 4), some (.int 0)], [])) from by show @cond (Option ((List Value × Mem) ⊕ (Nat × Lo × List Value))) (true && gRecv N4 (.ref 633) 11 && gRoom [] && true) (some (.inr (147, [some (.ref 633), some (.int c), some (.int 4), some (.int 0)], []))) none = _; rw [recv_s hN4.1 qa_633 qo_61]; rfl)) H
      obtain ⟨pK8, qK8⟩ := g_147 hN4 K8
      rw [pK8, qK8] at H
      obtain ⟨N9, eN9⟩ : ∃ N, N = (X_147 N4 c 4 0) := ⟨_, rfl⟩
      have hN9 : SQ N9 := by rw [eN9]; exact X_147_sx hN4
      rw [← eN9] at H
      have H : Ev none (e1 + 1) 208 68 [some (.ref 633), some (.int c), some (.int (we - y)), some (.int ((G_146 M c 4) - (zI M 633 30)))] [] N9 v M' 0 0 := H
      have H : Ev none (e1 + 1) 208 2 [some (.ref 633), some (.int (c + 1)), some (.int (we - y)), some (.int ((G_146 M c 4) - (zI M 633 30)))] [] N9 v M' 0 0 := Ev.back 2 (fun n => rfl) H
      have HF := H
      subst eN4 eN9
      exact Or.inr (Or.inl ⟨h2, h5, HF⟩)
  · rw [if_neg h2] at H
    have H : Ev none (e1 + 1) 208 50 [some (.ref 633), some (.int c), some (.int (we - y)), some (.int ((G_146 M c 4) - (zI M 633 30)))] [.int 0, .int 3, .int c, .ref 633] M v M' 0 0 := Ev.back 2 (fun n => rfl) H
    obtain ⟨vK10, MK10, K10, H⟩ := Ev.callb (fun n_ => gs_7 rfl rfl (show gCal (.invokevirtual 151) 11 (.int 0 :: .int 3 :: .int c :: .ref 633 :: []) M = some (.inr (147, [some (.ref 633), some (.int c), some (.int 3), some (.int 0)], [])) from by show @cond (Option ((List Value × Mem) ⊕ (Nat × Lo × List Value))) (true && gRecv M (.ref 633) 11 && gRoom [] && true) (some (.inr (147, [some (.ref 633), some (.int c), some (.int 3), some (.int 0)], []))) none = _; rw [recv_s hS.1 qa_633 qo_61]; rfl)) H
    obtain ⟨pK10, qK10⟩ := g_147 hS K10
    rw [pK10, qK10] at H
    obtain ⟨N11, eN11⟩ : ∃ N, N = (X_147 M c 3 0) := ⟨_, rfl⟩
    have hN11 : SQ N11 := by rw [eN11]; exact X_147_sx hS
    rw [← eN11] at H
    have H : Ev none (e1 + 1) 208 53 [some (.ref 633), some (.int c), some (.int (we - y)), some (.int ((G_146 M c 4) - (zI M 633 30)))] [] N11 v M' 0 0 := H
    have H : Ev none (e1 + 1) 208 (if 0 ≤ ((G_146 M c 4) - (zI M 633 30)) then 64 else 60) [some (.ref 633), some (.int c), some (.int (we - y)), some (.int ((G_146 M c 4) - (zI M 633 30)))] [.int 4, .int c, .ref 633] N11 v M' 0 0 := Ev.back 5 (fun n => rfl) H
    by_cases h12 : 0 ≤ ((G_146 M c 4) - (zI M 633 30))
    · rw [if_pos h12] at H
      have H : Ev none (e1 + 1) 208 65 [some (.ref 633), some (.int c), some (.int (we - y)), some (.int ((G_146 M c 4) - (zI M 633 30)))] [.int ((G_146 M c 4) - (zI M 633 30)), .int 4, .int c, .ref 633] N11 v M' 0 0 := Ev.back 1 (fun n => rfl) H
      obtain ⟨vK13, MK13, K13, H⟩ := Ev.callb (fun n_ => gs_7 rfl rfl (show gCal (.invokevirtual 151) 11 (.int ((G_146 M c 4) - (zI M 633 30)) :: .int 4 :: .int c :: .ref 633 :: []) N11 = some (.inr (147, [some (.ref 633), some (.int c), some (.int 4), some (.int ((G_146 M c 4) - (zI M 633 30)))], [])) from by show @cond (Option ((List Value × Mem) ⊕ (Nat × Lo × List Value))) (true && gRecv N11 (.ref 633) 11 && gRoom [] && true) (some (.inr (147, [some (.ref 633), some (.int c), some (.int 4), some (.int ((G_146 M c 4) - (zI M 633 30)))], []))) none = _; rw [recv_s hN11.1 qa_633 qo_61]; rfl)) H
      obtain ⟨pK13, qK13⟩ := g_147 hN11 K13
      rw [pK13, qK13] at H
      obtain ⟨N14, eN14⟩ : ∃ N, N = (X_147 N11 c 4 ((G_146 M c 4) - (zI M 633 30))) := ⟨_, rfl⟩
      have hN14 : SQ N14 := by rw [eN14]; exact X_147_sx hN11
      rw [← eN14] at H
      have H : Ev none (e1 + 1) 208 68 [some (.ref 633), some (.int c), some (.int (we - y)), some (.int ((G_146 M c 4) - (zI M 633 30)))] [] N14 v M' 0 0 := H
      have H : Ev none (e1 + 1) 208 2 [some (.ref 633), some (.int (c + 1)), some (.int (we - y)), some (.int ((G_146 M c 4) - (zI M 633 30)))] [] N14 v M' 0 0 := Ev.back 2 (fun n => rfl) H
      have HF := H
      subst eN11 eN14
      exact Or.inr (Or.inr (Or.inl ⟨h2, h12, HF⟩))
    · rw [if_neg h12] at H
      have H : Ev none (e1 + 1) 208 65 [some (.ref 633), some (.int c), some (.int (we - y)), some (.int ((G_146 M c 4) - (zI M 633 30)))] [.int 0, .int 4, .int c, .ref 633] N11 v M' 0 0 := Ev.back 2 (fun n => rfl) H
      obtain ⟨vK15, MK15, K15, H⟩ := Ev.callb (fun n_ => gs_7 rfl rfl (show gCal (.invokevirtual 151) 11 (.int 0 :: .int 4 :: .int c :: .ref 633 :: []) N11 = some (.inr (147, [some (.ref 633), some (.int c), some (.int 4), some (.int 0)], [])) from by show @cond (Option ((List Value × Mem) ⊕ (Nat × Lo × List Value))) (true && gRecv N11 (.ref 633) 11 && gRoom [] && true) (some (.inr (147, [some (.ref 633), some (.int c), some (.int 4), some (.int 0)], []))) none = _; rw [recv_s hN11.1 qa_633 qo_61]; rfl)) H
      obtain ⟨pK15, qK15⟩ := g_147 hN11 K15
      rw [pK15, qK15] at H
      obtain ⟨N16, eN16⟩ : ∃ N, N = (X_147 N11 c 4 0) := ⟨_, rfl⟩
      have hN16 : SQ N16 := by rw [eN16]; exact X_147_sx hN11
      rw [← eN16] at H
      have H : Ev none (e1 + 1) 208 68 [some (.ref 633), some (.int c), some (.int (we - y)), some (.int ((G_146 M c 4) - (zI M 633 30)))] [] N16 v M' 0 0 := H
      have H : Ev none (e1 + 1) 208 2 [some (.ref 633), some (.int (c + 1)), some (.int (we - y)), some (.int ((G_146 M c 4) - (zI M 633 30)))] [] N16 v M' 0 0 := Ev.back 2 (fun n => rfl) H
      have HF := H
      subst eN11 eN16
      exact Or.inr (Or.inr (Or.inr (⟨h2, h12, HF⟩)))
theorem rew_76 {e : Nat} {M M' : Mem} {v : Option Value} {c : Int32} {c2 c3 : Option Value} (hS : SQ M) (H : Ev none e 208 76 [some (.ref 633), some (.int c), c2, c3] [] M v M' 0 0) : ((G_144 M) ≤ c ∧ v = none ∧ M' = M) ∨ (¬ ((G_144 M) ≤ c) ∧ Ev none e 208 76 [some (.ref 633), some (.int (c + 1)), c2, c3] [] (X_147 M c 5 0) v M' 0 0) := by
  have H : Ev none e 208 78 [some (.ref 633), some (.int c), c2, c3] [.ref 633, .int c] M v M' 0 0 := Ev.back 2 (fun n => rfl) H
  obtain ⟨e1, rfl⟩ := Ev.dpos rfl rfl H
  obtain ⟨vK1, MK1, K1, H⟩ := Ev.callb (fun n_ => gs_7 rfl rfl (show gCal (.invokevirtual 128) 11 (.ref 633 :: [.int c]) M = some (.inr (144, [some (.ref 633)], [.int c])) from by show @cond (Option ((List Value × Mem) ⊕ (Nat × Lo × List Value))) (true && gRecv M (.ref 633) 11 && gRoom [.int c] && true) (some (.inr (144, [some (.ref 633)], [.int c]))) none = _; rw [recv_s hS.1 qa_633 qo_61]; rfl)) H
  obtain ⟨pK1, qK1⟩ := g_144 hS K1
  rw [pK1, qK1] at H
  have H : Ev none (e1 + 1) 208 81 [some (.ref 633), some (.int c), c2, c3] [.int (G_144 M), .int c] M v M' 0 0 := H
  have H : Ev none (e1 + 1) 208 (if (G_144 M) ≤ c then 97 else 84) [some (.ref 633), some (.int c), c2, c3] [] M v M' 0 0 := Ev.back 1 (fun n => rfl) H
  by_cases h2 : (G_144 M) ≤ c
  · rw [if_pos h2] at H
    obtain ⟨z1, z2⟩ := Ev.retb (fun n => rfl) H
    exact Or.inl ⟨h2, z1, z2⟩
  · rw [if_neg h2] at H
    have H : Ev none (e1 + 1) 208 88 [some (.ref 633), some (.int c), c2, c3] [.int 0, .int 5, .int c, .ref 633] M v M' 0 0 := Ev.back 4 (fun n => rfl) H
    obtain ⟨vK3, MK3, K3, H⟩ := Ev.callb (fun n_ => gs_7 rfl rfl (show gCal (.invokevirtual 151) 11 (.int 0 :: .int 5 :: .int c :: .ref 633 :: []) M = some (.inr (147, [some (.ref 633), some (.int c), some (.int 5), some (.int 0)], [])) from by show @cond (Option ((List Value × Mem) ⊕ (Nat × Lo × List Value))) (true && gRecv M (.ref 633) 11 && gRoom [] && true) (some (.inr (147, [some (.ref 633), some (.int c), some (.int 5), some (.int 0)], []))) none = _; rw [recv_s hS.1 qa_633 qo_61]; rfl)) H
    obtain ⟨pK3, qK3⟩ := g_147 hS K3
    rw [pK3, qK3] at H
    obtain ⟨N4, eN4⟩ : ∃ N, N = (X_147 M c 5 0) := ⟨_, rfl⟩
    have hN4 : SQ N4 := by rw [eN4]; exact X_147_sx hS
    rw [← eN4] at H
    have H : Ev none (e1 + 1) 208 91 [some (.ref 633), some (.int c), c2, c3] [] N4 v M' 0 0 := H
    have H : Ev none (e1 + 1) 208 76 [some (.ref 633), some (.int (c + 1)), c2, c3] [] N4 v M' 0 0 := Ev.back 2 (fun n => rfl) H
    have HF := H
    subst eN4
    exact Or.inr (⟨h2, HF⟩)
theorem rwm_0 {e : Nat} {M M' : Mem} {v : Option Value} (hS : SQ M) (H : Ev none e 216 0 [some (.ref 633), none, none] [] M v M' 0 0) : Ev none e 216 4 [some (.ref 633), some (.int 0), some (.int 0)] [] M v M' 0 0 := by
  have H : Ev none e 216 4 [some (.ref 633), some (.int 0), some (.int 0)] [] M v M' 0 0 := Ev.back 4 (fun n => rfl) H
  have HF := H
  exact HF
theorem rwm_4 {e : Nat} {M M' : Mem} {v : Option Value} {nn c : Int32} (hS : SQ M) (H : Ev none e 216 4 [some (.ref 633), some (.int nn), some (.int c)] [] M v M' 0 0) : ((G_144 M) ≤ c ∧ v = some (.int nn) ∧ M' = M) ∨ (¬ ((G_144 M) ≤ c) ∧ (G_150 M c) = 0 ∧ Ev none e 216 4 [some (.ref 633), some (.int (nn + 0)), some (.int (c + 1))] [] M v M' 0 0) ∨ (¬ ((G_144 M) ≤ c) ∧ ¬ ((G_150 M c) = 0) ∧ Ev none e 216 4 [some (.ref 633), some (.int (nn + 1)), some (.int (c + 1))] [] M v M' 0 0) := by
  have H : Ev none e 216 6 [some (.ref 633), some (.int nn), some (.int c)] [.ref 633, .int c] M v M' 0 0 := Ev.back 2 (fun n => rfl) H
  obtain ⟨e1, rfl⟩ := Ev.dpos rfl rfl H
  obtain ⟨vK1, MK1, K1, H⟩ := Ev.callb (fun n_ => gs_7 rfl rfl (show gCal (.invokevirtual 128) 11 (.ref 633 :: [.int c]) M = some (.inr (144, [some (.ref 633)], [.int c])) from by show @cond (Option ((List Value × Mem) ⊕ (Nat × Lo × List Value))) (true && gRecv M (.ref 633) 11 && gRoom [.int c] && true) (some (.inr (144, [some (.ref 633)], [.int c]))) none = _; rw [recv_s hS.1 qa_633 qo_61]; rfl)) H
  obtain ⟨pK1, qK1⟩ := g_144 hS K1
  rw [pK1, qK1] at H
  have H : Ev none (e1 + 1) 216 9 [some (.ref 633), some (.int nn), some (.int c)] [.int (G_144 M), .int c] M v M' 0 0 := H
  have H : Ev none (e1 + 1) 216 (if (G_144 M) ≤ c then 34 else 12) [some (.ref 633), some (.int nn), some (.int c)] [] M v M' 0 0 := Ev.back 1 (fun n => rfl) H
  by_cases h2 : (G_144 M) ≤ c
  · rw [if_pos h2] at H
    have H : Ev none (e1 + 1) 216 35 [some (.ref 633), some (.int nn), some (.int c)] [.int nn] M v M' 0 0 := Ev.back 1 (fun n => rfl) H
    obtain ⟨z1, z2⟩ := Ev.retz rfl rfl H
    exact Or.inl ⟨h2, z1, z2⟩
  · rw [if_neg h2] at H
    have H : Ev none (e1 + 1) 216 15 [some (.ref 633), some (.int nn), some (.int c)] [.int c, .ref 633, .int nn] M v M' 0 0 := Ev.back 3 (fun n => rfl) H
    obtain ⟨vK3, MK3, K3, H⟩ := Ev.callb (fun n_ => gs_7 rfl rfl (show gCal (.invokevirtual 140) 11 (.int c :: .ref 633 :: [.int nn]) M = some (.inr (150, [some (.ref 633), some (.int c)], [.int nn])) from by show @cond (Option ((List Value × Mem) ⊕ (Nat × Lo × List Value))) (true && gRecv M (.ref 633) 11 && gRoom [.int nn] && true) (some (.inr (150, [some (.ref 633), some (.int c)], [.int nn]))) none = _; rw [recv_s hS.1 qa_633 qo_61]; rfl)) H
    obtain ⟨pK3, qK3⟩ := g_150 hS K3
    rw [pK3, qK3] at H
    have H : Ev none (e1 + 1) 216 18 [some (.ref 633), some (.int nn), some (.int c)] [.int (G_150 M c), .int nn] M v M' 0 0 := H
    have H : Ev none (e1 + 1) 216 (if (G_150 M c) = 0 then 25 else 21) [some (.ref 633), some (.int nn), some (.int c)] [.int nn] M v M' 0 0 := Ev.back 1 (fun n => rfl) H
    by_cases h4 : (G_150 M c) = 0
    · rw [if_pos h4] at H
      have H : Ev none (e1 + 1) 216 4 [some (.ref 633), some (.int (nn + 0)), some (.int (c + 1))] [] M v M' 0 0 := Ev.back 5 (fun n => rfl) H
      have HF := H
      exact Or.inr (Or.inl ⟨h2, h4, HF⟩)
    · rw [if_neg h4] at H
      have H : Ev none (e1 + 1) 216 4 [some (.ref 633), some (.int (nn + 1)), some (.int (c + 1))] [] M v M' 0 0 := Ev.back 6 (fun n => rfl) H
      have HF := H
      exact Or.inr (Or.inr (⟨h2, h4, HF⟩))
theorem rgg_0 {e : Nat} {M M' : Mem} {v : Option Value} {n : Int32} (hS : SQ M) (H : Ev none e 222 0 [some (.ref 633), some (.int n), none] [] M v M' 0 0) : Ev none e 222 2 [some (.ref 633), some (.int n), some (.int 0)] [] M v M' 0 0 := by
  have H : Ev none e 222 2 [some (.ref 633), some (.int n), some (.int 0)] [] M v M' 0 0 := Ev.back 2 (fun n => rfl) H
  have HF := H
  exact HF
theorem rgg_2 {e : Nat} {M M' : Mem} {v : Option Value} {n k : Int32} (hS : SQ M) (H : Ev none e 222 2 [some (.ref 633), some (.int n), some (.int k)] [] M v M' 0 0) : (n ≤ k ∧ (∃ e1 v1 M1, e = e1 + 1 ∧ Ev none e1 208 0 [some (.ref 633), none, none, none] [] M v1 M1 0 0 ∧ Ev none e 222 21 [some (.ref 633), some (.int n), some (.int k)] (v1.toList ++ []) M1 v M' 0 0)) ∨ (¬ (n ≤ k) ∧ (∃ e1 v1 M1, e = e1 + 1 ∧ Ev none e1 204 0 [some (.ref 633), none, none, none] [] M v1 M1 0 0 ∧ Ev none e 222 11 [some (.ref 633), some (.int n), some (.int k)] (v1.toList ++ []) M1 v M' 0 0)) := by
  have H : Ev none e 222 (if n ≤ k then 17 else 7) [some (.ref 633), some (.int n), some (.int k)] [] M v M' 0 0 := Ev.back 3 (fun n => rfl) H
  by_cases h1 : n ≤ k
  · rw [if_pos h1] at H
    have H : Ev none e 222 18 [some (.ref 633), some (.int n), some (.int k)] [.ref 633] M v M' 0 0 := Ev.back 1 (fun n => rfl) H
    obtain ⟨e1, rfl⟩ := Ev.dpos rfl rfl H
    obtain ⟨vK2, MK2, K2, H⟩ := Ev.callb (fun n_ => gs_7 rfl rfl (show gCal (.invokevirtual 426) 11 (.ref 633 :: []) M = some (.inr (208, [some (.ref 633), none, none, none], [])) from by show @cond (Option ((List Value × Mem) ⊕ (Nat × Lo × List Value))) (true && gRecv M (.ref 633) 11 && gRoom [] && true) (some (.inr (208, [some (.ref 633), none, none, none], []))) none = _; rw [recv_s hS.1 qa_633 qo_61]; rfl)) H
    have K2 : Ev none e1 208 0 [some (.ref 633), none, none, none] [] M vK2 MK2 0 0 := K2
    have HF := H
    exact Or.inl ⟨h1, ⟨e1, vK2, MK2, rfl, K2, HF⟩⟩
  · rw [if_neg h1] at H
    have H : Ev none e 222 8 [some (.ref 633), some (.int n), some (.int k)] [.ref 633] M v M' 0 0 := Ev.back 1 (fun n => rfl) H
    obtain ⟨e1, rfl⟩ := Ev.dpos rfl rfl H
    obtain ⟨vK3, MK3, K3, H⟩ := Ev.callb (fun n_ => gs_7 rfl rfl (show gCal (.invokevirtual 423) 11 (.ref 633 :: []) M = some (.inr (204, [some (.ref 633), none, none, none], [])) from by show @cond (Option ((List Value × Mem) ⊕ (Nat × Lo × List Value))) (true && gRecv M (.ref 633) 11 && gRoom [] && true) (some (.inr (204, [some (.ref 633), none, none, none], []))) none = _; rw [recv_s hS.1 qa_633 qo_61]; rfl)) H
    have K3 : Ev none e1 204 0 [some (.ref 633), none, none, none] [] M vK3 MK3 0 0 := K3
    have HF := H
    exact Or.inr (⟨h1, ⟨e1, vK3, MK3, rfl, K3, HF⟩⟩)
theorem rgg_11 {e : Nat} {M M' : Mem} {v : Option Value} {n k : Int32} (hS : SQ M) (H : Ev none e 222 11 [some (.ref 633), some (.int n), some (.int k)] [] M v M' 0 0) : Ev none e 222 2 [some (.ref 633), some (.int n), some (.int (k + 1))] [] M v M' 0 0 := by
  have H : Ev none e 222 2 [some (.ref 633), some (.int n), some (.int (k + 1))] [] M v M' 0 0 := Ev.back 2 (fun n => rfl) H
  have HF := H
  exact HF
theorem rgg_21 {e : Nat} {M M' : Mem} {v : Option Value} {n k : Int32} (hS : SQ M) (H : Ev none e 222 21 [some (.ref 633), some (.int n), some (.int k)] [] M v M' 0 0) : v = none ∧ M' = M := by
  obtain ⟨z1, z2⟩ := Ev.retb (fun n => rfl) H
  exact ⟨z1, z2⟩
/-! THE REFERENCE'S holds -/
def RST (T : TS) (P : PK) (M : Mem) : Prop := SQ M ∧ (∀ i, i < 2314 → rN M 635 i = P i) ∧ (zI M 633 28 = bdQ (T 0) ∧ zI M 633 29 = mdQ (T 0) ∧ zI M 633 30 = dyQ (T 0)) ∧ ∀ t, t < 7 → (TXR M t (T t) ∧ LW (T t)) ∧ (T t).1.2.2.length ≤ 96
def tuW (a : Nat) : Prop := a = 649
section RHL
variable {e : Nat} {T : TS} {P P' : PK} {M M1 M' : Mem} {v : Option Value} {c d : Int32}
theorem RST.sq (h : RST T P M) : SQ M := h.1
theorem TXR.fz {F : Nat → Nat → Prop} {W O : Nat → Prop} {t : Nat} {q : Sg × List Lnq} (h : TXR M t q) (hF : FZ F W O M M') (w : ∀ a, 639 ≤ a → a ≤ 647 → ¬ W a) : TXR M' t q := by
  obtain ⟨⟨h1, h2, h3⟩, h4⟩ := h
  refine ⟨⟨by rw [hF.rn (w 639 (by decide) (by decide))]; exact h1, h2, fun j l hj => ?_⟩, fun j cd h5 hj => ?_⟩
  · rw [hF.rn (w 640 (by decide) (by decide)), hF.rn (w 641 (by decide) (by decide)), hF.rn (w 642 (by decide) (by decide)), hF.rn (w 643 (by decide) (by decide)), hF.rn (w 644 (by decide) (by decide))]
    exact h3 j l hj
  · rw [hF.rn (w 645 (by decide) (by decide)), hF.rn (w 646 (by decide) (by decide)), hF.rn (w 647 (by decide) (by decide))]
    exact h4 j cd h5 hj
theorem RST.fz {F : Nat → Nat → Prop} {W O : Nat → Prop} (h : RST T P M) (hS : SQ M') (hF : FZ F W O M M') (f : ∀ k, 28 ≤ k → k ≤ 30 → ¬ F 633 k) (w : ∀ a, (a = 635 ∨ (639 ≤ a ∧ a ≤ 647)) → ¬ W a) : RST T P M' := by
  obtain ⟨_, h2, ⟨h3, h4, h5⟩, h6⟩ := h
  refine ⟨hS, fun i hi => by rw [hF.rn (w 635 (Or.inl rfl))]; exact h2 i hi, ⟨?_, ?_, ?_⟩, fun t ht => ?_⟩
  · rw [hF.fi (f 28 (by decide) (by decide))]; exact h3
  · rw [hF.fi (f 29 (by decide) (by decide))]; exact h4
  · rw [hF.fi (f 30 (by decide) (by decide))]; exact h5
  · obtain ⟨⟨q1, q2⟩, q3⟩ := h6 t ht
    exact ⟨⟨q1.fz hF (fun a h1 h2 => w a (Or.inr ⟨h1, h2⟩)), q2⟩, q3⟩
theorem r_cell (h : RST T P M) (hw : wh4 P) (hc : inC P c) {f : Int32} {fn : Nat} (hf : f.toInt = (fn : Int)) (hf6 : fn ≤ 6) : G_146 M c f = cE P fn c := by
  obtain ⟨c0, _, c2⟩ := hc.lt hw
  have e := i32_cell (c := c) (k := f) c0 c2 (by omega) (by omega)
  have e2 : ((522 + 7 * c) + f).toNatClampNeg = cX fn c := by
    refine cl_n ?_
    rw [e]
    unfold cX
    have := Int.toNat_of_nonneg c0
    omega
  unfold G_146 rI cE
  rw [e2]
  exact h.2.1 _ (by unfold cX; omega)
theorem r_s (h : RST T P M) {i : Int32} {n : Nat} (hi : i.toInt = (n : Int)) (hn : n < 2314) : rI M 635 i = P n := by
  unfold rI
  rw [cl_n hi]
  exact h.2.1 n hn
theorem r0 (h : RST T P M) : rI M 635 0 = P 0 := r_s h (n := 0) rfl (by decide)
theorem r1 (h : RST T P M) : rI M 635 1 = P 1 := r_s h (n := 1) rfl (by decide)
theorem g148_ok (h : RST T P M) (hw : wh4 P) (hc : inC P c) : G_148 M c = bI (opnB P c) := by
  unfold G_148 opnB
  rw [r_cell h hw hc (fn := 0) rfl (by decide)]
  by_cases h3 : cE P 0 c = 3
  · rw [if_pos h3, decide_eq_true h3]; rfl
  · rw [if_neg h3, decide_eq_false h3]
    by_cases h6 : cE P 0 c = 6
    · rw [if_pos h6, decide_eq_true h6]; rfl
    · rw [if_neg h6, decide_eq_false h6]; rfl
theorem g149_ok (h : RST T P M) (hw : wh4 P) (hc : inC P c) : G_149 M c = bI (grnB P c) := by
  unfold G_149 grnB
  rw [r_cell h hw hc (fn := 0) rfl (by decide)]
  by_cases h3 : cE P 0 c = 0
  · rw [if_pos h3, decide_eq_true h3]; rfl
  · rw [if_neg h3, decide_eq_false h3]
    by_cases h6 : cE P 0 c = 2
    · rw [if_pos h6, decide_eq_true h6]; rfl
    · rw [if_neg h6, decide_eq_false h6]; rfl
theorem g150_ok (h : RST T P M) (hw : wh4 P) (hc : inC P c) : G_150 M c = bI (wrnB (T 0) P c) := by
  unfold G_150 wrnB
  rw [r_cell h hw hc (fn := 3) rfl (by decide), h.2.2.1.1]
  by_cases hl : cE P 3 c < bdQ (T 0)
  · rw [if_pos hl, decide_eq_false (fun q => by rw [Int32.lt_iff_toInt_lt] at hl; have := Int32.le_iff_toInt_le.mp q; omega)]; rfl
  · rw [if_neg hl, decide_eq_true (Int32.le_iff_toInt_le.mpr (by rw [Int32.lt_iff_toInt_lt] at hl; omega))]; rfl
theorem g151_ok (h : RST T P M) (hw : wh4 P) (hc : inC P c) : G_151 M c = bI (decide (bdQ (T 0) ≤ cE P 3 c ∧ mdQ (T 0) ≤ cE P 4 c)) := by
  unfold G_151
  rw [g150_ok h hw hc, r_cell h hw hc (fn := 4) rfl (by decide), h.2.2.1.2.1]
  unfold wrnB
  by_cases h1 : bdQ (T 0) ≤ cE P 3 c
  · rw [decide_eq_true h1, if_neg (by decide)]
    by_cases hl : cE P 4 c < mdQ (T 0)
    · rw [if_pos hl, decide_eq_false (fun q => by rw [Int32.lt_iff_toInt_lt] at hl; have := Int32.le_iff_toInt_le.mp q.2; omega)]; rfl
    · rw [if_neg hl, decide_eq_true ⟨h1, Int32.le_iff_toInt_le.mpr (by rw [Int32.lt_iff_toInt_lt] at hl; omega)⟩]; rfl
  · rw [decide_eq_false h1, if_pos (by decide), decide_eq_false (fun q => h1 q.1)]; rfl
theorem g141_ok (x : Int32) : G_141 M x = absI x := by
  unfold G_141 absI
  by_cases h : x < 0
  · rw [if_pos h, if_neg (fun q => by rw [i32_z] at h; have := Int32.le_iff_toInt_le.mp q; have e : (0 : Int32).toInt = 0 := rfl; omega)]
  · rw [if_neg h, if_pos (Int32.le_iff_toInt_le.mpr (by rw [i32_z] at h; have e : (0 : Int32).toInt = 0 := rfl; omega))]
theorem g195_ok (h : RST T P M) {x y : Int32} : G_195 M x y = acrP P x y := by
  unfold G_195 acrP
  rw [g141_ok, r0 h]
theorem g196_ok (h : RST T P M) {x y : Int32} : G_196 M x y = aloP P x y := by
  unfold G_196 aloP
  rw [g141_ok, r0 h]
theorem g192_ok : G_192 M d = eastI d := by
  unfold G_192 eastI
  by_cases h : d - d / 4 * 4 = 0
  · rw [if_pos h, if_pos h]
  · rw [if_neg h, if_neg h]
    by_cases h4 : 4 ≤ d
    · rw [if_pos h4, if_neg (fun q => by rw [Int32.lt_iff_toInt_lt] at q; have := Int32.le_iff_toInt_le.mp h4; omega)]
    · rw [if_neg h4, if_pos (by rw [Int32.lt_iff_toInt_lt]; have : ¬ (4 : Int32).toInt ≤ d.toInt := fun q => h4 (Int32.le_iff_toInt_le.mpr q); omega)]
theorem g193_ok : G_193 M d = southI d := by
  unfold G_193 southI G_140
  by_cases h : d - d / 4 * 4 = 2
  · rw [if_pos h, if_pos h]
  · rw [if_neg h, if_neg h]
    by_cases h3 : d < 3
    · rw [if_pos h3, if_pos rfl, if_pos h3]
    · rw [if_neg h3, if_neg h3]
      by_cases h5 : 5 < d
      · rw [if_pos h5, if_pos rfl, if_pos h5]
      · rw [if_neg h5, if_neg (by decide), if_neg h5]
theorem g194_ok (h : RST T P M) : G_194 M c d = besP P c d := by
  unfold G_194 besP besI
  rw [g192_ok, g193_ok, r0 h, r1 h]
  unfold G_140
  obtain ⟨x, ex⟩ : ∃ x, x = c - c / P 0 * P 0 + eastI d := ⟨_, rfl⟩
  obtain ⟨y, ey⟩ : ∃ y, y = c / P 0 + southI d := ⟨_, rfl⟩
  rw [← ex, ← ey]
  by_cases h1 : x < 0
  · rw [if_pos h1, if_pos rfl, if_pos h1]
  · rw [if_neg h1, if_neg h1]
    by_cases h2 : P 0 - 1 < x
    · rw [if_pos h2, if_pos rfl, if_pos h2]
    · rw [if_neg h2, if_neg (by decide), if_neg h2]
      by_cases h3 : y < 0
      · rw [if_pos h3, if_pos rfl, if_pos h3]
      · rw [if_neg h3, if_neg h3]
        by_cases h4 : P 1 - 1 < y
        · rw [if_pos h4, if_pos rfl, if_pos h4]
        · rw [if_neg h4, if_neg (by decide), if_neg h4]
theorem g144_ok (h : RST T P M) (hw : wh4 P) : (G_144 M).toInt = (clsP P : Int) := by
  obtain ⟨e1, e2, _⟩ := cls_int hw
  unfold G_144
  rw [r0 h, r1 h, i32_mul (by omega) (by omega), e1]
theorem ris_ok (h : RST T P M) (hw : wh4 P) (hc : inC P c) {cd : Cdq} (hk : atC cd) (h7 : cd.1.toInt ≤ 7) (H : Ev none e 186 0 [some (.ref 633), some (.int c), some (.int cd.1)] [] M v M' 0 0) : M' = M ∧ v = some (.int (bI (trP (T 0) P c cd))) := by
  have hS := h.1
  obtain ⟨m, hm, he⟩ := i32_in (k := 7) hk.1 h7 (by decide)
  obtain ⟨a, s, n⟩ := cd
  have he : a = nI m := he
  subst he
  have k0 : ∀ f, f = (0 : Int32) → G_146 M c f = cE P 0 c := fun f hf => by rw [hf]; exact r_cell h hw hc rfl (by decide)
  clear hk h7
  match m, hm with
  | 0, _ =>
    have et : trP (T 0) P c (nI 0, s, n) = decide (cE P 0 c = 0) := rfl
    rw [et]
    rcases ris0_0 hS H with ⟨a1, h1, h2⟩ | ⟨a1, h1, h2⟩
    · rw [k0 0 rfl] at a1; exact ⟨h2, by rw [h1, decide_eq_true a1]; rfl⟩
    · rw [k0 0 rfl] at a1; exact ⟨h2, by rw [h1, decide_eq_false a1]; rfl⟩
  | 1, _ =>
    have et : trP (T 0) P c (nI 1, s, n) = decide (cE P 0 c = 1) := rfl
    rw [et]
    rcases ris1_0 hS H with ⟨a1, h1, h2⟩ | ⟨a1, h1, h2⟩
    · rw [k0 0 rfl] at a1; exact ⟨h2, by rw [h1, decide_eq_true a1]; rfl⟩
    · rw [k0 0 rfl] at a1; exact ⟨h2, by rw [h1, decide_eq_false a1]; rfl⟩
  | 2, _ =>
    have et : trP (T 0) P c (nI 2, s, n) = decide (cE P 0 c = 2) := rfl
    rw [et]
    rcases ris2_0 hS H with ⟨a1, h1, h2⟩ | ⟨a1, h1, h2⟩
    · rw [k0 0 rfl] at a1; exact ⟨h2, by rw [h1, decide_eq_true a1]; rfl⟩
    · rw [k0 0 rfl] at a1; exact ⟨h2, by rw [h1, decide_eq_false a1]; rfl⟩
  | 3, _ =>
    have et : trP (T 0) P c (nI 3, s, n) = decide (cE P 0 c = 4) := rfl
    rw [et]
    rcases ris3_0 hS H with ⟨a1, h1, h2⟩ | ⟨a1, h1, h2⟩
    · rw [k0 0 rfl] at a1; exact ⟨h2, by rw [h1, decide_eq_true a1]; rfl⟩
    · rw [k0 0 rfl] at a1; exact ⟨h2, by rw [h1, decide_eq_false a1]; rfl⟩
  | 4, _ =>
    have et : trP (T 0) P c (nI 4, s, n) = decide (cE P 0 c = 5) := rfl
    rw [et]
    rcases ris4_0 hS H with ⟨a1, h1, h2⟩ | ⟨a1, h1, h2⟩
    · rw [k0 0 rfl] at a1; exact ⟨h2, by rw [h1, decide_eq_true a1]; rfl⟩
    · rw [k0 0 rfl] at a1; exact ⟨h2, by rw [h1, decide_eq_false a1]; rfl⟩
  | 5, _ =>
    have et : trP (T 0) P c (nI 5, s, n) = decide (cE P 1 c = 1) := rfl
    rw [et]
    rcases ris5_0 hS H with ⟨a1, h1, h2⟩ | ⟨a1, h1, h2⟩
    · rw [r_cell h hw hc (fn := 1) rfl (by decide)] at a1; exact ⟨h2, by rw [h1, decide_eq_true a1]; rfl⟩
    · rw [r_cell h hw hc (fn := 1) rfl (by decide)] at a1; exact ⟨h2, by rw [h1, decide_eq_false a1]; rfl⟩
  | 6, _ =>
    have et : trP (T 0) P c (nI 6, s, n) = decide (bdQ (T 0) ≤ cE P 3 c ∧ mdQ (T 0) ≤ cE P 4 c) := rfl
    rw [et]
    obtain ⟨h1, h2⟩ := ris6_0 hS H
    exact ⟨h2, by rw [h1, g151_ok h hw hc]⟩
  | 7, _ =>
    have et : trP (T 0) P c (nI 7, s, n) = decide (bdQ (T 0) ≤ cE P 3 c) := rfl
    rw [et]
    obtain ⟨h1, h2⟩ := ris7_0 hS H
    exact ⟨h2, by rw [h1, g150_ok h hw hc]; rfl⟩
/-! the pile -/
def RTr (M : Mem) (st : List Bool) : Prop := ∀ j x, st.reverse[j]? = some x → rN M 649 j = bI x
theorem nar_b1 (x : Bool) : vp_nar .boolean (bI x) = bI x := nar_same (by cases x <;> decide)
theorem len649 (hS : SH M) : (zrw M 649).length = 60 := (hS.row qa_649 qw_77).2
theorem RTr.top {x : Bool} {st : List Bool} (h : RTr M (x :: st)) : rN M 649 st.length = bI x := h st.length x (by
  rw [List.reverse_cons, List.getElem?_append_right (by rw [List.length_reverse]; exact Nat.le_refl _), List.length_reverse, Nat.sub_self]
  rfl)
theorem RTr.pop {x : Bool} {st : List Bool} (h : RTr M (x :: st)) : RTr M st := fun j y hj => h j y (by
  have hl := (List.getElem?_eq_some_iff.mp hj).1
  rw [List.reverse_cons, List.getElem?_append_left hl]
  exact hj)
theorem RTr.push {x : Bool} {st : List Bool} (hS : SH M) (h : RTr M st) (hl : st.length < 60) : RTr (wI M 649 st.length (bI x)) (x :: st) := fun j y hj => by
  rw [List.reverse_cons] at hj
  by_cases hjl : j < st.length
  · rw [rN_wI_ne (by omega)]
    rw [List.getElem?_append_left (by rw [List.length_reverse]; exact hjl)] at hj
    exact h j y hj
  · have hl2 := (List.getElem?_eq_some_iff.mp hj).1
    rw [List.length_append, List.length_reverse] at hl2
    have hj2 : j = st.length := by
      have : [x].length = 1 := rfl
      omega
    subst hj2
    rw [List.getElem?_append_right (by rw [List.length_reverse]; exact Nat.le_refl _), List.length_reverse, Nat.sub_self] at hj
    cases hj
    exact rN_wI_eq (by rw [len649 hS]; exact hl)
theorem tu_rst (h : RST T P M) (hS : SQ M') (hF : FZ noF tuW noO M M') : RST T P M' := h.fz hS hF (fun _ _ _ q => q) (fun a ha q => by unfold tuW at q; omega)
end RHL
/-! THE REFERENCE'S holds: the loop -/
section RHO
variable {e t : Nat} {T : TS} {P P' : PK} {M M1 M' : Mem} {v : Option Value} {c d : Int32}
theorem i32_m1e {n : Int32} (h : -2147483647 ≤ n.toInt) : (n + Int32.ofInt (-1)).toInt = n.toInt - 1 := by
  have e : Int32.ofInt (-1) = -1 := rfl
  rw [e]
  exact i32_a1 h
theorem rhold_loop (hw : wh4 P) (hc : inC P c) (ht7 : t < 7) {x tx : Int32} (htx : tx.toInt = (t : Int)) {to : Nat} (h96 : to ≤ 96) : ∀ (cs : List Cdq) (M : Mem) (j : Nat) (st : List Bool) (sn kk : Int32) (c6 c7 : Option Value), RST T P M → (rI M 644 x).toInt = (to : Int) → (∀ a cd, cs[a]? = some cd → (T t).1.2.2[j + a]? = some cd) → kk.toInt = ((200 * t + j : Nat) : Int) → j + cs.length = to → okC cs st.length → st.length ≤ 32 → sn.toInt = (st.length : Int) → RTr M st → Ev none e 187 39 [some (.ref 633), some (.int x), some (.int c), some (.int tx), some (.int sn), some (.int kk), c6, c7] [] M v M' 0 0 → v = some (.int (bI ((evC (trP (T 0) P c) cs st).headD true))) ∧ SQ M' ∧ FZ noF tuW noO M M' := by
  have z0 : (0 : Int32).toInt = 0 := rfl
  have z1 : (1 : Int32).toInt = 1 := rfl
  have z8 : (8 : Int32).toInt = 8 := rfl
  have z200 : (200 : Int32).toInt = 200 := rfl
  have etx : (200 : Int32).toInt * tx.toInt = 200 * (t : Int) := by rw [z200, htx]
  have m200 : (200 * tx).toInt = 200 * (t : Int) := by rw [i32_mul (by omega) (by omega), etx]
  intro cs
  induction cs with
  | nil =>
    intro M j st sn kk c6 c7 hR hto _ hkk hlen hok hl hsn hT H
    have hlen : j + 0 = to := hlen
    have hok : st.length = 1 := hok
    obtain ⟨b, rfl⟩ := List.length_eq_one_iff.mp hok
    have hs : ((200 * tx) + (rI M 644 x)).toInt = 200 * (t : Int) + (to : Int) := by rw [i32_add (by omega) (by omega), m200, hto]
    rcases rho_39 hR.1 H with ⟨_, _, _, h1, h2⟩ | ⟨a1, _⟩
    · subst h2
      have : rI M' 649 0 = bI b := hT.top
      rw [this] at h1
      exact ⟨h1, hR.1, FZ.refl _⟩
    · exact absurd (Int32.le_iff_toInt_le.mpr (by omega)) a1
  | cons cd cs ih =>
    intro M j st sn kk c6 c7 hR hto hcs hkk hlen hok hl hsn hT H
    have hS := hR.1
    have hlen : j + (cs.length + 1) = to := hlen
    have hs : ((200 * tx) + (rI M 644 x)).toInt = 200 * (t : Int) + (to : Int) := by rw [i32_add (by omega) (by omega), m200, hto]
    have hcd : (T t).1.2.2[j]? = some cd := hcs 0 cd rfl
    have hk1 : (kk + 1).toInt = ((200 * t + (j + 1) : Nat) : Int) := by
      rw [i32_p1 (by omega)]
      omega
    have hcs2 : ∀ a cd, cs[a]? = some cd → (T t).1.2.2[j + 1 + a]? = some cd := fun a cd h => by
      rw [show j + 1 + a = j + (a + 1) from by omega]
      exact hcs (a + 1) cd h
    obtain ⟨p1, p2, p3⟩ := (hR.2.2.2 t ht7).1.1.2 j cd (by omega) hcd
    rw [← rI_n hkk] at p1 p2 p3
    have wr : ∀ (i : Nat) (y : Int32), SQ (wI M 649 i y) ∧ FZ noF tuW noO M (wI M 649 i y) ∧ RST T P (wI M 649 i y) ∧ (rI (wI M 649 i y) 644 x).toInt = (to : Int) := fun i y => by
      have hF : FZ noF tuW noO M (wI M 649 i y) := FZ.wI (W := tuW) rfl
      refine ⟨hS.ki, hF, tu_rst hR hS.ki hF, ?_⟩
      have : rI (wI M 649 i y) 644 x = rI M 644 x := by
        unfold rI
        exact rN_wI_ne (by omega)
      rw [this]
      exact hto
    rcases rho_39 hS H with ⟨a1, _⟩ | ⟨_, _, _, H⟩
    · have := Int32.le_iff_toInt_le.mp a1
      omega
    · rw [p1] at H
      by_cases c20 : cd.1 = 20
      · have hok : (if cd.1 = 20 then 1 ≤ st.length ∧ okC cs st.length else _) := hok
        rw [if_pos c20] at hok
        obtain ⟨o1, o2⟩ := hok
        match st, o1, o2, hl, hsn, hT with
        | b :: st, _, o2, hl, hsn, hT =>
          have hsn : sn.toInt = ((st.length + 1 : Nat) : Int) := hsn
          have hl : st.length + 1 ≤ 32 := hl
          have he : evC (trP (T 0) P c) (cd :: cs) (b :: st) = evC (trP (T 0) P c) cs ((!b) :: st) := by
            show evC (trP (T 0) P c) cs (if cd.1 = 20 then _ else _) = _
            rw [if_pos c20]
          rw [he]
          have hm : (sn - 1).toInt = (st.length : Int) := by rw [i32_m1 (by omega)]; omega
          have hv : rI M 649 (sn - 1) = bI b := by
            rw [rI_n hm]
            exact hT.top
          have go : ∀ y, y = bI (!b) → Ev none e 187 39 [some (.ref 633), some (.int x), some (.int c), some (.int tx), some (.int sn), some (.int (kk + 1)), some (.int cd.1), c7] [] (wI M 649 ((sn - 1).toNatClampNeg) (vp_nar .boolean y)) v M' 0 0 → v = some (.int (bI ((evC (trP (T 0) P c) cs ((!b) :: st)).headD true))) ∧ SQ M' ∧ FZ noF tuW noO M M' := fun y hy H => by
            rw [hy, nar_b1, cl_n hm] at H
            obtain ⟨w1, w2, w3, w4⟩ := wr st.length (bI (!b))
            obtain ⟨r1, r2, r3⟩ := ih _ (j + 1) ((!b) :: st) sn (kk + 1) _ _ w3 w4 hcs2 hk1 (by omega) o2 hl hsn (hT.pop.push hS.1 (by omega)) H
            exact ⟨r1, r2, w2.trans r3⟩
          rcases rho_65 hS H with ⟨_, a2, _, _, H⟩ | ⟨_, a2, _, _, H⟩ | ⟨a1, _⟩ | ⟨a1, _⟩ | ⟨a1, _⟩ | ⟨a1, _⟩ | ⟨a1, _⟩ | ⟨a1, _⟩ | ⟨a1, _⟩
          · rw [hv, bI_0] at a2
            exact go 1 (by rw [a2]; rfl) H
          · rw [hv, bI_0, Bool.not_eq_false] at a2
            exact go 0 (by rw [a2]; rfl) H
          all_goals exact absurd c20 a1
      · have h2122 : cd.1 = 21 ∨ cd.1 = 22 → v = some (.int (bI ((evC (trP (T 0) P c) (cd :: cs) st).headD true))) ∧ SQ M' ∧ FZ noF tuW noO M M' := fun h2 => by
          have hok : (if cd.1 = 20 then _ else if cd.1 = 21 ∨ cd.1 = 22 then 2 ≤ st.length ∧ okC cs (st.length - 1) else _) := hok
          rw [if_neg c20, if_pos h2] at hok
          obtain ⟨o1, o2⟩ := hok
          match st, o1, o2, hl, hsn, hT with
          | y :: b :: st, _, o2, hl, hsn, hT =>
            have hsn : sn.toInt = ((st.length + 2 : Nat) : Int) := hsn
            have hl : st.length + 2 ≤ 32 := hl
            have H2 : Ev none e 187 118 [some (.ref 633), some (.int x), some (.int c), some (.int tx), some (.int (sn + Int32.ofInt (-1))), some (.int kk), some (.int cd.1), c7] [] M v M' 0 0 := by
              rcases rho_65 hS H with ⟨a1, _⟩ | ⟨a1, _⟩ | ⟨_, _, H⟩ | ⟨_, _, _, H⟩ | ⟨_, a1, a2, _⟩ | ⟨_, a1, a2, _⟩ | ⟨_, a1, a2, _⟩ | ⟨_, a1, a2, _⟩ | ⟨_, a1, a2, _⟩
              · exact absurd a1 c20
              · exact absurd a1 c20
              · exact H
              · exact H
              all_goals exact (h2.elim a1 a2).elim
            obtain ⟨s1, es1⟩ : ∃ s1, s1 = sn + Int32.ofInt (-1) := ⟨_, rfl⟩
            have hs1 : s1.toInt = ((st.length + 1 : Nat) : Int) := by rw [es1, i32_m1e (by omega)]; omega
            rw [← es1] at H2
            have hm : (s1 - 1).toInt = (st.length : Int) := by rw [i32_m1 (by omega)]; omega
            have hv0 : rI M 649 (s1 - 1) = bI b := by
              rw [rI_n hm]
              exact hT.pop.top
            have hv1 : rI M 649 s1 = bI y := by
              rw [rI_n hs1]
              exact hT.top
            have go : ∀ (q : Bool) (z : Int32), z = bI q → evC (trP (T 0) P c) (cd :: cs) (y :: b :: st) = evC (trP (T 0) P c) cs (q :: st) → Ev none e 187 39 [some (.ref 633), some (.int x), some (.int c), some (.int tx), some (.int s1), some (.int (kk + 1)), some (.int cd.1), c7] [] (wI M 649 ((s1 - 1).toNatClampNeg) (vp_nar .boolean z)) v M' 0 0 → v = some (.int (bI ((evC (trP (T 0) P c) (cd :: cs) (y :: b :: st)).headD true))) ∧ SQ M' ∧ FZ noF tuW noO M M' := fun q z hz he H => by
              rw [hz, nar_b1, cl_n hm] at H
              rw [he]
              obtain ⟨w1, w2, w3, w4⟩ := wr st.length (bI q)
              obtain ⟨r1, r2, r3⟩ := ih _ (j + 1) (q :: st) s1 (kk + 1) _ _ w3 w4 hcs2 hk1 (by omega) o2 (by show st.length + 1 ≤ 32; omega) hs1 (hT.pop.pop.push hS.1 (by omega)) H
              exact ⟨r1, r2, w2.trans r3⟩
            have e21 : cd.1 = 21 → evC (trP (T 0) P c) (cd :: cs) (y :: b :: st) = evC (trP (T 0) P c) cs ((b && y) :: st) := fun h => by
              show evC (trP (T 0) P c) cs (if cd.1 = 20 then _ else if cd.1 = 21 then _ else _) = _
              rw [if_neg c20, if_pos h]
            have e22 : ¬ cd.1 = 21 → evC (trP (T 0) P c) (cd :: cs) (y :: b :: st) = evC (trP (T 0) P c) cs ((b || y) :: st) := fun h => by
              show evC (trP (T 0) P c) cs (if cd.1 = 20 then _ else if cd.1 = 21 then _ else if cd.1 = 22 then _ else _) = _
              rw [if_neg c20, if_neg h, if_pos (h2.resolve_left h)]
            rcases rho_118 hS H2 with ⟨a1, a2, _, _, H⟩ | ⟨a1, a2, a3, _, _, _, H⟩ | ⟨a1, a2, a3, _, _, _, H⟩ | ⟨a1, a2, a3, _, _, _, H⟩ | ⟨a1, a2, a3, _, _, _, H⟩ | ⟨a1, a2, _, _, H⟩
            · rw [hv0, bI_0] at a2
              exact go (b && y) 0 (by rw [a2]; rfl) (e21 a1) H
            · rw [hv1, bI_0] at a3
              exact go (b && y) 0 (by rw [a3, Bool.and_false]; rfl) (e21 a1) H
            · rw [hv0, bI_0, Bool.not_eq_false] at a2
              rw [hv1, bI_0, Bool.not_eq_false] at a3
              exact go (b && y) 1 (by rw [a2, a3]; rfl) (e21 a1) H
            · rw [hv0, bI_0] at a2
              rw [hv1, bI_0] at a3
              exact go (b || y) 0 (by rw [a2, a3]; rfl) (e22 a1) H
            · rw [hv0, bI_0] at a2
              rw [hv1, bI_0, Bool.not_eq_false] at a3
              exact go (b || y) 1 (by rw [a2, a3]; rfl) (e22 a1) H
            · rw [hv0, bI_0, Bool.not_eq_false] at a2
              exact go (b || y) 1 (by rw [a2]; rfl) (e22 a1) H
        by_cases c21 : cd.1 = 21
        · exact h2122 (Or.inl c21)
        · by_cases c22 : cd.1 = 22
          · exact h2122 (Or.inr c22)
          · clear h2122
            have hok : (if cd.1 = 20 then _ else if cd.1 = 21 ∨ cd.1 = 22 then _ else atC cd ∧ st.length < 32 ∧ okC cs (st.length + 1)) := hok
            rw [if_neg c20, if_neg (fun q => q.elim c21 c22)] at hok
            obtain ⟨o1, o2, o3⟩ := hok
            have he : evC (trP (T 0) P c) (cd :: cs) st = evC (trP (T 0) P c) cs (trP (T 0) P c cd :: st) := by
              show evC (trP (T 0) P c) cs (if cd.1 = 20 then _ else if cd.1 = 21 then _ else if cd.1 = 22 then _ else _) = _
              rw [if_neg c20, if_neg c21, if_neg c22]
            rw [he]
            have hs1 : (sn + 1).toInt = ((st.length + 1 : Nat) : Int) := by rw [i32_p1 (by omega)]; omega
            have go : ∀ (z : Int32) (c6 c7 : Option Value), z = bI (trP (T 0) P c cd) → Ev none e 187 39 [some (.ref 633), some (.int x), some (.int c), some (.int tx), some (.int (sn + 1)), some (.int (kk + 1)), c6, c7] [] (wI M 649 sn.toNatClampNeg (vp_nar .boolean z)) v M' 0 0 → v = some (.int (bI ((evC (trP (T 0) P c) cs (trP (T 0) P c cd :: st)).headD true))) ∧ SQ M' ∧ FZ noF tuW noO M M' := fun z c6 c7 hz H => by
              rw [hz, nar_b1, cl_n hsn] at H
              obtain ⟨w1, w2, w3, w4⟩ := wr st.length (bI (trP (T 0) P c cd))
              obtain ⟨r1, r2, r3⟩ := ih _ (j + 1) (trP (T 0) P c cd :: st) (sn + 1) (kk + 1) _ _ w3 w4 hcs2 hk1 (by omega) o3 (by show st.length + 1 ≤ 32; omega) hs1 (hT.push hS.1 (by omega)) H
              exact ⟨r1, r2, w2.trans r3⟩
            have cmp : ∀ vv : Int32, 8 ≤ cd.1 → trP (T 0) P c cd = cmpV vv cd.2.1 cd.2.2 → Ev none e 187 246 [some (.ref 633), some (.int x), some (.int c), some (.int tx), some (.int sn), some (.int kk), some (.int cd.1), some (.int vv)] [] M v M' 0 0 → v = some (.int (bI ((evC (trP (T 0) P c) cs (trP (T 0) P c cd :: st)).headD true))) ∧ SQ M' ∧ FZ noF tuW noO M M' := fun vv h8 htr H => by
              unfold cmpV at htr
              rcases rho_246 hS H with ⟨_, a1, a2, _, _, _, H⟩ | ⟨_, a1, a2, _, _, _, H⟩ | ⟨_, a1, a2, a3, _, _, _, _, H⟩ | ⟨_, a1, a2, a3, _, _, _, _, H⟩ | ⟨_, a1, a2, a3, _, _, _, _, H⟩ | ⟨_, a1, a2, a3, _, _, _, _, H⟩ | ⟨a1, _⟩
              · rw [p2] at a1
                rw [p3] at a2
                refine go 0 _ _ ?_ H
                rw [htr, if_pos a1, decide_eq_false (fun q => by rw [Int32.lt_iff_toInt_lt] at q; have := Int32.le_iff_toInt_le.mp a2; omega)]
                rfl
              · rw [p2] at a1
                rw [p3] at a2
                refine go 1 _ _ ?_ H
                rw [htr, if_pos a1, decide_eq_true (by rw [Int32.lt_iff_toInt_lt]; have : ¬ cd.2.2.toInt ≤ vv.toInt := fun q => a2 (Int32.le_iff_toInt_le.mpr q); omega)]
                rfl
              · rw [p2] at a1 a2
                rw [p3] at a3
                refine go 1 _ _ ?_ H
                rw [htr, if_neg a1, if_pos a2, decide_eq_true a3]
                rfl
              · rw [p2] at a1 a2
                rw [p3] at a3
                refine go 0 _ _ ?_ H
                rw [htr, if_neg a1, if_pos a2, decide_eq_false a3]
                rfl
              · rw [p2] at a1 a2
                rw [p3] at a3
                refine go 0 _ _ ?_ H
                rw [htr, if_neg a1, if_neg a2, decide_eq_false (fun q => by rw [Int32.lt_iff_toInt_lt] at q; have := Int32.le_iff_toInt_le.mp a3; omega)]
                rfl
              · rw [p2] at a1 a2
                rw [p3] at a3
                refine go 1 _ _ ?_ H
                rw [htr, if_neg a1, if_neg a2, decide_eq_true (by rw [Int32.lt_iff_toInt_lt]; have : ¬ vv.toInt ≤ cd.2.2.toInt := fun q => a3 (Int32.le_iff_toInt_le.mpr q); omega)]
                rfl
              · exact absurd h8 a1
            have trc : 8 ≤ cd.1 → trP (T 0) P c cd = cmpV (if cd.1 = 8 then cE P 3 c else if cd.1 = 9 then cE P 4 c else if cd.1 = 10 then cE P 2 c else cE P 5 c) cd.2.1 cd.2.2 := fun h8 => by
              have h8i := Int32.le_iff_toInt_le.mp h8
              have ne : ∀ k : Int32, k.toInt < 8 → ¬ cd.1 = k := fun k hk q => by rw [q] at h8i; omega
              unfold trP
              rw [if_neg (ne 0 (by decide)), if_neg (ne 1 (by decide)), if_neg (ne 2 (by decide)), if_neg (ne 3 (by decide)), if_neg (ne 4 (by decide)), if_neg (ne 5 (by decide)), if_neg (ne 6 (by decide)), if_neg (ne 7 (by decide))]
            rcases rho_65 hS H with ⟨a1, _⟩ | ⟨a1, _⟩ | ⟨_, a1, _⟩ | ⟨_, _, a1, _⟩ | ⟨_, _, _, a4, a5, H⟩ | ⟨_, _, _, a4, a5, a6, H⟩ | ⟨_, _, _, a4, a5, a6, a7, H⟩ | ⟨_, _, _, a4, a5, a6, a7, H⟩ | ⟨_, _, _, a4, H⟩
            · exact absurd a1 c20
            · exact absurd a1 c20
            · exact absurd a1 c21
            · exact absurd a1 c22
            · rw [r_cell hR hw hc (fn := 3) rfl (by decide)] at H
              exact cmp _ a4 (by rw [trc a4, if_pos a5]) H
            · rw [r_cell hR hw hc (fn := 4) rfl (by decide)] at H
              exact cmp _ a4 (by rw [trc a4, if_neg a5, if_pos a6]) H
            · rw [r_cell hR hw hc (fn := 2) rfl (by decide)] at H
              exact cmp _ a4 (by rw [trc a4, if_neg a5, if_neg a6, if_pos a7]) H
            · rw [r_cell hR hw hc (fn := 5) rfl (by decide)] at H
              exact cmp _ a4 (by rw [trc a4, if_neg a5, if_neg a6, if_neg a7]) H
            · rcases rho_246 hS H with ⟨a1, _⟩ | ⟨a1, _⟩ | ⟨a1, _⟩ | ⟨a1, _⟩ | ⟨a1, _⟩ | ⟨a1, _⟩ | ⟨_, e1, v1, M1, rfl, H1, H⟩
              · exact absurd a1 a4
              · exact absurd a1 a4
              · exact absurd a1 a4
              · exact absurd a1 a4
              · exact absurd a1 a4
              · exact absurd a1 a4
              · have h7 : cd.1.toInt ≤ 7 := by
                  have : ¬ (8 : Int32).toInt ≤ cd.1.toInt := fun q => a4 (Int32.le_iff_toInt_le.mpr q)
                  omega
                obtain ⟨rfl, rfl⟩ := ris_ok hR hw hc o1 h7 H1
                obtain ⟨_, H⟩ := rho_266 hS H
                exact go _ _ _ rfl H
theorem rhold_ok (hR : RST T P M) (hw : wh4 P) (hc : inC P c) (ht7 : t < 7) {x : Int32} {j : Nat} {l : Lnq} (hx : x.toInt = ((16 * t + j : Nat) : Int)) (hl : (T t).2[j]? = some l) (H : Ev none e 187 0 [some (.ref 633), some (.int x), some (.int c), none, none, none, none, none] [] M v M' 0 0) : v = some (.int (bI (hldP (T 0) P (T t) l c))) ∧ SQ M' ∧ FZ noF tuW noO M M' := by
  obtain ⟨⟨hq, hlw⟩, h96⟩ := hR.2.2.2 t ht7
  obtain ⟨_, _, _, k4, k5⟩ := hq.1.2.2 j l hl
  have hj16 : j < 16 := by
    have := (List.getElem?_eq_some_iff.mp hl).1
    have := hq.1.2.1
    omega
  rw [← rI_n hx] at k4 k5
  obtain ⟨_, w1, w2, w3⟩ := hlw l (List.mem_of_getElem? hl)
  have z16 : (16 : Int32).toInt = 16 := rfl
  have z200 : (200 : Int32).toInt = 200 := rfl
  have hxt : (x / 16).toInt = (t : Int) := by
    rw [i32_div (by decide), z16, hx, Int.tdiv_eq_ediv_of_nonneg (by omega)]
    omega
  unfold hldP
  rcases rho_0 hR.1 H with ⟨a1, _, _, h1, h2⟩ | ⟨a1, _, _, _, H⟩
  · subst h2
    have : l.2.2.2.1 = l.2.2.2.2 := by
      have := congrArg Int32.toInt a1
      omega
    rw [if_pos this]
    exact ⟨h1, hR.1, FZ.refl _⟩
  · have hne : ¬ l.2.2.2.1 = l.2.2.2.2 := fun q => a1 (Int32.toInt_inj.mp (by omega))
    rw [if_neg hne]
    have hok : okC (segC (T t) l) 0 := by
      rcases w3 with w3 | ⟨k, e1, e2⟩
      · exact absurd w3 hne
      · exact e2.ok (by omega)
    have hlen : (segC (T t) l).length = l.2.2.2.2 - l.2.2.2.1 := by
      unfold segC
      rw [List.length_take, List.length_drop]
      omega
    have et : (200 : Int32).toInt * (x / 16).toInt = 200 * (t : Int) := by rw [z200, hxt]
    have m200 : (200 * (x / 16)).toInt = 200 * (t : Int) := by rw [i32_mul (by omega) (by omega), et]
    refine rhold_loop hw hc ht7 hxt (to := l.2.2.2.2) (by omega) (segC (T t) l) M l.2.2.2.1 [] 0 _ none none hR k5 (fun a cd h => ?_) (by rw [i32_add (by omega) (by omega), m200, k4]; omega) (by omega) hok (by decide) rfl (fun j x hj => by cases hj) H
    unfold segC at h
    rw [List.getElem?_take] at h
    split at h
    · rw [List.getElem?_drop] at h
      exact h
    · cases h
end RHO
/-! THE REFERENCE'S choose -/
def RWC (w : WC) (t : Nat) (M : Mem) : Prop := zI M 633 34 = w.1 ∧ zI M 633 35 = w.2.1 ∧ (zI M 633 36).toInt = (t : Int) ∧ zI M 633 37 = w.2.2.1 ∧ zI M 633 38 = w.2.2.2.1 ∧ zI M 633 39 = bI w.2.2.2.2
section RCH
variable {e t : Nat} {T : TS} {P P' : PK} {M M1 M' : Mem} {v : Option Value} {c d : Int32} {w : WC}
theorem RWC.tu (h : RWC w t M) (hF : FZ noF tuW noO M M') : RWC w t M' := by
  have z : ∀ k, zI M' 633 k = zI M 633 k := fun k => hF.fi (fun q => q)
  unfold RWC
  rw [z, z, z, z, z, z]
  exact h
theorem RST.tu (h : RST T P M) (hS : SQ M') (hF : FZ noF tuW noO M M') : RST T P M' := tu_rst h hS hF
/-- places of lines -/
theorem ln_pl {tx i : Int32} {j : Nat} (ht : tx.toInt = (t : Int)) (ht7 : t < 7) : (16 * tx).toInt = 16 * (t : Int) := by
  have z16 : (16 : Int32).toInt = 16 := rfl
  have e : (16 : Int32).toInt * tx.toInt = 16 * (t : Int) := by rw [z16, ht]
  rw [i32_mul (by omega) (by omega), e]
theorem ln_end (h : RST T P M) {tx : Int32} (ht : tx.toInt = (t : Int)) (ht7 : t < 7) : ((16 * tx) + (rI M 639 tx)).toInt = 16 * (t : Int) + ((T t).2.length : Int) := by
  have hq := (h.2.2.2 t ht7).1.1.1
  have e := ln_pl (i := 0) (j := 0) ht ht7
  have e2 : (rI M 639 tx).toInt = ((T t).2.length : Int) := by rw [rI_n ht]; exact hq.1
  have := hq.2.1
  rw [i32_add (by omega) (by omega), e, e2]
theorem ln_get (h : RST T P M) (ht7 : t < 7) {i : Int32} {j : Nat} {l : Lnq} (hi : i.toInt = ((16 * t + j : Nat) : Int)) (hl : (T t).2[j]? = some l) : rI M 640 i = l.1 ∧ rI M 641 i = l.2.1 ∧ rI M 642 i = l.2.2.1 := by
  obtain ⟨h1, h2, h3, _⟩ := (h.2.2.2 t ht7).1.1.1.2.2 j l hl
  rw [rI_n hi, rI_n hi, rI_n hi]
  exact ⟨h1, h2, h3⟩
theorem ln_16 (h : RST T P M) (ht7 : t < 7) : (T t).2.length ≤ 16 := (h.2.2.2 t ht7).1.1.1.2.1
theorem rfst_loop (hw : wh4 P) (hc : inC P c) {k dd : Int32} : ∀ (r : List Lnq) (M : Mem) (j : Nat) (i : Int32), RST T P M → (T 0).2.drop j = r → i.toInt = (j : Int) → j ≤ (T 0).2.length → Ev none e 188 3 [some (.ref 633), some (.int k), some (.int c), some (.int dd), some (.int i)] [] M v M' 0 0 → v = some (.int (fstL (T 0) P k c dd r)) ∧ SQ M' ∧ FZ noF tuW noO M M' := by
  intro r
  induction r with
  | nil =>
    intro M j i hR hd hi hj H
    have h1 := dr_nil hd
    have hl := (hR.2.2.2 0 (by decide)).1.1.1.1
    have hl : (rI M 639 0).toInt = ((T 0).2.length : Int) := hl
    rcases rfs_3 hR.1 H with ⟨_, _, h2, h3⟩ | ⟨a1, _⟩ | ⟨a1, _⟩
    · subst h3
      exact ⟨h2, hR.1, FZ.refl _⟩
    all_goals exact absurd (Int32.le_iff_toInt_le.mpr (by omega)) a1
  | cons l r ih =>
    intro M j i hR hd hi hj H
    obtain ⟨h1, h2, h3⟩ := ln_at hd
    have hl := (hR.2.2.2 0 (by decide)).1.1.1.1
    have hl : (rI M 639 0).toInt = ((T 0).2.length : Int) := hl
    have h16 := ln_16 hR (t := 0) (by decide)
    have hi1 : (i + 1).toInt = ((j + 1 : Nat) : Int) := by
      rw [i32_p1 (by omega)]
      omega
    have hi0 : i.toInt = ((16 * 0 + j : Nat) : Int) := by omega
    obtain ⟨k1, k2, k3⟩ := ln_get hR (t := 0) (by decide) hi0 h1
    unfold fstL
    rcases rfs_3 hR.1 H with ⟨a1, _⟩ | ⟨_, a2, _, _, e1, v1, M1, rfl, H1, H⟩ | ⟨_, a2, _, _, H⟩
    · have := Int32.le_iff_toInt_le.mp a1
      omega
    · rw [k1] at a2
      obtain ⟨rfl, q2, q3⟩ := rhold_ok hR hw hc (t := 0) (by decide) hi0 h1 H1
      have hR1 := hR.tu q2 q3
      rcases rfs_32 q2 H with ⟨b1, H⟩ | ⟨b1, _, b2, b3⟩
      · rw [bI_0] at b1
        rw [if_neg (fun q => by rw [q.2] at b1; cases b1)]
        obtain ⟨r1, r2, r3⟩ := ih M1 (j + 1) _ hR1 h2 hi1 (by omega) H
        exact ⟨r1, r2, q3.trans r3⟩
      · rw [bI_0, Bool.not_eq_false] at b1
        rw [if_pos ⟨a2, b1⟩]
        obtain ⟨_, _, n3⟩ := ln_get hR1 (t := 0) (by decide) hi0 h1
        rw [n3] at b2
        subst b3
        exact ⟨b2, q2, q3⟩
    · rw [k1] at a2
      rw [if_neg (fun q => a2 q.1)]
      exact ih M (j + 1) _ hR h2 hi1 (by omega) H
theorem rfst_ok (hR : RST T P M) (hw : wh4 P) (hc : inC P c) {k dd : Int32} (H : Ev none e 188 0 [some (.ref 633), some (.int k), some (.int c), some (.int dd), none] [] M v M' 0 0) : v = some (.int (fstL (T 0) P k c dd (T 0).2)) ∧ SQ M' ∧ FZ noF tuW noO M M' := rfst_loop hw hc (T 0).2 M 0 0 hR rfl rfl (Nat.zero_le _) (rfs_0 hR.1 H)
theorem rmay_loop (hw : wh4 P) (hc : inC P c) (ht7 : t < 7) : ∀ (r : List Lnq) (M : Mem) (j : Nat) (i : Int32), RST T P M → (zI M 633 36).toInt = (t : Int) → (T t).2.drop j = r → i.toInt = ((16 * t + j : Nat) : Int) → j ≤ (T t).2.length → Ev none e 201 8 [some (.ref 633), some (.int c), some (.int i)] [] M v M' 0 0 → v = some (.int (bI (nevL (T 0) P (T t) c r))) ∧ SQ M' ∧ FZ noF tuW noO M M' := by
  intro r
  induction r with
  | nil =>
    intro M j i hR hx hd hi hj H
    have h1 := dr_nil hd
    have hl := ln_end hR hx ht7
    rcases rma_8 hR.1 H with ⟨_, _, h2, h3⟩ | ⟨a1, _⟩ | ⟨a1, _⟩
    · subst h3
      exact ⟨h2, hR.1, FZ.refl _⟩
    all_goals exact absurd (Int32.le_iff_toInt_le.mpr (by omega)) a1
  | cons l r ih =>
    intro M j i hR hx hd hi hj H
    obtain ⟨h1, h2, h3⟩ := ln_at hd
    have hl := ln_end hR hx ht7
    have h16 := ln_16 hR ht7
    have hi1 : (i + 1).toInt = ((16 * t + (j + 1) : Nat) : Int) := by
      rw [i32_p1 (by omega)]
      omega
    obtain ⟨k1, k2, k3⟩ := ln_get hR ht7 hi h1
    unfold nevL
    rcases rma_8 hR.1 H with ⟨a1, _⟩ | ⟨_, a2, _, _, e1, v1, M1, rfl, H1, H⟩ | ⟨_, a2, _, _, H⟩
    · have := Int32.le_iff_toInt_le.mp a1
      omega
    · rw [k1] at a2
      obtain ⟨rfl, q2, q3⟩ := rhold_ok hR hw hc ht7 hi h1 H1
      rcases rma_46 q2 H with ⟨b1, H⟩ | ⟨b1, b2, b3⟩
      · rw [bI_0] at b1
        rw [if_neg (fun q => by rw [q.2] at b1; cases b1)]
        obtain ⟨r1, r2, r3⟩ := ih M1 (j + 1) _ (hR.tu q2 q3) (by rw [q3.fi (fun q => q)]; exact hx) h2 hi1 (by omega) H
        exact ⟨r1, r2, q3.trans r3⟩
      · rw [bI_0, Bool.not_eq_false] at b1
        rw [if_pos ⟨a2, b1⟩]
        subst b3
        exact ⟨b2, q2, q3⟩
    · rw [k1] at a2
      rw [if_neg (fun q => a2 q.1)]
      exact ih M (j + 1) _ hR hx h2 hi1 (by omega) H
theorem rmay_ok (hR : RST T P M) (hw : wh4 P) (hc : inC P c) (ht7 : t < 7) (hx : (zI M 633 36).toInt = (t : Int)) (H : Ev none e 201 0 [some (.ref 633), some (.int c), none] [] M v M' 0 0) : v = some (.int (bI (nevL (T 0) P (T t) c (T t).2))) ∧ SQ M' ∧ FZ noF tuW noO M M' := rmay_loop hw hc ht7 (T t).2 M 0 _ hR hx rfl (by rw [ln_pl (i := 0) (j := 0) hx ht7]; omega) (Nat.zero_le _) (rma_0 hR.1 H)
theorem rfnd_loop (hR : RST T P M) (ht7 : t < 7) {tx k : Int32} (hx : tx.toInt = (t : Int)) : ∀ (r : List Lnq) (j : Nat) (i : Int32), (T t).2.drop j = r → i.toInt = ((16 * t + j : Nat) : Int) → j ≤ (T t).2.length → Ev none e 172 5 [some (.ref 633), some (.int tx), some (.int k), some (.int i)] [] M v M' 0 0 → M' = M ∧ ((r.find? (fun l => decide (l.1 = k)) = none ∧ v = some (.int (-1))) ∨ ∃ l y, r.find? (fun l => decide (l.1 = k)) = some l ∧ v = some (.int y) ∧ 0 ≤ y.toInt ∧ rI M 642 y = l.2.2.1) := by
  intro r
  induction r with
  | nil =>
    intro j i hd hi hj H
    have h1 := dr_nil hd
    have hl := ln_end hR hx ht7
    rcases rfd_5 hR.1 H with ⟨_, _, h2, h3⟩ | ⟨a1, _⟩ | ⟨a1, _⟩
    · exact ⟨h3, Or.inl ⟨rfl, h2⟩⟩
    all_goals exact absurd (Int32.le_iff_toInt_le.mpr (by omega)) a1
  | cons l r ih =>
    intro j i hd hi hj H
    obtain ⟨h1, h2, h3⟩ := ln_at hd
    have hl := ln_end hR hx ht7
    have h16 := ln_16 hR ht7
    have hi1 : (i + 1).toInt = ((16 * t + (j + 1) : Nat) : Int) := by
      rw [i32_p1 (by omega)]
      omega
    obtain ⟨k1, k2, k3⟩ := ln_get hR ht7 hi h1
    rcases rfd_5 hR.1 H with ⟨a1, _⟩ | ⟨_, a2, _, _, h4, h5⟩ | ⟨_, a2, _, _, H⟩
    · have := Int32.le_iff_toInt_le.mp a1
      omega
    · rw [k1] at a2
      refine ⟨h5, Or.inr ⟨l, i, ?_, h4, by omega, k3⟩⟩
      rw [List.find?_cons_of_pos (by exact decide_eq_true a2)]
    · rw [k1] at a2
      rw [List.find?_cons_of_neg (by rw [decide_eq_false a2]; decide)]
      exact ih (j + 1) _ h2 hi1 (by omega) H
theorem rcrd_loop (hR : RST T P M) (h60 : (P 157).toInt ≤ 60) : ∀ (n k : Nat) (kz nn : Int32), kz.toInt = (k : Int) → (k : Int) + (n : Int) = (P 157).toInt → nn = crdP P c k → Ev none e 198 4 [some (.ref 633), some (.int c), some (.int nn), some (.int kz)] [] M v M' 0 0 → M' = M ∧ v = some (.int (crdP P c (k + n))) := by
  have h157 : rI M 635 157 = P 157 := r_s hR (n := 157) rfl (by decide)
  intro n
  induction n with
  | zero =>
    intro k kz nn hk hn hc H
    rcases rcr_4 hR.1 H with ⟨_, _, h1, h2⟩ | ⟨a1, _⟩ | ⟨a1, _⟩
    · exact ⟨h2, by rw [h1, hc]; rfl⟩
    all_goals exact absurd (Int32.le_iff_toInt_le.mpr (by rw [h157]; omega)) a1
  | succ n ih =>
    intro k kz nn hk hn hc H
    have hk1 : (kz + 1).toInt = ((k + 1 : Nat) : Int) := by
      rw [i32_p1 (by omega)]
      omega
    have hw : rI M 635 (158 + (6 * kz)) = P (158 + 6 * k) := r_s hR (by rw [(i32_e kz (by omega) (by omega)).1]; omega) (by omega)
    rw [show k + (n + 1) = k + 1 + n from by omega]
    rcases rcr_4 hR.1 H with ⟨a1, _⟩ | ⟨_, a2, _, _, H⟩ | ⟨_, a2, _, _, H⟩
    · rw [h157] at a1
      have := Int32.le_iff_toInt_le.mp a1
      omega
    · rw [hw] at a2
      refine ih (k + 1) _ _ hk1 (by omega) ?_ H
      show _ = crdP P c k + (if P (158 + 6 * k) = c then 1 else 0)
      rw [if_pos a2, hc]
    · rw [hw] at a2
      refine ih (k + 1) _ _ hk1 (by omega) ?_ H
      show _ = crdP P c k + (if P (158 + 6 * k) = c then 1 else 0)
      rw [if_neg a2, hc]
theorem rcrd_ok (hR : RST T P M) (hK : okK P) (H : Ev none e 198 0 [some (.ref 633), some (.int c), none, none] [] M v M' 0 0) : M' = M ∧ v = some (.int (crdP P c (P 157).toInt.toNat)) := by
  obtain ⟨h1, h2⟩ := rcrd_loop hR hK.2.1 (P 157).toInt.toNat 0 0 0 rfl (by have := hK.1; omega) rfl (rcr_0 hR.1 H)
  rw [Nat.zero_add] at h2
  exact ⟨h1, h2⟩
theorem rsee_loop (hR : RST T P M) (hw : wh4 P) {c0 fa : Int32} : ∀ (n : Nat) (le nn vv : Int32), le.toInt = (n : Int) → (vv = -1 ∨ inC P vv) → Ev none e 199 33 [some (.ref 633), some (.int c0), some (.int d), some (.int fa), some (.int le), some (.int nn), some (.int vv)] [] M v M' 0 0 → M' = M ∧ v = some (.int (seeP (T 0) P d n vv nn)) := by
  have z0 : (0 : Int32).toInt = 0 := rfl
  intro n
  induction n with
  | zero =>
    intro le nn vv hl _ H
    rcases rse_33 hR.1 H with ⟨_, h1, h2⟩ | ⟨a1, _⟩ | ⟨a1, _⟩ | ⟨a1, _⟩ | ⟨a1, _⟩
    · exact ⟨h2, h1⟩
    all_goals exact absurd (Int32.le_iff_toInt_le.mpr (by omega)) a1
  | succ n ih =>
    intro le nn vv hl hv H
    have hle := (i32_lt le).2
    have hm : (le + Int32.ofInt (-1)).toInt = (n : Int) := by rw [i32_m1e (by omega)]; omega
    have hop : ¬ vv < 0 → inC P vv := fun q => by
      rcases hv with h | h
      · exact absurd (by rw [h]; decide) q
      · exact h
    unfold seeP
    rcases rse_33 hR.1 H with ⟨a1, _⟩ | ⟨_, a2, h1, h2⟩ | ⟨_, a2, a3, h1, h2⟩ | ⟨_, a2, a3, a4, H⟩ | ⟨_, a2, a3, a4, H⟩
    · have := Int32.le_iff_toInt_le.mp a1
      omega
    · rw [if_pos (Or.inl a2)]
      exact ⟨h2, h1⟩
    · rw [g148_ok hR hw (hop a2), bI_0] at a3
      rw [if_pos (Or.inr a3)]
      exact ⟨h2, h1⟩
    · have hin := hop a2
      rw [g148_ok hR hw hin, bI_0] at a3
      rw [g150_ok hR hw hin, bI_0] at a4
      rw [if_neg (fun q => q.elim a2 a3), a4, if_neg (by decide)]
      rw [g194_ok hR] at H
      exact ih _ _ _ hm (besP_in hw hin) H
    · have hin := hop a2
      rw [g148_ok hR hw hin, bI_0] at a3
      rw [g150_ok hR hw hin, bI_0, Bool.not_eq_false] at a4
      rw [if_neg (fun q => q.elim a2 a3), a4, if_pos rfl]
      rw [g194_ok hR] at H
      exact ih _ _ _ hm (besP_in hw hin) H
theorem rsee_ok (hR : RST T P M) (hw : wh4 P) (hc : inC P c) (ht7 : t < 7) (hx : (zI M 633 36).toInt = (t : Int)) (H : Ev none e 199 0 [some (.ref 633), some (.int c), some (.int d), none, none, none, none] [] M v M' 0 0) : M' = M ∧ v = some (.int (seeP (T 0) P d (siQ (T t)).toInt.toNat c 0)) := by
  have hs := si_rng (hR.2.2.2 t ht7).1.2
  have hnn := hs.1
  obtain ⟨e1, v1, M1, rfl, H1, H⟩ := rse_0 hR.1 H
  obtain ⟨rfl, hf⟩ := rfnd_loop hR ht7 hx (T t).2 0 _ rfl (by rw [ln_pl (i := 0) (j := 0) hx ht7]; omega) (Nat.zero_le _) (rfd_0 hR.1 H1)
  have z0 : (0 : Int32).toInt = 0 := rfl
  rcases hf with ⟨f1, rfl⟩ | ⟨l, y, f1, rfl, f2, f3⟩
  · have hsi : siQ (T t) = 3 := by
      unfold siQ tvS
      rw [f1]
    rcases rse_10 hR.1 H with ⟨a1, _⟩ | ⟨_, H⟩
    · exact absurd a1 (by decide)
    · rw [hsi] at hs ⊢
      exact rsee_loop hR hw 3 3 0 c rfl (Or.inr hc) H
  · have hsi : siQ (T t) = l.2.2.1 := by
      unfold siQ tvS
      rw [f1]
    rcases rse_10 hR.1 H with ⟨_, _, H⟩ | ⟨a1, _⟩
    · rw [f3, ← hsi] at H
      exact rsee_loop hR hw (siQ (T t)).toInt.toNat (siQ (T t)) 0 c (by omega) (Or.inr hc) H
    · exact absurd (Int32.le_iff_toInt_le.mpr (by omega)) a1
theorem rmea_ok (hR : RST T P M) (hw : wh4 P) (hK : okK P) (hc : inC P c) (ht7 : t < 7) (hW : RWC w t M) (hh : inC P w.1) {m : Int32} (m0 : 0 ≤ m.toInt) (m6 : m.toInt ≤ 6) (H : Ev none e 197 0 [some (.ref 633), some (.int c), some (.int d), some (.int m)] [] M v M' 0 0) : M' = M ∧ v = some (.int (meaQ (T 0) P (T t) w c d m)) := by
  have hS := hR.1
  obtain ⟨w1, w2, w3, w4, w5, w6⟩ := hW
  obtain ⟨km, hk, rfl⟩ := i32_in (k := 6) m0 m6 (by decide)
  clear m0 m6
  match km, hk with
  | 0, _ =>
    show M' = M ∧ v = some (.int (if grnB P c = true ∧ ¬ bdQ (T 0) ≤ cE P 3 c then (bdQ (T 0) - cE P 3 c) / 10 else 0))
    rcases rme0_0 hS H with ⟨a1, h1, h2⟩ | ⟨a1, a2, h1, h2⟩ | ⟨a1, a2, h1, h2⟩
    · rw [g149_ok hR hw hc, bI_0] at a1
      exact ⟨h2, by rw [h1, if_neg (fun q => by rw [a1] at q; cases q.1)]⟩
    · rw [g149_ok hR hw hc, bI_0, Bool.not_eq_false] at a1
      rw [g150_ok hR hw hc, bI_0] at a2
      have h3 : ¬ bdQ (T 0) ≤ cE P 3 c := of_decide_eq_false a2
      exact ⟨h2, by rw [h1, if_pos ⟨a1, h3⟩, hR.2.2.1.1, r_cell hR hw hc (fn := 3) rfl (by decide)]⟩
    · rw [g150_ok hR hw hc, bI_0, Bool.not_eq_false] at a2
      have h3 : bdQ (T 0) ≤ cE P 3 c := of_decide_eq_true a2
      exact ⟨h2, by rw [h1, if_neg (fun q => q.2 h3)]⟩
  | 1, _ =>
    obtain ⟨h1, h2⟩ := rme1_0 hS H
    exact ⟨h2, by rw [h1, r_cell hR hw hc (fn := 4) rfl (by decide)]; rfl⟩
  | 2, _ =>
    obtain ⟨h1, h2⟩ := rme2_0 hS H
    exact ⟨h2, by rw [h1, g141_ok, w1, r_cell hR hw hc (fn := 2) rfl (by decide), r_cell hR hw hh (fn := 2) rfl (by decide)]; rfl⟩
  | 3, _ =>
    show M' = M ∧ v = some (.int (if w.2.2.2.2 = true then 0 else crdP P c (P 157).toInt.toNat))
    rcases rme3_0 hS H with ⟨a1, e1, v1, M1, rfl, H1, H⟩ | ⟨a1, h1, h2⟩
    · rw [w6, bI_0] at a1
      obtain ⟨rfl, rfl⟩ := rcrd_ok hR hK H1
      obtain ⟨h1, h2⟩ := rme3_121 hS H
      exact ⟨h2, by rw [h1, a1, if_neg (by decide)]⟩
    · rw [w6, bI_0, Bool.not_eq_false] at a1
      exact ⟨h2, by rw [h1, a1, if_pos rfl]⟩
  | 4, _ =>
    show M' = M ∧ v = some (.int (if 0 ≤ w.2.2.1 ∧ ¬ w.2.2.1 = d then 1 else 0))
    rcases rme4_0 hS H with ⟨a1, h1, h2⟩ | ⟨a1, a2, h1, h2⟩ | ⟨a1, a2, h1, h2⟩
    · rw [w4, i32_z] at a1
      exact ⟨h2, by rw [h1, if_neg (fun q => by have := Int32.le_iff_toInt_le.mp q.1; have z : (0 : Int32).toInt = 0 := rfl; omega)]⟩
    · rw [w4] at a2
      exact ⟨h2, by rw [h1, if_neg (fun q => q.2 a2)]⟩
    · rw [w4] at a1 a2
      exact ⟨h2, by rw [h1, if_pos ⟨Int32.le_iff_toInt_le.mpr (by rw [i32_z] at a1; have z : (0 : Int32).toInt = 0 := rfl; omega), a2⟩]⟩
  | 5, _ =>
    show M' = M ∧ v = some (.int (if c = w.2.2.2.1 then 1 else 0))
    rcases rme5_0 hS H with ⟨a1, h1, h2⟩ | ⟨a1, h1, h2⟩
    · rw [w5] at a1
      exact ⟨h2, by rw [h1, if_pos a1]⟩
    · rw [w5] at a1
      exact ⟨h2, by rw [h1, if_neg a1]⟩
  | 6, _ =>
    obtain ⟨e1, v1, M1, rfl, H1, H⟩ := rme6_0 hS H
    obtain ⟨rfl, rfl⟩ := rsee_ok hR hw hc ht7 w3 H1
    obtain ⟨h1, h2⟩ := rme6_163 hS H
    exact ⟨h2, h1⟩
theorem rwei_loop (hw : wh4 P) (hK : okK P) (hc : inC P c) (ht7 : t < 7) (hh : inC P w.1) {x y : Int32} : ∀ (r : List Lnq) (M : Mem) (j : Nat) (i vv : Int32) (c7 : Option Value), RST T P M → RWC w t M → (T t).2.drop j = r → i.toInt = ((16 * t + j : Nat) : Int) → j ≤ (T t).2.length → Ev none e 200 59 [some (.ref 633), some (.int c), some (.int d), some (.int x), some (.int y), some (.int vv), some (.int i), c7] [] M v M' 0 0 → v = some (.int (weiL (T 0) P (T t) w c d r vv)) ∧ SQ M' ∧ FZ noF tuW noO M M' := by
  intro r
  induction r with
  | nil =>
    intro M j i vv c7 hR hW hd hi hj H
    have h1 := dr_nil hd
    have hl := ln_end hR hW.2.2.1 ht7
    rcases rwe_59 hR.1 H with ⟨_, _, h2, h3⟩ | ⟨a1, _⟩ | ⟨a1, _⟩
    · subst h3
      exact ⟨h2, hR.1, FZ.refl _⟩
    all_goals exact absurd (Int32.le_iff_toInt_le.mpr (by omega)) a1
  | cons l r ih =>
    intro M j i vv c7 hR hW hd hi hj H
    obtain ⟨h1, h2, h3⟩ := ln_at hd
    have hl := ln_end hR hW.2.2.1 ht7
    have h16 := ln_16 hR ht7
    have hi1 : (i + 1).toInt = ((16 * t + (j + 1) : Nat) : Int) := by
      rw [i32_p1 (by omega)]
      omega
    obtain ⟨k1, k2, k3⟩ := ln_get hR ht7 hi h1
    have hlw := ((hR.2.2.2 t ht7).1.2 l (List.mem_of_getElem? h1)).1
    unfold weiL
    rcases rwe_59 hR.1 H with ⟨a1, _⟩ | ⟨_, a2, _, _, e1, v1, M1, rfl, H1, H⟩ | ⟨_, a2, _, _, H⟩
    · have := Int32.le_iff_toInt_le.mp a1
      omega
    · rw [k1] at a2
      obtain ⟨rfl, q2, q3⟩ := rhold_ok hR hw hc ht7 hi h1 H1
      have hR1 := hR.tu q2 q3
      have hW1 := hW.tu q3
      rcases rwe_99 q2 H with ⟨b1, H⟩ | ⟨b1, _, _, e2, v2, M2, he, H2, H⟩
      · rw [bI_0] at b1
        rw [if_neg (fun q => by rw [q.2] at b1; cases b1)]
        obtain ⟨r1, r2, r3⟩ := ih M1 (j + 1) _ _ _ hR1 hW1 h2 hi1 (by omega) H
        exact ⟨r1, r2, q3.trans r3⟩
      · rw [bI_0, Bool.not_eq_false] at b1
        rw [if_pos ⟨a2, b1⟩]
        obtain ⟨n1, n2, n3⟩ := ln_get hR1 ht7 hi h1
        rw [n2] at H2
        rw [n3] at H
        obtain ⟨m0, m1⟩ := (hlw.2.2.1 a2).2
        obtain ⟨rfl, rfl⟩ := rmea_ok hR1 hw hK hc ht7 hW1 hh m0 m1 H2
        rcases rwe_125 q2 H with ⟨d1, _, H⟩ | ⟨d1, _, H⟩
        · rw [n2] at d1
          rw [if_pos d1]
          obtain ⟨r1, r2, r3⟩ := ih _ (j + 1) _ _ _ hR1 hW1 h2 hi1 (by omega) H
          exact ⟨r1, r2, q3.trans r3⟩
        · rw [n2] at d1
          rw [if_neg d1]
          obtain ⟨r1, r2, r3⟩ := ih _ (j + 1) _ _ _ hR1 hW1 h2 hi1 (by omega) H
          exact ⟨r1, r2, q3.trans r3⟩
    · rw [k1] at a2
      rw [if_neg (fun q => a2 q.1)]
      exact ih M (j + 1) _ _ _ hR hW h2 hi1 (by omega) H
theorem rwei_ok (hR : RST T P M) (hw : wh4 P) (hK : okK P) (hc : inC P c) (ht7 : t < 7) (hW : RWC w t M) (hh : inC P w.1) (H : Ev none e 200 0 [some (.ref 633), some (.int c), some (.int d), none, none, none, none, none] [] M v M' 0 0) : v = some (.int (weiP (T 0) P (T t) w c d)) ∧ SQ M' ∧ FZ noF tuW noO M M' := by
  unfold weiP dstP
  rcases rwe_0 hR.1 H with ⟨a1, H⟩ | ⟨a1, H⟩
  · rw [g195_ok hR, g196_ok hR, hW.2.1] at a1 H
    rw [if_neg (fun q => by rw [Int32.lt_iff_toInt_lt] at q; have := Int32.le_iff_toInt_le.mp a1; omega)]
    exact rwei_loop hw hK hc ht7 hh (T t).2 M 0 _ _ _ hR hW rfl (by rw [ln_pl (i := 0) (j := 0) hW.2.2.1 ht7]; omega) (Nat.zero_le _) H
  · rw [g195_ok hR, g196_ok hR, hW.2.1] at a1 H
    rw [if_pos (by rw [Int32.lt_iff_toInt_lt]; have : ¬ (acrP P c w.2.1).toInt ≤ (aloP P c w.2.1).toInt := fun q => a1 (Int32.le_iff_toInt_le.mpr q); omega)]
    exact rwei_loop hw hK hc ht7 hh (T t).2 M 0 _ _ _ hR hW rfl (by rw [ln_pl (i := 0) (j := 0) hW.2.2.1 ht7]; omega) (Nat.zero_le _) H
theorem rcho_loop (hw : wh4 P) (hK : okK P) (ht7 : t < 7) (hh : inC P w.1) : ∀ (n k : Nat) (M : Mem) (be le d : Int32) (c4 c5 : Option Value), RST T P M → RWC w t M → d.toInt = (k : Int) → k + n = 8 → -1 ≤ be.toInt → Ev none e 202 70 [some (.ref 633), some (.int be), some (.int le), some (.int d), c4, c5] [] M v M' 0 0 → v = some (.int (bstP (T 0) P (T t) w n d be le)) ∧ SQ M' ∧ FZ noF tuW noO M M' := by
  have e8 : (8 : Int32).toInt = 8 := rfl
  have e0 : (0 : Int32).toInt = 0 := rfl
  intro n
  induction n with
  | zero =>
    intro k M be le d c4 c5 hR hW hd hk hbe H
    rcases rch_70 hR.1 H with ⟨_, h1, h2⟩ | ⟨a1, _⟩ | ⟨a1, _⟩ | ⟨a1, _⟩
    · subst h2
      exact ⟨h1, hR.1, FZ.refl _⟩
    all_goals exact absurd (Int32.le_iff_toInt_le.mpr (by omega)) a1
  | succ n ih =>
    intro k M be le d c4 c5 hR hW hd hk hbe H
    have hd1 : (d + 1).toInt = ((k + 1 : Nat) : Int) := by
      rw [i32_p1 (by omega)]
      omega
    have hbs : G_194 M (zI M 633 34) d = besP P w.1 d := by rw [hW.1, g194_ok hR]
    unfold bstP
    have skip : ∀ c4 c5 M2, badB (T 0) P (T t) (besP P w.1 d) = true → RST T P M2 → RWC w t M2 → FZ noF tuW noO M M2 → Ev none e 202 70 [some (.ref 633), some (.int be), some (.int le), some (.int (d + 1)), c4, c5] [] M2 v M' 0 0 → v = some (.int (if badB (T 0) P (T t) (besP P w.1 d) = true ∨ (0 ≤ be ∧ le ≤ weiP (T 0) P (T t) w (besP P w.1 d) d) then bstP (T 0) P (T t) w n (d + 1) be le else bstP (T 0) P (T t) w n (d + 1) d (weiP (T 0) P (T t) w (besP P w.1 d) d))) ∧ SQ M' ∧ FZ noF tuW noO M M' := fun c4 c5 M2 hbad hR2 hW2 hF2 H => by
      rw [if_pos (Or.inl hbad)]
      obtain ⟨r1, r2, r3⟩ := ih (k + 1) M2 be le (d + 1) c4 c5 hR2 hW2 hd1 (by omega) hbe H
      exact ⟨r1, r2, hF2.trans r3⟩
    rcases rch_70 hR.1 H with ⟨a1, _⟩ | ⟨_, a2, H⟩ | ⟨_, a2, a3, H⟩ | ⟨_, a2, a3, e1, v1, M1, rfl, H1, H⟩
    · have := Int32.le_iff_toInt_le.mp a1
      omega
    · rw [hbs] at a2
      exact skip _ _ M (by unfold badB; rw [decide_eq_true a2, Bool.true_or]) hR hW (FZ.refl _) H
    · rw [hbs] at a2 a3
      have hin : inC P (besP P w.1 d) := by
        rcases besP_in (d := d) hw hh with q | q
        · rw [q] at a2
          exact absurd (by decide) a2
        · exact q
      rw [g148_ok hR hw hin, bI_0] at a3
      exact skip _ _ M (by unfold badB; rw [a3, Bool.not_false, Bool.true_or, Bool.or_true]) hR hW (FZ.refl _) H
    · rw [hbs] at a2 a3 H1 H
      have hin : inC P (besP P w.1 d) := by
        rcases besP_in (d := d) hw hh with q | q
        · rw [q] at a2
          exact absurd (by decide) a2
        · exact q
      rw [g148_ok hR hw hin, bI_0, Bool.not_eq_false] at a3
      obtain ⟨rfl, q2, q3⟩ := rmay_ok hR hw hin ht7 hW.2.2.1 H1
      have hR1 := hR.tu q2 q3
      have hW1 := hW.tu q3
      rcases rch_107 q2 H with ⟨b1, e2, v2, M2, he, H2, H⟩ | ⟨b1, H⟩
      · rw [bI_0] at b1
        have hbad : badB (T 0) P (T t) (besP P w.1 d) = false := by
          unfold badB
          rw [decide_eq_false a2, a3, b1]
          rfl
        obtain ⟨rfl, p2, p3⟩ := rwei_ok hR1 hw hK hin ht7 hW1 hh H2
        have hR2 := hR1.tu p2 p3
        have hW2 := hW1.tu p3
        have cont : ∀ (b2 l2 : Int32) (c4 c5 : Option Value), -1 ≤ b2.toInt → Ev none (e1 + 1) 202 70 [some (.ref 633), some (.int b2), some (.int l2), some (.int (d + 1)), c4, c5] [] M2 v M' 0 0 → v = some (.int (bstP (T 0) P (T t) w n (d + 1) b2 l2)) ∧ SQ M' ∧ FZ noF tuW noO M M' := fun b2 l2 c4 c5 hb2 H => by
          obtain ⟨r1, r2, r3⟩ := ih (k + 1) M2 b2 l2 (d + 1) c4 c5 hR2 hW2 hd1 (by omega) hb2 H
          exact ⟨r1, r2, (q3.trans p3).trans r3⟩
        rcases rch_120 p2 H with ⟨d1, H⟩ | ⟨d1, d2, H⟩ | ⟨d1, d2, H⟩
        · rw [if_neg (fun q => q.elim (fun q => by rw [hbad] at q; cases q) (fun q => by rw [i32_z] at d1; have := Int32.le_iff_toInt_le.mp q.1; omega))]
          exact cont d _ _ _ (by omega) H
        · rw [if_neg (fun q => q.elim (fun q => by rw [hbad] at q; cases q) (fun q => by rw [Int32.lt_iff_toInt_lt] at d2; have := Int32.le_iff_toInt_le.mp q.2; omega))]
          exact cont d _ _ _ (by omega) H
        · rw [if_pos (Or.inr ⟨Int32.le_iff_toInt_le.mpr (by rw [i32_z] at d1; omega), Int32.le_iff_toInt_le.mpr (by rw [Int32.lt_iff_toInt_lt] at d2; omega)⟩)]
          exact cont be le _ _ hbe H
      · rw [bI_0, Bool.not_eq_false] at b1
        exact skip _ _ M1 (by unfold badB; rw [b1, Bool.or_true, Bool.or_true]) hR1 hW1 q3 H
theorem rto_loop (hR : RST T P M) (hW : RWC w t M) : ∀ (n k : Nat) (d : Int32), d.toInt = (k : Int) → k + n = 8 → Ev none e 202 34 [some (.ref 633), some (.int d), none, none, none, none] [] M v M' 0 0 → (0 ≤ (toP P w.1 w.2.1 n d).toInt ∧ M' = M ∧ v = some (.int (toP P w.1 w.2.1 n d))) ∨ (toP P w.1 w.2.1 n d = -1 ∧ Ev none e 202 70 [some (.ref 633), some (.int (-1)), some (.int 0), some (.int 0), none, none] [] M v M' 0 0) := by
  have e8 : (8 : Int32).toInt = 8 := rfl
  intro n
  induction n with
  | zero =>
    intro k d hd hk H
    rcases rch_34 hR.1 H with ⟨_, H⟩ | ⟨a1, _⟩ | ⟨a1, _⟩
    · exact Or.inr ⟨rfl, H⟩
    all_goals exact absurd (Int32.le_iff_toInt_le.mpr (by omega)) a1
  | succ n ih =>
    intro k d hd hk H
    have hbs : G_194 M (zI M 633 34) d = besP P w.1 d := by rw [hW.1, g194_ok hR]
    unfold toP
    rcases rch_34 hR.1 H with ⟨a1, _⟩ | ⟨_, a2, h1, h2⟩ | ⟨_, a2, H⟩
    · have := Int32.le_iff_toInt_le.mp a1
      omega
    · rw [hbs, hW.2.1] at a2
      rw [if_pos a2]
      exact Or.inl ⟨by omega, h2, h1⟩
    · rw [hbs, hW.2.1] at a2
      rw [if_neg a2]
      exact ih (k + 1) (d + 1) (by rw [i32_p1 (by omega)]; omega) (by omega) H
theorem rcho_ok (hR : RST T P M) (hw : wh4 P) (hK : okK P) (ht7 : t < 7) (hW : RWC w t M) (hh : inC P w.1) (hg : 0 ≤ w.2.1.toInt) (H : Ev none e 202 0 [some (.ref 633), none, none, none, none, none] [] M v M' 0 0) : v = some (.int (choP (T 0) P (T t) w)) ∧ SQ M' ∧ FZ noF tuW noO M M' := by
  have z2 : (2 : Int32).toInt = 2 := rfl
  have far : (¬ acrP P w.1 w.2.1 < 2 ∨ ¬ aloP P w.1 w.2.1 < 2) → Ev none e 202 70 [some (.ref 633), some (.int (-1)), some (.int 0), some (.int 0), none, none] [] M v M' 0 0 → v = some (.int (choP (T 0) P (T t) w)) ∧ SQ M' ∧ FZ noF tuW noO M M' := fun hf H => by
    have hno : ∀ d, besP P w.1 d ≠ w.2.1 := fun d q => by
      obtain ⟨n1, n2⟩ := near_ok hw hh hg q
      rcases hf with h | h
      · exact h n1
      · exact h n2
    unfold choP
    rw [if_pos (by rw [toP_no hno]; decide)]
    exact rcho_loop hw hK ht7 hh 8 0 M (-1) 0 0 none none hR hW rfl rfl (by decide) H
  rcases rch_0 hR.1 H with ⟨a1, H⟩ | ⟨_, a1, H⟩ | ⟨_, _, H⟩
  · rw [g195_ok hR, hW.1, hW.2.1] at a1
    exact far (Or.inl (fun q => by rw [Int32.lt_iff_toInt_lt] at q; have := Int32.le_iff_toInt_le.mp a1; omega)) H
  · rw [g196_ok hR, hW.1, hW.2.1] at a1
    exact far (Or.inr (fun q => by rw [Int32.lt_iff_toInt_lt] at q; have := Int32.le_iff_toInt_le.mp a1; omega)) H
  · unfold choP
    rcases rto_loop hR hW 8 0 0 rfl rfl H with ⟨q1, q2, q3⟩ | ⟨q1, H⟩
    · subst q2
      rw [if_neg (fun q => by rw [i32_z] at q; omega)]
      exact ⟨q3, hR.1, FZ.refl _⟩
    · rw [if_pos (by rw [q1]; decide)]
      exact rcho_loop hw hK ht7 hh 8 0 M (-1) 0 0 none none hR hW rfl rfl (by decide) H
end RCH
/-! THE REFERENCE'S tread, goes, leave -/
def rkF (a k : Nat) : Prop := a = 633 ∧ ((34 ≤ k ∧ k ≤ 39) ∨ k = 41 ∨ k = 42)
def rkW (a : Nat) : Prop := a = 635 ∨ a = 649
def WFr (w : Int32) (f0 : Bool) (ss : List Int32) (M : Mem) : Prop := zI M 633 40 = w ∧ zI M 633 42 = bI (f0 || decide (w ∈ ss))
/-- how many ARRIVED, beside how many in these calls -/
def ARn (d : Int32) (P : PK) (M : Mem) : Prop := zI M 633 41 = P 519 + d
section RTK
variable {e t : Nat} {T : TS} {P P' Q : PK} {M M1 M' : Mem} {v : Option Value} {c d : Int32} {w dd : Int32} {f0 : Bool} {ss : List Int32} {k B n : Nat}
theorem len635 (hS : SH M) : (zrw M 635).length = 2314 := (hS.row qa_635 qw_63).2
theorem RST.up (h : RST T P M) {i : Nat} (hi : i < 2314) {x : Int32} : RST T (uPk P i x) (wI M 635 i x) := by
  have hF : FZ noF (fun a => a = 635) noO M (wI M 635 i x) := FZ.wI (W := fun a => a = 635) rfl
  obtain ⟨h1, h2, ⟨h3, h4, h5⟩, h6⟩ := h
  refine ⟨h1.ki, fun j hj => ?_, ⟨by rw [fI_wI]; exact h3, by rw [fI_wI]; exact h4, by rw [fI_wI]; exact h5⟩, fun t ht => ?_⟩
  · by_cases hji : j = i
    · subst hji
      rw [rN_wI_eq (by rw [len635 h1.1]; exact hi)]
      exact up_eq.symm
    · rw [rN_wI_ne (fun q => hji q.2), up_ne hji]
      exact h2 j hj
  · obtain ⟨⟨q1, q2⟩, q3⟩ := h6 t ht
    exact ⟨⟨q1.fz hF (fun a _ _ q => by omega), q2⟩, q3⟩
theorem RST.fld (h : RST T P M) {k : Nat} {x : Int32} (hk : 31 ≤ k) : RST T P (wF M 633 k x) := by
  have hF : FZ (fun a j => a = 633 ∧ j = k) noO noO M (wF M 633 k x) := FZ.wF (F := fun a j => a = 633 ∧ j = k) ⟨rfl, rfl⟩
  exact h.fz h.1.kf hF (fun j h1 h2 q => by omega) (fun a _ q => q)
theorem RST.eq (h : RST T P M) (he : ∀ i, i < 2314 → Q i = P i) : RST T Q M := ⟨h.1, fun i hi => (h.2.1 i hi).trans (he i hi).symm, h.2.2.1, h.2.2.2⟩
theorem cX_lt (hw : wh4 P) (hc : inC P c) {f : Nat} (hf : f < 7) : cX f c < 2314 := by
  obtain ⟨_, c256, _⟩ := cls_int hw
  have := hc.2
  unfold cX
  omega
theorem x147_ok (h : RST T P M) (hw : wh4 P) (hc : inC P c) {f : Int32} {fn : Nat} (hf : f.toInt = (fn : Int)) (hf6 : fn < 7) {x : Int32} : X_147 M c f x = wI M 635 (cX fn c) x := by
  obtain ⟨c0, _, c2⟩ := hc.lt hw
  unfold X_147
  congr 1
  refine cl_n ?_
  rw [i32_cell (c := c) (k := f) c0 c2 (by omega) (by omega)]
  unfold cX
  have := Int.toNat_of_nonneg c0
  omega
theorem tu_rk (h : FZ noF tuW noO M M') : FZ rkF rkW noO M M' := h.more (fun _ _ q => q.elim) (fun a q => Or.inr q) (fun _ q => q)
theorem rk_wI {i : Nat} {x : Int32} : FZ rkF rkW noO M (wI M 635 i x) := FZ.wI (Or.inl rfl)
theorem rtrd_ok (hR : RST T P M) (hw : wh4 P) (hc : inC P c) (hf : WFr w f0 ss M) (H : Ev none e 203 0 [some (.ref 633), some (.int c), none] [] M v M' 0 0) : v = none ∧ RST T (trdP (T 0) P c) M' ∧ FZ rkF rkW noO M M' ∧ WFr w f0 (c :: ss) M' ∧ ∀ k, k ≠ 42 → zI M' 633 k = zI M 633 k := by
  have st : ∃ M1, RST T (weaP (T 0) P c) M1 ∧ FZ rkF rkW noO M M1 ∧ (∀ k, zI M1 633 k = zI M 633 k) ∧ ∃ c2, Ev none e 203 43 [some (.ref 633), some (.int c), c2] [] M1 v M' 0 0 := by
    rcases rtr_0 hR.1 H with ⟨a1, H⟩ | ⟨a1, e1, v1, M1, rfl, H1, H⟩
    · rw [g149_ok hR hw hc, bI_0] at a1
      refine ⟨M, ?_, FZ.refl _, fun _ => rfl, _, H⟩
      unfold weaP
      rw [if_neg (by rw [a1]; decide)]
      exact hR
    · rw [g149_ok hR hw hc, bI_0, Bool.not_eq_false] at a1
      rw [r_cell hR hw hc (fn := 3) rfl (by decide)] at H
      obtain ⟨rfl, q2, q3⟩ := rfst_ok hR hw hc H1
      have hR1 := hR.tu q2 q3
      have hP : weaP (T 0) P c = uPk P (cX 3 c) (if 999 < cE P 3 c + fstL (T 0) P 0 c 5 (T 0).2 then 999 else cE P 3 c + fstL (T 0) P 0 c 5 (T 0).2) := by
        unfold weaP
        rw [if_pos a1]
      rw [hP]
      rcases rtr_21 q2 H with ⟨b1, H⟩ | ⟨b1, H⟩
      · rw [x147_ok hR1 hw hc (fn := 3) rfl (by decide)] at H
        rw [if_neg (fun q => by rw [Int32.lt_iff_toInt_lt] at q; have := Int32.le_iff_toInt_le.mp b1; omega)]
        exact ⟨_, hR1.up (cX_lt hw hc (by decide)), (tu_rk q3).trans rk_wI, fun k => by rw [fI_wI]; exact q3.fi (fun q => q), _, H⟩
      · rw [x147_ok hR1 hw hc (fn := 3) rfl (by decide)] at H
        rw [if_pos (by rw [Int32.lt_iff_toInt_lt]; have : ¬ (cE P 3 c + fstL (T 0) P 0 c 5 (T 0).2).toInt ≤ (999 : Int32).toInt := fun q => b1 (Int32.le_iff_toInt_le.mpr q); omega)]
        exact ⟨_, hR1.up (cX_lt hw hc (by decide)), (tu_rk q3).trans rk_wI, fun k => by rw [fI_wI]; exact q3.fi (fun q => q), _, H⟩
  obtain ⟨M1, s1, s2, s3, c2, H⟩ := st
  have w0 : weaP (T 0) P c 0 = P 0 := by
    unfold weaP
    split
    · exact up_ne (by have := cX_ge (f := 3) (c := c); omega)
    · rfl
  have w1 : weaP (T 0) P c 1 = P 1 := by
    unfold weaP
    split
    · exact up_ne (by have := cX_ge (f := 3) (c := c); omega)
    · rfl
  have hwW : wh4 (weaP (T 0) P c) := hw.eq w0 w1
  have hcW : inC (weaP (T 0) P c) c := (inC.eq w0 w1).mpr hc
  have s5 := s1.up (cX_lt hwW hcW (f := 5) (by decide)) (x := cE (weaP (T 0) P c) 5 c + 1)
  have x0 : uPk (weaP (T 0) P c) (cX 5 c) (cE (weaP (T 0) P c) 5 c + 1) 0 = weaP (T 0) P c 0 := up_ne (by have := cX_ge (f := 5) (c := c); omega)
  have x1 : uPk (weaP (T 0) P c) (cX 5 c) (cE (weaP (T 0) P c) 5 c + 1) 1 = weaP (T 0) P c 1 := up_ne (by have := cX_ge (f := 5) (c := c); omega)
  have hw5 := hwW.eq x0 x1
  have hc5 := (inC.eq x0 x1).mpr hcW
  have s6 := s5.up (cX_lt hw5 hc5 (f := 6) (by decide)) (x := cE (uPk (weaP (T 0) P c) (cX 5 c) (cE (weaP (T 0) P c) 5 c + 1)) 6 c + 1)
  have e1 : X_147 M1 c 5 (G_146 M1 c 5 + 1) = wI M1 635 (cX 5 c) (cE (weaP (T 0) P c) 5 c + 1) := by
    rw [r_cell s1 hwW hcW (fn := 5) rfl (by decide), x147_ok s1 hwW hcW (fn := 5) rfl (by decide)]
  have e2 : X_147 (X_147 M1 c 5 (G_146 M1 c 5 + 1)) c 6 (G_146 (X_147 M1 c 5 (G_146 M1 c 5 + 1)) c 6 + 1) = wI (wI M1 635 (cX 5 c) (cE (weaP (T 0) P c) 5 c + 1)) 635 (cX 6 c) (cE (uPk (weaP (T 0) P c) (cX 5 c) (cE (weaP (T 0) P c) 5 c + 1)) 6 c + 1) := by
    rw [e1, r_cell s5 hw5 hc5 (fn := 6) rfl (by decide), x147_ok s5 hw5 hc5 (fn := 6) rfl (by decide)]
  obtain ⟨N, eN⟩ : ∃ N, N = wI (wI M1 635 (cX 5 c) (cE (weaP (T 0) P c) 5 c + 1)) 635 (cX 6 c) (cE (uPk (weaP (T 0) P c) (cX 5 c) (cE (weaP (T 0) P c) 5 c + 1)) 6 c + 1) := ⟨_, rfl⟩
  have hN : RST T (trdP (T 0) P c) N := by rw [eN]; exact s6
  have zN : ∀ k, zI N 633 k = zI M 633 k := fun k => by rw [eN, fI_wI, fI_wI]; exact s3 k
  have hFN : FZ rkF rkW noO M N := by rw [eN]; exact (s2.trans rk_wI).trans rk_wI
  have fin : ∀ b, v = none → M' = wF N 633 42 (bI b) → b = (f0 || decide (w ∈ c :: ss)) → v = none ∧ RST T (trdP (T 0) P c) M' ∧ FZ rkF rkW noO M M' ∧ WFr w f0 (c :: ss) M' ∧ ∀ k, k ≠ 42 → zI M' 633 k = zI M 633 k := fun b hv hM hb => by
    rw [hM]
    refine ⟨hv, hN.fld (by decide), hFN.trans (FZ.wF ⟨rfl, by omega⟩), ⟨?_, ?_⟩, fun k hk => ?_⟩
    · rw [fI_wF_ne (fun q => absurd q.2 (by decide)), zN]
      exact hf.1
    · rw [fI_wF_eq hN.1.1 qa_633 qi_61_42, hb]
    · rw [fI_wF_ne (fun q => hk q.2), zN]
  rcases rtr_43 s1.1 H with ⟨a1, a2, h1, h2⟩ | ⟨a1, a2, h1, h2⟩ | ⟨a1, h1, h2⟩
  · rw [e2, ← eN] at a1 a2 h2
    rw [zN, hf.1] at a2
    exact fin true h1 h2 (by rw [decide_eq_true (by rw [a2]; exact List.mem_cons_self), Bool.or_true])
  · rw [e2, ← eN] at a1 a2 h2
    rw [zN, hf.1] at a2
    rw [zN, hf.2, bI_0] at a1
    obtain ⟨b1, b2⟩ := Bool.or_eq_false_iff.mp a1
    refine fin false h1 h2 ?_
    rw [b1, Bool.false_or]
    refine (decide_eq_false (fun q => ?_)).symm
    rcases List.mem_cons.mp q with q | q
    · exact a2 q.symm
    · exact absurd q (of_decide_eq_false b2)
  · rw [e2, ← eN] at a1 h2
    rw [zN, hf.2, bI_0, Bool.not_eq_false] at a1
    refine fin true h1 h2 ?_
    rcases Bool.or_eq_true_iff.mp a1 with q | q
    · rw [q, Bool.true_or]
    · rw [decide_eq_true (List.mem_cons_of_mem _ (of_decide_eq_true q)), Bool.or_true]
/-- one goes for good -/
theorem rlea_2 (hB : (P' 157).toInt = (n : Int)) (hn : n ≤ 59) : ∀ (r i : Nat) (iz : Int32) (Q : PK) (M : Mem), RST T Q M → Q 157 = P' 157 → iz.toInt = (i : Int) → i + r = 158 + 6 * n + 6 → 158 + 6 * n ≤ i → Ev none e 205 77 [some (.ref 633), some (.int d), some (.int iz)] [] M v M' 0 0 → v = none ∧ (∃ Q2, RST T Q2 M' ∧ ∀ j, Q2 j = if i ≤ j ∧ j < 158 + 6 * n + 6 then 0 else Q j) ∧ FZ rkF rkW noO M M' ∧ ∀ k, zI M' 633 k = zI M 633 k := by
  intro r
  induction r with
  | zero =>
    intro i iz Q M hR hq hi hir hl H
    have h157 : rI M 635 157 = Q 157 := r_s hR (n := 157) rfl (by decide)
    have hlim : ((158 + (6 * (rI M 635 157))) + 6).toInt = 158 + 6 * (n : Int) + 6 := by
      rw [h157, hq]
      have := (i32_e (P' 157) (by omega) (by omega)).2
      omega
    rcases rle_77 hR.1 H with ⟨_, _, h1, h2⟩ | ⟨a1, _⟩
    · subst h2
      exact ⟨h1, ⟨Q, hR, fun j => by rw [if_neg (by omega)]⟩, FZ.refl _, fun _ => rfl⟩
    · exact absurd (Int32.le_iff_toInt_le.mpr (by omega)) a1
  | succ r ih =>
    intro i iz Q M hR hq hi hir hl H
    have h157 : rI M 635 157 = Q 157 := r_s hR (n := 157) rfl (by decide)
    have hlim : ((158 + (6 * (rI M 635 157))) + 6).toInt = 158 + 6 * (n : Int) + 6 := by
      rw [h157, hq]
      have := (i32_e (P' 157) (by omega) (by omega)).2
      omega
    rcases rle_77 hR.1 H with ⟨a1, _⟩ | ⟨_, _, _, H⟩
    · have := Int32.le_iff_toInt_le.mp a1
      omega
    · rw [cl_n hi] at H
      obtain ⟨r1, ⟨Q2, r2, r3⟩, r4, r5⟩ := ih (i + 1) (iz + 1) (uPk Q i 0) _ (hR.up (by omega)) ((up_ne (by omega)).trans hq) (by rw [i32_p1 (by omega)]; omega) (by omega) (by omega) H
      refine ⟨r1, ⟨Q2, r2, fun j => ?_⟩, rk_wI.trans r4, fun k => (r5 k).trans fI_wI⟩
      rw [r3 j]
      by_cases hj : j = i
      · rw [hj, if_neg (by omega), if_pos (by omega), up_eq]
      · rw [up_ne hj]
        by_cases hj2 : i + 1 ≤ j ∧ j < 158 + 6 * n + 6
        · rw [if_pos hj2, if_pos (by omega)]
        · rw [if_neg hj2, if_neg (by omega)]
theorem rlea_1 (hB : (P' 157).toInt = (n : Int)) (hn : n ≤ 59) (hk : k ≤ n) : ∀ (r i : Nat) (iz : Int32) (Q : PK) (M : Mem), RST T Q M → Q 157 = P' 157 → iz.toInt = (i : Int) → i + r = 158 + 6 * n → 158 + 6 * k ≤ i → Ev none e 205 21 [some (.ref 633), some (.int d), some (.int iz)] [] M v M' 0 0 → ∃ M1 Q1, RST T Q1 M1 ∧ (∀ j, Q1 j = if i ≤ j ∧ j < 158 + 6 * n then Q (j + 6) else Q j) ∧ FZ rkF rkW noO M M1 ∧ (∀ k, zI M1 633 k = zI M 633 k) ∧ ∃ jz, jz.toInt = ((158 + 6 * n : Nat) : Int) ∧ Ev none e 205 77 [some (.ref 633), some (.int d), some (.int jz)] [] M1 v M' 0 0 := by
  intro r
  induction r with
  | zero =>
    intro i iz Q M hR hq hi hir hl H
    have h157 : rI M 635 157 = Q 157 := r_s hR (n := 157) rfl (by decide)
    have hlim : (158 + (6 * (rI M 635 157))).toInt = 158 + 6 * (n : Int) := by
      rw [h157, hq]
      have := (i32_e (P' 157) (by omega) (by omega)).1
      omega
    rcases rle_21 hR.1 H with ⟨_, _, _, H⟩ | ⟨a1, _⟩
    · exact ⟨M, Q, hR, fun j => by rw [if_neg (by omega)], FZ.refl _, fun _ => rfl, _, by omega, H⟩
    · exact absurd (Int32.le_iff_toInt_le.mpr (by omega)) a1
  | succ r ih =>
    intro i iz Q M hR hq hi hir hl H
    have h157 : rI M 635 157 = Q 157 := r_s hR (n := 157) rfl (by decide)
    have hlim : (158 + (6 * (rI M 635 157))).toInt = 158 + 6 * (n : Int) := by
      rw [h157, hq]
      have := (i32_e (P' 157) (by omega) (by omega)).1
      omega
    rcases rle_21 hR.1 H with ⟨a1, _⟩ | ⟨_, _, _, _, H⟩
    · have := Int32.le_iff_toInt_le.mp a1
      omega
    · have h6 : (iz + 6).toInt = ((i + 6 : Nat) : Int) := by
        have e6 : (6 : Int32).toInt = 6 := rfl
        rw [i32_add (by omega) (by omega)]
        omega
      rw [cl_n hi, r_s hR h6 (by omega)] at H
      obtain ⟨M1, Q1, r1, r2, r3, r4, r5⟩ := ih (i + 1) (iz + 1) (uPk Q i (Q (i + 6))) _ (hR.up (by omega)) ((up_ne (by omega)).trans hq) (by rw [i32_p1 (by omega)]; omega) (by omega) (by omega) H
      refine ⟨M1, Q1, r1, fun j => ?_, rk_wI.trans r3, fun k => (r4 k).trans fI_wI, r5⟩
      rw [r2 j]
      by_cases hj : j = i
      · rw [hj, if_neg (by omega), if_pos (by omega), up_eq]
      · by_cases hj2 : i + 1 ≤ j ∧ j < 158 + 6 * n
        · rw [if_pos hj2, if_pos (by omega), up_ne (by omega)]
        · rw [if_neg hj2, if_neg (by omega), up_ne hj]
theorem rlea_ok (hR : RST T P M) (hK0 : 1 ≤ (P 157).toInt) (hK2 : (P 157).toInt ≤ 60) {kz : Int32} (hk : kz.toInt = (k : Int)) (hkn : (k : Int) < (P 157).toInt) (H : Ev none e 205 0 [some (.ref 633), some (.int kz), none] [] M v M' 0 0) : v = none ∧ RST T (leaP P k) M' ∧ FZ rkF rkW noO M M' ∧ ∀ k, zI M' 633 k = zI M 633 k := by
  have h157 : rI M 635 157 = P 157 := r_s hR (n := 157) rfl (by decide)
  obtain ⟨_, _, H⟩ := rle_0 hR.1 H
  have e157 : (157 : Int32).toNatClampNeg = 157 := rfl
  rw [h157, e157] at H
  have hR1 := hR.up (i := 157) (by decide) (x := P 157 - 1)
  obtain ⟨P1, eP1⟩ : ∃ P1, P1 = uPk P 157 (P 157 - 1) := ⟨_, rfl⟩
  rw [← eP1] at hR1
  have p157 : P1 157 = P 157 - 1 := by rw [eP1]; exact up_eq
  have m1 : (P 157 - 1).toInt = (P 157).toInt - 1 := i32_m1 (by omega)
  obtain ⟨n, hn⟩ : ∃ n, n = (P 157 - 1).toInt.toNat := ⟨_, rfl⟩
  have hB : (P1 157).toInt = (n : Int) := by rw [p157, m1]; omega
  have hpl : (158 + (6 * kz)).toInt = ((158 + 6 * k : Nat) : Int) := by
    have := (i32_e kz (by omega) (by omega)).1
    omega
  obtain ⟨M1, Q1, r1, r2, r3, r4, jz, r5, H⟩ := rlea_1 (k := k) hB (by omega) (by omega) (158 + 6 * n - (158 + 6 * k)) (158 + 6 * k) _ P1 _ hR1 rfl hpl (by omega) (Nat.le_refl _) H
  have q157 : Q1 157 = P1 157 := by rw [r2, if_neg (by omega)]
  obtain ⟨s1, ⟨Q2, s2, s3⟩, s4, s5⟩ := rlea_2 (P' := P1) hB (by omega) 6 (158 + 6 * n) jz Q1 M1 r1 q157 r5 rfl (Nat.le_refl _) H
  refine ⟨s1, s2.eq (fun j hj => ?_), (rk_wI.trans r3).trans s4, fun k => (s5 k).trans ((r4 k).trans fI_wI)⟩
  unfold leaP
  rw [s3 j, r2 j, ← hn]
  by_cases h0 : j = 157
  · rw [if_pos h0, if_neg (by omega), if_neg (by omega), h0, p157]
  · rw [if_neg h0]
    by_cases h1 : 158 + 6 * k ≤ j ∧ j < 158 + 6 * n
    · rw [if_pos h1, if_neg (by omega), if_pos h1, eP1, up_ne (by omega)]
    · rw [if_neg h1]
      by_cases h2 : 158 + 6 * n ≤ j ∧ j < 158 + 6 * n + 6
      · rw [if_pos h2, if_pos h2]
      · rw [if_neg h2, if_neg h2, if_neg h1, eP1, up_ne h0]
end RTK
/-! THE REFERENCE'S goes, tick, endWeek -/
section RGO
variable {e t : Nat} {T : TS} {g : TQ} {P P' Q : PK} {M M1 M' : Mem} {v : Option Value} {c d : Int32} {w dd : Int32} {f0 : Bool} {ss : List Int32} {k B n : Nat}
theorem okK.cur (h : okK P) (h0 : P' 0 = P 0) (h1 : P' 1 = P 1) (h12 : P' 12 = P 12) (h157 : P' 157 = P 157) (ho : ∀ t, t < (P 157).toInt.toNat → t ≠ k → P' (158 + 6 * t) = P (158 + 6 * t) ∧ P' (158 + 6 * t + 1) = P (158 + 6 * t + 1) ∧ P' (158 + 6 * t + 3) = P (158 + 6 * t + 3)) (hk : k < (P 157).toInt.toNat → inC P (P' (158 + 6 * k)) ∧ P' (158 + 6 * k + 1) = P (158 + 6 * k + 1) ∧ -1 ≤ (P' (158 + 6 * k + 3)).toInt) : okK P' := by
  refine ⟨by rw [h157]; exact h.1, by rw [h157]; exact h.2.1, fun t ht => ?_⟩
  rw [h157] at ht
  obtain ⟨b1, b2, b3, b4⟩ := h.2.2 t ht
  rw [inC.eq h0 h1, h12]
  by_cases htk : t = k
  · subst htk
    obtain ⟨q1, q2, q3⟩ := hk ht
    rw [q2]
    exact ⟨q1, b2, b3, q3⟩
  · obtain ⟨q1, q2, q3⟩ := ho t ht htk
    rw [q1, q2, q3]
    exact ⟨b1, b2, b3, b4⟩
theorem okK.far (h : okK P) (hs : ∀ j, j < 518 → P' j = P j) : okK P' := by
  have h60 := h.2.1
  refine ⟨by rw [hs 157 (by decide)]; exact h.1, by rw [hs 157 (by decide)]; exact h.2.1, fun t ht => ?_⟩
  rw [hs 157 (by decide)] at ht
  obtain ⟨b1, b2, b3, b4⟩ := h.2.2 t ht
  rw [inC.eq (hs 0 (by decide)) (hs 1 (by decide)), hs _ (by omega), hs _ (by omega), hs 12 (by decide), hs _ (by omega)]
  exact ⟨b1, b2, b3, b4⟩
theorem okK.age (h : okK P) : okK (ageP P k) := by
  have ne : ∀ j, j ≠ 158 + 6 * k + 2 → ageP P k j = P j := fun j hj => up_ne hj
  refine h.cur (k := k) (ne _ (by omega)) (ne _ (by omega)) (ne _ (by omega)) (ne _ (by omega)) (fun t ht htk => ⟨ne _ (by omega), ne _ (by omega), ne _ (by omega)⟩) (fun hk => ?_)
  rw [ne _ (by omega), ne _ (by omega), ne _ (by omega)]
  obtain ⟨b1, b2, b3, b4⟩ := h.2.2 k hk
  exact ⟨b1, rfl, b4⟩
theorem mov_o : ∀ j, j ≠ 158 + 6 * k → j ≠ 158 + 6 * k + 3 → j ≠ 158 + 6 * k + 4 → movP P k d j = P j := fun j j0 j3 j4 => by
  unfold movP
  rw [up_ne j0, up_ne j4, up_ne j3]
theorem okK.mov (h : okK P) (hd : -1 ≤ d.toInt) (hto : inC P (besP P (P (158 + 6 * k)) d)) : okK (movP P k d) := by
  refine h.cur (k := k) (mov_o _ (by omega) (by omega) (by omega)) (mov_o _ (by omega) (by omega) (by omega)) (mov_o _ (by omega) (by omega) (by omega)) (mov_o _ (by omega) (by omega) (by omega)) (fun t ht htk => ⟨mov_o _ (by omega) (by omega) (by omega), mov_o _ (by omega) (by omega) (by omega), mov_o _ (by omega) (by omega) (by omega)⟩) (fun hk => ⟨?_, mov_o _ (by omega) (by omega) (by omega), ?_⟩)
  · have : movP P k d (158 + 6 * k) = besP P (P (158 + 6 * k)) d := by unfold movP; exact up_eq
    rw [this]
    exact hto
  · have : movP P k d (158 + 6 * k + 3) = d := by
      unfold movP
      rw [up_ne (by omega), up_ne (by omega), up_eq]
    rw [this]
    exact hd
theorem okK.lea (h : okK P) (hk : k < (P 157).toInt.toNat) : okK (leaP P k) := by
  have h60 := h.2.1
  have h0 := h.1
  have m1 : (P 157 - 1).toInt = (P 157).toInt - 1 := i32_m1 (by omega)
  have l157 : leaP P k 157 = P 157 - 1 := by unfold leaP; rw [if_pos rfl]
  have lo : ∀ j, j < 157 → leaP P k j = P j := fun j hj => by
    unfold leaP
    rw [if_neg (by omega), if_neg (by omega), if_neg (by omega)]
  have lw : ∀ t f, t < k → f < 6 → leaP P k (158 + 6 * t + f) = P (158 + 6 * t + f) := fun t f ht hf => by
    unfold leaP
    rw [if_neg (by omega), if_neg (by omega), if_neg (by omega)]
  have hw2 : ∀ t f, k ≤ t → t < (P 157 - 1).toInt.toNat → f < 6 → leaP P k (158 + 6 * t + f) = P (158 + 6 * (t + 1) + f) := fun t f ht h2 hf => by
    unfold leaP
    rw [if_neg (by omega), if_pos ⟨by omega, by omega⟩]
    congr 1
    omega
  refine ⟨by rw [l157, m1]; omega, by rw [l157, m1]; omega, fun t ht => ?_⟩
  rw [l157] at ht
  rw [inC.eq (lo 0 (by decide)) (lo 1 (by decide)), lo 12 (by decide)]
  by_cases hts : t < k
  · have f0 := lw t 0 hts (by decide)
    have f1 := lw t 1 hts (by decide)
    have f3 := lw t 3 hts (by decide)
    rw [Nat.add_zero] at f0
    rw [f0, f1, f3]
    exact h.2.2 t (by omega)
  · have f0 := hw2 t 0 (by omega) ht (by decide)
    have f1 := hw2 t 1 (by omega) ht (by decide)
    have f3 := hw2 t 3 (by omega) ht (by decide)
    rw [Nat.add_zero, Nat.add_zero] at f0
    rw [f0, f1, f3]
    exact h.2.2 (t + 1) (by omega)
/-- what stays of P in a walker's step -/
theorem stp_lo (hK : okK P) (hk : k < (P 157).toInt.toNat) : ∀ j, (j < 158 ∨ (518 ≤ j ∧ j < 522)) → (stpP T (P, ss) k).1 j = P j := fun j hj => by
  have h60 := hK.2.1
  unfold stpP
  split
  · exact up_ne (by omega)
  · show trdP (T 0) (movP (ageP P k) k (dirP T P k)) _ j = _
    rw [trd_lo (by omega), mov_o _ (by omega) (by omega) (by omega)]
    exact up_ne (by omega)
theorem stp_K (hD : okD P) (hK : okK P) (hk : k < (P 157).toInt.toNat) : okK (stpP T (P, ss) k).1 := by
  unfold stpP
  rcases dir_rng (T := T) hD hK hk with hd | ⟨d0, d1, dto⟩
  · rw [if_pos (by show dirP T P k < 0; rw [hd]; decide)]
    exact hK.age
  · rw [if_neg (show ¬ dirP T P k < 0 from fun q => by rw [i32_z] at q; omega)]
    have e0 : ageP P k (158 + 6 * k) = P (158 + 6 * k) := up_ne (by omega)
    have eb : besP (ageP P k) (P (158 + 6 * k)) (dirP T P k) = besP P (P (158 + 6 * k)) (dirP T P k) := bes_eq (up_ne (by omega)) (up_ne (by omega))
    have hm : okK (movP (ageP P k) k (dirP T P k)) := hK.age.mov (by omega) (by rw [e0, eb]; exact (inC.eq (up_ne (by omega)) (up_ne (by omega))).mpr dto)
    exact hm.far (fun j hj => trd_lo (by omega))
theorem goe_lo (hK : okK P) (hk : k < (P 157).toInt.toNat) : ∀ j, (j < 158 ∨ j = 518 ∨ j = 521) → (goeP T (P, ss) k).1.1 j = P j := fun j hj => by
  have h1 := stp_lo (T := T) (ss := ss) hK hk j (by omega)
  unfold goeP
  split
  · exact (up_ne (by omega)).trans h1
  · split
    · dsimp only
      exact h1
    · exact (up_ne (by omega)).trans h1
theorem goe_K (hD : okD P) (hK : okK P) (hk : k < (P 157).toInt.toNat) : okK (goeP T (P, ss) k).1.1 := by
  have h1 := stp_K (T := T) (ss := ss) hD hK hk
  unfold goeP
  split
  · exact h1.far (fun j hj => up_ne (by omega))
  · split
    · dsimp only
      exact h1
    · exact h1.far (fun j hj => up_ne (by omega))
theorem rgoe_ok (hR : RST T P M) (hD : okD P) (hK : okK P) (hk : k < (P 157).toInt.toNat) (hf : WFr w f0 ss M) (ha : ARn dd P M) {ww : Int32} (hww : ww.toInt = ((158 + 6 * k : Nat) : Int)) (H : Ev none e 206 0 [some (.ref 633), some (.int ww), none, none] [] M v M' 0 0) : v = some (.int (bI (goeP T (P, ss) k).2)) ∧ RST T (goeP T (P, ss) k).1.1 M' ∧ FZ rkF rkW noO M M' ∧ WFr w f0 (goeP T (P, ss) k).1.2 M' ∧ ARn dd (goeP T (P, ss) k).1.1 M' := by
  have hw := hD.1
  have h60 := hK.2.1
  obtain ⟨w1, w2, w3, w4, w5, w6⟩ := wis_ok hD hK hk
  have hkk := hK.2.2 k hk
  have h24 := hD.2.2.2.1
  have h9 := hD.2.1.2.1
  have z : ∀ (i : Int32) (n : Nat), i.toInt = (n : Int) → ∀ f : Int32, 0 ≤ f.toInt → f.toInt ≤ 6 → n < 1000 → (i + f).toInt = (n : Int) + f.toInt := fun i n hi f h0 h6 hn => by
    rw [i32_add (by omega) (by omega), hi]
  have t1 : (1 : Int32).toInt = 1 := rfl
  have t2 : (2 : Int32).toInt = 2 := rfl
  have t3 : (3 : Int32).toInt = 3 := rfl
  have t4 : (4 : Int32).toInt = 4 := rfl
  have t6 : (6 : Int32).toInt = 6 := rfl
  have t13 : (13 : Int32).toInt = 13 := rfl
  have i1 : (ww + 1).toInt = ((158 + 6 * k + 1 : Nat) : Int) := by rw [z ww _ hww 1 (by decide) (by decide) (by omega)]; omega
  have i2 : (ww + 2).toInt = ((158 + 6 * k + 2 : Nat) : Int) := by rw [z ww _ hww 2 (by decide) (by decide) (by omega)]; omega
  have i3 : (ww + 3).toInt = ((158 + 6 * k + 3 : Nat) : Int) := by rw [z ww _ hww 3 (by decide) (by decide) (by omega)]; omega
  have i4 : (ww + 4).toInt = ((158 + 6 * k + 4 : Nat) : Int) := by rw [z ww _ hww 4 (by decide) (by decide) (by omega)]; omega
  have s0 : rI M 635 ww = P (158 + 6 * k) := r_s hR hww (by omega)
  have s1 : rI M 635 (ww + 1) = P (158 + 6 * k + 1) := r_s hR i1 (by omega)
  have s3 : rI M 635 (ww + 3) = P (158 + 6 * k + 3) := r_s hR i3 (by omega)
  have s4 : rI M 635 (ww + 4) = P (158 + 6 * k + 4) := r_s hR i4 (by omega)
  have ewx : wxP P k = 13 + 6 * (P (158 + 6 * k + 1)).toInt.toNat := rfl
  have hwz := hkk.2.1
  have x0 : (13 + (6 * P (158 + 6 * k + 1))).toInt = ((wxP P k : Nat) : Int) := by
    have e : (6 : Int32).toInt * (P (158 + 6 * k + 1)).toInt = 6 * (P (158 + 6 * k + 1)).toInt := by rw [t6]
    have e2 : (6 * P (158 + 6 * k + 1)).toInt = 6 * (P (158 + 6 * k + 1)).toInt := by rw [i32_mul (by omega) (by omega), e]
    rw [i32_add (by omega) (by omega), e2, t13]
    omega
  have x1 : ((13 + (6 * P (158 + 6 * k + 1))) + 1).toInt = ((wxP P k + 1 : Nat) : Int) := by rw [z _ _ x0 1 (by decide) (by decide) (by omega)]; omega
  have x2 : ((13 + (6 * P (158 + 6 * k + 1))) + 2).toInt = ((wxP P k + 2 : Nat) : Int) := by rw [z _ _ x0 2 (by decide) (by decide) (by omega)]; omega
  have sx1 : rI M 635 ((13 + (6 * P (158 + 6 * k + 1))) + 1) = P (wxP P k + 1) := r_s hR x1 (by omega)
  have sx2 : rI M 635 ((13 + (6 * P (158 + 6 * k + 1))) + 2) = P (wxP P k + 2) := r_s hR x2 (by omega)
  have dx : (3 + P (wxP P k + 1)).toInt = ((3 + (P (wxP P k + 1)).toInt.toNat : Nat) : Int) := by
    rw [i32_add (by omega) (by omega), t3]
    omega
  have sg : rI M 635 (3 + P (wxP P k + 1)) = golP P k := r_s hR dx (by omega)
  have hx36 : (1 + P (wxP P k + 2)).toInt = ((hbP P k : Nat) : Int) := by
    unfold hbP
    rw [i32_add (by omega) (by omega), t1]
    omega
  obtain ⟨_, _, _, _, _, _, _, e1, v1, M1, rfl, H1, H⟩ := rgo_0 hR.1 H
  rw [s0, s1, s3, s4, sx1, sx2, sg] at H1
  rw [s1] at H
  obtain ⟨N, eN⟩ : ∃ N, N = (wF (wF (wF (wF (wF (wF M 633 34 (P (158 + 6 * k))) 633 35 (golP P k)) 633 36 (1 + P (wxP P k + 2))) 633 37 (P (158 + 6 * k + 3))) 633 38 (P (158 + 6 * k + 4))) 633 39 0) := ⟨_, rfl⟩
  rw [← eN] at H1
  have hRN : RST T P N := by rw [eN]; exact (((((hR.fld (by decide)).fld (by decide)).fld (by decide)).fld (by decide)).fld (by decide)).fld (by decide)
  have zN : ∀ j, j < 34 ∨ 39 < j → zI N 633 j = zI M 633 j := fun j hj => by
    rw [eN, fI_wF_ne (by omega), fI_wF_ne (by omega), fI_wF_ne (by omega), fI_wF_ne (by omega), fI_wF_ne (by omega), fI_wF_ne (by omega)]
  have hFN : FZ rkF rkW noO M N := by
    rw [eN]
    exact (((((FZ.wF (F := rkF) (W := rkW) (O := noO) ⟨rfl, by omega⟩).trans (FZ.wF ⟨rfl, by omega⟩)).trans (FZ.wF ⟨rfl, by omega⟩)).trans (FZ.wF ⟨rfl, by omega⟩)).trans (FZ.wF ⟨rfl, by omega⟩)).trans (FZ.wF ⟨rfl, by omega⟩)
  have hS := hR.1
  have hWC : RWC (wcP P k) (hbP P k) N := by
    rw [eN]
    refine ⟨?_, ?_, ?_, ?_, ?_, ?_⟩
    · rw [fI_wF_ne (by omega), fI_wF_ne (by omega), fI_wF_ne (by omega), fI_wF_ne (by omega), fI_wF_ne (by omega), fI_wF_eq hS.1 qa_633 qi_61_34]; rfl
    · rw [fI_wF_ne (by omega), fI_wF_ne (by omega), fI_wF_ne (by omega), fI_wF_ne (by omega), fI_wF_eq hS.kf.1 qa_633 qi_61_35]; rfl
    · rw [fI_wF_ne (by omega), fI_wF_ne (by omega), fI_wF_ne (by omega), fI_wF_eq hS.kf.kf.1 qa_633 qi_61_36]; exact hx36
    · rw [fI_wF_ne (by omega), fI_wF_ne (by omega), fI_wF_eq hS.kf.kf.kf.1 qa_633 qi_61_37]; rfl
    · rw [fI_wF_ne (by omega), fI_wF_eq hS.kf.kf.kf.kf.1 qa_633 qi_61_38]; rfl
    · rw [fI_wF_eq hS.kf.kf.kf.kf.kf.1 qa_633 qi_61_39]; rfl
  have hb7 : hbP P k < 7 := by unfold hbP; omega
  obtain ⟨rfl, q2, q3⟩ := rcho_ok hRN hw hK hb7 hWC hkk.1 w2.1 H1
  have hR1 := hRN.tu q2 q3
  have hW1 := hWC.tu q3
  have z1 : ∀ j, j < 34 ∨ 39 < j → zI M1 633 j = zI M 633 j := fun j hj => (q3.fi (fun q => q)).trans (zN j hj)
  have hF1 : FZ rkF rkW noO M M1 := hFN.trans (tu_rk q3)
  have hf1 : WFr w f0 ss M1 := ⟨(z1 40 (by omega)).trans hf.1, (z1 42 (by omega)).trans hf.2⟩
  have ha1 : zI M1 633 41 = P 519 + dd := (z1 41 (by omega)).trans ha
  have hdir : choP (T 0) P (T (hbP P k)) (wcP P k) = dirP T P k := rfl
  rw [hdir] at H
  have tail : ∀ (M2 : Mem), RST T (stpP T (P, ss) k).1 M2 → FZ rkF rkW noO M M2 → WFr w f0 (stpP T (P, ss) k).2 M2 → zI M2 633 35 = golP P k → zI M2 633 41 = P 519 + dd → Ev none (e1 + 1) 206 154 [some (.ref 633), some (.int ww), some (.int (13 + (6 * P (158 + 6 * k + 1)))), some (.int (dirP T P k))] [] M2 v M' 0 0 → v = some (.int (bI (goeP T (P, ss) k).2)) ∧ RST T (goeP T (P, ss) k).1.1 M' ∧ FZ rkF rkW noO M M' ∧ WFr w f0 (goeP T (P, ss) k).1.2 M' ∧ ARn dd (goeP T (P, ss) k).1.1 M' := by
    intro M2 hR2 hF2 hf2 h35 h41 H
    have p519 : (stpP T (P, ss) k).1 519 = P 519 := stp_lo hK hk 519 (by omega)
    obtain ⟨R, eR⟩ : ∃ R, R = stpP T (P, ss) k := ⟨_, rfl⟩
    have hgoe : goeP T (P, ss) k = (if R.1 (158 + 6 * k) = golP P k then ((uPk R.1 519 (R.1 519 + 1), R.2), false) else if R.1 (158 + 6 * k + 2) < 200 then (R, true) else ((uPk R.1 520 (R.1 520 + 1), R.2), false)) := by
      rw [eR]
      rfl
    rw [← eR] at hR2 hf2 p519
    have r0' : rI M2 635 ww = R.1 (158 + 6 * k) := r_s hR2 hww (by omega)
    have r2' : rI M2 635 (ww + 2) = R.1 (158 + 6 * k + 2) := r_s hR2 i2 (by omega)
    have r519 : rI M2 635 519 = R.1 519 := r_s hR2 (n := 519) rfl (by decide)
    have r520 : rI M2 635 520 = R.1 520 := r_s hR2 (n := 520) rfl (by decide)
    have e519 : (519 : Int32).toNatClampNeg = 519 := rfl
    have e520 : (520 : Int32).toNatClampNeg = 520 := rfl
    rw [hgoe]
    rcases rgo_154 hR2.1 H with ⟨a1, _, _, _, h1, h2⟩ | ⟨a1, a2, _, _, _, _, h1, h2⟩ | ⟨a1, a2, _, _, h1, h2⟩
    · rw [r0', h35] at a1
      rw [r519, e519, h41] at h2
      rw [if_pos a1]
      refine ⟨h1, ?_, ?_, ?_, ?_⟩
      · rw [h2]; exact (hR2.up (by decide)).fld (by decide)
      · rw [h2]; exact (hF2.trans rk_wI).trans (FZ.wF ⟨rfl, by omega⟩)
      · rw [h2]
        exact ⟨by rw [fI_wF_ne (by omega), fI_wI]; exact hf2.1, by rw [fI_wF_ne (by omega), fI_wI]; exact hf2.2⟩
      · unfold ARn
        rw [h2, fI_wF_eq hR2.1.ki.1 qa_633 qi_61_41]
        show _ = uPk R.1 519 (R.1 519 + 1) 519 + dd
        rw [up_eq, p519]
        grind
    · rw [r0', h35] at a1
      rw [r2'] at a2
      rw [r520, e520] at h2
      rw [if_neg a1, if_neg (fun q => by rw [Int32.lt_iff_toInt_lt] at q; have := Int32.le_iff_toInt_le.mp a2; omega)]
      refine ⟨h1, ?_, ?_, ?_, ?_⟩
      · rw [h2]; exact hR2.up (by decide)
      · rw [h2]; exact hF2.trans rk_wI
      · rw [h2]
        exact ⟨by rw [fI_wI]; exact hf2.1, by rw [fI_wI]; exact hf2.2⟩
      · unfold ARn
        rw [h2, fI_wI, h41]
        show _ = uPk R.1 520 (R.1 520 + 1) 519 + dd
        rw [up_ne (by decide), p519]
    · rw [r0', h35] at a1
      rw [r2'] at a2
      have h200 : R.1 (158 + 6 * k + 2) < 200 := by
        rw [Int32.lt_iff_toInt_lt]
        have : ¬ (200 : Int32).toInt ≤ (R.1 (158 + 6 * k + 2)).toInt := fun q => a2 (Int32.le_iff_toInt_le.mpr q)
        omega
      subst h2
      rw [if_neg a1, if_pos h200]
      exact ⟨h1, hR2, hF2, hf2, by unfold ARn; rw [h41, p519]⟩
  have c2 : (ww + 2).toNatClampNeg = 158 + 6 * k + 2 := cl_n i2
  have c3 : (ww + 3).toNatClampNeg = 158 + 6 * k + 3 := cl_n i3
  have c4 : (ww + 4).toNatClampNeg = 158 + 6 * k + 4 := cl_n i4
  have c0 : ww.toNatClampNeg = 158 + 6 * k := cl_n hww
  have s2 : rI M1 635 (ww + 2) = P (158 + 6 * k + 2) := r_s hR1 i2 (by omega)
  have hRa : RST T (ageP P k) (wI M1 635 (158 + 6 * k + 2) (P (158 + 6 * k + 2) + 1)) := hR1.up (by omega)
  rcases rgo_91 q2 H with ⟨a1, _, _, H⟩ | ⟨a1, _, _, _, _, _, _, e2, v2, M2, he, H2, H⟩
  · rw [s2, c2] at H
    have hst : stpP T (P, ss) k = (ageP P k, ss) := by
      unfold stpP
      rw [if_pos a1]
    refine tail _ ?_ (hF1.trans rk_wI) ?_ ?_ ?_ H
    · rw [hst]; exact hRa
    · rw [hst]
      exact ⟨by rw [fI_wI]; exact hf1.1, by rw [fI_wI]; exact hf1.2⟩
    · rw [fI_wI]; exact hW1.2.1
    · rw [fI_wI]; exact ha1
  · rcases dir_rng (T := T) hD hK hk with hd | ⟨d0, d1, dto⟩
    · rw [hd] at a1
      exact absurd (by decide) a1
    · rw [s2, c0, c2, c3, c4, hW1.1] at H2
      have hw1 : (wcP P k).1 = P (158 + 6 * k) := rfl
      rw [hw1] at H2
      have ea0 : ageP P k (158 + 6 * k) = P (158 + 6 * k) := up_ne (by omega)
      have hRb := (hRa.up (i := 158 + 6 * k + 3) (by omega) (x := dirP T P k)).up (i := 158 + 6 * k + 4) (by omega) (x := ageP P k (158 + 6 * k))
      obtain ⟨Pb, ePb⟩ : ∃ Pb, Pb = uPk (uPk (ageP P k) (158 + 6 * k + 3) (dirP T P k)) (158 + 6 * k + 4) (ageP P k (158 + 6 * k)) := ⟨_, rfl⟩
      rw [← ePb, ea0] at hRb
      have hg : G_194 (wI (wI (wI M1 635 (158 + 6 * k + 2) (P (158 + 6 * k + 2) + 1)) 635 (158 + 6 * k + 3) (dirP T P k)) 635 (158 + 6 * k + 4) (P (158 + 6 * k))) (P (158 + 6 * k)) (dirP T P k) = besP (ageP P k) (ageP P k (158 + 6 * k)) (dirP T P k) := by
        rw [g194_ok hRb, ea0]
        exact bes_eq (by rw [ePb, up_ne (by omega), up_ne (by omega)]) (by rw [ePb, up_ne (by omega), up_ne (by omega)])
      rw [hg] at H2
      have hRc := hRb.up (i := 158 + 6 * k) (by omega) (x := besP (ageP P k) (ageP P k (158 + 6 * k)) (dirP T P k))
      have hmov : uPk Pb (158 + 6 * k) (besP (ageP P k) (ageP P k (158 + 6 * k)) (dirP T P k)) = movP (ageP P k) k (dirP T P k) := by rw [ePb]; rfl
      rw [hmov] at hRc
      obtain ⟨M3, eM3⟩ : ∃ M3, M3 = wI (wI (wI (wI M1 635 (158 + 6 * k + 2) (P (158 + 6 * k + 2) + 1)) 635 (158 + 6 * k + 3) (dirP T P k)) 635 (158 + 6 * k + 4) (P (158 + 6 * k))) 635 (158 + 6 * k) (besP (ageP P k) (ageP P k (158 + 6 * k)) (dirP T P k)) := ⟨_, rfl⟩
      rw [← eM3] at H2 hRc
      have eb : besP (ageP P k) (ageP P k (158 + 6 * k)) (dirP T P k) = besP P (P (158 + 6 * k)) (dirP T P k) := by
        rw [ea0]
        exact bes_eq (up_ne (by omega)) (up_ne (by omega))
      have hmc : movP (ageP P k) k (dirP T P k) (158 + 6 * k) = besP P (P (158 + 6 * k)) (dirP T P k) := by
        unfold movP
        rw [up_eq, eb]
      have hval : rI M3 635 ww = besP P (P (158 + 6 * k)) (dirP T P k) := (r_s hRc hww (by omega)).trans hmc
      rw [hval] at H2
      have z3 : ∀ j, zI M3 633 j = zI M1 633 j := fun j => by rw [eM3, fI_wI, fI_wI, fI_wI, fI_wI]
      have hFm : FZ rkF rkW noO M M3 := by
        rw [eM3]
        exact (((hF1.trans rk_wI).trans rk_wI).trans rk_wI).trans rk_wI
      have m0 : movP (ageP P k) k (dirP T P k) 0 = P 0 := by
        rw [mov_o _ (by omega) (by omega) (by omega)]
        exact up_ne (by omega)
      have m1 : movP (ageP P k) k (dirP T P k) 1 = P 1 := by
        rw [mov_o _ (by omega) (by omega) (by omega)]
        exact up_ne (by omega)
      have hfm : WFr w f0 ss M3 := ⟨(z3 40).trans hf1.1, (z3 42).trans hf1.2⟩
      obtain ⟨rfl, y1, y2, y3, y4⟩ := rtrd_ok hRc (hw.eq m0 m1) ((inC.eq m0 m1).mpr dto) hfm H2
      have hst : stpP T (P, ss) k = (trdP (T 0) (movP (ageP P k) k (dirP T P k)) (besP P (P (158 + 6 * k)) (dirP T P k)), besP P (P (158 + 6 * k)) (dirP T P k) :: ss) := by
        unfold stpP
        rw [if_neg a1]
      refine tail M2 ?_ (hFm.trans y2) ?_ ?_ ?_ H
      · rw [hst]; exact y1
      · rw [hst]; exact y3
      · rw [y4 35 (by decide), z3]; exact hW1.2.1
      · rw [y4 41 (by decide), z3]; exact ha1
end RGO
/-! THE REFERENCE'S tick, endWeek, wornMany, go -/
section RTC
variable {e t : Nat} {T : TS} {g : TQ} {P P' Q : PK} {M M1 M' : Mem} {v : Option Value} {c d : Int32} {w dd : Int32} {f0 : Bool} {ss : List Int32} {k B n : Nat}
theorem rwlk_l : ∀ (r k : Nat) (kz : Int32) (P : PK) (ss : List Int32) (M : Mem) (c2 c3 : Option Value), RST T P M → okD P → okK P → WFr w f0 ss M → ARn dd P M → kz.toInt = (k : Int) → (k : Int) + (r : Int) = (P 157).toInt → Ev none e 204 202 [some (.ref 633), some (.int kz), c2, c3] [] M v M' 0 0 → ∃ (P6 : PK) (ss6 : List Int32), wlkP T r k (P, ss) = (P6, ss6) ∧ v = none ∧ RST T (uPk P6 518 (P6 518 + 1)) M' ∧ okD P6 ∧ okK P6 ∧ FZ rkF rkW noO M M' ∧ WFr w f0 ss6 M' ∧ ARn dd P6 M' ∧ (∀ j, j < 157 → P6 j = P j) := by
  intro r
  induction r with
  | zero =>
    intro k kz P ss M c2 c3 hR hD hK hf ha hk hn H
    have h157 : rI M 635 157 = P 157 := r_s hR (n := 157) rfl (by decide)
    have h518 : rI M 635 518 = P 518 := r_s hR (n := 518) rfl (by decide)
    have e518 : (518 : Int32).toNatClampNeg = 518 := rfl
    rcases rtk_202 hR.1 H with ⟨_, _, _, _, h1, h2⟩ | ⟨a1, _⟩
    · rw [h518, e518] at h2
      refine ⟨P, ss, rfl, h1, by rw [h2]; exact hR.up (by decide), hD, hK, by rw [h2]; exact rk_wI, ?_, ?_, fun _ _ => rfl⟩
      · rw [h2]
        exact ⟨by rw [fI_wI]; exact hf.1, by rw [fI_wI]; exact hf.2⟩
      · unfold ARn
        rw [h2, fI_wI]
        exact ha
    · exact absurd (Int32.le_iff_toInt_le.mpr (by rw [h157]; omega)) a1
  | succ r ih =>
    intro k kz P ss M c2 c3 hR hD hK hf ha hk hn H
    have h157 : rI M 635 157 = P 157 := r_s hR (n := 157) rfl (by decide)
    have h60 := hK.2.1
    have hkn : k < (P 157).toInt.toNat := by omega
    rcases rtk_202 hR.1 H with ⟨a1, _⟩ | ⟨_, _, e1, v1, M1, rfl, H1, H⟩
    · rw [h157] at a1
      have := Int32.le_iff_toInt_le.mp a1
      omega
    · have hpl : (158 + (6 * kz)).toInt = ((158 + 6 * k : Nat) : Int) := by
        have := (i32_e kz (by omega) (by omega)).1
        omega
      obtain ⟨rfl, q2, q3, q4, q5⟩ := rgoe_ok hR hD hK hkn hf ha hpl H1
      obtain ⟨R, eR⟩ : ∃ R, R = goeP T (P, ss) k := ⟨_, rfl⟩
      have hlo : ∀ j, (j < 158 ∨ j = 518 ∨ j = 521) → R.1.1 j = P j := by rw [eR]; exact goe_lo hK hkn
      have hK2 : okK R.1.1 := by rw [eR]; exact goe_K hD hK hkn
      rw [← eR] at q2 q4 q5 H
      have hD2 : okD R.1.1 := hD.sb (fun j hj => hlo j (by omega))
      have h157' : R.1.1 157 = P 157 := hlo 157 (by omega)
      have hw : wlkP T (r + 1) k (P, ss) = (if R.2 = true then wlkP T r (k + 1) R.1 else wlkP T r k (leaP R.1.1 k, R.1.2)) := by rw [eR]; rfl
      rw [hw]
      rcases rtk_226 q2.1 H with ⟨b1, e2, v2, M2, he, H2, H⟩ | ⟨b1, H⟩
      · rw [bI_0] at b1
        rw [if_neg (by rw [b1]; decide)]
        obtain ⟨rfl, p2, p3, p4⟩ := rlea_ok q2 (by rw [h157']; omega) (by rw [h157']; exact h60) hk (by rw [h157']; omega) H2
        have H := rtk_240 p2.1 H
        have hR3 := p2
        have hl157 : leaP R.1.1 k 157 = R.1.1 157 - 1 := by unfold leaP; rw [if_pos rfl]
        have hm : (R.1.1 157 - 1).toInt = (R.1.1 157).toInt - 1 := i32_m1 (by rw [h157']; omega)
        have hlolea : ∀ j, j < 157 → leaP R.1.1 k j = R.1.1 j := fun j hj => by
          unfold leaP
          rw [if_neg (by omega), if_neg (by omega), if_neg (by omega)]
        have h519 : leaP R.1.1 k 519 = R.1.1 519 := by
          unfold leaP
          rw [if_neg (by decide), if_neg (by rw [hm, h157']; omega), if_neg (by rw [hm, h157']; omega)]
        obtain ⟨P6, ss6, s1, s2, s3, s4, s5, s6, s7, s8, s9⟩ := ih k kz (leaP R.1.1 k) R.1.2 M2 _ _ hR3 (hD2.sb hlolea) (hK2.lea (by rw [h157']; exact hkn)) ⟨(p4 40).trans q4.1, (p4 42).trans q4.2⟩ (by unfold ARn; rw [p4, h519]; exact q5) hk (by rw [hl157, hm, h157']; omega) H
        exact ⟨P6, ss6, s1, s2, s3, s4, s5, (q3.trans p3).trans s6, s7, s8, fun j hj => (s9 j hj).trans ((hlolea j hj).trans (hlo j (by omega)))⟩
      · rw [bI_0, Bool.not_eq_false] at b1
        rw [if_pos b1]
        obtain ⟨P6, ss6, s1, s2, s3, s4, s5, s6, s7, s8, s9⟩ := ih (k + 1) (kz + 1) R.1.1 R.1.2 M1 _ _ q2 hD2 hK2 q4 q5 (by rw [i32_p1 (by omega)]; omega) (by rw [h157']; omega) H
        exact ⟨P6, ss6, s1, s2, s3, s4, s5, q3.trans s6, s7, s8, fun j hj => (s9 j hj).trans (hlo j (by omega))⟩
theorem okK.new (hD : okD P) (h : okK P) (hk : k < (P 12).toInt.toNat) (hm : ¬ P 157 = 60) : okK (newP P k) := by
  obtain ⟨k0, k60, kk⟩ := h
  have t60 : (60 : Int32).toInt = 60 := rfl
  have m59 : (P 157).toInt ≤ 59 := by
    have : (P 157).toInt ≠ 60 := fun q => hm (Int32.toInt_inj.mp (q.trans t60.symm))
    omega
  obtain ⟨m, em⟩ : ∃ m, m = (P 157).toInt.toNat := ⟨_, rfl⟩
  obtain ⟨hfr, _, _, _, _⟩ := hD.2.2.2.2 k hk
  have hto : inC P (P (3 + (P (13 + 6 * k)).toInt.toNat)) := hD.2.1.2.2 _ (by omega)
  obtain ⟨Q, eQ⟩ : ∃ Q, Q = newP P k := ⟨_, rfl⟩
  rw [← eQ]
  unfold newP at eQ
  rw [← em] at eQ
  have q157 : Q 157 = P 157 + 1 := by rw [eQ]; exact up_eq
  have q157i : (Q 157).toInt = (m : Int) + 1 := by
    rw [q157, i32_p1 (by omega)]
    omega
  have Qo : ∀ j, j ≠ 157 → (j < 158 + 6 * m ∨ 158 + 6 * m + 5 ≤ j) → Q j = P j := fun j j1 j2 => by
    rw [eQ, up_ne j1, up_ne (by omega), up_ne (by omega), up_ne (by omega), up_ne (by omega), up_ne (by omega)]
  have Q0 : Q (158 + 6 * m) = P (3 + (P (13 + 6 * k)).toInt.toNat) := by
    rw [eQ, up_ne (by omega), up_ne (by omega), up_ne (by omega), up_ne (by omega), up_ne (by omega), up_eq]
  have Q1 : Q (158 + 6 * m + 1) = nI k := by
    rw [eQ, up_ne (by omega), up_ne (by omega), up_ne (by omega), up_ne (by omega), up_eq]
  have Q3 : Q (158 + 6 * m + 3) = -1 := by
    rw [eQ, up_ne (by omega), up_ne (by omega), up_eq]
  have hkI : (nI k).toInt = (k : Int) := nI_toInt (by have := hD.2.2.2.1; omega)
  have e0 : Q 0 = P 0 := Qo 0 (by omega) (by omega)
  have e1 : Q 1 = P 1 := Qo 1 (by omega) (by omega)
  refine ⟨by omega, by omega, fun t ht => ?_⟩
  rw [inC.eq e0 e1]
  by_cases htm : t = m
  · subst htm
    rw [Q0, Q1, Q3, Qo 12 (by omega) (by omega), hkI]
    exact ⟨hto, by omega, by omega, by decide⟩
  · obtain ⟨c1, c2, c3, c4⟩ := kk t (by omega)
    rw [Qo _ (by omega) (by omega), Qo _ (by omega) (by omega), Qo 12 (by omega) (by omega), Qo _ (by omega) (by omega)]
    exact ⟨c1, c2, c3, c4⟩
theorem rbeg_l : ∀ (n k : Nat) (kz : Int32) (P : PK) (M : Mem) (c2 c3 : Option Value), RST T P M → okD P → okK P → kz.toInt = (k : Int) → (k : Int) + (n : Int) = (P 12).toInt → Ev none e 204 2 [some (.ref 633), some (.int kz), c2, c3] [] M v M' 0 0 → ∃ M1 d2 d3, RST T (begP n k P) M1 ∧ okK (begP n k P) ∧ FZ rkF rkW noO M M1 ∧ (∀ j, zI M1 633 j = zI M 633 j) ∧ Ev none e 204 202 [some (.ref 633), some (.int 0), d2, d3] [] M1 v M' 0 0 := by
  intro n
  induction n with
  | zero =>
    intro k kz P M c2 c3 hR hD hK hk hn H
    have h12 : rI M 635 12 = P 12 := r_s hR (n := 12) rfl (by decide)
    rcases rtk_2 hR.1 H with ⟨_, _, H⟩ | ⟨a1, _⟩ | ⟨a1, _⟩ | ⟨a1, _⟩ | ⟨a1, _⟩ | ⟨a1, _⟩
    · exact ⟨M, _, _, hR, hK, FZ.refl _, fun _ => rfl, H⟩
    all_goals exact absurd (Int32.le_iff_toInt_le.mpr (by rw [h12]; omega)) a1
  | succ n ih =>
    intro k kz P M c2 c3 hR hD hK hk hn H
    have h12 : rI M 635 12 = P 12 := r_s hR (n := 12) rfl (by decide)
    have h24 := hD.2.2.2.1
    have hkn : k < (P 12).toInt.toNat := by omega
    have t13 : (13 : Int32).toInt = 13 := rfl
    have t6 : (6 : Int32).toInt = 6 := rfl
    have z : ∀ (i : Int32) (n : Nat), i.toInt = (n : Int) → ∀ f : Int32, 0 ≤ f.toInt → f.toInt ≤ 6 → n < 1000 → (i + f).toInt = (n : Int) + f.toInt := fun i n hi f h0 h6 hn => by
      rw [i32_add (by omega) (by omega), hi]
    have x0 : (13 + (6 * kz)).toInt = ((13 + 6 * k : Nat) : Int) := by
      have e : (6 : Int32).toInt * kz.toInt = 6 * (k : Int) := by rw [t6, hk]
      have e2 : (6 * kz).toInt = 6 * (k : Int) := by rw [i32_mul (by omega) (by omega), e]
      rw [i32_add (by omega) (by omega), e2, t13]
      omega
    have x3 : ((13 + (6 * kz)) + 3).toInt = ((13 + 6 * k + 3 : Nat) : Int) := by rw [z _ _ x0 3 (by decide) (by decide) (by omega)]; rfl
    have x4 : ((13 + (6 * kz)) + 4).toInt = ((13 + 6 * k + 4 : Nat) : Int) := by rw [z _ _ x0 4 (by decide) (by decide) (by omega)]; rfl
    have x5 : ((13 + (6 * kz)) + 5).toInt = ((13 + 6 * k + 5 : Nat) : Int) := by rw [z _ _ x0 5 (by decide) (by decide) (by omega)]; rfl
    have s0 : rI M 635 (13 + (6 * kz)) = P (13 + 6 * k) := r_s hR x0 (by omega)
    have s3 : rI M 635 ((13 + (6 * kz)) + 3) = P (13 + 6 * k + 3) := r_s hR x3 (by omega)
    have s4 : rI M 635 ((13 + (6 * kz)) + 4) = P (13 + 6 * k + 4) := r_s hR x4 (by omega)
    have s5 : rI M 635 ((13 + (6 * kz)) + 5) = P (13 + 6 * k + 5) := r_s hR x5 (by omega)
    have s518 : rI M 635 518 = P 518 := r_s hR (n := 518) rfl (by decide)
    have s157 : rI M 635 157 = P 157 := r_s hR (n := 157) rfl (by decide)
    have s521 : rI M 635 521 = P 521 := r_s hR (n := 521) rfl (by decide)
    have hk1 : (kz + 1).toInt = ((k + 1 : Nat) : Int) := by
      rw [i32_p1 (by omega)]
      omega
    have hkI : kz = nI k := Int32.toInt_inj.mp (by rw [hk, nI_toInt (by omega)])
    have no : dueB P k = false → ∀ (c2 c3 : Option Value), Ev none e 204 2 [some (.ref 633), some (.int (kz + 1)), c2, c3] [] M v M' 0 0 → ∃ M1 d2 d3, RST T (begP (n + 1) k P) M1 ∧ okK (begP (n + 1) k P) ∧ FZ rkF rkW noO M M1 ∧ (∀ j, zI M1 633 j = zI M 633 j) ∧ Ev none e 204 202 [some (.ref 633), some (.int 0), d2, d3] [] M1 v M' 0 0 := fun hb c2 c3 H => by
      have hbe : begP (n + 1) k P = begP n (k + 1) P := by
        show (if dueB P k = true then _ else begP n (k + 1) P) = _
        rw [if_neg (by rw [hb]; decide)]
      rw [hbe]
      exact ih (k + 1) (kz + 1) P M c2 c3 hR hD hK hk1 (by omega) H
    have hrem : remI (P 518 - P (13 + 6 * k + 4)) (P (13 + 6 * k + 3)) = (P 518 - P (13 + 6 * k + 4)) - (P 518 - P (13 + 6 * k + 4)) / P (13 + 6 * k + 3) * P (13 + 6 * k + 3) := rfl
    rcases rtk_2 hR.1 H with ⟨a1, _⟩ | ⟨_, a2, _, _, H⟩ | ⟨_, a2, a3, _, _, _, _, H⟩ | ⟨_, a2, a3, a4, a5, _, _, _, _, _, _, _, _, _, _, _, H⟩ | ⟨_, a2, a3, a4, a5, _, _, _, _, _, _, _, _, _, _, _, _, _, _, _, _, _, _, _, H⟩ | ⟨_, a2, a3, a4, _, _, _, _, _, _, _, _, H⟩
    · rw [h12] at a1
      have := Int32.le_iff_toInt_le.mp a1
      omega
    · rw [s5] at a2
      exact no (by unfold dueB; rw [decide_eq_true a2]; rfl) _ _ H
    · rw [s5] at a2
      rw [s518, s4] at a3
      exact no (by unfold dueB; rw [decide_eq_false a2, decide_eq_true a3]; rfl) _ _ H
    · rw [s5] at a2
      rw [s518, s4] at a3 a4
      rw [s3, ← hrem] at a4
      rw [s157] at a5
      have e521 : (521 : Int32).toNatClampNeg = 521 := rfl
      rw [s521, e521] at H
      have hbe : begP (n + 1) k P = begP n (k + 1) (uPk P 521 (P 521 + 1)) := by
        have hb : dueB P k = true := by unfold dueB; rw [decide_eq_false a2, decide_eq_false a3, decide_eq_true a4]; rfl
        show (if dueB P k = true then (if P 157 = 60 then _ else _) else _) = _
        rw [if_pos hb, if_pos a5]
      rw [hbe]
      obtain ⟨M1, d2, d3, r1, r2, r3, r4, r5⟩ := ih (k + 1) (kz + 1) (uPk P 521 (P 521 + 1)) _ _ _ (hR.up (by decide)) (hD.sb (fun j hj => up_ne (by omega))) (hK.cur (k := 1000) (up_ne (by decide)) (up_ne (by decide)) (up_ne (by decide)) (up_ne (by decide)) (fun t ht _ => ⟨up_ne (by have := hK.2.1; omega), up_ne (by have := hK.2.1; omega), up_ne (by have := hK.2.1; omega)⟩) (fun h => absurd h (by have := hK.2.1; omega))) hk1 (by rw [show uPk P 521 (P 521 + 1) 12 = P 12 from up_ne (by decide)]; omega) H
      exact ⟨M1, d2, d3, r1, r2, rk_wI.trans r3, fun j => (r4 j).trans fI_wI, r5⟩
    · rw [s5] at a2
      rw [s518, s4] at a3 a4
      rw [s3, ← hrem] at a4
      rw [s157] at a5
      have hbe : begP (n + 1) k P = begP n (k + 1) (newP P k) := by
        have hb : dueB P k = true := by unfold dueB; rw [decide_eq_false a2, decide_eq_false a3, decide_eq_true a4]; rfl
        show (if dueB P k = true then (if P 157 = 60 then _ else _) else _) = _
        rw [if_pos hb, if_neg a5]
      rw [hbe]
      have hKn := okK.new hD hK hkn a5
      have hlt : (P 157).toInt ≤ 59 := by
        have t60 : (60 : Int32).toInt = 60 := rfl
        have : (P 157).toInt ≠ 60 := fun q => a5 (Int32.toInt_inj.mp (q.trans t60.symm))
        have := hK.2.1
        omega
      obtain ⟨m, em⟩ : ∃ m, m = (P 157).toInt.toNat := ⟨_, rfl⟩
      have emi : (P 157).toInt = (m : Int) := by have := hK.1; omega
      have y0 : (158 + (6 * P 157)).toInt = ((158 + 6 * m : Nat) : Int) := by
        have := (i32_e (P 157) (by omega) (by omega)).1
        omega
      have y1 : ((158 + (6 * P 157)) + 1).toInt = ((158 + 6 * m + 1 : Nat) : Int) := by rw [z _ _ y0 1 (by decide) (by decide) (by omega)]; rfl
      have y2 : ((158 + (6 * P 157)) + 2).toInt = ((158 + 6 * m + 2 : Nat) : Int) := by rw [z _ _ y0 2 (by decide) (by decide) (by omega)]; rfl
      have y3 : ((158 + (6 * P 157)) + 3).toInt = ((158 + 6 * m + 3 : Nat) : Int) := by rw [z _ _ y0 3 (by decide) (by decide) (by omega)]; rfl
      have y4 : ((158 + (6 * P 157)) + 4).toInt = ((158 + 6 * m + 4 : Nat) : Int) := by rw [z _ _ y0 4 (by decide) (by decide) (by omega)]; rfl
      have hfr := (hD.2.2.2.2 k hkn).1
      have h9 := hD.2.1.2.1
      have t3 : (3 : Int32).toInt = 3 := rfl
      have dx : (3 + P (13 + 6 * k)).toInt = ((3 + (P (13 + 6 * k)).toInt.toNat : Nat) : Int) := by
        rw [i32_add (by omega) (by omega), t3]
        omega
      have sdo : rI M 635 (3 + P (13 + 6 * k)) = P (3 + (P (13 + 6 * k)).toInt.toNat) := r_s hR dx (by omega)
      have e157 : (157 : Int32).toNatClampNeg = 157 := rfl
      rw [s157, s0, sdo, cl_n y0, cl_n y1, cl_n y2, cl_n y3, cl_n y4, e157, hkI] at H
      have g1 := ((((hR.up (i := 158 + 6 * m) (by omega) (x := P (3 + (P (13 + 6 * k)).toInt.toNat))).up (i := 158 + 6 * m + 1) (by omega) (x := nI k)).up (i := 158 + 6 * m + 2) (by omega) (x := 0)).up (i := 158 + 6 * m + 3) (by omega) (x := -1)).up (i := 158 + 6 * m + 4) (by omega) (x := -1)
      obtain ⟨N, eN⟩ : ∃ N, N = wI (wI (wI (wI (wI M 635 (158 + 6 * m) (P (3 + (P (13 + 6 * k)).toInt.toNat))) 635 (158 + 6 * m + 1) (nI k)) 635 (158 + 6 * m + 2) 0) 635 (158 + 6 * m + 3) (-1)) 635 (158 + 6 * m + 4) (-1) := ⟨_, rfl⟩
      rw [← eN] at g1 H
      have n157 : rI N 635 157 = P 157 := by
        rw [r_s g1 (n := 157) rfl (by decide), up_ne (by omega), up_ne (by omega), up_ne (by omega), up_ne (by omega), up_ne (by omega)]
      rw [n157] at H
      have g2 := g1.up (i := 157) (by decide) (x := P 157 + 1)
      have hnew : newP P k = uPk (uPk (uPk (uPk (uPk (uPk P (158 + 6 * m) (P (3 + (P (13 + 6 * k)).toInt.toNat))) (158 + 6 * m + 1) (nI k)) (158 + 6 * m + 2) 0) (158 + 6 * m + 3) (-1)) (158 + 6 * m + 4) (-1)) 157 (P 157 + 1) := by
        rw [em]
        rfl
      rw [← hnew] at g2
      have hsb : ∀ j, j < 157 → newP P k j = P j := new_sb (by omega) (by omega)
      have hFN : FZ rkF rkW noO M N := by
        rw [eN]
        exact (((rk_wI.trans rk_wI).trans rk_wI).trans rk_wI).trans rk_wI
      obtain ⟨M1, d2, d3, r1, r2, r3, r4, r5⟩ := ih (k + 1) (nI k + 1) (newP P k) _ _ _ g2 (hD.sb hsb) hKn (by rw [← hkI]; exact hk1) (by rw [hsb 12 (by decide)]; omega) H
      refine ⟨M1, d2, d3, r1, r2, (hFN.trans rk_wI).trans r3, fun j => (r4 j).trans (fI_wI.trans ?_), r5⟩
      rw [eN, fI_wI, fI_wI, fI_wI, fI_wI, fI_wI]
    · rw [s5] at a2
      rw [s518, s4] at a3 a4
      rw [s3, ← hrem] at a4
      exact no (by unfold dueB; rw [decide_eq_false a2, decide_eq_false a3, decide_eq_false a4]; rfl) _ _ H
theorem rtick_ok (hR : RST T P M) (hD : okD P) (hK : okK P) (hf : WFr w f0 ss M) (ha : ARn dd P M) (H : Ev none e 204 0 [some (.ref 633), none, none, none] [] M v M' 0 0) : v = none ∧ RST T (tckP T (P, ss)).1 M' ∧ okD (tckP T (P, ss)).1 ∧ okK (tckP T (P, ss)).1 ∧ FZ rkF rkW noO M M' ∧ WFr w f0 (tckP T (P, ss)).2 M' ∧ ARn dd (tckP T (P, ss)).1 M' ∧ (∀ j, j < 157 → (tckP T (P, ss)).1 j = P j) := by
  have h12 := hD.2.2.1
  obtain ⟨M1, d2, d3, r1, r2, r3, r4, H⟩ := rbeg_l (P 12).toInt.toNat 0 0 P M none none hR hD hK rfl (by omega) (rtk_0 hR.1 H)
  have bk := beg_keep (P 12).toInt.toNat 0 P hK.1 hK.2.1
  obtain ⟨P1, eP1⟩ : ∃ P1, P1 = bg0P P := ⟨_, rfl⟩
  have eb : begP (P 12).toInt.toNat 0 P = P1 := eP1.symm
  rw [eb] at r1 r2 bk
  have hD1 : okD P1 := hD.sb (fun j hj => bk j (Or.inl hj))
  have hK1 := r2.1
  obtain ⟨P6, ss6, s1, s2, s3, s4, s5, s6, s7, s8, s9⟩ := rwlk_l (P1 157).toInt.toNat 0 0 P1 ss M1 d2 d3 r1 hD1 r2 ⟨(r4 40).trans hf.1, (r4 42).trans hf.2⟩ (by unfold ARn; rw [r4, bk 519 (by omega)]; exact ha) rfl (by omega) H
  have ht1 : tckP T (P, ss) = (uPk P6 518 (P6 518 + 1), ss6) := by
    unfold tckP
    dsimp only
    rw [← eP1, s1]
  rw [ht1]
  have hlow : ∀ j, j < 157 → uPk P6 518 (P6 518 + 1) j = P j := fun j hj => (up_ne (by omega)).trans ((s9 j hj).trans (bk j (Or.inl hj)))
  have hK6 : okK (uPk P6 518 (P6 518 + 1)) := s5.far (fun j hj => up_ne (by omega))
  have h519 : uPk P6 518 (P6 518 + 1) 519 = P6 519 := up_ne (by decide)
  refine ⟨s2, s3, hD.sb hlow, hK6, r3.trans s6, s7, ?_, hlow⟩
  unfold ARn
  rw [s8]
  show P6 519 + dd = uPk P6 518 (P6 518 + 1) 519 + dd
  rw [h519]
theorem rwka_l (hw : wh4 P) : ∀ (n : Nat) (c : Int32) (Q : PK) (M : Mem) (c2 c3 : Option Value), RST T Q M → Q 0 = P 0 → Q 1 = P 1 → 0 ≤ c.toInt → c.toInt + (n : Int) = (clsP P : Int) → Ev none e 208 2 [some (.ref 633), some (.int c), c2, c3] [] M v M' 0 0 → ∃ M1 d2 d3, RST T (wkaP (T 0) n c Q) M1 ∧ FZ rkF rkW noO M M1 ∧ (∀ j, zI M1 633 j = zI M 633 j) ∧ (∀ j, j < 522 → wkaP (T 0) n c Q j = Q j) ∧ Ev none e 208 76 [some (.ref 633), some (.int 0), d2, d3] [] M1 v M' 0 0 := by
  obtain ⟨_, c256, _⟩ := cls_int hw
  intro n
  induction n with
  | zero =>
    intro c Q M c2 c3 hR h0 h1 hc hn H
    have hg := g144_ok hR (hw.eq h0 h1)
    rw [cls_eq h0 h1] at hg
    rcases rew_2 hR.1 H with ⟨_, H⟩ | ⟨a1, _⟩
    · exact ⟨M, _, _, hR, FZ.refl _, fun _ => rfl, fun _ _ => rfl, H⟩
    · exact absurd (Int32.le_iff_toInt_le.mpr (by omega)) a1
  | succ n ih =>
    intro c Q M c2 c3 hR h0 h1 hc hn H
    have hwQ := hw.eq h0 h1
    have hg := g144_ok hR hwQ
    rw [cls_eq h0 h1] at hg
    have hcin : inC Q c := (inC.eq h0 h1).mpr ⟨hc, by omega⟩
    rcases rew_2 hR.1 H with ⟨a1, _⟩ | ⟨_, e1, v1, M1, rfl, H1, H⟩
    · have := Int32.le_iff_toInt_le.mp a1
      omega
    · rw [r_cell hR hwQ hcin (fn := 3) rfl (by decide)] at H
      obtain ⟨rfl, q2, q3⟩ := rfst_ok hR hwQ hcin H1
      have hR1 := hR.tu q2 q3
      have l0 : ∀ (f : Nat) (x : Int32), uPk Q (cX f c) x 0 = Q 0 := fun f x => up_ne (by have := cX_ge (f := f) (c := c); omega)
      have l1 : ∀ (f : Nat) (x : Int32), uPk Q (cX f c) x 1 = Q 1 := fun f x => up_ne (by have := cX_ge (f := f) (c := c); omega)
      have hm0 : ∀ x : Int32, max0 x = if 0 ≤ x then x else 0 := fun x => by
        unfold max0
        by_cases h : x < 0
        · rw [if_pos h, if_neg (fun q => by rw [i32_z] at h; have := Int32.le_iff_toInt_le.mp q; have z : (0 : Int32).toInt = 0 := rfl; omega)]
        · rw [if_neg h, if_pos (Int32.le_iff_toInt_le.mpr (by rw [i32_z] at h; have z : (0 : Int32).toInt = 0 := rfl; omega))]
      have cont : ∀ (x y : Int32) (c2 c3 : Option Value), x = max0 (cE Q 3 c - fstL (T 0) Q 1 c 10 (T 0).2) → y = max0 (cE Q 4 c - dyQ (T 0)) → Ev none (e1 + 1) 208 2 [some (.ref 633), some (.int (c + 1)), c2, c3] [] (X_147 (X_147 M1 c 3 x) c 4 y) v M' 0 0 → ∃ M2 d2 d3, RST T (wkaP (T 0) (n + 1) c Q) M2 ∧ FZ rkF rkW noO M M2 ∧ (∀ j, zI M2 633 j = zI M 633 j) ∧ (∀ j, j < 522 → wkaP (T 0) (n + 1) c Q j = Q j) ∧ Ev none (e1 + 1) 208 76 [some (.ref 633), some (.int 0), d2, d3] [] M2 v M' 0 0 := fun x y c2 c3 hx hy H => by
        have g1 := hR1.up (cX_lt hwQ hcin (f := 3) (by decide)) (x := x)
        rw [x147_ok hR1 hwQ hcin (fn := 3) rfl (by decide), x147_ok g1 (hwQ.eq (l0 3 x) (l1 3 x)) ((inC.eq (l0 3 x) (l1 3 x)).mpr hcin) (fn := 4) rfl (by decide)] at H
        have g2 := g1.up (cX_lt hwQ hcin (f := 4) (by decide)) (x := y)
        have hwk : wk1P (T 0) Q c = uPk (uPk Q (cX 3 c) x) (cX 4 c) y := by rw [hx, hy]; rfl
        rw [← hwk] at g2
        obtain ⟨M2, d2, d3, r1, r2, r3, r4, r5⟩ := ih (c + 1) (wk1P (T 0) Q c) _ c2 c3 g2 ((wk1_lo (by decide)).trans h0) ((wk1_lo (by decide)).trans h1) (by rw [i32_p1 (by omega)]; omega) (by rw [i32_p1 (by omega)]; omega) H
        exact ⟨M2, d2, d3, r1, (((tu_rk q3).trans rk_wI).trans rk_wI).trans r2, fun j => (r3 j).trans (by rw [fI_wI, fI_wI]; exact q3.fi (fun q => q)), fun j hj => (r4 j hj).trans (wk1_lo hj), r5⟩
      have hy4 : G_146 M1 c 4 - zI M1 633 30 = cE Q 4 c - dyQ (T 0) := by rw [r_cell hR1 hwQ hcin (fn := 4) rfl (by decide), hR1.2.2.1.2.2]
      rcases rew_24 q2 H with ⟨a1, a2, H⟩ | ⟨a1, a2, H⟩ | ⟨a1, a2, H⟩ | ⟨a1, a2, H⟩
      · rw [hy4] at a2 H
        exact cont _ _ _ _ (by rw [hm0, if_pos a1]) (by rw [hm0, if_pos a2]) H
      · rw [hy4] at a2 H
        exact cont _ _ _ _ (by rw [hm0, if_pos a1]) (by rw [hm0, if_neg a2]) H
      · rw [hy4] at a2 H
        exact cont _ _ _ _ (by rw [hm0, if_neg a1]) (by rw [hm0, if_pos a2]) H
      · rw [hy4] at a2 H
        exact cont _ _ _ _ (by rw [hm0, if_neg a1]) (by rw [hm0, if_neg a2]) H
theorem rzer_l (hw : wh4 P) : ∀ (n : Nat) (c : Int32) (Q : PK) (M : Mem) (c2 c3 : Option Value), RST T Q M → Q 0 = P 0 → Q 1 = P 1 → 0 ≤ c.toInt → c.toInt + (n : Int) = (clsP P : Int) → Ev none e 208 76 [some (.ref 633), some (.int c), c2, c3] [] M v M' 0 0 → v = none ∧ RST T (zerP 5 n c Q) M' ∧ FZ rkF rkW noO M M' ∧ (∀ j, zI M' 633 j = zI M 633 j) := by
  obtain ⟨_, c256, _⟩ := cls_int hw
  intro n
  induction n with
  | zero =>
    intro c Q M c2 c3 hR h0 h1 hc hn H
    have hg := g144_ok hR (hw.eq h0 h1)
    rw [cls_eq h0 h1] at hg
    rcases rew_76 hR.1 H with ⟨_, r1, r2⟩ | ⟨a1, _⟩
    · subst r2
      exact ⟨r1, hR, FZ.refl _, fun _ => rfl⟩
    · exact absurd (Int32.le_iff_toInt_le.mpr (by omega)) a1
  | succ n ih =>
    intro c Q M c2 c3 hR h0 h1 hc hn H
    have hwQ := hw.eq h0 h1
    have hg := g144_ok hR hwQ
    rw [cls_eq h0 h1] at hg
    have hcin : inC Q c := (inC.eq h0 h1).mpr ⟨hc, by omega⟩
    rcases rew_76 hR.1 H with ⟨a1, _⟩ | ⟨_, H⟩
    · have := Int32.le_iff_toInt_le.mp a1
      omega
    · rw [x147_ok hR hwQ hcin (fn := 5) rfl (by decide)] at H
      have g1 := hR.up (cX_lt hwQ hcin (f := 5) (by decide)) (x := 0)
      have l0 : uPk Q (cX 5 c) 0 0 = Q 0 := up_ne (by have := cX_ge (f := 5) (c := c); omega)
      have l1 : uPk Q (cX 5 c) 0 1 = Q 1 := up_ne (by have := cX_ge (f := 5) (c := c); omega)
      obtain ⟨r1, r2, r3, r4⟩ := ih (c + 1) _ _ c2 c3 g1 (l0.trans h0) (l1.trans h1) (by rw [i32_p1 (by omega)]; omega) (by rw [i32_p1 (by omega)]; omega) H
      exact ⟨r1, r2, rk_wI.trans r3, fun j => (r4 j).trans fI_wI⟩
theorem rwek_ok (hR : RST T P M) (hw : wh4 P) (H : Ev none e 208 0 [some (.ref 633), none, none, none] [] M v M' 0 0) : v = none ∧ RST T (wekP (T 0) P) M' ∧ FZ rkF rkW noO M M' ∧ (∀ j, zI M' 633 j = zI M 633 j) := by
  have z0 : (0 : Int32).toInt = 0 := rfl
  obtain ⟨M1, d2, d3, r1, r2, r3, r4, H⟩ := rwka_l hw (clsP P) 0 P M none none hR rfl rfl (by decide) (by omega) (rew_0 hR.1 H)
  obtain ⟨q1, q2, q3, q4⟩ := rzer_l hw (clsP P) 0 _ M1 d2 d3 r1 (r4 0 (by decide)) (r4 1 (by decide)) (by decide) (by omega) H
  exact ⟨q1, q2, r2.trans q3, fun j => (q4 j).trans (r3 j)⟩
theorem rwmn_l (hR : RST T P M) (hw : wh4 P) : ∀ (n : Nat) (c m : Int32), 0 ≤ c.toInt → c.toInt + (n : Int) = (clsP P : Int) → Ev none e 216 4 [some (.ref 633), some (.int m), some (.int c)] [] M v M' 0 0 → M' = M ∧ v = some (.int (netP (T 0) P n c m)) := by
  have hg := g144_ok hR hw
  obtain ⟨_, c256, _⟩ := cls_int hw
  intro n
  induction n with
  | zero =>
    intro c m hc hn H
    rcases rwm_4 hR.1 H with ⟨_, r1, r2⟩ | ⟨a1, _⟩ | ⟨a1, _⟩
    · exact ⟨r2, r1⟩
    all_goals exact absurd (Int32.le_iff_toInt_le.mpr (by omega)) a1
  | succ n ih =>
    intro c m hc hn H
    have hcin : inC P c := ⟨hc, by omega⟩
    have e1 : (c + 1).toInt = c.toInt + 1 := i32_p1 (by omega)
    unfold netP
    rcases rwm_4 hR.1 H with ⟨a1, _⟩ | ⟨_, a2, H⟩ | ⟨_, a2, H⟩
    · have := Int32.le_iff_toInt_le.mp a1
      omega
    · rw [g150_ok hR hw hcin, bI_0] at a2
      rw [a2, if_neg (by decide)]
      exact ih _ _ (by omega) (by omega) H
    · rw [g150_ok hR hw hcin, bI_0, Bool.not_eq_false] at a2
      rw [a2, if_pos rfl]
      exact ih _ _ (by omega) (by omega) H
theorem rwmn_ok (hR : RST T P M) (hw : wh4 P) (H : Ev none e 216 0 [some (.ref 633), none, none] [] M v M' 0 0) : M' = M ∧ v = some (.int (nwP (T 0) P)) := rwmn_l hR hw (clsP P) 0 0 (by decide) (by have : (0 : Int32).toInt = 0 := rfl; omega) (rwm_0 hR.1 H)
end RTC
/-! THE REFERENCE'S calls on its park: pieces (made by gref4.py) -/
noncomputable def G_142 (M : Mem) (at0 : Int32) : Int32 := (rI M 634 at0) &&& 255
theorem g_142 {e : Nat} {M M' : Mem} {v : Option Value} {at0 : Int32} (hS : SQ M) (H : Ev none e 142 0 [some (.ref 633), some (.int at0)] [] M v M' 0 0) : v = some (.int (G_142 M at0)) ∧ M' = M := by
  unfold G_142
  have H : Ev none e 142 1 [some (.ref 633), some (.int at0)] [.ref 633] M v M' 0 0 := Ev.back 1 (fun n => rfl) H
  have H : Ev none e 142 4 [some (.ref 633), some (.int at0)] [.ref 634] M v M' 0 0 := Ev.back 1 (gs_3 rfl rfl (gf_u hS.1 qa_633 qr_61_1 qu_62 rfl)) H
  have H : Ev none e 142 5 [some (.ref 633), some (.int at0)] [.int at0, .ref 634] M v M' 0 0 := Ev.back 1 (fun n => rfl) H
  obtain ⟨b1, H⟩ := Ev.bal rfl rfl hS.1 qa_634 qw_62 (Or.inl rfl) H
  have H : Ev none e 142 6 [some (.ref 633), some (.int at0)] [.int (rI M 634 at0)] M v M' 0 0 := H
  have H : Ev none e 142 10 [some (.ref 633), some (.int at0)] [.int ((rI M 634 at0) &&& 255)] M v M' 0 0 := Ev.back 2 (fun n => rfl) H
  obtain ⟨p1, p2⟩ := Ev.retz rfl rfl H
  exact ⟨p1, p2⟩
noncomputable def G_145 (M : Mem) (c : Int32) : Int32 := G_140 M c 0 ((G_144 M) - 1)
theorem g_145 {e : Nat} {M M' : Mem} {v : Option Value} {c : Int32} (hS : SQ M) (H : Ev none e 145 0 [some (.ref 633), some (.int c)] [] M v M' 0 0) : v = some (.int (G_145 M c)) ∧ M' = M := by
  unfold G_145
  have H : Ev none e 145 3 [some (.ref 633), some (.int c)] [.ref 633, .int 0, .int c] M v M' 0 0 := Ev.back 3 (fun n => rfl) H
  obtain ⟨e1, rfl⟩ := Ev.dpos rfl rfl H
  obtain ⟨vK1, MK1, K1, H⟩ := Ev.callb (fun n_ => gs_7 rfl rfl (show gCal (.invokevirtual 128) 11 (.ref 633 :: [.int 0, .int c]) M = some (.inr (144, [some (.ref 633)], [.int 0, .int c])) from by show @cond (Option ((List Value × Mem) ⊕ (Nat × Lo × List Value))) (true && gRecv M (.ref 633) 11 && gRoom [.int 0, .int c] && true) (some (.inr (144, [some (.ref 633)], [.int 0, .int c]))) none = _; rw [recv_s hS.1 qa_633 qo_61]; rfl)) H
  obtain ⟨pK1, qK1⟩ := g_144 hS K1
  rw [pK1, qK1] at H
  have H : Ev none (e1 + 1) 145 6 [some (.ref 633), some (.int c)] [.int (G_144 M), .int 0, .int c] M v M' 0 0 := H
  have H : Ev none (e1 + 1) 145 8 [some (.ref 633), some (.int c)] [.int ((G_144 M) - 1), .int 0, .int c] M v M' 0 0 := Ev.back 2 (fun n => rfl) H
  obtain ⟨vK2, MK2, K2, H⟩ := Ev.callb (fun n => rfl) H
  obtain ⟨pK2, qK2⟩ := g_140 hS K2
  rw [pK2, qK2] at H
  have H : Ev none (e1 + 1) 145 11 [some (.ref 633), some (.int c)] [.int (G_140 M c 0 ((G_144 M) - 1))] M v M' 0 0 := H
  obtain ⟨p1, p2⟩ := Ev.retz rfl rfl H
  exact ⟨p1, p2⟩
noncomputable def G_152 (M : Mem) (d : Int32) : Int32 := G_140 M d 0 ((rI M 635 2) - 1)
theorem g_152 {e : Nat} {M M' : Mem} {v : Option Value} {d : Int32} (hS : SQ M) (H : Ev none e 152 0 [some (.ref 633), some (.int d)] [] M v M' 0 0) : v = some (.int (G_152 M d)) ∧ M' = M := by
  unfold G_152
  have H : Ev none e 152 3 [some (.ref 633), some (.int d)] [.ref 633, .int 0, .int d] M v M' 0 0 := Ev.back 3 (fun n => rfl) H
  have H : Ev none e 152 6 [some (.ref 633), some (.int d)] [.ref 635, .int 0, .int d] M v M' 0 0 := Ev.back 1 (gs_3 rfl rfl (gf_u hS.1 qa_633 qr_61_5 qu_63 rfl)) H
  have H : Ev none e 152 7 [some (.ref 633), some (.int d)] [.int 2, .ref 635, .int 0, .int d] M v M' 0 0 := Ev.back 1 (fun n => rfl) H
  obtain ⟨b1, H⟩ := Ev.ial rfl rfl hS.1 qa_635 qw_63 H
  have H : Ev none e 152 8 [some (.ref 633), some (.int d)] [.int (rI M 635 2), .int 0, .int d] M v M' 0 0 := H
  have H : Ev none e 152 10 [some (.ref 633), some (.int d)] [.int ((rI M 635 2) - 1), .int 0, .int d] M v M' 0 0 := Ev.back 2 (fun n => rfl) H
  obtain ⟨e1, rfl⟩ := Ev.dpos rfl rfl H
  obtain ⟨vK2, MK2, K2, H⟩ := Ev.callb (fun n => rfl) H
  obtain ⟨pK2, qK2⟩ := g_140 hS K2
  rw [pK2, qK2] at H
  have H : Ev none (e1 + 1) 152 13 [some (.ref 633), some (.int d)] [.int (G_140 M d 0 ((rI M 635 2) - 1))] M v M' 0 0 := H
  obtain ⟨p1, p2⟩ := Ev.retz rfl rfl H
  exact ⟨p1, p2⟩
theorem rda_0 {e : Nat} {M M' : Mem} {v : Option Value} {c : Int32} (hS : SQ M) (H : Ev none e 157 0 [some (.ref 633), some (.int c), none] [] M v M' 0 0) : Ev none e 157 2 [some (.ref 633), some (.int c), some (.int 0)] [] M v M' 0 0 := by
  have H : Ev none e 157 2 [some (.ref 633), some (.int c), some (.int 0)] [] M v M' 0 0 := Ev.back 2 (fun n => rfl) H
  have HF := H
  exact HF
theorem rda_2 {e : Nat} {M M' : Mem} {v : Option Value} {c k : Int32} (hS : SQ M) (H : Ev none e 157 2 [some (.ref 633), some (.int c), some (.int k)] [] M v M' 0 0) : ((rI M 635 2) ≤ k ∧ (0 ≤ (2 : Int32).toInt ∧ (2 : Int32).toInt < 2314) ∧ v = some (.int 0) ∧ M' = M) ∨ (¬ ((rI M 635 2) ≤ k) ∧ (rI M 635 (3 + k)) = c ∧ (0 ≤ (2 : Int32).toInt ∧ (2 : Int32).toInt < 2314) ∧ (0 ≤ (3 + k).toInt ∧ (3 + k).toInt < 2314) ∧ v = some (.int 1) ∧ M' = M) ∨ (¬ ((rI M 635 2) ≤ k) ∧ ¬ ((rI M 635 (3 + k)) = c) ∧ (0 ≤ (2 : Int32).toInt ∧ (2 : Int32).toInt < 2314) ∧ (0 ≤ (3 + k).toInt ∧ (3 + k).toInt < 2314) ∧ Ev none e 157 2 [some (.ref 633), some (.int c), some (.int (k + 1))] [] M v M' 0 0) := by
  have H : Ev none e 157 4 [some (.ref 633), some (.int c), some (.int k)] [.ref 633, .int k] M v M' 0 0 := Ev.back 2 (fun n => rfl) H
  have H : Ev none e 157 7 [some (.ref 633), some (.int c), some (.int k)] [.ref 635, .int k] M v M' 0 0 := Ev.back 1 (gs_3 rfl rfl (gf_u hS.1 qa_633 qr_61_5 qu_63 rfl)) H
  have H : Ev none e 157 8 [some (.ref 633), some (.int c), some (.int k)] [.int 2, .ref 635, .int k] M v M' 0 0 := Ev.back 1 (fun n => rfl) H
  obtain ⟨b1, H⟩ := Ev.ial rfl rfl hS.1 qa_635 qw_63 H
  have H : Ev none e 157 9 [some (.ref 633), some (.int c), some (.int k)] [.int (rI M 635 2), .int k] M v M' 0 0 := H
  have H : Ev none e 157 (if (rI M 635 2) ≤ k then 32 else 12) [some (.ref 633), some (.int c), some (.int k)] [] M v M' 0 0 := Ev.back 1 (fun n => rfl) H
  by_cases h2 : (rI M 635 2) ≤ k
  · rw [if_pos h2] at H
    have H : Ev none e 157 33 [some (.ref 633), some (.int c), some (.int k)] [.int 0] M v M' 0 0 := Ev.back 1 (fun n => rfl) H
    obtain ⟨z1, z2⟩ := Ev.retz rfl rfl H
    exact Or.inl ⟨h2, b1, z1, z2⟩
  · rw [if_neg h2] at H
    have H : Ev none e 157 13 [some (.ref 633), some (.int c), some (.int k)] [.ref 633] M v M' 0 0 := Ev.back 1 (fun n => rfl) H
    have H : Ev none e 157 16 [some (.ref 633), some (.int c), some (.int k)] [.ref 635] M v M' 0 0 := Ev.back 1 (gs_3 rfl rfl (gf_u hS.1 qa_633 qr_61_5 qu_63 rfl)) H
    have H : Ev none e 157 19 [some (.ref 633), some (.int c), some (.int k)] [.int (3 + k), .ref 635] M v M' 0 0 := Ev.back 3 (fun n => rfl) H
    obtain ⟨b3, H⟩ := Ev.ial rfl rfl hS.1 qa_635 qw_63 H
    have H : Ev none e 157 20 [some (.ref 633), some (.int c), some (.int k)] [.int (rI M 635 (3 + k))] M v M' 0 0 := H
    have H : Ev none e 157 (if (rI M 635 (3 + k)) = c then 24 else 26) [some (.ref 633), some (.int c), some (.int k)] [] M v M' 0 0 := Ev.back 2 (fun n => rfl) H
    by_cases h4 : (rI M 635 (3 + k)) = c
    · rw [if_pos h4] at H
      have H : Ev none e 157 25 [some (.ref 633), some (.int c), some (.int k)] [.int 1] M v M' 0 0 := Ev.back 1 (fun n => rfl) H
      obtain ⟨z1, z2⟩ := Ev.retz rfl rfl H
      exact Or.inr (Or.inl ⟨h2, h4, b1, b3, z1, z2⟩)
    · rw [if_neg h4] at H
      have H : Ev none e 157 2 [some (.ref 633), some (.int c), some (.int (k + 1))] [] M v M' 0 0 := Ev.back 2 (fun n => rfl) H
      have HF := H
      exact Or.inr (Or.inr (⟨h2, h4, b1, b3, HF⟩))
theorem rwa_0 {e : Nat} {M M' : Mem} {v : Option Value} {c : Int32} (hS : SQ M) (H : Ev none e 158 0 [some (.ref 633), some (.int c), none] [] M v M' 0 0) : Ev none e 158 2 [some (.ref 633), some (.int c), some (.int 0)] [] M v M' 0 0 := by
  have H : Ev none e 158 2 [some (.ref 633), some (.int c), some (.int 0)] [] M v M' 0 0 := Ev.back 2 (fun n => rfl) H
  have HF := H
  exact HF
theorem rwa_2 {e : Nat} {M M' : Mem} {v : Option Value} {c k : Int32} (hS : SQ M) (H : Ev none e 158 2 [some (.ref 633), some (.int c), some (.int k)] [] M v M' 0 0) : ((rI M 635 157) ≤ k ∧ (0 ≤ (157 : Int32).toInt ∧ (157 : Int32).toInt < 2314) ∧ v = some (.int 0) ∧ M' = M) ∨ (¬ ((rI M 635 157) ≤ k) ∧ (rI M 635 (158 + (6 * k))) = c ∧ (0 ≤ (157 : Int32).toInt ∧ (157 : Int32).toInt < 2314) ∧ (0 ≤ (158 + (6 * k)).toInt ∧ (158 + (6 * k)).toInt < 2314) ∧ v = some (.int 1) ∧ M' = M) ∨ (¬ ((rI M 635 157) ≤ k) ∧ ¬ ((rI M 635 (158 + (6 * k))) = c) ∧ (0 ≤ (157 : Int32).toInt ∧ (157 : Int32).toInt < 2314) ∧ (0 ≤ (158 + (6 * k)).toInt ∧ (158 + (6 * k)).toInt < 2314) ∧ Ev none e 158 2 [some (.ref 633), some (.int c), some (.int (k + 1))] [] M v M' 0 0) := by
  have H : Ev none e 158 4 [some (.ref 633), some (.int c), some (.int k)] [.ref 633, .int k] M v M' 0 0 := Ev.back 2 (fun n => rfl) H
  have H : Ev none e 158 7 [some (.ref 633), some (.int c), some (.int k)] [.ref 635, .int k] M v M' 0 0 := Ev.back 1 (gs_3 rfl rfl (gf_u hS.1 qa_633 qr_61_5 qu_63 rfl)) H
  have H : Ev none e 158 10 [some (.ref 633), some (.int c), some (.int k)] [.int 157, .ref 635, .int k] M v M' 0 0 := Ev.back 1 (fun n => rfl) H
  obtain ⟨b1, H⟩ := Ev.ial rfl rfl hS.1 qa_635 qw_63 H
  have H : Ev none e 158 11 [some (.ref 633), some (.int c), some (.int k)] [.int (rI M 635 157), .int k] M v M' 0 0 := H
  have H : Ev none e 158 (if (rI M 635 157) ≤ k then 39 else 14) [some (.ref 633), some (.int c), some (.int k)] [] M v M' 0 0 := Ev.back 1 (fun n => rfl) H
  by_cases h2 : (rI M 635 157) ≤ k
  · rw [if_pos h2] at H
    have H : Ev none e 158 40 [some (.ref 633), some (.int c), some (.int k)] [.int 0] M v M' 0 0 := Ev.back 1 (fun n => rfl) H
    obtain ⟨z1, z2⟩ := Ev.retz rfl rfl H
    exact Or.inl ⟨h2, b1, z1, z2⟩
  · rw [if_neg h2] at H
    have H : Ev none e 158 15 [some (.ref 633), some (.int c), some (.int k)] [.ref 633] M v M' 0 0 := Ev.back 1 (fun n => rfl) H
    have H : Ev none e 158 18 [some (.ref 633), some (.int c), some (.int k)] [.ref 635] M v M' 0 0 := Ev.back 1 (gs_3 rfl rfl (gf_u hS.1 qa_633 qr_61_5 qu_63 rfl)) H
    have H : Ev none e 158 26 [some (.ref 633), some (.int c), some (.int k)] [.int (158 + (6 * k)), .ref 635] M v M' 0 0 := Ev.back 5 (fun n => rfl) H
    obtain ⟨b3, H⟩ := Ev.ial rfl rfl hS.1 qa_635 qw_63 H
    have H : Ev none e 158 27 [some (.ref 633), some (.int c), some (.int k)] [.int (rI M 635 (158 + (6 * k)))] M v M' 0 0 := H
    have H : Ev none e 158 (if (rI M 635 (158 + (6 * k))) = c then 31 else 33) [some (.ref 633), some (.int c), some (.int k)] [] M v M' 0 0 := Ev.back 2 (fun n => rfl) H
    by_cases h4 : (rI M 635 (158 + (6 * k))) = c
    · rw [if_pos h4] at H
      have H : Ev none e 158 32 [some (.ref 633), some (.int c), some (.int k)] [.int 1] M v M' 0 0 := Ev.back 1 (fun n => rfl) H
      obtain ⟨z1, z2⟩ := Ev.retz rfl rfl H
      exact Or.inr (Or.inl ⟨h2, h4, b1, b3, z1, z2⟩)
    · rw [if_neg h4] at H
      have H : Ev none e 158 2 [some (.ref 633), some (.int c), some (.int (k + 1))] [] M v M' 0 0 := Ev.back 2 (fun n => rfl) H
      have HF := H
      exact Or.inr (Or.inr (⟨h2, h4, b1, b3, HF⟩))
noncomputable def G_189 (M : Mem) (k : Int32) : Int32 := if (G_140 M k 0 ((rI M 635 12) - 1)) = 0 then 0 else (if (rI M 635 ((13 + (6 * k)) + 5)) = 1 then 1 else 0)
theorem g_189 {e : Nat} {M M' : Mem} {v : Option Value} {k : Int32} (hS : SQ M) (H : Ev none e 189 0 [some (.ref 633), some (.int k)] [] M v M' 0 0) : v = some (.int (G_189 M k)) ∧ M' = M := by
  unfold G_189
  have H : Ev none e 189 3 [some (.ref 633), some (.int k)] [.ref 633, .int 0, .int k] M v M' 0 0 := Ev.back 3 (fun n => rfl) H
  have H : Ev none e 189 6 [some (.ref 633), some (.int k)] [.ref 635, .int 0, .int k] M v M' 0 0 := Ev.back 1 (gs_3 rfl rfl (gf_u hS.1 qa_633 qr_61_5 qu_63 rfl)) H
  have H : Ev none e 189 8 [some (.ref 633), some (.int k)] [.int 12, .ref 635, .int 0, .int k] M v M' 0 0 := Ev.back 1 (fun n => rfl) H
  obtain ⟨b1, H⟩ := Ev.ial rfl rfl hS.1 qa_635 qw_63 H
  have H : Ev none e 189 9 [some (.ref 633), some (.int k)] [.int (rI M 635 12), .int 0, .int k] M v M' 0 0 := H
  have H : Ev none e 189 11 [some (.ref 633), some (.int k)] [.int ((rI M 635 12) - 1), .int 0, .int k] M v M' 0 0 := Ev.back 2 (fun n => rfl) H
  obtain ⟨e1, rfl⟩ := Ev.dpos rfl rfl H
  obtain ⟨vK2, MK2, K2, H⟩ := Ev.callb (fun n => rfl) H
  obtain ⟨pK2, qK2⟩ := g_140 hS K2
  rw [pK2, qK2] at H
  have H : Ev none (e1 + 1) 189 14 [some (.ref 633), some (.int k)] [.int (G_140 M k 0 ((rI M 635 12) - 1))] M v M' 0 0 := H
  have H : Ev none (e1 + 1) 189 (if (G_140 M k 0 ((rI M 635 12) - 1)) = 0 then 39 else 17) [some (.ref 633), some (.int k)] [] M v M' 0 0 := Ev.back 1 (fun n => rfl) H
  by_cases h3 : (G_140 M k 0 ((rI M 635 12) - 1)) = 0
  · rw [if_pos h3] at H
    have H : Ev none (e1 + 1) 189 40 [some (.ref 633), some (.int k)] [.int 0] M v M' 0 0 := Ev.back 1 (fun n => rfl) H
    obtain ⟨p1, p2⟩ := Ev.retz rfl rfl H
    exact ⟨by rw [if_pos h3]; exact p1, p2⟩
  · rw [if_neg h3] at H
    have H : Ev none (e1 + 1) 189 18 [some (.ref 633), some (.int k)] [.ref 633] M v M' 0 0 := Ev.back 1 (fun n => rfl) H
    have H : Ev none (e1 + 1) 189 21 [some (.ref 633), some (.int k)] [.ref 635] M v M' 0 0 := Ev.back 1 (gs_3 rfl rfl (gf_u hS.1 qa_633 qr_61_5 qu_63 rfl)) H
    have H : Ev none (e1 + 1) 189 30 [some (.ref 633), some (.int k)] [.int ((13 + (6 * k)) + 5), .ref 635] M v M' 0 0 := Ev.back 7 (fun n => rfl) H
    obtain ⟨b4, H⟩ := Ev.ial rfl rfl hS.1 qa_635 qw_63 H
    have H : Ev none (e1 + 1) 189 31 [some (.ref 633), some (.int k)] [.int (rI M 635 ((13 + (6 * k)) + 5))] M v M' 0 0 := H
    have H : Ev none (e1 + 1) 189 (if (rI M 635 ((13 + (6 * k)) + 5)) = 1 then 35 else 39) [some (.ref 633), some (.int k)] [] M v M' 0 0 := Ev.back 2 (fun n => rfl) H
    by_cases h5 : (rI M 635 ((13 + (6 * k)) + 5)) = 1
    · rw [if_pos h5] at H
      have H : Ev none (e1 + 1) 189 40 [some (.ref 633), some (.int k)] [.int 1] M v M' 0 0 := Ev.back 2 (fun n => rfl) H
      obtain ⟨p1, p2⟩ := Ev.retz rfl rfl H
      exact ⟨by rw [if_neg h3, if_pos h5]; exact p1, p2⟩
    · rw [if_neg h5] at H
      have H : Ev none (e1 + 1) 189 40 [some (.ref 633), some (.int k)] [.int 0] M v M' 0 0 := Ev.back 1 (fun n => rfl) H
      obtain ⟨p1, p2⟩ := Ev.retz rfl rfl H
      exact ⟨by rw [if_neg h3, if_neg h5]; exact p1, p2⟩
theorem rdo_0 {e : Nat} {M M' : Mem} {v : Option Value} {c : Int32} (hS : SQ M) (H : Ev none e 156 0 [some (.ref 633), some (.int c)] [] M v M' 0 0) : ((rI M 635 2) = 9 ∧ (0 ≤ (2 : Int32).toInt ∧ (2 : Int32).toInt < 2314) ∧ v = some (.int (-1)) ∧ M' = (wF M 633 0 0)) ∨ (¬ ((rI M 635 2) = 9) ∧ (G_145 (wF M 633 0 0) c) = 0 ∧ (0 ≤ (2 : Int32).toInt ∧ (2 : Int32).toInt < 2314) ∧ v = some (.int (-1)) ∧ M' = (wF M 633 0 0)) ∨ (¬ ((rI M 635 2) = 9) ∧ ¬ ((G_145 (wF M 633 0 0) c) = 0) ∧ (G_148 (wF M 633 0 0) c) = 0 ∧ (0 ≤ (2 : Int32).toInt ∧ (2 : Int32).toInt < 2314) ∧ v = some (.int (-1)) ∧ M' = (wF M 633 0 0)) ∨ (¬ ((rI M 635 2) = 9) ∧ ¬ ((G_145 (wF M 633 0 0) c) = 0) ∧ ¬ ((G_148 (wF M 633 0 0) c) = 0) ∧ (0 ≤ (2 : Int32).toInt ∧ (2 : Int32).toInt < 2314) ∧ (∃ e1 v1 M1, e = e1 + 1 ∧ Ev none e1 157 0 [some (.ref 633), some (.int c), none] [] (wF M 633 0 0) v1 M1 0 0 ∧ Ev none e 156 37 [some (.ref 633), some (.int c)] (v1.toList ++ []) M1 v M' 0 0)) := by
  have H : Ev none e 156 2 [some (.ref 633), some (.int c)] [.int 0, .ref 633] M v M' 0 0 := Ev.back 2 (fun n => rfl) H
  obtain ⟨N2, eN2⟩ : ∃ N, N = (wF M 633 0 0) := ⟨_, rfl⟩
  have hN2 : SQ N2 := by rw [eN2]; exact hS.kf
  have H : Ev none e 156 5 [some (.ref 633), some (.int c)] [] N2 v M' 0 0 := by rw [eN2]; exact Ev.pfi rfl rfl rfl hS.1 qa_633 qi_61_0 H
  have H : Ev none e 156 6 [some (.ref 633), some (.int c)] [.ref 633] N2 v M' 0 0 := Ev.back 1 (fun n => rfl) H
  have H : Ev none e 156 9 [some (.ref 633), some (.int c)] [.ref 635] N2 v M' 0 0 := Ev.back 1 (gs_3 rfl rfl (gf_u hN2.1 qa_633 qr_61_5 qu_63 rfl)) H
  have H : Ev none e 156 10 [some (.ref 633), some (.int c)] [.int 2, .ref 635] N2 v M' 0 0 := Ev.back 1 (fun n => rfl) H
  obtain ⟨b3, H⟩ := Ev.ial rfl rfl hN2.1 qa_635 qw_63 H
  have H : Ev none e 156 11 [some (.ref 633), some (.int c)] [.int (rI N2 635 2)] N2 v M' 0 0 := H
  rw [show rI N2 635 2 = rI M 635 2 from by rw [eN2]; exact rN_wF] at H
  have H : Ev none e 156 (if (rI M 635 2) = 9 then 40 else 16) [some (.ref 633), some (.int c)] [] N2 v M' 0 0 := Ev.back 2 (fun n => rfl) H
  by_cases h4 : (rI M 635 2) = 9
  · rw [if_pos h4] at H
    have H : Ev none e 156 41 [some (.ref 633), some (.int c)] [.int (-1)] N2 v M' 0 0 := Ev.back 1 (fun n => rfl) H
    obtain ⟨z1, z2⟩ := Ev.retz rfl rfl H
    subst eN2
    exact Or.inl ⟨h4, b3, z1, z2⟩
  · rw [if_neg h4] at H
    have H : Ev none e 156 18 [some (.ref 633), some (.int c)] [.int c, .ref 633] N2 v M' 0 0 := Ev.back 2 (fun n => rfl) H
    obtain ⟨e1, rfl⟩ := Ev.dpos rfl rfl H
    obtain ⟨vK5, MK5, K5, H⟩ := Ev.callb (fun n_ => gs_7 rfl rfl (show gCal (.invokevirtual 155) 11 (.int c :: .ref 633 :: []) N2 = some (.inr (145, [some (.ref 633), some (.int c)], [])) from by show @cond (Option ((List Value × Mem) ⊕ (Nat × Lo × List Value))) (true && gRecv N2 (.ref 633) 11 && gRoom [] && true) (some (.inr (145, [some (.ref 633), some (.int c)], []))) none = _; rw [recv_s hN2.1 qa_633 qo_61]; rfl)) H
    obtain ⟨pK5, qK5⟩ := g_145 hN2 K5
    rw [pK5, qK5] at H
    have H : Ev none (e1 + 1) 156 21 [some (.ref 633), some (.int c)] [.int (G_145 N2 c)] N2 v M' 0 0 := H
    have H : Ev none (e1 + 1) 156 (if (G_145 N2 c) = 0 then 40 else 24) [some (.ref 633), some (.int c)] [] N2 v M' 0 0 := Ev.back 1 (fun n => rfl) H
    by_cases h6 : (G_145 N2 c) = 0
    · rw [if_pos h6] at H
      have H : Ev none (e1 + 1) 156 41 [some (.ref 633), some (.int c)] [.int (-1)] N2 v M' 0 0 := Ev.back 1 (fun n => rfl) H
      obtain ⟨z1, z2⟩ := Ev.retz rfl rfl H
      subst eN2
      exact Or.inr (Or.inl ⟨h4, h6, b3, z1, z2⟩)
    · rw [if_neg h6] at H
      have H : Ev none (e1 + 1) 156 26 [some (.ref 633), some (.int c)] [.int c, .ref 633] N2 v M' 0 0 := Ev.back 2 (fun n => rfl) H
      obtain ⟨vK7, MK7, K7, H⟩ := Ev.callb (fun n_ => gs_7 rfl rfl (show gCal (.invokevirtual 158) 11 (.int c :: .ref 633 :: []) N2 = some (.inr (148, [some (.ref 633), some (.int c)], [])) from by show @cond (Option ((List Value × Mem) ⊕ (Nat × Lo × List Value))) (true && gRecv N2 (.ref 633) 11 && gRoom [] && true) (some (.inr (148, [some (.ref 633), some (.int c)], []))) none = _; rw [recv_s hN2.1 qa_633 qo_61]; rfl)) H
      obtain ⟨pK7, qK7⟩ := g_148 hN2 K7
      rw [pK7, qK7] at H
      have H : Ev none (e1 + 1) 156 29 [some (.ref 633), some (.int c)] [.int (G_148 N2 c)] N2 v M' 0 0 := H
      have H : Ev none (e1 + 1) 156 (if (G_148 N2 c) = 0 then 40 else 32) [some (.ref 633), some (.int c)] [] N2 v M' 0 0 := Ev.back 1 (fun n => rfl) H
      by_cases h8 : (G_148 N2 c) = 0
      · rw [if_pos h8] at H
        have H : Ev none (e1 + 1) 156 41 [some (.ref 633), some (.int c)] [.int (-1)] N2 v M' 0 0 := Ev.back 1 (fun n => rfl) H
        obtain ⟨z1, z2⟩ := Ev.retz rfl rfl H
        subst eN2
        exact Or.inr (Or.inr (Or.inl ⟨h4, h6, h8, b3, z1, z2⟩))
      · rw [if_neg h8] at H
        have H : Ev none (e1 + 1) 156 34 [some (.ref 633), some (.int c)] [.int c, .ref 633] N2 v M' 0 0 := Ev.back 2 (fun n => rfl) H
        obtain ⟨vK9, MK9, K9, H⟩ := Ev.callb (fun n_ => gs_7 rfl rfl (show gCal (.invokevirtual 161) 11 (.int c :: .ref 633 :: []) N2 = some (.inr (157, [some (.ref 633), some (.int c), none], [])) from by show @cond (Option ((List Value × Mem) ⊕ (Nat × Lo × List Value))) (true && gRecv N2 (.ref 633) 11 && gRoom [] && true) (some (.inr (157, [some (.ref 633), some (.int c), none], []))) none = _; rw [recv_s hN2.1 qa_633 qo_61]; rfl)) H
        have K9 : Ev none e1 157 0 [some (.ref 633), some (.int c), none] [] N2 vK9 MK9 0 0 := K9
        have HF := H
        subst eN2
        exact Or.inr (Or.inr (Or.inr (⟨h4, h6, h8, b3, ⟨e1, vK9, MK9, rfl, K9, HF⟩⟩)))
theorem rdo_37 {e : Nat} {M M' : Mem} {v : Option Value} {c r : Int32} (hS : SQ M) (H : Ev none e 156 37 [some (.ref 633), some (.int c)] [.int r] M v M' 0 0) : (r = 0 ∧ (0 ≤ (2 : Int32).toInt ∧ (2 : Int32).toInt < 2314) ∧ (0 ≤ (3 + (rI M 635 2)).toInt ∧ (3 + (rI M 635 2)).toInt < 2314) ∧ (0 ≤ (2 : Int32).toInt ∧ (2 : Int32).toInt < 2314) ∧ (0 ≤ (2 : Int32).toInt ∧ (2 : Int32).toInt < 2314) ∧ (0 ≤ (2 : Int32).toInt ∧ (2 : Int32).toInt < 2314) ∧ v = some (.int ((rI (wI (wI M 635 ((3 + (rI M 635 2)).toNatClampNeg) c) 635 ((2 : Int32).toNatClampNeg) ((rI (wI M 635 ((3 + (rI M 635 2)).toNatClampNeg) c) 635 2) + 1)) 635 2) - 1)) ∧ M' = (wI (wI M 635 ((3 + (rI M 635 2)).toNatClampNeg) c) 635 ((2 : Int32).toNatClampNeg) ((rI (wI M 635 ((3 + (rI M 635 2)).toNatClampNeg) c) 635 2) + 1))) ∨ (¬ (r = 0) ∧ v = some (.int (-1)) ∧ M' = M) := by
  have H : Ev none e 156 (if r = 0 then 42 else 40) [some (.ref 633), some (.int c)] [] M v M' 0 0 := Ev.back 1 (fun n => rfl) H
  by_cases h1 : r = 0
  · rw [if_pos h1] at H
    have H : Ev none e 156 43 [some (.ref 633), some (.int c)] [.ref 633] M v M' 0 0 := Ev.back 1 (fun n => rfl) H
    have H : Ev none e 156 46 [some (.ref 633), some (.int c)] [.ref 635] M v M' 0 0 := Ev.back 1 (gs_3 rfl rfl (gf_u hS.1 qa_633 qr_61_5 qu_63 rfl)) H
    have H : Ev none e 156 48 [some (.ref 633), some (.int c)] [.ref 633, .int 3, .ref 635] M v M' 0 0 := Ev.back 2 (fun n => rfl) H
    have H : Ev none e 156 51 [some (.ref 633), some (.int c)] [.ref 635, .int 3, .ref 635] M v M' 0 0 := Ev.back 1 (gs_3 rfl rfl (gf_u hS.1 qa_633 qr_61_5 qu_63 rfl)) H
    have H : Ev none e 156 52 [some (.ref 633), some (.int c)] [.int 2, .ref 635, .int 3, .ref 635] M v M' 0 0 := Ev.back 1 (fun n => rfl) H
    obtain ⟨b2, H⟩ := Ev.ial rfl rfl hS.1 qa_635 qw_63 H
    have H : Ev none e 156 53 [some (.ref 633), some (.int c)] [.int (rI M 635 2), .int 3, .ref 635] M v M' 0 0 := H
    have H : Ev none e 156 55 [some (.ref 633), some (.int c)] [.int c, .int (3 + (rI M 635 2)), .ref 635] M v M' 0 0 := Ev.back 2 (fun n => rfl) H
    obtain ⟨b3, H⟩ := Ev.ias rfl rfl hS.1 qa_635 qw_63 H
    obtain ⟨N4, eN4⟩ : ∃ N, N = (wI M 635 ((3 + (rI M 635 2)).toNatClampNeg) c) := ⟨_, rfl⟩
    have hN4 : SQ N4 := by rw [eN4]; exact hS.ki
    have H : Ev none e 156 56 [some (.ref 633), some (.int c)] [] N4 v M' 0 0 := by rw [eN4]; exact H
    have H : Ev none e 156 57 [some (.ref 633), some (.int c)] [.ref 633] N4 v M' 0 0 := Ev.back 1 (fun n => rfl) H
    have H : Ev none e 156 60 [some (.ref 633), some (.int c)] [.ref 635] N4 v M' 0 0 := Ev.back 1 (gs_3 rfl rfl (gf_u hN4.1 qa_633 qr_61_5 qu_63 rfl)) H
    have H : Ev none e 156 62 [some (.ref 633), some (.int c)] [.int 2, .ref 635, .int 2, .ref 635] N4 v M' 0 0 := Ev.back 2 (fun n => rfl) H
    obtain ⟨b5, H⟩ := Ev.ial rfl rfl hN4.1 qa_635 qw_63 H
    have H : Ev none e 156 63 [some (.ref 633), some (.int c)] [.int (rI N4 635 2), .int 2, .ref 635] N4 v M' 0 0 := H
    have H : Ev none e 156 65 [some (.ref 633), some (.int c)] [.int ((rI N4 635 2) + 1), .int 2, .ref 635] N4 v M' 0 0 := Ev.back 2 (fun n => rfl) H
    obtain ⟨b6, H⟩ := Ev.ias rfl rfl hN4.1 qa_635 qw_63 H
    obtain ⟨N7, eN7⟩ : ∃ N, N = (wI N4 635 ((2 : Int32).toNatClampNeg) ((rI N4 635 2) + 1)) := ⟨_, rfl⟩
    have hN7 : SQ N7 := by rw [eN7]; exact hN4.ki
    have H : Ev none e 156 66 [some (.ref 633), some (.int c)] [] N7 v M' 0 0 := by rw [eN7]; exact H
    have H : Ev none e 156 67 [some (.ref 633), some (.int c)] [.ref 633] N7 v M' 0 0 := Ev.back 1 (fun n => rfl) H
    have H : Ev none e 156 70 [some (.ref 633), some (.int c)] [.ref 635] N7 v M' 0 0 := Ev.back 1 (gs_3 rfl rfl (gf_u hN7.1 qa_633 qr_61_5 qu_63 rfl)) H
    have H : Ev none e 156 71 [some (.ref 633), some (.int c)] [.int 2, .ref 635] N7 v M' 0 0 := Ev.back 1 (fun n => rfl) H
    obtain ⟨b8, H⟩ := Ev.ial rfl rfl hN7.1 qa_635 qw_63 H
    have H : Ev none e 156 72 [some (.ref 633), some (.int c)] [.int (rI N7 635 2)] N7 v M' 0 0 := H
    have H : Ev none e 156 74 [some (.ref 633), some (.int c)] [.int ((rI N7 635 2) - 1)] N7 v M' 0 0 := Ev.back 2 (fun n => rfl) H
    obtain ⟨z1, z2⟩ := Ev.retz rfl rfl H
    subst eN4 eN7
    exact Or.inl ⟨h1, b2, b3, b5, b6, b8, z1, z2⟩
  · rw [if_neg h1] at H
    have H : Ev none e 156 41 [some (.ref 633), some (.int c)] [.int (-1)] M v M' 0 0 := Ev.back 1 (fun n => rfl) H
    obtain ⟨z1, z2⟩ := Ev.retz rfl rfl H
    exact Or.inr (⟨h1, z1, z2⟩)
theorem rwi_0 {e : Nat} {M M' : Mem} {v : Option Value} {a b h ev fi : Int32} (hS : SQ M) (H : Ev none e 190 0 [some (.ref 633), some (.int a), some (.int b), some (.int h), some (.int ev), some (.int fi), none] [] M v M' 0 0) : ((rI M 635 12) = 24 ∧ (0 ≤ (12 : Int32).toInt ∧ (12 : Int32).toInt < 2314) ∧ v = some (.int (-1)) ∧ M' = (wF M 633 0 0)) ∨ (¬ ((rI M 635 12) = 24) ∧ (G_152 (wF M 633 0 0) a) = 0 ∧ (0 ≤ (12 : Int32).toInt ∧ (12 : Int32).toInt < 2314) ∧ v = some (.int (-1)) ∧ M' = (wF M 633 0 0)) ∨ (¬ ((rI M 635 12) = 24) ∧ ¬ ((G_152 (wF M 633 0 0) a) = 0) ∧ (G_152 (wF M 633 0 0) b) = 0 ∧ (0 ≤ (12 : Int32).toInt ∧ (12 : Int32).toInt < 2314) ∧ v = some (.int (-1)) ∧ M' = (wF M 633 0 0)) ∨ (¬ ((rI M 635 12) = 24) ∧ ¬ ((G_152 (wF M 633 0 0) a) = 0) ∧ ¬ ((G_152 (wF M 633 0 0) b) = 0) ∧ a = b ∧ (0 ≤ (12 : Int32).toInt ∧ (12 : Int32).toInt < 2314) ∧ v = some (.int (-1)) ∧ M' = (wF M 633 0 0)) ∨ (¬ ((rI M 635 12) = 24) ∧ ¬ ((G_152 (wF M 633 0 0) a) = 0) ∧ ¬ ((G_152 (wF M 633 0 0) b) = 0) ∧ ¬ (a = b) ∧ (G_140 (wF M 633 0 0) h 0 5) = 0 ∧ (0 ≤ (12 : Int32).toInt ∧ (12 : Int32).toInt < 2314) ∧ v = some (.int (-1)) ∧ M' = (wF M 633 0 0)) ∨ (¬ ((rI M 635 12) = 24) ∧ ¬ ((G_152 (wF M 633 0 0) a) = 0) ∧ ¬ ((G_152 (wF M 633 0 0) b) = 0) ∧ ¬ (a = b) ∧ ¬ ((G_140 (wF M 633 0 0) h 0 5) = 0) ∧ (G_140 (wF M 633 0 0) ev 1 200) = 0 ∧ (0 ≤ (12 : Int32).toInt ∧ (12 : Int32).toInt < 2314) ∧ v = some (.int (-1)) ∧ M' = (wF M 633 0 0)) ∨ (¬ ((rI M 635 12) = 24) ∧ ¬ ((G_152 (wF M 633 0 0) a) = 0) ∧ ¬ ((G_152 (wF M 633 0 0) b) = 0) ∧ ¬ (a = b) ∧ ¬ ((G_140 (wF M 633 0 0) h 0 5) = 0) ∧ ¬ ((G_140 (wF M 633 0 0) ev 1 200) = 0) ∧ (G_140 (wF M 633 0 0) fi 0 60000) = 0 ∧ (0 ≤ (12 : Int32).toInt ∧ (12 : Int32).toInt < 2314) ∧ v = some (.int (-1)) ∧ M' = (wF M 633 0 0)) ∨ (¬ ((rI M 635 12) = 24) ∧ ¬ ((G_152 (wF M 633 0 0) a) = 0) ∧ ¬ ((G_152 (wF M 633 0 0) b) = 0) ∧ ¬ (a = b) ∧ ¬ ((G_140 (wF M 633 0 0) h 0 5) = 0) ∧ ¬ ((G_140 (wF M 633 0 0) ev 1 200) = 0) ∧ ¬ ((G_140 (wF M 633 0 0) fi 0 60000) = 0) ∧ (0 ≤ (12 : Int32).toInt ∧ (12 : Int32).toInt < 2314) ∧ (0 ≤ (12 : Int32).toInt ∧ (12 : Int32).toInt < 2314) ∧ Ev none e 190 88 [some (.ref 633), some (.int a), some (.int b), some (.int h), some (.int ev), some (.int fi), some (.int (13 + (6 * (rI M 635 12))))] [] (wF M 633 0 0) v M' 0 0) := by
  have H : Ev none e 190 2 [some (.ref 633), some (.int a), some (.int b), some (.int h), some (.int ev), some (.int fi), none] [.int 0, .ref 633] M v M' 0 0 := Ev.back 2 (fun n => rfl) H
  obtain ⟨N2, eN2⟩ : ∃ N, N = (wF M 633 0 0) := ⟨_, rfl⟩
  have hN2 : SQ N2 := by rw [eN2]; exact hS.kf
  have H : Ev none e 190 5 [some (.ref 633), some (.int a), some (.int b), some (.int h), some (.int ev), some (.int fi), none] [] N2 v M' 0 0 := by rw [eN2]; exact Ev.pfi rfl rfl rfl hS.1 qa_633 qi_61_0 H
  have H : Ev none e 190 6 [some (.ref 633), some (.int a), some (.int b), some (.int h), some (.int ev), some (.int fi), none] [.ref 633] N2 v M' 0 0 := Ev.back 1 (fun n => rfl) H
  have H : Ev none e 190 9 [some (.ref 633), some (.int a), some (.int b), some (.int h), some (.int ev), some (.int fi), none] [.ref 635] N2 v M' 0 0 := Ev.back 1 (gs_3 rfl rfl (gf_u hN2.1 qa_633 qr_61_5 qu_63 rfl)) H
  have H : Ev none e 190 11 [some (.ref 633), some (.int a), some (.int b), some (.int h), some (.int ev), some (.int fi), none] [.int 12, .ref 635] N2 v M' 0 0 := Ev.back 1 (fun n => rfl) H
  obtain ⟨b3, H⟩ := Ev.ial rfl rfl hN2.1 qa_635 qw_63 H
  have H : Ev none e 190 12 [some (.ref 633), some (.int a), some (.int b), some (.int h), some (.int ev), some (.int fi), none] [.int (rI N2 635 12)] N2 v M' 0 0 := H
  rw [show rI N2 635 12 = rI M 635 12 from by rw [eN2]; exact rN_wF] at H
  have H : Ev none e 190 (if (rI M 635 12) = 24 then 71 else 17) [some (.ref 633), some (.int a), some (.int b), some (.int h), some (.int ev), some (.int fi), none] [] N2 v M' 0 0 := Ev.back 2 (fun n => rfl) H
  by_cases h4 : (rI M 635 12) = 24
  · rw [if_pos h4] at H
    have H : Ev none e 190 72 [some (.ref 633), some (.int a), some (.int b), some (.int h), some (.int ev), some (.int fi), none] [.int (-1)] N2 v M' 0 0 := Ev.back 1 (fun n => rfl) H
    obtain ⟨z1, z2⟩ := Ev.retz rfl rfl H
    subst eN2
    exact Or.inl ⟨h4, b3, z1, z2⟩
  · rw [if_neg h4] at H
    have H : Ev none e 190 19 [some (.ref 633), some (.int a), some (.int b), some (.int h), some (.int ev), some (.int fi), none] [.int a, .ref 633] N2 v M' 0 0 := Ev.back 2 (fun n => rfl) H
    obtain ⟨e1, rfl⟩ := Ev.dpos rfl rfl H
    obtain ⟨vK5, MK5, K5, H⟩ := Ev.callb (fun n_ => gs_7 rfl rfl (show gCal (.invokevirtual 340) 11 (.int a :: .ref 633 :: []) N2 = some (.inr (152, [some (.ref 633), some (.int a)], [])) from by show @cond (Option ((List Value × Mem) ⊕ (Nat × Lo × List Value))) (true && gRecv N2 (.ref 633) 11 && gRoom [] && true) (some (.inr (152, [some (.ref 633), some (.int a)], []))) none = _; rw [recv_s hN2.1 qa_633 qo_61]; rfl)) H
    obtain ⟨pK5, qK5⟩ := g_152 hN2 K5
    rw [pK5, qK5] at H
    have H : Ev none (e1 + 1) 190 22 [some (.ref 633), some (.int a), some (.int b), some (.int h), some (.int ev), some (.int fi), none] [.int (G_152 N2 a)] N2 v M' 0 0 := H
    have H : Ev none (e1 + 1) 190 (if (G_152 N2 a) = 0 then 71 else 25) [some (.ref 633), some (.int a), some (.int b), some (.int h), some (.int ev), some (.int fi), none] [] N2 v M' 0 0 := Ev.back 1 (fun n => rfl) H
    by_cases h6 : (G_152 N2 a) = 0
    · rw [if_pos h6] at H
      have H : Ev none (e1 + 1) 190 72 [some (.ref 633), some (.int a), some (.int b), some (.int h), some (.int ev), some (.int fi), none] [.int (-1)] N2 v M' 0 0 := Ev.back 1 (fun n => rfl) H
      obtain ⟨z1, z2⟩ := Ev.retz rfl rfl H
      subst eN2
      exact Or.inr (Or.inl ⟨h4, h6, b3, z1, z2⟩)
    · rw [if_neg h6] at H
      have H : Ev none (e1 + 1) 190 27 [some (.ref 633), some (.int a), some (.int b), some (.int h), some (.int ev), some (.int fi), none] [.int b, .ref 633] N2 v M' 0 0 := Ev.back 2 (fun n => rfl) H
      obtain ⟨vK7, MK7, K7, H⟩ := Ev.callb (fun n_ => gs_7 rfl rfl (show gCal (.invokevirtual 340) 11 (.int b :: .ref 633 :: []) N2 = some (.inr (152, [some (.ref 633), some (.int b)], [])) from by show @cond (Option ((List Value × Mem) ⊕ (Nat × Lo × List Value))) (true && gRecv N2 (.ref 633) 11 && gRoom [] && true) (some (.inr (152, [some (.ref 633), some (.int b)], []))) none = _; rw [recv_s hN2.1 qa_633 qo_61]; rfl)) H
      obtain ⟨pK7, qK7⟩ := g_152 hN2 K7
      rw [pK7, qK7] at H
      have H : Ev none (e1 + 1) 190 30 [some (.ref 633), some (.int a), some (.int b), some (.int h), some (.int ev), some (.int fi), none] [.int (G_152 N2 b)] N2 v M' 0 0 := H
      have H : Ev none (e1 + 1) 190 (if (G_152 N2 b) = 0 then 71 else 33) [some (.ref 633), some (.int a), some (.int b), some (.int h), some (.int ev), some (.int fi), none] [] N2 v M' 0 0 := Ev.back 1 (fun n => rfl) H
      by_cases h8 : (G_152 N2 b) = 0
      · rw [if_pos h8] at H
        have H : Ev none (e1 + 1) 190 72 [some (.ref 633), some (.int a), some (.int b), some (.int h), some (.int ev), some (.int fi), none] [.int (-1)] N2 v M' 0 0 := Ev.back 1 (fun n => rfl) H
        obtain ⟨z1, z2⟩ := Ev.retz rfl rfl H
        subst eN2
        exact Or.inr (Or.inr (Or.inl ⟨h4, h6, h8, b3, z1, z2⟩))
      · rw [if_neg h8] at H
        have H : Ev none (e1 + 1) 190 (if a = b then 71 else 38) [some (.ref 633), some (.int a), some (.int b), some (.int h), some (.int ev), some (.int fi), none] [] N2 v M' 0 0 := Ev.back 3 (fun n => rfl) H
        by_cases h9 : a = b
        · rw [if_pos h9] at H
          have H : Ev none (e1 + 1) 190 72 [some (.ref 633), some (.int a), some (.int b), some (.int h), some (.int ev), some (.int fi), none] [.int (-1)] N2 v M' 0 0 := Ev.back 1 (fun n => rfl) H
          obtain ⟨z1, z2⟩ := Ev.retz rfl rfl H
          subst eN2
          exact Or.inr (Or.inr (Or.inr (Or.inl ⟨h4, h6, h8, h9, b3, z1, z2⟩)))
        · rw [if_neg h9] at H
          have H : Ev none (e1 + 1) 190 41 [some (.ref 633), some (.int a), some (.int b), some (.int h), some (.int ev), some (.int fi), none] [.int 5, .int 0, .int h] N2 v M' 0 0 := Ev.back 3 (fun n => rfl) H
          obtain ⟨vK10, MK10, K10, H⟩ := Ev.callb (fun n => rfl) H
          obtain ⟨pK10, qK10⟩ := g_140 hN2 K10
          rw [pK10, qK10] at H
          have H : Ev none (e1 + 1) 190 44 [some (.ref 633), some (.int a), some (.int b), some (.int h), some (.int ev), some (.int fi), none] [.int (G_140 N2 h 0 5)] N2 v M' 0 0 := H
          have H : Ev none (e1 + 1) 190 (if (G_140 N2 h 0 5) = 0 then 71 else 47) [some (.ref 633), some (.int a), some (.int b), some (.int h), some (.int ev), some (.int fi), none] [] N2 v M' 0 0 := Ev.back 1 (fun n => rfl) H
          by_cases h11 : (G_140 N2 h 0 5) = 0
          · rw [if_pos h11] at H
            have H : Ev none (e1 + 1) 190 72 [some (.ref 633), some (.int a), some (.int b), some (.int h), some (.int ev), some (.int fi), none] [.int (-1)] N2 v M' 0 0 := Ev.back 1 (fun n => rfl) H
            obtain ⟨z1, z2⟩ := Ev.retz rfl rfl H
            subst eN2
            exact Or.inr (Or.inr (Or.inr (Or.inr (Or.inl ⟨h4, h6, h8, h9, h11, b3, z1, z2⟩))))
          · rw [if_neg h11] at H
            have H : Ev none (e1 + 1) 190 53 [some (.ref 633), some (.int a), some (.int b), some (.int h), some (.int ev), some (.int fi), none] [.int 200, .int 1, .int ev] N2 v M' 0 0 := Ev.back 3 (fun n => rfl) H
            obtain ⟨vK12, MK12, K12, H⟩ := Ev.callb (fun n => rfl) H
            obtain ⟨pK12, qK12⟩ := g_140 hN2 K12
            rw [pK12, qK12] at H
            have H : Ev none (e1 + 1) 190 56 [some (.ref 633), some (.int a), some (.int b), some (.int h), some (.int ev), some (.int fi), none] [.int (G_140 N2 ev 1 200)] N2 v M' 0 0 := H
            have H : Ev none (e1 + 1) 190 (if (G_140 N2 ev 1 200) = 0 then 71 else 59) [some (.ref 633), some (.int a), some (.int b), some (.int h), some (.int ev), some (.int fi), none] [] N2 v M' 0 0 := Ev.back 1 (fun n => rfl) H
            by_cases h13 : (G_140 N2 ev 1 200) = 0
            · rw [if_pos h13] at H
              have H : Ev none (e1 + 1) 190 72 [some (.ref 633), some (.int a), some (.int b), some (.int h), some (.int ev), some (.int fi), none] [.int (-1)] N2 v M' 0 0 := Ev.back 1 (fun n => rfl) H
              obtain ⟨z1, z2⟩ := Ev.retz rfl rfl H
              subst eN2
              exact Or.inr (Or.inr (Or.inr (Or.inr (Or.inr (Or.inl ⟨h4, h6, h8, h9, h11, h13, b3, z1, z2⟩)))))
            · rw [if_neg h13] at H
              have H : Ev none (e1 + 1) 190 65 [some (.ref 633), some (.int a), some (.int b), some (.int h), some (.int ev), some (.int fi), none] [.int 60000, .int 0, .int fi] N2 v M' 0 0 := Ev.back 3 (fun n => rfl) H
              obtain ⟨vK14, MK14, K14, H⟩ := Ev.callb (fun n => rfl) H
              obtain ⟨pK14, qK14⟩ := g_140 hN2 K14
              rw [pK14, qK14] at H
              have H : Ev none (e1 + 1) 190 68 [some (.ref 633), some (.int a), some (.int b), some (.int h), some (.int ev), some (.int fi), none] [.int (G_140 N2 fi 0 60000)] N2 v M' 0 0 := H
              have H : Ev none (e1 + 1) 190 (if (G_140 N2 fi 0 60000) = 0 then 71 else 73) [some (.ref 633), some (.int a), some (.int b), some (.int h), some (.int ev), some (.int fi), none] [] N2 v M' 0 0 := Ev.back 1 (fun n => rfl) H
              by_cases h15 : (G_140 N2 fi 0 60000) = 0
              · rw [if_pos h15] at H
                have H : Ev none (e1 + 1) 190 72 [some (.ref 633), some (.int a), some (.int b), some (.int h), some (.int ev), some (.int fi), none] [.int (-1)] N2 v M' 0 0 := Ev.back 1 (fun n => rfl) H
                obtain ⟨z1, z2⟩ := Ev.retz rfl rfl H
                subst eN2
                exact Or.inr (Or.inr (Or.inr (Or.inr (Or.inr (Or.inr (Or.inl ⟨h4, h6, h8, h9, h11, h13, h15, b3, z1, z2⟩))))))
              · rw [if_neg h15] at H
                have H : Ev none (e1 + 1) 190 78 [some (.ref 633), some (.int a), some (.int b), some (.int h), some (.int ev), some (.int fi), none] [.ref 633, .int 6, .int 13] N2 v M' 0 0 := Ev.back 3 (fun n => rfl) H
                have H : Ev none (e1 + 1) 190 81 [some (.ref 633), some (.int a), some (.int b), some (.int h), some (.int ev), some (.int fi), none] [.ref 635, .int 6, .int 13] N2 v M' 0 0 := Ev.back 1 (gs_3 rfl rfl (gf_u hN2.1 qa_633 qr_61_5 qu_63 rfl)) H
                have H : Ev none (e1 + 1) 190 83 [some (.ref 633), some (.int a), some (.int b), some (.int h), some (.int ev), some (.int fi), none] [.int 12, .ref 635, .int 6, .int 13] N2 v M' 0 0 := Ev.back 1 (fun n => rfl) H
                obtain ⟨b16, H⟩ := Ev.ial rfl rfl hN2.1 qa_635 qw_63 H
                have H : Ev none (e1 + 1) 190 84 [some (.ref 633), some (.int a), some (.int b), some (.int h), some (.int ev), some (.int fi), none] [.int (rI N2 635 12), .int 6, .int 13] N2 v M' 0 0 := H
                rw [show rI N2 635 12 = rI M 635 12 from by rw [eN2]; exact rN_wF] at H
                have H : Ev none (e1 + 1) 190 88 [some (.ref 633), some (.int a), some (.int b), some (.int h), some (.int ev), some (.int fi), some (.int (13 + (6 * (rI M 635 12))))] [] N2 v M' 0 0 := Ev.back 3 (fun n => rfl) H
                have HF := H
                subst eN2
                exact Or.inr (Or.inr (Or.inr (Or.inr (Or.inr (Or.inr (Or.inr (⟨h4, h6, h8, h9, h11, h13, h15, b3, b16, HF⟩)))))))
theorem rwi_88 {e : Nat} {M M' : Mem} {v : Option Value} {a b h ev fi kx : Int32} (hS : SQ M) (H : Ev none e 190 88 [some (.ref 633), some (.int a), some (.int b), some (.int h), some (.int ev), some (.int fi), some (.int kx)] [] M v M' 0 0) : (0 ≤ kx.toInt ∧ kx.toInt < 2314) ∧ Ev none e 190 96 [some (.ref 633), some (.int a), some (.int b), some (.int h), some (.int ev), some (.int fi), some (.int kx)] [] (wI M 635 kx.toNatClampNeg a) v M' 0 0 := by
  have H : Ev none e 190 89 [some (.ref 633), some (.int a), some (.int b), some (.int h), some (.int ev), some (.int fi), some (.int kx)] [.ref 633] M v M' 0 0 := Ev.back 1 (fun n => rfl) H
  have H : Ev none e 190 92 [some (.ref 633), some (.int a), some (.int b), some (.int h), some (.int ev), some (.int fi), some (.int kx)] [.ref 635] M v M' 0 0 := Ev.back 1 (gs_3 rfl rfl (gf_u hS.1 qa_633 qr_61_5 qu_63 rfl)) H
  have H : Ev none e 190 95 [some (.ref 633), some (.int a), some (.int b), some (.int h), some (.int ev), some (.int fi), some (.int kx)] [.int a, .int kx, .ref 635] M v M' 0 0 := Ev.back 2 (fun n => rfl) H
  obtain ⟨b1, H⟩ := Ev.ias rfl rfl hS.1 qa_635 qw_63 H
  obtain ⟨N2, eN2⟩ : ∃ N, N = (wI M 635 kx.toNatClampNeg a) := ⟨_, rfl⟩
  have hN2 : SQ N2 := by rw [eN2]; exact hS.ki
  have H : Ev none e 190 96 [some (.ref 633), some (.int a), some (.int b), some (.int h), some (.int ev), some (.int fi), some (.int kx)] [] N2 v M' 0 0 := by rw [eN2]; exact H
  have HF := H
  subst eN2
  exact ⟨b1, HF⟩
theorem rwi_96 {e : Nat} {M M' : Mem} {v : Option Value} {a b h ev fi kx : Int32} (hS : SQ M) (H : Ev none e 190 96 [some (.ref 633), some (.int a), some (.int b), some (.int h), some (.int ev), some (.int fi), some (.int kx)] [] M v M' 0 0) : (0 ≤ (kx + 1).toInt ∧ (kx + 1).toInt < 2314) ∧ Ev none e 190 106 [some (.ref 633), some (.int a), some (.int b), some (.int h), some (.int ev), some (.int fi), some (.int kx)] [] (wI M 635 ((kx + 1).toNatClampNeg) b) v M' 0 0 := by
  have H : Ev none e 190 97 [some (.ref 633), some (.int a), some (.int b), some (.int h), some (.int ev), some (.int fi), some (.int kx)] [.ref 633] M v M' 0 0 := Ev.back 1 (fun n => rfl) H
  have H : Ev none e 190 100 [some (.ref 633), some (.int a), some (.int b), some (.int h), some (.int ev), some (.int fi), some (.int kx)] [.ref 635] M v M' 0 0 := Ev.back 1 (gs_3 rfl rfl (gf_u hS.1 qa_633 qr_61_5 qu_63 rfl)) H
  have H : Ev none e 190 105 [some (.ref 633), some (.int a), some (.int b), some (.int h), some (.int ev), some (.int fi), some (.int kx)] [.int b, .int (kx + 1), .ref 635] M v M' 0 0 := Ev.back 4 (fun n => rfl) H
  obtain ⟨b1, H⟩ := Ev.ias rfl rfl hS.1 qa_635 qw_63 H
  obtain ⟨N2, eN2⟩ : ∃ N, N = (wI M 635 ((kx + 1).toNatClampNeg) b) := ⟨_, rfl⟩
  have hN2 : SQ N2 := by rw [eN2]; exact hS.ki
  have H : Ev none e 190 106 [some (.ref 633), some (.int a), some (.int b), some (.int h), some (.int ev), some (.int fi), some (.int kx)] [] N2 v M' 0 0 := by rw [eN2]; exact H
  have HF := H
  subst eN2
  exact ⟨b1, HF⟩
theorem rwi_106 {e : Nat} {M M' : Mem} {v : Option Value} {a b h ev fi kx : Int32} (hS : SQ M) (H : Ev none e 190 106 [some (.ref 633), some (.int a), some (.int b), some (.int h), some (.int ev), some (.int fi), some (.int kx)] [] M v M' 0 0) : (0 ≤ (kx + 2).toInt ∧ (kx + 2).toInt < 2314) ∧ Ev none e 190 116 [some (.ref 633), some (.int a), some (.int b), some (.int h), some (.int ev), some (.int fi), some (.int kx)] [] (wI M 635 ((kx + 2).toNatClampNeg) h) v M' 0 0 := by
  have H : Ev none e 190 107 [some (.ref 633), some (.int a), some (.int b), some (.int h), some (.int ev), some (.int fi), some (.int kx)] [.ref 633] M v M' 0 0 := Ev.back 1 (fun n => rfl) H
  have H : Ev none e 190 110 [some (.ref 633), some (.int a), some (.int b), some (.int h), some (.int ev), some (.int fi), some (.int kx)] [.ref 635] M v M' 0 0 := Ev.back 1 (gs_3 rfl rfl (gf_u hS.1 qa_633 qr_61_5 qu_63 rfl)) H
  have H : Ev none e 190 115 [some (.ref 633), some (.int a), some (.int b), some (.int h), some (.int ev), some (.int fi), some (.int kx)] [.int h, .int (kx + 2), .ref 635] M v M' 0 0 := Ev.back 4 (fun n => rfl) H
  obtain ⟨b1, H⟩ := Ev.ias rfl rfl hS.1 qa_635 qw_63 H
  obtain ⟨N2, eN2⟩ : ∃ N, N = (wI M 635 ((kx + 2).toNatClampNeg) h) := ⟨_, rfl⟩
  have hN2 : SQ N2 := by rw [eN2]; exact hS.ki
  have H : Ev none e 190 116 [some (.ref 633), some (.int a), some (.int b), some (.int h), some (.int ev), some (.int fi), some (.int kx)] [] N2 v M' 0 0 := by rw [eN2]; exact H
  have HF := H
  subst eN2
  exact ⟨b1, HF⟩
theorem rwi_116 {e : Nat} {M M' : Mem} {v : Option Value} {a b h ev fi kx : Int32} (hS : SQ M) (H : Ev none e 190 116 [some (.ref 633), some (.int a), some (.int b), some (.int h), some (.int ev), some (.int fi), some (.int kx)] [] M v M' 0 0) : (0 ≤ (kx + 3).toInt ∧ (kx + 3).toInt < 2314) ∧ Ev none e 190 127 [some (.ref 633), some (.int a), some (.int b), some (.int h), some (.int ev), some (.int fi), some (.int kx)] [] (wI M 635 ((kx + 3).toNatClampNeg) ev) v M' 0 0 := by
  have H : Ev none e 190 117 [some (.ref 633), some (.int a), some (.int b), some (.int h), some (.int ev), some (.int fi), some (.int kx)] [.ref 633] M v M' 0 0 := Ev.back 1 (fun n => rfl) H
  have H : Ev none e 190 120 [some (.ref 633), some (.int a), some (.int b), some (.int h), some (.int ev), some (.int fi), some (.int kx)] [.ref 635] M v M' 0 0 := Ev.back 1 (gs_3 rfl rfl (gf_u hS.1 qa_633 qr_61_5 qu_63 rfl)) H
  have H : Ev none e 190 126 [some (.ref 633), some (.int a), some (.int b), some (.int h), some (.int ev), some (.int fi), some (.int kx)] [.int ev, .int (kx + 3), .ref 635] M v M' 0 0 := Ev.back 4 (fun n => rfl) H
  obtain ⟨b1, H⟩ := Ev.ias rfl rfl hS.1 qa_635 qw_63 H
  obtain ⟨N2, eN2⟩ : ∃ N, N = (wI M 635 ((kx + 3).toNatClampNeg) ev) := ⟨_, rfl⟩
  have hN2 : SQ N2 := by rw [eN2]; exact hS.ki
  have H : Ev none e 190 127 [some (.ref 633), some (.int a), some (.int b), some (.int h), some (.int ev), some (.int fi), some (.int kx)] [] N2 v M' 0 0 := by rw [eN2]; exact H
  have HF := H
  subst eN2
  exact ⟨b1, HF⟩
theorem rwi_127 {e : Nat} {M M' : Mem} {v : Option Value} {a b h ev fi kx : Int32} (hS : SQ M) (H : Ev none e 190 127 [some (.ref 633), some (.int a), some (.int b), some (.int h), some (.int ev), some (.int fi), some (.int kx)] [] M v M' 0 0) : (0 ≤ (kx + 4).toInt ∧ (kx + 4).toInt < 2314) ∧ Ev none e 190 138 [some (.ref 633), some (.int a), some (.int b), some (.int h), some (.int ev), some (.int fi), some (.int kx)] [] (wI M 635 ((kx + 4).toNatClampNeg) fi) v M' 0 0 := by
  have H : Ev none e 190 128 [some (.ref 633), some (.int a), some (.int b), some (.int h), some (.int ev), some (.int fi), some (.int kx)] [.ref 633] M v M' 0 0 := Ev.back 1 (fun n => rfl) H
  have H : Ev none e 190 131 [some (.ref 633), some (.int a), some (.int b), some (.int h), some (.int ev), some (.int fi), some (.int kx)] [.ref 635] M v M' 0 0 := Ev.back 1 (gs_3 rfl rfl (gf_u hS.1 qa_633 qr_61_5 qu_63 rfl)) H
  have H : Ev none e 190 137 [some (.ref 633), some (.int a), some (.int b), some (.int h), some (.int ev), some (.int fi), some (.int kx)] [.int fi, .int (kx + 4), .ref 635] M v M' 0 0 := Ev.back 4 (fun n => rfl) H
  obtain ⟨b1, H⟩ := Ev.ias rfl rfl hS.1 qa_635 qw_63 H
  obtain ⟨N2, eN2⟩ : ∃ N, N = (wI M 635 ((kx + 4).toNatClampNeg) fi) := ⟨_, rfl⟩
  have hN2 : SQ N2 := by rw [eN2]; exact hS.ki
  have H : Ev none e 190 138 [some (.ref 633), some (.int a), some (.int b), some (.int h), some (.int ev), some (.int fi), some (.int kx)] [] N2 v M' 0 0 := by rw [eN2]; exact H
  have HF := H
  subst eN2
  exact ⟨b1, HF⟩
theorem rwi_138 {e : Nat} {M M' : Mem} {v : Option Value} {a b h ev fi kx : Int32} (hS : SQ M) (H : Ev none e 190 138 [some (.ref 633), some (.int a), some (.int b), some (.int h), some (.int ev), some (.int fi), some (.int kx)] [] M v M' 0 0) : (0 ≤ (kx + 5).toInt ∧ (kx + 5).toInt < 2314) ∧ Ev none e 190 148 [some (.ref 633), some (.int a), some (.int b), some (.int h), some (.int ev), some (.int fi), some (.int kx)] [] (wI M 635 ((kx + 5).toNatClampNeg) 1) v M' 0 0 := by
  have H : Ev none e 190 139 [some (.ref 633), some (.int a), some (.int b), some (.int h), some (.int ev), some (.int fi), some (.int kx)] [.ref 633] M v M' 0 0 := Ev.back 1 (fun n => rfl) H
  have H : Ev none e 190 142 [some (.ref 633), some (.int a), some (.int b), some (.int h), some (.int ev), some (.int fi), some (.int kx)] [.ref 635] M v M' 0 0 := Ev.back 1 (gs_3 rfl rfl (gf_u hS.1 qa_633 qr_61_5 qu_63 rfl)) H
  have H : Ev none e 190 147 [some (.ref 633), some (.int a), some (.int b), some (.int h), some (.int ev), some (.int fi), some (.int kx)] [.int 1, .int (kx + 5), .ref 635] M v M' 0 0 := Ev.back 4 (fun n => rfl) H
  obtain ⟨b1, H⟩ := Ev.ias rfl rfl hS.1 qa_635 qw_63 H
  obtain ⟨N2, eN2⟩ : ∃ N, N = (wI M 635 ((kx + 5).toNatClampNeg) 1) := ⟨_, rfl⟩
  have hN2 : SQ N2 := by rw [eN2]; exact hS.ki
  have H : Ev none e 190 148 [some (.ref 633), some (.int a), some (.int b), some (.int h), some (.int ev), some (.int fi), some (.int kx)] [] N2 v M' 0 0 := by rw [eN2]; exact H
  have HF := H
  subst eN2
  exact ⟨b1, HF⟩
theorem rwi_148 {e : Nat} {M M' : Mem} {v : Option Value} {a b h ev fi kx : Int32} (hS : SQ M) (H : Ev none e 190 148 [some (.ref 633), some (.int a), some (.int b), some (.int h), some (.int ev), some (.int fi), some (.int kx)] [] M v M' 0 0) : (0 ≤ (12 : Int32).toInt ∧ (12 : Int32).toInt < 2314) ∧ (0 ≤ (12 : Int32).toInt ∧ (12 : Int32).toInt < 2314) ∧ Ev none e 190 159 [some (.ref 633), some (.int a), some (.int b), some (.int h), some (.int ev), some (.int fi), some (.int kx)] [] (wI M 635 ((12 : Int32).toNatClampNeg) ((rI M 635 12) + 1)) v M' 0 0 := by
  have H : Ev none e 190 149 [some (.ref 633), some (.int a), some (.int b), some (.int h), some (.int ev), some (.int fi), some (.int kx)] [.ref 633] M v M' 0 0 := Ev.back 1 (fun n => rfl) H
  have H : Ev none e 190 152 [some (.ref 633), some (.int a), some (.int b), some (.int h), some (.int ev), some (.int fi), some (.int kx)] [.ref 635] M v M' 0 0 := Ev.back 1 (gs_3 rfl rfl (gf_u hS.1 qa_633 qr_61_5 qu_63 rfl)) H
  have H : Ev none e 190 155 [some (.ref 633), some (.int a), some (.int b), some (.int h), some (.int ev), some (.int fi), some (.int kx)] [.int 12, .ref 635, .int 12, .ref 635] M v M' 0 0 := Ev.back 2 (fun n => rfl) H
  obtain ⟨b1, H⟩ := Ev.ial rfl rfl hS.1 qa_635 qw_63 H
  have H : Ev none e 190 156 [some (.ref 633), some (.int a), some (.int b), some (.int h), some (.int ev), some (.int fi), some (.int kx)] [.int (rI M 635 12), .int 12, .ref 635] M v M' 0 0 := H
  have H : Ev none e 190 158 [some (.ref 633), some (.int a), some (.int b), some (.int h), some (.int ev), some (.int fi), some (.int kx)] [.int ((rI M 635 12) + 1), .int 12, .ref 635] M v M' 0 0 := Ev.back 2 (fun n => rfl) H
  obtain ⟨b2, H⟩ := Ev.ias rfl rfl hS.1 qa_635 qw_63 H
  obtain ⟨N3, eN3⟩ : ∃ N, N = (wI M 635 ((12 : Int32).toNatClampNeg) ((rI M 635 12) + 1)) := ⟨_, rfl⟩
  have hN3 : SQ N3 := by rw [eN3]; exact hS.ki
  have H : Ev none e 190 159 [some (.ref 633), some (.int a), some (.int b), some (.int h), some (.int ev), some (.int fi), some (.int kx)] [] N3 v M' 0 0 := by rw [eN3]; exact H
  have HF := H
  subst eN3
  exact ⟨b1, b2, HF⟩
theorem rwi_159 {e : Nat} {M M' : Mem} {v : Option Value} {a b h ev fi kx : Int32} (hS : SQ M) (H : Ev none e 190 159 [some (.ref 633), some (.int a), some (.int b), some (.int h), some (.int ev), some (.int fi), some (.int kx)] [] M v M' 0 0) : (0 ≤ (12 : Int32).toInt ∧ (12 : Int32).toInt < 2314) ∧ v = some (.int ((rI M 635 12) - 1)) ∧ M' = M := by
  have H : Ev none e 190 160 [some (.ref 633), some (.int a), some (.int b), some (.int h), some (.int ev), some (.int fi), some (.int kx)] [.ref 633] M v M' 0 0 := Ev.back 1 (fun n => rfl) H
  have H : Ev none e 190 163 [some (.ref 633), some (.int a), some (.int b), some (.int h), some (.int ev), some (.int fi), some (.int kx)] [.ref 635] M v M' 0 0 := Ev.back 1 (gs_3 rfl rfl (gf_u hS.1 qa_633 qr_61_5 qu_63 rfl)) H
  have H : Ev none e 190 165 [some (.ref 633), some (.int a), some (.int b), some (.int h), some (.int ev), some (.int fi), some (.int kx)] [.int 12, .ref 635] M v M' 0 0 := Ev.back 1 (fun n => rfl) H
  obtain ⟨b1, H⟩ := Ev.ial rfl rfl hS.1 qa_635 qw_63 H
  have H : Ev none e 190 166 [some (.ref 633), some (.int a), some (.int b), some (.int h), some (.int ev), some (.int fi), some (.int kx)] [.int (rI M 635 12)] M v M' 0 0 := H
  have H : Ev none e 190 168 [some (.ref 633), some (.int a), some (.int b), some (.int h), some (.int ev), some (.int fi), some (.int kx)] [.int ((rI M 635 12) - 1)] M v M' 0 0 := Ev.back 2 (fun n => rfl) H
  obtain ⟨z1, z2⟩ := Ev.retz rfl rfl H
  exact ⟨b1, z1, z2⟩
theorem rdr_0 {e : Nat} {M M' : Mem} {v : Option Value} {k : Int32} (hS : SQ M) (H : Ev none e 191 0 [some (.ref 633), some (.int k)] [] M v M' 0 0) : ((G_189 (wF M 633 0 0) k) = 0 ∧ v = some (.int 0) ∧ M' = (wF M 633 0 0)) ∨ (¬ ((G_189 (wF M 633 0 0) k) = 0) ∧ (0 ≤ ((13 + (6 * k)) + 5).toInt ∧ ((13 + (6 * k)) + 5).toInt < 2314) ∧ v = some (.int 1) ∧ M' = (wI (wF M 633 0 0) 635 (((13 + (6 * k)) + 5).toNatClampNeg) 0)) := by
  have H : Ev none e 191 2 [some (.ref 633), some (.int k)] [.int 0, .ref 633] M v M' 0 0 := Ev.back 2 (fun n => rfl) H
  obtain ⟨N2, eN2⟩ : ∃ N, N = (wF M 633 0 0) := ⟨_, rfl⟩
  have hN2 : SQ N2 := by rw [eN2]; exact hS.kf
  have H : Ev none e 191 5 [some (.ref 633), some (.int k)] [] N2 v M' 0 0 := by rw [eN2]; exact Ev.pfi rfl rfl rfl hS.1 qa_633 qi_61_0 H
  have H : Ev none e 191 7 [some (.ref 633), some (.int k)] [.int k, .ref 633] N2 v M' 0 0 := Ev.back 2 (fun n => rfl) H
  obtain ⟨e1, rfl⟩ := Ev.dpos rfl rfl H
  obtain ⟨vK3, MK3, K3, H⟩ := Ev.callb (fun n_ => gs_7 rfl rfl (show gCal (.invokevirtual 344) 11 (.int k :: .ref 633 :: []) N2 = some (.inr (189, [some (.ref 633), some (.int k)], [])) from by show @cond (Option ((List Value × Mem) ⊕ (Nat × Lo × List Value))) (true && gRecv N2 (.ref 633) 11 && gRoom [] && true) (some (.inr (189, [some (.ref 633), some (.int k)], []))) none = _; rw [recv_s hN2.1 qa_633 qo_61]; rfl)) H
  obtain ⟨pK3, qK3⟩ := g_189 hN2 K3
  rw [pK3, qK3] at H
  have H : Ev none (e1 + 1) 191 10 [some (.ref 633), some (.int k)] [.int (G_189 N2 k)] N2 v M' 0 0 := H
  have H : Ev none (e1 + 1) 191 (if (G_189 N2 k) = 0 then 13 else 15) [some (.ref 633), some (.int k)] [] N2 v M' 0 0 := Ev.back 1 (fun n => rfl) H
  by_cases h4 : (G_189 N2 k) = 0
  · rw [if_pos h4] at H
    have H : Ev none (e1 + 1) 191 14 [some (.ref 633), some (.int k)] [.int 0] N2 v M' 0 0 := Ev.back 1 (fun n => rfl) H
    obtain ⟨z1, z2⟩ := Ev.retz rfl rfl H
    subst eN2
    exact Or.inl ⟨h4, z1, z2⟩
  · rw [if_neg h4] at H
    have H : Ev none (e1 + 1) 191 16 [some (.ref 633), some (.int k)] [.ref 633] N2 v M' 0 0 := Ev.back 1 (fun n => rfl) H
    have H : Ev none (e1 + 1) 191 19 [some (.ref 633), some (.int k)] [.ref 635] N2 v M' 0 0 := Ev.back 1 (gs_3 rfl rfl (gf_u hN2.1 qa_633 qr_61_5 qu_63 rfl)) H
    have H : Ev none (e1 + 1) 191 29 [some (.ref 633), some (.int k)] [.int 0, .int ((13 + (6 * k)) + 5), .ref 635] N2 v M' 0 0 := Ev.back 8 (fun n => rfl) H
    obtain ⟨b5, H⟩ := Ev.ias rfl rfl hN2.1 qa_635 qw_63 H
    obtain ⟨N6, eN6⟩ : ∃ N, N = (wI N2 635 (((13 + (6 * k)) + 5).toNatClampNeg) 0) := ⟨_, rfl⟩
    have hN6 : SQ N6 := by rw [eN6]; exact hN2.ki
    have H : Ev none (e1 + 1) 191 30 [some (.ref 633), some (.int k)] [] N6 v M' 0 0 := by rw [eN6]; exact H
    have H : Ev none (e1 + 1) 191 31 [some (.ref 633), some (.int k)] [.int 1] N6 v M' 0 0 := Ev.back 1 (fun n => rfl) H
    obtain ⟨z1, z2⟩ := Ev.retz rfl rfl H
    subst eN2 eN6
    exact Or.inr (⟨h4, b5, z1, z2⟩)
theorem rrn_0 {e : Nat} {M M' : Mem} {v : Option Value} {t : Int32} (hS : SQ M) (H : Ev none e 207 0 [some (.ref 633), some (.int t), none] [] M v M' 0 0) : ((G_140 (wF M 633 0 0) t 1 400) = 0 ∧ v = some (.int (-1)) ∧ M' = (wF M 633 0 0)) ∨ (¬ ((G_140 (wF M 633 0 0) t 1 400) = 0) ∧ ((rI M 635 518) + t) ≤ 60000 ∧ (0 ≤ (518 : Int32).toInt ∧ (518 : Int32).toInt < 2314) ∧ Ev none e 207 41 [some (.ref 633), some (.int t), some (.int 0)] [] (wF (wF M 633 0 0) 633 41 0) v M' 0 0) ∨ (¬ ((G_140 (wF M 633 0 0) t 1 400) = 0) ∧ ¬ (((rI M 635 518) + t) ≤ 60000) ∧ (0 ≤ (518 : Int32).toInt ∧ (518 : Int32).toInt < 2314) ∧ v = some (.int (-1)) ∧ M' = (wF M 633 0 0)) := by
  have H : Ev none e 207 2 [some (.ref 633), some (.int t), none] [.int 0, .ref 633] M v M' 0 0 := Ev.back 2 (fun n => rfl) H
  obtain ⟨N2, eN2⟩ : ∃ N, N = (wF M 633 0 0) := ⟨_, rfl⟩
  have hN2 : SQ N2 := by rw [eN2]; exact hS.kf
  have H : Ev none e 207 5 [some (.ref 633), some (.int t), none] [] N2 v M' 0 0 := by rw [eN2]; exact Ev.pfi rfl rfl rfl hS.1 qa_633 qi_61_0 H
  have H : Ev none e 207 10 [some (.ref 633), some (.int t), none] [.int 400, .int 1, .int t] N2 v M' 0 0 := Ev.back 3 (fun n => rfl) H
  obtain ⟨e1, rfl⟩ := Ev.dpos rfl rfl H
  obtain ⟨vK3, MK3, K3, H⟩ := Ev.callb (fun n => rfl) H
  obtain ⟨pK3, qK3⟩ := g_140 hN2 K3
  rw [pK3, qK3] at H
  have H : Ev none (e1 + 1) 207 13 [some (.ref 633), some (.int t), none] [.int (G_140 N2 t 1 400)] N2 v M' 0 0 := H
  have H : Ev none (e1 + 1) 207 (if (G_140 N2 t 1 400) = 0 then 32 else 16) [some (.ref 633), some (.int t), none] [] N2 v M' 0 0 := Ev.back 1 (fun n => rfl) H
  by_cases h4 : (G_140 N2 t 1 400) = 0
  · rw [if_pos h4] at H
    have H : Ev none (e1 + 1) 207 33 [some (.ref 633), some (.int t), none] [.int (-1)] N2 v M' 0 0 := Ev.back 1 (fun n => rfl) H
    obtain ⟨z1, z2⟩ := Ev.retz rfl rfl H
    subst eN2
    exact Or.inl ⟨h4, z1, z2⟩
  · rw [if_neg h4] at H
    have H : Ev none (e1 + 1) 207 17 [some (.ref 633), some (.int t), none] [.ref 633] N2 v M' 0 0 := Ev.back 1 (fun n => rfl) H
    have H : Ev none (e1 + 1) 207 20 [some (.ref 633), some (.int t), none] [.ref 635] N2 v M' 0 0 := Ev.back 1 (gs_3 rfl rfl (gf_u hN2.1 qa_633 qr_61_5 qu_63 rfl)) H
    have H : Ev none (e1 + 1) 207 23 [some (.ref 633), some (.int t), none] [.int 518, .ref 635] N2 v M' 0 0 := Ev.back 1 (fun n => rfl) H
    obtain ⟨b5, H⟩ := Ev.ial rfl rfl hN2.1 qa_635 qw_63 H
    have H : Ev none (e1 + 1) 207 24 [some (.ref 633), some (.int t), none] [.int (rI N2 635 518)] N2 v M' 0 0 := H
    rw [show rI N2 635 518 = rI M 635 518 from by rw [eN2]; exact rN_wF] at H
    have H : Ev none (e1 + 1) 207 (if ((rI M 635 518) + t) ≤ 60000 then 34 else 32) [some (.ref 633), some (.int t), none] [] N2 v M' 0 0 := Ev.back 4 (fun n => rfl) H
    by_cases h6 : ((rI M 635 518) + t) ≤ 60000
    · rw [if_pos h6] at H
      have H : Ev none (e1 + 1) 207 36 [some (.ref 633), some (.int t), none] [.int 0, .ref 633] N2 v M' 0 0 := Ev.back 2 (fun n => rfl) H
      obtain ⟨N8, eN8⟩ : ∃ N, N = (wF N2 633 41 0) := ⟨_, rfl⟩
      have hN8 : SQ N8 := by rw [eN8]; exact hN2.kf
      have H : Ev none (e1 + 1) 207 39 [some (.ref 633), some (.int t), none] [] N8 v M' 0 0 := by rw [eN8]; exact Ev.pfi rfl rfl rfl hN2.1 qa_633 qi_61_41 H
      have H : Ev none (e1 + 1) 207 41 [some (.ref 633), some (.int t), some (.int 0)] [] N8 v M' 0 0 := Ev.back 2 (fun n => rfl) H
      have HF := H
      subst eN2 eN8
      exact Or.inr (Or.inl ⟨h4, h6, b5, HF⟩)
    · rw [if_neg h6] at H
      have H : Ev none (e1 + 1) 207 33 [some (.ref 633), some (.int t), none] [.int (-1)] N2 v M' 0 0 := Ev.back 1 (fun n => rfl) H
      obtain ⟨z1, z2⟩ := Ev.retz rfl rfl H
      subst eN2
      exact Or.inr (Or.inr (⟨h4, h6, b5, z1, z2⟩))
theorem rrn_41 {e : Nat} {M M' : Mem} {v : Option Value} {t i : Int32} (hS : SQ M) (H : Ev none e 207 41 [some (.ref 633), some (.int t), some (.int i)] [] M v M' 0 0) : (t ≤ i ∧ v = some (.int (zI M 633 41)) ∧ M' = M) ∨ (¬ (t ≤ i) ∧ (∃ e1 v1 M1, e = e1 + 1 ∧ Ev none e1 204 0 [some (.ref 633), none, none, none] [] M v1 M1 0 0 ∧ Ev none e 207 50 [some (.ref 633), some (.int t), some (.int i)] (v1.toList ++ []) M1 v M' 0 0)) := by
  have H : Ev none e 207 (if t ≤ i then 56 else 46) [some (.ref 633), some (.int t), some (.int i)] [] M v M' 0 0 := Ev.back 3 (fun n => rfl) H
  by_cases h1 : t ≤ i
  · rw [if_pos h1] at H
    have H : Ev none e 207 57 [some (.ref 633), some (.int t), some (.int i)] [.ref 633] M v M' 0 0 := Ev.back 1 (fun n => rfl) H
    have H : Ev none e 207 60 [some (.ref 633), some (.int t), some (.int i)] [.int (zI M 633 41)] M v M' 0 0 := Ev.back 1 (gs_3 rfl rfl (gf_i hS.1 qa_633 qi_61_41 rfl)) H
    obtain ⟨z1, z2⟩ := Ev.retz rfl rfl H
    exact Or.inl ⟨h1, z1, z2⟩
  · rw [if_neg h1] at H
    have H : Ev none e 207 47 [some (.ref 633), some (.int t), some (.int i)] [.ref 633] M v M' 0 0 := Ev.back 1 (fun n => rfl) H
    obtain ⟨e1, rfl⟩ := Ev.dpos rfl rfl H
    obtain ⟨vK2, MK2, K2, H⟩ := Ev.callb (fun n_ => gs_7 rfl rfl (show gCal (.invokevirtual 423) 11 (.ref 633 :: []) M = some (.inr (204, [some (.ref 633), none, none, none], [])) from by show @cond (Option ((List Value × Mem) ⊕ (Nat × Lo × List Value))) (true && gRecv M (.ref 633) 11 && gRoom [] && true) (some (.inr (204, [some (.ref 633), none, none, none], []))) none = _; rw [recv_s hS.1 qa_633 qo_61]; rfl)) H
    have K2 : Ev none e1 204 0 [some (.ref 633), none, none, none] [] M vK2 MK2 0 0 := K2
    have HF := H
    exact Or.inr (⟨h1, ⟨e1, vK2, MK2, rfl, K2, HF⟩⟩)
theorem rrn_50 {e : Nat} {M M' : Mem} {v : Option Value} {t i : Int32} (hS : SQ M) (H : Ev none e 207 50 [some (.ref 633), some (.int t), some (.int i)] [] M v M' 0 0) : Ev none e 207 41 [some (.ref 633), some (.int t), some (.int (i + 1))] [] M v M' 0 0 := by
  have H : Ev none e 207 41 [some (.ref 633), some (.int t), some (.int (i + 1))] [] M v M' 0 0 := Ev.back 2 (fun n => rfl) H
  have HF := H
  exact HF
theorem rwq_0 {e : Nat} {M M' : Mem} {v : Option Value} (hS : SQ M) (H : Ev none e 209 0 [some (.ref 633)] [] M v M' 0 0) : (∃ e1 v1 M1, e = e1 + 1 ∧ Ev none e1 208 0 [some (.ref 633), none, none, none] [] (wF M 633 0 0) v1 M1 0 0 ∧ Ev none e 209 9 [some (.ref 633)] (v1.toList ++ []) M1 v M' 0 0) := by
  have H : Ev none e 209 2 [some (.ref 633)] [.int 0, .ref 633] M v M' 0 0 := Ev.back 2 (fun n => rfl) H
  obtain ⟨N2, eN2⟩ : ∃ N, N = (wF M 633 0 0) := ⟨_, rfl⟩
  have hN2 : SQ N2 := by rw [eN2]; exact hS.kf
  have H : Ev none e 209 5 [some (.ref 633)] [] N2 v M' 0 0 := by rw [eN2]; exact Ev.pfi rfl rfl rfl hS.1 qa_633 qi_61_0 H
  have H : Ev none e 209 6 [some (.ref 633)] [.ref 633] N2 v M' 0 0 := Ev.back 1 (fun n => rfl) H
  obtain ⟨e1, rfl⟩ := Ev.dpos rfl rfl H
  obtain ⟨vK3, MK3, K3, H⟩ := Ev.callb (fun n_ => gs_7 rfl rfl (show gCal (.invokevirtual 426) 11 (.ref 633 :: []) N2 = some (.inr (208, [some (.ref 633), none, none, none], [])) from by show @cond (Option ((List Value × Mem) ⊕ (Nat × Lo × List Value))) (true && gRecv N2 (.ref 633) 11 && gRoom [] && true) (some (.inr (208, [some (.ref 633), none, none, none], []))) none = _; rw [recv_s hN2.1 qa_633 qo_61]; rfl)) H
  have K3 : Ev none e1 208 0 [some (.ref 633), none, none, none] [] N2 vK3 MK3 0 0 := K3
  have HF := H
  subst eN2
  exact ⟨e1, vK3, MK3, rfl, K3, HF⟩
theorem rwq_9 {e : Nat} {M M' : Mem} {v : Option Value} (hS : SQ M) (H : Ev none e 209 9 [some (.ref 633)] [] M v M' 0 0) : (∃ e1 v1 M1, e = e1 + 1 ∧ Ev none e1 216 0 [some (.ref 633), none, none] [] M v1 M1 0 0 ∧ Ev none e 209 13 [some (.ref 633)] (v1.toList ++ []) M1 v M' 0 0) := by
  have H : Ev none e 209 10 [some (.ref 633)] [.ref 633] M v M' 0 0 := Ev.back 1 (fun n => rfl) H
  obtain ⟨e1, rfl⟩ := Ev.dpos rfl rfl H
  obtain ⟨vK1, MK1, K1, H⟩ := Ev.callb (fun n_ => gs_7 rfl rfl (show gCal (.invokevirtual 429) 11 (.ref 633 :: []) M = some (.inr (216, [some (.ref 633), none, none], [])) from by show @cond (Option ((List Value × Mem) ⊕ (Nat × Lo × List Value))) (true && gRecv M (.ref 633) 11 && gRoom [] && true) (some (.inr (216, [some (.ref 633), none, none], []))) none = _; rw [recv_s hS.1 qa_633 qo_61]; rfl)) H
  have K1 : Ev none e1 216 0 [some (.ref 633), none, none] [] M vK1 MK1 0 0 := K1
  have HF := H
  exact ⟨e1, vK1, MK1, rfl, K1, HF⟩
theorem rwq_13 {e : Nat} {M M' : Mem} {v : Option Value} {r : Int32} (hS : SQ M) (H : Ev none e 209 13 [some (.ref 633)] [.int r] M v M' 0 0) : v = some (.int r) ∧ M' = M := by
  obtain ⟨z1, z2⟩ := Ev.retz rfl rfl H
  exact ⟨z1, z2⟩
theorem rra_0 {e : Nat} {M M' : Mem} {v : Option Value} {n : Int32} (hS : SQ M) (H : Ev none e 210 0 [some (.ref 633), some (.int n), none] [] M v M' 0 0) : ((G_140 (wF M 633 0 0) n 1 200) = 0 ∧ v = some (.int 0) ∧ M' = (wF M 633 0 0)) ∨ (¬ ((G_140 (wF M 633 0 0) n 1 200) = 0) ∧ Ev none e 210 20 [some (.ref 633), some (.int n), some (.int 0)] [] (wF M 633 0 0) v M' 0 0) := by
  have H : Ev none e 210 2 [some (.ref 633), some (.int n), none] [.int 0, .ref 633] M v M' 0 0 := Ev.back 2 (fun n => rfl) H
  obtain ⟨N2, eN2⟩ : ∃ N, N = (wF M 633 0 0) := ⟨_, rfl⟩
  have hN2 : SQ N2 := by rw [eN2]; exact hS.kf
  have H : Ev none e 210 5 [some (.ref 633), some (.int n), none] [] N2 v M' 0 0 := by rw [eN2]; exact Ev.pfi rfl rfl rfl hS.1 qa_633 qi_61_0 H
  have H : Ev none e 210 10 [some (.ref 633), some (.int n), none] [.int 200, .int 1, .int n] N2 v M' 0 0 := Ev.back 3 (fun n => rfl) H
  obtain ⟨e1, rfl⟩ := Ev.dpos rfl rfl H
  obtain ⟨vK3, MK3, K3, H⟩ := Ev.callb (fun n => rfl) H
  obtain ⟨pK3, qK3⟩ := g_140 hN2 K3
  rw [pK3, qK3] at H
  have H : Ev none (e1 + 1) 210 13 [some (.ref 633), some (.int n), none] [.int (G_140 N2 n 1 200)] N2 v M' 0 0 := H
  have H : Ev none (e1 + 1) 210 (if (G_140 N2 n 1 200) = 0 then 16 else 18) [some (.ref 633), some (.int n), none] [] N2 v M' 0 0 := Ev.back 1 (fun n => rfl) H
  by_cases h4 : (G_140 N2 n 1 200) = 0
  · rw [if_pos h4] at H
    have H : Ev none (e1 + 1) 210 17 [some (.ref 633), some (.int n), none] [.int 0] N2 v M' 0 0 := Ev.back 1 (fun n => rfl) H
    obtain ⟨z1, z2⟩ := Ev.retz rfl rfl H
    subst eN2
    exact Or.inl ⟨h4, z1, z2⟩
  · rw [if_neg h4] at H
    have H : Ev none (e1 + 1) 210 20 [some (.ref 633), some (.int n), some (.int 0)] [] N2 v M' 0 0 := Ev.back 2 (fun n => rfl) H
    have HF := H
    subst eN2
    exact Or.inr (⟨h4, HF⟩)
theorem rra_20 {e : Nat} {M M' : Mem} {v : Option Value} {n c : Int32} (hS : SQ M) (H : Ev none e 210 20 [some (.ref 633), some (.int n), some (.int c)] [] M v M' 0 0) : ((G_144 M) ≤ c ∧ v = some (.int 1) ∧ M' = M) ∨ (¬ ((G_144 M) ≤ c) ∧ 3 ≤ (G_146 M c 0) ∧ Ev none e 210 20 [some (.ref 633), some (.int n), some (.int (c + 1))] [] M v M' 0 0) ∨ (¬ ((G_144 M) ≤ c) ∧ ¬ (3 ≤ (G_146 M c 0)) ∧ ((G_146 M c 4) + n) ≤ 200 ∧ Ev none e 210 20 [some (.ref 633), some (.int n), some (.int (c + 1))] [] (X_147 M c 4 ((G_146 M c 4) + n)) v M' 0 0) ∨ (¬ ((G_144 M) ≤ c) ∧ ¬ (3 ≤ (G_146 M c 0)) ∧ ¬ (((G_146 M c 4) + n) ≤ 200) ∧ Ev none e 210 20 [some (.ref 633), some (.int n), some (.int (c + 1))] [] (X_147 M c 4 200) v M' 0 0) := by
  have H : Ev none e 210 22 [some (.ref 633), some (.int n), some (.int c)] [.ref 633, .int c] M v M' 0 0 := Ev.back 2 (fun n => rfl) H
  obtain ⟨e1, rfl⟩ := Ev.dpos rfl rfl H
  obtain ⟨vK1, MK1, K1, H⟩ := Ev.callb (fun n_ => gs_7 rfl rfl (show gCal (.invokevirtual 128) 11 (.ref 633 :: [.int c]) M = some (.inr (144, [some (.ref 633)], [.int c])) from by show @cond (Option ((List Value × Mem) ⊕ (Nat × Lo × List Value))) (true && gRecv M (.ref 633) 11 && gRoom [.int c] && true) (some (.inr (144, [some (.ref 633)], [.int c]))) none = _; rw [recv_s hS.1 qa_633 qo_61]; rfl)) H
  obtain ⟨pK1, qK1⟩ := g_144 hS K1
  rw [pK1, qK1] at H
  have H : Ev none (e1 + 1) 210 25 [some (.ref 633), some (.int n), some (.int c)] [.int (G_144 M), .int c] M v M' 0 0 := H
  have H : Ev none (e1 + 1) 210 (if (G_144 M) ≤ c then 78 else 28) [some (.ref 633), some (.int n), some (.int c)] [] M v M' 0 0 := Ev.back 1 (fun n => rfl) H
  by_cases h2 : (G_144 M) ≤ c
  · rw [if_pos h2] at H
    have H : Ev none (e1 + 1) 210 79 [some (.ref 633), some (.int n), some (.int c)] [.int 1] M v M' 0 0 := Ev.back 1 (fun n => rfl) H
    obtain ⟨z1, z2⟩ := Ev.retz rfl rfl H
    exact Or.inl ⟨h2, z1, z2⟩
  · rw [if_neg h2] at H
    have H : Ev none (e1 + 1) 210 31 [some (.ref 633), some (.int n), some (.int c)] [.int 0, .int c, .ref 633] M v M' 0 0 := Ev.back 3 (fun n => rfl) H
    obtain ⟨vK3, MK3, K3, H⟩ := Ev.callb (fun n_ => gs_7 rfl rfl (show gCal (.invokevirtual 136) 11 (.int 0 :: .int c :: .ref 633 :: []) M = some (.inr (146, [some (.ref 633), some (.int c), some (.int 0)], [])) from by show @cond (Option ((List Value × Mem) ⊕ (Nat × Lo × List Value))) (true && gRecv M (.ref 633) 11 && gRoom [] && true) (some (.inr (146, [some (.ref 633), some (.int c), some (.int 0)], []))) none = _; rw [recv_s hS.1 qa_633 qo_61]; rfl)) H
    obtain ⟨pK3, qK3⟩ := g_146 hS K3
    rw [pK3, qK3] at H
    have H : Ev none (e1 + 1) 210 34 [some (.ref 633), some (.int n), some (.int c)] [.int (G_146 M c 0)] M v M' 0 0 := H
    have H : Ev none (e1 + 1) 210 (if 3 ≤ (G_146 M c 0) then 72 else 38) [some (.ref 633), some (.int n), some (.int c)] [] M v M' 0 0 := Ev.back 2 (fun n => rfl) H
    by_cases h4 : 3 ≤ (G_146 M c 0)
    · rw [if_pos h4] at H
      have H : Ev none (e1 + 1) 210 20 [some (.ref 633), some (.int n), some (.int (c + 1))] [] M v M' 0 0 := Ev.back 2 (fun n => rfl) H
      have HF := H
      exact Or.inr (Or.inl ⟨h2, h4, HF⟩)
    · rw [if_neg h4] at H
      have H : Ev none (e1 + 1) 210 44 [some (.ref 633), some (.int n), some (.int c)] [.int 4, .int c, .ref 633, .int 4, .int c, .ref 633] M v M' 0 0 := Ev.back 6 (fun n => rfl) H
      obtain ⟨vK5, MK5, K5, H⟩ := Ev.callb (fun n_ => gs_7 rfl rfl (show gCal (.invokevirtual 136) 11 (.int 4 :: .int c :: .ref 633 :: [.int 4, .int c, .ref 633]) M = some (.inr (146, [some (.ref 633), some (.int c), some (.int 4)], [.int 4, .int c, .ref 633])) from by show @cond (Option ((List Value × Mem) ⊕ (Nat × Lo × List Value))) (true && gRecv M (.ref 633) 11 && gRoom [.int 4, .int c, .ref 633] && true) (some (.inr (146, [some (.ref 633), some (.int c), some (.int 4)], [.int 4, .int c, .ref 633]))) none = _; rw [recv_s hS.1 qa_633 qo_61]; rfl)) H
      obtain ⟨pK5, qK5⟩ := g_146 hS K5
      rw [pK5, qK5] at H
      have H : Ev none (e1 + 1) 210 47 [some (.ref 633), some (.int n), some (.int c)] [.int (G_146 M c 4), .int 4, .int c, .ref 633] M v M' 0 0 := H
      have H : Ev none (e1 + 1) 210 (if ((G_146 M c 4) + n) ≤ 200 then 61 else 55) [some (.ref 633), some (.int n), some (.int c)] [.int 4, .int c, .ref 633] M v M' 0 0 := Ev.back 4 (fun n => rfl) H
      by_cases h6 : ((G_146 M c 4) + n) ≤ 200
      · rw [if_pos h6] at H
        have H : Ev none (e1 + 1) 210 64 [some (.ref 633), some (.int n), some (.int c)] [.int 4, .int c, .ref 633, .int 4, .int c, .ref 633] M v M' 0 0 := Ev.back 3 (fun n => rfl) H
        obtain ⟨vK7, MK7, K7, H⟩ := Ev.callb (fun n_ => gs_7 rfl rfl (show gCal (.invokevirtual 136) 11 (.int 4 :: .int c :: .ref 633 :: [.int 4, .int c, .ref 633]) M = some (.inr (146, [some (.ref 633), some (.int c), some (.int 4)], [.int 4, .int c, .ref 633])) from by show @cond (Option ((List Value × Mem) ⊕ (Nat × Lo × List Value))) (true && gRecv M (.ref 633) 11 && gRoom [.int 4, .int c, .ref 633] && true) (some (.inr (146, [some (.ref 633), some (.int c), some (.int 4)], [.int 4, .int c, .ref 633]))) none = _; rw [recv_s hS.1 qa_633 qo_61]; rfl)) H
        obtain ⟨pK7, qK7⟩ := g_146 hS K7
        rw [pK7, qK7] at H
        have H : Ev none (e1 + 1) 210 67 [some (.ref 633), some (.int n), some (.int c)] [.int (G_146 M c 4), .int 4, .int c, .ref 633] M v M' 0 0 := H
        have H : Ev none (e1 + 1) 210 69 [some (.ref 633), some (.int n), some (.int c)] [.int ((G_146 M c 4) + n), .int 4, .int c, .ref 633] M v M' 0 0 := Ev.back 2 (fun n => rfl) H
        obtain ⟨vK8, MK8, K8, H⟩ := Ev.callb (fun n_ => gs_7 rfl rfl (show gCal (.invokevirtual 151) 11 (.int ((G_146 M c 4) + n) :: .int 4 :: .int c :: .ref 633 :: []) M = some (.inr (147, [some (.ref 633), some (.int c), some (.int 4), some (.int ((G_146 M c 4) + n))], [])) from by show @cond (Option ((List Value × Mem) ⊕ (Nat × Lo × List Value))) (true && gRecv M (.ref 633) 11 && gRoom [] && true) (some (.inr (147, [some (.ref 633), some (.int c), some (.int 4), some (.int ((G_146 M c 4) + n))], []))) none = _; rw [recv_s hS.1 qa_633 qo_61]; rfl)) H
        obtain ⟨pK8, qK8⟩ := g_147 hS K8
        rw [pK8, qK8] at H
        obtain ⟨N9, eN9⟩ : ∃ N, N = (X_147 M c 4 ((G_146 M c 4) + n)) := ⟨_, rfl⟩
        have hN9 : SQ N9 := by rw [eN9]; exact X_147_sx hS
        rw [← eN9] at H
        have H : Ev none (e1 + 1) 210 72 [some (.ref 633), some (.int n), some (.int c)] [] N9 v M' 0 0 := H
        have H : Ev none (e1 + 1) 210 20 [some (.ref 633), some (.int n), some (.int (c + 1))] [] N9 v M' 0 0 := Ev.back 2 (fun n => rfl) H
        have HF := H
        subst eN9
        exact Or.inr (Or.inr (Or.inl ⟨h2, h4, h6, HF⟩))
      · rw [if_neg h6] at H
        have H : Ev none (e1 + 1) 210 69 [some (.ref 633), some (.int n), some (.int c)] [.int 200, .int 4, .int c, .ref 633] M v M' 0 0 := Ev.back 2 (fun n => rfl) H
        obtain ⟨vK10, MK10, K10, H⟩ := Ev.callb (fun n_ => gs_7 rfl rfl (show gCal (.invokevirtual 151) 11 (.int 200 :: .int 4 :: .int c :: .ref 633 :: []) M = some (.inr (147, [some (.ref 633), some (.int c), some (.int 4), some (.int 200)], [])) from by show @cond (Option ((List Value × Mem) ⊕ (Nat × Lo × List Value))) (true && gRecv M (.ref 633) 11 && gRoom [] && true) (some (.inr (147, [some (.ref 633), some (.int c), some (.int 4), some (.int 200)], []))) none = _; rw [recv_s hS.1 qa_633 qo_61]; rfl)) H
        obtain ⟨pK10, qK10⟩ := g_147 hS K10
        rw [pK10, qK10] at H
        obtain ⟨N11, eN11⟩ : ∃ N, N = (X_147 M c 4 200) := ⟨_, rfl⟩
        have hN11 : SQ N11 := by rw [eN11]; exact X_147_sx hS
        rw [← eN11] at H
        have H : Ev none (e1 + 1) 210 72 [some (.ref 633), some (.int n), some (.int c)] [] N11 v M' 0 0 := H
        have H : Ev none (e1 + 1) 210 20 [some (.ref 633), some (.int n), some (.int (c + 1))] [] N11 v M' 0 0 := Ev.back 2 (fun n => rfl) H
        have HF := H
        subst eN11
        exact Or.inr (Or.inr (Or.inr (⟨h2, h4, h6, HF⟩)))
theorem rsn_0 {e : Nat} {M M' : Mem} {v : Option Value} (hS : SQ M) (H : Ev none e 211 0 [some (.ref 633), none] [] M v M' 0 0) : Ev none e 211 7 [some (.ref 633), some (.int 0)] [] (wF M 633 0 0) v M' 0 0 := by
  have H : Ev none e 211 2 [some (.ref 633), none] [.int 0, .ref 633] M v M' 0 0 := Ev.back 2 (fun n => rfl) H
  obtain ⟨N2, eN2⟩ : ∃ N, N = (wF M 633 0 0) := ⟨_, rfl⟩
  have hN2 : SQ N2 := by rw [eN2]; exact hS.kf
  have H : Ev none e 211 5 [some (.ref 633), none] [] N2 v M' 0 0 := by rw [eN2]; exact Ev.pfi rfl rfl rfl hS.1 qa_633 qi_61_0 H
  have H : Ev none e 211 7 [some (.ref 633), some (.int 0)] [] N2 v M' 0 0 := Ev.back 2 (fun n => rfl) H
  have HF := H
  subst eN2
  exact HF
theorem rsn_7 {e : Nat} {M M' : Mem} {v : Option Value} {c : Int32} (hS : SQ M) (H : Ev none e 211 7 [some (.ref 633), some (.int c)] [] M v M' 0 0) : ((G_144 M) ≤ c ∧ v = none ∧ M' = M) ∨ (¬ ((G_144 M) ≤ c) ∧ Ev none e 211 7 [some (.ref 633), some (.int (c + 1))] [] (X_147 M c 6 0) v M' 0 0) := by
  have H : Ev none e 211 9 [some (.ref 633), some (.int c)] [.ref 633, .int c] M v M' 0 0 := Ev.back 2 (fun n => rfl) H
  obtain ⟨e1, rfl⟩ := Ev.dpos rfl rfl H
  obtain ⟨vK1, MK1, K1, H⟩ := Ev.callb (fun n_ => gs_7 rfl rfl (show gCal (.invokevirtual 128) 11 (.ref 633 :: [.int c]) M = some (.inr (144, [some (.ref 633)], [.int c])) from by show @cond (Option ((List Value × Mem) ⊕ (Nat × Lo × List Value))) (true && gRecv M (.ref 633) 11 && gRoom [.int c] && true) (some (.inr (144, [some (.ref 633)], [.int c]))) none = _; rw [recv_s hS.1 qa_633 qo_61]; rfl)) H
  obtain ⟨pK1, qK1⟩ := g_144 hS K1
  rw [pK1, qK1] at H
  have H : Ev none (e1 + 1) 211 12 [some (.ref 633), some (.int c)] [.int (G_144 M), .int c] M v M' 0 0 := H
  have H : Ev none (e1 + 1) 211 (if (G_144 M) ≤ c then 29 else 15) [some (.ref 633), some (.int c)] [] M v M' 0 0 := Ev.back 1 (fun n => rfl) H
  by_cases h2 : (G_144 M) ≤ c
  · rw [if_pos h2] at H
    obtain ⟨z1, z2⟩ := Ev.retb (fun n => rfl) H
    exact Or.inl ⟨h2, z1, z2⟩
  · rw [if_neg h2] at H
    have H : Ev none (e1 + 1) 211 20 [some (.ref 633), some (.int c)] [.int 0, .int 6, .int c, .ref 633] M v M' 0 0 := Ev.back 4 (fun n => rfl) H
    obtain ⟨vK3, MK3, K3, H⟩ := Ev.callb (fun n_ => gs_7 rfl rfl (show gCal (.invokevirtual 151) 11 (.int 0 :: .int 6 :: .int c :: .ref 633 :: []) M = some (.inr (147, [some (.ref 633), some (.int c), some (.int 6), some (.int 0)], [])) from by show @cond (Option ((List Value × Mem) ⊕ (Nat × Lo × List Value))) (true && gRecv M (.ref 633) 11 && gRoom [] && true) (some (.inr (147, [some (.ref 633), some (.int c), some (.int 6), some (.int 0)], []))) none = _; rw [recv_s hS.1 qa_633 qo_61]; rfl)) H
    obtain ⟨pK3, qK3⟩ := g_147 hS K3
    rw [pK3, qK3] at H
    obtain ⟨N4, eN4⟩ : ∃ N, N = (X_147 M c 6 0) := ⟨_, rfl⟩
    have hN4 : SQ N4 := by rw [eN4]; exact X_147_sx hS
    rw [← eN4] at H
    have H : Ev none (e1 + 1) 211 23 [some (.ref 633), some (.int c)] [] N4 v M' 0 0 := H
    have H : Ev none (e1 + 1) 211 7 [some (.ref 633), some (.int (c + 1))] [] N4 v M' 0 0 := Ev.back 2 (fun n => rfl) H
    have HF := H
    subst eN4
    exact Or.inr (⟨h2, HF⟩)
noncomputable def X_213 (M : Mem) (c : Int32) (k : Int32) : Mem := if (G_149 (X_147 M c 0 k) c) = 0 then (X_147 (X_147 M c 0 k) c 3 0) else (X_147 M c 0 k)
theorem g_213 {e : Nat} {M M' : Mem} {v : Option Value} {c k : Int32} (hS : SQ M) (H : Ev none e 213 0 [some (.ref 633), some (.int c), some (.int k)] [] M v M' 0 0) : v = none ∧ M' = X_213 M c k := by
  unfold X_213
  have H : Ev none e 213 4 [some (.ref 633), some (.int c), some (.int k)] [.int k, .int 0, .int c, .ref 633] M v M' 0 0 := Ev.back 4 (fun n => rfl) H
  obtain ⟨e1, rfl⟩ := Ev.dpos rfl rfl H
  obtain ⟨vK1, MK1, K1, H⟩ := Ev.callb (fun n_ => gs_7 rfl rfl (show gCal (.invokevirtual 151) 11 (.int k :: .int 0 :: .int c :: .ref 633 :: []) M = some (.inr (147, [some (.ref 633), some (.int c), some (.int 0), some (.int k)], [])) from by show @cond (Option ((List Value × Mem) ⊕ (Nat × Lo × List Value))) (true && gRecv M (.ref 633) 11 && gRoom [] && true) (some (.inr (147, [some (.ref 633), some (.int c), some (.int 0), some (.int k)], []))) none = _; rw [recv_s hS.1 qa_633 qo_61]; rfl)) H
  obtain ⟨pK1, qK1⟩ := g_147 hS K1
  rw [pK1, qK1] at H
  obtain ⟨N2, eN2⟩ : ∃ N, N = (X_147 M c 0 k) := ⟨_, rfl⟩
  have hN2 : SQ N2 := by rw [eN2]; exact X_147_sx hS
  rw [← eN2] at H
  have H : Ev none (e1 + 1) 213 7 [some (.ref 633), some (.int c), some (.int k)] [] N2 v M' 0 0 := H
  have H : Ev none (e1 + 1) 213 9 [some (.ref 633), some (.int c), some (.int k)] [.int c, .ref 633] N2 v M' 0 0 := Ev.back 2 (fun n => rfl) H
  obtain ⟨vK3, MK3, K3, H⟩ := Ev.callb (fun n_ => gs_7 rfl rfl (show gCal (.invokevirtual 356) 11 (.int c :: .ref 633 :: []) N2 = some (.inr (149, [some (.ref 633), some (.int c)], [])) from by show @cond (Option ((List Value × Mem) ⊕ (Nat × Lo × List Value))) (true && gRecv N2 (.ref 633) 11 && gRoom [] && true) (some (.inr (149, [some (.ref 633), some (.int c)], []))) none = _; rw [recv_s hN2.1 qa_633 qo_61]; rfl)) H
  obtain ⟨pK3, qK3⟩ := g_149 hN2 K3
  rw [pK3, qK3] at H
  have H : Ev none (e1 + 1) 213 12 [some (.ref 633), some (.int c), some (.int k)] [.int (G_149 N2 c)] N2 v M' 0 0 := H
  have H : Ev none (e1 + 1) 213 (if (G_149 N2 c) = 0 then 15 else 22) [some (.ref 633), some (.int c), some (.int k)] [] N2 v M' 0 0 := Ev.back 1 (fun n => rfl) H
  by_cases h4 : (G_149 N2 c) = 0
  · rw [if_pos h4] at H
    have H : Ev none (e1 + 1) 213 19 [some (.ref 633), some (.int c), some (.int k)] [.int 0, .int 3, .int c, .ref 633] N2 v M' 0 0 := Ev.back 4 (fun n => rfl) H
    obtain ⟨vK5, MK5, K5, H⟩ := Ev.callb (fun n_ => gs_7 rfl rfl (show gCal (.invokevirtual 151) 11 (.int 0 :: .int 3 :: .int c :: .ref 633 :: []) N2 = some (.inr (147, [some (.ref 633), some (.int c), some (.int 3), some (.int 0)], [])) from by show @cond (Option ((List Value × Mem) ⊕ (Nat × Lo × List Value))) (true && gRecv N2 (.ref 633) 11 && gRoom [] && true) (some (.inr (147, [some (.ref 633), some (.int c), some (.int 3), some (.int 0)], []))) none = _; rw [recv_s hN2.1 qa_633 qo_61]; rfl)) H
    obtain ⟨pK5, qK5⟩ := g_147 hN2 K5
    rw [pK5, qK5] at H
    obtain ⟨N6, eN6⟩ : ∃ N, N = (X_147 N2 c 3 0) := ⟨_, rfl⟩
    have hN6 : SQ N6 := by rw [eN6]; exact X_147_sx hN2
    rw [← eN6] at H
    have H : Ev none (e1 + 1) 213 22 [some (.ref 633), some (.int c), some (.int k)] [] N6 v M' 0 0 := H
    obtain ⟨p1, p2⟩ := Ev.retb (fun n => rfl) H
    subst eN2 eN6
    exact ⟨p1, by rw [if_pos h4]; exact p2⟩
  · rw [if_neg h4] at H
    obtain ⟨p1, p2⟩ := Ev.retb (fun n => rfl) H
    subst eN2
    exact ⟨p1, by rw [if_neg h4]; exact p2⟩
theorem X_213_sx {M : Mem} {c k : Int32} (hS : SQ M) : SQ (X_213 M c k) := by
  unfold X_213
  split
  · exact X_147_sx (X_147_sx hS)
  · exact X_147_sx hS
theorem rla_0 {e : Nat} {M M' : Mem} {v : Option Value} {c k : Int32} (hS : SQ M) (H : Ev none e 212 0 [some (.ref 633), some (.int c), some (.int k)] [] M v M' 0 0) : ((G_145 (wF M 633 0 0) c) = 0 ∧ v = some (.int 0) ∧ M' = (wF M 633 0 0)) ∨ (¬ ((G_145 (wF M 633 0 0) c) = 0) ∧ (G_140 (wF M 633 0 0) k 0 6) = 0 ∧ v = some (.int 0) ∧ M' = (wF M 633 0 0)) ∨ (¬ ((G_145 (wF M 633 0 0) c) = 0) ∧ ¬ ((G_140 (wF M 633 0 0) k 0 6) = 0) ∧ k = 3 ∧ (∃ e1 v1 M1, e = e1 + 1 ∧ Ev none e1 157 0 [some (.ref 633), some (.int c), none] [] (wF M 633 0 0) v1 M1 0 0 ∧ Ev none e 212 39 [some (.ref 633), some (.int c), some (.int k)] (v1.toList ++ []) M1 v M' 0 0)) ∨ (¬ ((G_145 (wF M 633 0 0) c) = 0) ∧ ¬ ((G_140 (wF M 633 0 0) k 0 6) = 0) ∧ ¬ (k = 3) ∧ k = 6 ∧ (∃ e1 v1 M1, e = e1 + 1 ∧ Ev none e1 157 0 [some (.ref 633), some (.int c), none] [] (wF M 633 0 0) v1 M1 0 0 ∧ Ev none e 212 39 [some (.ref 633), some (.int c), some (.int k)] (v1.toList ++ []) M1 v M' 0 0)) ∨ (¬ ((G_145 (wF M 633 0 0) c) = 0) ∧ ¬ ((G_140 (wF M 633 0 0) k 0 6) = 0) ∧ ¬ (k = 3) ∧ ¬ (k = 6) ∧ (∃ e1 v1 M1, e = e1 + 1 ∧ Ev none e1 213 0 [some (.ref 633), some (.int c), some (.int k)] [] (wF M 633 0 0) v1 M1 0 0 ∧ Ev none e 212 58 [some (.ref 633), some (.int c), some (.int k)] (v1.toList ++ []) M1 v M' 0 0)) := by
  have H : Ev none e 212 2 [some (.ref 633), some (.int c), some (.int k)] [.int 0, .ref 633] M v M' 0 0 := Ev.back 2 (fun n => rfl) H
  obtain ⟨N2, eN2⟩ : ∃ N, N = (wF M 633 0 0) := ⟨_, rfl⟩
  have hN2 : SQ N2 := by rw [eN2]; exact hS.kf
  have H : Ev none e 212 5 [some (.ref 633), some (.int c), some (.int k)] [] N2 v M' 0 0 := by rw [eN2]; exact Ev.pfi rfl rfl rfl hS.1 qa_633 qi_61_0 H
  have H : Ev none e 212 7 [some (.ref 633), some (.int c), some (.int k)] [.int c, .ref 633] N2 v M' 0 0 := Ev.back 2 (fun n => rfl) H
  obtain ⟨e1, rfl⟩ := Ev.dpos rfl rfl H
  obtain ⟨vK3, MK3, K3, H⟩ := Ev.callb (fun n_ => gs_7 rfl rfl (show gCal (.invokevirtual 155) 11 (.int c :: .ref 633 :: []) N2 = some (.inr (145, [some (.ref 633), some (.int c)], [])) from by show @cond (Option ((List Value × Mem) ⊕ (Nat × Lo × List Value))) (true && gRecv N2 (.ref 633) 11 && gRoom [] && true) (some (.inr (145, [some (.ref 633), some (.int c)], []))) none = _; rw [recv_s hN2.1 qa_633 qo_61]; rfl)) H
  obtain ⟨pK3, qK3⟩ := g_145 hN2 K3
  rw [pK3, qK3] at H
  have H : Ev none (e1 + 1) 212 10 [some (.ref 633), some (.int c), some (.int k)] [.int (G_145 N2 c)] N2 v M' 0 0 := H
  have H : Ev none (e1 + 1) 212 (if (G_145 N2 c) = 0 then 50 else 13) [some (.ref 633), some (.int c), some (.int k)] [] N2 v M' 0 0 := Ev.back 1 (fun n => rfl) H
  by_cases h4 : (G_145 N2 c) = 0
  · rw [if_pos h4] at H
    have H : Ev none (e1 + 1) 212 51 [some (.ref 633), some (.int c), some (.int k)] [.int 0] N2 v M' 0 0 := Ev.back 1 (fun n => rfl) H
    obtain ⟨z1, z2⟩ := Ev.retz rfl rfl H
    subst eN2
    exact Or.inl ⟨h4, z1, z2⟩
  · rw [if_neg h4] at H
    have H : Ev none (e1 + 1) 212 17 [some (.ref 633), some (.int c), some (.int k)] [.int 6, .int 0, .int k] N2 v M' 0 0 := Ev.back 3 (fun n => rfl) H
    obtain ⟨vK5, MK5, K5, H⟩ := Ev.callb (fun n => rfl) H
    obtain ⟨pK5, qK5⟩ := g_140 hN2 K5
    rw [pK5, qK5] at H
    have H : Ev none (e1 + 1) 212 20 [some (.ref 633), some (.int c), some (.int k)] [.int (G_140 N2 k 0 6)] N2 v M' 0 0 := H
    have H : Ev none (e1 + 1) 212 (if (G_140 N2 k 0 6) = 0 then 50 else 23) [some (.ref 633), some (.int c), some (.int k)] [] N2 v M' 0 0 := Ev.back 1 (fun n => rfl) H
    by_cases h6 : (G_140 N2 k 0 6) = 0
    · rw [if_pos h6] at H
      have H : Ev none (e1 + 1) 212 51 [some (.ref 633), some (.int c), some (.int k)] [.int 0] N2 v M' 0 0 := Ev.back 1 (fun n => rfl) H
      obtain ⟨z1, z2⟩ := Ev.retz rfl rfl H
      subst eN2
      exact Or.inr (Or.inl ⟨h4, h6, z1, z2⟩)
    · rw [if_neg h6] at H
      have H : Ev none (e1 + 1) 212 (if k = 3 then 34 else 28) [some (.ref 633), some (.int c), some (.int k)] [] N2 v M' 0 0 := Ev.back 3 (fun n => rfl) H
      by_cases h7 : k = 3
      · rw [if_pos h7] at H
        have H : Ev none (e1 + 1) 212 36 [some (.ref 633), some (.int c), some (.int k)] [.int c, .ref 633] N2 v M' 0 0 := Ev.back 2 (fun n => rfl) H
        obtain ⟨vK8, MK8, K8, H⟩ := Ev.callb (fun n_ => gs_7 rfl rfl (show gCal (.invokevirtual 161) 11 (.int c :: .ref 633 :: []) N2 = some (.inr (157, [some (.ref 633), some (.int c), none], [])) from by show @cond (Option ((List Value × Mem) ⊕ (Nat × Lo × List Value))) (true && gRecv N2 (.ref 633) 11 && gRoom [] && true) (some (.inr (157, [some (.ref 633), some (.int c), none], []))) none = _; rw [recv_s hN2.1 qa_633 qo_61]; rfl)) H
        have K8 : Ev none e1 157 0 [some (.ref 633), some (.int c), none] [] N2 vK8 MK8 0 0 := K8
        have HF := H
        subst eN2
        exact Or.inr (Or.inr (Or.inl ⟨h4, h6, h7, ⟨e1, vK8, MK8, rfl, K8, HF⟩⟩))
      · rw [if_neg h7] at H
        have H : Ev none (e1 + 1) 212 (if k = 6 then 34 else 52) [some (.ref 633), some (.int c), some (.int k)] [] N2 v M' 0 0 := Ev.back 3 (fun n => rfl) H
        by_cases h9 : k = 6
        · rw [if_pos h9] at H
          have H : Ev none (e1 + 1) 212 36 [some (.ref 633), some (.int c), some (.int k)] [.int c, .ref 633] N2 v M' 0 0 := Ev.back 2 (fun n => rfl) H
          obtain ⟨vK10, MK10, K10, H⟩ := Ev.callb (fun n_ => gs_7 rfl rfl (show gCal (.invokevirtual 161) 11 (.int c :: .ref 633 :: []) N2 = some (.inr (157, [some (.ref 633), some (.int c), none], [])) from by show @cond (Option ((List Value × Mem) ⊕ (Nat × Lo × List Value))) (true && gRecv N2 (.ref 633) 11 && gRoom [] && true) (some (.inr (157, [some (.ref 633), some (.int c), none], []))) none = _; rw [recv_s hN2.1 qa_633 qo_61]; rfl)) H
          have K10 : Ev none e1 157 0 [some (.ref 633), some (.int c), none] [] N2 vK10 MK10 0 0 := K10
          have HF := H
          subst eN2
          exact Or.inr (Or.inr (Or.inr (Or.inl ⟨h4, h6, h7, h9, ⟨e1, vK10, MK10, rfl, K10, HF⟩⟩)))
        · rw [if_neg h9] at H
          have H : Ev none (e1 + 1) 212 55 [some (.ref 633), some (.int c), some (.int k)] [.int k, .int c, .ref 633] N2 v M' 0 0 := Ev.back 3 (fun n => rfl) H
          obtain ⟨vK11, MK11, K11, H⟩ := Ev.callb (fun n_ => gs_7 rfl rfl (show gCal (.invokevirtual 435) 11 (.int k :: .int c :: .ref 633 :: []) N2 = some (.inr (213, [some (.ref 633), some (.int c), some (.int k)], [])) from by show @cond (Option ((List Value × Mem) ⊕ (Nat × Lo × List Value))) (true && gRecv N2 (.ref 633) 11 && gRoom [] && true) (some (.inr (213, [some (.ref 633), some (.int c), some (.int k)], []))) none = _; rw [recv_s hN2.1 qa_633 qo_61]; rfl)) H
          have K11 : Ev none e1 213 0 [some (.ref 633), some (.int c), some (.int k)] [] N2 vK11 MK11 0 0 := K11
          have HF := H
          subst eN2
          exact Or.inr (Or.inr (Or.inr (Or.inr (⟨h4, h6, h7, h9, ⟨e1, vK11, MK11, rfl, K11, HF⟩⟩))))
theorem rla_39 {e : Nat} {M M' : Mem} {v : Option Value} {c k r : Int32} (hS : SQ M) (H : Ev none e 212 39 [some (.ref 633), some (.int c), some (.int k)] [.int r] M v M' 0 0) : (r = 0 ∧ (∃ e1 v1 M1, e = e1 + 1 ∧ Ev none e1 158 0 [some (.ref 633), some (.int c), none] [] M v1 M1 0 0 ∧ Ev none e 212 47 [some (.ref 633), some (.int c), some (.int k)] (v1.toList ++ []) M1 v M' 0 0)) ∨ (¬ (r = 0) ∧ v = some (.int 0) ∧ M' = M) := by
  have H : Ev none e 212 (if r = 0 then 42 else 50) [some (.ref 633), some (.int c), some (.int k)] [] M v M' 0 0 := Ev.back 1 (fun n => rfl) H
  by_cases h1 : r = 0
  · rw [if_pos h1] at H
    have H : Ev none e 212 44 [some (.ref 633), some (.int c), some (.int k)] [.int c, .ref 633] M v M' 0 0 := Ev.back 2 (fun n => rfl) H
    obtain ⟨e1, rfl⟩ := Ev.dpos rfl rfl H
    obtain ⟨vK2, MK2, K2, H⟩ := Ev.callb (fun n_ => gs_7 rfl rfl (show gCal (.invokevirtual 432) 11 (.int c :: .ref 633 :: []) M = some (.inr (158, [some (.ref 633), some (.int c), none], [])) from by show @cond (Option ((List Value × Mem) ⊕ (Nat × Lo × List Value))) (true && gRecv M (.ref 633) 11 && gRoom [] && true) (some (.inr (158, [some (.ref 633), some (.int c), none], []))) none = _; rw [recv_s hS.1 qa_633 qo_61]; rfl)) H
    have K2 : Ev none e1 158 0 [some (.ref 633), some (.int c), none] [] M vK2 MK2 0 0 := K2
    have HF := H
    exact Or.inl ⟨h1, ⟨e1, vK2, MK2, rfl, K2, HF⟩⟩
  · rw [if_neg h1] at H
    have H : Ev none e 212 51 [some (.ref 633), some (.int c), some (.int k)] [.int 0] M v M' 0 0 := Ev.back 1 (fun n => rfl) H
    obtain ⟨z1, z2⟩ := Ev.retz rfl rfl H
    exact Or.inr (⟨h1, z1, z2⟩)
theorem rla_47 {e : Nat} {M M' : Mem} {v : Option Value} {c k r : Int32} (hS : SQ M) (H : Ev none e 212 47 [some (.ref 633), some (.int c), some (.int k)] [.int r] M v M' 0 0) : (r = 0 ∧ (∃ e1 v1 M1, e = e1 + 1 ∧ Ev none e1 213 0 [some (.ref 633), some (.int c), some (.int k)] [] M v1 M1 0 0 ∧ Ev none e 212 58 [some (.ref 633), some (.int c), some (.int k)] (v1.toList ++ []) M1 v M' 0 0)) ∨ (¬ (r = 0) ∧ v = some (.int 0) ∧ M' = M) := by
  have H : Ev none e 212 (if r = 0 then 52 else 50) [some (.ref 633), some (.int c), some (.int k)] [] M v M' 0 0 := Ev.back 1 (fun n => rfl) H
  by_cases h1 : r = 0
  · rw [if_pos h1] at H
    have H : Ev none e 212 55 [some (.ref 633), some (.int c), some (.int k)] [.int k, .int c, .ref 633] M v M' 0 0 := Ev.back 3 (fun n => rfl) H
    obtain ⟨e1, rfl⟩ := Ev.dpos rfl rfl H
    obtain ⟨vK2, MK2, K2, H⟩ := Ev.callb (fun n_ => gs_7 rfl rfl (show gCal (.invokevirtual 435) 11 (.int k :: .int c :: .ref 633 :: []) M = some (.inr (213, [some (.ref 633), some (.int c), some (.int k)], [])) from by show @cond (Option ((List Value × Mem) ⊕ (Nat × Lo × List Value))) (true && gRecv M (.ref 633) 11 && gRoom [] && true) (some (.inr (213, [some (.ref 633), some (.int c), some (.int k)], []))) none = _; rw [recv_s hS.1 qa_633 qo_61]; rfl)) H
    have K2 : Ev none e1 213 0 [some (.ref 633), some (.int c), some (.int k)] [] M vK2 MK2 0 0 := K2
    have HF := H
    exact Or.inl ⟨h1, ⟨e1, vK2, MK2, rfl, K2, HF⟩⟩
  · rw [if_neg h1] at H
    have H : Ev none e 212 51 [some (.ref 633), some (.int c), some (.int k)] [.int 0] M v M' 0 0 := Ev.back 1 (fun n => rfl) H
    obtain ⟨z1, z2⟩ := Ev.retz rfl rfl H
    exact Or.inr (⟨h1, z1, z2⟩)
theorem rla_58 {e : Nat} {M M' : Mem} {v : Option Value} {c k : Int32} (hS : SQ M) (H : Ev none e 212 58 [some (.ref 633), some (.int c), some (.int k)] [] M v M' 0 0) : v = some (.int 1) ∧ M' = M := by
  have H : Ev none e 212 59 [some (.ref 633), some (.int c), some (.int k)] [.int 1] M v M' 0 0 := Ev.back 1 (fun n => rfl) H
  obtain ⟨z1, z2⟩ := Ev.retz rfl rfl H
  exact ⟨z1, z2⟩
theorem rpk_0 {e : Nat} {M M' : Mem} {v : Option Value} {a b : Int32} (hS : SQ M) (H : Ev none e 155 0 [some (.ref 633), some (.int a), some (.int b), none] [] M v M' 0 0) : ((G_140 (X_139 (wF M 633 0 0)) a 4 16) = 0 ∧ v = some (.int 0) ∧ M' = (X_139 (wF M 633 0 0))) ∨ (¬ ((G_140 (X_139 (wF M 633 0 0)) a 4 16) = 0) ∧ (G_140 (X_139 (wF M 633 0 0)) b 4 16) = 0 ∧ v = some (.int 0) ∧ M' = (X_139 (wF M 633 0 0))) ∨ (¬ ((G_140 (X_139 (wF M 633 0 0)) a 4 16) = 0) ∧ ¬ ((G_140 (X_139 (wF M 633 0 0)) b 4 16) = 0) ∧ (zI (X_139 (wF M 633 0 0)) 633 3) = (a * b) ∧ Ev none e 155 43 [some (.ref 633), some (.int a), some (.int b), some (.int 0)] [] (X_139 (wF M 633 0 0)) v M' 0 0) ∨ (¬ ((G_140 (X_139 (wF M 633 0 0)) a 4 16) = 0) ∧ ¬ ((G_140 (X_139 (wF M 633 0 0)) b 4 16) = 0) ∧ ¬ ((zI (X_139 (wF M 633 0 0)) 633 3) = (a * b)) ∧ v = some (.int 0) ∧ M' = (X_139 (wF M 633 0 0))) := by
  have H : Ev none e 155 2 [some (.ref 633), some (.int a), some (.int b), none] [.int 0, .ref 633] M v M' 0 0 := Ev.back 2 (fun n => rfl) H
  obtain ⟨N2, eN2⟩ : ∃ N, N = (wF M 633 0 0) := ⟨_, rfl⟩
  have hN2 : SQ N2 := by rw [eN2]; exact hS.kf
  have H : Ev none e 155 5 [some (.ref 633), some (.int a), some (.int b), none] [] N2 v M' 0 0 := by rw [eN2]; exact Ev.pfi rfl rfl rfl hS.1 qa_633 qi_61_0 H
  have H : Ev none e 155 6 [some (.ref 633), some (.int a), some (.int b), none] [.ref 633] N2 v M' 0 0 := Ev.back 1 (fun n => rfl) H
  obtain ⟨e1, rfl⟩ := Ev.dpos rfl rfl H
  obtain ⟨vK3, MK3, K3, H⟩ := Ev.callb (fun n_ => gs_7 rfl rfl (show gCal (.invokevirtual 144) 11 (.ref 633 :: []) N2 = some (.inr (139, [some (.ref 633)], [])) from by show @cond (Option ((List Value × Mem) ⊕ (Nat × Lo × List Value))) (true && gRecv N2 (.ref 633) 11 && gRoom [] && true) (some (.inr (139, [some (.ref 633)], []))) none = _; rw [recv_s hN2.1 qa_633 qo_61]; rfl)) H
  obtain ⟨pK3, qK3⟩ := g_139 hN2 K3
  rw [pK3, qK3] at H
  obtain ⟨N4, eN4⟩ : ∃ N, N = (X_139 N2) := ⟨_, rfl⟩
  have hN4 : SQ N4 := by rw [eN4]; exact X_139_sx hN2
  rw [← eN4] at H
  have H : Ev none (e1 + 1) 155 9 [some (.ref 633), some (.int a), some (.int b), none] [] N4 v M' 0 0 := H
  have H : Ev none (e1 + 1) 155 13 [some (.ref 633), some (.int a), some (.int b), none] [.int 16, .int 4, .int a] N4 v M' 0 0 := Ev.back 3 (fun n => rfl) H
  obtain ⟨vK5, MK5, K5, H⟩ := Ev.callb (fun n => rfl) H
  obtain ⟨pK5, qK5⟩ := g_140 hN4 K5
  rw [pK5, qK5] at H
  have H : Ev none (e1 + 1) 155 16 [some (.ref 633), some (.int a), some (.int b), none] [.int (G_140 N4 a 4 16)] N4 v M' 0 0 := H
  have H : Ev none (e1 + 1) 155 (if (G_140 N4 a 4 16) = 0 then 39 else 19) [some (.ref 633), some (.int a), some (.int b), none] [] N4 v M' 0 0 := Ev.back 1 (fun n => rfl) H
  by_cases h6 : (G_140 N4 a 4 16) = 0
  · rw [if_pos h6] at H
    have H : Ev none (e1 + 1) 155 40 [some (.ref 633), some (.int a), some (.int b), none] [.int 0] N4 v M' 0 0 := Ev.back 1 (fun n => rfl) H
    obtain ⟨z1, z2⟩ := Ev.retz rfl rfl H
    subst eN2 eN4
    exact Or.inl ⟨h6, z1, z2⟩
  · rw [if_neg h6] at H
    have H : Ev none (e1 + 1) 155 23 [some (.ref 633), some (.int a), some (.int b), none] [.int 16, .int 4, .int b] N4 v M' 0 0 := Ev.back 3 (fun n => rfl) H
    obtain ⟨vK7, MK7, K7, H⟩ := Ev.callb (fun n => rfl) H
    obtain ⟨pK7, qK7⟩ := g_140 hN4 K7
    rw [pK7, qK7] at H
    have H : Ev none (e1 + 1) 155 26 [some (.ref 633), some (.int a), some (.int b), none] [.int (G_140 N4 b 4 16)] N4 v M' 0 0 := H
    have H : Ev none (e1 + 1) 155 (if (G_140 N4 b 4 16) = 0 then 39 else 29) [some (.ref 633), some (.int a), some (.int b), none] [] N4 v M' 0 0 := Ev.back 1 (fun n => rfl) H
    by_cases h8 : (G_140 N4 b 4 16) = 0
    · rw [if_pos h8] at H
      have H : Ev none (e1 + 1) 155 40 [some (.ref 633), some (.int a), some (.int b), none] [.int 0] N4 v M' 0 0 := Ev.back 1 (fun n => rfl) H
      obtain ⟨z1, z2⟩ := Ev.retz rfl rfl H
      subst eN2 eN4
      exact Or.inr (Or.inl ⟨h6, h8, z1, z2⟩)
    · rw [if_neg h8] at H
      have H : Ev none (e1 + 1) 155 30 [some (.ref 633), some (.int a), some (.int b), none] [.ref 633] N4 v M' 0 0 := Ev.back 1 (fun n => rfl) H
      have H : Ev none (e1 + 1) 155 33 [some (.ref 633), some (.int a), some (.int b), none] [.int (zI N4 633 3)] N4 v M' 0 0 := Ev.back 1 (gs_3 rfl rfl (gf_i hN4.1 qa_633 qi_61_3 rfl)) H
      have H : Ev none (e1 + 1) 155 (if (zI N4 633 3) = (a * b) then 41 else 39) [some (.ref 633), some (.int a), some (.int b), none] [] N4 v M' 0 0 := Ev.back 4 (fun n => rfl) H
      by_cases h9 : (zI N4 633 3) = (a * b)
      · rw [if_pos h9] at H
        have H : Ev none (e1 + 1) 155 43 [some (.ref 633), some (.int a), some (.int b), some (.int 0)] [] N4 v M' 0 0 := Ev.back 2 (fun n => rfl) H
        have HF := H
        subst eN2 eN4
        exact Or.inr (Or.inr (Or.inl ⟨h6, h8, h9, HF⟩))
      · rw [if_neg h9] at H
        have H : Ev none (e1 + 1) 155 40 [some (.ref 633), some (.int a), some (.int b), none] [.int 0] N4 v M' 0 0 := Ev.back 1 (fun n => rfl) H
        obtain ⟨z1, z2⟩ := Ev.retz rfl rfl H
        subst eN2 eN4
        exact Or.inr (Or.inr (Or.inr (⟨h6, h8, h9, z1, z2⟩)))
theorem rpk_43 {e : Nat} {M M' : Mem} {v : Option Value} {a b i : Int32} (hS : SQ M) (H : Ev none e 155 43 [some (.ref 633), some (.int a), some (.int b), some (.int i)] [] M v M' 0 0) : ((zI M 633 3) ≤ i ∧ Ev none e 155 74 [some (.ref 633), some (.int a), some (.int b), some (.int 0)] [] M v M' 0 0) ∨ (¬ ((zI M 633 3) ≤ i) ∧ ((G_142 M i) - (G_142 M i) / 8 * 8) = 7 ∧ v = some (.int 0) ∧ M' = M) ∨ (¬ ((zI M 633 3) ≤ i) ∧ ¬ (((G_142 M i) - (G_142 M i) / 8 * 8) = 7) ∧ Ev none e 155 43 [some (.ref 633), some (.int a), some (.int b), some (.int (i + 1))] [] M v M' 0 0) := by
  have H : Ev none e 155 45 [some (.ref 633), some (.int a), some (.int b), some (.int i)] [.ref 633, .int i] M v M' 0 0 := Ev.back 2 (fun n => rfl) H
  have H : Ev none e 155 48 [some (.ref 633), some (.int a), some (.int b), some (.int i)] [.int (zI M 633 3), .int i] M v M' 0 0 := Ev.back 1 (gs_3 rfl rfl (gf_i hS.1 qa_633 qi_61_3 rfl)) H
  have H : Ev none e 155 (if (zI M 633 3) ≤ i then 72 else 51) [some (.ref 633), some (.int a), some (.int b), some (.int i)] [] M v M' 0 0 := Ev.back 1 (fun n => rfl) H
  by_cases h1 : (zI M 633 3) ≤ i
  · rw [if_pos h1] at H
    have H : Ev none e 155 74 [some (.ref 633), some (.int a), some (.int b), some (.int 0)] [] M v M' 0 0 := Ev.back 2 (fun n => rfl) H
    have HF := H
    exact Or.inl ⟨h1, HF⟩
  · rw [if_neg h1] at H
    have H : Ev none e 155 53 [some (.ref 633), some (.int a), some (.int b), some (.int i)] [.int i, .ref 633] M v M' 0 0 := Ev.back 2 (fun n => rfl) H
    obtain ⟨e1, rfl⟩ := Ev.dpos rfl rfl H
    obtain ⟨vK2, MK2, K2, H⟩ := Ev.callb (fun n_ => gs_7 rfl rfl (show gCal (.invokevirtual 147) 11 (.int i :: .ref 633 :: []) M = some (.inr (142, [some (.ref 633), some (.int i)], [])) from by show @cond (Option ((List Value × Mem) ⊕ (Nat × Lo × List Value))) (true && gRecv M (.ref 633) 11 && gRoom [] && true) (some (.inr (142, [some (.ref 633), some (.int i)], []))) none = _; rw [recv_s hS.1 qa_633 qo_61]; rfl)) H
    obtain ⟨pK2, qK2⟩ := g_142 hS K2
    rw [pK2, qK2] at H
    have H : Ev none (e1 + 1) 155 56 [some (.ref 633), some (.int a), some (.int b), some (.int i)] [.int (G_142 M i)] M v M' 0 0 := H
    have H : Ev none (e1 + 1) 155 (if ((G_142 M i) - (G_142 M i) / 8 * 8) = 7 then 64 else 66) [some (.ref 633), some (.int a), some (.int b), some (.int i)] [] M v M' 0 0 := Ev.back 4 (fun n => rfl) H
    by_cases h3 : ((G_142 M i) - (G_142 M i) / 8 * 8) = 7
    · rw [if_pos h3] at H
      have H : Ev none (e1 + 1) 155 65 [some (.ref 633), some (.int a), some (.int b), some (.int i)] [.int 0] M v M' 0 0 := Ev.back 1 (fun n => rfl) H
      obtain ⟨z1, z2⟩ := Ev.retz rfl rfl H
      exact Or.inr (Or.inl ⟨h1, h3, z1, z2⟩)
    · rw [if_neg h3] at H
      have H : Ev none (e1 + 1) 155 43 [some (.ref 633), some (.int a), some (.int b), some (.int (i + 1))] [] M v M' 0 0 := Ev.back 2 (fun n => rfl) H
      have HF := H
      exact Or.inr (Or.inr (⟨h1, h3, HF⟩))
theorem rpk_74 {e : Nat} {M M' : Mem} {v : Option Value} {a b i : Int32} (hS : SQ M) (H : Ev none e 155 74 [some (.ref 633), some (.int a), some (.int b), some (.int i)] [] M v M' 0 0) : (2314 ≤ i ∧ Ev none e 155 94 [some (.ref 633), some (.int a), some (.int b), some (.int i)] [] M v M' 0 0) ∨ (¬ (2314 ≤ i) ∧ (0 ≤ i.toInt ∧ i.toInt < 2314) ∧ Ev none e 155 74 [some (.ref 633), some (.int a), some (.int b), some (.int (i + 1))] [] (wI M 635 i.toNatClampNeg 0) v M' 0 0) := by
  have H : Ev none e 155 (if 2314 ≤ i then 94 else 81) [some (.ref 633), some (.int a), some (.int b), some (.int i)] [] M v M' 0 0 := Ev.back 3 (fun n => rfl) H
  by_cases h1 : 2314 ≤ i
  · rw [if_pos h1] at H
    have HF := H
    exact Or.inl ⟨h1, HF⟩
  · rw [if_neg h1] at H
    have H : Ev none e 155 82 [some (.ref 633), some (.int a), some (.int b), some (.int i)] [.ref 633] M v M' 0 0 := Ev.back 1 (fun n => rfl) H
    have H : Ev none e 155 85 [some (.ref 633), some (.int a), some (.int b), some (.int i)] [.ref 635] M v M' 0 0 := Ev.back 1 (gs_3 rfl rfl (gf_u hS.1 qa_633 qr_61_5 qu_63 rfl)) H
    have H : Ev none e 155 87 [some (.ref 633), some (.int a), some (.int b), some (.int i)] [.int 0, .int i, .ref 635] M v M' 0 0 := Ev.back 2 (fun n => rfl) H
    obtain ⟨b2, H⟩ := Ev.ias rfl rfl hS.1 qa_635 qw_63 H
    obtain ⟨N3, eN3⟩ : ∃ N, N = (wI M 635 i.toNatClampNeg 0) := ⟨_, rfl⟩
    have hN3 : SQ N3 := by rw [eN3]; exact hS.ki
    have H : Ev none e 155 88 [some (.ref 633), some (.int a), some (.int b), some (.int i)] [] N3 v M' 0 0 := by rw [eN3]; exact H
    have H : Ev none e 155 74 [some (.ref 633), some (.int a), some (.int b), some (.int (i + 1))] [] N3 v M' 0 0 := Ev.back 2 (fun n => rfl) H
    have HF := H
    subst eN3
    exact Or.inr (⟨h1, b2, HF⟩)
theorem rpk_94 {e : Nat} {M M' : Mem} {v : Option Value} {a b i : Int32} (hS : SQ M) (H : Ev none e 155 94 [some (.ref 633), some (.int a), some (.int b), some (.int i)] [] M v M' 0 0) : (0 ≤ (0 : Int32).toInt ∧ (0 : Int32).toInt < 2314) ∧ (0 ≤ (1 : Int32).toInt ∧ (1 : Int32).toInt < 2314) ∧ Ev none e 155 110 [some (.ref 633), some (.int a), some (.int b), some (.int 0)] [] (wI (wI M 635 ((0 : Int32).toNatClampNeg) a) 635 ((1 : Int32).toNatClampNeg) b) v M' 0 0 := by
  have H : Ev none e 155 95 [some (.ref 633), some (.int a), some (.int b), some (.int i)] [.ref 633] M v M' 0 0 := Ev.back 1 (fun n => rfl) H
  have H : Ev none e 155 98 [some (.ref 633), some (.int a), some (.int b), some (.int i)] [.ref 635] M v M' 0 0 := Ev.back 1 (gs_3 rfl rfl (gf_u hS.1 qa_633 qr_61_5 qu_63 rfl)) H
  have H : Ev none e 155 100 [some (.ref 633), some (.int a), some (.int b), some (.int i)] [.int a, .int 0, .ref 635] M v M' 0 0 := Ev.back 2 (fun n => rfl) H
  obtain ⟨b1, H⟩ := Ev.ias rfl rfl hS.1 qa_635 qw_63 H
  obtain ⟨N2, eN2⟩ : ∃ N, N = (wI M 635 ((0 : Int32).toNatClampNeg) a) := ⟨_, rfl⟩
  have hN2 : SQ N2 := by rw [eN2]; exact hS.ki
  have H : Ev none e 155 101 [some (.ref 633), some (.int a), some (.int b), some (.int i)] [] N2 v M' 0 0 := by rw [eN2]; exact H
  have H : Ev none e 155 102 [some (.ref 633), some (.int a), some (.int b), some (.int i)] [.ref 633] N2 v M' 0 0 := Ev.back 1 (fun n => rfl) H
  have H : Ev none e 155 105 [some (.ref 633), some (.int a), some (.int b), some (.int i)] [.ref 635] N2 v M' 0 0 := Ev.back 1 (gs_3 rfl rfl (gf_u hN2.1 qa_633 qr_61_5 qu_63 rfl)) H
  have H : Ev none e 155 107 [some (.ref 633), some (.int a), some (.int b), some (.int i)] [.int b, .int 1, .ref 635] N2 v M' 0 0 := Ev.back 2 (fun n => rfl) H
  obtain ⟨b3, H⟩ := Ev.ias rfl rfl hN2.1 qa_635 qw_63 H
  obtain ⟨N4, eN4⟩ : ∃ N, N = (wI N2 635 ((1 : Int32).toNatClampNeg) b) := ⟨_, rfl⟩
  have hN4 : SQ N4 := by rw [eN4]; exact hN2.ki
  have H : Ev none e 155 108 [some (.ref 633), some (.int a), some (.int b), some (.int i)] [] N4 v M' 0 0 := by rw [eN4]; exact H
  have H : Ev none e 155 110 [some (.ref 633), some (.int a), some (.int b), some (.int 0)] [] N4 v M' 0 0 := Ev.back 2 (fun n => rfl) H
  have HF := H
  subst eN2 eN4
  exact ⟨b1, b3, HF⟩
theorem rpk_110 {e : Nat} {M M' : Mem} {v : Option Value} {a b i : Int32} (hS : SQ M) (H : Ev none e 155 110 [some (.ref 633), some (.int a), some (.int b), some (.int i)] [] M v M' 0 0) : ((zI M 633 3) ≤ i ∧ v = some (.int 1) ∧ M' = M) ∨ (¬ ((zI M 633 3) ≤ i) ∧ Ev none e 155 110 [some (.ref 633), some (.int a), some (.int b), some (.int (i + 1))] [] (X_147 (X_147 (X_147 M i 0 ((G_142 M i) - (G_142 M i) / 8 * 8)) i 1 (((G_142 (X_147 M i 0 ((G_142 M i) - (G_142 M i) / 8 * 8)) i) / 8) - ((G_142 (X_147 M i 0 ((G_142 M i) - (G_142 M i) / 8 * 8)) i) / 8) / 2 * 2)) i 2 ((G_142 (X_147 (X_147 M i 0 ((G_142 M i) - (G_142 M i) / 8 * 8)) i 1 (((G_142 (X_147 M i 0 ((G_142 M i) - (G_142 M i) / 8 * 8)) i) / 8) - ((G_142 (X_147 M i 0 ((G_142 M i) - (G_142 M i) / 8 * 8)) i) / 8) / 2 * 2)) i) / 16)) v M' 0 0) := by
  have H : Ev none e 155 112 [some (.ref 633), some (.int a), some (.int b), some (.int i)] [.ref 633, .int i] M v M' 0 0 := Ev.back 2 (fun n => rfl) H
  have H : Ev none e 155 115 [some (.ref 633), some (.int a), some (.int b), some (.int i)] [.int (zI M 633 3), .int i] M v M' 0 0 := Ev.back 1 (gs_3 rfl rfl (gf_i hS.1 qa_633 qi_61_3 rfl)) H
  have H : Ev none e 155 (if (zI M 633 3) ≤ i then 168 else 118) [some (.ref 633), some (.int a), some (.int b), some (.int i)] [] M v M' 0 0 := Ev.back 1 (fun n => rfl) H
  by_cases h1 : (zI M 633 3) ≤ i
  · rw [if_pos h1] at H
    have H : Ev none e 155 169 [some (.ref 633), some (.int a), some (.int b), some (.int i)] [.int 1] M v M' 0 0 := Ev.back 1 (fun n => rfl) H
    obtain ⟨z1, z2⟩ := Ev.retz rfl rfl H
    exact Or.inl ⟨h1, z1, z2⟩
  · rw [if_neg h1] at H
    have H : Ev none e 155 123 [some (.ref 633), some (.int a), some (.int b), some (.int i)] [.int i, .ref 633, .int 0, .int i, .ref 633] M v M' 0 0 := Ev.back 5 (fun n => rfl) H
    obtain ⟨e1, rfl⟩ := Ev.dpos rfl rfl H
    obtain ⟨vK2, MK2, K2, H⟩ := Ev.callb (fun n_ => gs_7 rfl rfl (show gCal (.invokevirtual 147) 11 (.int i :: .ref 633 :: [.int 0, .int i, .ref 633]) M = some (.inr (142, [some (.ref 633), some (.int i)], [.int 0, .int i, .ref 633])) from by show @cond (Option ((List Value × Mem) ⊕ (Nat × Lo × List Value))) (true && gRecv M (.ref 633) 11 && gRoom [.int 0, .int i, .ref 633] && true) (some (.inr (142, [some (.ref 633), some (.int i)], [.int 0, .int i, .ref 633]))) none = _; rw [recv_s hS.1 qa_633 qo_61]; rfl)) H
    obtain ⟨pK2, qK2⟩ := g_142 hS K2
    rw [pK2, qK2] at H
    have H : Ev none (e1 + 1) 155 126 [some (.ref 633), some (.int a), some (.int b), some (.int i)] [.int (G_142 M i), .int 0, .int i, .ref 633] M v M' 0 0 := H
    have H : Ev none (e1 + 1) 155 129 [some (.ref 633), some (.int a), some (.int b), some (.int i)] [.int ((G_142 M i) - (G_142 M i) / 8 * 8), .int 0, .int i, .ref 633] M v M' 0 0 := Ev.back 2 (fun n => rfl) H
    obtain ⟨vK3, MK3, K3, H⟩ := Ev.callb (fun n_ => gs_7 rfl rfl (show gCal (.invokevirtual 151) 11 (.int ((G_142 M i) - (G_142 M i) / 8 * 8) :: .int 0 :: .int i :: .ref 633 :: []) M = some (.inr (147, [some (.ref 633), some (.int i), some (.int 0), some (.int ((G_142 M i) - (G_142 M i) / 8 * 8))], [])) from by show @cond (Option ((List Value × Mem) ⊕ (Nat × Lo × List Value))) (true && gRecv M (.ref 633) 11 && gRoom [] && true) (some (.inr (147, [some (.ref 633), some (.int i), some (.int 0), some (.int ((G_142 M i) - (G_142 M i) / 8 * 8))], []))) none = _; rw [recv_s hS.1 qa_633 qo_61]; rfl)) H
    obtain ⟨pK3, qK3⟩ := g_147 hS K3
    rw [pK3, qK3] at H
    obtain ⟨N4, eN4⟩ : ∃ N, N = (X_147 M i 0 ((G_142 M i) - (G_142 M i) / 8 * 8)) := ⟨_, rfl⟩
    have hN4 : SQ N4 := by rw [eN4]; exact X_147_sx hS
    rw [← eN4] at H
    have H : Ev none (e1 + 1) 155 132 [some (.ref 633), some (.int a), some (.int b), some (.int i)] [] N4 v M' 0 0 := H
    have H : Ev none (e1 + 1) 155 137 [some (.ref 633), some (.int a), some (.int b), some (.int i)] [.int i, .ref 633, .int 1, .int i, .ref 633] N4 v M' 0 0 := Ev.back 5 (fun n => rfl) H
    obtain ⟨vK5, MK5, K5, H⟩ := Ev.callb (fun n_ => gs_7 rfl rfl (show gCal (.invokevirtual 147) 11 (.int i :: .ref 633 :: [.int 1, .int i, .ref 633]) N4 = some (.inr (142, [some (.ref 633), some (.int i)], [.int 1, .int i, .ref 633])) from by show @cond (Option ((List Value × Mem) ⊕ (Nat × Lo × List Value))) (true && gRecv N4 (.ref 633) 11 && gRoom [.int 1, .int i, .ref 633] && true) (some (.inr (142, [some (.ref 633), some (.int i)], [.int 1, .int i, .ref 633]))) none = _; rw [recv_s hN4.1 qa_633 qo_61]; rfl)) H
    obtain ⟨pK5, qK5⟩ := g_142 hN4 K5
    rw [pK5, qK5] at H
    have H : Ev none (e1 + 1) 155 140 [some (.ref 633), some (.int a), some (.int b), some (.int i)] [.int (G_142 N4 i), .int 1, .int i, .ref 633] N4 v M' 0 0 := H
    have H : Ev none (e1 + 1) 155 145 [some (.ref 633), some (.int a), some (.int b), some (.int i)] [.int (((G_142 N4 i) / 8) - ((G_142 N4 i) / 8) / 2 * 2), .int 1, .int i, .ref 633] N4 v M' 0 0 := Ev.back 4 (fun n => rfl) H
    obtain ⟨vK6, MK6, K6, H⟩ := Ev.callb (fun n_ => gs_7 rfl rfl (show gCal (.invokevirtual 151) 11 (.int (((G_142 N4 i) / 8) - ((G_142 N4 i) / 8) / 2 * 2) :: .int 1 :: .int i :: .ref 633 :: []) N4 = some (.inr (147, [some (.ref 633), some (.int i), some (.int 1), some (.int (((G_142 N4 i) / 8) - ((G_142 N4 i) / 8) / 2 * 2))], [])) from by show @cond (Option ((List Value × Mem) ⊕ (Nat × Lo × List Value))) (true && gRecv N4 (.ref 633) 11 && gRoom [] && true) (some (.inr (147, [some (.ref 633), some (.int i), some (.int 1), some (.int (((G_142 N4 i) / 8) - ((G_142 N4 i) / 8) / 2 * 2))], []))) none = _; rw [recv_s hN4.1 qa_633 qo_61]; rfl)) H
    obtain ⟨pK6, qK6⟩ := g_147 hN4 K6
    rw [pK6, qK6] at H
    obtain ⟨N7, eN7⟩ : ∃ N, N = (X_147 N4 i 1 (((G_142 N4 i) / 8) - ((G_142 N4 i) / 8) / 2 * 2)) := ⟨_, rfl⟩
    have hN7 : SQ N7 := by rw [eN7]; exact X_147_sx hN4
    rw [← eN7] at H
    have H : Ev none (e1 + 1) 155 148 [some (.ref 633), some (.int a), some (.int b), some (.int i)] [] N7 v M' 0 0 := H
    have H : Ev none (e1 + 1) 155 153 [some (.ref 633), some (.int a), some (.int b), some (.int i)] [.int i, .ref 633, .int 2, .int i, .ref 633] N7 v M' 0 0 := Ev.back 5 (fun n => rfl) H
    obtain ⟨vK8, MK8, K8, H⟩ := Ev.callb (fun n_ => gs_7 rfl rfl (show gCal (.invokevirtual 147) 11 (.int i :: .ref 633 :: [.int 2, .int i, .ref 633]) N7 = some (.inr (142, [some (.ref 633), some (.int i)], [.int 2, .int i, .ref 633])) from by show @cond (Option ((List Value × Mem) ⊕ (Nat × Lo × List Value))) (true && gRecv N7 (.ref 633) 11 && gRoom [.int 2, .int i, .ref 633] && true) (some (.inr (142, [some (.ref 633), some (.int i)], [.int 2, .int i, .ref 633]))) none = _; rw [recv_s hN7.1 qa_633 qo_61]; rfl)) H
    obtain ⟨pK8, qK8⟩ := g_142 hN7 K8
    rw [pK8, qK8] at H
    have H : Ev none (e1 + 1) 155 156 [some (.ref 633), some (.int a), some (.int b), some (.int i)] [.int (G_142 N7 i), .int 2, .int i, .ref 633] N7 v M' 0 0 := H
    have H : Ev none (e1 + 1) 155 159 [some (.ref 633), some (.int a), some (.int b), some (.int i)] [.int ((G_142 N7 i) / 16), .int 2, .int i, .ref 633] N7 v M' 0 0 := Ev.back 2 (fun n => rfl) H
    obtain ⟨vK9, MK9, K9, H⟩ := Ev.callb (fun n_ => gs_7 rfl rfl (show gCal (.invokevirtual 151) 11 (.int ((G_142 N7 i) / 16) :: .int 2 :: .int i :: .ref 633 :: []) N7 = some (.inr (147, [some (.ref 633), some (.int i), some (.int 2), some (.int ((G_142 N7 i) / 16))], [])) from by show @cond (Option ((List Value × Mem) ⊕ (Nat × Lo × List Value))) (true && gRecv N7 (.ref 633) 11 && gRoom [] && true) (some (.inr (147, [some (.ref 633), some (.int i), some (.int 2), some (.int ((G_142 N7 i) / 16))], []))) none = _; rw [recv_s hN7.1 qa_633 qo_61]; rfl)) H
    obtain ⟨pK9, qK9⟩ := g_147 hN7 K9
    rw [pK9, qK9] at H
    obtain ⟨N10, eN10⟩ : ∃ N, N = (X_147 N7 i 2 ((G_142 N7 i) / 16)) := ⟨_, rfl⟩
    have hN10 : SQ N10 := by rw [eN10]; exact X_147_sx hN7
    rw [← eN10] at H
    have H : Ev none (e1 + 1) 155 162 [some (.ref 633), some (.int a), some (.int b), some (.int i)] [] N10 v M' 0 0 := H
    have H : Ev none (e1 + 1) 155 110 [some (.ref 633), some (.int a), some (.int b), some (.int (i + 1))] [] N10 v M' 0 0 := Ev.back 2 (fun n => rfl) H
    have HF := H
    subst eN4 eN7 eN10
    exact Or.inr (⟨h1, HF⟩)
theorem rim_0 {e : Nat} {M M' : Mem} {v : Option Value} {k : Int32} (hS : SQ M) (H : Ev none e 246 0 [some (.ref 633), some (.int k), none] [] M v M' 0 0) : ((G_140 (wF M 633 0 0) k 0 2) = 0 ∧ v = some (.int 0) ∧ M' = (wF M 633 0 0)) ∨ (¬ ((G_140 (wF M 633 0 0) k 0 2) = 0) ∧ Ev none e 246 18 [some (.ref 633), some (.int k), some (.int 0)] [] (wF M 633 0 0) v M' 0 0) := by
  have H : Ev none e 246 2 [some (.ref 633), some (.int k), none] [.int 0, .ref 633] M v M' 0 0 := Ev.back 2 (fun n => rfl) H
  obtain ⟨N2, eN2⟩ : ∃ N, N = (wF M 633 0 0) := ⟨_, rfl⟩
  have hN2 : SQ N2 := by rw [eN2]; exact hS.kf
  have H : Ev none e 246 5 [some (.ref 633), some (.int k), none] [] N2 v M' 0 0 := by rw [eN2]; exact Ev.pfi rfl rfl rfl hS.1 qa_633 qi_61_0 H
  have H : Ev none e 246 8 [some (.ref 633), some (.int k), none] [.int 2, .int 0, .int k] N2 v M' 0 0 := Ev.back 3 (fun n => rfl) H
  obtain ⟨e1, rfl⟩ := Ev.dpos rfl rfl H
  obtain ⟨vK3, MK3, K3, H⟩ := Ev.callb (fun n => rfl) H
  obtain ⟨pK3, qK3⟩ := g_140 hN2 K3
  rw [pK3, qK3] at H
  have H : Ev none (e1 + 1) 246 11 [some (.ref 633), some (.int k), none] [.int (G_140 N2 k 0 2)] N2 v M' 0 0 := H
  have H : Ev none (e1 + 1) 246 (if (G_140 N2 k 0 2) = 0 then 14 else 16) [some (.ref 633), some (.int k), none] [] N2 v M' 0 0 := Ev.back 1 (fun n => rfl) H
  by_cases h4 : (G_140 N2 k 0 2) = 0
  · rw [if_pos h4] at H
    have H : Ev none (e1 + 1) 246 15 [some (.ref 633), some (.int k), none] [.int 0] N2 v M' 0 0 := Ev.back 1 (fun n => rfl) H
    obtain ⟨z1, z2⟩ := Ev.retz rfl rfl H
    subst eN2
    exact Or.inl ⟨h4, z1, z2⟩
  · rw [if_neg h4] at H
    have H : Ev none (e1 + 1) 246 18 [some (.ref 633), some (.int k), some (.int 0)] [] N2 v M' 0 0 := Ev.back 2 (fun n => rfl) H
    have HF := H
    subst eN2
    exact Or.inr (⟨h4, HF⟩)
theorem rim_18 {e : Nat} {M M' : Mem} {v : Option Value} {k i : Int32} (hS : SQ M) (H : Ev none e 246 18 [some (.ref 633), some (.int k), some (.int i)] [] M v M' 0 0) : (2314 ≤ i ∧ (0 ≤ k.toInt ∧ k.toInt < 3) ∧ v = some (.int 1) ∧ M' = (wI M 638 k.toNatClampNeg (vp_nar .boolean 1))) ∨ (¬ (2314 ≤ i) ∧ (0 ≤ i.toInt ∧ i.toInt < 2314) ∧ (0 ≤ ((2314 * k) + i).toInt ∧ ((2314 * k) + i).toInt < 6942) ∧ Ev none e 246 18 [some (.ref 633), some (.int k), some (.int (i + 1))] [] (wI M 636 (((2314 * k) + i).toNatClampNeg) (rI M 635 i)) v M' 0 0) := by
  have H : Ev none e 246 (if 2314 ≤ i then 49 else 25) [some (.ref 633), some (.int k), some (.int i)] [] M v M' 0 0 := Ev.back 3 (fun n => rfl) H
  by_cases h1 : 2314 ≤ i
  · rw [if_pos h1] at H
    have H : Ev none e 246 50 [some (.ref 633), some (.int k), some (.int i)] [.ref 633] M v M' 0 0 := Ev.back 1 (fun n => rfl) H
    have H : Ev none e 246 53 [some (.ref 633), some (.int k), some (.int i)] [.ref 638] M v M' 0 0 := Ev.back 1 (gs_3 rfl rfl (gf_u hS.1 qa_633 qr_61_8 qu_66 rfl)) H
    have H : Ev none e 246 55 [some (.ref 633), some (.int k), some (.int i)] [.int 1, .int k, .ref 638] M v M' 0 0 := Ev.back 2 (fun n => rfl) H
    obtain ⟨b2, H⟩ := Ev.bas3 rfl rfl hS.1 qa_638 qw_66 H
    obtain ⟨N3, eN3⟩ : ∃ N, N = (wI M 638 k.toNatClampNeg (vp_nar .boolean 1)) := ⟨_, rfl⟩
    have hN3 : SQ N3 := by rw [eN3]; exact hS.ki
    have H : Ev none e 246 56 [some (.ref 633), some (.int k), some (.int i)] [] N3 v M' 0 0 := by rw [eN3]; exact H
    have H : Ev none e 246 57 [some (.ref 633), some (.int k), some (.int i)] [.int 1] N3 v M' 0 0 := Ev.back 1 (fun n => rfl) H
    obtain ⟨z1, z2⟩ := Ev.retz rfl rfl H
    subst eN3
    exact Or.inl ⟨h1, b2, z1, z2⟩
  · rw [if_neg h1] at H
    have H : Ev none e 246 26 [some (.ref 633), some (.int k), some (.int i)] [.ref 633] M v M' 0 0 := Ev.back 1 (fun n => rfl) H
    have H : Ev none e 246 29 [some (.ref 633), some (.int k), some (.int i)] [.ref 636] M v M' 0 0 := Ev.back 1 (gs_3 rfl rfl (gf_u hS.1 qa_633 qr_61_6 qu_64 rfl)) H
    have H : Ev none e 246 37 [some (.ref 633), some (.int k), some (.int i)] [.ref 633, .int ((2314 * k) + i), .ref 636] M v M' 0 0 := Ev.back 6 (fun n => rfl) H
    have H : Ev none e 246 40 [some (.ref 633), some (.int k), some (.int i)] [.ref 635, .int ((2314 * k) + i), .ref 636] M v M' 0 0 := Ev.back 1 (gs_3 rfl rfl (gf_u hS.1 qa_633 qr_61_5 qu_63 rfl)) H
    have H : Ev none e 246 41 [some (.ref 633), some (.int k), some (.int i)] [.int i, .ref 635, .int ((2314 * k) + i), .ref 636] M v M' 0 0 := Ev.back 1 (fun n => rfl) H
    obtain ⟨b4, H⟩ := Ev.ial rfl rfl hS.1 qa_635 qw_63 H
    have H : Ev none e 246 42 [some (.ref 633), some (.int k), some (.int i)] [.int (rI M 635 i), .int ((2314 * k) + i), .ref 636] M v M' 0 0 := H
    obtain ⟨b5, H⟩ := Ev.ias rfl rfl hS.1 qa_636 qw_64 H
    obtain ⟨N6, eN6⟩ : ∃ N, N = (wI M 636 (((2314 * k) + i).toNatClampNeg) (rI M 635 i)) := ⟨_, rfl⟩
    have hN6 : SQ N6 := by rw [eN6]; exact hS.ki
    have H : Ev none e 246 43 [some (.ref 633), some (.int k), some (.int i)] [] N6 v M' 0 0 := by rw [eN6]; exact H
    have H : Ev none e 246 18 [some (.ref 633), some (.int k), some (.int (i + 1))] [] N6 v M' 0 0 := Ev.back 2 (fun n => rfl) H
    have HF := H
    subst eN6
    exact Or.inr (⟨h1, b4, b5, HF⟩)
theorem rre_0 {e : Nat} {M M' : Mem} {v : Option Value} {k : Int32} (hS : SQ M) (H : Ev none e 247 0 [some (.ref 633), some (.int k), none] [] M v M' 0 0) : ((G_140 (wF M 633 0 0) k 0 2) = 0 ∧ v = some (.int 0) ∧ M' = (wF M 633 0 0)) ∨ (¬ ((G_140 (wF M 633 0 0) k 0 2) = 0) ∧ (rI M 638 k) = 0 ∧ (0 ≤ k.toInt ∧ k.toInt < 3) ∧ v = some (.int 0) ∧ M' = (wF M 633 0 0)) ∨ (¬ ((G_140 (wF M 633 0 0) k 0 2) = 0) ∧ ¬ ((rI M 638 k) = 0) ∧ (0 ≤ k.toInt ∧ k.toInt < 3) ∧ Ev none e 247 27 [some (.ref 633), some (.int k), some (.int 0)] [] (wF M 633 0 0) v M' 0 0) := by
  have H : Ev none e 247 2 [some (.ref 633), some (.int k), none] [.int 0, .ref 633] M v M' 0 0 := Ev.back 2 (fun n => rfl) H
  obtain ⟨N2, eN2⟩ : ∃ N, N = (wF M 633 0 0) := ⟨_, rfl⟩
  have hN2 : SQ N2 := by rw [eN2]; exact hS.kf
  have H : Ev none e 247 5 [some (.ref 633), some (.int k), none] [] N2 v M' 0 0 := by rw [eN2]; exact Ev.pfi rfl rfl rfl hS.1 qa_633 qi_61_0 H
  have H : Ev none e 247 8 [some (.ref 633), some (.int k), none] [.int 2, .int 0, .int k] N2 v M' 0 0 := Ev.back 3 (fun n => rfl) H
  obtain ⟨e1, rfl⟩ := Ev.dpos rfl rfl H
  obtain ⟨vK3, MK3, K3, H⟩ := Ev.callb (fun n => rfl) H
  obtain ⟨pK3, qK3⟩ := g_140 hN2 K3
  rw [pK3, qK3] at H
  have H : Ev none (e1 + 1) 247 11 [some (.ref 633), some (.int k), none] [.int (G_140 N2 k 0 2)] N2 v M' 0 0 := H
  have H : Ev none (e1 + 1) 247 (if (G_140 N2 k 0 2) = 0 then 23 else 14) [some (.ref 633), some (.int k), none] [] N2 v M' 0 0 := Ev.back 1 (fun n => rfl) H
  by_cases h4 : (G_140 N2 k 0 2) = 0
  · rw [if_pos h4] at H
    have H : Ev none (e1 + 1) 247 24 [some (.ref 633), some (.int k), none] [.int 0] N2 v M' 0 0 := Ev.back 1 (fun n => rfl) H
    obtain ⟨z1, z2⟩ := Ev.retz rfl rfl H
    subst eN2
    exact Or.inl ⟨h4, z1, z2⟩
  · rw [if_neg h4] at H
    have H : Ev none (e1 + 1) 247 15 [some (.ref 633), some (.int k), none] [.ref 633] N2 v M' 0 0 := Ev.back 1 (fun n => rfl) H
    have H : Ev none (e1 + 1) 247 18 [some (.ref 633), some (.int k), none] [.ref 638] N2 v M' 0 0 := Ev.back 1 (gs_3 rfl rfl (gf_u hN2.1 qa_633 qr_61_8 qu_66 rfl)) H
    have H : Ev none (e1 + 1) 247 19 [some (.ref 633), some (.int k), none] [.int k, .ref 638] N2 v M' 0 0 := Ev.back 1 (fun n => rfl) H
    obtain ⟨b5, H⟩ := Ev.bal rfl rfl hN2.1 qa_638 qw_66 (Or.inr rfl) H
    have H : Ev none (e1 + 1) 247 20 [some (.ref 633), some (.int k), none] [.int (rI N2 638 k)] N2 v M' 0 0 := H
    rw [show rI N2 638 k = rI M 638 k from by rw [eN2]; exact rN_wF] at H
    have H : Ev none (e1 + 1) 247 (if (rI M 638 k) = 0 then 23 else 25) [some (.ref 633), some (.int k), none] [] N2 v M' 0 0 := Ev.back 1 (fun n => rfl) H
    by_cases h6 : (rI M 638 k) = 0
    · rw [if_pos h6] at H
      have H : Ev none (e1 + 1) 247 24 [some (.ref 633), some (.int k), none] [.int 0] N2 v M' 0 0 := Ev.back 1 (fun n => rfl) H
      obtain ⟨z1, z2⟩ := Ev.retz rfl rfl H
      subst eN2
      exact Or.inr (Or.inl ⟨h4, h6, b5, z1, z2⟩)
    · rw [if_neg h6] at H
      have H : Ev none (e1 + 1) 247 27 [some (.ref 633), some (.int k), some (.int 0)] [] N2 v M' 0 0 := Ev.back 2 (fun n => rfl) H
      have HF := H
      subst eN2
      exact Or.inr (Or.inr (⟨h4, h6, b5, HF⟩))
theorem rre_27 {e : Nat} {M M' : Mem} {v : Option Value} {k i : Int32} (hS : SQ M) (H : Ev none e 247 27 [some (.ref 633), some (.int k), some (.int i)] [] M v M' 0 0) : (2314 ≤ i ∧ v = some (.int 1) ∧ M' = M) ∨ (¬ (2314 ≤ i) ∧ (0 ≤ ((2314 * k) + i).toInt ∧ ((2314 * k) + i).toInt < 6942) ∧ (0 ≤ i.toInt ∧ i.toInt < 2314) ∧ Ev none e 247 27 [some (.ref 633), some (.int k), some (.int (i + 1))] [] (wI M 635 i.toNatClampNeg (rI M 636 ((2314 * k) + i))) v M' 0 0) := by
  have H : Ev none e 247 (if 2314 ≤ i then 58 else 34) [some (.ref 633), some (.int k), some (.int i)] [] M v M' 0 0 := Ev.back 3 (fun n => rfl) H
  by_cases h1 : 2314 ≤ i
  · rw [if_pos h1] at H
    have H : Ev none e 247 59 [some (.ref 633), some (.int k), some (.int i)] [.int 1] M v M' 0 0 := Ev.back 1 (fun n => rfl) H
    obtain ⟨z1, z2⟩ := Ev.retz rfl rfl H
    exact Or.inl ⟨h1, z1, z2⟩
  · rw [if_neg h1] at H
    have H : Ev none e 247 35 [some (.ref 633), some (.int k), some (.int i)] [.ref 633] M v M' 0 0 := Ev.back 1 (fun n => rfl) H
    have H : Ev none e 247 38 [some (.ref 633), some (.int k), some (.int i)] [.ref 635] M v M' 0 0 := Ev.back 1 (gs_3 rfl rfl (gf_u hS.1 qa_633 qr_61_5 qu_63 rfl)) H
    have H : Ev none e 247 40 [some (.ref 633), some (.int k), some (.int i)] [.ref 633, .int i, .ref 635] M v M' 0 0 := Ev.back 2 (fun n => rfl) H
    have H : Ev none e 247 43 [some (.ref 633), some (.int k), some (.int i)] [.ref 636, .int i, .ref 635] M v M' 0 0 := Ev.back 1 (gs_3 rfl rfl (gf_u hS.1 qa_633 qr_61_6 qu_64 rfl)) H
    have H : Ev none e 247 50 [some (.ref 633), some (.int k), some (.int i)] [.int ((2314 * k) + i), .ref 636, .int i, .ref 635] M v M' 0 0 := Ev.back 5 (fun n => rfl) H
    obtain ⟨b2, H⟩ := Ev.ial rfl rfl hS.1 qa_636 qw_64 H
    have H : Ev none e 247 51 [some (.ref 633), some (.int k), some (.int i)] [.int (rI M 636 ((2314 * k) + i)), .int i, .ref 635] M v M' 0 0 := H
    obtain ⟨b3, H⟩ := Ev.ias rfl rfl hS.1 qa_635 qw_63 H
    obtain ⟨N4, eN4⟩ : ∃ N, N = (wI M 635 i.toNatClampNeg (rI M 636 ((2314 * k) + i))) := ⟨_, rfl⟩
    have hN4 : SQ N4 := by rw [eN4]; exact hS.ki
    have H : Ev none e 247 52 [some (.ref 633), some (.int k), some (.int i)] [] N4 v M' 0 0 := by rw [eN4]; exact H
    have H : Ev none e 247 27 [some (.ref 633), some (.int k), some (.int (i + 1))] [] N4 v M' 0 0 := Ev.back 2 (fun n => rfl) H
    have HF := H
    subst eN4
    exact Or.inr (⟨h1, b2, b3, HF⟩)
theorem las_0 {e : Nat} {M M' : Mem} {v : Option Value} (hS : SQ M) (H : Ev none e 153 0 [some (.ref 633), none] [] M v M' 0 0) : Ev none e 153 2 [some (.ref 633), some (.int 0)] [] M v M' 0 0 := by
  have H : Ev none e 153 2 [some (.ref 633), some (.int 0)] [] M v M' 0 0 := Ev.back 2 (fun n => rfl) H
  have HF := H
  exact HF
theorem las_2 {e : Nat} {M M' : Mem} {v : Option Value} {i : Int32} (hS : SQ M) (H : Ev none e 153 2 [some (.ref 633), some (.int i)] [] M v M' 0 0) : (2314 ≤ i ∧ v = none ∧ M' = M) ∨ (¬ (2314 ≤ i) ∧ (0 ≤ i.toInt ∧ i.toInt < 2314) ∧ (0 ≤ i.toInt ∧ i.toInt < 2314) ∧ Ev none e 153 2 [some (.ref 633), some (.int (i + 1))] [] (wI M 637 i.toNatClampNeg (rI M 635 i)) v M' 0 0) := by
  have H : Ev none e 153 (if 2314 ≤ i then 27 else 9) [some (.ref 633), some (.int i)] [] M v M' 0 0 := Ev.back 3 (fun n => rfl) H
  by_cases h1 : 2314 ≤ i
  · rw [if_pos h1] at H
    obtain ⟨z1, z2⟩ := Ev.retb (fun n => rfl) H
    exact Or.inl ⟨h1, z1, z2⟩
  · rw [if_neg h1] at H
    have H : Ev none e 153 10 [some (.ref 633), some (.int i)] [.ref 633] M v M' 0 0 := Ev.back 1 (fun n => rfl) H
    have H : Ev none e 153 13 [some (.ref 633), some (.int i)] [.ref 637] M v M' 0 0 := Ev.back 1 (gs_3 rfl rfl (gf_u hS.1 qa_633 qr_61_7 qu_65 rfl)) H
    have H : Ev none e 153 15 [some (.ref 633), some (.int i)] [.ref 633, .int i, .ref 637] M v M' 0 0 := Ev.back 2 (fun n => rfl) H
    have H : Ev none e 153 18 [some (.ref 633), some (.int i)] [.ref 635, .int i, .ref 637] M v M' 0 0 := Ev.back 1 (gs_3 rfl rfl (gf_u hS.1 qa_633 qr_61_5 qu_63 rfl)) H
    have H : Ev none e 153 19 [some (.ref 633), some (.int i)] [.int i, .ref 635, .int i, .ref 637] M v M' 0 0 := Ev.back 1 (fun n => rfl) H
    obtain ⟨b2, H⟩ := Ev.ial rfl rfl hS.1 qa_635 qw_63 H
    have H : Ev none e 153 20 [some (.ref 633), some (.int i)] [.int (rI M 635 i), .int i, .ref 637] M v M' 0 0 := H
    obtain ⟨b3, H⟩ := Ev.ias rfl rfl hS.1 qa_637 qw_65 H
    obtain ⟨N4, eN4⟩ : ∃ N, N = (wI M 637 i.toNatClampNeg (rI M 635 i)) := ⟨_, rfl⟩
    have hN4 : SQ N4 := by rw [eN4]; exact hS.ki
    have H : Ev none e 153 21 [some (.ref 633), some (.int i)] [] N4 v M' 0 0 := by rw [eN4]; exact H
    have H : Ev none e 153 2 [some (.ref 633), some (.int (i + 1))] [] N4 v M' 0 0 := Ev.back 2 (fun n => rfl) H
    have HF := H
    subst eN4
    exact Or.inr (⟨h1, b2, b3, HF⟩)
theorem lbk_0 {e : Nat} {M M' : Mem} {v : Option Value} (hS : SQ M) (H : Ev none e 154 0 [some (.ref 633), none] [] M v M' 0 0) : Ev none e 154 2 [some (.ref 633), some (.int 0)] [] M v M' 0 0 := by
  have H : Ev none e 154 2 [some (.ref 633), some (.int 0)] [] M v M' 0 0 := Ev.back 2 (fun n => rfl) H
  have HF := H
  exact HF
theorem lbk_2 {e : Nat} {M M' : Mem} {v : Option Value} {i : Int32} (hS : SQ M) (H : Ev none e 154 2 [some (.ref 633), some (.int i)] [] M v M' 0 0) : (2314 ≤ i ∧ v = none ∧ M' = M) ∨ (¬ (2314 ≤ i) ∧ (0 ≤ i.toInt ∧ i.toInt < 2314) ∧ (0 ≤ i.toInt ∧ i.toInt < 2314) ∧ Ev none e 154 2 [some (.ref 633), some (.int (i + 1))] [] (wI M 635 i.toNatClampNeg (rI M 637 i)) v M' 0 0) := by
  have H : Ev none e 154 (if 2314 ≤ i then 27 else 9) [some (.ref 633), some (.int i)] [] M v M' 0 0 := Ev.back 3 (fun n => rfl) H
  by_cases h1 : 2314 ≤ i
  · rw [if_pos h1] at H
    obtain ⟨z1, z2⟩ := Ev.retb (fun n => rfl) H
    exact Or.inl ⟨h1, z1, z2⟩
  · rw [if_neg h1] at H
    have H : Ev none e 154 10 [some (.ref 633), some (.int i)] [.ref 633] M v M' 0 0 := Ev.back 1 (fun n => rfl) H
    have H : Ev none e 154 13 [some (.ref 633), some (.int i)] [.ref 635] M v M' 0 0 := Ev.back 1 (gs_3 rfl rfl (gf_u hS.1 qa_633 qr_61_5 qu_63 rfl)) H
    have H : Ev none e 154 15 [some (.ref 633), some (.int i)] [.ref 633, .int i, .ref 635] M v M' 0 0 := Ev.back 2 (fun n => rfl) H
    have H : Ev none e 154 18 [some (.ref 633), some (.int i)] [.ref 637, .int i, .ref 635] M v M' 0 0 := Ev.back 1 (gs_3 rfl rfl (gf_u hS.1 qa_633 qr_61_7 qu_65 rfl)) H
    have H : Ev none e 154 19 [some (.ref 633), some (.int i)] [.int i, .ref 637, .int i, .ref 635] M v M' 0 0 := Ev.back 1 (fun n => rfl) H
    obtain ⟨b2, H⟩ := Ev.ial rfl rfl hS.1 qa_637 qw_65 H
    have H : Ev none e 154 20 [some (.ref 633), some (.int i)] [.int (rI M 637 i), .int i, .ref 635] M v M' 0 0 := H
    obtain ⟨b3, H⟩ := Ev.ias rfl rfl hS.1 qa_635 qw_63 H
    obtain ⟨N4, eN4⟩ : ∃ N, N = (wI M 635 i.toNatClampNeg (rI M 637 i)) := ⟨_, rfl⟩
    have hN4 : SQ N4 := by rw [eN4]; exact hS.ki
    have H : Ev none e 154 21 [some (.ref 633), some (.int i)] [] N4 v M' 0 0 := by rw [eN4]; exact H
    have H : Ev none e 154 2 [some (.ref 633), some (.int (i + 1))] [] N4 v M' 0 0 := Ev.back 2 (fun n => rfl) H
    have HF := H
    subst eN4
    exact Or.inr (⟨h1, b2, b3, HF⟩)
/-! THE REFERENCE'S calls on its park -/
section RCAL
variable {e B : Nat} {T : TS} {P Q : PK} {M M1 M' : Mem} {v : Option Value} {c k d x a b h ev fi t : Int32} {n i j : Nat} {ss : List Int32} {w dd : Int32} {f0 : Bool}
theorem RST.w0 (h : RST T P M) (j : Nat) (hj : j < 28 ∨ 31 ≤ j) (y : Int32) : RST T P (wF M 633 j y) := h.fz h.1.kf (FZ.wF (F := fun a k => a = 633 ∧ k = j) (W := noO) (O := noO) ⟨rfl, rfl⟩) (fun k k1 k2 q => by have := q.2; omega) (fun _ _ q => q)
theorem rda_l (h : RST T P M) (n9 : (P 2).toInt ≤ 9) : ∀ (n k : Nat) (kz : Int32), kz.toInt = (k : Int) → (k : Int) + (n : Int) = (P 2).toInt → Ev none e 157 2 [some (.ref 633), some (.int c), some (.int kz)] [] M v M' 0 0 → M' = M ∧ v = some (.int (bI (hdP P c n k))) := by
  have e2 : rI M 635 2 = P 2 := r_s h (n := 2) rfl (by decide)
  have t3 : (3 : Int32).toInt = 3 := rfl
  intro n
  induction n with
  | zero =>
    intro k kz hk hn H
    rcases rda_2 h.1 H with ⟨_, _, r1, r2⟩ | ⟨a1, _⟩ | ⟨a1, _⟩
    · exact ⟨r2, r1⟩
    all_goals exact absurd (Int32.le_iff_toInt_le.mpr (by rw [e2]; omega)) a1
  | succ n ih =>
    intro k kz hk hn H
    have e3 : (3 + kz).toInt = ((3 + k : Nat) : Int) := by rw [i32_add (by omega) (by omega)]; omega
    have er : rI M 635 (3 + kz) = P (3 + k) := r_s h e3 (by omega)
    unfold hdP
    rcases rda_2 h.1 H with ⟨a1, _⟩ | ⟨_, a2, _, _, r1, r2⟩ | ⟨_, a2, _, _, H⟩
    · have := Int32.le_iff_toInt_le.mp a1
      rw [e2] at this
      omega
    · rw [er] at a2
      rw [if_pos a2]
      exact ⟨r2, r1⟩
    · rw [er] at a2
      rw [if_neg a2]
      exact ih (k + 1) (kz + 1) (by rw [i32_p1 (by omega)]; omega) (by omega) H
theorem rda_ok (h : RST T P M) (hD : okD P) (H : Ev none e 157 0 [some (.ref 633), some (.int c), none] [] M v M' 0 0) : M' = M ∧ v = some (.int (bI (hasP P c))) := rda_l h hD.2.1.2.1 (P 2).toInt.toNat 0 0 rfl (by have := hD.2.1.1; omega) (rda_0 h.1 H)
theorem rwa_l (h : RST T P M) (n60 : (P 157).toInt ≤ 60) : ∀ (n k : Nat) (kz : Int32), kz.toInt = (k : Int) → (k : Int) + (n : Int) = (P 157).toInt → Ev none e 158 2 [some (.ref 633), some (.int c), some (.int kz)] [] M v M' 0 0 → M' = M ∧ v = some (.int (bI (wkrP P c n k))) := by
  have e2 : rI M 635 157 = P 157 := r_s h (n := 157) rfl (by decide)
  have t6 : (6 : Int32).toInt = 6 := rfl
  have t158 : (158 : Int32).toInt = 158 := rfl
  intro n
  induction n with
  | zero =>
    intro k kz hk hn H
    rcases rwa_2 h.1 H with ⟨_, _, r1, r2⟩ | ⟨a1, _⟩ | ⟨a1, _⟩
    · exact ⟨r2, r1⟩
    all_goals exact absurd (Int32.le_iff_toInt_le.mpr (by rw [e2]; omega)) a1
  | succ n ih =>
    intro k kz hk hn H
    have m6 : (6 * kz).toInt = 6 * kz.toInt := i32_mul (by rw [t6]; omega) (by rw [t6]; omega)
    have e3 : (158 + 6 * kz).toInt = ((158 + 6 * k : Nat) : Int) := by rw [i32_add (by omega) (by omega), m6]; omega
    have er : rI M 635 (158 + 6 * kz) = P (158 + 6 * k) := r_s h e3 (by omega)
    unfold wkrP
    rcases rwa_2 h.1 H with ⟨a1, _⟩ | ⟨_, a2, _, _, r1, r2⟩ | ⟨_, a2, _, _, H⟩
    · have := Int32.le_iff_toInt_le.mp a1
      rw [e2] at this
      omega
    · rw [er] at a2
      rw [if_pos a2]
      exact ⟨r2, r1⟩
    · rw [er] at a2
      rw [if_neg a2]
      exact ih (k + 1) (kz + 1) (by rw [i32_p1 (by omega)]; omega) (by omega) H
theorem rwa_ok (h : RST T P M) (hK : okK P) (H : Ev none e 158 0 [some (.ref 633), some (.int c), none] [] M v M' 0 0) : M' = M ∧ v = some (.int (bI (wthP P c))) := rwa_l h hK.2.1 (P 157).toInt.toNat 0 0 rfl (by have := hK.1; omega) (rwa_0 h.1 H)
theorem g140_R {lo hi : Int32} : G_140 M x lo hi = 0 ↔ ¬ inX x lo hi := g126_R (M := M)
theorem g145_ok (h : RST T P M) (hw : wh4 P) : G_145 M c = 0 ↔ ¬ inC P c := by
  obtain ⟨_, c256, c16⟩ := cls_int hw
  have hg := g144_ok h hw
  have e1 : (G_144 M - 1).toInt = (clsP P : Int) - 1 := by rw [i32_m1 (by omega)]; omega
  unfold G_145
  rw [g140_R]
  unfold inX inC
  have t0 : (0 : Int32).toInt = 0 := rfl
  rw [e1, t0]
  constructor
  · exact fun q r => q ⟨r.1, by omega⟩
  · exact fun q r => q ⟨r.1, by omega⟩
theorem g152_ok (h : RST T P M) (hD : okD P) : G_152 M d = 0 ↔ ¬ inD P d := by
  have e2 : rI M 635 2 = P 2 := r_s h (n := 2) rfl (by decide)
  have h0 := hD.2.1.1
  have e1 : (rI M 635 2 - 1).toInt = (P 2).toInt - 1 := by rw [e2, i32_m1 (by omega)]
  unfold G_152
  rw [g140_R]
  unfold inX inD
  have t0 : (0 : Int32).toInt = 0 := rfl
  rw [e1, t0]
  constructor
  · exact fun q r => q ⟨r.1, by omega⟩
  · exact fun q r => q ⟨r.1, by omega⟩
theorem g189_ok (h : RST T P M) (hD : okD P) : G_189 M k = 1 ↔ isW P k := by
  have e2 : rI M 635 12 = P 12 := r_s h (n := 12) rfl (by decide)
  have h0 := hD.2.2.1
  have h24 := hD.2.2.2.1
  have e1 : (rI M 635 12 - 1).toInt = (P 12).toInt - 1 := by rw [e2, i32_m1 (by omega)]
  have t0 : (0 : Int32).toInt = 0 := rfl
  have o : ¬ ((0 : Int32) = 1) := by decide
  unfold G_189 isW
  by_cases hin : G_140 M k 0 (rI M 635 12 - 1) = 0
  · rw [if_pos hin]
    rw [g140_R] at hin
    unfold inX at hin
    rw [e1, t0] at hin
    exact ⟨fun q => absurd q o, fun q => absurd ⟨q.1.1, by omega⟩ hin⟩
  · rw [if_neg hin]
    rw [g140_R, Classical.not_not] at hin
    unfold inX at hin
    rw [e1, t0] at hin
    have t6 : (6 : Int32).toInt = 6 := rfl
    have t13 : (13 : Int32).toInt = 13 := rfl
    have t5 : (5 : Int32).toInt = 5 := rfl
    have m6 : (6 * k).toInt = 6 * k.toInt := i32_mul (by rw [t6]; omega) (by rw [t6]; omega)
    have m13 : (13 + 6 * k).toInt = 13 + 6 * k.toInt := by rw [i32_add (by omega) (by omega), m6]; omega
    have e3 : (13 + 6 * k + 5).toInt = ((13 + 6 * k.toInt.toNat + 5 : Nat) : Int) := by rw [i32_add (by omega) (by omega), m13]; omega
    rw [r_s h e3 (by omega)]
    by_cases h5 : P (13 + 6 * k.toInt.toNat + 5) = 1
    · rw [if_pos h5]
      exact ⟨fun _ => ⟨⟨hin.1, by omega⟩, h5⟩, fun _ => rfl⟩
    · rw [if_neg h5]
      exact ⟨fun q => absurd q o, fun q => absurd q.2 h5⟩
theorem rdoor_ok (h : RST T P M) (hD : okD P) (H : Ev none e 156 0 [some (.ref 633), some (.int c)] [] M v M' 0 0) : (dorN P c ∧ v = some (.int (-1)) ∧ RST T P M') ∨ (¬ dorN P c ∧ v = some (.int (P 2)) ∧ RST T (dorP P c) M') := by
  have hw := hD.1
  have e2 : rI M 635 2 = P 2 := r_s h (n := 2) rfl (by decide)
  have h0 := h.w0 0 (by decide) 0
  unfold dorN
  rcases rdo_0 h.1 H with ⟨a1, _, r1, r2⟩ | ⟨_, a1, _, r1, r2⟩ | ⟨_, a0, a1, _, r1, r2⟩ | ⟨a1, a2, a3, _, e1, v1, M1, rfl, H1, H⟩
  · rw [e2] at a1
    exact Or.inl ⟨Or.inl a1, r1, r2 ▸ h0⟩
  · rw [g145_ok h0 hw] at a1
    exact Or.inl ⟨Or.inr (Or.inl a1), r1, r2 ▸ h0⟩
  · rw [g145_ok h0 hw, Classical.not_not] at a0
    rw [g148_ok h0 hw a0, bI_0] at a1
    exact Or.inl ⟨Or.inr (Or.inr (Or.inl a1)), r1, r2 ▸ h0⟩
  · rw [e2] at a1
    rw [g145_ok h0 hw, Classical.not_not] at a2
    rw [g148_ok h0 hw a2, bI_0] at a3
    obtain ⟨rfl, rfl⟩ := rda_ok h0 hD H1
    have e2' : rI (wF M 633 0 0) 635 2 = P 2 := r_s h0 (n := 2) rfl (by decide)
    have b0 := hD.2.1.1
    have b9 := hD.2.1.2.1
    have t9 : (9 : Int32).toInt = 9 := rfl
    have n9 : (P 2).toInt ≠ 9 := fun q => a1 (Int32.toInt_inj.mp (q.trans t9.symm))
    rcases rdo_37 h0.1 H with ⟨a4, _, _, _, _, _, r1, r2⟩ | ⟨a4, r1, r2⟩
    · rw [bI_0] at a4
      have t3 : (3 : Int32).toInt = 3 := rfl
      have ix : (3 + rI (wF M 633 0 0) 635 2).toNatClampNeg = 3 + (P 2).toInt.toNat := cl_n (by rw [e2', i32_add (by omega) (by omega)]; omega)
      have i2 : (2 : Int32).toNatClampNeg = 2 := rfl
      rw [ix, i2] at r1 r2
      have u1 := h0.up (i := 3 + (P 2).toInt.toNat) (by omega) (x := c)
      have e2u : rI (wI (wF M 633 0 0) 635 (3 + (P 2).toInt.toNat) c) 635 2 = P 2 := (r_s u1 (n := 2) rfl (by decide)).trans (up_ne (by omega))
      rw [e2u] at r1 r2
      have u2 := u1.up (i := 2) (by decide) (x := P 2 + 1)
      have e2v : rI (wI (wI (wF M 633 0 0) 635 (3 + (P 2).toInt.toNat) c) 635 2 (P 2 + 1)) 635 2 = P 2 + 1 := (r_s u2 (n := 2) rfl (by decide)).trans up_eq
      rw [e2v] at r1
      refine Or.inr ⟨fun q => ?_, ?_, r2 ▸ u2⟩
      · rcases q with q | q | q | q
        · exact a1 q
        · exact q a2
        · exact a3 q
        · rw [a4] at q; cases q
      · rw [r1]
        have : P 2 + 1 - 1 = P 2 := by grind
        rw [this]
    · rw [bI_0, Bool.not_eq_false] at a4
      exact Or.inl ⟨Or.inr (Or.inr (Or.inr a4)), r1, r2 ▸ h0⟩
theorem rdrop_ok (h : RST T P M) (hD : okD P) (H : Ev none e 191 0 [some (.ref 633), some (.int k)] [] M v M' 0 0) : (¬ isW P k ∧ v = some (.int 0) ∧ RST T P M') ∨ (isW P k ∧ v = some (.int 1) ∧ RST T (drpP P k) M') := by
  have h0 := h.w0 0 (by decide) 0
  have o : ¬ ((0 : Int32) = 1) := by decide
  have b24 := hD.2.2.2.1
  rcases rdr_0 h.1 H with ⟨a1, r1, r2⟩ | ⟨a1, _, r1, r2⟩
  · exact Or.inl ⟨fun q => by rw [← g189_ok h0 hD, a1] at q; exact o q, r1, r2 ▸ h0⟩
  · have hW : isW P k := by
      rw [← g189_ok h0 hD]
      unfold G_189 at a1 ⊢
      split at a1
      · exact absurd rfl a1
      · rename_i q
        rw [if_neg q]
        split at a1
        · rename_i q2
          rw [if_pos q2]
        · exact absurd rfl a1
    have hW0 := hW
    obtain ⟨⟨k0, k1⟩, _⟩ := hW0
    have t6 : (6 : Int32).toInt = 6 := rfl
    have t13 : (13 : Int32).toInt = 13 := rfl
    have t5 : (5 : Int32).toInt = 5 := rfl
    have m6 : (6 * k).toInt = 6 * k.toInt := i32_mul (by rw [t6]; omega) (by rw [t6]; omega)
    have m13 : (13 + 6 * k).toInt = 13 + 6 * k.toInt := by rw [i32_add (by omega) (by omega), m6]; omega
    have ix : (13 + 6 * k + 5).toNatClampNeg = 13 + 6 * k.toInt.toNat + 5 := cl_n (by rw [i32_add (by omega) (by omega), m13]; omega)
    rw [ix] at r2
    exact Or.inr ⟨hW, r1, r2 ▸ h0.up (by omega)⟩
end RCAL
/-! THE REFERENCE'S run, week -/
section RRUN
variable {e : Nat} {T : TS} {P P' Q : PK} {M M1 M' : Mem} {v : Option Value} {c d t : Int32} {w dd : Int32} {f0 : Bool} {n k B : Nat}
theorem lea_hi {R : PK} {k : Nat} (h0 : 0 ≤ (R 157).toInt) (h60 : (R 157).toInt ≤ 60) {j : Nat} (hj : j < 157 ∨ 518 ≤ j) : leaP R k j = R j := by
  have hm : (R 157 - 1).toInt = (R 157).toInt - 1 := i32_m1 (by omega)
  unfold leaP
  rw [if_neg (by omega), if_neg (by rw [hm]; omega), if_neg (by rw [hm]; omega)]
theorem wlk_518 : ∀ (r k : Nat) (P : PK) (ss : List Int32), okD P → okK P → (k : Int) + (r : Int) = (P 157).toInt → (wlkP T r k (P, ss)).1 518 = P 518 ∧ okK (wlkP T r k (P, ss)).1 ∧ ∀ j, j < 157 → (wlkP T r k (P, ss)).1 j = P j := by
  intro r
  induction r with
  | zero => intro k P ss _ hK _; exact ⟨rfl, hK, fun _ _ => rfl⟩
  | succ r ih =>
    intro k P ss hD hK hn
    have h60 := hK.2.1
    have hkn : k < (P 157).toInt.toNat := by omega
    obtain ⟨R, eR⟩ : ∃ R, R = goeP T (P, ss) k := ⟨_, rfl⟩
    have hlo : ∀ j, (j < 158 ∨ j = 518 ∨ j = 521) → R.1.1 j = P j := by rw [eR]; exact goe_lo hK hkn
    have hK2 : okK R.1.1 := by rw [eR]; exact goe_K hD hK hkn
    have hD2 : okD R.1.1 := hD.sb (fun j hj => hlo j (by omega))
    have h157' : R.1.1 157 = P 157 := hlo 157 (by omega)
    have hw : wlkP T (r + 1) k (P, ss) = (if R.2 = true then wlkP T r (k + 1) R.1 else wlkP T r k (leaP R.1.1 k, R.1.2)) := by rw [eR]; rfl
    rw [hw]
    by_cases hb : R.2 = true
    · rw [if_pos hb]
      obtain ⟨u1, u2, u3⟩ := ih (k + 1) R.1.1 R.1.2 hD2 hK2 (by rw [h157']; omega)
      exact ⟨u1.trans (hlo 518 (by omega)), u2, fun j hj => (u3 j hj).trans (hlo j (by omega))⟩
    · rw [if_neg hb]
      have q : ∀ j, (j < 157 ∨ 518 ≤ j) → leaP R.1.1 k j = R.1.1 j := fun j hj => lea_hi hK2.1 hK2.2.1 hj
      have hl157 : leaP R.1.1 k 157 = R.1.1 157 - 1 := by unfold leaP; rw [if_pos rfl]
      have hm : (R.1.1 157 - 1).toInt = (R.1.1 157).toInt - 1 := i32_m1 (by rw [h157']; omega)
      obtain ⟨u1, u2, u3⟩ := ih k (leaP R.1.1 k) R.1.2 (hD2.sb (fun j hj => q j (Or.inl hj))) (hK2.lea (by rw [h157']; exact hkn)) (by rw [hl157, hm, h157']; omega)
      exact ⟨u1.trans ((q 518 (by omega)).trans (hlo 518 (by omega))), u2, fun j hj => (u3 j hj).trans ((q j (Or.inl hj)).trans (hlo j (by omega)))⟩
theorem beg_K : ∀ (n k : Nat) (P : PK), okD P → okK P → (k : Int) + (n : Int) = (P 12).toInt → okK (begP n k P) := by
  intro n
  induction n with
  | zero => intro k P _ hK _; exact hK
  | succ n ih =>
    intro k P hD hK hn
    have hkn : k < (P 12).toInt.toNat := by omega
    unfold begP
    split
    · split
      · exact ih (k + 1) _ (hD.sb (fun j hj => up_ne (by omega))) (hK.far (fun j hj => up_ne (by omega))) (by rw [up_ne (by decide)]; omega)
      · rename_i hm
        have hK' := hK.new hD hkn hm
        have q : ∀ j, j < 157 → newP P k j = P j := fun j hj => by
          unfold newP
          rw [up_ne (by omega), up_ne (by omega), up_ne (by omega), up_ne (by omega), up_ne (by omega), up_ne (by omega)]
        exact ih (k + 1) _ (hD.sb q) hK' (by rw [q 12 (by decide)]; omega)
    · exact ih (k + 1) P hD hK (by omega)
theorem tck_518 {ss : List Int32} (hD : okD P) (hK : okK P) : (tckP T (P, ss)).1 518 = P 518 + 1 := by
  have h12 := hD.2.2.1
  have bk := beg_keep (P 12).toInt.toNat 0 P hK.1 hK.2.1
  have hK1 : okK (bg0P P) := beg_K (P 12).toInt.toNat 0 P hD hK (by omega)
  have hD1 : okD (bg0P P) := hD.sb (fun j hj => bk j (Or.inl hj))
  have q := (wlk_518 (T := T) (bg0P P 157).toInt.toNat 0 (bg0P P) ss hD1 hK1 (by have := hK1.1; omega)).1
  unfold tckP
  dsimp only
  rw [up_eq, q]
  exact congrArg (· + 1) (bk 518 (by omega))
theorem tck_keep {p : PS} (hD : okD p.1) (hK : okK p.1) : okD (tckP T p).1 ∧ okK (tckP T p).1 := by
  obtain ⟨P, ss⟩ := p
  have hD : okD P := hD
  have hK : okK P := hK
  have h12 := hD.2.2.1
  have bk := beg_keep (P 12).toInt.toNat 0 P hK.1 hK.2.1
  have hK1 : okK (bg0P P) := beg_K (P 12).toInt.toNat 0 P hD hK (by omega)
  have hD1 : okD (bg0P P) := hD.sb (fun j hj => bk j (Or.inl hj))
  obtain ⟨_, q2, q3⟩ := wlk_518 (T := T) (bg0P P 157).toInt.toNat 0 (bg0P P) ss hD1 hK1 (by have := hK1.1; omega)
  unfold tckP
  dsimp only
  exact ⟨(hD1.sb q3).sb (fun j hj => up_ne (by omega)), q2.far (fun j hj => up_ne (by omega))⟩
theorem rrun_l : ∀ (r k : Nat) (iz : Int32) (P : PK) (ss : List Int32) (M : Mem), RST T P M → okD P → okK P → WFr w f0 ss M → ARn dd P M → iz.toInt = (k : Int) → t.toInt = (k : Int) + (r : Int) → Ev none e 207 41 [some (.ref 633), some (.int t), some (.int iz)] [] M v M' 0 0 → v = some (.int ((tksP T r (P, ss)).1 519 + dd)) ∧ RST T (tksP T r (P, ss)).1 M' ∧ okD (tksP T r (P, ss)).1 ∧ okK (tksP T r (P, ss)).1 ∧ FZ rkF rkW noO M M' ∧ WFr w f0 (tksP T r (P, ss)).2 M' ∧ ∀ j, j < 157 → (tksP T r (P, ss)).1 j = P j := by
  intro r
  induction r with
  | zero =>
    intro k iz P ss M hR hD hK hf ha hk hn H
    rcases rrn_41 hR.1 H with ⟨_, r1, r2⟩ | ⟨a1, _⟩
    · rw [show zI M 633 41 = P 519 + dd from ha] at r1
      rw [r2]
      exact ⟨r1, hR, hD, hK, FZ.refl _, hf, fun _ _ => rfl⟩
    · exact absurd (Int32.le_iff_toInt_le.mpr (by omega)) a1
  | succ r ih =>
    intro k iz P ss M hR hD hK hf ha hk hn H
    have ub := i32_any t
    rcases rrn_41 hR.1 H with ⟨a1, _⟩ | ⟨_, e1, v1, M1, _, H1, H⟩
    · have := Int32.le_iff_toInt_le.mp a1
      omega
    · obtain ⟨rv, q2, q3, q4, q5, q6, q7, q8⟩ := rtick_ok hR hD hK hf ha H1
      rw [rv] at H
      have H := rrn_50 q2.1 H
      obtain ⟨s1, s2, s3, s4, s5, s6, s7⟩ := ih (k + 1) (iz + 1) (tckP T (P, ss)).1 (tckP T (P, ss)).2 M1 q2 q3 q4 q6 q7 (by rw [i32_p1 (by omega)]; omega) (by omega) H
      exact ⟨s1, s2, s3, s4, q5.trans s5, s6, fun j hj => (s7 j hj).trans (q8 j hj)⟩
theorem tks_518 : ∀ (r : Nat) (P : PK) (ss : List Int32), okD P → okK P → (∀ p : PS, okD p.1 → okK p.1 → okD (tckP T p).1 ∧ okK (tckP T p).1) → ((P 518).toInt + r ≤ 100000) → 0 ≤ (P 518).toInt → ((tksP T r (P, ss)).1 518).toInt = (P 518).toInt + r := by
  intro r
  induction r with
  | zero =>
    intro P ss _ _ _ _ _
    show (P 518).toInt = _
    omega
  | succ r ih =>
    intro P ss hD hK hc h1 h0
    obtain ⟨d1, k1⟩ := hc (P, ss) hD hK
    have q : ((tckP T (P, ss)).1 518).toInt = (P 518).toInt + 1 := by rw [tck_518 hD hK]; exact i32_p1 (by omega)
    have := ih (tckP T (P, ss)).1 (tckP T (P, ss)).2 d1 k1 hc (by omega) (by omega)
    show ((tksP T r (tckP T (P, ss))).1 518).toInt = _
    rw [this]
    omega
theorem rrun_ok (hR : RST T P M) (hD : okD P) (hK : okK P) (ht : 0 ≤ (P 518).toInt ∧ (P 518).toInt ≤ 60000) (h42 : ∃ b, zI M 633 42 = bI b) (H : Ev none e 207 0 [some (.ref 633), some (.int t), none] [] M v M' 0 0) : (runN P t ∧ v = some (.int (-1)) ∧ RST T P M') ∨ (¬ runN P t ∧ v = some (.int (runP T P t 519 - P 519)) ∧ RST T (runP T P t) M' ∧ okD (runP T P t) ∧ okK (runP T P t)) := by
  have h0 := hR.w0 0 (by decide) 0
  have e518 : rI M 635 518 = P 518 := r_s hR (n := 518) rfl (by decide)
  have t1 : (1 : Int32).toInt = 1 := rfl
  have t400 : (400 : Int32).toInt = 400 := rfl
  have tl : (60000 : Int32).toInt = 60000 := rfl
  unfold runN
  rcases rrn_0 hR.1 H with ⟨a1, r1, r2⟩ | ⟨a1, a2, _, H⟩ | ⟨a1, a2, _, r1, r2⟩
  · rw [g140_R] at a1
    exact Or.inl ⟨Or.inl a1, r1, r2 ▸ h0⟩
  · rw [g140_R, Classical.not_not] at a1
    unfold inX at a1
    rw [e518] at a2
    have hs : (P 518 + t).toInt = (P 518).toInt + t.toInt := i32_add (by omega) (by omega)
    have a2 := Int32.le_iff_toInt_le.mp a2
    obtain ⟨b, hb⟩ := h42
    have h1 := h0.w0 41 (by decide) 0
    have hf : WFr (zI M 633 40) b [] (wF (wF M 633 0 0) 633 41 0) := by
      refine ⟨?_, ?_⟩
      · rw [fI_wF_ne (by decide), fI_wF_ne (by decide)]
      · rw [fI_wF_ne (by decide), fI_wF_ne (by decide), hb, decide_eq_false (by simp), Bool.or_false]
    have ha : ARn (-(P 519)) P (wF (wF M 633 0 0) 633 41 0) := by
      unfold ARn
      rw [fI_wF_eq hR.1.kf.1 qa_633 qi_61_41]
      grind
    obtain ⟨s1, s2, s3, s4, _⟩ := rrun_l t.toInt.toNat 0 0 P [] _ h1 hD hK hf ha rfl (by omega) H
    refine Or.inr ⟨fun q => ?_, ?_, s2, s3, s4⟩
    · unfold inX at q
      omega
    · rw [s1]
      have : (tksP T t.toInt.toNat (P, [])).1 519 + -(P 519) = runP T P t 519 - P 519 := by unfold runP; grind
      rw [this]
  · rw [g140_R, Classical.not_not] at a1
    unfold inX at a1
    rw [e518] at a2
    have hs : (P 518 + t).toInt = (P 518).toInt + t.toInt := i32_add (by omega) (by omega)
    have a2 : ¬ (P 518).toInt + t.toInt ≤ 60000 := fun q => a2 (Int32.le_iff_toInt_le.mpr (by omega))
    exact Or.inl ⟨Or.inr (by omega), r1, r2 ▸ h0⟩
theorem wka_lo {g : TQ} : ∀ (n : Nat) (c : Int32) (P : PK) (j : Nat), j < 522 → wkaP g n c P j = P j := by
  intro n
  induction n with
  | zero => intro c P j _; rfl
  | succ n ih =>
    intro c P j hj
    unfold wkaP
    exact (ih (c + 1) _ j hj).trans (wk1_lo hj)
theorem wek_lo {g : TQ} (hw : wh4 P) : ∀ j, j < 522 → wekP g P j = P j := fun j hj => by
  obtain ⟨_, c256, _⟩ := cls_int hw
  have t0 : (0 : Int32).toInt = 0 := rfl
  exact ((zer_E (f := 5) (by decide) (clsP P) 0 (wkaP g (clsP P) 0 P) (by decide) (by omega)).2 j hj).trans (wka_lo _ _ _ j hj)
theorem rweek_ok (hR : RST T P M) (hD : okD P) (H : Ev none e 209 0 [some (.ref 633)] [] M v M' 0 0) : v = some (.int (nwP (T 0) (wekP (T 0) P))) ∧ RST T (wekP (T 0) P) M' := by
  obtain ⟨e1, v1, M1, _, H1, H⟩ := rwq_0 hR.1 H
  have h0 := hR.w0 0 (by decide) 0
  obtain ⟨rv, q2, _, _⟩ := rwek_ok h0 hD.1 H1
  rw [rv] at H
  obtain ⟨e2, v2, M2, _, H2, H⟩ := rwq_9 q2.1 H
  have lo : ∀ j, j < 522 → wekP (T 0) P j = P j := wek_lo hD.1
  have hw : wh4 (wekP (T 0) P) := hD.1.eq (lo 0 (by decide)) (lo 1 (by decide))
  obtain ⟨rm, rv2⟩ := rwmn_ok q2 hw H2
  rw [rv2, rm] at H
  obtain ⟨s1, s2⟩ := rwq_13 q2.1 H
  exact ⟨s1, s2 ▸ q2⟩
end RRUN
/-! THE CLASS'S run, week -/
section CRUN
variable {e B L : Nat} {T : TS} {P P' Q : PK} {PI : Nat → PK} {M M1 M' : Mem} {v : Option Value} {c k d x t : Int32} {n i j : Nat} {F : Nat → Nat → Prop} {W O : Nat → Prop}
/-- walking on the live land -/
theorem CST.wlk (h : CST T P PI M) (hF : FZ F W O M M') (fF : ∀ a k, F a k → (8 ≤ a ∧ a < 104) ∨ (a = 104 ∧ 7 ≤ k) ∨ a = 105) (fW : ∀ a, W a → (9 ≤ a ∧ a ≤ 17) ∨ (106 ≤ a ∧ a ≤ 108) ∨ a = 128 ∨ (130 ≤ a ∧ a ≤ 136)) (fO : ∀ a, O a → a = 19) (hG : GRI M') (hX : STA 8 T Q M') (hl : LST 8 Q M') (ok : okA Q) : CST T Q PI M' := by
  obtain ⟨a1, ⟨a2, a3, a4⟩, a5, a6, a7, a8, ⟨a9, a10⟩, a11⟩ := h
  have nf : ∀ a k, 137 ≤ a → ¬ F a k := fun a k ha q => by have := fF a k q; omega
  have nw : ∀ a, 137 ≤ a → ¬ W a := fun a ha q => by have := fW a q; omega
  have no : ∀ a, a ≠ 19 → ¬ O a := fun a ha q => ha (fO a q)
  refine ⟨hX.sq, ⟨(hF.fr (fun q => by have := fF _ _ q; omega)).trans a2, (hF.fr (fun q => by have := fF _ _ q; omega)).trans a3, fun k hk => (hF.on (no _ (by decide))).trans (a4 k hk)⟩, ⟨hX.1.2.2.2.2.2.1, hX.1.2.2.2.2.2.2.1⟩, hX.1.2.2.2.1, hG, fun L hL => ?_, ⟨ok, hX.lan hl⟩, fun k hk hr => ?_⟩
  · by_cases hL8 : L = 8
    · subst hL8
      exact ⟨hX.2.2.2.2.1, hX.2.2.2.2.2.1⟩
    · have hc := ld_cases hL
      exact ⟨fun k hk => (hF.on (no _ (by omega))).trans ((a8 L hL).1 k hk), (a8 L hL).2.on (fun j => hF.on (no _ (by omega)))⟩
  · have er : rN M' 340 k = rN M 340 k := hF.rn (nw _ (by decide))
    rw [er] at hr
    obtain ⟨b1, b2⟩ := a11 k hk hr
    have hi := lnd_im k hk
    exact ⟨b1, b2.fz hF (fun a k q1 q2 => nf _ _ (by unfold imgA at q1; omega)) (fun a q1 q2 => nw _ (by unfold imgA at q1; omega)) (no _ (by unfold imgA; omega)) (a8 _ hi).2 b1.n24 b1.k60⟩
theorem centr_ok (h : CST T P PI M) (H : Ev none e 54 0 [some (.ref 104), some (.ref 8)] [] M v M' 0 0) : v = none ∧ STA 8 T P M' ∧ LST 8 P M' ∧ FZ enF enW noO M M' ∧ GRI M' ∧ WFl (-1) [] M' := by
  have hD := h.ok.1
  obtain ⟨r1, r2, r3, r4, r5, _, _, r6⟩ := enter_ok h.sq lnd_8 hD.1 h.ok.2.2.2.nn h.2.2.2.2.1 h.2.2.2.1 h.2.2.1 h.lan h.wx h.wk h.ok.n24 h.ok.k60 H
  exact ⟨r1, r2, r3, r4, r5, r6⟩
theorem gof_tks {w : Int32} : ∀ (r : Nat) (p : PS), ¬ w ∈ (gofP T w r p).2 → gofP T w r p = tksP T r p := by
  intro r
  induction r with
  | zero => intro p _; rfl
  | succ r ih =>
    intro p h
    by_cases hw : w ∈ p.2
    · have e : gofP T w (r + 1) p = p := if_pos hw
      rw [e] at h
      exact absurd hw h
    · have e : gofP T w (r + 1) p = gofP T w r (tckP T p) := if_neg hw
      rw [e] at h ⊢
      exact ih _ h
theorem run_ok (h : CST T P PI M) (H : Ev none e 91 0 [some (.ref 0), some (.int t)] [] M v M' 0 0) : (runN P t ∧ v = some (.int (-1)) ∧ M' = M) ∨ (¬ runN P t ∧ v = some (.int (runP T P t 519 - P 519)) ∧ CST T (runP T P t) PI M') := by
  have hS := h.sq
  have hA := h.lan
  obtain ⟨hD, hK, ⟨q0, q6⟩, hE⟩ := h.ok
  have z16 : zI M 8 16 = P 518 := hA.2.1.1
  have t1 : (1 : Int32).toInt = 1 := rfl
  have t400 : (400 : Int32).toInt = 400 := rfl
  have tl : (60000 : Int32).toInt = 60000 := rfl
  unfold runN
  rcases rnn_0 hS h.ld H with ⟨a1, r1, r2⟩ | ⟨a1, a2, e1, v1, M1, _, H1, H⟩ | ⟨a1, a2, r1, r2⟩
  · rw [g126_R] at a1
    exact Or.inl ⟨Or.inl a1, r1, r2⟩
  · rw [g126_R, Classical.not_not] at a1
    unfold inX at a1
    rw [z16] at a2
    have hs : (P 518 + t).toInt = (P 518).toInt + t.toInt := i32_add (by omega) (by omega)
    have a2 := Int32.le_iff_toInt_le.mp a2
    obtain ⟨rv1, b2, b3, b4, b5, b6⟩ := centr_ok h H1
    rw [rv1] at H
    obtain ⟨e2, v2, M2, _, H2, H⟩ := rnn_38 b2.sq H
    obtain ⟨P6, ss6, g1, rv2, s1, s2, s3, s4, s5, s6, s7, s8, s9⟩ := gow_ok b2 hD hK hE (r := t.toInt.toNat) (by omega) b3 b6 (by omega) H2
    rw [rv2] at H
    obtain ⟨u1, u2⟩ := rnn_46 s1.sq H
    have hn : ¬ (-1 : Int32) ∈ (gofP T (-1) t.toInt.toNat (P, [])).2 := by
      rw [g1]
      intro q
      rcases s9 _ q with q | q
      · cases q
      · exact absurd q.1 (by decide)
    have hr : runP T P t = P6 := by
      unfold runP
      rw [← gof_tks _ _ hn, g1]
    have h518 : (P6 518).toInt = (P 518).toInt + t.toInt := by
      rw [← hr]
      unfold runP
      rw [tks_518 t.toInt.toNat P [] hD hK (fun p d1 k1 => tck_keep d1 k1) (by omega) q0]
      omega
    have ok : okA P6 := ⟨s2, s3, ⟨by omega, by omega⟩, s4.more (by omega)⟩
    rw [hr]
    refine Or.inr ⟨fun q => ?_, u1, ?_⟩
    · unfold inX at q
      omega
    · rw [u2]
      refine h.wlk ((b4.more (G := fun a k => enF a k ∨ gwF 8 a k) (V := fun a => enW a ∨ gwW 8 a) (U := gwO 8) (fun _ _ q => Or.inl q) (fun _ q => Or.inl q) (fun _ q => q.elim)).trans (s7.more (fun _ _ q => Or.inr q) (fun _ q => Or.inr q) (fun _ q => q))) ?_ ?_ ?_ (b5.fz s7 ?_ ?_ ?_) s1 s5 ok
      · intro a k q
        unfold enF shgF gwF at q
        omega
      · intro a q
        unfold enW shgW gwW lkW at q
        omega
      · intro a q
        unfold gwO at q
        omega
      · unfold gwF; omega
      · unfold gwF; omega
      · intro a h1 h2
        unfold gwW lkW
        omega
  · rw [g126_R, Classical.not_not] at a1
    unfold inX at a1
    rw [z16] at a2
    have hs : (P 518 + t).toInt = (P 518).toInt + t.toInt := i32_add (by omega) (by omega)
    have a2 : ¬ (P 518).toInt + t.toInt ≤ 60000 := fun q => a2 (Int32.le_iff_toInt_le.mpr (by omega))
    exact Or.inl ⟨Or.inr (by omega), r1, r2⟩
theorem week_ok (h : CST T P PI M) (H : Ev none e 92 0 [some (.ref 0)] [] M v M' 0 0) : v = some (.int (nwP (T 0) (wekP (T 0) P))) ∧ CST T (wekP (T 0) P) PI M' := by
  have hS := h.sq
  have hA := h.lan
  obtain ⟨hD, hK, ⟨q0, q6⟩, hE⟩ := h.ok
  obtain ⟨e1, v1, M1, _, H1, H⟩ := wkk_0 hS h.ld H
  obtain ⟨rv1, b2, b3, b4, b5, b6⟩ := centr_ok h H1
  rw [rv1] at H
  obtain ⟨e2, v2, M2, _, H2, H⟩ := wkk_11 b2.sq H
  obtain ⟨rv2, s1, s2, s3, s4, s5, s6, s7, s8⟩ := ewk_ok b2 hD hK hE b3 H2
  rw [rv2] at H
  obtain ⟨e3, v3, M3, _, H3, H⟩ := wkk_18 s1.sq H
  obtain ⟨rm, rv3⟩ := wcl_ok s1.1 s1.2.2.1.1 s1.2.2.1.2.1 H3
  rw [rv3, rm] at H
  obtain ⟨u1, u2⟩ := wkk_25 s1.sq H
  have e518 := s8 518 (by decide)
  have ok : okA (wekP (T 0) P) := ⟨s2, s3, by rw [e518]; exact ⟨q0, q6⟩, by rw [e518]; exact s4⟩
  refine ⟨u1, ?_⟩
  rw [u2]
  refine h.wlk ((b4.more (G := fun a k => enF a k ∨ gwF 8 a k) (V := fun a => enW a ∨ gwW 8 a) (U := gwO 8) (fun _ _ q => Or.inl q) (fun _ q => Or.inl q) (fun _ q => q.elim)).trans (s6.more (fun _ _ q => Or.inr q) (fun _ q => Or.inr q) (fun _ q => q))) ?_ ?_ ?_ (b5.fz s6 ?_ ?_ ?_) s1 s5 ok
  · intro a k q
    unfold enF shgF gwF at q
    omega
  · intro a q
    unfold enW shgW gwW lkW at q
    omega
  · intro a q
    unfold gwO at q
    omega
  · unfold gwF; omega
  · unfold gwF; omega
  · intro a h1 h2
    unfold gwW lkW
    omega
end CRUN
/-! THE REFERENCE'S wish, rain, snow, lay, image, restore, layAside, layBack -/
section RWIS
variable {e B : Nat} {T : TS} {P P' Q : PK} {PI : Nat → PK} {M M0 M1 M' : Mem} {v : Option Value} {c k d x a b h ev fi t : Int32} {n i j : Nat}
theorem i32_f (i : Int32) (n : Nat) (hi : i.toInt = (n : Int)) (f : Int32) (g : Nat) (hf : f.toInt = (g : Int)) (hn : n + g < 100000) : (i + f).toInt = ((n + g : Nat) : Int) := by
  rw [i32_add (by omega) (by omega), hi, hf]
  omega
theorem rwish_ok (hR : RST T P M) (hD : okD P) (H : Ev none e 190 0 [some (.ref 633), some (.int a), some (.int b), some (.int h), some (.int ev), some (.int fi), none] [] M v M' 0 0) : (wisN P a b h ev fi ∧ v = some (.int (-1)) ∧ RST T P M') ∨ (¬ wisN P a b h ev fi ∧ v = some (.int (P 12)) ∧ RST T (wisP P a b h ev fi) M') := by
  have e12 : rI M 635 12 = P 12 := r_s hR (n := 12) rfl (by decide)
  have h0 := hR.w0 0 (by decide) 0
  have b0 := hD.2.2.1
  have b24 := hD.2.2.2.1
  unfold wisN
  rcases rwi_0 hR.1 H with ⟨a1, _, r1, r2⟩ | ⟨_, a1, _, r1, r2⟩ | ⟨_, _, a1, _, r1, r2⟩ | ⟨_, _, _, a1, _, r1, r2⟩ | ⟨_, _, _, _, a1, _, r1, r2⟩ | ⟨_, _, _, _, _, a1, _, r1, r2⟩ | ⟨_, _, _, _, _, _, a1, _, r1, r2⟩ | ⟨a1, a2, a3, a4, a5, a6, a7, _, _, H⟩
  · rw [e12] at a1
    exact Or.inl ⟨Or.inl a1, r1, r2 ▸ h0⟩
  · rw [g152_ok h0 hD] at a1
    exact Or.inl ⟨Or.inr (Or.inl a1), r1, r2 ▸ h0⟩
  · rw [g152_ok h0 hD] at a1
    exact Or.inl ⟨Or.inr (Or.inr (Or.inl a1)), r1, r2 ▸ h0⟩
  · exact Or.inl ⟨Or.inr (Or.inr (Or.inr (Or.inl a1))), r1, r2 ▸ h0⟩
  · rw [g140_R] at a1
    exact Or.inl ⟨Or.inr (Or.inr (Or.inr (Or.inr (Or.inl a1)))), r1, r2 ▸ h0⟩
  · rw [g140_R] at a1
    exact Or.inl ⟨Or.inr (Or.inr (Or.inr (Or.inr (Or.inr (Or.inl a1))))), r1, r2 ▸ h0⟩
  · rw [g140_R] at a1
    exact Or.inl ⟨Or.inr (Or.inr (Or.inr (Or.inr (Or.inr (Or.inr a1))))), r1, r2 ▸ h0⟩
  · rw [e12] at a1 H
    rw [g152_ok h0 hD, Classical.not_not] at a2 a3
    rw [g140_R, Classical.not_not] at a5 a6 a7
    have t24 : (24 : Int32).toInt = 24 := rfl
    have n24 : (P 12).toInt ≠ 24 := fun q => a1 (Int32.toInt_inj.mp (q.trans t24.symm))
    obtain ⟨m, em⟩ : ∃ m, m = (P 12).toInt.toNat := ⟨_, rfl⟩
    have t6 : (6 : Int32).toInt = 6 := rfl
    have t13 : (13 : Int32).toInt = 13 := rfl
    have m6 : (6 * P 12).toInt = 6 * (P 12).toInt := i32_mul (by rw [t6]; omega) (by rw [t6]; omega)
    have x0 : (13 + 6 * P 12).toInt = ((13 + 6 * m : Nat) : Int) := by rw [i32_add (by omega) (by omega), m6]; omega
    obtain ⟨kx, ekx⟩ : ∃ kx, kx = 13 + 6 * P 12 := ⟨_, rfl⟩
    rw [← ekx] at x0 H
    have x1 := i32_f kx _ x0 1 1 rfl (by omega)
    have x2 := i32_f kx _ x0 2 2 rfl (by omega)
    have x3 := i32_f kx _ x0 3 3 rfl (by omega)
    have x4 := i32_f kx _ x0 4 4 rfl (by omega)
    have x5 := i32_f kx _ x0 5 5 rfl (by omega)
    obtain ⟨_, H⟩ := rwi_88 h0.1 H
    rw [cl_n x0] at H
    have u1 := h0.up (i := 13 + 6 * m) (by omega) (x := a)
    obtain ⟨_, H⟩ := rwi_96 u1.1 H
    rw [cl_n x1] at H
    have u2 := u1.up (i := 13 + 6 * m + 1) (by omega) (x := b)
    obtain ⟨_, H⟩ := rwi_106 u2.1 H
    rw [cl_n x2] at H
    have u3 := u2.up (i := 13 + 6 * m + 2) (by omega) (x := h)
    obtain ⟨_, H⟩ := rwi_116 u3.1 H
    rw [cl_n x3] at H
    have u4 := u3.up (i := 13 + 6 * m + 3) (by omega) (x := ev)
    obtain ⟨_, H⟩ := rwi_127 u4.1 H
    rw [cl_n x4] at H
    have u5 := u4.up (i := 13 + 6 * m + 4) (by omega) (x := fi)
    obtain ⟨_, H⟩ := rwi_138 u5.1 H
    rw [cl_n x5] at H
    have u6 := u5.up (i := 13 + 6 * m + 5) (by omega) (x := 1)
    have hw6 : wiQ P m a b h ev fi = uPk (uPk (uPk (uPk (uPk (uPk P (13 + 6 * m) a) (13 + 6 * m + 1) b) (13 + 6 * m + 2) h) (13 + 6 * m + 3) ev) (13 + 6 * m + 4) fi) (13 + 6 * m + 5) 1 := rfl
    rw [← hw6] at u6
    obtain ⟨N, eN⟩ : ∃ N, N = wI (wI (wI (wI (wI (wI (wF M 633 0 0) 635 (13 + 6 * m) a) 635 (13 + 6 * m + 1) b) 635 (13 + 6 * m + 2) h) 635 (13 + 6 * m + 3) ev) 635 (13 + 6 * m + 4) fi) 635 (13 + 6 * m + 5) 1 := ⟨_, rfl⟩
    rw [← eN] at u6 H
    obtain ⟨_, _, H⟩ := rwi_148 u6.1 H
    have i12 : (12 : Int32).toNatClampNeg = 12 := rfl
    have e12u : rI N 635 12 = P 12 := (r_s u6 (n := 12) rfl (by decide)).trans (wiQ_o (by omega))
    rw [e12u, i12] at H
    have u7 := u6.up (i := 12) (by decide) (x := P 12 + 1)
    obtain ⟨_, r1, r2⟩ := rwi_159 u7.1 H
    have e12v : rI (wI N 635 12 (P 12 + 1)) 635 12 = P 12 + 1 := (r_s u7 (n := 12) rfl (by decide)).trans up_eq
    rw [e12v] at r1
    have hw : wisP P a b h ev fi = uPk (wiQ P m a b h ev fi) 12 (P 12 + 1) := by rw [em]; rfl
    refine Or.inr ⟨fun q => ?_, ?_, ?_⟩
    · rcases q with q | q | q | q | q | q | q
      · exact a1 q
      · exact q a2
      · exact q a3
      · exact a4 q
      · exact q a5
      · exact q a6
      · exact q a7
    · rw [r1]
      have : P 12 + 1 - 1 = P 12 := by grind
      rw [this]
    · rw [hw, r2]
      exact u7
theorem rrai_l (hw : wh4 P) : ∀ (n : Nat) (c : Int32) (Q : PK) (M : Mem), RST T Q M → hiS P Q → 0 ≤ c.toInt → c.toInt + (n : Int) = (clsP P : Int) → Ev none e 210 20 [some (.ref 633), some (.int x), some (.int c)] [] M v M' 0 0 → v = some (.int 1) ∧ RST T (raiP x n c Q) M' := by
  obtain ⟨_, c256, _⟩ := cls_int hw
  intro n
  induction n with
  | zero =>
    intro c Q M hR hs hc hn H
    have hg := g144_ok hR (hw.eq (hs 0 (by decide)) (hs 1 (by decide)))
    rw [cls_eq (hs 0 (by decide)) (hs 1 (by decide))] at hg
    rcases rra_20 hR.1 H with ⟨_, r1, r2⟩ | ⟨a1, _⟩ | ⟨a1, _⟩ | ⟨a1, _⟩
    · exact ⟨r1, r2 ▸ hR⟩
    all_goals exact absurd (Int32.le_iff_toInt_le.mpr (by omega)) a1
  | succ n ih =>
    intro c Q M hR hs hc hn H
    have hwQ := hw.eq (hs 0 (by decide)) (hs 1 (by decide))
    have hg := g144_ok hR hwQ
    rw [cls_eq (hs 0 (by decide)) (hs 1 (by decide))] at hg
    have hcP : inC P c := ⟨hc, by omega⟩
    have hcQ : inC Q c := (inC.hi hs).mpr hcP
    have e1 : (c + 1).toInt = c.toInt + 1 := i32_p1 (by omega)
    have k0 : G_146 M c 0 = cE Q 0 c := r_cell hR hwQ hcQ (fn := 0) rfl (by decide)
    have k4 : G_146 M c 4 = cE Q 4 c := r_cell hR hwQ hcQ (fn := 4) rfl (by decide)
    have t3 : (3 : Int32).toInt = 3 := rfl
    have t200 : (200 : Int32).toInt = 200 := rfl
    rcases rra_20 hR.1 H with ⟨a1, _⟩ | ⟨_, a2, H⟩ | ⟨_, a2, a3, H⟩ | ⟨_, a2, a3, H⟩
    · have := Int32.le_iff_toInt_le.mp a1
      omega
    · rw [k0] at a2
      have n3 : ¬ cE Q 0 c < 3 := fun q => by
        have q := Int32.lt_iff_toInt_lt.mp q
        have r := Int32.le_iff_toInt_le.mp a2
        omega
      have hr : ra1P Q x c = Q := by unfold ra1P; rw [if_neg n3]
      have hun : raiP x (n + 1) c Q = raiP x n (c + 1) Q := by
        show raiP x n (c + 1) (ra1P Q x c) = _
        rw [hr]
      rw [hun]
      exact ih (c + 1) Q M hR hs (by omega) (by omega) H
    · rw [k0] at a2
      rw [k4] at a3 H
      have n3 : ¬ (3 : Int32).toInt ≤ (cE Q 0 c).toInt := fun q => a2 (Int32.le_iff_toInt_le.mpr q)
      have h3 : cE Q 0 c < 3 := Int32.lt_iff_toInt_lt.mpr (by omega)
      have a3 := Int32.le_iff_toInt_le.mp a3
      rw [x147_ok hR hwQ hcQ (fn := 4) rfl (by decide)] at H
      have hr : ra1P Q x c = uPk Q (cX 4 c) (cE Q 4 c + x) := by
        unfold ra1P
        rw [if_pos h3]
        by_cases h2 : cE Q 4 c + x < 200
        · rw [if_pos h2]
        · have n2 : ¬ (cE Q 4 c + x).toInt < (200 : Int32).toInt := fun q => h2 (Int32.lt_iff_toInt_lt.mpr q)
          have : cE Q 4 c + x = 200 := Int32.toInt_inj.mp (by omega)
          rw [if_neg h2, this]
      have u := hR.up (cX_lt hwQ hcQ (f := 4) (by decide)) (x := cE Q 4 c + x)
      rw [← hr] at u
      exact ih (c + 1) (ra1P Q x c) _ u (fun j hj => (ra1_hi j hj).trans (hs j hj)) (by omega) (by omega) H
    · rw [k0] at a2
      rw [k4] at a3
      have n3 : ¬ (3 : Int32).toInt ≤ (cE Q 0 c).toInt := fun q => a2 (Int32.le_iff_toInt_le.mpr q)
      have h3 : cE Q 0 c < 3 := Int32.lt_iff_toInt_lt.mpr (by omega)
      have n2 : ¬ cE Q 4 c + x < 200 := fun q => a3 (Int32.le_iff_toInt_le.mpr (by have := Int32.lt_iff_toInt_lt.mp q; omega))
      rw [x147_ok hR hwQ hcQ (fn := 4) rfl (by decide)] at H
      have hr : ra1P Q x c = uPk Q (cX 4 c) 200 := by
        unfold ra1P
        rw [if_pos h3, if_neg n2]
      have u := hR.up (cX_lt hwQ hcQ (f := 4) (by decide)) (x := 200)
      rw [← hr] at u
      exact ih (c + 1) (ra1P Q x c) _ u (fun j hj => (ra1_hi j hj).trans (hs j hj)) (by omega) (by omega) H
theorem rrain_ok (hR : RST T P M) (hD : okD P) (H : Ev none e 210 0 [some (.ref 633), some (.int x), none] [] M v M' 0 0) : (¬ inX x 1 200 ∧ v = some (.int 0) ∧ RST T P M') ∨ (inX x 1 200 ∧ v = some (.int 1) ∧ RST T (raiP x (clsP P) 0 P) M') := by
  have h0 := hR.w0 0 (by decide) 0
  have z0 : (0 : Int32).toInt = 0 := rfl
  rcases rra_0 hR.1 H with ⟨a1, r1, r2⟩ | ⟨a1, H⟩
  · rw [g140_R] at a1
    exact Or.inl ⟨a1, r1, r2 ▸ h0⟩
  · rw [g140_R, Classical.not_not] at a1
    obtain ⟨r1, r2⟩ := rrai_l hD.1 (clsP P) 0 P _ h0 (fun _ _ => rfl) (by decide) (by omega) H
    exact Or.inr ⟨a1, r1, r2⟩
theorem rsno_l (hw : wh4 P) : ∀ (n : Nat) (c : Int32) (Q : PK) (M : Mem), RST T Q M → hiS P Q → 0 ≤ c.toInt → c.toInt + (n : Int) = (clsP P : Int) → Ev none e 211 7 [some (.ref 633), some (.int c)] [] M v M' 0 0 → v = none ∧ RST T (zerP 6 n c Q) M' := by
  obtain ⟨_, c256, _⟩ := cls_int hw
  intro n
  induction n with
  | zero =>
    intro c Q M hR hs hc hn H
    have hg := g144_ok hR (hw.eq (hs 0 (by decide)) (hs 1 (by decide)))
    rw [cls_eq (hs 0 (by decide)) (hs 1 (by decide))] at hg
    rcases rsn_7 hR.1 H with ⟨_, r1, r2⟩ | ⟨a1, _⟩
    · exact ⟨r1, r2 ▸ hR⟩
    · exact absurd (Int32.le_iff_toInt_le.mpr (by omega)) a1
  | succ n ih =>
    intro c Q M hR hs hc hn H
    have hwQ := hw.eq (hs 0 (by decide)) (hs 1 (by decide))
    have hg := g144_ok hR hwQ
    rw [cls_eq (hs 0 (by decide)) (hs 1 (by decide))] at hg
    have hcQ : inC Q c := (inC.hi hs).mpr ⟨hc, by omega⟩
    have e1 : (c + 1).toInt = c.toInt + 1 := i32_p1 (by omega)
    rcases rsn_7 hR.1 H with ⟨a1, _⟩ | ⟨_, H⟩
    · have := Int32.le_iff_toInt_le.mp a1
      omega
    · rw [x147_ok hR hwQ hcQ (fn := 6) rfl (by decide)] at H
      have u := hR.up (cX_lt hwQ hcQ (f := 6) (by decide)) (x := 0)
      exact ih (c + 1) _ _ u (fun j hj => (up_ne (by have := cX_ge (f := 6) (c := c); omega)).trans (hs j hj)) (by omega) (by omega) H
theorem rsnow_ok (hR : RST T P M) (hD : okD P) (H : Ev none e 211 0 [some (.ref 633), none] [] M v M' 0 0) : v = none ∧ RST T (zerP 6 (clsP P) 0 P) M' := by
  have h0 := hR.w0 0 (by decide) 0
  have z0 : (0 : Int32).toInt = 0 := rfl
  exact rsno_l hD.1 (clsP P) 0 P _ h0 (fun _ _ => rfl) (by decide) (by omega) (rsn_0 hR.1 H)
theorem x213_ok (hR : RST T P M) (hw : wh4 P) (hc : inC P c) : RST T (layP P c k) (X_213 M c k) := by
  have u1 := hR.up (cX_lt hw hc (f := 0) (by decide)) (x := k)
  have e1 : X_147 M c 0 k = wI M 635 (cX 0 c) k := x147_ok hR hw hc (fn := 0) rfl (by decide)
  have hs : hiS P (uPk P (cX 0 c) k) := fun j hj => up_ne (by have := cX_ge (f := 0) (c := c); omega)
  have hc1 : inC (uPk P (cX 0 c) k) c := (inC.hi hs).mpr hc
  have hw1 : wh4 (uPk P (cX 0 c) k) := hw.eq (hs 0 (by decide)) (hs 1 (by decide))
  have e0 : cE (uPk P (cX 0 c) k) 0 c = k := up_eq
  unfold X_213 layP
  rw [e1, g149_ok u1 hw1 hc1]
  unfold grnB
  rw [e0]
  by_cases hk : k = 0 ∨ k = 2
  · rw [if_pos hk, if_neg (fun q => by rw [bI_0] at q; rcases hk with r | r <;> simp [r] at q)]
    exact u1
  · have n0 : ¬ k = 0 := fun q => hk (Or.inl q)
    have n2 : ¬ k = 2 := fun q => hk (Or.inr q)
    rw [if_neg hk, decide_eq_false n0, decide_eq_false n2, if_pos (show bI (false || false) = 0 from rfl), x147_ok u1 hw1 hc1 (fn := 3) rfl (by decide)]
    exact u1.up (cX_lt hw1 hc1 (f := 3) (by decide))
theorem rlay_ok (hR : RST T P M) (hD : okD P) (hK : okK P) (H : Ev none e 212 0 [some (.ref 633), some (.int c), some (.int k)] [] M v M' 0 0) : (layN P c k ∧ v = some (.int 0) ∧ RST T P M') ∨ (¬ layN P c k ∧ v = some (.int 1) ∧ RST T (layP P c k) M') := by
  have hw := hD.1
  have h0 := hR.w0 0 (by decide) 0
  have hS0 := hR.1
  obtain ⟨N, eN⟩ : ∃ N, N = wF M 633 0 0 := ⟨_, rfl⟩
  rw [← eN] at h0
  have fin : ∀ M1 v1 e1, inC P c → ¬ layN P c k → Ev none e1 213 0 [some (.ref 633), some (.int c), some (.int k)] [] N v1 M1 0 0 → Ev none e 212 58 [some (.ref 633), some (.int c), some (.int k)] (v1.toList ++ []) M1 v M' 0 0 → (layN P c k ∧ v = some (.int 0) ∧ RST T P M') ∨ (¬ layN P c k ∧ v = some (.int 1) ∧ RST T (layP P c k) M') := fun M1 v1 e1 ic nl H1 H => by
    obtain ⟨rv, rm⟩ := g_213 h0.1 H1
    rw [rv, rm] at H
    have x := x213_ok (k := k) h0 hw ic
    obtain ⟨r1, r2⟩ := rla_58 x.1 H
    exact Or.inr ⟨nl, r1, r2 ▸ x⟩
  have dr : ∀ M1 v1 e1, (k = 3 ∨ k = 6) → inC P c → inX k 0 6 → Ev none e1 157 0 [some (.ref 633), some (.int c), none] [] N v1 M1 0 0 → Ev none e 212 39 [some (.ref 633), some (.int c), some (.int k)] (v1.toList ++ []) M1 v M' 0 0 → (layN P c k ∧ v = some (.int 0) ∧ RST T P M') ∨ (¬ layN P c k ∧ v = some (.int 1) ∧ RST T (layP P c k) M') := fun M1 v1 e1 hk ic ik H1 H => by
    obtain ⟨rm, rv⟩ := rda_ok h0 hD H1
    rw [rv, rm] at H
    rcases rla_39 h0.1 H with ⟨a1, e2, v2, M2, _, H2, H⟩ | ⟨a1, r1, r2⟩
    · rw [bI_0] at a1
      obtain ⟨rm2, rv2⟩ := rwa_ok h0 hK H2
      rw [rv2, rm2] at H
      rcases rla_47 h0.1 H with ⟨a2, e3, v3, M3, _, H3, H⟩ | ⟨a2, r1, r2⟩
      · rw [bI_0] at a2
        refine fin _ _ _ ic (fun q => ?_) H3 H
        rcases q with q | q | ⟨_, q | q⟩
        · exact q ic
        · exact q ik
        · rw [a1] at q; cases q
        · rw [a2] at q; cases q
      · rw [bI_0, Bool.not_eq_false] at a2
        exact Or.inl ⟨Or.inr (Or.inr ⟨hk, Or.inr a2⟩), r1, r2 ▸ h0⟩
    · rw [bI_0, Bool.not_eq_false] at a1
      exact Or.inl ⟨Or.inr (Or.inr ⟨hk, Or.inl a1⟩), r1, r2 ▸ h0⟩
  have H9 := rla_0 hS0 H
  rw [← eN] at H9
  rcases H9 with ⟨a1, r1, r2⟩ | ⟨_, a1, r1, r2⟩ | ⟨a1, a2, a3, e1, v1, M1, _, H1, H⟩ | ⟨a1, a2, _, a3, e1, v1, M1, _, H1, H⟩ | ⟨a1, a2, a3, a4, e1, v1, M1, _, H1, H⟩
  · rw [g145_ok h0 hw] at a1
    exact Or.inl ⟨Or.inl a1, r1, r2 ▸ h0⟩
  · rw [g140_R] at a1
    exact Or.inl ⟨Or.inr (Or.inl a1), r1, r2 ▸ h0⟩
  · rw [g145_ok h0 hw, Classical.not_not] at a1
    rw [g140_R, Classical.not_not] at a2
    exact dr _ _ _ (Or.inl a3) a1 a2 H1 H
  · rw [g145_ok h0 hw, Classical.not_not] at a1
    rw [g140_R, Classical.not_not] at a2
    exact dr _ _ _ (Or.inr a3) a1 a2 H1 H
  · rw [g145_ok h0 hw, Classical.not_not] at a1
    rw [g140_R, Classical.not_not] at a2
    refine fin _ _ _ a1 (fun q => ?_) H1 H
    rcases q with q | q | ⟨q | q, _⟩
    · exact q a1
    · exact q a2
    · exact a3 q
    · exact a4 q
/-- what is kept -/
def RIM (PI : Nat → PK) (M : Mem) : Prop := ∀ k, k < 3 → ¬ rN M 638 k = 0 → ∀ i, i < 2314 → rN M 636 (2314 * k + i) = PI k i
theorem rim_l {m : Nat} (m3 : m < 3) (hk : k.toInt = (m : Int)) (M0 : Mem) : ∀ (r i : Nat) (iz : Int32) (M : Mem), RST T P M → iz.toInt = (i : Int) → i + r = 2314 → (∀ j, j < i → rN M 636 (2314 * m + j) = P j) → (∀ j, ¬ (2314 * m ≤ j ∧ j < 2314 * m + 2314) → rN M 636 j = rN M0 636 j) → (∀ j, rN M 638 j = rN M0 638 j) → Ev none e 246 18 [some (.ref 633), some (.int k), some (.int iz)] [] M v M' 0 0 → v = some (.int 1) ∧ RST T P M' ∧ (∀ j, j < 2314 → rN M' 636 (2314 * m + j) = P j) ∧ (∀ j, ¬ (2314 * m ≤ j ∧ j < 2314 * m + 2314) → rN M' 636 j = rN M0 636 j) ∧ ∀ j, j ≠ m → rN M' 638 j = rN M0 638 j := by
  have t2314 : (2314 : Int32).toInt = 2314 := rfl
  intro r
  induction r with
  | zero =>
    intro i iz M hR hi hn h1 h2 h3 H
    rcases rim_18 hR.1 H with ⟨_, _, r1, r2⟩ | ⟨a1, _⟩
    · rw [cl_n hk] at r2
      have hF : FZ noF (fun a => a = 638) noO M M' := by rw [r2]; exact FZ.wI (W := fun a => a = 638) rfl
      have hS' : SQ M' := by rw [r2]; exact hR.1.ki
      have g : ∀ j, rN M' 636 j = rN M 636 j := fun j => hF.rn (by omega)
      refine ⟨r1, hR.fz hS' hF (fun _ _ _ q => q) (fun a ha q => by omega), fun j hj => (g _).trans (h1 j (by omega)), fun j hj => (g _).trans (h2 j hj), fun j hj => ?_⟩
      rw [r2, rN_wI_ne (fun q => hj q.2)]
      exact h3 j
    · exact absurd (Int32.le_iff_toInt_le.mpr (by omega)) a1
  | succ r ih =>
    intro i iz M hR hi hn h1 h2 h3 H
    rcases rim_18 hR.1 H with ⟨a1, _⟩ | ⟨_, _, _, H⟩
    · have := Int32.le_iff_toInt_le.mp a1
      omega
    · have ix := i32_kept hk hi (by omega) (by omega)
      rw [cl_n ix, r_s hR hi (by omega)] at H
      have hF : FZ noF (fun a => a = 636) noO M (wI M 636 (2314 * m + i) (P i)) := FZ.wI (W := fun a => a = 636) rfl
      have len : (zrw M 636).length = 6942 := (hR.1.1.row qa_636 qw_64).2
      refine ih (i + 1) (iz + 1) _ (hR.fz hR.1.ki hF (fun _ _ _ q => q) (fun a ha q => by omega)) (by rw [i32_p1 (by omega)]; omega) (by omega) (fun j hj => ?_) (fun j hj => ?_) (fun j => ?_) H
      · by_cases hji : j = i
        · subst hji
          exact rN_wI_eq (by omega)
        · rw [rN_wI_ne (by omega)]
          exact h1 j (by omega)
      · rw [rN_wI_ne (by omega)]
        exact h2 j hj
      · rw [rN_wI_ne (by omega)]
        exact h3 j
theorem rimage_ok (hR : RST T P M) (hI : RIM PI M) (H : Ev none e 246 0 [some (.ref 633), some (.int k), none] [] M v M' 0 0) : (¬ inX k 0 2 ∧ v = some (.int 0) ∧ RST T P M' ∧ RIM PI M') ∨ (inX k 0 2 ∧ v = some (.int 1) ∧ RST T P M' ∧ RIM (upI PI k.toInt.toNat P) M') := by
  have h0 := hR.w0 0 (by decide) 0
  rcases rim_0 hR.1 H with ⟨a1, r1, r2⟩ | ⟨a1, H⟩
  · rw [g140_R] at a1
    refine Or.inl ⟨a1, r1, r2 ▸ h0, ?_⟩
    rw [r2]
    intro k hk
    rw [rN_wF]
    intro hr i hi
    rw [rN_wF]
    exact hI k hk hr i hi
  · rw [g140_R, Classical.not_not] at a1
    obtain ⟨m, m3, hk⟩ := img_rng a1
    have em : k.toInt.toNat = m := by omega
    obtain ⟨r1, r2, r3, r4, r5⟩ := rim_l m3 hk M 2314 0 0 _ h0 rfl rfl (fun j hj => absurd hj (Nat.not_lt_zero _)) (fun j _ => rN_wF) (fun j => rN_wF) H
    refine Or.inr ⟨a1, r1, r2, fun j hj hr i hi => ?_⟩
    rw [em]
    unfold upI
    by_cases hjm : j = m
    · rw [if_pos hjm, hjm]
      exact r3 i hi
    · rw [if_neg hjm]
      rw [r5 j hjm] at hr
      rw [r4 _ (by omega)]
      exact hI j hj hr i hi
theorem rre_l {m : Nat} (m3 : m < 3) (hk : k.toInt = (m : Int)) : ∀ (r i : Nat) (iz : Int32) (P : PK) (M : Mem), RST T P M → (∀ j, j < 2314 → rN M 636 (2314 * m + j) = Q j) → iz.toInt = (i : Int) → i + r = 2314 → (∀ j, j < i → P j = Q j) → Ev none e 247 27 [some (.ref 633), some (.int k), some (.int iz)] [] M v M' 0 0 → v = some (.int 1) ∧ RST T Q M' := by
  have t2314 : (2314 : Int32).toInt = 2314 := rfl
  intro r
  induction r with
  | zero =>
    intro i iz P M hR h1 hi hn h2 H
    rcases rre_27 hR.1 H with ⟨_, r1, r2⟩ | ⟨a1, _⟩
    · exact ⟨r1, r2 ▸ hR.eq (fun j hj => (h2 j (by omega)).symm)⟩
    · exact absurd (Int32.le_iff_toInt_le.mpr (by omega)) a1
  | succ r ih =>
    intro i iz P M hR h1 hi hn h2 H
    rcases rre_27 hR.1 H with ⟨a1, _⟩ | ⟨_, _, _, H⟩
    · have := Int32.le_iff_toInt_le.mp a1
      omega
    · have ix := i32_kept hk hi (by omega) (by omega)
      rw [cl_n hi, rI_n ix, h1 i (by omega)] at H
      refine ih (i + 1) (iz + 1) _ _ (hR.up (i := i) (by omega) (x := Q i)) (fun j hj => ?_) (by rw [i32_p1 (by omega)]; omega) (by omega) (fun j hj => ?_) H
      · rw [rN_wI_ne (by omega)]
        exact h1 j hj
      · by_cases hji : j = i
        · rw [hji]; exact up_eq
        · rw [up_ne hji]; exact h2 j (by omega)
theorem rrest_ok (hR : RST T P M) (hI : RIM PI M) (H : Ev none e 247 0 [some (.ref 633), some (.int k), none] [] M v M' 0 0) : ((¬ inX k 0 2 ∨ rN M 638 k.toInt.toNat = 0) ∧ v = some (.int 0) ∧ RST T P M') ∨ (inX k 0 2 ∧ ¬ rN M 638 k.toInt.toNat = 0 ∧ v = some (.int 1) ∧ RST T (PI k.toInt.toNat) M') := by
  have h0 := hR.w0 0 (by decide) 0
  rcases rre_0 hR.1 H with ⟨a1, r1, r2⟩ | ⟨a1, a2, _, r1, r2⟩ | ⟨a1, a2, _, H⟩
  · rw [g140_R] at a1
    exact Or.inl ⟨Or.inl a1, r1, r2 ▸ h0⟩
  · rw [g140_R, Classical.not_not] at a1
    obtain ⟨m, m3, hk⟩ := img_rng a1
    have em : k.toInt.toNat = m := by omega
    rw [rI_n hk] at a2
    rw [em]
    exact Or.inl ⟨Or.inr a2, r1, r2 ▸ h0⟩
  · rw [g140_R, Classical.not_not] at a1
    obtain ⟨m, m3, hk⟩ := img_rng a1
    have em : k.toInt.toNat = m := by omega
    rw [rI_n hk] at a2
    rw [em]
    obtain ⟨r1, r2⟩ := rre_l (Q := PI m) m3 hk 2314 0 0 P _ h0 (fun j hj => by rw [rN_wF]; exact hI m m3 a2 j hj) rfl rfl (fun j hj => absurd hj (Nat.not_lt_zero _)) H
    exact Or.inr ⟨a1, a2, r1, r2⟩
theorem las_l : ∀ (r i : Nat) (iz : Int32) (M : Mem), RST T P M → iz.toInt = (i : Int) → i + r = 2314 → (∀ j, j < i → rN M 637 j = P j) → Ev none e 153 2 [some (.ref 633), some (.int iz)] [] M v M' 0 0 → v = none ∧ RST T P M' ∧ (∀ j, j < 2314 → rN M' 637 j = P j) ∧ FZ noF (fun a => a = 637) noO M M' := by
  have t2314 : (2314 : Int32).toInt = 2314 := rfl
  intro r
  induction r with
  | zero =>
    intro i iz M hR hi hn h1 H
    rcases las_2 hR.1 H with ⟨_, r1, r2⟩ | ⟨a1, _⟩
    · subst r2
      exact ⟨r1, hR, fun j hj => h1 j (by omega), FZ.refl _⟩
    · exact absurd (Int32.le_iff_toInt_le.mpr (by omega)) a1
  | succ r ih =>
    intro i iz M hR hi hn h1 H
    rcases las_2 hR.1 H with ⟨a1, _⟩ | ⟨_, _, _, H⟩
    · have := Int32.le_iff_toInt_le.mp a1
      omega
    · rw [cl_n hi, r_s hR hi (by omega)] at H
      have hF : FZ noF (fun a => a = 637) noO M (wI M 637 i (P i)) := FZ.wI (W := fun a => a = 637) rfl
      have len : (zrw M 637).length = 2314 := (hR.1.1.row qa_637 qw_65).2
      obtain ⟨r1, r2, r3, r4⟩ := ih (i + 1) (iz + 1) _ (hR.fz hR.1.ki hF (fun _ _ _ q => q) (fun a ha q => by omega)) (by rw [i32_p1 (by omega)]; omega) (by omega) (fun j hj => by
        by_cases hji : j = i
        · subst hji
          exact rN_wI_eq (by omega)
        · rw [rN_wI_ne (by omega)]
          exact h1 j (by omega)) H
      exact ⟨r1, r2, r3, hF.trans r4⟩
theorem las_ok (hR : RST T P M) (H : Ev none e 153 0 [some (.ref 633), none] [] M v M' 0 0) : v = none ∧ RST T P M' ∧ (∀ j, j < 2314 → rN M' 637 j = P j) ∧ FZ noF (fun a => a = 637) noO M M' := las_l 2314 0 0 M hR rfl rfl (fun j hj => absurd hj (Nat.not_lt_zero _)) (las_0 hR.1 H)
theorem lbk_l : ∀ (r i : Nat) (iz : Int32) (P : PK) (M : Mem), RST T P M → (∀ j, j < 2314 → rN M 637 j = Q j) → iz.toInt = (i : Int) → i + r = 2314 → (∀ j, j < i → P j = Q j) → Ev none e 154 2 [some (.ref 633), some (.int iz)] [] M v M' 0 0 → v = none ∧ RST T Q M' ∧ FZ noF (fun a => a = 635) noO M M' := by
  have t2314 : (2314 : Int32).toInt = 2314 := rfl
  intro r
  induction r with
  | zero =>
    intro i iz P M hR h1 hi hn h2 H
    rcases lbk_2 hR.1 H with ⟨_, r1, r2⟩ | ⟨a1, _⟩
    · subst r2
      exact ⟨r1, hR.eq (fun j hj => (h2 j (by omega)).symm), FZ.refl _⟩
    · exact absurd (Int32.le_iff_toInt_le.mpr (by omega)) a1
  | succ r ih =>
    intro i iz P M hR h1 hi hn h2 H
    rcases lbk_2 hR.1 H with ⟨a1, _⟩ | ⟨_, _, _, H⟩
    · have := Int32.le_iff_toInt_le.mp a1
      omega
    · rw [cl_n hi, rI_n hi, h1 i (by omega)] at H
      obtain ⟨r1, r2, r3⟩ := ih (i + 1) (iz + 1) _ _ (hR.up (i := i) (by omega) (x := Q i)) (fun j hj => by
        rw [rN_wI_ne (by omega)]
        exact h1 j hj) (by rw [i32_p1 (by omega)]; omega) (by omega) (fun j hj => by
        by_cases hji : j = i
        · rw [hji]; exact up_eq
        · rw [up_ne hji]; exact h2 j (by omega)) H
      exact ⟨r1, r2, (FZ.wI (W := fun a => a = 635) rfl).trans r3⟩
theorem lbk_ok (hR : RST T P M) (hQ : ∀ j, j < 2314 → rN M 637 j = Q j) (H : Ev none e 154 0 [some (.ref 633), none] [] M v M' 0 0) : v = none ∧ RST T Q M' ∧ FZ noF (fun a => a = 635) noO M M' := lbk_l 2314 0 0 P M hR hQ rfl rfl (fun j hj => absurd hj (Nat.not_lt_zero _)) (lbk_0 hR.1 H)
end RWIS
/-! THE REFERENCE'S park -/
/-- the first n CELLS of a new PARK are told -/
noncomputable def pkS (a b : Int32) (o : Nat → Int32) (n : Nat) : PK := fun j => if j = 0 then a else if j = 1 then b else if 522 ≤ j ∧ (j - 522) / 7 < n then byI (o ((j - 522) / 7)) ((j - 522) % 7) else 0
section RPAR
variable {e B : Nat} {T : TS} {P P' Q : PK} {PI : Nat → PK} {M M0 M1 M' : Mem} {v : Option Value} {c k d x a b y : Int32} {n i j : Nat} {o : Nat → Int32}
theorem pkS_s {c : Int32} (hc : c.toInt = (n : Int)) (j : Nat) : uPk (uPk (uPk (pkS a b o n) (cX 0 c) (byI (o n) 0)) (cX 1 c) (byI (o n) 1)) (cX 2 c) (byI (o n) 2) j = pkS a b o (n + 1) j := by
  have e : ∀ f, cX f c = 522 + 7 * n + f := fun f => by unfold cX; omega
  rw [e, e, e]
  by_cases h2 : j = 522 + 7 * n + 2
  · rw [h2, up_eq]
    unfold pkS
    rw [if_neg (by omega), if_neg (by omega), if_pos (by omega), show (522 + 7 * n + 2 - 522) / 7 = n by omega, show (522 + 7 * n + 2 - 522) % 7 = 2 by omega]
  · rw [up_ne h2]
    by_cases h1 : j = 522 + 7 * n + 1
    · rw [h1, up_eq]
      unfold pkS
      rw [if_neg (by omega), if_neg (by omega), if_pos (by omega), show (522 + 7 * n + 1 - 522) / 7 = n by omega, show (522 + 7 * n + 1 - 522) % 7 = 1 by omega]
    · rw [up_ne h1]
      by_cases h0 : j = 522 + 7 * n + 0
      · rw [h0, up_eq]
        unfold pkS
        rw [if_neg (by omega), if_neg (by omega), if_pos (by omega), show (522 + 7 * n + 0 - 522) / 7 = n by omega, show (522 + 7 * n + 0 - 522) % 7 = 0 by omega]
      · rw [up_ne h0]
        unfold pkS
        by_cases j0 : j = 0
        · rw [if_pos j0, if_pos j0]
        · rw [if_neg j0, if_neg j0]
          by_cases j1 : j = 1
          · rw [if_pos j1, if_pos j1]
          · rw [if_neg j1, if_neg j1]
            by_cases hq : 522 ≤ j ∧ (j - 522) / 7 < n
            · rw [if_pos hq, if_pos (by omega)]
            · rw [if_neg hq]
              by_cases hr : 522 ≤ j ∧ (j - 522) / 7 < n + 1
              · rw [if_pos hr]
                unfold byI
                rw [if_neg (by omega), if_neg (by omega), if_neg (by omega)]
              · rw [if_neg hr]
theorem rpk_c (hS : SQ M) (hz : (zI M 633 3).toInt = (n : Int)) (ho : ∀ k, k < n → rN M 634 k &&& 255 = o k) : ∀ (r k : Nat) (kz : Int32), kz.toInt = (k : Int) → k + r = n → (∀ i, i < k → ¬ byI (o i) 0 = 7) → Ev none e 155 43 [some (.ref 633), some (.int a), some (.int b), some (.int kz)] [] M v M' 0 0 → (v = some (.int 0) ∧ M' = M ∧ ∃ i, i < n ∧ byI (o i) 0 = 7) ∨ ((∀ i, i < n → ¬ byI (o i) 0 = 7) ∧ Ev none e 155 74 [some (.ref 633), some (.int a), some (.int b), some (.int 0)] [] M v M' 0 0) := by
  intro r
  induction r with
  | zero =>
    intro k kz hk hn hg H
    rcases rpk_43 hS H with ⟨_, H⟩ | ⟨a1, _⟩ | ⟨a1, _⟩
    · exact Or.inr ⟨fun i hi => hg i (by omega), H⟩
    all_goals exact absurd (Int32.le_iff_toInt_le.mpr (by omega)) a1
  | succ r ih =>
    intro k kz hk hn hg H
    have hb := (i32_any (zI M 633 3)).2
    have er : G_142 M kz = o k := by
      unfold G_142
      rw [rI_n hk]
      exact ho k (by omega)
    rcases rpk_43 hS H with ⟨a1, _⟩ | ⟨_, a2, r1, r2⟩ | ⟨_, a2, H⟩
    · have := Int32.le_iff_toInt_le.mp a1
      omega
    · rw [er] at a2
      exact Or.inl ⟨r1, r2, k, by omega, a2⟩
    · rw [er] at a2
      refine ih (k + 1) (kz + 1) (by rw [i32_p1 (by omega)]; omega) (by omega) (fun i hi => ?_) H
      by_cases hik : i = k
      · rw [hik]
        exact a2
      · exact hg i (by omega)
theorem rpk_z : ∀ (r i : Nat) (iz : Int32) (P : PK) (M : Mem), RST T P M → iz.toInt = (i : Int) → i + r = 2314 → (∀ j, j < i → P j = 0) → Ev none e 155 74 [some (.ref 633), some (.int a), some (.int b), some (.int iz)] [] M v M' 0 0 → ∃ M1 kz, RST T (fun _ => 0) M1 ∧ FZ noF (fun a => a = 635) noO M M1 ∧ Ev none e 155 94 [some (.ref 633), some (.int a), some (.int b), some (.int kz)] [] M1 v M' 0 0 := by
  have t2314 : (2314 : Int32).toInt = 2314 := rfl
  intro r
  induction r with
  | zero =>
    intro i iz P M hR hi hn h1 H
    rcases rpk_74 hR.1 H with ⟨_, H⟩ | ⟨a1, _⟩
    · exact ⟨M, _, hR.eq (fun j hj => (h1 j (by omega)).symm), FZ.refl _, H⟩
    · exact absurd (Int32.le_iff_toInt_le.mpr (by omega)) a1
  | succ r ih =>
    intro i iz P M hR hi hn h1 H
    rcases rpk_74 hR.1 H with ⟨a1, _⟩ | ⟨_, _, H⟩
    · have := Int32.le_iff_toInt_le.mp a1
      omega
    · rw [cl_n hi] at H
      obtain ⟨M1, kz, r1, r2, r3⟩ := ih (i + 1) (iz + 1) _ _ (hR.up (i := i) (by omega) (x := 0)) (by rw [i32_p1 (by omega)]; omega) (by omega) (fun j hj => by
        by_cases hji : j = i
        · rw [hji]; exact up_eq
        · rw [up_ne hji]; exact h1 j (by omega)) H
      exact ⟨M1, kz, r1, (FZ.wI (W := fun a => a = 635) rfl).trans r2, r3⟩
theorem rpk_s (wa : 4 ≤ a.toInt ∧ a.toInt ≤ 16) (wb : 4 ≤ b.toInt ∧ b.toInt ≤ 16) (hn : n = a.toInt.toNat * b.toInt.toNat) : ∀ (r k : Nat) (kz : Int32) (M : Mem), RST T (pkS a b o k) M → (zI M 633 3).toInt = (n : Int) → (∀ k, k < n → rN M 634 k &&& 255 = o k) → kz.toInt = (k : Int) → k + r = n → Ev none e 155 110 [some (.ref 633), some (.int a), some (.int b), some (.int kz)] [] M v M' 0 0 → v = some (.int 1) ∧ RST T (pkS a b o n) M' := by
  have n256 : n ≤ 256 := by
    have h1 : a.toInt.toNat ≤ 16 := by omega
    have h2 : b.toInt.toNat ≤ 16 := by omega
    rw [hn]
    exact Nat.mul_le_mul h1 h2
  intro r
  induction r with
  | zero =>
    intro k kz M hR hz ho hk hkn H
    rcases rpk_110 hR.1 H with ⟨_, r1, r2⟩ | ⟨a1, _⟩
    · have e : k = n := by omega
      rw [r2, ← e]
      exact ⟨r1, hR⟩
    · exact absurd (Int32.le_iff_toInt_le.mpr (by omega)) a1
  | succ r ih =>
    intro k kz M hR hz ho hk hkn H
    rcases rpk_110 hR.1 H with ⟨a1, _⟩ | ⟨_, H⟩
    · have := Int32.le_iff_toInt_le.mp a1
      omega
    · have hw : wh4 (pkS a b o k) := ⟨wa.1, wa.2, wb.1, wb.2⟩
      have hc : inC (pkS a b o k) kz := ⟨by omega, by
        show kz.toInt.toNat < a.toInt.toNat * b.toInt.toNat
        omega⟩
      have hs : ∀ (f : Nat) (Q : PK) (y : Int32), (∀ j, j < 522 → Q j = pkS a b o k j) → ∀ j, j < 522 → uPk Q (cX f kz) y j = pkS a b o k j := fun f Q y h j hj => (up_ne (by have := cX_ge (f := f) (c := kz); omega)).trans (h j hj)
      have h0 : ∀ j, j < 522 → pkS a b o k j = pkS a b o k j := fun _ _ => rfl
      have er : ∀ N, (∀ j, rN N 634 j = rN M 634 j) → G_142 N kz = o k := fun N hN => by
        unfold G_142
        rw [rI_n hk, hN]
        exact ho k (by omega)
      have w5 : ∀ (N : Mem) (j : Nat) (y : Int32), (∀ i, rN N 634 i = rN M 634 i) → ∀ i, rN (wI N 635 j y) 634 i = rN M 634 i := fun N j y h i => (rN_wI_ne (by omega)).trans (h i)
      have g0 : ∀ i, rN M 634 i = rN M 634 i := fun _ => rfl
      rw [x147_ok hR hw hc (fn := 0) rfl (by decide), er M g0] at H
      have u1 := hR.up (cX_lt hw hc (f := 0) (by decide)) (x := o k - o k / 8 * 8)
      have s1 := hs 0 (pkS a b o k) (o k - o k / 8 * 8) h0
      have hw1 := hw.eq (s1 0 (by decide)) (s1 1 (by decide))
      have hc1 := (inC.eq (c := kz) (s1 0 (by decide)) (s1 1 (by decide))).mpr hc
      rw [x147_ok u1 hw1 hc1 (fn := 1) rfl (by decide), er _ (w5 M _ _ g0)] at H
      have u2 := u1.up (cX_lt hw1 hc1 (f := 1) (by decide)) (x := o k / 8 - o k / 8 / 2 * 2)
      have s2 := hs 1 _ (o k / 8 - o k / 8 / 2 * 2) s1
      have hw2 := hw.eq (s2 0 (by decide)) (s2 1 (by decide))
      have hc2 := (inC.eq (c := kz) (s2 0 (by decide)) (s2 1 (by decide))).mpr hc
      rw [x147_ok u2 hw2 hc2 (fn := 2) rfl (by decide), er _ (w5 _ _ _ (w5 M _ _ g0))] at H
      have u3 := u2.up (cX_lt hw2 hc2 (f := 2) (by decide)) (x := o k / 16)
      exact ih (k + 1) (kz + 1) _ (u3.eq (fun j _ => (pkS_s (o := o) (a := a) (b := b) hk j).symm)) (by rw [fI_wI, fI_wI, fI_wI]; exact hz) (fun i hi => by rw [w5 _ _ _ (w5 _ _ _ (w5 M _ _ g0))]; exact ho i hi) (by rw [i32_p1 (by omega)]; omega) (by omega) H
theorem rpark_ok (hR : RST T P M) (hz : (zI M 633 2).toInt = (n : Int)) (ho : ∀ k, k < n → rN M 634 k &&& 255 = o k) (H : Ev none e 155 0 [some (.ref 633), some (.int a), some (.int b), none] [] M v M' 0 0) : (¬ parT a b (zI M 633 2) o ∧ v = some (.int 0) ∧ RST T P M') ∨ (parT a b (zI M 633 2) o ∧ v = some (.int 1) ∧ RST T (parP a b o) M') := by
  have t4 : (4 : Int32).toInt = 4 := rfl
  have t16 : (16 : Int32).toInt = 16 := rfl
  have h0 : RST T P (X_139 (wF M 633 0 0)) := by
    unfold X_139
    exact (((hR.w0 0 (by decide) 0).w0 3 (by decide) _).w0 2 (by decide) 0).w0 4 (by decide) 0
  have z3 : zI (X_139 (wF M 633 0 0)) 633 3 = zI M 633 2 := by
    unfold X_139
    rw [fI_wF_ne (by decide), fI_wF_ne (by decide), fI_wF_eq hR.1.kf.1 qa_633 qi_61_3, fI_wF_ne (by decide)]
  have r634 : ∀ j, rN (X_139 (wF M 633 0 0)) 634 j = rN M 634 j := fun j => by
    unfold X_139
    rw [rN_wF, rN_wF, rN_wF, rN_wF]
  obtain ⟨N, eN⟩ : ∃ N, N = X_139 (wF M 633 0 0) := ⟨_, rfl⟩
  have H9 := rpk_0 hR.1 H
  rw [← eN] at h0 z3 r634 H9
  unfold parT
  rcases H9 with ⟨a1, r1, r2⟩ | ⟨_, a1, r1, r2⟩ | ⟨a1, a2, a3, H⟩ | ⟨a1, a2, a3, r1, r2⟩
  · rw [g140_R] at a1
    exact Or.inl ⟨fun q => a1 q.1, r1, r2 ▸ h0⟩
  · rw [g140_R] at a1
    exact Or.inl ⟨fun q => a1 q.2.1, r1, r2 ▸ h0⟩
  · rw [g140_R, Classical.not_not] at a1 a2
    rw [z3] at a3
    have w1 : 4 ≤ a.toInt ∧ a.toInt ≤ 16 := by unfold inX at a1; omega
    have w2 : 4 ≤ b.toInt ∧ b.toInt ≤ 16 := by unfold inX at a2; omega
    obtain ⟨c1, c2, _⟩ := cls_int (parP_wh (o := o) w1 w2)
    have cw : clsP (parP a b o) = a.toInt.toNat * b.toInt.toNat := rfl
    rw [cw] at c1 c2
    rw [parP_0, parP_1] at c1
    have hn : n = a.toInt.toNat * b.toInt.toNat := by
      have q : (zI M 633 2).toInt = a.toInt * b.toInt := by rw [a3, i32_mul (by omega) (by omega)]
      omega
    have z3i : (zI N 633 3).toInt = (n : Int) := by rw [z3]; exact hz
    rcases rpk_c (o := o) h0.1 z3i (fun k hk => by rw [r634]; exact ho k hk) n 0 0 rfl (by omega) (fun i hi => absurd hi (Nat.not_lt_zero _)) H with ⟨r1, r2, i, i1, i2⟩ | ⟨g, H⟩
    · exact Or.inl ⟨fun q => q.2.2.2 i (by omega) i2, r1, r2 ▸ h0⟩
    · obtain ⟨M1, kz, s1, s2, H⟩ := rpk_z 2314 0 0 P N h0 rfl rfl (fun j hj => absurd hj (Nat.not_lt_zero _)) H
      obtain ⟨_, _, H⟩ := rpk_94 s1.1 H
      have i0 : (0 : Int32).toNatClampNeg = 0 := rfl
      have i1 : (1 : Int32).toNatClampNeg = 1 := rfl
      rw [i0, i1] at H
      have u2 := (s1.up (i := 0) (by decide) (x := a)).up (i := 1) (by decide) (x := b)
      have u3 : RST T (pkS a b o 0) (wI (wI M1 635 0 a) 635 1 b) := u2.eq (fun j _ => by
        unfold pkS uPk
        by_cases j0 : j = 0
        · rw [if_pos j0, if_neg (by omega), if_pos j0]
        · rw [if_neg j0]
          by_cases j1 : j = 1
          · rw [if_pos j1, if_pos j1]
          · rw [if_neg j1, if_neg j1, if_neg j0, if_neg (by omega)])
      have z3m : zI M1 633 3 = zI N 633 3 := s2.fi (fun q => q)
      have r4m : ∀ j, rN M1 634 j = rN N 634 j := fun j => s2.rn (by decide)
      obtain ⟨v1, v2⟩ := rpk_s w1 w2 hn n 0 0 _ u3 (by rw [fI_wI, fI_wI, z3m]; exact z3i) (fun k hk => by rw [rN_wI_ne (by omega), rN_wI_ne (by omega), r4m, r634]; exact ho k hk) rfl (by omega) H
      refine Or.inr ⟨⟨a1, a2, a3, fun k hk => g k (by omega)⟩, v1, ?_⟩
      have : parP a b o = pkS a b o n := by rw [hn]; rfl
      rw [this]
      exact v2
  · rw [z3] at a3
    exact Or.inl ⟨fun q => a3 q.2.2.1, r1, r2 ▸ h0⟩
end RPAR
/-! FRAMES: what a contract tells of the state -/
def mF (md : Md) (a k : Nat) : Prop := gNth sT a = none ∨ ∃ g ci fs, gNth sT a = some g ∧ gNth sG g = some (.inl (ci, fs)) ∧ (ci, k) ∈ md
def mW (md : Md) (a : Nat) : Prop := gNth sT a = none ∨ ∃ g, gNth sT a = some g ∧ (1000 + g, 0) ∈ md
theorem shC_row {kd n : Nat} {q : ET} {e : AE} (h : shC (.inr (kd, n, q)) e) : ∃ t x, e = .inl (t, x) := by
  by_cases hk : kd = 2
  · subst hk
    obtain ⟨l, h1, _⟩ := h
    exact ⟨_, _, h1⟩
  · rcases q with sg | g
    · match kd, hk, h with
      | 0, _, h =>
        obtain ⟨l, h1, _⟩ := h
        exact ⟨_, _, h1⟩
      | 1, _, h =>
        obtain ⟨l, h1, _⟩ := h
        exact ⟨_, _, h1⟩
      | n + 3, _, h =>
        obtain ⟨l, h1, _⟩ := h
        exact ⟨_, _, h1⟩
    · match kd, hk, h with
      | 0, _, h =>
        obtain ⟨l, h1, _⟩ := h
        exact ⟨_, _, h1⟩
      | 1, _, h =>
        obtain ⟨l, h1, _⟩ := h
        exact ⟨_, _, h1⟩
      | n + 3, _, h =>
        obtain ⟨l, h1, _⟩ := h
        exact ⟨_, _, h1⟩
set_option maxRecDepth 200000 in
theorem sG_all : (sT.all (fun g => match gNth sG g with | some _ => true | none => false)) = true := by decide +kernel
theorem sG_of {a g : Nat} (h : gNth sT a = some g) : ∃ t, gNth sG g = some t := by
  have hm : g ∈ sT := by
    rw [nth_eq] at h
    exact List.mem_of_getElem? h
  have q := List.all_eq_true.mp sG_all g hm
  cases hg : gNth sG g with
  | none => rw [hg] at q; cases q
  | some t => exact ⟨t, rfl⟩
section FRMZ
variable {md : Md} {M M' : Mem}
theorem frm_fz (hS : SH M) (hF : Frm sT md M M') : FZ (mF md) (mW md) (mW md) M M' := by
  have row : ∀ b, ¬ mW md b → ∀ t x, gNth M b = some (.inl (t, x)) → gNth M' b = some (.inl (t, x)) := fun b hb t x hM => by
    obtain ⟨x', h1, h2⟩ := hF.2.2 b t x hM
    rw [h1, h2 (fun g hg q => hb (Or.inr ⟨g, hg, q⟩))]
  have obj : ∀ b c vs, gNth M b = some (.inr (c, vs)) → ∃ vs', gNth M' b = some (.inr (c, vs')) := fun b c vs hM => by
    obtain ⟨vs', h1, _⟩ := hF.2.1 b c vs hM
    exact ⟨vs', h1⟩
  have non : ∀ b, gNth M b = none → gNth M' b = none := fun b hM => by
    rw [nth_eq] at hM ⊢
    rw [List.getElem?_eq_none_iff] at hM ⊢
    rw [hF.1]
    exact hM
  refine ⟨fun a k hn => ?_, fun b hb => ?_, fun b hb => ?_⟩
  · cases hM : gNth M a with
    | none =>
      unfold fV
      rw [hM, non a hM]
    | some e =>
      rcases e with ⟨t, x⟩ | ⟨c, vs⟩
      · obtain ⟨x', h1, _⟩ := hF.2.2 a t x hM
        unfold fV
        rw [hM, h1]
      · obtain ⟨vs', h1, _, h3⟩ := hF.2.1 a c vs hM
        have hc : (c, k) ∉ md := fun q => by
          cases hT : gNth sT a with
          | none => exact hn (Or.inl hT)
          | some g =>
            obtain ⟨t, ht⟩ := sG_of hT
            obtain ⟨e, e1, e2⟩ := hS.2 a g t hT ht
            rw [hM] at e1
            cases e1
            rcases t with ⟨ci, fs⟩ | ⟨kd, n, q2⟩
            · obtain ⟨vs2, g1, _⟩ := e2
              cases g1
              exact hn (Or.inr ⟨g, _, fs, hT, ht, q⟩)
            · obtain ⟨t2, x2, g1⟩ := shC_row e2
              cases g1
        unfold fV
        rw [hM, h1]
        exact h3 k hc
  · cases hM : gNth M b with
    | none =>
      unfold zrw
      rw [hM, non b hM]
    | some e =>
      rcases e with ⟨t, x⟩ | ⟨c, vs⟩
      · unfold zrw
        rw [hM, row b hb t x hM]
      · obtain ⟨vs', h1⟩ := obj b c vs hM
        unfold zrw
        rw [hM, h1]
  · cases hM : gNth M b with
    | none =>
      unfold roL
      rw [hM, non b hM]
    | some e =>
      rcases e with ⟨t, x⟩ | ⟨c, vs⟩
      · unfold roL
        rw [hM, row b hb t x hM]
      · obtain ⟨vs', h1⟩ := obj b c vs hM
        unfold roL
        rw [hM, h1]
end FRMZ
/-- the class of an object, or none of a row -/
noncomputable def clB (a : Nat) (cs : List Nat) : Bool := match gNth sT a with
  | some g => (match gNth sG g with
    | some (.inl (ci, _)) => cs.any (fun c => Nat.beq c ci)
    | some (.inr _) => true
    | none => false)
  | none => false
noncomputable def gpB (a : Nat) (gs : List Nat) : Bool := match gNth sT a with
  | some g => gs.any (fun c => Nat.beq c g)
  | none => false
theorem any_beq {l : List Nat} {x : Nat} (h : l.any (fun c => Nat.beq c x) = true) : x ∈ l := by
  obtain ⟨y, h1, h2⟩ := List.any_eq_true.mp h
  cases Nat.eq_of_beq_eq_true h2
  exact h1
noncomputable def mdC (md : Md) (cs : List Nat) : Bool := md.all (fun q => !cs.any (fun c => Nat.beq c q.1))
theorem mdC_no {md : Md} {cs : List Nat} {c k : Nat} (h : mdC md cs = true) (hc : c ∈ cs) : (c, k) ∉ md := fun q => by
  have r := List.all_eq_true.mp h _ q
  have : cs.any (fun x => Nat.beq x c) = true := List.any_eq_true.mpr ⟨c, hc, Nat.beq_refl c⟩
  rw [this] at r
  cases r
theorem clB_F {md : Md} {cs : List Nat} {a k : Nat} (h : clB a cs = true) (hm : mdC md cs = true) : ¬ mF md a k := by
  unfold clB at h
  rintro (q | ⟨g, ci, fs, q1, q2, q3⟩)
  · rw [q] at h; cases h
  · rw [q1] at h
    dsimp only at h
    rw [q2] at h
    exact mdC_no hm (any_beq h) q3
theorem gpB_W {md : Md} {gs : List Nat} {a : Nat} (h : gpB a gs = true) (hm : mdC md (gs.map (fun g => 1000 + g)) = true) : ¬ mW md a := by
  unfold gpB at h
  rintro (q | ⟨g, q1, q2⟩)
  · rw [q] at h; cases h
  · rw [q1] at h
    exact mdC_no hm (List.mem_map.mpr ⟨g, any_beq h, rfl⟩) q2
theorem one_F {md : Md} {a g ci k : Nat} (h : gNth sT a = some g) (hB : oB g ci = true) (hm : (!mdIn md ci k) = true) : ¬ mF md a k := by
  rintro (q | ⟨g2, c2, fs, q1, q2, q3⟩)
  · rw [h] at q; cases q
  · rw [h] at q1
    cases q1
    unfold oB at hB
    rw [q2] at hB
    cases Nat.eq_of_beq_eq_true hB
    exact md_no hm q3
/-- what the class's state rests on -/
noncomputable def cstB (md : Md) : Bool := mdC md [1, 6, 8, 9] && (mdC md ([9, 10, 11, 12, 13, 14, 15, 16, 17, 18, 19, 27, 29, 30, 31, 32, 33, 34, 35, 36, 38, 24, 25, 26, 56, 57].map (fun g => 1000 + g)) && ((!mdIn md 10 2) && ((!mdIn md 10 6) && ((!mdIn md 7 2) && ((!mdIn md 0 3) && (!mdIn md 0 4))))))
set_option maxRecDepth 200000 in
theorem cs_ld : fxA.all (fun L => (List.range 96).all (fun i => clB (L + i) [1, 6, 8, 9]) && (List.range 11).all (fun i => gpB (L + 1 + i) [9, 10, 11, 12, 13, 14, 15, 16, 17, 18, 19, 27, 29, 30, 31, 32, 33, 34, 35, 36, 38, 24, 25, 26, 56, 57])) = true := by decide +kernel
set_option maxRecDepth 200000 in
theorem cs_tx : fxT.all (fun t => clB t [1, 6, 8, 9] && (List.range 8).all (fun i => gpB (t + 1 + i) [9, 10, 11, 12, 13, 14, 15, 16, 17, 18, 19, 27, 29, 30, 31, 32, 33, 34, 35, 36, 38, 24, 25, 26, 56, 57])) = true := by decide +kernel
set_option maxRecDepth 200000 in
theorem cs_ot : [106, 107, 108, 109, 129, 339, 340].all (fun a => gpB a [9, 10, 11, 12, 13, 14, 15, 16, 17, 18, 19, 27, 29, 30, 31, 32, 33, 34, 35, 36, 38, 24, 25, 26, 56, 57]) = true := by decide +kernel
section FRMC
variable {md : Md} {T : TS} {P : PK} {PI : Nat → PK} {M M' : Mem}
theorem CST.frm (h : CST T P PI M) (hS : SQ M') (hF : Frm sT md M M') (hB : cstB md = true) : CST T P PI M' := by
  obtain ⟨b1, hB⟩ := and_t hB
  obtain ⟨b2, hB⟩ := and_t hB
  obtain ⟨b3, hB⟩ := and_t hB
  obtain ⟨b4, hB⟩ := and_t hB
  obtain ⟨b5, hB⟩ := and_t hB
  obtain ⟨b6, b7⟩ := and_t hB
  have hZ := frm_fz h.1.1 hF
  have ot : ∀ a, a ∈ [106, 107, 108, 109, 129, 339, 340] → ¬ mW md a := fun a ha => gpB_W (List.all_eq_true.mp cs_ot a ha) b2
  have ld : ∀ L, gNth sT L = some 8 → (∀ a k, L ≤ a → a < L + 96 → ¬ mF md a k) ∧ ∀ a, L + 1 ≤ a → a ≤ L + 11 → ¬ mW md a := fun L hL => by
    have hm : L ∈ fxA := by
      have := ld_cases hL
      unfold fxA
      simp only [List.mem_cons, List.not_mem_nil, or_false]
      exact this
    obtain ⟨c1, c2⟩ := and_t (List.all_eq_true.mp cs_ld L hm)
    refine ⟨fun a k h1 h2 => ?_, fun a h1 h2 => ?_⟩
    · have q := List.all_eq_true.mp c1 (a - L) (List.mem_range.mpr (by omega))
      rw [show L + (a - L) = a by omega] at q
      exact clB_F q b1
    · have q := List.all_eq_true.mp c2 (a - (L + 1)) (List.mem_range.mpr (by omega))
      rw [show L + 1 + (a - (L + 1)) = a by omega] at q
      exact gpB_W q b2
  have tx : ∀ t, gNth sT t = some 28 → (∀ k, ¬ mF md t k) ∧ ∀ k, 1 ≤ k → k ≤ 8 → ¬ mW md (t + k) := fun t ht => by
    have hm : t ∈ fxT := by
      have := tx_cases ht
      unfold fxT
      simp only [List.mem_cons, List.not_mem_nil, or_false]
      exact this
    obtain ⟨c1, c2⟩ := and_t (List.all_eq_true.mp cs_tx t hm)
    refine ⟨fun k => clB_F c1 b1, fun k h1 h8 => ?_⟩
    have q := List.all_eq_true.mp c2 (k - 1) (List.mem_range.mpr (by omega))
    rw [show t + 1 + (k - 1) = t + k by omega] at q
    exact gpB_W q b2
  refine h.scr hS hZ ⟨one_F qa_0 qo_0 b3, one_F qa_0 qo_0 b4, one_F qa_104 qo_22 b5⟩ (fun L hL _ => ⟨(ld L hL).1, fun a h1 h2 => (ld L hL).2 a h1 (by omega)⟩) tx ⟨ot 109 (by simp), ot 129 (by simp), ot 339 (by simp)⟩ (fun L hL _ => (ld L hL).2 (L + 11) (by omega) (by omega)) (fun L hL => ?_) (h.2.2.2.2.1.fz hZ (one_F qa_105 qo_23 b6) (one_F qa_105 qo_23 b7) (fun a h1 h2 => ot a (by simp only [List.mem_cons, List.not_mem_nil, or_false]; omega))) (ot 340 (by simp))
  obtain ⟨x1, x2⟩ := h.2.2.2.2.2.1 L hL
  exact ⟨fun k hk => (hZ.on ((ld L hL).2 (L + 10) (by omega) (by omega))).trans (x1 k hk), x2.on (fun j => hZ.on ((ld L hL).2 (L + 11) (by omega) (by omega)))⟩
/-- what the reference's state rests on -/
noncomputable def rstB (md : Md) : Bool := mdC md ([63, 67, 68, 69, 70, 71, 72, 73, 74, 75].map (fun g => 1000 + g)) && ((!mdIn md 11 28) && ((!mdIn md 11 29) && (!mdIn md 11 30)))
noncomputable def rimB (md : Md) : Bool := mdC md ([64, 66].map (fun g => 1000 + g))
set_option maxRecDepth 200000 in
theorem rs_ot : [635, 639, 640, 641, 642, 643, 644, 645, 646, 647].all (fun a => gpB a [63, 67, 68, 69, 70, 71, 72, 73, 74, 75]) = true := by decide +kernel
set_option maxRecDepth 200000 in
theorem ri_ot : [636, 638].all (fun a => gpB a [64, 66]) = true := by decide +kernel
theorem RST.frm (h : RST T P M) (hS : SQ M') (hF : Frm sT md M M') (hB : rstB md = true) : RST T P M' := by
  obtain ⟨b2, hB⟩ := and_t hB
  obtain ⟨b3, hB⟩ := and_t hB
  obtain ⟨b4, b5⟩ := and_t hB
  refine h.fz hS (frm_fz h.1.1 hF) (fun k h1 h2 => ?_) (fun a ha => gpB_W (List.all_eq_true.mp rs_ot a (by simp only [List.mem_cons, List.not_mem_nil, or_false]; omega)) b2)
  have hk : k = 28 ∨ k = 29 ∨ k = 30 := by omega
  rcases hk with rfl | rfl | rfl
  · exact one_F qa_633 qo_61 b3
  · exact one_F qa_633 qo_61 b4
  · exact one_F qa_633 qo_61 b5
theorem RIM.fz {F : Nat → Nat → Prop} {W O : Nat → Prop} (h : RIM PI M) (hF : FZ F W O M M') (w : ¬ W 636 ∧ ¬ W 638) : RIM PI M' := fun k hk hr i hi => by
  rw [hF.rn w.2] at hr
  rw [hF.rn w.1]
  exact h k hk hr i hi
theorem RIM.frm (h : RIM PI M) (hS : SH M) (hF : Frm sT md M M') (hB : rimB md = true) : RIM PI M' := h.fz (frm_fz hS hF) ⟨gpB_W (List.all_eq_true.mp ri_ot 636 (by simp)) hB, gpB_W (List.all_eq_true.mp ri_ot 638 (by simp)) hB⟩
end FRMC
/-! THE TEXTS between calls: law and habit of both sides -/
noncomputable def txr (M : Mem) (i : Nat) : Nat := if i = 0 then fR M 104 2 else if i = 7 then fR M 104 3 else oN M 109 (i - 1)
/-- the texts are unlike each other -/
def TXd (M : Mem) : Prop := ∀ i j, i < 8 → j < 8 → txr M i = txr M j → i = j
noncomputable def newT (T : TS) (t : Nat) (r : PLn) : TS := match r with
  | .inr _ => T
  | .inl q => fun i => if i = t then q else T i
def swN (a b i : Nat) : Nat := if i = a then b else if i = b then a else i
section TXTS
variable {e n t sp : Nat} {B : Nat → Int32} {T T' : TS} {P : PK} {PI : Nat → PK} {M M1 M' : Mem} {v : Option Value} {x : Int32} {F : Nat → Nat → Prop} {W O : Nat → Prop}
theorem swN_a {a b : Nat} : swN a b a = b := if_pos rfl
theorem swN_b {a b : Nat} : swN a b b = a := by
  unfold swN
  by_cases h : b = a
  · rw [if_pos h]; exact h
  · rw [if_neg h, if_pos rfl]
theorem swN_o {a b i : Nat} (h1 : i ≠ a) (h2 : i ≠ b) : swN a b i = i := by
  unfold swN
  rw [if_neg h1, if_neg h2]
theorem swN_2 {a b i : Nat} : swN a b (swN a b i) = i := by
  by_cases h1 : i = a
  · rw [h1, swN_a, swN_b]
  · by_cases h2 : i = b
    · rw [h2, swN_b, swN_a]
    · rw [swN_o h1 h2, swN_o h1 h2]
theorem swN_lt {a b i n : Nat} (ha : a < n) (hb : b < n) (hi : i < n) : swN a b i < n := by
  unfold swN
  split
  · exact hb
  · split
    · exact ha
    · exact hi
theorem TXd.sw {a b : Nat} (h : TXd M) (ha : a < 8) (hb : b < 8) (e : ∀ i, i < 8 → txr M' i = txr M (swN a b i)) : TXd M' := fun i j hi hj q => by
  rw [e i hi, e j hj] at q
  have r := h _ _ (swN_lt ha hb hi) (swN_lt ha hb hj) q
  have s : swN a b (swN a b i) = swN a b (swN a b j) := by rw [r]
  rw [swN_2, swN_2] at s
  exact s
theorem TXd.same (h : TXd M) (h2 : fR M' 104 2 = fR M 104 2) (h3 : fR M' 104 3 = fR M 104 3) (ho : ∀ j, oN M' 109 j = oN M 109 j) : TXd M' := fun i j hi hj q => h i j hi hj (by
  unfold txr at q ⊢
  rw [h2, h3, ho, ho] at q
  exact q)
theorem TXd.frm {md : Md} (h : TXd M) (hS : SH M) (hF : Frm sT md M M') (hB : ((!mdIn md 7 2) && ((!mdIn md 7 3) && mdC md [1027])) = true) : TXd M' := by
  obtain ⟨b1, hB⟩ := and_t hB
  obtain ⟨b2, b3⟩ := and_t hB
  have hZ := frm_fz hS hF
  have g : gpB 109 [27] = true := by
    unfold gpB
    rw [qa_109]
    rfl
  exact h.same (hZ.fr (one_F qa_104 qo_22 b1)) (hZ.fr (one_F qa_104 qo_22 b2)) (fun j => hZ.on (gpB_W g b3))
theorem tx_far {s : Nat} (ht : gNth sT t = some 28) (hs : gNth sT s = some 28) (h : t ≠ s) : t + 9 ≤ s ∨ s + 9 ≤ t := by
  rcases tx_cases ht with h1 | h1 | h1 | h1 | h1 | h1 | h1 | h1 <;> rcases tx_cases hs with h2 | h2 | h2 | h2 | h2 | h2 | h2 | h2 <;> omega
theorem tx_r (ht : gNth sT t = some 28) : 110 ≤ t ∧ t + 8 ≤ 191 ∧ (t + 8 < 128 ∨ 138 ≤ t) := by
  rcases tx_cases ht with h1 | h1 | h1 | h1 | h1 | h1 | h1 | h1 <;> omega
/-- a text is read -/
theorem CST.txt (h : CST T P PI M) (hS : SQ M') (hF : FZ F W O M M') (hsp : gNth sT sp = some 28) (f : ∀ a k, F a k → (a = 104 ∧ (k = 2 ∨ k = 3)) ∨ a = 1 ∨ (a = 0 ∧ k = 15) ∨ a = 3 ∨ a = sp) (fw : ∀ a, W a → (4 ≤ a ∧ a ≤ 7) ∨ (sp + 1 ≤ a ∧ a ≤ sp + 8)) (fo : ∀ a, O a → a = 109) (hT : TXc T' M') : CST T' P PI M' := by
  obtain ⟨a1, ⟨a2, a3, a4⟩, a5, a6, a7, a8, ⟨a9, a10⟩, a11⟩ := h
  obtain ⟨r1, r2, r3⟩ := tx_r hsp
  have nF : ∀ a k, ¬ ((a = 104 ∧ (k = 2 ∨ k = 3)) ∨ a = 1 ∨ (a = 0 ∧ k = 15) ∨ a = 3 ∨ a = sp) → ¬ F a k := fun a k q r => q (f a k r)
  have nW : ∀ a, ¬ ((4 ≤ a ∧ a ≤ 7) ∨ (sp + 1 ≤ a ∧ a ≤ sp + 8)) → ¬ W a := fun a q r => q (fw a r)
  have nO : ∀ a, a ≠ 109 → ¬ O a := fun a q r => q (fo a r)
  refine ⟨hS, ⟨(hF.fr (nF _ _ (by omega))).trans a2, (hF.fr (nF _ _ (by omega))).trans a3, fun k hk => (hF.on (nO _ (by decide))).trans (a4 k hk)⟩, hT, fun m hm => (hF.on (nO _ (by decide))).trans (a6 m hm), a7.fz hF (nF _ _ (by omega)) (nF _ _ (by omega)) (fun a h1 h2 => nW _ (by omega)), fun L hL => ?_, ⟨a9, a10.fz hF (fun a k h1 h2 => nF _ _ (by omega)) (fun a h1 h2 => nW _ (by omega)) (nO _ (by decide)) (a8 8 lnd_8).2 a9.n24 a9.k60⟩, fun k hk hr => ?_⟩
  · have hc := ld_cases hL
    exact ⟨fun k hk => (hF.on (nO _ (by omega))).trans ((a8 L hL).1 k hk), (a8 L hL).2.on (fun j => hF.on (nO _ (by omega)))⟩
  · have er : rN M' 340 k = rN M 340 k := hF.rn (nW _ (by omega))
    rw [er] at hr
    obtain ⟨b1, b2⟩ := a11 k hk hr
    have hi := lnd_im k hk
    exact ⟨b1, b2.fz hF (fun a k q1 q2 => nF _ _ (by unfold imgA at q1; omega)) (fun a q1 q2 => nW _ (by unfold imgA at q1; omega)) (nO _ (by unfold imgA; omega)) (a8 _ hi).2 b1.n24 b1.k60⟩
theorem fRe_in {a k : Nat} (h : (a, k) ∈ fRe sp) : (a = 104 ∧ (k = 2 ∨ k = 3)) ∨ a = 1 ∨ (a = 0 ∧ k = 15) ∨ a = 3 ∨ a = sp := by
  unfold fRe fTx at h
  simp only [List.mem_append, List.mem_cons, Prod.mk.injEq, List.not_mem_nil, or_false] at h
  omega
theorem wTx_in {a : Nat} (h : a ∈ wTx sp) : (4 ≤ a ∧ a ≤ 7) ∨ (sp + 1 ≤ a ∧ a ≤ sp + 8) := by
  unfold wTx at h
  simp only [List.mem_cons, List.not_mem_nil, or_false] at h
  omega
/-- another text than the one that is read -/
theorem TXT.oth {q : TQ} (h : TXT M t q) (ht : gNth sT t = some 28) (hsp : gNth sT sp = some 28) (hne : t ≠ sp) (hF : FZ F W O M M') (f : ∀ a k, F a k → (a = 104 ∧ (k = 2 ∨ k = 3)) ∨ a = 1 ∨ (a = 0 ∧ k = 15) ∨ a = 3 ∨ a = sp) (fw : ∀ a, W a → (4 ≤ a ∧ a ≤ 7) ∨ (sp + 1 ≤ a ∧ a ≤ sp + 8)) : TXT M' t q := by
  obtain ⟨r1, r2, r3⟩ := tx_r ht
  have hd := tx_far ht hsp hne
  exact h.fz hF (fun k r => by have := f _ _ r; omega) (fun k k1 k8 r => by have := fw _ r; omega)
theorem TXT.l96 {q : TQ} (h : TXT M t q) : q.1.2.2.length ≤ 96 := h.2.1.2.1
theorem lawS_ok (h : CST T P PI M) (hd : TXd M) (hn : (zI M 1 1).toInt = (n : Int)) (hn2 : n ≤ 440) (hB : ∀ k, k < n → bC M k = B k) (H : Ev none (e + 3) 85 0 [some (.ref 0), none, none] [] M v M' 0 0) : (∃ x, v = some (.int x) ∧ x.toInt = ansB (rdB B n true ((prS B e).1 1))) ∧ CST (newT T 0 (rdB B n true ((prS B e).1 1))) P PI M' ∧ TXd M' ∧ ∀ q, rdB B n true ((prS B e).1 1) = .inl q → q.1.2.2.length ≤ 96 := by
  obtain ⟨hv, hS', hF, _, _, R⟩ := law_ok h.1 hn hn2 hB H
  obtain ⟨t3, t2⟩ := tN h.1
  have hZ : FZ (fun a k => (a, k) ∈ fRe (fR M 104 3)) (fun a => a ∈ wTx (fR M 104 3)) noO M M' := ⟨fun a k q => hF.1 a k q, fun b q => hF.2.1 b q, fun b _ => hF.2.2 b⟩
  have on : ∀ j, oN M' 109 j = oN M 109 j := fun j => hF.on
  obtain ⟨⟨c1, c2⟩, c3⟩ := h.2.2.1
  have ha : ∀ i, i < 6 → TXT M' (oN M' 109 i) (T (i + 1)) := fun i hi => by
    rw [on]
    refine (c3 i hi).1.oth (hab_t h.1.1 hi) t3 (fun q => ?_) hZ (fun a k => fRe_in) (fun a => wTx_in)
    have := hd (i + 1) 7 (by omega) (by decide) (by
      unfold txr
      rw [if_neg (by omega), if_neg (by omega), if_neg (by decide), if_pos rfl]
      exact q)
    omega
  cases hr : rdB B n true ((prS B e).1 1) with
  | inr f =>
    rw [hr] at R hv
    obtain ⟨R1, R2⟩ := R
    refine ⟨hv, h.txt hS' hZ t3 (fun a k => fRe_in) (fun a => wTx_in) (fun _ q => q.elim) ⟨⟨?_, c2⟩, fun i hi => ⟨ha i hi, (c3 i hi).2⟩⟩, hd.same R1 R2 on, fun q hq => by cases hq⟩
    rw [R1]
    refine c1.oth t2 t3 (fun q => ?_) hZ (fun a k => fRe_in) (fun a => wTx_in)
    have := hd 0 7 (by decide) (by decide) q
    cases this
  | inl q =>
    rw [hr] at R hv
    obtain ⟨R1, R2, R3⟩ := R
    refine ⟨hv, h.txt hS' hZ t3 (fun a k => fRe_in) (fun a => wTx_in) (fun _ q => q.elim) ⟨⟨?_, ?_⟩, fun i hi => ?_⟩, ?_, fun q' hq => by cases hq; exact R3.l96⟩
    · rw [R1]
      exact R3
    · exact rd_wf hn2 hr
    · show TXT M' (oN M' 109 i) (if i + 1 = 0 then q else T (i + 1)) ∧ LW (if i + 1 = 0 then q else T (i + 1))
      rw [if_neg (by omega)]
      exact ⟨ha i hi, (c3 i hi).2⟩
    · refine hd.sw (a := 0) (b := 7) (by decide) (by decide) (fun i hi => ?_)
      by_cases h0 : i = 0
      · rw [h0, swN_a]
        exact R1
      · by_cases h7 : i = 7
        · rw [h7, swN_b]
          exact R2
        · rw [swN_o h0 h7]
          unfold txr
          rw [if_neg h0, if_neg h7, if_neg h0, if_neg h7, on]
theorem habS_ok (h : CST T P PI M) (hd : TXd M) (hx : 0 ≤ x.toInt ∧ x.toInt ≤ 5) (hn : (zI M 1 1).toInt = (n : Int)) (hn2 : n ≤ 440) (hB : ∀ k, k < n → bC M k = B k) (H : Ev none (e + 3) 86 0 [some (.ref 0), some (.int x), none, none] [] M v M' 0 0) : (∃ x, v = some (.int x) ∧ x.toInt = ansB (rdB B n false ((prS B e).1 1))) ∧ CST (newT T (x.toInt.toNat + 1) (rdB B n false ((prS B e).1 1))) P PI M' ∧ TXd M' ∧ ∀ q, rdB B n false ((prS B e).1 1) = .inl q → q.1.2.2.length ≤ 96 := by
  obtain ⟨hv, hS', hF1, hF2, hF3, _, _, hl, R⟩ := hab_ok h.1 hx hn hn2 hB H
  obtain ⟨t3, t2⟩ := tN h.1
  have hZ : FZ (fun a k => (a, k) ∈ fRe (fR M 104 3)) (fun a => a ∈ wTx (fR M 104 3)) (fun a => a = 109) M M' := ⟨hF1, hF2, hF3⟩
  obtain ⟨⟨c1, c2⟩, c3⟩ := h.2.2.1
  obtain ⟨m, em⟩ : ∃ m, m = x.toInt.toNat := ⟨_, rfl⟩
  have hm6 : m < 6 := by omega
  have ex : x.toNatClampNeg = m := cl_n (by omega)
  have hla : TXT M' (fR M' 104 2) (T 0) := by
    rw [hl]
    refine c1.oth t2 t3 (fun q => ?_) hZ (fun a k => fRe_in) (fun a => wTx_in)
    have := hd 0 7 (by decide) (by decide) q
    cases this
  have ha : ∀ i, i < 6 → oN M' 109 i = oN M 109 i → TXT M' (oN M' 109 i) (T (i + 1)) := fun i hi on => by
    rw [on]
    refine (c3 i hi).1.oth (hab_t h.1.1 hi) t3 (fun q => ?_) hZ (fun a k => fRe_in) (fun a => wTx_in)
    have := hd (i + 1) 7 (by omega) (by decide) (by
      unfold txr
      rw [if_neg (by omega), if_neg (by omega), if_neg (by decide), if_pos rfl]
      exact q)
    omega
  rw [← em]
  cases hr : rdB B n false ((prS B e).1 1) with
  | inr f =>
    rw [hr] at R hv
    obtain ⟨R1, R2⟩ := R
    have on : ∀ j, oN M' 109 j = oN M 109 j := fun j => by unfold oN; rw [R1]
    exact ⟨hv, h.txt hS' hZ t3 (fun a k => fRe_in) (fun a => wTx_in) (fun _ q => q) ⟨⟨hla, c2⟩, fun i hi => ⟨ha i hi (on i), (c3 i hi).2⟩⟩, hd.same hl R2 on, fun q hq => by cases hq⟩
  | inl q =>
    rw [hr] at R hv
    obtain ⟨R1, R2, R3⟩ := R
    rw [ex] at R1
    have ln : (roL M 109).length = 6 := (h.1.1.ror qa_109 qz_27).2.1
    have on : ∀ j, j ≠ m → oN M' 109 j = oN M 109 j := fun j hj => by
      unfold oN
      rw [R1, nth_put, if_neg (fun q => hj q.1)]
    have om : oN M' 109 m = fR M 104 3 := by
      unfold oN
      rw [R1, nth_put, if_pos ⟨rfl, by omega⟩]
      rfl
    have eo : oI M 109 x = oN M 109 m := by unfold oI; rw [ex]
    rw [eo] at R2
    refine ⟨hv, h.txt hS' hZ t3 (fun a k => fRe_in) (fun a => wTx_in) (fun _ q => q) ⟨⟨?_, ?_⟩, fun i hi => ?_⟩, ?_, fun q' hq => by cases hq; exact R3.l96⟩
    · show TXT M' (fR M' 104 2) (if 0 = m + 1 then q else T 0)
      rw [if_neg (by omega)]
      exact hla
    · show LW (if 0 = m + 1 then q else T 0)
      rw [if_neg (by omega)]
      exact c2
    · show TXT M' (oN M' 109 i) (if i + 1 = m + 1 then q else T (i + 1)) ∧ LW (if i + 1 = m + 1 then q else T (i + 1))
      by_cases him : i = m
      · rw [if_pos (by omega), him, om]
        exact ⟨R3, rd_wf hn2 hr⟩
      · rw [if_neg (by omega)]
        exact ⟨ha i hi (on i him), (c3 i hi).2⟩
    · refine hd.sw (a := m + 1) (b := 7) (by omega) (by decide) (fun i hi => ?_)
      by_cases h0 : i = m + 1
      · rw [h0, swN_a]
        unfold txr
        rw [if_neg (by omega), if_neg (by omega), if_neg (by decide), if_pos rfl]
        exact om
      · by_cases h7 : i = 7
        · rw [h7, swN_b]
          unfold txr
          rw [if_neg (by decide), if_pos rfl, if_neg (by omega), if_neg (by omega)]
          exact R2
        · rw [swN_o h0 h7]
          unfold txr
          by_cases hz : i = 0
          · rw [if_pos hz, if_pos hz]
            exact hl
          · rw [if_neg hz, if_neg h7, if_neg hz, if_neg h7, on _ (by omega)]
/-! the reference's -/
theorem rlawS_ok (hR : RST T P M) (hn2 : n ≤ 440) (hn : (zI M 633 2).toInt = (n : Int)) (hk : 33 ≤ e) (hq : ∀ q, rdB (bR M) n true ((prS (bR M) e).1 1) = .inl q → q.1.2.2.length ≤ 96) (H : Ev none (e + 3) 183 0 [some (.ref 633), none] [] M v M' 0 0) : (∃ x, v = some (.int x) ∧ x.toInt = ansB (rdB (bR M) n true ((prS (bR M) e).1 1))) ∧ RST (newT T 0 (rdB (bR M) n true ((prS (bR M) e).1 1))) P M' := by
  obtain ⟨hv, hS', hF, _, _, _, R, lo⟩ := rlaw_ok (kk := e) hn2 hk hR.1 hn H
  obtain ⟨_, h2, ⟨h3, h4, h5⟩, h6⟩ := hR
  have hs : ∀ i, i < 2314 → rN M' 635 i = P i := fun i hi => by rw [hF.rn (by decide)]; exact h2 i hi
  cases hr : rdB (bR M) n true ((prS (bR M) e).1 1) with
  | inr f =>
    rw [hr] at R hv
    obtain ⟨R1, R2, R3, R4⟩ := R
    exact ⟨hv, hS', hs, ⟨R1.trans h3, R2.trans h4, R3.trans h5⟩, fun t ht => ⟨⟨R4 t ht _ (h6 t ht).1.1, (h6 t ht).1.2⟩, (h6 t ht).2⟩⟩
  | inl q =>
    rw [hr] at R hv
    obtain ⟨R0, R1, R2, R3⟩ := R
    refine ⟨hv, hS', hs, ⟨R1, R2, R3⟩, fun t ht => ?_⟩
    show (TXR M' t (if t = 0 then q else T t) ∧ LW (if t = 0 then q else T t)) ∧ (if t = 0 then q else T t).1.2.2.length ≤ 96
    by_cases h0 : t = 0
    · rw [if_pos h0, h0]
      exact ⟨⟨R0, rd_wf hn2 hr⟩, hq q hr⟩
    · rw [if_neg h0]
      exact ⟨⟨lo t ht h0 _ (h6 t ht).1.1, (h6 t ht).1.2⟩, (h6 t ht).2⟩
theorem rhabS_ok (hR : RST T P M) (hx : 0 ≤ x.toInt ∧ x.toInt ≤ 5) (hn2 : n ≤ 440) (hn : (zI M 633 2).toInt = (n : Int)) (hk : 33 ≤ e) (hq : ∀ q, rdB (bR M) n false ((prS (bR M) e).1 1) = .inl q → q.1.2.2.length ≤ 96) (H : Ev none (e + 3) 184 0 [some (.ref 633), some (.int x)] [] M v M' 0 0) (h28 : ∀ k, 28 ≤ k → k ≤ 30 → zI M' 633 k = zI M 633 k) : (∃ x, v = some (.int x) ∧ x.toInt = ansB (rdB (bR M) n false ((prS (bR M) e).1 1))) ∧ RST (newT T (x.toInt.toNat + 1) (rdB (bR M) n false ((prS (bR M) e).1 1))) P M' := by
  obtain ⟨m, em⟩ : ∃ m, m = x.toInt.toNat := ⟨_, rfl⟩
  rw [← em]
  obtain ⟨hv, hS', hF, _, _, _, R, lo⟩ := rhab_ok (kk := e) (t := m) (by omega) (by omega) hn2 hk hR.1 hn H
  obtain ⟨_, h2, ⟨h3, h4, h5⟩, h6⟩ := hR
  have hs : ∀ i, i < 2314 → rN M' 635 i = P i := fun i hi => by rw [hF.rn (by decide)]; exact h2 i hi
  have z : zI M' 633 28 = bdQ (T 0) ∧ zI M' 633 29 = mdQ (T 0) ∧ zI M' 633 30 = dyQ (T 0) := ⟨(h28 28 (by decide) (by decide)).trans h3, (h28 29 (by decide) (by decide)).trans h4, (h28 30 (by decide) (by decide)).trans h5⟩
  cases hr : rdB (bR M) n false ((prS (bR M) e).1 1) with
  | inr f =>
    rw [hr] at R hv
    exact ⟨hv, hS', hs, z, fun t ht => ⟨⟨R t ht _ (h6 t ht).1.1, (h6 t ht).1.2⟩, (h6 t ht).2⟩⟩
  | inl q =>
    rw [hr] at R hv
    refine ⟨hv, hS', hs, ?_, fun t ht => ?_⟩
    · show zI M' 633 28 = bdQ (if 0 = m + 1 then q else T 0) ∧ zI M' 633 29 = mdQ (if 0 = m + 1 then q else T 0) ∧ zI M' 633 30 = dyQ (if 0 = m + 1 then q else T 0)
      rw [if_neg (by omega)]
      exact z
    · show (TXR M' t (if t = m + 1 then q else T t) ∧ LW (if t = m + 1 then q else T t)) ∧ (if t = m + 1 then q else T t).1.2.2.length ≤ 96
      by_cases h0 : t = m + 1
      · rw [if_pos h0, h0]
        exact ⟨⟨R, rd_wf hn2 hr⟩, hq q hr⟩
      · rw [if_neg h0]
        exact ⟨⟨lo t ht h0 _ (h6 t ht).1.1, (h6 t ht).1.2⟩, (h6 t ht).2⟩
end TXTS
/-! WHAT STANDS, through the class's inner calls -/
section CTM
theorem gRep_l (n : Nat) (x : Int32) : (gRep n x).length = n := by
  induction n with
  | zero => rfl
  | succ n ih =>
    show (x :: gRep n x).length = _
    rw [List.length_cons, ih]
set_option maxRecDepth 200000 in
theorem tm_f : fiB 22 7 8 0 1 = true ∧ fiB 22 7 9 (-2147483648) 2147483647 = true ∧ fiB 22 7 10 0 1 = true ∧ fdB 22 7 7 8 = true ∧ fiB 8 1 0 4 16 = true ∧ fiB 8 1 1 4 16 = true := by refine ⟨?_, ?_, ?_, ?_, ?_, ?_⟩ <;> decide +kernel
set_option maxRecDepth 200000 in
theorem tm_37 : (match gNth sG 37 with
    | some (.inr (q, m, .inl [(0, m2, 1, [(x, y)])])) => Nat.beq q 1 && (Nat.beq m 1536 && (!Nat.beq q 2 && (Nat.beq m2 1536 && (decide (x ≤ -2147483648) && decide (2147483647 ≤ y)))))
    | _ => false) = true := by decide +kernel
set_option maxRecDepth 200000 in
theorem mx_1 : (gNth mRs 1).map (fun q => q.2.2.2.1) = some 5 := by decide +kernel
variable {a b g ci k g2 kd n d : Nat} {lo hi : Int} {x : Int32} {md : Md} {c : CN} {M M1 M' : Mem} {v : Option Value} {ws : List Value} {e L : Nat} {T : TS} {P : PK} {PI : Nat → PK}
theorem Ev.det2 {sc : Sta} {d me pc : Nat} {ls : Lo} {st : List Value} {M M1 M2 : Mem} {v1 v2 : Option Value} {c1 s1 c2 s2 : Nat} (h1 : Ev sc d me pc ls st M v1 M1 c1 s1) (h2 : Ev sc d me pc ls st M v2 M2 c2 s2) : v1 = v2 ∧ M1 = M2 := by
  obtain ⟨n1, h1⟩ := h1
  obtain ⟨n2, h2⟩ := h2
  have e1 := go_mono h1 n2
  have e2 := go_mono h2 n1
  rw [Nat.add_comm n2 n1] at e2
  have e3 := Option.some.inj (e1.symm.trans e2)
  exact ⟨congrArg (fun q => q.1) e3, congrArg (fun q => q.2.1) e3⟩
theorem inv_d (hc : cnOK sT sG FL0 c) (hB : invC c = true) (hm : (gNth mRs c.1).map (fun q => q.2.2.2.1) = some k) (hd : c.2.1 ≤ d) (ha : Two (taOK sT) c.2.2.1 ws) (hI : INV M) (H : Ev none d c.1 0 (gPad k (gArgs ws)) [] M v M' 0 0) : INV M' ∧ Frm sT c.2.2.2.2.2.1 M M' ∧ ∃ s ∈ c.2.2.2.2.2.2, csOK sT FL0 ws v M' s := by
  obtain ⟨v2, M2, h1, h2, h3, h4⟩ := inv_f hc hB hm hd ha hI
  obtain ⟨e1, e2⟩ := Ev.det2 H h1
  rw [e1, e2]
  exact ⟨h2, h3, h4⟩
theorem INV.frmT (h : INV M) (hT : TM sT sG M') (hF : Frm sT md M M') (hB : [24, 28, 32, 34].all (fun x => md.all (fun q => !mdIn (dp0 x) q.1 q.2)) = true) : INV M' := ⟨hT, fun x hx => by
  refine dp0_frm 0 x [] md M M' hF (fun q hq hm => ?_) (h.2 x hx)
  have h2 := List.all_eq_true.mp (List.all_eq_true.mp hB x (by simp only [List.mem_cons, List.not_mem_nil, or_false]; exact hx)) q hq
  rw [mdIn_iff.mpr hm] at h2
  cases h2⟩
theorem TM.wFi (hT : TM sT sG M) (ha : gNth sT a = some g) (hB : fiB g ci k lo hi = true) (h0 : lo ≤ x.toInt) (h1 : x.toInt ≤ hi) : TM sT sG (wF M a k x) ∧ Frm sT [(ci, k)] M (wF M a k x) := by
  obtain ⟨vs, y, g1, g2, _, _, _, h⟩ := hT.fnum ha hB
  have e : wF M a k x = gPut M a (.inr (ci, gPut vs k (.int x))) := by
    unfold wF
    rw [g1]
    dsimp only
    rw [g2]
  rw [e]
  exact ⟨h x h0 h1, Frm.fld g1 (by simp)⟩
theorem TM.wRr (hT : TM sT sG M) (ha : gNth sT a = some g) (hB : fdB g ci k g2 = true) (hb : gNth sT b = some g2) : TM sT sG (wR M a k b) ∧ Frm sT [(ci, k)] M (wR M a k b) := by
  unfold fdB at hB
  split at hB
  rotate_left
  · cases hB
  rename_i c fs e
  obtain ⟨h1, h2⟩ := and_t hB
  cases Nat.eq_of_beq_eq_true h1
  split at h2
  rotate_left
  · cases h2
  rename_i n e2
  cases Nat.eq_of_beq_eq_true h2
  obtain ⟨vs, m1, m2, m3⟩ := hT.obj ha e
  have eq : wR M a k b = gPut M a (.inr (ci, gPut vs k (.ref b))) := by
    unfold wR
    rw [m1]
  rw [eq]
  refine ⟨hT.oput ha e m1 e2 ?_, Frm.fld m1 (by simp)⟩
  show (∃ a, Value.ref b = .ref a ∧ gNth sT a = some (2 * g2 / 2)) ∨ _
  exact Or.inl ⟨b, rfl, by rw [show 2 * g2 / 2 = g2 by omega]; exact hb⟩
theorem TM.wAx (hT : TM sT sG M) (hS : SH M) (ha : gNth sT a = some g) (hW : wB g 1 n = true) (h : (match gNth sG g with
    | some (.inr (q, m, .inl [(0, m2, 1, [(x, y)])])) => Nat.beq q 1 && (Nat.beq m n && (!Nat.beq q 2 && (Nat.beq m2 n && (decide (x ≤ -2147483648) && decide (2147483647 ≤ y)))))
    | _ => false) = true) : TM sT sG (wA M a x) ∧ Frm sT [(1000 + g, 0)] M (wA M a x) := by
  obtain ⟨r1, r2⟩ := hS.row ha hW
  have e : wA M a x = gPut M a (.inl (1, .inl (gRep (zrw M a).length x))) := by
    unfold wA wL
    rw [r1]
  rw [e]
  refine ⟨hT.putrow (n := n) (lo := -2147483648) (hi := 2147483647) ha h (by rw [gRep_l, r2]) (fun _ x _ => i32_any x), Frm.row r1 ha (by simp)⟩
theorem LND.zi (hT : TM sT sG M) (hL : gNth sT L = some 8) : (4 ≤ (zI M L 0).toInt ∧ (zI M L 0).toInt ≤ 16) ∧ 4 ≤ (zI M L 1).toInt ∧ (zI M L 1).toInt ≤ 16 := by
  obtain ⟨vs, y, g1, g2, _, h0, h1, _⟩ := hT.fnum hL tm_f.2.2.2.2.1
  obtain ⟨vs2, y2, g3, g4, _, h2, h3, _⟩ := hT.fnum hL tm_f.2.2.2.2.2
  have e0 : zI M L 0 = y := by
    unfold zI fV
    rw [g1]
    dsimp only
    rw [g2]
  have e1 : zI M L 1 = y2 := by
    unfold zI fV
    rw [g3]
    dsimp only
    rw [g4]
  rw [e0, e1]
  exact ⟨⟨h0, h1⟩, h2, h3⟩
/-- enter keeps what stands -/
theorem enter_inv (hI : INV M) (hX : FX M) (hL : gNth sT L = some 8) (he : 4 ≤ e) (H : Ev none e 54 0 [some (.ref 104), some (.ref L)] [] M v M' 0 0) : INV M' := by
  have hS : SQ M := ⟨hI.1.sh, hX⟩
  obtain ⟨e1, v1, M1, he1, H1, H⟩ := ent_0 hS hL H
  have S0 : SQ (wR M 104 7 L) := hS.kr_22_7 hL
  obtain ⟨w1, w2⟩ := hI.1.wRr qa_104 tm_f.2.2.2.1 hL
  have I0 : INV (wR M 104 7 L) := hI.frmT w1 w2 (by decide +kernel)
  obtain ⟨q1, q2⟩ := LND.zi hI.1 hL
  obtain ⟨I1, F1, s, hs, hcs⟩ := inv_d (c := kX0_shape) (k := 5) (ws := [.ref 105, .int (zI M L 0), .int (zI M L 1)]) kX0_shape_ok (by decide +kernel) mx_1 (by show 2 ≤ e1; omega) (Two.mk rfl (Two.mk ⟨_, rfl, q1⟩ (Two.mk ⟨_, rfl, q2⟩ trivial))) I0 H1
  have hv : v1 = none := by
    have hs : s ∈ [(none, [], [], [], [])] := hs
    rw [List.mem_singleton] at hs
    subst hs
    cases v1 with
    | none => rfl
    | some w => exact hcs.1.elim
  rw [hv] at H
  have S1 : SQ M1 := ⟨I1.1.sh, S0.2.frm S0.1 F1 (by decide +kernel)⟩
  obtain ⟨_, eM⟩ := ent_26 S1 hL H
  obtain ⟨t1, f1⟩ := I1.1.wFi (x := 0) qa_104 tm_f.1 (by decide) (by decide)
  obtain ⟨t2, f2⟩ := t1.wFi (x := -1) qa_104 tm_f.2.1 (by decide) (by decide)
  obtain ⟨t3, f3⟩ := t2.wFi (x := 0) qa_104 tm_f.2.2.1 (by decide) (by decide)
  obtain ⟨t4, f4⟩ := t3.wAx (x := -1) t3.sh qa_128 qw_37 tm_37
  have eM2 : M' = wA (wF (wF (wF M1 104 8 0) 104 9 (-1)) 104 10 0) 128 (-1) := eM
  rw [eM2]
  have F : Frm sT [(7, 8), (7, 9), (7, 10), (1037, 0)] M1 (wA (wF (wF (wF M1 104 8 0) 104 9 (-1)) 104 10 0) 128 (-1)) := (((f1.more (by simp)).trans (f2.more (by simp))).trans (f3.more (by simp))).trans (f4.more (by simp))
  exact I1.frmT t4 F (by decide +kernel)
end CTM
