/-! THE REFERENCE'S READER: pieces (made by gre.py) -/
noncomputable def G_140 (M : Mem) (x : Int32) (y : Int32) (z : Int32) : Int32 := if x < y then 0 else (if z < x then 0 else 1)
theorem g_140 {e : Nat} {M M' : Mem} {v : Option Value} {x y z : Int32} (hS : SQ M) (H : Ev none e 140 0 [some (.int x), some (.int y), some (.int z)] [] M v M' 0 0) : v = some (.int (G_140 M x y z)) ∧ M' = M := by
  unfold G_140
  have H : Ev none e 140 (if x < y then 14 else 5) [some (.int x), some (.int y), some (.int z)] [] M v M' 0 0 := Ev.back 3 (fun n => rfl) H
  by_cases h1 : x < y
  · rw [if_pos h1] at H
    have H : Ev none e 140 15 [some (.int x), some (.int y), some (.int z)] [.int 0] M v M' 0 0 := Ev.back 1 (fun n => rfl) H
    obtain ⟨p1, p2⟩ := Ev.retz rfl rfl H
    exact ⟨by rw [if_pos h1]; exact p1, p2⟩
  · rw [if_neg h1] at H
    have H : Ev none e 140 (if z < x then 14 else 10) [some (.int x), some (.int y), some (.int z)] [] M v M' 0 0 := Ev.back 3 (fun n => rfl) H
    by_cases h2 : z < x
    · rw [if_pos h2] at H
      have H : Ev none e 140 15 [some (.int x), some (.int y), some (.int z)] [.int 0] M v M' 0 0 := Ev.back 1 (fun n => rfl) H
      obtain ⟨p1, p2⟩ := Ev.retz rfl rfl H
      exact ⟨by rw [if_neg h1, if_pos h2]; exact p1, p2⟩
    · rw [if_neg h2] at H
      have H : Ev none e 140 15 [some (.int x), some (.int y), some (.int z)] [.int 1] M v M' 0 0 := Ev.back 2 (fun n => rfl) H
      obtain ⟨p1, p2⟩ := Ev.retz rfl rfl H
      exact ⟨by rw [if_neg h1, if_neg h2]; exact p1, p2⟩
noncomputable def G_159 (M : Mem) : Int32 := if (zI M 633 3) ≤ (zI M 633 4) then (-1) else (rI M 634 (zI M 633 4)) &&& 255
theorem g_159 {e : Nat} {M M' : Mem} {v : Option Value} (hS : SQ M) (H : Ev none e 159 0 [some (.ref 633)] [] M v M' 0 0) : v = some (.int (G_159 M)) ∧ M' = M := by
  unfold G_159
  have H : Ev none e 159 1 [some (.ref 633)] [.ref 633] M v M' 0 0 := Ev.back 1 (fun n => rfl) H
  have H : Ev none e 159 4 [some (.ref 633)] [.int (zI M 633 4)] M v M' 0 0 := Ev.back 1 (gs_3 rfl rfl (gf_i hS.1 qa_633 qi_61_4 rfl)) H
  have H : Ev none e 159 5 [some (.ref 633)] [.ref 633, .int (zI M 633 4)] M v M' 0 0 := Ev.back 1 (fun n => rfl) H
  have H : Ev none e 159 8 [some (.ref 633)] [.int (zI M 633 3), .int (zI M 633 4)] M v M' 0 0 := Ev.back 1 (gs_3 rfl rfl (gf_i hS.1 qa_633 qi_61_3 rfl)) H
  have H : Ev none e 159 (if (zI M 633 3) ≤ (zI M 633 4) then 27 else 11) [some (.ref 633)] [] M v M' 0 0 := Ev.back 1 (fun n => rfl) H
  by_cases h1 : (zI M 633 3) ≤ (zI M 633 4)
  · rw [if_pos h1] at H
    have H : Ev none e 159 28 [some (.ref 633)] [.int (-1)] M v M' 0 0 := Ev.back 1 (fun n => rfl) H
    obtain ⟨p1, p2⟩ := Ev.retz rfl rfl H
    exact ⟨by rw [if_pos h1]; exact p1, p2⟩
  · rw [if_neg h1] at H
    have H : Ev none e 159 12 [some (.ref 633)] [.ref 633] M v M' 0 0 := Ev.back 1 (fun n => rfl) H
    have H : Ev none e 159 15 [some (.ref 633)] [.ref 634] M v M' 0 0 := Ev.back 1 (gs_3 rfl rfl (gf_u hS.1 qa_633 qr_61_1 qu_62 rfl)) H
    have H : Ev none e 159 16 [some (.ref 633)] [.ref 633, .ref 634] M v M' 0 0 := Ev.back 1 (fun n => rfl) H
    have H : Ev none e 159 19 [some (.ref 633)] [.int (zI M 633 4), .ref 634] M v M' 0 0 := Ev.back 1 (gs_3 rfl rfl (gf_i hS.1 qa_633 qi_61_4 rfl)) H
    obtain ⟨b2, H⟩ := Ev.bal rfl rfl hS.1 qa_634 qw_62 (Or.inl rfl) H
    have H : Ev none e 159 20 [some (.ref 633)] [.int (rI M 634 (zI M 633 4))] M v M' 0 0 := H
    have H : Ev none e 159 28 [some (.ref 633)] [.int ((rI M 634 (zI M 633 4)) &&& 255)] M v M' 0 0 := Ev.back 3 (fun n => rfl) H
    obtain ⟨p1, p2⟩ := Ev.retz rfl rfl H
    exact ⟨by rw [if_neg h1]; exact p1, p2⟩
noncomputable def G_160 (M : Mem) (c : Int32) : Int32 := if c < 97 then 0 else (if 122 < c then 0 else 1)
theorem g_160 {e : Nat} {M M' : Mem} {v : Option Value} {c : Int32} (hS : SQ M) (H : Ev none e 160 0 [some (.int c)] [] M v M' 0 0) : v = some (.int (G_160 M c)) ∧ M' = M := by
  unfold G_160
  have H : Ev none e 160 (if c < 97 then 16 else 6) [some (.int c)] [] M v M' 0 0 := Ev.back 3 (fun n => rfl) H
  by_cases h1 : c < 97
  · rw [if_pos h1] at H
    have H : Ev none e 160 17 [some (.int c)] [.int 0] M v M' 0 0 := Ev.back 1 (fun n => rfl) H
    obtain ⟨p1, p2⟩ := Ev.retz rfl rfl H
    exact ⟨by rw [if_pos h1]; exact p1, p2⟩
  · rw [if_neg h1] at H
    have H : Ev none e 160 (if 122 < c then 16 else 12) [some (.int c)] [] M v M' 0 0 := Ev.back 3 (fun n => rfl) H
    by_cases h2 : 122 < c
    · rw [if_pos h2] at H
      have H : Ev none e 160 17 [some (.int c)] [.int 0] M v M' 0 0 := Ev.back 1 (fun n => rfl) H
      obtain ⟨p1, p2⟩ := Ev.retz rfl rfl H
      exact ⟨by rw [if_neg h1, if_pos h2]; exact p1, p2⟩
    · rw [if_neg h2] at H
      have H : Ev none e 160 17 [some (.int c)] [.int 1] M v M' 0 0 := Ev.back 2 (fun n => rfl) H
      obtain ⟨p1, p2⟩ := Ev.retz rfl rfl H
      exact ⟨by rw [if_neg h1, if_neg h2]; exact p1, p2⟩
noncomputable def G_161 (M : Mem) (c : Int32) : Int32 := if c < 48 then 0 else (if 57 < c then 0 else 1)
theorem g_161 {e : Nat} {M M' : Mem} {v : Option Value} {c : Int32} (hS : SQ M) (H : Ev none e 161 0 [some (.int c)] [] M v M' 0 0) : v = some (.int (G_161 M c)) ∧ M' = M := by
  unfold G_161
  have H : Ev none e 161 (if c < 48 then 16 else 6) [some (.int c)] [] M v M' 0 0 := Ev.back 3 (fun n => rfl) H
  by_cases h1 : c < 48
  · rw [if_pos h1] at H
    have H : Ev none e 161 17 [some (.int c)] [.int 0] M v M' 0 0 := Ev.back 1 (fun n => rfl) H
    obtain ⟨p1, p2⟩ := Ev.retz rfl rfl H
    exact ⟨by rw [if_pos h1]; exact p1, p2⟩
  · rw [if_neg h1] at H
    have H : Ev none e 161 (if 57 < c then 16 else 12) [some (.int c)] [] M v M' 0 0 := Ev.back 3 (fun n => rfl) H
    by_cases h2 : 57 < c
    · rw [if_pos h2] at H
      have H : Ev none e 161 17 [some (.int c)] [.int 0] M v M' 0 0 := Ev.back 1 (fun n => rfl) H
      obtain ⟨p1, p2⟩ := Ev.retz rfl rfl H
      exact ⟨by rw [if_neg h1, if_pos h2]; exact p1, p2⟩
    · rw [if_neg h2] at H
      have H : Ev none e 161 17 [some (.int c)] [.int 1] M v M' 0 0 := Ev.back 2 (fun n => rfl) H
      obtain ⟨p1, p2⟩ := Ev.retz rfl rfl H
      exact ⟨by rw [if_neg h1, if_neg h2]; exact p1, p2⟩
theorem nx_0 {e : Nat} {M M' : Mem} {v : Option Value} (hS : SQ M) (H : Ev none e 162 0 [some (.ref 633), none, none, none] [] M v M' 0 0) : ((G_159 M) = 32 ∧ Ev none e 162 0 [some (.ref 633), none, none, none] [] (wF M 633 4 ((zI M 633 4) + 1)) v M' 0 0) ∨ (¬ ((G_159 M) = 32) ∧ (G_159 M) = 10 ∧ Ev none e 162 0 [some (.ref 633), none, none, none] [] (wF M 633 4 ((zI M 633 4) + 1)) v M' 0 0) ∨ (¬ ((G_159 M) = 32) ∧ ¬ ((G_159 M) = 10) ∧ Ev none e 162 31 [some (.ref 633), none, none, none] [] M v M' 0 0) := by
  have H : Ev none e 162 1 [some (.ref 633), none, none, none] [.ref 633] M v M' 0 0 := Ev.back 1 (fun n => rfl) H
  obtain ⟨e1, rfl⟩ := Ev.dpos rfl rfl H
  obtain ⟨vK1, MK1, K1, H⟩ := Ev.callb (fun n => gs_7 rfl rfl (show gCal (.invokevirtual 164) 11 (.ref 633 :: []) M = some (.inr (159, [some (.ref 633)], [])) from by show @cond (Option ((List Value × Mem) ⊕ (Nat × Lo × List Value))) (true && gRecv M (.ref 633) 11 && gRoom [] && true) (some (.inr (159, [some (.ref 633)], []))) none = _; rw [recv_s hS.1 qa_633 qo_61]; rfl)) H
  obtain ⟨pK1, qK1⟩ := g_159 hS K1
  rw [pK1, qK1] at H
  have H : Ev none (e1 + 1) 162 4 [some (.ref 633), none, none, none] [.int (G_159 M)] M v M' 0 0 := H
  have H : Ev none (e1 + 1) 162 (if (G_159 M) = 32 then 18 else 9) [some (.ref 633), none, none, none] [] M v M' 0 0 := Ev.back 2 (fun n => rfl) H
  by_cases h2 : (G_159 M) = 32
  · rw [if_pos h2] at H
    have H : Ev none (e1 + 1) 162 20 [some (.ref 633), none, none, none] [.ref 633, .ref 633] M v M' 0 0 := Ev.back 2 (fun n => rfl) H
    have H : Ev none (e1 + 1) 162 23 [some (.ref 633), none, none, none] [.int (zI M 633 4), .ref 633] M v M' 0 0 := Ev.back 1 (gs_3 rfl rfl (gf_i hS.1 qa_633 qi_61_4 rfl)) H
    have H : Ev none (e1 + 1) 162 25 [some (.ref 633), none, none, none] [.int ((zI M 633 4) + 1), .ref 633] M v M' 0 0 := Ev.back 2 (fun n => rfl) H
    obtain ⟨N4, eN4⟩ : ∃ N, N = (wF M 633 4 ((zI M 633 4) + 1)) := ⟨_, rfl⟩
    have hN4 : SQ N4 := by rw [eN4]; exact hS.kf
    have H : Ev none (e1 + 1) 162 28 [some (.ref 633), none, none, none] [] N4 v M' 0 0 := by rw [eN4]; exact Ev.pfi rfl rfl rfl hS.1 qa_633 qi_61_4 H
    have H : Ev none (e1 + 1) 162 0 [some (.ref 633), none, none, none] [] N4 v M' 0 0 := Ev.back 1 (fun n => rfl) H
    have HF := H
    subst eN4
    exact Or.inl ⟨h2, HF⟩
  · rw [if_neg h2] at H
    have H : Ev none (e1 + 1) 162 10 [some (.ref 633), none, none, none] [.ref 633] M v M' 0 0 := Ev.back 1 (fun n => rfl) H
    obtain ⟨vK5, MK5, K5, H⟩ := Ev.callb (fun n => gs_7 rfl rfl (show gCal (.invokevirtual 164) 11 (.ref 633 :: []) M = some (.inr (159, [some (.ref 633)], [])) from by show @cond (Option ((List Value × Mem) ⊕ (Nat × Lo × List Value))) (true && gRecv M (.ref 633) 11 && gRoom [] && true) (some (.inr (159, [some (.ref 633)], []))) none = _; rw [recv_s hS.1 qa_633 qo_61]; rfl)) H
    obtain ⟨pK5, qK5⟩ := g_159 hS K5
    rw [pK5, qK5] at H
    have H : Ev none (e1 + 1) 162 13 [some (.ref 633), none, none, none] [.int (G_159 M)] M v M' 0 0 := H
    have H : Ev none (e1 + 1) 162 (if (G_159 M) = 10 then 18 else 31) [some (.ref 633), none, none, none] [] M v M' 0 0 := Ev.back 2 (fun n => rfl) H
    by_cases h6 : (G_159 M) = 10
    · rw [if_pos h6] at H
      have H : Ev none (e1 + 1) 162 20 [some (.ref 633), none, none, none] [.ref 633, .ref 633] M v M' 0 0 := Ev.back 2 (fun n => rfl) H
      have H : Ev none (e1 + 1) 162 23 [some (.ref 633), none, none, none] [.int (zI M 633 4), .ref 633] M v M' 0 0 := Ev.back 1 (gs_3 rfl rfl (gf_i hS.1 qa_633 qi_61_4 rfl)) H
      have H : Ev none (e1 + 1) 162 25 [some (.ref 633), none, none, none] [.int ((zI M 633 4) + 1), .ref 633] M v M' 0 0 := Ev.back 2 (fun n => rfl) H
      obtain ⟨N8, eN8⟩ : ∃ N, N = (wF M 633 4 ((zI M 633 4) + 1)) := ⟨_, rfl⟩
      have hN8 : SQ N8 := by rw [eN8]; exact hS.kf
      have H : Ev none (e1 + 1) 162 28 [some (.ref 633), none, none, none] [] N8 v M' 0 0 := by rw [eN8]; exact Ev.pfi rfl rfl rfl hS.1 qa_633 qi_61_4 H
      have H : Ev none (e1 + 1) 162 0 [some (.ref 633), none, none, none] [] N8 v M' 0 0 := Ev.back 1 (fun n => rfl) H
      have HF := H
      subst eN8
      exact Or.inr (Or.inl ⟨h2, h6, HF⟩)
    · rw [if_neg h6] at H
      have HF := H
      exact Or.inr (Or.inr (⟨h2, h6, HF⟩))
theorem nx_31 {e : Nat} {M M' : Mem} {v : Option Value} (hS : SQ M) (H : Ev none e 162 31 [some (.ref 633), none, none, none] [] M v M' 0 0) : ((zI M 633 3) ≤ 400 ∧ 0 ≤ (G_159 (wF (wF M 633 23 (zI M 633 4)) 633 24 0)) ∧ Ev none e 162 92 [some (.ref 633), some (.int (G_159 (wF (wF M 633 23 (zI M 633 4)) 633 24 0))), none, none] [] (wF (wF M 633 23 (zI M 633 4)) 633 24 0) v M' 0 0) ∨ ((zI M 633 3) ≤ 400 ∧ ¬ (0 ≤ (G_159 (wF (wF M 633 23 (zI M 633 4)) 633 24 0))) ∧ v = none ∧ M' = (wF (wF (wF M 633 23 (zI M 633 4)) 633 24 0) 633 22 0)) ∨ (¬ ((zI M 633 3) ≤ 400) ∧ (zI M 633 4) < 400 ∧ 0 ≤ (G_159 (wF (wF M 633 23 (zI M 633 4)) 633 24 0)) ∧ Ev none e 162 92 [some (.ref 633), some (.int (G_159 (wF (wF M 633 23 (zI M 633 4)) 633 24 0))), none, none] [] (wF (wF M 633 23 (zI M 633 4)) 633 24 0) v M' 0 0) ∨ (¬ ((zI M 633 3) ≤ 400) ∧ (zI M 633 4) < 400 ∧ ¬ (0 ≤ (G_159 (wF (wF M 633 23 (zI M 633 4)) 633 24 0))) ∧ v = none ∧ M' = (wF (wF (wF M 633 23 (zI M 633 4)) 633 24 0) 633 22 0)) ∨ (¬ ((zI M 633 3) ≤ 400) ∧ ¬ ((zI M 633 4) < 400) ∧ v = none ∧ M' = (wF (wF (wF (wF M 633 23 (zI M 633 4)) 633 24 0) 633 23 400) 633 22 4)) := by
  have H : Ev none e 162 33 [some (.ref 633), none, none, none] [.ref 633, .ref 633] M v M' 0 0 := Ev.back 2 (fun n => rfl) H
  have H : Ev none e 162 36 [some (.ref 633), none, none, none] [.int (zI M 633 4), .ref 633] M v M' 0 0 := Ev.back 1 (gs_3 rfl rfl (gf_i hS.1 qa_633 qi_61_4 rfl)) H
  obtain ⟨N2, eN2⟩ : ∃ N, N = (wF M 633 23 (zI M 633 4)) := ⟨_, rfl⟩
  have hN2 : SQ N2 := by rw [eN2]; exact hS.kf
  have H : Ev none e 162 39 [some (.ref 633), none, none, none] [] N2 v M' 0 0 := by rw [eN2]; exact Ev.pfi rfl rfl rfl hS.1 qa_633 qi_61_23 H
  have H : Ev none e 162 41 [some (.ref 633), none, none, none] [.int 0, .ref 633] N2 v M' 0 0 := Ev.back 2 (fun n => rfl) H
  obtain ⟨N4, eN4⟩ : ∃ N, N = (wF N2 633 24 0) := ⟨_, rfl⟩
  have hN4 : SQ N4 := by rw [eN4]; exact hN2.kf
  have H : Ev none e 162 44 [some (.ref 633), none, none, none] [] N4 v M' 0 0 := by rw [eN4]; exact Ev.pfi rfl rfl rfl hN2.1 qa_633 qi_61_24 H
  have H : Ev none e 162 45 [some (.ref 633), none, none, none] [.ref 633] N4 v M' 0 0 := Ev.back 1 (fun n => rfl) H
  have H : Ev none e 162 48 [some (.ref 633), none, none, none] [.int (zI N4 633 3)] N4 v M' 0 0 := Ev.back 1 (gs_3 rfl rfl (gf_i hN4.1 qa_633 qi_61_3 rfl)) H
  rw [(show zI N4 633 3 = zI N2 633 3 from by rw [eN4]; exact fI_wF_ne (fun q => absurd q.2 (by decide))).trans (show zI N2 633 3 = zI M 633 3 from by rw [eN2]; exact fI_wF_ne (fun q => absurd q.2 (by decide)))] at H
  have H : Ev none e 162 (if (zI M 633 3) ≤ 400 then 77 else 54) [some (.ref 633), none, none, none] [] N4 v M' 0 0 := Ev.back 2 (fun n => rfl) H
  by_cases h5 : (zI M 633 3) ≤ 400
  · rw [if_pos h5] at H
    have H : Ev none e 162 78 [some (.ref 633), none, none, none] [.ref 633] N4 v M' 0 0 := Ev.back 1 (fun n => rfl) H
    obtain ⟨e1, rfl⟩ := Ev.dpos rfl rfl H
    obtain ⟨vK6, MK6, K6, H⟩ := Ev.callb (fun n => gs_7 rfl rfl (show gCal (.invokevirtual 164) 11 (.ref 633 :: []) N4 = some (.inr (159, [some (.ref 633)], [])) from by show @cond (Option ((List Value × Mem) ⊕ (Nat × Lo × List Value))) (true && gRecv N4 (.ref 633) 11 && gRoom [] && true) (some (.inr (159, [some (.ref 633)], []))) none = _; rw [recv_s hN4.1 qa_633 qo_61]; rfl)) H
    obtain ⟨pK6, qK6⟩ := g_159 hN4 K6
    rw [pK6, qK6] at H
    have H : Ev none (e1 + 1) 162 81 [some (.ref 633), none, none, none] [.int (G_159 N4)] N4 v M' 0 0 := H
    have H : Ev none (e1 + 1) 162 (if 0 ≤ (G_159 N4) then 92 else 86) [some (.ref 633), some (.int (G_159 N4)), none, none] [] N4 v M' 0 0 := Ev.back 3 (fun n => rfl) H
    by_cases h7 : 0 ≤ (G_159 N4)
    · rw [if_pos h7] at H
      have HF := H
      subst eN2 eN4
      exact Or.inl ⟨h5, h7, HF⟩
    · rw [if_neg h7] at H
      have H : Ev none (e1 + 1) 162 88 [some (.ref 633), some (.int (G_159 N4)), none, none] [.int 0, .ref 633] N4 v M' 0 0 := Ev.back 2 (fun n => rfl) H
      obtain ⟨N9, eN9⟩ : ∃ N, N = (wF N4 633 22 0) := ⟨_, rfl⟩
      have hN9 : SQ N9 := by rw [eN9]; exact hN4.kf
      have H : Ev none (e1 + 1) 162 91 [some (.ref 633), some (.int (G_159 N4)), none, none] [] N9 v M' 0 0 := by rw [eN9]; exact Ev.pfi rfl rfl rfl hN4.1 qa_633 qi_61_22 H
      obtain ⟨z1, z2⟩ := Ev.retb (fun n => rfl) H
      subst eN2 eN4 eN9
      exact Or.inr (Or.inl ⟨h5, h7, z1, z2⟩)
  · rw [if_neg h5] at H
    have H : Ev none e 162 55 [some (.ref 633), none, none, none] [.ref 633] N4 v M' 0 0 := Ev.back 1 (fun n => rfl) H
    have H : Ev none e 162 58 [some (.ref 633), none, none, none] [.int (zI N4 633 4)] N4 v M' 0 0 := Ev.back 1 (gs_3 rfl rfl (gf_i hN4.1 qa_633 qi_61_4 rfl)) H
    rw [(show zI N4 633 4 = zI N2 633 4 from by rw [eN4]; exact fI_wF_ne (fun q => absurd q.2 (by decide))).trans (show zI N2 633 4 = zI M 633 4 from by rw [eN2]; exact fI_wF_ne (fun q => absurd q.2 (by decide)))] at H
    have H : Ev none e 162 (if (zI M 633 4) < 400 then 77 else 64) [some (.ref 633), none, none, none] [] N4 v M' 0 0 := Ev.back 2 (fun n => rfl) H
    by_cases h10 : (zI M 633 4) < 400
    · rw [if_pos h10] at H
      have H : Ev none e 162 78 [some (.ref 633), none, none, none] [.ref 633] N4 v M' 0 0 := Ev.back 1 (fun n => rfl) H
      obtain ⟨e1, rfl⟩ := Ev.dpos rfl rfl H
      obtain ⟨vK11, MK11, K11, H⟩ := Ev.callb (fun n => gs_7 rfl rfl (show gCal (.invokevirtual 164) 11 (.ref 633 :: []) N4 = some (.inr (159, [some (.ref 633)], [])) from by show @cond (Option ((List Value × Mem) ⊕ (Nat × Lo × List Value))) (true && gRecv N4 (.ref 633) 11 && gRoom [] && true) (some (.inr (159, [some (.ref 633)], []))) none = _; rw [recv_s hN4.1 qa_633 qo_61]; rfl)) H
      obtain ⟨pK11, qK11⟩ := g_159 hN4 K11
      rw [pK11, qK11] at H
      have H : Ev none (e1 + 1) 162 81 [some (.ref 633), none, none, none] [.int (G_159 N4)] N4 v M' 0 0 := H
      have H : Ev none (e1 + 1) 162 (if 0 ≤ (G_159 N4) then 92 else 86) [some (.ref 633), some (.int (G_159 N4)), none, none] [] N4 v M' 0 0 := Ev.back 3 (fun n => rfl) H
      by_cases h12 : 0 ≤ (G_159 N4)
      · rw [if_pos h12] at H
        have HF := H
        subst eN2 eN4
        exact Or.inr (Or.inr (Or.inl ⟨h5, h10, h12, HF⟩))
      · rw [if_neg h12] at H
        have H : Ev none (e1 + 1) 162 88 [some (.ref 633), some (.int (G_159 N4)), none, none] [.int 0, .ref 633] N4 v M' 0 0 := Ev.back 2 (fun n => rfl) H
        obtain ⟨N14, eN14⟩ : ∃ N, N = (wF N4 633 22 0) := ⟨_, rfl⟩
        have hN14 : SQ N14 := by rw [eN14]; exact hN4.kf
        have H : Ev none (e1 + 1) 162 91 [some (.ref 633), some (.int (G_159 N4)), none, none] [] N14 v M' 0 0 := by rw [eN14]; exact Ev.pfi rfl rfl rfl hN4.1 qa_633 qi_61_22 H
        obtain ⟨z1, z2⟩ := Ev.retb (fun n => rfl) H
        subst eN2 eN4 eN14
        exact Or.inr (Or.inr (Or.inr (Or.inl ⟨h5, h10, h12, z1, z2⟩)))
    · rw [if_neg h10] at H
      have H : Ev none e 162 68 [some (.ref 633), none, none, none] [.int 400, .ref 633] N4 v M' 0 0 := Ev.back 2 (fun n => rfl) H
      obtain ⟨N16, eN16⟩ : ∃ N, N = (wF N4 633 23 400) := ⟨_, rfl⟩
      have hN16 : SQ N16 := by rw [eN16]; exact hN4.kf
      have H : Ev none e 162 71 [some (.ref 633), none, none, none] [] N16 v M' 0 0 := by rw [eN16]; exact Ev.pfi rfl rfl rfl hN4.1 qa_633 qi_61_23 H
      have H : Ev none e 162 73 [some (.ref 633), none, none, none] [.int 4, .ref 633] N16 v M' 0 0 := Ev.back 2 (fun n => rfl) H
      obtain ⟨N18, eN18⟩ : ∃ N, N = (wF N16 633 22 4) := ⟨_, rfl⟩
      have hN18 : SQ N18 := by rw [eN18]; exact hN16.kf
      have H : Ev none e 162 76 [some (.ref 633), none, none, none] [] N18 v M' 0 0 := by rw [eN18]; exact Ev.pfi rfl rfl rfl hN16.1 qa_633 qi_61_22 H
      obtain ⟨z1, z2⟩ := Ev.retb (fun n => rfl) H
      subst eN2 eN4 eN16 eN18
      exact Or.inr (Or.inr (Or.inr (Or.inr (⟨h5, h10, z1, z2⟩))))
theorem nx_92 {e : Nat} {M M' : Mem} {v : Option Value} {c : Int32} (hS : SQ M) (H : Ev none e 162 92 [some (.ref 633), some (.int c), none, none] [] M v M' 0 0) : ((G_160 M c) = 0 ∧ (G_161 M c) = 0 ∧ c = 59 ∧ v = none ∧ M' = (wF (wF (wF M 633 22 3) 633 25 c) 633 4 ((zI M 633 4) + 1))) ∨ ((G_160 M c) = 0 ∧ (G_161 M c) = 0 ∧ ¬ (c = 59) ∧ c = 40 ∧ v = none ∧ M' = (wF (wF (wF M 633 22 3) 633 25 c) 633 4 ((zI M 633 4) + 1))) ∨ ((G_160 M c) = 0 ∧ (G_161 M c) = 0 ∧ ¬ (c = 59) ∧ ¬ (c = 40) ∧ c = 41 ∧ v = none ∧ M' = (wF (wF (wF M 633 22 3) 633 25 c) 633 4 ((zI M 633 4) + 1))) ∨ ((G_160 M c) = 0 ∧ (G_161 M c) = 0 ∧ ¬ (c = 59) ∧ ¬ (c = 40) ∧ ¬ (c = 41) ∧ c < 60 ∧ v = none ∧ M' = (wF (wF (wF M 633 22 4) 633 25 c) 633 4 ((zI M 633 4) + 1))) ∨ ((G_160 M c) = 0 ∧ (G_161 M c) = 0 ∧ ¬ (c = 59) ∧ ¬ (c = 40) ∧ ¬ (c = 41) ∧ ¬ (c < 60) ∧ 62 < c ∧ v = none ∧ M' = (wF (wF (wF M 633 22 4) 633 25 c) 633 4 ((zI M 633 4) + 1))) ∨ ((G_160 M c) = 0 ∧ (G_161 M c) = 0 ∧ ¬ (c = 59) ∧ ¬ (c = 40) ∧ ¬ (c = 41) ∧ ¬ (c < 60) ∧ ¬ (62 < c) ∧ v = none ∧ M' = (wF (wF (wF M 633 22 3) 633 25 c) 633 4 ((zI M 633 4) + 1))) ∨ ((G_160 M c) = 0 ∧ ¬ ((G_161 M c) = 0) ∧ Ev none e 162 161 [some (.ref 633), some (.int c), none, none] [] M v M' 0 0) ∨ (¬ ((G_160 M c) = 0) ∧ Ev none e 162 161 [some (.ref 633), some (.int c), none, none] [] M v M' 0 0) := by
  have H : Ev none e 162 93 [some (.ref 633), some (.int c), none, none] [.int c] M v M' 0 0 := Ev.back 1 (fun n => rfl) H
  obtain ⟨e1, rfl⟩ := Ev.dpos rfl rfl H
  obtain ⟨vK1, MK1, K1, H⟩ := Ev.callb (fun n => rfl) H
  obtain ⟨pK1, qK1⟩ := g_160 hS K1
  rw [pK1, qK1] at H
  have H : Ev none (e1 + 1) 162 96 [some (.ref 633), some (.int c), none, none] [.int (G_160 M c)] M v M' 0 0 := H
  have H : Ev none (e1 + 1) 162 (if (G_160 M c) = 0 then 99 else 161) [some (.ref 633), some (.int c), none, none] [] M v M' 0 0 := Ev.back 1 (fun n => rfl) H
  by_cases h2 : (G_160 M c) = 0
  · rw [if_pos h2] at H
    have H : Ev none (e1 + 1) 162 100 [some (.ref 633), some (.int c), none, none] [.int c] M v M' 0 0 := Ev.back 1 (fun n => rfl) H
    obtain ⟨vK3, MK3, K3, H⟩ := Ev.callb (fun n => rfl) H
    obtain ⟨pK3, qK3⟩ := g_161 hS K3
    rw [pK3, qK3] at H
    have H : Ev none (e1 + 1) 162 103 [some (.ref 633), some (.int c), none, none] [.int (G_161 M c)] M v M' 0 0 := H
    have H : Ev none (e1 + 1) 162 (if (G_161 M c) = 0 then 106 else 161) [some (.ref 633), some (.int c), none, none] [] M v M' 0 0 := Ev.back 1 (fun n => rfl) H
    by_cases h4 : (G_161 M c) = 0
    · rw [if_pos h4] at H
      have H : Ev none (e1 + 1) 162 (if c = 59 then 137 else 113) [some (.ref 633), some (.int c), none, none] [.ref 633] M v M' 0 0 := Ev.back 4 (fun n => rfl) H
      by_cases h5 : c = 59
      · rw [if_pos h5] at H
        have H : Ev none (e1 + 1) 162 142 [some (.ref 633), some (.int c), none, none] [.int 3, .ref 633] M v M' 0 0 := Ev.back 2 (fun n => rfl) H
        obtain ⟨N7, eN7⟩ : ∃ N, N = (wF M 633 22 3) := ⟨_, rfl⟩
        have hN7 : SQ N7 := by rw [eN7]; exact hS.kf
        have H : Ev none (e1 + 1) 162 145 [some (.ref 633), some (.int c), none, none] [] N7 v M' 0 0 := by rw [eN7]; exact Ev.pfi rfl rfl rfl hS.1 qa_633 qi_61_22 H
        have H : Ev none (e1 + 1) 162 147 [some (.ref 633), some (.int c), none, none] [.int c, .ref 633] N7 v M' 0 0 := Ev.back 2 (fun n => rfl) H
        obtain ⟨N9, eN9⟩ : ∃ N, N = (wF N7 633 25 c) := ⟨_, rfl⟩
        have hN9 : SQ N9 := by rw [eN9]; exact hN7.kf
        have H : Ev none (e1 + 1) 162 150 [some (.ref 633), some (.int c), none, none] [] N9 v M' 0 0 := by rw [eN9]; exact Ev.pfi rfl rfl rfl hN7.1 qa_633 qi_61_25 H
        have H : Ev none (e1 + 1) 162 152 [some (.ref 633), some (.int c), none, none] [.ref 633, .ref 633] N9 v M' 0 0 := Ev.back 2 (fun n => rfl) H
        have H : Ev none (e1 + 1) 162 155 [some (.ref 633), some (.int c), none, none] [.int (zI N9 633 4), .ref 633] N9 v M' 0 0 := Ev.back 1 (gs_3 rfl rfl (gf_i hN9.1 qa_633 qi_61_4 rfl)) H
        rw [(show zI N9 633 4 = zI N7 633 4 from by rw [eN9]; exact fI_wF_ne (fun q => absurd q.2 (by decide))).trans (show zI N7 633 4 = zI M 633 4 from by rw [eN7]; exact fI_wF_ne (fun q => absurd q.2 (by decide)))] at H
        have H : Ev none (e1 + 1) 162 157 [some (.ref 633), some (.int c), none, none] [.int ((zI M 633 4) + 1), .ref 633] N9 v M' 0 0 := Ev.back 2 (fun n => rfl) H
        obtain ⟨N11, eN11⟩ : ∃ N, N = (wF N9 633 4 ((zI M 633 4) + 1)) := ⟨_, rfl⟩
        have hN11 : SQ N11 := by rw [eN11]; exact hN9.kf
        have H : Ev none (e1 + 1) 162 160 [some (.ref 633), some (.int c), none, none] [] N11 v M' 0 0 := by rw [eN11]; exact Ev.pfi rfl rfl rfl hN9.1 qa_633 qi_61_4 H
        obtain ⟨z1, z2⟩ := Ev.retb (fun n => rfl) H
        subst eN7 eN9 eN11
        exact Or.inl ⟨h2, h4, h5, z1, z2⟩
      · rw [if_neg h5] at H
        have H : Ev none (e1 + 1) 162 (if c = 40 then 137 else 119) [some (.ref 633), some (.int c), none, none] [.ref 633] M v M' 0 0 := Ev.back 3 (fun n => rfl) H
        by_cases h12 : c = 40
        · rw [if_pos h12] at H
          have H : Ev none (e1 + 1) 162 142 [some (.ref 633), some (.int c), none, none] [.int 3, .ref 633] M v M' 0 0 := Ev.back 2 (fun n => rfl) H
          obtain ⟨N14, eN14⟩ : ∃ N, N = (wF M 633 22 3) := ⟨_, rfl⟩
          have hN14 : SQ N14 := by rw [eN14]; exact hS.kf
          have H : Ev none (e1 + 1) 162 145 [some (.ref 633), some (.int c), none, none] [] N14 v M' 0 0 := by rw [eN14]; exact Ev.pfi rfl rfl rfl hS.1 qa_633 qi_61_22 H
          have H : Ev none (e1 + 1) 162 147 [some (.ref 633), some (.int c), none, none] [.int c, .ref 633] N14 v M' 0 0 := Ev.back 2 (fun n => rfl) H
          obtain ⟨N16, eN16⟩ : ∃ N, N = (wF N14 633 25 c) := ⟨_, rfl⟩
          have hN16 : SQ N16 := by rw [eN16]; exact hN14.kf
          have H : Ev none (e1 + 1) 162 150 [some (.ref 633), some (.int c), none, none] [] N16 v M' 0 0 := by rw [eN16]; exact Ev.pfi rfl rfl rfl hN14.1 qa_633 qi_61_25 H
          have H : Ev none (e1 + 1) 162 152 [some (.ref 633), some (.int c), none, none] [.ref 633, .ref 633] N16 v M' 0 0 := Ev.back 2 (fun n => rfl) H
          have H : Ev none (e1 + 1) 162 155 [some (.ref 633), some (.int c), none, none] [.int (zI N16 633 4), .ref 633] N16 v M' 0 0 := Ev.back 1 (gs_3 rfl rfl (gf_i hN16.1 qa_633 qi_61_4 rfl)) H
          rw [(show zI N16 633 4 = zI N14 633 4 from by rw [eN16]; exact fI_wF_ne (fun q => absurd q.2 (by decide))).trans (show zI N14 633 4 = zI M 633 4 from by rw [eN14]; exact fI_wF_ne (fun q => absurd q.2 (by decide)))] at H
          have H : Ev none (e1 + 1) 162 157 [some (.ref 633), some (.int c), none, none] [.int ((zI M 633 4) + 1), .ref 633] N16 v M' 0 0 := Ev.back 2 (fun n => rfl) H
          obtain ⟨N18, eN18⟩ : ∃ N, N = (wF N16 633 4 ((zI M 633 4) + 1)) := ⟨_, rfl⟩
          have hN18 : SQ N18 := by rw [eN18]; exact hN16.kf
          have H : Ev none (e1 + 1) 162 160 [some (.ref 633), some (.int c), none, none] [] N18 v M' 0 0 := by rw [eN18]; exact Ev.pfi rfl rfl rfl hN16.1 qa_633 qi_61_4 H
          obtain ⟨z1, z2⟩ := Ev.retb (fun n => rfl) H
          subst eN14 eN16 eN18
          exact Or.inr (Or.inl ⟨h2, h4, h5, h12, z1, z2⟩)
        · rw [if_neg h12] at H
          have H : Ev none (e1 + 1) 162 (if c = 41 then 137 else 125) [some (.ref 633), some (.int c), none, none] [.ref 633] M v M' 0 0 := Ev.back 3 (fun n => rfl) H
          by_cases h19 : c = 41
          · rw [if_pos h19] at H
            have H : Ev none (e1 + 1) 162 142 [some (.ref 633), some (.int c), none, none] [.int 3, .ref 633] M v M' 0 0 := Ev.back 2 (fun n => rfl) H
            obtain ⟨N21, eN21⟩ : ∃ N, N = (wF M 633 22 3) := ⟨_, rfl⟩
            have hN21 : SQ N21 := by rw [eN21]; exact hS.kf
            have H : Ev none (e1 + 1) 162 145 [some (.ref 633), some (.int c), none, none] [] N21 v M' 0 0 := by rw [eN21]; exact Ev.pfi rfl rfl rfl hS.1 qa_633 qi_61_22 H
            have H : Ev none (e1 + 1) 162 147 [some (.ref 633), some (.int c), none, none] [.int c, .ref 633] N21 v M' 0 0 := Ev.back 2 (fun n => rfl) H
            obtain ⟨N23, eN23⟩ : ∃ N, N = (wF N21 633 25 c) := ⟨_, rfl⟩
            have hN23 : SQ N23 := by rw [eN23]; exact hN21.kf
            have H : Ev none (e1 + 1) 162 150 [some (.ref 633), some (.int c), none, none] [] N23 v M' 0 0 := by rw [eN23]; exact Ev.pfi rfl rfl rfl hN21.1 qa_633 qi_61_25 H
            have H : Ev none (e1 + 1) 162 152 [some (.ref 633), some (.int c), none, none] [.ref 633, .ref 633] N23 v M' 0 0 := Ev.back 2 (fun n => rfl) H
            have H : Ev none (e1 + 1) 162 155 [some (.ref 633), some (.int c), none, none] [.int (zI N23 633 4), .ref 633] N23 v M' 0 0 := Ev.back 1 (gs_3 rfl rfl (gf_i hN23.1 qa_633 qi_61_4 rfl)) H
            rw [(show zI N23 633 4 = zI N21 633 4 from by rw [eN23]; exact fI_wF_ne (fun q => absurd q.2 (by decide))).trans (show zI N21 633 4 = zI M 633 4 from by rw [eN21]; exact fI_wF_ne (fun q => absurd q.2 (by decide)))] at H
            have H : Ev none (e1 + 1) 162 157 [some (.ref 633), some (.int c), none, none] [.int ((zI M 633 4) + 1), .ref 633] N23 v M' 0 0 := Ev.back 2 (fun n => rfl) H
            obtain ⟨N25, eN25⟩ : ∃ N, N = (wF N23 633 4 ((zI M 633 4) + 1)) := ⟨_, rfl⟩
            have hN25 : SQ N25 := by rw [eN25]; exact hN23.kf
            have H : Ev none (e1 + 1) 162 160 [some (.ref 633), some (.int c), none, none] [] N25 v M' 0 0 := by rw [eN25]; exact Ev.pfi rfl rfl rfl hN23.1 qa_633 qi_61_4 H
            obtain ⟨z1, z2⟩ := Ev.retb (fun n => rfl) H
            subst eN21 eN23 eN25
            exact Or.inr (Or.inr (Or.inl ⟨h2, h4, h5, h12, h19, z1, z2⟩))
          · rw [if_neg h19] at H
            have H : Ev none (e1 + 1) 162 (if c < 60 then 141 else 131) [some (.ref 633), some (.int c), none, none] [.ref 633] M v M' 0 0 := Ev.back 3 (fun n => rfl) H
            by_cases h26 : c < 60
            · rw [if_pos h26] at H
              have H : Ev none (e1 + 1) 162 142 [some (.ref 633), some (.int c), none, none] [.int 4, .ref 633] M v M' 0 0 := Ev.back 1 (fun n => rfl) H
              obtain ⟨N28, eN28⟩ : ∃ N, N = (wF M 633 22 4) := ⟨_, rfl⟩
              have hN28 : SQ N28 := by rw [eN28]; exact hS.kf
              have H : Ev none (e1 + 1) 162 145 [some (.ref 633), some (.int c), none, none] [] N28 v M' 0 0 := by rw [eN28]; exact Ev.pfi rfl rfl rfl hS.1 qa_633 qi_61_22 H
              have H : Ev none (e1 + 1) 162 147 [some (.ref 633), some (.int c), none, none] [.int c, .ref 633] N28 v M' 0 0 := Ev.back 2 (fun n => rfl) H
              obtain ⟨N30, eN30⟩ : ∃ N, N = (wF N28 633 25 c) := ⟨_, rfl⟩
              have hN30 : SQ N30 := by rw [eN30]; exact hN28.kf
              have H : Ev none (e1 + 1) 162 150 [some (.ref 633), some (.int c), none, none] [] N30 v M' 0 0 := by rw [eN30]; exact Ev.pfi rfl rfl rfl hN28.1 qa_633 qi_61_25 H
              have H : Ev none (e1 + 1) 162 152 [some (.ref 633), some (.int c), none, none] [.ref 633, .ref 633] N30 v M' 0 0 := Ev.back 2 (fun n => rfl) H
              have H : Ev none (e1 + 1) 162 155 [some (.ref 633), some (.int c), none, none] [.int (zI N30 633 4), .ref 633] N30 v M' 0 0 := Ev.back 1 (gs_3 rfl rfl (gf_i hN30.1 qa_633 qi_61_4 rfl)) H
              rw [(show zI N30 633 4 = zI N28 633 4 from by rw [eN30]; exact fI_wF_ne (fun q => absurd q.2 (by decide))).trans (show zI N28 633 4 = zI M 633 4 from by rw [eN28]; exact fI_wF_ne (fun q => absurd q.2 (by decide)))] at H
              have H : Ev none (e1 + 1) 162 157 [some (.ref 633), some (.int c), none, none] [.int ((zI M 633 4) + 1), .ref 633] N30 v M' 0 0 := Ev.back 2 (fun n => rfl) H
              obtain ⟨N32, eN32⟩ : ∃ N, N = (wF N30 633 4 ((zI M 633 4) + 1)) := ⟨_, rfl⟩
              have hN32 : SQ N32 := by rw [eN32]; exact hN30.kf
              have H : Ev none (e1 + 1) 162 160 [some (.ref 633), some (.int c), none, none] [] N32 v M' 0 0 := by rw [eN32]; exact Ev.pfi rfl rfl rfl hN30.1 qa_633 qi_61_4 H
              obtain ⟨z1, z2⟩ := Ev.retb (fun n => rfl) H
              subst eN28 eN30 eN32
              exact Or.inr (Or.inr (Or.inr (Or.inl ⟨h2, h4, h5, h12, h19, h26, z1, z2⟩)))
            · rw [if_neg h26] at H
              have H : Ev none (e1 + 1) 162 (if 62 < c then 141 else 137) [some (.ref 633), some (.int c), none, none] [.ref 633] M v M' 0 0 := Ev.back 3 (fun n => rfl) H
              by_cases h33 : 62 < c
              · rw [if_pos h33] at H
                have H : Ev none (e1 + 1) 162 142 [some (.ref 633), some (.int c), none, none] [.int 4, .ref 633] M v M' 0 0 := Ev.back 1 (fun n => rfl) H
                obtain ⟨N35, eN35⟩ : ∃ N, N = (wF M 633 22 4) := ⟨_, rfl⟩
                have hN35 : SQ N35 := by rw [eN35]; exact hS.kf
                have H : Ev none (e1 + 1) 162 145 [some (.ref 633), some (.int c), none, none] [] N35 v M' 0 0 := by rw [eN35]; exact Ev.pfi rfl rfl rfl hS.1 qa_633 qi_61_22 H
                have H : Ev none (e1 + 1) 162 147 [some (.ref 633), some (.int c), none, none] [.int c, .ref 633] N35 v M' 0 0 := Ev.back 2 (fun n => rfl) H
                obtain ⟨N37, eN37⟩ : ∃ N, N = (wF N35 633 25 c) := ⟨_, rfl⟩
                have hN37 : SQ N37 := by rw [eN37]; exact hN35.kf
                have H : Ev none (e1 + 1) 162 150 [some (.ref 633), some (.int c), none, none] [] N37 v M' 0 0 := by rw [eN37]; exact Ev.pfi rfl rfl rfl hN35.1 qa_633 qi_61_25 H
                have H : Ev none (e1 + 1) 162 152 [some (.ref 633), some (.int c), none, none] [.ref 633, .ref 633] N37 v M' 0 0 := Ev.back 2 (fun n => rfl) H
                have H : Ev none (e1 + 1) 162 155 [some (.ref 633), some (.int c), none, none] [.int (zI N37 633 4), .ref 633] N37 v M' 0 0 := Ev.back 1 (gs_3 rfl rfl (gf_i hN37.1 qa_633 qi_61_4 rfl)) H
                rw [(show zI N37 633 4 = zI N35 633 4 from by rw [eN37]; exact fI_wF_ne (fun q => absurd q.2 (by decide))).trans (show zI N35 633 4 = zI M 633 4 from by rw [eN35]; exact fI_wF_ne (fun q => absurd q.2 (by decide)))] at H
                have H : Ev none (e1 + 1) 162 157 [some (.ref 633), some (.int c), none, none] [.int ((zI M 633 4) + 1), .ref 633] N37 v M' 0 0 := Ev.back 2 (fun n => rfl) H
                obtain ⟨N39, eN39⟩ : ∃ N, N = (wF N37 633 4 ((zI M 633 4) + 1)) := ⟨_, rfl⟩
                have hN39 : SQ N39 := by rw [eN39]; exact hN37.kf
                have H : Ev none (e1 + 1) 162 160 [some (.ref 633), some (.int c), none, none] [] N39 v M' 0 0 := by rw [eN39]; exact Ev.pfi rfl rfl rfl hN37.1 qa_633 qi_61_4 H
                obtain ⟨z1, z2⟩ := Ev.retb (fun n => rfl) H
                subst eN35 eN37 eN39
                exact Or.inr (Or.inr (Or.inr (Or.inr (Or.inl ⟨h2, h4, h5, h12, h19, h26, h33, z1, z2⟩))))
              · rw [if_neg h33] at H
                have H : Ev none (e1 + 1) 162 142 [some (.ref 633), some (.int c), none, none] [.int 3, .ref 633] M v M' 0 0 := Ev.back 2 (fun n => rfl) H
                obtain ⟨N41, eN41⟩ : ∃ N, N = (wF M 633 22 3) := ⟨_, rfl⟩
                have hN41 : SQ N41 := by rw [eN41]; exact hS.kf
                have H : Ev none (e1 + 1) 162 145 [some (.ref 633), some (.int c), none, none] [] N41 v M' 0 0 := by rw [eN41]; exact Ev.pfi rfl rfl rfl hS.1 qa_633 qi_61_22 H
                have H : Ev none (e1 + 1) 162 147 [some (.ref 633), some (.int c), none, none] [.int c, .ref 633] N41 v M' 0 0 := Ev.back 2 (fun n => rfl) H
                obtain ⟨N43, eN43⟩ : ∃ N, N = (wF N41 633 25 c) := ⟨_, rfl⟩
                have hN43 : SQ N43 := by rw [eN43]; exact hN41.kf
                have H : Ev none (e1 + 1) 162 150 [some (.ref 633), some (.int c), none, none] [] N43 v M' 0 0 := by rw [eN43]; exact Ev.pfi rfl rfl rfl hN41.1 qa_633 qi_61_25 H
                have H : Ev none (e1 + 1) 162 152 [some (.ref 633), some (.int c), none, none] [.ref 633, .ref 633] N43 v M' 0 0 := Ev.back 2 (fun n => rfl) H
                have H : Ev none (e1 + 1) 162 155 [some (.ref 633), some (.int c), none, none] [.int (zI N43 633 4), .ref 633] N43 v M' 0 0 := Ev.back 1 (gs_3 rfl rfl (gf_i hN43.1 qa_633 qi_61_4 rfl)) H
                rw [(show zI N43 633 4 = zI N41 633 4 from by rw [eN43]; exact fI_wF_ne (fun q => absurd q.2 (by decide))).trans (show zI N41 633 4 = zI M 633 4 from by rw [eN41]; exact fI_wF_ne (fun q => absurd q.2 (by decide)))] at H
                have H : Ev none (e1 + 1) 162 157 [some (.ref 633), some (.int c), none, none] [.int ((zI M 633 4) + 1), .ref 633] N43 v M' 0 0 := Ev.back 2 (fun n => rfl) H
                obtain ⟨N45, eN45⟩ : ∃ N, N = (wF N43 633 4 ((zI M 633 4) + 1)) := ⟨_, rfl⟩
                have hN45 : SQ N45 := by rw [eN45]; exact hN43.kf
                have H : Ev none (e1 + 1) 162 160 [some (.ref 633), some (.int c), none, none] [] N45 v M' 0 0 := by rw [eN45]; exact Ev.pfi rfl rfl rfl hN43.1 qa_633 qi_61_4 H
                obtain ⟨z1, z2⟩ := Ev.retb (fun n => rfl) H
                subst eN41 eN43 eN45
                exact Or.inr (Or.inr (Or.inr (Or.inr (Or.inr (Or.inl ⟨h2, h4, h5, h12, h19, h26, h33, z1, z2⟩)))))
    · rw [if_neg h4] at H
      have HF := H
      exact Or.inr (Or.inr (Or.inr (Or.inr (Or.inr (Or.inr (Or.inl ⟨h2, h4, HF⟩))))))
  · rw [if_neg h2] at H
    have HF := H
    exact Or.inr (Or.inr (Or.inr (Or.inr (Or.inr (Or.inr (Or.inr (⟨h2, HF⟩)))))))
theorem nx_161 {e : Nat} {M M' : Mem} {v : Option Value} {c : Int32} (hS : SQ M) (H : Ev none e 162 161 [some (.ref 633), some (.int c), none, none] [] M v M' 0 0) : Ev none e 162 178 [some (.ref 633), some (.int c), some (.int (G_160 M c)), some (.int 1)] [] (wF (wG M 633 31 0) 633 25 0) v M' 0 0 := by
  have H : Ev none e 162 162 [some (.ref 633), some (.int c), none, none] [.int c] M v M' 0 0 := Ev.back 1 (fun n => rfl) H
  obtain ⟨e1, rfl⟩ := Ev.dpos rfl rfl H
  obtain ⟨vK1, MK1, K1, H⟩ := Ev.callb (fun n => rfl) H
  obtain ⟨pK1, qK1⟩ := g_160 hS K1
  rw [pK1, qK1] at H
  have H : Ev none (e1 + 1) 162 165 [some (.ref 633), some (.int c), none, none] [.int (G_160 M c)] M v M' 0 0 := H
  have H : Ev none (e1 + 1) 162 170 [some (.ref 633), some (.int c), some (.int (G_160 M c)), some (.int 1)] [.long 0, .ref 633] M v M' 0 0 := Ev.back 5 (fun n => rfl) H
  obtain ⟨N3, eN3⟩ : ∃ N, N = (wG M 633 31 0) := ⟨_, rfl⟩
  have hN3 : SQ N3 := by rw [eN3]; exact hS.kg
  have H : Ev none (e1 + 1) 162 173 [some (.ref 633), some (.int c), some (.int (G_160 M c)), some (.int 1)] [] N3 v M' 0 0 := by rw [eN3]; exact Ev.pfl rfl rfl rfl hS.1 qa_633 ql_61_31 H
  have H : Ev none (e1 + 1) 162 175 [some (.ref 633), some (.int c), some (.int (G_160 M c)), some (.int 1)] [.int 0, .ref 633] N3 v M' 0 0 := Ev.back 2 (fun n => rfl) H
  obtain ⟨N5, eN5⟩ : ∃ N, N = (wF N3 633 25 0) := ⟨_, rfl⟩
  have hN5 : SQ N5 := by rw [eN5]; exact hN3.kf
  have H : Ev none (e1 + 1) 162 178 [some (.ref 633), some (.int c), some (.int (G_160 M c)), some (.int 1)] [] N5 v M' 0 0 := by rw [eN5]; exact Ev.pfi rfl rfl rfl hN3.1 qa_633 qi_61_25 H
  have HF := H
  subst eN3 eN5
  exact HF
theorem nx_178 {e : Nat} {M M' : Mem} {v : Option Value} {c sm al : Int32} (hS : SQ M) (H : Ev none e 162 178 [some (.ref 633), some (.int c), some (.int sm), some (.int al)] [] M v M' 0 0) : ((G_160 M (G_159 M)) = 0 ∧ (G_161 M (G_159 M)) = 0 ∧ Ev none e 162 295 [some (.ref 633), some (.int c), some (.int sm), some (.int al)] [] M v M' 0 0) ∨ ((G_160 M (G_159 M)) = 0 ∧ ¬ ((G_161 M (G_159 M)) = 0) ∧ al = 0 ∧ Ev none e 162 219 [some (.ref 633), some (.int c), some (.int sm), some (.int 0)] [] M v M' 0 0) ∨ ((G_160 M (G_159 M)) = 0 ∧ ¬ ((G_161 M (G_159 M)) = 0) ∧ ¬ (al = 0) ∧ (G_160 M (G_159 M)) = sm ∧ Ev none e 162 219 [some (.ref 633), some (.int c), some (.int sm), some (.int 1)] [] M v M' 0 0) ∨ ((G_160 M (G_159 M)) = 0 ∧ ¬ ((G_161 M (G_159 M)) = 0) ∧ ¬ (al = 0) ∧ ¬ ((G_160 M (G_159 M)) = sm) ∧ Ev none e 162 219 [some (.ref 633), some (.int c), some (.int sm), some (.int 0)] [] M v M' 0 0) ∨ (¬ ((G_160 M (G_159 M)) = 0) ∧ al = 0 ∧ Ev none e 162 219 [some (.ref 633), some (.int c), some (.int sm), some (.int 0)] [] M v M' 0 0) ∨ (¬ ((G_160 M (G_159 M)) = 0) ∧ ¬ (al = 0) ∧ (G_160 M (G_159 M)) = sm ∧ Ev none e 162 219 [some (.ref 633), some (.int c), some (.int sm), some (.int 1)] [] M v M' 0 0) ∨ (¬ ((G_160 M (G_159 M)) = 0) ∧ ¬ (al = 0) ∧ ¬ ((G_160 M (G_159 M)) = sm) ∧ Ev none e 162 219 [some (.ref 633), some (.int c), some (.int sm), some (.int 0)] [] M v M' 0 0) := by
  have H : Ev none e 162 179 [some (.ref 633), some (.int c), some (.int sm), some (.int al)] [.ref 633] M v M' 0 0 := Ev.back 1 (fun n => rfl) H
  obtain ⟨e1, rfl⟩ := Ev.dpos rfl rfl H
  obtain ⟨vK1, MK1, K1, H⟩ := Ev.callb (fun n => gs_7 rfl rfl (show gCal (.invokevirtual 164) 11 (.ref 633 :: []) M = some (.inr (159, [some (.ref 633)], [])) from by show @cond (Option ((List Value × Mem) ⊕ (Nat × Lo × List Value))) (true && gRecv M (.ref 633) 11 && gRoom [] && true) (some (.inr (159, [some (.ref 633)], []))) none = _; rw [recv_s hS.1 qa_633 qo_61]; rfl)) H
  obtain ⟨pK1, qK1⟩ := g_159 hS K1
  rw [pK1, qK1] at H
  have H : Ev none (e1 + 1) 162 182 [some (.ref 633), some (.int c), some (.int sm), some (.int al)] [.int (G_159 M)] M v M' 0 0 := H
  obtain ⟨vK2, MK2, K2, H⟩ := Ev.callb (fun n => rfl) H
  obtain ⟨pK2, qK2⟩ := g_160 hS K2
  rw [pK2, qK2] at H
  have H : Ev none (e1 + 1) 162 185 [some (.ref 633), some (.int c), some (.int sm), some (.int al)] [.int (G_160 M (G_159 M))] M v M' 0 0 := H
  have H : Ev none (e1 + 1) 162 (if (G_160 M (G_159 M)) = 0 then 188 else 198) [some (.ref 633), some (.int c), some (.int sm), some (.int al)] [] M v M' 0 0 := Ev.back 1 (fun n => rfl) H
  by_cases h3 : (G_160 M (G_159 M)) = 0
  · rw [if_pos h3] at H
    have H : Ev none (e1 + 1) 162 189 [some (.ref 633), some (.int c), some (.int sm), some (.int al)] [.ref 633] M v M' 0 0 := Ev.back 1 (fun n => rfl) H
    obtain ⟨vK4, MK4, K4, H⟩ := Ev.callb (fun n => gs_7 rfl rfl (show gCal (.invokevirtual 164) 11 (.ref 633 :: []) M = some (.inr (159, [some (.ref 633)], [])) from by show @cond (Option ((List Value × Mem) ⊕ (Nat × Lo × List Value))) (true && gRecv M (.ref 633) 11 && gRoom [] && true) (some (.inr (159, [some (.ref 633)], []))) none = _; rw [recv_s hS.1 qa_633 qo_61]; rfl)) H
    obtain ⟨pK4, qK4⟩ := g_159 hS K4
    rw [pK4, qK4] at H
    have H : Ev none (e1 + 1) 162 192 [some (.ref 633), some (.int c), some (.int sm), some (.int al)] [.int (G_159 M)] M v M' 0 0 := H
    obtain ⟨vK5, MK5, K5, H⟩ := Ev.callb (fun n => rfl) H
    obtain ⟨pK5, qK5⟩ := g_161 hS K5
    rw [pK5, qK5] at H
    have H : Ev none (e1 + 1) 162 195 [some (.ref 633), some (.int c), some (.int sm), some (.int al)] [.int (G_161 M (G_159 M))] M v M' 0 0 := H
    have H : Ev none (e1 + 1) 162 (if (G_161 M (G_159 M)) = 0 then 295 else 198) [some (.ref 633), some (.int c), some (.int sm), some (.int al)] [] M v M' 0 0 := Ev.back 1 (fun n => rfl) H
    by_cases h6 : (G_161 M (G_159 M)) = 0
    · rw [if_pos h6] at H
      have HF := H
      exact Or.inl ⟨h3, h6, HF⟩
    · rw [if_neg h6] at H
      have H : Ev none (e1 + 1) 162 (if al = 0 then 217 else 202) [some (.ref 633), some (.int c), some (.int sm), some (.int al)] [] M v M' 0 0 := Ev.back 2 (fun n => rfl) H
      by_cases h7 : al = 0
      · rw [if_pos h7] at H
        have H : Ev none (e1 + 1) 162 219 [some (.ref 633), some (.int c), some (.int sm), some (.int 0)] [] M v M' 0 0 := Ev.back 2 (fun n => rfl) H
        have HF := H
        exact Or.inr (Or.inl ⟨h3, h6, h7, HF⟩)
      · rw [if_neg h7] at H
        have H : Ev none (e1 + 1) 162 203 [some (.ref 633), some (.int c), some (.int sm), some (.int al)] [.ref 633] M v M' 0 0 := Ev.back 1 (fun n => rfl) H
        obtain ⟨vK8, MK8, K8, H⟩ := Ev.callb (fun n => gs_7 rfl rfl (show gCal (.invokevirtual 164) 11 (.ref 633 :: []) M = some (.inr (159, [some (.ref 633)], [])) from by show @cond (Option ((List Value × Mem) ⊕ (Nat × Lo × List Value))) (true && gRecv M (.ref 633) 11 && gRoom [] && true) (some (.inr (159, [some (.ref 633)], []))) none = _; rw [recv_s hS.1 qa_633 qo_61]; rfl)) H
        obtain ⟨pK8, qK8⟩ := g_159 hS K8
        rw [pK8, qK8] at H
        have H : Ev none (e1 + 1) 162 206 [some (.ref 633), some (.int c), some (.int sm), some (.int al)] [.int (G_159 M)] M v M' 0 0 := H
        obtain ⟨vK9, MK9, K9, H⟩ := Ev.callb (fun n => rfl) H
        obtain ⟨pK9, qK9⟩ := g_160 hS K9
        rw [pK9, qK9] at H
        have H : Ev none (e1 + 1) 162 209 [some (.ref 633), some (.int c), some (.int sm), some (.int al)] [.int (G_160 M (G_159 M))] M v M' 0 0 := H
        have H : Ev none (e1 + 1) 162 (if (G_160 M (G_159 M)) = sm then 213 else 217) [some (.ref 633), some (.int c), some (.int sm), some (.int al)] [] M v M' 0 0 := Ev.back 2 (fun n => rfl) H
        by_cases h10 : (G_160 M (G_159 M)) = sm
        · rw [if_pos h10] at H
          have H : Ev none (e1 + 1) 162 219 [some (.ref 633), some (.int c), some (.int sm), some (.int 1)] [] M v M' 0 0 := Ev.back 3 (fun n => rfl) H
          have HF := H
          exact Or.inr (Or.inr (Or.inl ⟨h3, h6, h7, h10, HF⟩))
        · rw [if_neg h10] at H
          have H : Ev none (e1 + 1) 162 219 [some (.ref 633), some (.int c), some (.int sm), some (.int 0)] [] M v M' 0 0 := Ev.back 2 (fun n => rfl) H
          have HF := H
          exact Or.inr (Or.inr (Or.inr (Or.inl ⟨h3, h6, h7, h10, HF⟩)))
  · rw [if_neg h3] at H
    have H : Ev none (e1 + 1) 162 (if al = 0 then 217 else 202) [some (.ref 633), some (.int c), some (.int sm), some (.int al)] [] M v M' 0 0 := Ev.back 2 (fun n => rfl) H
    by_cases h11 : al = 0
    · rw [if_pos h11] at H
      have H : Ev none (e1 + 1) 162 219 [some (.ref 633), some (.int c), some (.int sm), some (.int 0)] [] M v M' 0 0 := Ev.back 2 (fun n => rfl) H
      have HF := H
      exact Or.inr (Or.inr (Or.inr (Or.inr (Or.inl ⟨h3, h11, HF⟩))))
    · rw [if_neg h11] at H
      have H : Ev none (e1 + 1) 162 203 [some (.ref 633), some (.int c), some (.int sm), some (.int al)] [.ref 633] M v M' 0 0 := Ev.back 1 (fun n => rfl) H
      obtain ⟨vK12, MK12, K12, H⟩ := Ev.callb (fun n => gs_7 rfl rfl (show gCal (.invokevirtual 164) 11 (.ref 633 :: []) M = some (.inr (159, [some (.ref 633)], [])) from by show @cond (Option ((List Value × Mem) ⊕ (Nat × Lo × List Value))) (true && gRecv M (.ref 633) 11 && gRoom [] && true) (some (.inr (159, [some (.ref 633)], []))) none = _; rw [recv_s hS.1 qa_633 qo_61]; rfl)) H
      obtain ⟨pK12, qK12⟩ := g_159 hS K12
      rw [pK12, qK12] at H
      have H : Ev none (e1 + 1) 162 206 [some (.ref 633), some (.int c), some (.int sm), some (.int al)] [.int (G_159 M)] M v M' 0 0 := H
      obtain ⟨vK13, MK13, K13, H⟩ := Ev.callb (fun n => rfl) H
      obtain ⟨pK13, qK13⟩ := g_160 hS K13
      rw [pK13, qK13] at H
      have H : Ev none (e1 + 1) 162 209 [some (.ref 633), some (.int c), some (.int sm), some (.int al)] [.int (G_160 M (G_159 M))] M v M' 0 0 := H
      have H : Ev none (e1 + 1) 162 (if (G_160 M (G_159 M)) = sm then 213 else 217) [some (.ref 633), some (.int c), some (.int sm), some (.int al)] [] M v M' 0 0 := Ev.back 2 (fun n => rfl) H
      by_cases h14 : (G_160 M (G_159 M)) = sm
      · rw [if_pos h14] at H
        have H : Ev none (e1 + 1) 162 219 [some (.ref 633), some (.int c), some (.int sm), some (.int 1)] [] M v M' 0 0 := Ev.back 3 (fun n => rfl) H
        have HF := H
        exact Or.inr (Or.inr (Or.inr (Or.inr (Or.inr (Or.inl ⟨h3, h11, h14, HF⟩)))))
      · rw [if_neg h14] at H
        have H : Ev none (e1 + 1) 162 219 [some (.ref 633), some (.int c), some (.int sm), some (.int 0)] [] M v M' 0 0 := Ev.back 2 (fun n => rfl) H
        have HF := H
        exact Or.inr (Or.inr (Or.inr (Or.inr (Or.inr (Or.inr (⟨h3, h11, h14, HF⟩))))))
theorem nx_219 {e : Nat} {M M' : Mem} {v : Option Value} {c sm al : Int32} (hS : SQ M) (H : Ev none e 162 219 [some (.ref 633), some (.int c), some (.int sm), some (.int al)] [] M v M' 0 0) : (6 ≤ (zI M 633 24) ∧ Ev none e 162 245 [some (.ref 633), some (.int c), some (.int sm), some (.int al)] [] M v M' 0 0) ∨ (¬ (6 ≤ (zI M 633 24)) ∧ Ev none e 162 245 [some (.ref 633), some (.int c), some (.int sm), some (.int al)] [] (wG M 633 31 (((fL M 633 31) <<< ((8 : Int32).toInt64 &&& 63)) ||| ((G_159 M).toInt64))) v M' 0 0) := by
  have H : Ev none e 162 220 [some (.ref 633), some (.int c), some (.int sm), some (.int al)] [.ref 633] M v M' 0 0 := Ev.back 1 (fun n => rfl) H
  have H : Ev none e 162 223 [some (.ref 633), some (.int c), some (.int sm), some (.int al)] [.int (zI M 633 24)] M v M' 0 0 := Ev.back 1 (gs_3 rfl rfl (gf_i hS.1 qa_633 qi_61_24 rfl)) H
  have H : Ev none e 162 (if 6 ≤ (zI M 633 24) then 245 else 228) [some (.ref 633), some (.int c), some (.int sm), some (.int al)] [] M v M' 0 0 := Ev.back 2 (fun n => rfl) H
  by_cases h1 : 6 ≤ (zI M 633 24)
  · rw [if_pos h1] at H
    have HF := H
    exact Or.inl ⟨h1, HF⟩
  · rw [if_neg h1] at H
    have H : Ev none e 162 230 [some (.ref 633), some (.int c), some (.int sm), some (.int al)] [.ref 633, .ref 633] M v M' 0 0 := Ev.back 2 (fun n => rfl) H
    have H : Ev none e 162 233 [some (.ref 633), some (.int c), some (.int sm), some (.int al)] [.long (fL M 633 31), .ref 633] M v M' 0 0 := Ev.back 1 (gs_3 rfl rfl (gf_l hS.1 qa_633 ql_61_31 rfl)) H
    have H : Ev none e 162 237 [some (.ref 633), some (.int c), some (.int sm), some (.int al)] [.ref 633, .long ((fL M 633 31) <<< ((8 : Int32).toInt64 &&& 63)), .ref 633] M v M' 0 0 := Ev.back 3 (fun n => rfl) H
    obtain ⟨e1, rfl⟩ := Ev.dpos rfl rfl H
    obtain ⟨vK2, MK2, K2, H⟩ := Ev.callb (fun n => gs_7 rfl rfl (show gCal (.invokevirtual 164) 11 (.ref 633 :: [.long ((fL M 633 31) <<< ((8 : Int32).toInt64 &&& 63)), .ref 633]) M = some (.inr (159, [some (.ref 633)], [.long ((fL M 633 31) <<< ((8 : Int32).toInt64 &&& 63)), .ref 633])) from by show @cond (Option ((List Value × Mem) ⊕ (Nat × Lo × List Value))) (true && gRecv M (.ref 633) 11 && gRoom [.long ((fL M 633 31) <<< ((8 : Int32).toInt64 &&& 63)), .ref 633] && true) (some (.inr (159, [some (.ref 633)], [.long ((fL M 633 31) <<< ((8 : Int32).toInt64 &&& 63)), .ref 633]))) none = _; rw [recv_s hS.1 qa_633 qo_61]; rfl)) H
    obtain ⟨pK2, qK2⟩ := g_159 hS K2
    rw [pK2, qK2] at H
    have H : Ev none (e1 + 1) 162 240 [some (.ref 633), some (.int c), some (.int sm), some (.int al)] [.int (G_159 M), .long ((fL M 633 31) <<< ((8 : Int32).toInt64 &&& 63)), .ref 633] M v M' 0 0 := H
    have H : Ev none (e1 + 1) 162 242 [some (.ref 633), some (.int c), some (.int sm), some (.int al)] [.long (((fL M 633 31) <<< ((8 : Int32).toInt64 &&& 63)) ||| ((G_159 M).toInt64)), .ref 633] M v M' 0 0 := Ev.back 2 (fun n => rfl) H
    obtain ⟨N4, eN4⟩ : ∃ N, N = (wG M 633 31 (((fL M 633 31) <<< ((8 : Int32).toInt64 &&& 63)) ||| ((G_159 M).toInt64))) := ⟨_, rfl⟩
    have hN4 : SQ N4 := by rw [eN4]; exact hS.kg
    have H : Ev none (e1 + 1) 162 245 [some (.ref 633), some (.int c), some (.int sm), some (.int al)] [] N4 v M' 0 0 := by rw [eN4]; exact Ev.pfl rfl rfl rfl hS.1 qa_633 ql_61_31 H
    have HF := H
    subst eN4
    exact Or.inr (⟨h1, HF⟩)
theorem nx_245 {e : Nat} {M M' : Mem} {v : Option Value} {c sm al : Int32} (hS : SQ M) (H : Ev none e 162 245 [some (.ref 633), some (.int c), some (.int sm), some (.int al)] [] M v M' 0 0) : (3 ≤ (zI M 633 24) ∧ Ev none e 162 272 [some (.ref 633), some (.int c), some (.int sm), some (.int al)] [] M v M' 0 0) ∨ (¬ (3 ≤ (zI M 633 24)) ∧ Ev none e 162 272 [some (.ref 633), some (.int c), some (.int sm), some (.int al)] [] (wF M 633 25 (((10 * (zI M 633 25)) + (G_159 M)) - 48)) v M' 0 0) := by
  have H : Ev none e 162 246 [some (.ref 633), some (.int c), some (.int sm), some (.int al)] [.ref 633] M v M' 0 0 := Ev.back 1 (fun n => rfl) H
  have H : Ev none e 162 249 [some (.ref 633), some (.int c), some (.int sm), some (.int al)] [.int (zI M 633 24)] M v M' 0 0 := Ev.back 1 (gs_3 rfl rfl (gf_i hS.1 qa_633 qi_61_24 rfl)) H
  have H : Ev none e 162 (if 3 ≤ (zI M 633 24) then 272 else 253) [some (.ref 633), some (.int c), some (.int sm), some (.int al)] [] M v M' 0 0 := Ev.back 2 (fun n => rfl) H
  by_cases h1 : 3 ≤ (zI M 633 24)
  · rw [if_pos h1] at H
    have HF := H
    exact Or.inl ⟨h1, HF⟩
  · rw [if_neg h1] at H
    have H : Ev none e 162 257 [some (.ref 633), some (.int c), some (.int sm), some (.int al)] [.ref 633, .int 10, .ref 633] M v M' 0 0 := Ev.back 3 (fun n => rfl) H
    have H : Ev none e 162 260 [some (.ref 633), some (.int c), some (.int sm), some (.int al)] [.int (zI M 633 25), .int 10, .ref 633] M v M' 0 0 := Ev.back 1 (gs_3 rfl rfl (gf_i hS.1 qa_633 qi_61_25 rfl)) H
    have H : Ev none e 162 262 [some (.ref 633), some (.int c), some (.int sm), some (.int al)] [.ref 633, .int (10 * (zI M 633 25)), .ref 633] M v M' 0 0 := Ev.back 2 (fun n => rfl) H
    obtain ⟨e1, rfl⟩ := Ev.dpos rfl rfl H
    obtain ⟨vK2, MK2, K2, H⟩ := Ev.callb (fun n => gs_7 rfl rfl (show gCal (.invokevirtual 164) 11 (.ref 633 :: [.int (10 * (zI M 633 25)), .ref 633]) M = some (.inr (159, [some (.ref 633)], [.int (10 * (zI M 633 25)), .ref 633])) from by show @cond (Option ((List Value × Mem) ⊕ (Nat × Lo × List Value))) (true && gRecv M (.ref 633) 11 && gRoom [.int (10 * (zI M 633 25)), .ref 633] && true) (some (.inr (159, [some (.ref 633)], [.int (10 * (zI M 633 25)), .ref 633]))) none = _; rw [recv_s hS.1 qa_633 qo_61]; rfl)) H
    obtain ⟨pK2, qK2⟩ := g_159 hS K2
    rw [pK2, qK2] at H
    have H : Ev none (e1 + 1) 162 265 [some (.ref 633), some (.int c), some (.int sm), some (.int al)] [.int (G_159 M), .int (10 * (zI M 633 25)), .ref 633] M v M' 0 0 := H
    have H : Ev none (e1 + 1) 162 269 [some (.ref 633), some (.int c), some (.int sm), some (.int al)] [.int (((10 * (zI M 633 25)) + (G_159 M)) - 48), .ref 633] M v M' 0 0 := Ev.back 3 (fun n => rfl) H
    obtain ⟨N4, eN4⟩ : ∃ N, N = (wF M 633 25 (((10 * (zI M 633 25)) + (G_159 M)) - 48)) := ⟨_, rfl⟩
    have hN4 : SQ N4 := by rw [eN4]; exact hS.kf
    have H : Ev none (e1 + 1) 162 272 [some (.ref 633), some (.int c), some (.int sm), some (.int al)] [] N4 v M' 0 0 := by rw [eN4]; exact Ev.pfi rfl rfl rfl hS.1 qa_633 qi_61_25 H
    have HF := H
    subst eN4
    exact Or.inr (⟨h1, HF⟩)
theorem nx_272 {e : Nat} {M M' : Mem} {v : Option Value} {c sm al : Int32} (hS : SQ M) (H : Ev none e 162 272 [some (.ref 633), some (.int c), some (.int sm), some (.int al)] [] M v M' 0 0) : Ev none e 162 178 [some (.ref 633), some (.int c), some (.int sm), some (.int al)] [] (wF (wF M 633 24 ((zI M 633 24) + 1)) 633 4 ((zI M 633 4) + 1)) v M' 0 0 := by
  have H : Ev none e 162 274 [some (.ref 633), some (.int c), some (.int sm), some (.int al)] [.ref 633, .ref 633] M v M' 0 0 := Ev.back 2 (fun n => rfl) H
  have H : Ev none e 162 277 [some (.ref 633), some (.int c), some (.int sm), some (.int al)] [.int (zI M 633 24), .ref 633] M v M' 0 0 := Ev.back 1 (gs_3 rfl rfl (gf_i hS.1 qa_633 qi_61_24 rfl)) H
  have H : Ev none e 162 279 [some (.ref 633), some (.int c), some (.int sm), some (.int al)] [.int ((zI M 633 24) + 1), .ref 633] M v M' 0 0 := Ev.back 2 (fun n => rfl) H
  obtain ⟨N2, eN2⟩ : ∃ N, N = (wF M 633 24 ((zI M 633 24) + 1)) := ⟨_, rfl⟩
  have hN2 : SQ N2 := by rw [eN2]; exact hS.kf
  have H : Ev none e 162 282 [some (.ref 633), some (.int c), some (.int sm), some (.int al)] [] N2 v M' 0 0 := by rw [eN2]; exact Ev.pfi rfl rfl rfl hS.1 qa_633 qi_61_24 H
  have H : Ev none e 162 284 [some (.ref 633), some (.int c), some (.int sm), some (.int al)] [.ref 633, .ref 633] N2 v M' 0 0 := Ev.back 2 (fun n => rfl) H
  have H : Ev none e 162 287 [some (.ref 633), some (.int c), some (.int sm), some (.int al)] [.int (zI N2 633 4), .ref 633] N2 v M' 0 0 := Ev.back 1 (gs_3 rfl rfl (gf_i hN2.1 qa_633 qi_61_4 rfl)) H
  rw [show zI N2 633 4 = zI M 633 4 from by rw [eN2]; exact fI_wF_ne (fun q => absurd q.2 (by decide))] at H
  have H : Ev none e 162 289 [some (.ref 633), some (.int c), some (.int sm), some (.int al)] [.int ((zI M 633 4) + 1), .ref 633] N2 v M' 0 0 := Ev.back 2 (fun n => rfl) H
  obtain ⟨N4, eN4⟩ : ∃ N, N = (wF N2 633 4 ((zI M 633 4) + 1)) := ⟨_, rfl⟩
  have hN4 : SQ N4 := by rw [eN4]; exact hN2.kf
  have H : Ev none e 162 292 [some (.ref 633), some (.int c), some (.int sm), some (.int al)] [] N4 v M' 0 0 := by rw [eN4]; exact Ev.pfi rfl rfl rfl hN2.1 qa_633 qi_61_4 H
  have H : Ev none e 162 178 [some (.ref 633), some (.int c), some (.int sm), some (.int al)] [] N4 v M' 0 0 := Ev.back 1 (fun n => rfl) H
  have HF := H
  subst eN2 eN4
  exact HF
theorem nx_295 {e : Nat} {M M' : Mem} {v : Option Value} {c sm al : Int32} (hS : SQ M) (H : Ev none e 162 295 [some (.ref 633), some (.int c), some (.int sm), some (.int al)] [] M v M' 0 0) : (al = 0 ∧ v = none ∧ M' = (wF M 633 22 4)) ∨ (¬ (al = 0) ∧ sm = 0 ∧ (zI M 633 24) ≤ 3 ∧ v = none ∧ M' = (wF M 633 22 2)) ∨ (¬ (al = 0) ∧ sm = 0 ∧ ¬ ((zI M 633 24) ≤ 3) ∧ v = none ∧ M' = (wF M 633 22 4)) ∨ (¬ (al = 0) ∧ ¬ (sm = 0) ∧ (zI M 633 24) ≤ 6 ∧ v = none ∧ M' = (wF M 633 22 1)) ∨ (¬ (al = 0) ∧ ¬ (sm = 0) ∧ ¬ ((zI M 633 24) ≤ 6) ∧ v = none ∧ M' = (wF M 633 22 4)) := by
  have H : Ev none e 162 (if al = 0 then 317 else 300) [some (.ref 633), some (.int c), some (.int sm), some (.int al)] [.ref 633] M v M' 0 0 := Ev.back 3 (fun n => rfl) H
  by_cases h1 : al = 0
  · rw [if_pos h1] at H
    have H : Ev none e 162 330 [some (.ref 633), some (.int c), some (.int sm), some (.int al)] [.int 4, .ref 633] M v M' 0 0 := Ev.back 2 (fun n => rfl) H
    obtain ⟨N3, eN3⟩ : ∃ N, N = (wF M 633 22 4) := ⟨_, rfl⟩
    have hN3 : SQ N3 := by rw [eN3]; exact hS.kf
    have H : Ev none e 162 333 [some (.ref 633), some (.int c), some (.int sm), some (.int al)] [] N3 v M' 0 0 := by rw [eN3]; exact Ev.pfi rfl rfl rfl hS.1 qa_633 qi_61_22 H
    obtain ⟨z1, z2⟩ := Ev.retb (fun n => rfl) H
    subst eN3
    exact Or.inl ⟨h1, z1, z2⟩
  · rw [if_neg h1] at H
    have H : Ev none e 162 301 [some (.ref 633), some (.int c), some (.int sm), some (.int al)] [.ref 633, .ref 633] M v M' 0 0 := Ev.back 1 (fun n => rfl) H
    have H : Ev none e 162 304 [some (.ref 633), some (.int c), some (.int sm), some (.int al)] [.int (zI M 633 24), .ref 633] M v M' 0 0 := Ev.back 1 (gs_3 rfl rfl (gf_i hS.1 qa_633 qi_61_24 rfl)) H
    have H : Ev none e 162 (if sm = 0 then 313 else 308) [some (.ref 633), some (.int c), some (.int sm), some (.int al)] [.int (zI M 633 24), .ref 633] M v M' 0 0 := Ev.back 2 (fun n => rfl) H
    by_cases h4 : sm = 0
    · rw [if_pos h4] at H
      have H : Ev none e 162 (if (zI M 633 24) ≤ 3 then 321 else 317) [some (.ref 633), some (.int c), some (.int sm), some (.int al)] [.ref 633] M v M' 0 0 := Ev.back 2 (fun n => rfl) H
      by_cases h5 : (zI M 633 24) ≤ 3
      · rw [if_pos h5] at H
        have H : Ev none e 162 (if sm = 0 then 329 else 325) [some (.ref 633), some (.int c), some (.int sm), some (.int al)] [.ref 633] M v M' 0 0 := Ev.back 2 (fun n => rfl) H
        rw [if_pos h4] at H
        have H : Ev none e 162 330 [some (.ref 633), some (.int c), some (.int sm), some (.int al)] [.int 2, .ref 633] M v M' 0 0 := Ev.back 1 (fun n => rfl) H
        obtain ⟨N7, eN7⟩ : ∃ N, N = (wF M 633 22 2) := ⟨_, rfl⟩
        have hN7 : SQ N7 := by rw [eN7]; exact hS.kf
        have H : Ev none e 162 333 [some (.ref 633), some (.int c), some (.int sm), some (.int al)] [] N7 v M' 0 0 := by rw [eN7]; exact Ev.pfi rfl rfl rfl hS.1 qa_633 qi_61_22 H
        obtain ⟨z1, z2⟩ := Ev.retb (fun n => rfl) H
        subst eN7
        exact Or.inr (Or.inl ⟨h1, h4, h5, z1, z2⟩)
      · rw [if_neg h5] at H
        have H : Ev none e 162 330 [some (.ref 633), some (.int c), some (.int sm), some (.int al)] [.int 4, .ref 633] M v M' 0 0 := Ev.back 2 (fun n => rfl) H
        obtain ⟨N9, eN9⟩ : ∃ N, N = (wF M 633 22 4) := ⟨_, rfl⟩
        have hN9 : SQ N9 := by rw [eN9]; exact hS.kf
        have H : Ev none e 162 333 [some (.ref 633), some (.int c), some (.int sm), some (.int al)] [] N9 v M' 0 0 := by rw [eN9]; exact Ev.pfi rfl rfl rfl hS.1 qa_633 qi_61_22 H
        obtain ⟨z1, z2⟩ := Ev.retb (fun n => rfl) H
        subst eN9
        exact Or.inr (Or.inr (Or.inl ⟨h1, h4, h5, z1, z2⟩))
    · rw [if_neg h4] at H
      have H : Ev none e 162 (if (zI M 633 24) ≤ 6 then 321 else 317) [some (.ref 633), some (.int c), some (.int sm), some (.int al)] [.ref 633] M v M' 0 0 := Ev.back 3 (fun n => rfl) H
      by_cases h10 : (zI M 633 24) ≤ 6
      · rw [if_pos h10] at H
        have H : Ev none e 162 (if sm = 0 then 329 else 325) [some (.ref 633), some (.int c), some (.int sm), some (.int al)] [.ref 633] M v M' 0 0 := Ev.back 2 (fun n => rfl) H
        rw [if_neg h4] at H
        have H : Ev none e 162 330 [some (.ref 633), some (.int c), some (.int sm), some (.int al)] [.int 1, .ref 633] M v M' 0 0 := Ev.back 2 (fun n => rfl) H
        obtain ⟨N12, eN12⟩ : ∃ N, N = (wF M 633 22 1) := ⟨_, rfl⟩
        have hN12 : SQ N12 := by rw [eN12]; exact hS.kf
        have H : Ev none e 162 333 [some (.ref 633), some (.int c), some (.int sm), some (.int al)] [] N12 v M' 0 0 := by rw [eN12]; exact Ev.pfi rfl rfl rfl hS.1 qa_633 qi_61_22 H
        obtain ⟨z1, z2⟩ := Ev.retb (fun n => rfl) H
        subst eN12
        exact Or.inr (Or.inr (Or.inr (Or.inl ⟨h1, h4, h10, z1, z2⟩)))
      · rw [if_neg h10] at H
        have H : Ev none e 162 330 [some (.ref 633), some (.int c), some (.int sm), some (.int al)] [.int 4, .ref 633] M v M' 0 0 := Ev.back 2 (fun n => rfl) H
        obtain ⟨N14, eN14⟩ : ∃ N, N = (wF M 633 22 4) := ⟨_, rfl⟩
        have hN14 : SQ N14 := by rw [eN14]; exact hS.kf
        have H : Ev none e 162 333 [some (.ref 633), some (.int c), some (.int sm), some (.int al)] [] N14 v M' 0 0 := by rw [eN14]; exact Ev.pfi rfl rfl rfl hS.1 qa_633 qi_61_22 H
        obtain ⟨z1, z2⟩ := Ev.retb (fun n => rfl) H
        subst eN14
        exact Or.inr (Or.inr (Or.inr (Or.inr (⟨h1, h4, h10, z1, z2⟩))))
