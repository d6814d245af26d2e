/-! THE REFERENCE'S calls on its park: pieces (made by gref4.py) -/
noncomputable def G_142 (M : Mem) (at0 : Int32) : Int32 := (rI M 634 at0) &&& 255
theorem g_142 {e : Nat} {M M' : Mem} {v : Option Value} {at0 : Int32} (hS : SQ M) (H : Ev none e 142 0 [some (.ref 633), some (.int at0)] [] M v M' 0 0) : v = some (.int (G_142 M at0)) ∧ M' = M := by
  unfold G_142
  have H : Ev none e 142 1 [some (.ref 633), some (.int at0)] [.ref 633] M v M' 0 0 := Ev.back 1 (fun n => rfl) H
  have H : Ev none e 142 4 [some (.ref 633), some (.int at0)] [.ref 634] M v M' 0 0 := Ev.back 1 (gs_3 rfl rfl (gf_u hS.1 qa_633 qr_61_1 qu_62 rfl)) H
  have H : Ev none e 142 5 [some (.ref 633), some (.int at0)] [.int at0, .ref 634] M v M' 0 0 := Ev.back 1 (fun n => rfl) H
  obtain ⟨b1, H⟩ := Ev.bal rfl rfl hS.1 qa_634 qw_62 (Or.inl rfl) H
  have H : Ev none e 142 6 [some (.ref 633), some (.int at0)] [.int (rI M 634 at0)] M v M' 0 0 := H
  have H : Ev none e 142 10 [some (.ref 633), some (.int at0)] [.int ((rI M 634 at0) &&& 255)] M v M' 0 0 := Ev.back 2 (fun n => rfl) H
  obtain ⟨p1, p2⟩ := Ev.retz rfl rfl H
  exact ⟨p1, p2⟩
noncomputable def G_145 (M : Mem) (c : Int32) : Int32 := G_140 M c 0 ((G_144 M) - 1)
theorem g_145 {e : Nat} {M M' : Mem} {v : Option Value} {c : Int32} (hS : SQ M) (H : Ev none e 145 0 [some (.ref 633), some (.int c)] [] M v M' 0 0) : v = some (.int (G_145 M c)) ∧ M' = M := by
  unfold G_145
  have H : Ev none e 145 3 [some (.ref 633), some (.int c)] [.ref 633, .int 0, .int c] M v M' 0 0 := Ev.back 3 (fun n => rfl) H
  obtain ⟨e1, rfl⟩ := Ev.dpos rfl rfl H
  obtain ⟨vK1, MK1, K1, H⟩ := Ev.callb (fun n_ => gs_7 rfl rfl (show gCal (.invokevirtual 128) 11 (.ref 633 :: [.int 0, .int c]) M = some (.inr (144, [some (.ref 633)], [.int 0, .int c])) from by show @cond (Option ((List Value × Mem) ⊕ (Nat × Lo × List Value))) (true && gRecv M (.ref 633) 11 && gRoom [.int 0, .int c] && true) (some (.inr (144, [some (.ref 633)], [.int 0, .int c]))) none = _; rw [recv_s hS.1 qa_633 qo_61]; rfl)) H
  obtain ⟨pK1, qK1⟩ := g_144 hS K1
  rw [pK1, qK1] at H
  have H : Ev none (e1 + 1) 145 6 [some (.ref 633), some (.int c)] [.int (G_144 M), .int 0, .int c] M v M' 0 0 := H
  have H : Ev none (e1 + 1) 145 8 [some (.ref 633), some (.int c)] [.int ((G_144 M) - 1), .int 0, .int c] M v M' 0 0 := Ev.back 2 (fun n => rfl) H
  obtain ⟨vK2, MK2, K2, H⟩ := Ev.callb (fun n => rfl) H
  obtain ⟨pK2, qK2⟩ := g_140 hS K2
  rw [pK2, qK2] at H
  have H : Ev none (e1 + 1) 145 11 [some (.ref 633), some (.int c)] [.int (G_140 M c 0 ((G_144 M) - 1))] M v M' 0 0 := H
  obtain ⟨p1, p2⟩ := Ev.retz rfl rfl H
  exact ⟨p1, p2⟩
noncomputable def G_152 (M : Mem) (d : Int32) : Int32 := G_140 M d 0 ((rI M 635 2) - 1)
theorem g_152 {e : Nat} {M M' : Mem} {v : Option Value} {d : Int32} (hS : SQ M) (H : Ev none e 152 0 [some (.ref 633), some (.int d)] [] M v M' 0 0) : v = some (.int (G_152 M d)) ∧ M' = M := by
  unfold G_152
  have H : Ev none e 152 3 [some (.ref 633), some (.int d)] [.ref 633, .int 0, .int d] M v M' 0 0 := Ev.back 3 (fun n => rfl) H
  have H : Ev none e 152 6 [some (.ref 633), some (.int d)] [.ref 635, .int 0, .int d] M v M' 0 0 := Ev.back 1 (gs_3 rfl rfl (gf_u hS.1 qa_633 qr_61_5 qu_63 rfl)) H
  have H : Ev none e 152 7 [some (.ref 633), some (.int d)] [.int 2, .ref 635, .int 0, .int d] M v M' 0 0 := Ev.back 1 (fun n => rfl) H
  obtain ⟨b1, H⟩ := Ev.ial rfl rfl hS.1 qa_635 qw_63 H
  have H : Ev none e 152 8 [some (.ref 633), some (.int d)] [.int (rI M 635 2), .int 0, .int d] M v M' 0 0 := H
  have H : Ev none e 152 10 [some (.ref 633), some (.int d)] [.int ((rI M 635 2) - 1), .int 0, .int d] M v M' 0 0 := Ev.back 2 (fun n => rfl) H
  obtain ⟨e1, rfl⟩ := Ev.dpos rfl rfl H
  obtain ⟨vK2, MK2, K2, H⟩ := Ev.callb (fun n => rfl) H
  obtain ⟨pK2, qK2⟩ := g_140 hS K2
  rw [pK2, qK2] at H
  have H : Ev none (e1 + 1) 152 13 [some (.ref 633), some (.int d)] [.int (G_140 M d 0 ((rI M 635 2) - 1))] M v M' 0 0 := H
  obtain ⟨p1, p2⟩ := Ev.retz rfl rfl H
  exact ⟨p1, p2⟩
theorem rda_0 {e : Nat} {M M' : Mem} {v : Option Value} {c : Int32} (hS : SQ M) (H : Ev none e 157 0 [some (.ref 633), some (.int c), none] [] M v M' 0 0) : Ev none e 157 2 [some (.ref 633), some (.int c), some (.int 0)] [] M v M' 0 0 := by
  have H : Ev none e 157 2 [some (.ref 633), some (.int c), some (.int 0)] [] M v M' 0 0 := Ev.back 2 (fun n => rfl) H
  have HF := H
  exact HF
theorem rda_2 {e : Nat} {M M' : Mem} {v : Option Value} {c k : Int32} (hS : SQ M) (H : Ev none e 157 2 [some (.ref 633), some (.int c), some (.int k)] [] M v M' 0 0) : ((rI M 635 2) ≤ k ∧ (0 ≤ (2 : Int32).toInt ∧ (2 : Int32).toInt < 2314) ∧ v = some (.int 0) ∧ M' = M) ∨ (¬ ((rI M 635 2) ≤ k) ∧ (rI M 635 (3 + k)) = c ∧ (0 ≤ (2 : Int32).toInt ∧ (2 : Int32).toInt < 2314) ∧ (0 ≤ (3 + k).toInt ∧ (3 + k).toInt < 2314) ∧ v = some (.int 1) ∧ M' = M) ∨ (¬ ((rI M 635 2) ≤ k) ∧ ¬ ((rI M 635 (3 + k)) = c) ∧ (0 ≤ (2 : Int32).toInt ∧ (2 : Int32).toInt < 2314) ∧ (0 ≤ (3 + k).toInt ∧ (3 + k).toInt < 2314) ∧ Ev none e 157 2 [some (.ref 633), some (.int c), some (.int (k + 1))] [] M v M' 0 0) := by
  have H : Ev none e 157 4 [some (.ref 633), some (.int c), some (.int k)] [.ref 633, .int k] M v M' 0 0 := Ev.back 2 (fun n => rfl) H
  have H : Ev none e 157 7 [some (.ref 633), some (.int c), some (.int k)] [.ref 635, .int k] M v M' 0 0 := Ev.back 1 (gs_3 rfl rfl (gf_u hS.1 qa_633 qr_61_5 qu_63 rfl)) H
  have H : Ev none e 157 8 [some (.ref 633), some (.int c), some (.int k)] [.int 2, .ref 635, .int k] M v M' 0 0 := Ev.back 1 (fun n => rfl) H
  obtain ⟨b1, H⟩ := Ev.ial rfl rfl hS.1 qa_635 qw_63 H
  have H : Ev none e 157 9 [some (.ref 633), some (.int c), some (.int k)] [.int (rI M 635 2), .int k] M v M' 0 0 := H
  have H : Ev none e 157 (if (rI M 635 2) ≤ k then 32 else 12) [some (.ref 633), some (.int c), some (.int k)] [] M v M' 0 0 := Ev.back 1 (fun n => rfl) H
  by_cases h2 : (rI M 635 2) ≤ k
  · rw [if_pos h2] at H
    have H : Ev none e 157 33 [some (.ref 633), some (.int c), some (.int k)] [.int 0] M v M' 0 0 := Ev.back 1 (fun n => rfl) H
    obtain ⟨z1, z2⟩ := Ev.retz rfl rfl H
    exact Or.inl ⟨h2, b1, z1, z2⟩
  · rw [if_neg h2] at H
    have H : Ev none e 157 13 [some (.ref 633), some (.int c), some (.int k)] [.ref 633] M v M' 0 0 := Ev.back 1 (fun n => rfl) H
    have H : Ev none e 157 16 [some (.ref 633), some (.int c), some (.int k)] [.ref 635] M v M' 0 0 := Ev.back 1 (gs_3 rfl rfl (gf_u hS.1 qa_633 qr_61_5 qu_63 rfl)) H
    have H : Ev none e 157 19 [some (.ref 633), some (.int c), some (.int k)] [.int (3 + k), .ref 635] M v M' 0 0 := Ev.back 3 (fun n => rfl) H
    obtain ⟨b3, H⟩ := Ev.ial rfl rfl hS.1 qa_635 qw_63 H
    have H : Ev none e 157 20 [some (.ref 633), some (.int c), some (.int k)] [.int (rI M 635 (3 + k))] M v M' 0 0 := H
    have H : Ev none e 157 (if (rI M 635 (3 + k)) = c then 24 else 26) [some (.ref 633), some (.int c), some (.int k)] [] M v M' 0 0 := Ev.back 2 (fun n => rfl) H
    by_cases h4 : (rI M 635 (3 + k)) = c
    · rw [if_pos h4] at H
      have H : Ev none e 157 25 [some (.ref 633), some (.int c), some (.int k)] [.int 1] M v M' 0 0 := Ev.back 1 (fun n => rfl) H
      obtain ⟨z1, z2⟩ := Ev.retz rfl rfl H
      exact Or.inr (Or.inl ⟨h2, h4, b1, b3, z1, z2⟩)
    · rw [if_neg h4] at H
      have H : Ev none e 157 2 [some (.ref 633), some (.int c), some (.int (k + 1))] [] M v M' 0 0 := Ev.back 2 (fun n => rfl) H
      have HF := H
      exact Or.inr (Or.inr (⟨h2, h4, b1, b3, HF⟩))
theorem rwa_0 {e : Nat} {M M' : Mem} {v : Option Value} {c : Int32} (hS : SQ M) (H : Ev none e 158 0 [some (.ref 633), some (.int c), none] [] M v M' 0 0) : Ev none e 158 2 [some (.ref 633), some (.int c), some (.int 0)] [] M v M' 0 0 := by
  have H : Ev none e 158 2 [some (.ref 633), some (.int c), some (.int 0)] [] M v M' 0 0 := Ev.back 2 (fun n => rfl) H
  have HF := H
  exact HF
theorem rwa_2 {e : Nat} {M M' : Mem} {v : Option Value} {c k : Int32} (hS : SQ M) (H : Ev none e 158 2 [some (.ref 633), some (.int c), some (.int k)] [] M v M' 0 0) : ((rI M 635 157) ≤ k ∧ (0 ≤ (157 : Int32).toInt ∧ (157 : Int32).toInt < 2314) ∧ v = some (.int 0) ∧ M' = M) ∨ (¬ ((rI M 635 157) ≤ k) ∧ (rI M 635 (158 + (6 * k))) = c ∧ (0 ≤ (157 : Int32).toInt ∧ (157 : Int32).toInt < 2314) ∧ (0 ≤ (158 + (6 * k)).toInt ∧ (158 + (6 * k)).toInt < 2314) ∧ v = some (.int 1) ∧ M' = M) ∨ (¬ ((rI M 635 157) ≤ k) ∧ ¬ ((rI M 635 (158 + (6 * k))) = c) ∧ (0 ≤ (157 : Int32).toInt ∧ (157 : Int32).toInt < 2314) ∧ (0 ≤ (158 + (6 * k)).toInt ∧ (158 + (6 * k)).toInt < 2314) ∧ Ev none e 158 2 [some (.ref 633), some (.int c), some (.int (k + 1))] [] M v M' 0 0) := by
  have H : Ev none e 158 4 [some (.ref 633), some (.int c), some (.int k)] [.ref 633, .int k] M v M' 0 0 := Ev.back 2 (fun n => rfl) H
  have H : Ev none e 158 7 [some (.ref 633), some (.int c), some (.int k)] [.ref 635, .int k] M v M' 0 0 := Ev.back 1 (gs_3 rfl rfl (gf_u hS.1 qa_633 qr_61_5 qu_63 rfl)) H
  have H : Ev none e 158 10 [some (.ref 633), some (.int c), some (.int k)] [.int 157, .ref 635, .int k] M v M' 0 0 := Ev.back 1 (fun n => rfl) H
  obtain ⟨b1, H⟩ := Ev.ial rfl rfl hS.1 qa_635 qw_63 H
  have H : Ev none e 158 11 [some (.ref 633), some (.int c), some (.int k)] [.int (rI M 635 157), .int k] M v M' 0 0 := H
  have H : Ev none e 158 (if (rI M 635 157) ≤ k then 39 else 14) [some (.ref 633), some (.int c), some (.int k)] [] M v M' 0 0 := Ev.back 1 (fun n => rfl) H
  by_cases h2 : (rI M 635 157) ≤ k
  · rw [if_pos h2] at H
    have H : Ev none e 158 40 [some (.ref 633), some (.int c), some (.int k)] [.int 0] M v M' 0 0 := Ev.back 1 (fun n => rfl) H
    obtain ⟨z1, z2⟩ := Ev.retz rfl rfl H
    exact Or.inl ⟨h2, b1, z1, z2⟩
  · rw [if_neg h2] at H
    have H : Ev none e 158 15 [some (.ref 633), some (.int c), some (.int k)] [.ref 633] M v M' 0 0 := Ev.back 1 (fun n => rfl) H
    have H : Ev none e 158 18 [some (.ref 633), some (.int c), some (.int k)] [.ref 635] M v M' 0 0 := Ev.back 1 (gs_3 rfl rfl (gf_u hS.1 qa_633 qr_61_5 qu_63 rfl)) H
    have H : Ev none e 158 26 [some (.ref 633), some (.int c), some (.int k)] [.int (158 + (6 * k)), .ref 635] M v M' 0 0 := Ev.back 5 (fun n => rfl) H
    obtain ⟨b3, H⟩ := Ev.ial rfl rfl hS.1 qa_635 qw_63 H
    have H : Ev none e 158 27 [some (.ref 633), some (.int c), some (.int k)] [.int (rI M 635 (158 + (6 * k)))] M v M' 0 0 := H
    have H : Ev none e 158 (if (rI M 635 (158 + (6 * k))) = c then 31 else 33) [some (.ref 633), some (.int c), some (.int k)] [] M v M' 0 0 := Ev.back 2 (fun n => rfl) H
    by_cases h4 : (rI M 635 (158 + (6 * k))) = c
    · rw [if_pos h4] at H
      have H : Ev none e 158 32 [some (.ref 633), some (.int c), some (.int k)] [.int 1] M v M' 0 0 := Ev.back 1 (fun n => rfl) H
      obtain ⟨z1, z2⟩ := Ev.retz rfl rfl H
      exact Or.inr (Or.inl ⟨h2, h4, b1, b3, z1, z2⟩)
    · rw [if_neg h4] at H
      have H : Ev none e 158 2 [some (.ref 633), some (.int c), some (.int (k + 1))] [] M v M' 0 0 := Ev.back 2 (fun n => rfl) H
      have HF := H
      exact Or.inr (Or.inr (⟨h2, h4, b1, b3, HF⟩))
noncomputable def G_189 (M : Mem) (k : Int32) : Int32 := if (G_140 M k 0 ((rI M 635 12) - 1)) = 0 then 0 else (if (rI M 635 ((13 + (6 * k)) + 5)) = 1 then 1 else 0)
theorem g_189 {e : Nat} {M M' : Mem} {v : Option Value} {k : Int32} (hS : SQ M) (H : Ev none e 189 0 [some (.ref 633), some (.int k)] [] M v M' 0 0) : v = some (.int (G_189 M k)) ∧ M' = M := by
  unfold G_189
  have H : Ev none e 189 3 [some (.ref 633), some (.int k)] [.ref 633, .int 0, .int k] M v M' 0 0 := Ev.back 3 (fun n => rfl) H
  have H : Ev none e 189 6 [some (.ref 633), some (.int k)] [.ref 635, .int 0, .int k] M v M' 0 0 := Ev.back 1 (gs_3 rfl rfl (gf_u hS.1 qa_633 qr_61_5 qu_63 rfl)) H
  have H : Ev none e 189 8 [some (.ref 633), some (.int k)] [.int 12, .ref 635, .int 0, .int k] M v M' 0 0 := Ev.back 1 (fun n => rfl) H
  obtain ⟨b1, H⟩ := Ev.ial rfl rfl hS.1 qa_635 qw_63 H
  have H : Ev none e 189 9 [some (.ref 633), some (.int k)] [.int (rI M 635 12), .int 0, .int k] M v M' 0 0 := H
  have H : Ev none e 189 11 [some (.ref 633), some (.int k)] [.int ((rI M 635 12) - 1), .int 0, .int k] M v M' 0 0 := Ev.back 2 (fun n => rfl) H
  obtain ⟨e1, rfl⟩ := Ev.dpos rfl rfl H
  obtain ⟨vK2, MK2, K2, H⟩ := Ev.callb (fun n => rfl) H
  obtain ⟨pK2, qK2⟩ := g_140 hS K2
  rw [pK2, qK2] at H
  have H : Ev none (e1 + 1) 189 14 [some (.ref 633), some (.int k)] [.int (G_140 M k 0 ((rI M 635 12) - 1))] M v M' 0 0 := H
  have H : Ev none (e1 + 1) 189 (if (G_140 M k 0 ((rI M 635 12) - 1)) = 0 then 39 else 17) [some (.ref 633), some (.int k)] [] M v M' 0 0 := Ev.back 1 (fun n => rfl) H
  by_cases h3 : (G_140 M k 0 ((rI M 635 12) - 1)) = 0
  · rw [if_pos h3] at H
    have H : Ev none (e1 + 1) 189 40 [some (.ref 633), some (.int k)] [.int 0] M v M' 0 0 := Ev.back 1 (fun n => rfl) H
    obtain ⟨p1, p2⟩ := Ev.retz rfl rfl H
    exact ⟨by rw [if_pos h3]; exact p1, p2⟩
  · rw [if_neg h3] at H
    have H : Ev none (e1 + 1) 189 18 [some (.ref 633), some (.int k)] [.ref 633] M v M' 0 0 := Ev.back 1 (fun n => rfl) H
    have H : Ev none (e1 + 1) 189 21 [some (.ref 633), some (.int k)] [.ref 635] M v M' 0 0 := Ev.back 1 (gs_3 rfl rfl (gf_u hS.1 qa_633 qr_61_5 qu_63 rfl)) H
    have H : Ev none (e1 + 1) 189 30 [some (.ref 633), some (.int k)] [.int ((13 + (6 * k)) + 5), .ref 635] M v M' 0 0 := Ev.back 7 (fun n => rfl) H
    obtain ⟨b4, H⟩ := Ev.ial rfl rfl hS.1 qa_635 qw_63 H
    have H : Ev none (e1 + 1) 189 31 [some (.ref 633), some (.int k)] [.int (rI M 635 ((13 + (6 * k)) + 5))] M v M' 0 0 := H
    have H : Ev none (e1 + 1) 189 (if (rI M 635 ((13 + (6 * k)) + 5)) = 1 then 35 else 39) [some (.ref 633), some (.int k)] [] M v M' 0 0 := Ev.back 2 (fun n => rfl) H
    by_cases h5 : (rI M 635 ((13 + (6 * k)) + 5)) = 1
    · rw [if_pos h5] at H
      have H : Ev none (e1 + 1) 189 40 [some (.ref 633), some (.int k)] [.int 1] M v M' 0 0 := Ev.back 2 (fun n => rfl) H
      obtain ⟨p1, p2⟩ := Ev.retz rfl rfl H
      exact ⟨by rw [if_neg h3, if_pos h5]; exact p1, p2⟩
    · rw [if_neg h5] at H
      have H : Ev none (e1 + 1) 189 40 [some (.ref 633), some (.int k)] [.int 0] M v M' 0 0 := Ev.back 1 (fun n => rfl) H
      obtain ⟨p1, p2⟩ := Ev.retz rfl rfl H
      exact ⟨by rw [if_neg h3, if_neg h5]; exact p1, p2⟩
theorem rdo_0 {e : Nat} {M M' : Mem} {v : Option Value} {c : Int32} (hS : SQ M) (H : Ev none e 156 0 [some (.ref 633), some (.int c)] [] M v M' 0 0) : ((rI M 635 2) = 9 ∧ (0 ≤ (2 : Int32).toInt ∧ (2 : Int32).toInt < 2314) ∧ v = some (.int (-1)) ∧ M' = (wF M 633 0 0)) ∨ (¬ ((rI M 635 2) = 9) ∧ (G_145 (wF M 633 0 0) c) = 0 ∧ (0 ≤ (2 : Int32).toInt ∧ (2 : Int32).toInt < 2314) ∧ v = some (.int (-1)) ∧ M' = (wF M 633 0 0)) ∨ (¬ ((rI M 635 2) = 9) ∧ ¬ ((G_145 (wF M 633 0 0) c) = 0) ∧ (G_148 (wF M 633 0 0) c) = 0 ∧ (0 ≤ (2 : Int32).toInt ∧ (2 : Int32).toInt < 2314) ∧ v = some (.int (-1)) ∧ M' = (wF M 633 0 0)) ∨ (¬ ((rI M 635 2) = 9) ∧ ¬ ((G_145 (wF M 633 0 0) c) = 0) ∧ ¬ ((G_148 (wF M 633 0 0) c) = 0) ∧ (0 ≤ (2 : Int32).toInt ∧ (2 : Int32).toInt < 2314) ∧ (∃ e1 v1 M1, e = e1 + 1 ∧ Ev none e1 157 0 [some (.ref 633), some (.int c), none] [] (wF M 633 0 0) v1 M1 0 0 ∧ Ev none e 156 37 [some (.ref 633), some (.int c)] (v1.toList ++ []) M1 v M' 0 0)) := by
  have H : Ev none e 156 2 [some (.ref 633), some (.int c)] [.int 0, .ref 633] M v M' 0 0 := Ev.back 2 (fun n => rfl) H
  obtain ⟨N2, eN2⟩ : ∃ N, N = (wF M 633 0 0) := ⟨_, rfl⟩
  have hN2 : SQ N2 := by rw [eN2]; exact hS.kf
  have H : Ev none e 156 5 [some (.ref 633), some (.int c)] [] N2 v M' 0 0 := by rw [eN2]; exact Ev.pfi rfl rfl rfl hS.1 qa_633 qi_61_0 H
  have H : Ev none e 156 6 [some (.ref 633), some (.int c)] [.ref 633] N2 v M' 0 0 := Ev.back 1 (fun n => rfl) H
  have H : Ev none e 156 9 [some (.ref 633), some (.int c)] [.ref 635] N2 v M' 0 0 := Ev.back 1 (gs_3 rfl rfl (gf_u hN2.1 qa_633 qr_61_5 qu_63 rfl)) H
  have H : Ev none e 156 10 [some (.ref 633), some (.int c)] [.int 2, .ref 635] N2 v M' 0 0 := Ev.back 1 (fun n => rfl) H
  obtain ⟨b3, H⟩ := Ev.ial rfl rfl hN2.1 qa_635 qw_63 H
  have H : Ev none e 156 11 [some (.ref 633), some (.int c)] [.int (rI N2 635 2)] N2 v M' 0 0 := H
  rw [show rI N2 635 2 = rI M 635 2 from by rw [eN2]; exact rN_wF] at H
  have H : Ev none e 156 (if (rI M 635 2) = 9 then 40 else 16) [some (.ref 633), some (.int c)] [] N2 v M' 0 0 := Ev.back 2 (fun n => rfl) H
  by_cases h4 : (rI M 635 2) = 9
  · rw [if_pos h4] at H
    have H : Ev none e 156 41 [some (.ref 633), some (.int c)] [.int (-1)] N2 v M' 0 0 := Ev.back 1 (fun n => rfl) H
    obtain ⟨z1, z2⟩ := Ev.retz rfl rfl H
    subst eN2
    exact Or.inl ⟨h4, b3, z1, z2⟩
  · rw [if_neg h4] at H
    have H : Ev none e 156 18 [some (.ref 633), some (.int c)] [.int c, .ref 633] N2 v M' 0 0 := Ev.back 2 (fun n => rfl) H
    obtain ⟨e1, rfl⟩ := Ev.dpos rfl rfl H
    obtain ⟨vK5, MK5, K5, H⟩ := Ev.callb (fun n_ => gs_7 rfl rfl (show gCal (.invokevirtual 155) 11 (.int c :: .ref 633 :: []) N2 = some (.inr (145, [some (.ref 633), some (.int c)], [])) from by show @cond (Option ((List Value × Mem) ⊕ (Nat × Lo × List Value))) (true && gRecv N2 (.ref 633) 11 && gRoom [] && true) (some (.inr (145, [some (.ref 633), some (.int c)], []))) none = _; rw [recv_s hN2.1 qa_633 qo_61]; rfl)) H
    obtain ⟨pK5, qK5⟩ := g_145 hN2 K5
    rw [pK5, qK5] at H
    have H : Ev none (e1 + 1) 156 21 [some (.ref 633), some (.int c)] [.int (G_145 N2 c)] N2 v M' 0 0 := H
    have H : Ev none (e1 + 1) 156 (if (G_145 N2 c) = 0 then 40 else 24) [some (.ref 633), some (.int c)] [] N2 v M' 0 0 := Ev.back 1 (fun n => rfl) H
    by_cases h6 : (G_145 N2 c) = 0
    · rw [if_pos h6] at H
      have H : Ev none (e1 + 1) 156 41 [some (.ref 633), some (.int c)] [.int (-1)] N2 v M' 0 0 := Ev.back 1 (fun n => rfl) H
      obtain ⟨z1, z2⟩ := Ev.retz rfl rfl H
      subst eN2
      exact Or.inr (Or.inl ⟨h4, h6, b3, z1, z2⟩)
    · rw [if_neg h6] at H
      have H : Ev none (e1 + 1) 156 26 [some (.ref 633), some (.int c)] [.int c, .ref 633] N2 v M' 0 0 := Ev.back 2 (fun n => rfl) H
      obtain ⟨vK7, MK7, K7, H⟩ := Ev.callb (fun n_ => gs_7 rfl rfl (show gCal (.invokevirtual 158) 11 (.int c :: .ref 633 :: []) N2 = some (.inr (148, [some (.ref 633), some (.int c)], [])) from by show @cond (Option ((List Value × Mem) ⊕ (Nat × Lo × List Value))) (true && gRecv N2 (.ref 633) 11 && gRoom [] && true) (some (.inr (148, [some (.ref 633), some (.int c)], []))) none = _; rw [recv_s hN2.1 qa_633 qo_61]; rfl)) H
      obtain ⟨pK7, qK7⟩ := g_148 hN2 K7
      rw [pK7, qK7] at H
      have H : Ev none (e1 + 1) 156 29 [some (.ref 633), some (.int c)] [.int (G_148 N2 c)] N2 v M' 0 0 := H
      have H : Ev none (e1 + 1) 156 (if (G_148 N2 c) = 0 then 40 else 32) [some (.ref 633), some (.int c)] [] N2 v M' 0 0 := Ev.back 1 (fun n => rfl) H
      by_cases h8 : (G_148 N2 c) = 0
      · rw [if_pos h8] at H
        have H : Ev none (e1 + 1) 156 41 [some (.ref 633), some (.int c)] [.int (-1)] N2 v M' 0 0 := Ev.back 1 (fun n => rfl) H
        obtain ⟨z1, z2⟩ := Ev.retz rfl rfl H
        subst eN2
        exact Or.inr (Or.inr (Or.inl ⟨h4, h6, h8, b3, z1, z2⟩))
      · rw [if_neg h8] at H
        have H : Ev none (e1 + 1) 156 34 [some (.ref 633), some (.int c)] [.int c, .ref 633] N2 v M' 0 0 := Ev.back 2 (fun n => rfl) H
        obtain ⟨vK9, MK9, K9, H⟩ := Ev.callb (fun n_ => gs_7 rfl rfl (show gCal (.invokevirtual 161) 11 (.int c :: .ref 633 :: []) N2 = some (.inr (157, [some (.ref 633), some (.int c), none], [])) from by show @cond (Option ((List Value × Mem) ⊕ (Nat × Lo × List Value))) (true && gRecv N2 (.ref 633) 11 && gRoom [] && true) (some (.inr (157, [some (.ref 633), some (.int c), none], []))) none = _; rw [recv_s hN2.1 qa_633 qo_61]; rfl)) H
        have K9 : Ev none e1 157 0 [some (.ref 633), some (.int c), none] [] N2 vK9 MK9 0 0 := K9
        have HF := H
        subst eN2
        exact Or.inr (Or.inr (Or.inr (⟨h4, h6, h8, b3, ⟨e1, vK9, MK9, rfl, K9, HF⟩⟩)))
theorem rdo_37 {e : Nat} {M M' : Mem} {v : Option Value} {c r : Int32} (hS : SQ M) (H : Ev none e 156 37 [some (.ref 633), some (.int c)] [.int r] M v M' 0 0) : (r = 0 ∧ (0 ≤ (2 : Int32).toInt ∧ (2 : Int32).toInt < 2314) ∧ (0 ≤ (3 + (rI M 635 2)).toInt ∧ (3 + (rI M 635 2)).toInt < 2314) ∧ (0 ≤ (2 : Int32).toInt ∧ (2 : Int32).toInt < 2314) ∧ (0 ≤ (2 : Int32).toInt ∧ (2 : Int32).toInt < 2314) ∧ (0 ≤ (2 : Int32).toInt ∧ (2 : Int32).toInt < 2314) ∧ v = some (.int ((rI (wI (wI M 635 ((3 + (rI M 635 2)).toNatClampNeg) c) 635 ((2 : Int32).toNatClampNeg) ((rI (wI M 635 ((3 + (rI M 635 2)).toNatClampNeg) c) 635 2) + 1)) 635 2) - 1)) ∧ M' = (wI (wI M 635 ((3 + (rI M 635 2)).toNatClampNeg) c) 635 ((2 : Int32).toNatClampNeg) ((rI (wI M 635 ((3 + (rI M 635 2)).toNatClampNeg) c) 635 2) + 1))) ∨ (¬ (r = 0) ∧ v = some (.int (-1)) ∧ M' = M) := by
  have H : Ev none e 156 (if r = 0 then 42 else 40) [some (.ref 633), some (.int c)] [] M v M' 0 0 := Ev.back 1 (fun n => rfl) H
  by_cases h1 : r = 0
  · rw [if_pos h1] at H
    have H : Ev none e 156 43 [some (.ref 633), some (.int c)] [.ref 633] M v M' 0 0 := Ev.back 1 (fun n => rfl) H
    have H : Ev none e 156 46 [some (.ref 633), some (.int c)] [.ref 635] M v M' 0 0 := Ev.back 1 (gs_3 rfl rfl (gf_u hS.1 qa_633 qr_61_5 qu_63 rfl)) H
    have H : Ev none e 156 48 [some (.ref 633), some (.int c)] [.ref 633, .int 3, .ref 635] M v M' 0 0 := Ev.back 2 (fun n => rfl) H
    have H : Ev none e 156 51 [some (.ref 633), some (.int c)] [.ref 635, .int 3, .ref 635] M v M' 0 0 := Ev.back 1 (gs_3 rfl rfl (gf_u hS.1 qa_633 qr_61_5 qu_63 rfl)) H
    have H : Ev none e 156 52 [some (.ref 633), some (.int c)] [.int 2, .ref 635, .int 3, .ref 635] M v M' 0 0 := Ev.back 1 (fun n => rfl) H
    obtain ⟨b2, H⟩ := Ev.ial rfl rfl hS.1 qa_635 qw_63 H
    have H : Ev none e 156 53 [some (.ref 633), some (.int c)] [.int (rI M 635 2), .int 3, .ref 635] M v M' 0 0 := H
    have H : Ev none e 156 55 [some (.ref 633), some (.int c)] [.int c, .int (3 + (rI M 635 2)), .ref 635] M v M' 0 0 := Ev.back 2 (fun n => rfl) H
    obtain ⟨b3, H⟩ := Ev.ias rfl rfl hS.1 qa_635 qw_63 H
    obtain ⟨N4, eN4⟩ : ∃ N, N = (wI M 635 ((3 + (rI M 635 2)).toNatClampNeg) c) := ⟨_, rfl⟩
    have hN4 : SQ N4 := by rw [eN4]; exact hS.ki
    have H : Ev none e 156 56 [some (.ref 633), some (.int c)] [] N4 v M' 0 0 := by rw [eN4]; exact H
    have H : Ev none e 156 57 [some (.ref 633), some (.int c)] [.ref 633] N4 v M' 0 0 := Ev.back 1 (fun n => rfl) H
    have H : Ev none e 156 60 [some (.ref 633), some (.int c)] [.ref 635] N4 v M' 0 0 := Ev.back 1 (gs_3 rfl rfl (gf_u hN4.1 qa_633 qr_61_5 qu_63 rfl)) H
    have H : Ev none e 156 62 [some (.ref 633), some (.int c)] [.int 2, .ref 635, .int 2, .ref 635] N4 v M' 0 0 := Ev.back 2 (fun n => rfl) H
    obtain ⟨b5, H⟩ := Ev.ial rfl rfl hN4.1 qa_635 qw_63 H
    have H : Ev none e 156 63 [some (.ref 633), some (.int c)] [.int (rI N4 635 2), .int 2, .ref 635] N4 v M' 0 0 := H
    have H : Ev none e 156 65 [some (.ref 633), some (.int c)] [.int ((rI N4 635 2) + 1), .int 2, .ref 635] N4 v M' 0 0 := Ev.back 2 (fun n => rfl) H
    obtain ⟨b6, H⟩ := Ev.ias rfl rfl hN4.1 qa_635 qw_63 H
    obtain ⟨N7, eN7⟩ : ∃ N, N = (wI N4 635 ((2 : Int32).toNatClampNeg) ((rI N4 635 2) + 1)) := ⟨_, rfl⟩
    have hN7 : SQ N7 := by rw [eN7]; exact hN4.ki
    have H : Ev none e 156 66 [some (.ref 633), some (.int c)] [] N7 v M' 0 0 := by rw [eN7]; exact H
    have H : Ev none e 156 67 [some (.ref 633), some (.int c)] [.ref 633] N7 v M' 0 0 := Ev.back 1 (fun n => rfl) H
    have H : Ev none e 156 70 [some (.ref 633), some (.int c)] [.ref 635] N7 v M' 0 0 := Ev.back 1 (gs_3 rfl rfl (gf_u hN7.1 qa_633 qr_61_5 qu_63 rfl)) H
    have H : Ev none e 156 71 [some (.ref 633), some (.int c)] [.int 2, .ref 635] N7 v M' 0 0 := Ev.back 1 (fun n => rfl) H
    obtain ⟨b8, H⟩ := Ev.ial rfl rfl hN7.1 qa_635 qw_63 H
    have H : Ev none e 156 72 [some (.ref 633), some (.int c)] [.int (rI N7 635 2)] N7 v M' 0 0 := H
    have H : Ev none e 156 74 [some (.ref 633), some (.int c)] [.int ((rI N7 635 2) - 1)] N7 v M' 0 0 := Ev.back 2 (fun n => rfl) H
    obtain ⟨z1, z2⟩ := Ev.retz rfl rfl H
    subst eN4 eN7
    exact Or.inl ⟨h1, b2, b3, b5, b6, b8, z1, z2⟩
  · rw [if_neg h1] at H
    have H : Ev none e 156 41 [some (.ref 633), some (.int c)] [.int (-1)] M v M' 0 0 := Ev.back 1 (fun n => rfl) H
    obtain ⟨z1, z2⟩ := Ev.retz rfl rfl H
    exact Or.inr (⟨h1, z1, z2⟩)
theorem rwi_0 {e : Nat} {M M' : Mem} {v : Option Value} {a b h ev fi : Int32} (hS : SQ M) (H : Ev none e 190 0 [some (.ref 633), some (.int a), some (.int b), some (.int h), some (.int ev), some (.int fi), none] [] M v M' 0 0) : ((rI M 635 12) = 24 ∧ (0 ≤ (12 : Int32).toInt ∧ (12 : Int32).toInt < 2314) ∧ v = some (.int (-1)) ∧ M' = (wF M 633 0 0)) ∨ (¬ ((rI M 635 12) = 24) ∧ (G_152 (wF M 633 0 0) a) = 0 ∧ (0 ≤ (12 : Int32).toInt ∧ (12 : Int32).toInt < 2314) ∧ v = some (.int (-1)) ∧ M' = (wF M 633 0 0)) ∨ (¬ ((rI M 635 12) = 24) ∧ ¬ ((G_152 (wF M 633 0 0) a) = 0) ∧ (G_152 (wF M 633 0 0) b) = 0 ∧ (0 ≤ (12 : Int32).toInt ∧ (12 : Int32).toInt < 2314) ∧ v = some (.int (-1)) ∧ M' = (wF M 633 0 0)) ∨ (¬ ((rI M 635 12) = 24) ∧ ¬ ((G_152 (wF M 633 0 0) a) = 0) ∧ ¬ ((G_152 (wF M 633 0 0) b) = 0) ∧ a = b ∧ (0 ≤ (12 : Int32).toInt ∧ (12 : Int32).toInt < 2314) ∧ v = some (.int (-1)) ∧ M' = (wF M 633 0 0)) ∨ (¬ ((rI M 635 12) = 24) ∧ ¬ ((G_152 (wF M 633 0 0) a) = 0) ∧ ¬ ((G_152 (wF M 633 0 0) b) = 0) ∧ ¬ (a = b) ∧ (G_140 (wF M 633 0 0) h 0 5) = 0 ∧ (0 ≤ (12 : Int32).toInt ∧ (12 : Int32).toInt < 2314) ∧ v = some (.int (-1)) ∧ M' = (wF M 633 0 0)) ∨ (¬ ((rI M 635 12) = 24) ∧ ¬ ((G_152 (wF M 633 0 0) a) = 0) ∧ ¬ ((G_152 (wF M 633 0 0) b) = 0) ∧ ¬ (a = b) ∧ ¬ ((G_140 (wF M 633 0 0) h 0 5) = 0) ∧ (G_140 (wF M 633 0 0) ev 1 200) = 0 ∧ (0 ≤ (12 : Int32).toInt ∧ (12 : Int32).toInt < 2314) ∧ v = some (.int (-1)) ∧ M' = (wF M 633 0 0)) ∨ (¬ ((rI M 635 12) = 24) ∧ ¬ ((G_152 (wF M 633 0 0) a) = 0) ∧ ¬ ((G_152 (wF M 633 0 0) b) = 0) ∧ ¬ (a = b) ∧ ¬ ((G_140 (wF M 633 0 0) h 0 5) = 0) ∧ ¬ ((G_140 (wF M 633 0 0) ev 1 200) = 0) ∧ (G_140 (wF M 633 0 0) fi 0 60000) = 0 ∧ (0 ≤ (12 : Int32).toInt ∧ (12 : Int32).toInt < 2314) ∧ v = some (.int (-1)) ∧ M' = (wF M 633 0 0)) ∨ (¬ ((rI M 635 12) = 24) ∧ ¬ ((G_152 (wF M 633 0 0) a) = 0) ∧ ¬ ((G_152 (wF M 633 0 0) b) = 0) ∧ ¬ (a = b) ∧ ¬ ((G_140 (wF M 633 0 0) h 0 5) = 0) ∧ ¬ ((G_140 (wF M 633 0 0) ev 1 200) = 0) ∧ ¬ ((G_140 (wF M 633 0 0) fi 0 60000) = 0) ∧ (0 ≤ (12 : Int32).toInt ∧ (12 : Int32).toInt < 2314) ∧ (0 ≤ (12 : Int32).toInt ∧ (12 : Int32).toInt < 2314) ∧ Ev none e 190 88 [some (.ref 633), some (.int a), some (.int b), some (.int h), some (.int ev), some (.int fi), some (.int (13 + (6 * (rI M 635 12))))] [] (wF M 633 0 0) v M' 0 0) := by
  have H : Ev none e 190 2 [some (.ref 633), some (.int a), some (.int b), some (.int h), some (.int ev), some (.int fi), none] [.int 0, .ref 633] M v M' 0 0 := Ev.back 2 (fun n => rfl) H
  obtain ⟨N2, eN2⟩ : ∃ N, N = (wF M 633 0 0) := ⟨_, rfl⟩
  have hN2 : SQ N2 := by rw [eN2]; exact hS.kf
  have H : Ev none e 190 5 [some (.ref 633), some (.int a), some (.int b), some (.int h), some (.int ev), some (.int fi), none] [] N2 v M' 0 0 := by rw [eN2]; exact Ev.pfi rfl rfl rfl hS.1 qa_633 qi_61_0 H
  have H : Ev none e 190 6 [some (.ref 633), some (.int a), some (.int b), some (.int h), some (.int ev), some (.int fi), none] [.ref 633] N2 v M' 0 0 := Ev.back 1 (fun n => rfl) H
  have H : Ev none e 190 9 [some (.ref 633), some (.int a), some (.int b), some (.int h), some (.int ev), some (.int fi), none] [.ref 635] N2 v M' 0 0 := Ev.back 1 (gs_3 rfl rfl (gf_u hN2.1 qa_633 qr_61_5 qu_63 rfl)) H
  have H : Ev none e 190 11 [some (.ref 633), some (.int a), some (.int b), some (.int h), some (.int ev), some (.int fi), none] [.int 12, .ref 635] N2 v M' 0 0 := Ev.back 1 (fun n => rfl) H
  obtain ⟨b3, H⟩ := Ev.ial rfl rfl hN2.1 qa_635 qw_63 H
  have H : Ev none e 190 12 [some (.ref 633), some (.int a), some (.int b), some (.int h), some (.int ev), some (.int fi), none] [.int (rI N2 635 12)] N2 v M' 0 0 := H
  rw [show rI N2 635 12 = rI M 635 12 from by rw [eN2]; exact rN_wF] at H
  have H : Ev none e 190 (if (rI M 635 12) = 24 then 71 else 17) [some (.ref 633), some (.int a), some (.int b), some (.int h), some (.int ev), some (.int fi), none] [] N2 v M' 0 0 := Ev.back 2 (fun n => rfl) H
  by_cases h4 : (rI M 635 12) = 24
  · rw [if_pos h4] at H
    have H : Ev none e 190 72 [some (.ref 633), some (.int a), some (.int b), some (.int h), some (.int ev), some (.int fi), none] [.int (-1)] N2 v M' 0 0 := Ev.back 1 (fun n => rfl) H
    obtain ⟨z1, z2⟩ := Ev.retz rfl rfl H
    subst eN2
    exact Or.inl ⟨h4, b3, z1, z2⟩
  · rw [if_neg h4] at H
    have H : Ev none e 190 19 [some (.ref 633), some (.int a), some (.int b), some (.int h), some (.int ev), some (.int fi), none] [.int a, .ref 633] N2 v M' 0 0 := Ev.back 2 (fun n => rfl) H
    obtain ⟨e1, rfl⟩ := Ev.dpos rfl rfl H
    obtain ⟨vK5, MK5, K5, H⟩ := Ev.callb (fun n_ => gs_7 rfl rfl (show gCal (.invokevirtual 340) 11 (.int a :: .ref 633 :: []) N2 = some (.inr (152, [some (.ref 633), some (.int a)], [])) from by show @cond (Option ((List Value × Mem) ⊕ (Nat × Lo × List Value))) (true && gRecv N2 (.ref 633) 11 && gRoom [] && true) (some (.inr (152, [some (.ref 633), some (.int a)], []))) none = _; rw [recv_s hN2.1 qa_633 qo_61]; rfl)) H
    obtain ⟨pK5, qK5⟩ := g_152 hN2 K5
    rw [pK5, qK5] at H
    have H : Ev none (e1 + 1) 190 22 [some (.ref 633), some (.int a), some (.int b), some (.int h), some (.int ev), some (.int fi), none] [.int (G_152 N2 a)] N2 v M' 0 0 := H
    have H : Ev none (e1 + 1) 190 (if (G_152 N2 a) = 0 then 71 else 25) [some (.ref 633), some (.int a), some (.int b), some (.int h), some (.int ev), some (.int fi), none] [] N2 v M' 0 0 := Ev.back 1 (fun n => rfl) H
    by_cases h6 : (G_152 N2 a) = 0
    · rw [if_pos h6] at H
      have H : Ev none (e1 + 1) 190 72 [some (.ref 633), some (.int a), some (.int b), some (.int h), some (.int ev), some (.int fi), none] [.int (-1)] N2 v M' 0 0 := Ev.back 1 (fun n => rfl) H
      obtain ⟨z1, z2⟩ := Ev.retz rfl rfl H
      subst eN2
      exact Or.inr (Or.inl ⟨h4, h6, b3, z1, z2⟩)
    · rw [if_neg h6] at H
      have H : Ev none (e1 + 1) 190 27 [some (.ref 633), some (.int a), some (.int b), some (.int h), some (.int ev), some (.int fi), none] [.int b, .ref 633] N2 v M' 0 0 := Ev.back 2 (fun n => rfl) H
      obtain ⟨vK7, MK7, K7, H⟩ := Ev.callb (fun n_ => gs_7 rfl rfl (show gCal (.invokevirtual 340) 11 (.int b :: .ref 633 :: []) N2 = some (.inr (152, [some (.ref 633), some (.int b)], [])) from by show @cond (Option ((List Value × Mem) ⊕ (Nat × Lo × List Value))) (true && gRecv N2 (.ref 633) 11 && gRoom [] && true) (some (.inr (152, [some (.ref 633), some (.int b)], []))) none = _; rw [recv_s hN2.1 qa_633 qo_61]; rfl)) H
      obtain ⟨pK7, qK7⟩ := g_152 hN2 K7
      rw [pK7, qK7] at H
      have H : Ev none (e1 + 1) 190 30 [some (.ref 633), some (.int a), some (.int b), some (.int h), some (.int ev), some (.int fi), none] [.int (G_152 N2 b)] N2 v M' 0 0 := H
      have H : Ev none (e1 + 1) 190 (if (G_152 N2 b) = 0 then 71 else 33) [some (.ref 633), some (.int a), some (.int b), some (.int h), some (.int ev), some (.int fi), none] [] N2 v M' 0 0 := Ev.back 1 (fun n => rfl) H
      by_cases h8 : (G_152 N2 b) = 0
      · rw [if_pos h8] at H
        have H : Ev none (e1 + 1) 190 72 [some (.ref 633), some (.int a), some (.int b), some (.int h), some (.int ev), some (.int fi), none] [.int (-1)] N2 v M' 0 0 := Ev.back 1 (fun n => rfl) H
        obtain ⟨z1, z2⟩ := Ev.retz rfl rfl H
        subst eN2
        exact Or.inr (Or.inr (Or.inl ⟨h4, h6, h8, b3, z1, z2⟩))
      · rw [if_neg h8] at H
        have H : Ev none (e1 + 1) 190 (if a = b then 71 else 38) [some (.ref 633), some (.int a), some (.int b), some (.int h), some (.int ev), some (.int fi), none] [] N2 v M' 0 0 := Ev.back 3 (fun n => rfl) H
        by_cases h9 : a = b
        · rw [if_pos h9] at H
          have H : Ev none (e1 + 1) 190 72 [some (.ref 633), some (.int a), some (.int b), some (.int h), some (.int ev), some (.int fi), none] [.int (-1)] N2 v M' 0 0 := Ev.back 1 (fun n => rfl) H
          obtain ⟨z1, z2⟩ := Ev.retz rfl rfl H
          subst eN2
          exact Or.inr (Or.inr (Or.inr (Or.inl ⟨h4, h6, h8, h9, b3, z1, z2⟩)))
        · rw [if_neg h9] at H
          have H : Ev none (e1 + 1) 190 41 [some (.ref 633), some (.int a), some (.int b), some (.int h), some (.int ev), some (.int fi), none] [.int 5, .int 0, .int h] N2 v M' 0 0 := Ev.back 3 (fun n => rfl) H
          obtain ⟨vK10, MK10, K10, H⟩ := Ev.callb (fun n => rfl) H
          obtain ⟨pK10, qK10⟩ := g_140 hN2 K10
          rw [pK10, qK10] at H
          have H : Ev none (e1 + 1) 190 44 [some (.ref 633), some (.int a), some (.int b), some (.int h), some (.int ev), some (.int fi), none] [.int (G_140 N2 h 0 5)] N2 v M' 0 0 := H
          have H : Ev none (e1 + 1) 190 (if (G_140 N2 h 0 5) = 0 then 71 else 47) [some (.ref 633), some (.int a), some (.int b), some (.int h), some (.int ev), some (.int fi), none] [] N2 v M' 0 0 := Ev.back 1 (fun n => rfl) H
          by_cases h11 : (G_140 N2 h 0 5) = 0
          · rw [if_pos h11] at H
            have H : Ev none (e1 + 1) 190 72 [some (.ref 633), some (.int a), some (.int b), some (.int h), some (.int ev), some (.int fi), none] [.int (-1)] N2 v M' 0 0 := Ev.back 1 (fun n => rfl) H
            obtain ⟨z1, z2⟩ := Ev.retz rfl rfl H
            subst eN2
            exact Or.inr (Or.inr (Or.inr (Or.inr (Or.inl ⟨h4, h6, h8, h9, h11, b3, z1, z2⟩))))
          · rw [if_neg h11] at H
            have H : Ev none (e1 + 1) 190 53 [some (.ref 633), some (.int a), some (.int b), some (.int h), some (.int ev), some (.int fi), none] [.int 200, .int 1, .int ev] N2 v M' 0 0 := Ev.back 3 (fun n => rfl) H
            obtain ⟨vK12, MK12, K12, H⟩ := Ev.callb (fun n => rfl) H
            obtain ⟨pK12, qK12⟩ := g_140 hN2 K12
            rw [pK12, qK12] at H
            have H : Ev none (e1 + 1) 190 56 [some (.ref 633), some (.int a), some (.int b), some (.int h), some (.int ev), some (.int fi), none] [.int (G_140 N2 ev 1 200)] N2 v M' 0 0 := H
            have H : Ev none (e1 + 1) 190 (if (G_140 N2 ev 1 200) = 0 then 71 else 59) [some (.ref 633), some (.int a), some (.int b), some (.int h), some (.int ev), some (.int fi), none] [] N2 v M' 0 0 := Ev.back 1 (fun n => rfl) H
            by_cases h13 : (G_140 N2 ev 1 200) = 0
            · rw [if_pos h13] at H
              have H : Ev none (e1 + 1) 190 72 [some (.ref 633), some (.int a), some (.int b), some (.int h), some (.int ev), some (.int fi), none] [.int (-1)] N2 v M' 0 0 := Ev.back 1 (fun n => rfl) H
              obtain ⟨z1, z2⟩ := Ev.retz rfl rfl H
              subst eN2
              exact Or.inr (Or.inr (Or.inr (Or.inr (Or.inr (Or.inl ⟨h4, h6, h8, h9, h11, h13, b3, z1, z2⟩)))))
            · rw [if_neg h13] at H
              have H : Ev none (e1 + 1) 190 65 [some (.ref 633), some (.int a), some (.int b), some (.int h), some (.int ev), some (.int fi), none] [.int 60000, .int 0, .int fi] N2 v M' 0 0 := Ev.back 3 (fun n => rfl) H
              obtain ⟨vK14, MK14, K14, H⟩ := Ev.callb (fun n => rfl) H
              obtain ⟨pK14, qK14⟩ := g_140 hN2 K14
              rw [pK14, qK14] at H
              have H : Ev none (e1 + 1) 190 68 [some (.ref 633), some (.int a), some (.int b), some (.int h), some (.int ev), some (.int fi), none] [.int (G_140 N2 fi 0 60000)] N2 v M' 0 0 := H
              have H : Ev none (e1 + 1) 190 (if (G_140 N2 fi 0 60000) = 0 then 71 else 73) [some (.ref 633), some (.int a), some (.int b), some (.int h), some (.int ev), some (.int fi), none] [] N2 v M' 0 0 := Ev.back 1 (fun n => rfl) H
              by_cases h15 : (G_140 N2 fi 0 60000) = 0
              · rw [if_pos h15] at H
                have H : Ev none (e1 + 1) 190 72 [some (.ref 633), some (.int a), some (.int b), some (.int h), some (.int ev), some (.int fi), none] [.int (-1)] N2 v M' 0 0 := Ev.back 1 (fun n => rfl) H
                obtain ⟨z1, z2⟩ := Ev.retz rfl rfl H
                subst eN2
                exact Or.inr (Or.inr (Or.inr (Or.inr (Or.inr (Or.inr (Or.inl ⟨h4, h6, h8, h9, h11, h13, h15, b3, z1, z2⟩))))))
              · rw [if_neg h15] at H
                have H : Ev none (e1 + 1) 190 78 [some (.ref 633), some (.int a), some (.int b), some (.int h), some (.int ev), some (.int fi), none] [.ref 633, .int 6, .int 13] N2 v M' 0 0 := Ev.back 3 (fun n => rfl) H
                have H : Ev none (e1 + 1) 190 81 [some (.ref 633), some (.int a), some (.int b), some (.int h), some (.int ev), some (.int fi), none] [.ref 635, .int 6, .int 13] N2 v M' 0 0 := Ev.back 1 (gs_3 rfl rfl (gf_u hN2.1 qa_633 qr_61_5 qu_63 rfl)) H
                have H : Ev none (e1 + 1) 190 83 [some (.ref 633), some (.int a), some (.int b), some (.int h), some (.int ev), some (.int fi), none] [.int 12, .ref 635, .int 6, .int 13] N2 v M' 0 0 := Ev.back 1 (fun n => rfl) H
                obtain ⟨b16, H⟩ := Ev.ial rfl rfl hN2.1 qa_635 qw_63 H
                have H : Ev none (e1 + 1) 190 84 [some (.ref 633), some (.int a), some (.int b), some (.int h), some (.int ev), some (.int fi), none] [.int (rI N2 635 12), .int 6, .int 13] N2 v M' 0 0 := H
                rw [show rI N2 635 12 = rI M 635 12 from by rw [eN2]; exact rN_wF] at H
                have H : Ev none (e1 + 1) 190 88 [some (.ref 633), some (.int a), some (.int b), some (.int h), some (.int ev), some (.int fi), some (.int (13 + (6 * (rI M 635 12))))] [] N2 v M' 0 0 := Ev.back 3 (fun n => rfl) H
                have HF := H
                subst eN2
                exact Or.inr (Or.inr (Or.inr (Or.inr (Or.inr (Or.inr (Or.inr (⟨h4, h6, h8, h9, h11, h13, h15, b3, b16, HF⟩)))))))
theorem rwi_88 {e : Nat} {M M' : Mem} {v : Option Value} {a b h ev fi kx : Int32} (hS : SQ M) (H : Ev none e 190 88 [some (.ref 633), some (.int a), some (.int b), some (.int h), some (.int ev), some (.int fi), some (.int kx)] [] M v M' 0 0) : (0 ≤ kx.toInt ∧ kx.toInt < 2314) ∧ Ev none e 190 96 [some (.ref 633), some (.int a), some (.int b), some (.int h), some (.int ev), some (.int fi), some (.int kx)] [] (wI M 635 kx.toNatClampNeg a) v M' 0 0 := by
  have H : Ev none e 190 89 [some (.ref 633), some (.int a), some (.int b), some (.int h), some (.int ev), some (.int fi), some (.int kx)] [.ref 633] M v M' 0 0 := Ev.back 1 (fun n => rfl) H
  have H : Ev none e 190 92 [some (.ref 633), some (.int a), some (.int b), some (.int h), some (.int ev), some (.int fi), some (.int kx)] [.ref 635] M v M' 0 0 := Ev.back 1 (gs_3 rfl rfl (gf_u hS.1 qa_633 qr_61_5 qu_63 rfl)) H
  have H : Ev none e 190 95 [some (.ref 633), some (.int a), some (.int b), some (.int h), some (.int ev), some (.int fi), some (.int kx)] [.int a, .int kx, .ref 635] M v M' 0 0 := Ev.back 2 (fun n => rfl) H
  obtain ⟨b1, H⟩ := Ev.ias rfl rfl hS.1 qa_635 qw_63 H
  obtain ⟨N2, eN2⟩ : ∃ N, N = (wI M 635 kx.toNatClampNeg a) := ⟨_, rfl⟩
  have hN2 : SQ N2 := by rw [eN2]; exact hS.ki
  have H : Ev none e 190 96 [some (.ref 633), some (.int a), some (.int b), some (.int h), some (.int ev), some (.int fi), some (.int kx)] [] N2 v M' 0 0 := by rw [eN2]; exact H
  have HF := H
  subst eN2
  exact ⟨b1, HF⟩
theorem rwi_96 {e : Nat} {M M' : Mem} {v : Option Value} {a b h ev fi kx : Int32} (hS : SQ M) (H : Ev none e 190 96 [some (.ref 633), some (.int a), some (.int b), some (.int h), some (.int ev), some (.int fi), some (.int kx)] [] M v M' 0 0) : (0 ≤ (kx + 1).toInt ∧ (kx + 1).toInt < 2314) ∧ Ev none e 190 106 [some (.ref 633), some (.int a), some (.int b), some (.int h), some (.int ev), some (.int fi), some (.int kx)] [] (wI M 635 ((kx + 1).toNatClampNeg) b) v M' 0 0 := by
  have H : Ev none e 190 97 [some (.ref 633), some (.int a), some (.int b), some (.int h), some (.int ev), some (.int fi), some (.int kx)] [.ref 633] M v M' 0 0 := Ev.back 1 (fun n => rfl) H
  have H : Ev none e 190 100 [some (.ref 633), some (.int a), some (.int b), some (.int h), some (.int ev), some (.int fi), some (.int kx)] [.ref 635] M v M' 0 0 := Ev.back 1 (gs_3 rfl rfl (gf_u hS.1 qa_633 qr_61_5 qu_63 rfl)) H
  have H : Ev none e 190 105 [some (.ref 633), some (.int a), some (.int b), some (.int h), some (.int ev), some (.int fi), some (.int kx)] [.int b, .int (kx + 1), .ref 635] M v M' 0 0 := Ev.back 4 (fun n => rfl) H
  obtain ⟨b1, H⟩ := Ev.ias rfl rfl hS.1 qa_635 qw_63 H
  obtain ⟨N2, eN2⟩ : ∃ N, N = (wI M 635 ((kx + 1).toNatClampNeg) b) := ⟨_, rfl⟩
  have hN2 : SQ N2 := by rw [eN2]; exact hS.ki
  have H : Ev none e 190 106 [some (.ref 633), some (.int a), some (.int b), some (.int h), some (.int ev), some (.int fi), some (.int kx)] [] N2 v M' 0 0 := by rw [eN2]; exact H
  have HF := H
  subst eN2
  exact ⟨b1, HF⟩
theorem rwi_106 {e : Nat} {M M' : Mem} {v : Option Value} {a b h ev fi kx : Int32} (hS : SQ M) (H : Ev none e 190 106 [some (.ref 633), some (.int a), some (.int b), some (.int h), some (.int ev), some (.int fi), some (.int kx)] [] M v M' 0 0) : (0 ≤ (kx + 2).toInt ∧ (kx + 2).toInt < 2314) ∧ Ev none e 190 116 [some (.ref 633), some (.int a), some (.int b), some (.int h), some (.int ev), some (.int fi), some (.int kx)] [] (wI M 635 ((kx + 2).toNatClampNeg) h) v M' 0 0 := by
  have H : Ev none e 190 107 [some (.ref 633), some (.int a), some (.int b), some (.int h), some (.int ev), some (.int fi), some (.int kx)] [.ref 633] M v M' 0 0 := Ev.back 1 (fun n => rfl) H
  have H : Ev none e 190 110 [some (.ref 633), some (.int a), some (.int b), some (.int h), some (.int ev), some (.int fi), some (.int kx)] [.ref 635] M v M' 0 0 := Ev.back 1 (gs_3 rfl rfl (gf_u hS.1 qa_633 qr_61_5 qu_63 rfl)) H
  have H : Ev none e 190 115 [some (.ref 633), some (.int a), some (.int b), some (.int h), some (.int ev), some (.int fi), some (.int kx)] [.int h, .int (kx + 2), .ref 635] M v M' 0 0 := Ev.back 4 (fun n => rfl) H
  obtain ⟨b1, H⟩ := Ev.ias rfl rfl hS.1 qa_635 qw_63 H
  obtain ⟨N2, eN2⟩ : ∃ N, N = (wI M 635 ((kx + 2).toNatClampNeg) h) := ⟨_, rfl⟩
  have hN2 : SQ N2 := by rw [eN2]; exact hS.ki
  have H : Ev none e 190 116 [some (.ref 633), some (.int a), some (.int b), some (.int h), some (.int ev), some (.int fi), some (.int kx)] [] N2 v M' 0 0 := by rw [eN2]; exact H
  have HF := H
  subst eN2
  exact ⟨b1, HF⟩
theorem rwi_116 {e : Nat} {M M' : Mem} {v : Option Value} {a b h ev fi kx : Int32} (hS : SQ M) (H : Ev none e 190 116 [some (.ref 633), some (.int a), some (.int b), some (.int h), some (.int ev), some (.int fi), some (.int kx)] [] M v M' 0 0) : (0 ≤ (kx + 3).toInt ∧ (kx + 3).toInt < 2314) ∧ Ev none e 190 127 [some (.ref 633), some (.int a), some (.int b), some (.int h), some (.int ev), some (.int fi), some (.int kx)] [] (wI M 635 ((kx + 3).toNatClampNeg) ev) v M' 0 0 := by
  have H : Ev none e 190 117 [some (.ref 633), some (.int a), some (.int b), some (.int h), some (.int ev), some (.int fi), some (.int kx)] [.ref 633] M v M' 0 0 := Ev.back 1 (fun n => rfl) H
  have H : Ev none e 190 120 [some (.ref 633), some (.int a), some (.int b), some (.int h), some (.int ev), some (.int fi), some (.int kx)] [.ref 635] M v M' 0 0 := Ev.back 1 (gs_3 rfl rfl (gf_u hS.1 qa_633 qr_61_5 qu_63 rfl)) H
  have H : Ev none e 190 126 [some (.ref 633), some (.int a), some (.int b), some (.int h), some (.int ev), some (.int fi), some (.int kx)] [.int ev, .int (kx + 3), .ref 635] M v M' 0 0 := Ev.back 4 (fun n => rfl) H
  obtain ⟨b1, H⟩ := Ev.ias rfl rfl hS.1 qa_635 qw_63 H
  obtain ⟨N2, eN2⟩ : ∃ N, N = (wI M 635 ((kx + 3).toNatClampNeg) ev) := ⟨_, rfl⟩
  have hN2 : SQ N2 := by rw [eN2]; exact hS.ki
  have H : Ev none e 190 127 [some (.ref 633), some (.int a), some (.int b), some (.int h), some (.int ev), some (.int fi), some (.int kx)] [] N2 v M' 0 0 := by rw [eN2]; exact H
  have HF := H
  subst eN2
  exact ⟨b1, HF⟩
theorem rwi_127 {e : Nat} {M M' : Mem} {v : Option Value} {a b h ev fi kx : Int32} (hS : SQ M) (H : Ev none e 190 127 [some (.ref 633), some (.int a), some (.int b), some (.int h), some (.int ev), some (.int fi), some (.int kx)] [] M v M' 0 0) : (0 ≤ (kx + 4).toInt ∧ (kx + 4).toInt < 2314) ∧ Ev none e 190 138 [some (.ref 633), some (.int a), some (.int b), some (.int h), some (.int ev), some (.int fi), some (.int kx)] [] (wI M 635 ((kx + 4).toNatClampNeg) fi) v M' 0 0 := by
  have H : Ev none e 190 128 [some (.ref 633), some (.int a), some (.int b), some (.int h), some (.int ev), some (.int fi), some (.int kx)] [.ref 633] M v M' 0 0 := Ev.back 1 (fun n => rfl) H
  have H : Ev none e 190 131 [some (.ref 633), some (.int a), some (.int b), some (.int h), some (.int ev), some (.int fi), some (.int kx)] [.ref 635] M v M' 0 0 := Ev.back 1 (gs_3 rfl rfl (gf_u hS.1 qa_633 qr_61_5 qu_63 rfl)) H
  have H : Ev none e 190 137 [some (.ref 633), some (.int a), some (.int b), some (.int h), some (.int ev), some (.int fi), some (.int kx)] [.int fi, .int (kx + 4), .ref 635] M v M' 0 0 := Ev.back 4 (fun n => rfl) H
  obtain ⟨b1, H⟩ := Ev.ias rfl rfl hS.1 qa_635 qw_63 H
  obtain ⟨N2, eN2⟩ : ∃ N, N = (wI M 635 ((kx + 4).toNatClampNeg) fi) := ⟨_, rfl⟩
  have hN2 : SQ N2 := by rw [eN2]; exact hS.ki
  have H : Ev none e 190 138 [some (.ref 633), some (.int a), some (.int b), some (.int h), some (.int ev), some (.int fi), some (.int kx)] [] N2 v M' 0 0 := by rw [eN2]; exact H
  have HF := H
  subst eN2
  exact ⟨b1, HF⟩
theorem rwi_138 {e : Nat} {M M' : Mem} {v : Option Value} {a b h ev fi kx : Int32} (hS : SQ M) (H : Ev none e 190 138 [some (.ref 633), some (.int a), some (.int b), some (.int h), some (.int ev), some (.int fi), some (.int kx)] [] M v M' 0 0) : (0 ≤ (kx + 5).toInt ∧ (kx + 5).toInt < 2314) ∧ Ev none e 190 148 [some (.ref 633), some (.int a), some (.int b), some (.int h), some (.int ev), some (.int fi), some (.int kx)] [] (wI M 635 ((kx + 5).toNatClampNeg) 1) v M' 0 0 := by
  have H : Ev none e 190 139 [some (.ref 633), some (.int a), some (.int b), some (.int h), some (.int ev), some (.int fi), some (.int kx)] [.ref 633] M v M' 0 0 := Ev.back 1 (fun n => rfl) H
  have H : Ev none e 190 142 [some (.ref 633), some (.int a), some (.int b), some (.int h), some (.int ev), some (.int fi), some (.int kx)] [.ref 635] M v M' 0 0 := Ev.back 1 (gs_3 rfl rfl (gf_u hS.1 qa_633 qr_61_5 qu_63 rfl)) H
  have H : Ev none e 190 147 [some (.ref 633), some (.int a), some (.int b), some (.int h), some (.int ev), some (.int fi), some (.int kx)] [.int 1, .int (kx + 5), .ref 635] M v M' 0 0 := Ev.back 4 (fun n => rfl) H
  obtain ⟨b1, H⟩ := Ev.ias rfl rfl hS.1 qa_635 qw_63 H
  obtain ⟨N2, eN2⟩ : ∃ N, N = (wI M 635 ((kx + 5).toNatClampNeg) 1) := ⟨_, rfl⟩
  have hN2 : SQ N2 := by rw [eN2]; exact hS.ki
  have H : Ev none e 190 148 [some (.ref 633), some (.int a), some (.int b), some (.int h), some (.int ev), some (.int fi), some (.int kx)] [] N2 v M' 0 0 := by rw [eN2]; exact H
  have HF := H
  subst eN2
  exact ⟨b1, HF⟩
theorem rwi_148 {e : Nat} {M M' : Mem} {v : Option Value} {a b h ev fi kx : Int32} (hS : SQ M) (H : Ev none e 190 148 [some (.ref 633), some (.int a), some (.int b), some (.int h), some (.int ev), some (.int fi), some (.int kx)] [] M v M' 0 0) : (0 ≤ (12 : Int32).toInt ∧ (12 : Int32).toInt < 2314) ∧ (0 ≤ (12 : Int32).toInt ∧ (12 : Int32).toInt < 2314) ∧ Ev none e 190 159 [some (.ref 633), some (.int a), some (.int b), some (.int h), some (.int ev), some (.int fi), some (.int kx)] [] (wI M 635 ((12 : Int32).toNatClampNeg) ((rI M 635 12) + 1)) v M' 0 0 := by
  have H : Ev none e 190 149 [some (.ref 633), some (.int a), some (.int b), some (.int h), some (.int ev), some (.int fi), some (.int kx)] [.ref 633] M v M' 0 0 := Ev.back 1 (fun n => rfl) H
  have H : Ev none e 190 152 [some (.ref 633), some (.int a), some (.int b), some (.int h), some (.int ev), some (.int fi), some (.int kx)] [.ref 635] M v M' 0 0 := Ev.back 1 (gs_3 rfl rfl (gf_u hS.1 qa_633 qr_61_5 qu_63 rfl)) H
  have H : Ev none e 190 155 [some (.ref 633), some (.int a), some (.int b), some (.int h), some (.int ev), some (.int fi), some (.int kx)] [.int 12, .ref 635, .int 12, .ref 635] M v M' 0 0 := Ev.back 2 (fun n => rfl) H
  obtain ⟨b1, H⟩ := Ev.ial rfl rfl hS.1 qa_635 qw_63 H
  have H : Ev none e 190 156 [some (.ref 633), some (.int a), some (.int b), some (.int h), some (.int ev), some (.int fi), some (.int kx)] [.int (rI M 635 12), .int 12, .ref 635] M v M' 0 0 := H
  have H : Ev none e 190 158 [some (.ref 633), some (.int a), some (.int b), some (.int h), some (.int ev), some (.int fi), some (.int kx)] [.int ((rI M 635 12) + 1), .int 12, .ref 635] M v M' 0 0 := Ev.back 2 (fun n => rfl) H
  obtain ⟨b2, H⟩ := Ev.ias rfl rfl hS.1 qa_635 qw_63 H
  obtain ⟨N3, eN3⟩ : ∃ N, N = (wI M 635 ((12 : Int32).toNatClampNeg) ((rI M 635 12) + 1)) := ⟨_, rfl⟩
  have hN3 : SQ N3 := by rw [eN3]; exact hS.ki
  have H : Ev none e 190 159 [some (.ref 633), some (.int a), some (.int b), some (.int h), some (.int ev), some (.int fi), some (.int kx)] [] N3 v M' 0 0 := by rw [eN3]; exact H
  have HF := H
  subst eN3
  exact ⟨b1, b2, HF⟩
theorem rwi_159 {e : Nat} {M M' : Mem} {v : Option Value} {a b h ev fi kx : Int32} (hS : SQ M) (H : Ev none e 190 159 [some (.ref 633), some (.int a), some (.int b), some (.int h), some (.int ev), some (.int fi), some (.int kx)] [] M v M' 0 0) : (0 ≤ (12 : Int32).toInt ∧ (12 : Int32).toInt < 2314) ∧ v = some (.int ((rI M 635 12) - 1)) ∧ M' = M := by
  have H : Ev none e 190 160 [some (.ref 633), some (.int a), some (.int b), some (.int h), some (.int ev), some (.int fi), some (.int kx)] [.ref 633] M v M' 0 0 := Ev.back 1 (fun n => rfl) H
  have H : Ev none e 190 163 [some (.ref 633), some (.int a), some (.int b), some (.int h), some (.int ev), some (.int fi), some (.int kx)] [.ref 635] M v M' 0 0 := Ev.back 1 (gs_3 rfl rfl (gf_u hS.1 qa_633 qr_61_5 qu_63 rfl)) H
  have H : Ev none e 190 165 [some (.ref 633), some (.int a), some (.int b), some (.int h), some (.int ev), some (.int fi), some (.int kx)] [.int 12, .ref 635] M v M' 0 0 := Ev.back 1 (fun n => rfl) H
  obtain ⟨b1, H⟩ := Ev.ial rfl rfl hS.1 qa_635 qw_63 H
  have H : Ev none e 190 166 [some (.ref 633), some (.int a), some (.int b), some (.int h), some (.int ev), some (.int fi), some (.int kx)] [.int (rI M 635 12)] M v M' 0 0 := H
  have H : Ev none e 190 168 [some (.ref 633), some (.int a), some (.int b), some (.int h), some (.int ev), some (.int fi), some (.int kx)] [.int ((rI M 635 12) - 1)] M v M' 0 0 := Ev.back 2 (fun n => rfl) H
  obtain ⟨z1, z2⟩ := Ev.retz rfl rfl H
  exact ⟨b1, z1, z2⟩
theorem rdr_0 {e : Nat} {M M' : Mem} {v : Option Value} {k : Int32} (hS : SQ M) (H : Ev none e 191 0 [some (.ref 633), some (.int k)] [] M v M' 0 0) : ((G_189 (wF M 633 0 0) k) = 0 ∧ v = some (.int 0) ∧ M' = (wF M 633 0 0)) ∨ (¬ ((G_189 (wF M 633 0 0) k) = 0) ∧ (0 ≤ ((13 + (6 * k)) + 5).toInt ∧ ((13 + (6 * k)) + 5).toInt < 2314) ∧ v = some (.int 1) ∧ M' = (wI (wF M 633 0 0) 635 (((13 + (6 * k)) + 5).toNatClampNeg) 0)) := by
  have H : Ev none e 191 2 [some (.ref 633), some (.int k)] [.int 0, .ref 633] M v M' 0 0 := Ev.back 2 (fun n => rfl) H
  obtain ⟨N2, eN2⟩ : ∃ N, N = (wF M 633 0 0) := ⟨_, rfl⟩
  have hN2 : SQ N2 := by rw [eN2]; exact hS.kf
  have H : Ev none e 191 5 [some (.ref 633), some (.int k)] [] N2 v M' 0 0 := by rw [eN2]; exact Ev.pfi rfl rfl rfl hS.1 qa_633 qi_61_0 H
  have H : Ev none e 191 7 [some (.ref 633), some (.int k)] [.int k, .ref 633] N2 v M' 0 0 := Ev.back 2 (fun n => rfl) H
  obtain ⟨e1, rfl⟩ := Ev.dpos rfl rfl H
  obtain ⟨vK3, MK3, K3, H⟩ := Ev.callb (fun n_ => gs_7 rfl rfl (show gCal (.invokevirtual 344) 11 (.int k :: .ref 633 :: []) N2 = some (.inr (189, [some (.ref 633), some (.int k)], [])) from by show @cond (Option ((List Value × Mem) ⊕ (Nat × Lo × List Value))) (true && gRecv N2 (.ref 633) 11 && gRoom [] && true) (some (.inr (189, [some (.ref 633), some (.int k)], []))) none = _; rw [recv_s hN2.1 qa_633 qo_61]; rfl)) H
  obtain ⟨pK3, qK3⟩ := g_189 hN2 K3
  rw [pK3, qK3] at H
  have H : Ev none (e1 + 1) 191 10 [some (.ref 633), some (.int k)] [.int (G_189 N2 k)] N2 v M' 0 0 := H
  have H : Ev none (e1 + 1) 191 (if (G_189 N2 k) = 0 then 13 else 15) [some (.ref 633), some (.int k)] [] N2 v M' 0 0 := Ev.back 1 (fun n => rfl) H
  by_cases h4 : (G_189 N2 k) = 0
  · rw [if_pos h4] at H
    have H : Ev none (e1 + 1) 191 14 [some (.ref 633), some (.int k)] [.int 0] N2 v M' 0 0 := Ev.back 1 (fun n => rfl) H
    obtain ⟨z1, z2⟩ := Ev.retz rfl rfl H
    subst eN2
    exact Or.inl ⟨h4, z1, z2⟩
  · rw [if_neg h4] at H
    have H : Ev none (e1 + 1) 191 16 [some (.ref 633), some (.int k)] [.ref 633] N2 v M' 0 0 := Ev.back 1 (fun n => rfl) H
    have H : Ev none (e1 + 1) 191 19 [some (.ref 633), some (.int k)] [.ref 635] N2 v M' 0 0 := Ev.back 1 (gs_3 rfl rfl (gf_u hN2.1 qa_633 qr_61_5 qu_63 rfl)) H
    have H : Ev none (e1 + 1) 191 29 [some (.ref 633), some (.int k)] [.int 0, .int ((13 + (6 * k)) + 5), .ref 635] N2 v M' 0 0 := Ev.back 8 (fun n => rfl) H
    obtain ⟨b5, H⟩ := Ev.ias rfl rfl hN2.1 qa_635 qw_63 H
    obtain ⟨N6, eN6⟩ : ∃ N, N = (wI N2 635 (((13 + (6 * k)) + 5).toNatClampNeg) 0) := ⟨_, rfl⟩
    have hN6 : SQ N6 := by rw [eN6]; exact hN2.ki
    have H : Ev none (e1 + 1) 191 30 [some (.ref 633), some (.int k)] [] N6 v M' 0 0 := by rw [eN6]; exact H
    have H : Ev none (e1 + 1) 191 31 [some (.ref 633), some (.int k)] [.int 1] N6 v M' 0 0 := Ev.back 1 (fun n => rfl) H
    obtain ⟨z1, z2⟩ := Ev.retz rfl rfl H
    subst eN2 eN6
    exact Or.inr (⟨h4, b5, z1, z2⟩)
theorem rrn_0 {e : Nat} {M M' : Mem} {v : Option Value} {t : Int32} (hS : SQ M) (H : Ev none e 207 0 [some (.ref 633), some (.int t), none] [] M v M' 0 0) : ((G_140 (wF M 633 0 0) t 1 400) = 0 ∧ v = some (.int (-1)) ∧ M' = (wF M 633 0 0)) ∨ (¬ ((G_140 (wF M 633 0 0) t 1 400) = 0) ∧ ((rI M 635 518) + t) ≤ 60000 ∧ (0 ≤ (518 : Int32).toInt ∧ (518 : Int32).toInt < 2314) ∧ Ev none e 207 41 [some (.ref 633), some (.int t), some (.int 0)] [] (wF (wF M 633 0 0) 633 41 0) v M' 0 0) ∨ (¬ ((G_140 (wF M 633 0 0) t 1 400) = 0) ∧ ¬ (((rI M 635 518) + t) ≤ 60000) ∧ (0 ≤ (518 : Int32).toInt ∧ (518 : Int32).toInt < 2314) ∧ v = some (.int (-1)) ∧ M' = (wF M 633 0 0)) := by
  have H : Ev none e 207 2 [some (.ref 633), some (.int t), none] [.int 0, .ref 633] M v M' 0 0 := Ev.back 2 (fun n => rfl) H
  obtain ⟨N2, eN2⟩ : ∃ N, N = (wF M 633 0 0) := ⟨_, rfl⟩
  have hN2 : SQ N2 := by rw [eN2]; exact hS.kf
  have H : Ev none e 207 5 [some (.ref 633), some (.int t), none] [] N2 v M' 0 0 := by rw [eN2]; exact Ev.pfi rfl rfl rfl hS.1 qa_633 qi_61_0 H
  have H : Ev none e 207 10 [some (.ref 633), some (.int t), none] [.int 400, .int 1, .int t] N2 v M' 0 0 := Ev.back 3 (fun n => rfl) H
  obtain ⟨e1, rfl⟩ := Ev.dpos rfl rfl H
  obtain ⟨vK3, MK3, K3, H⟩ := Ev.callb (fun n => rfl) H
  obtain ⟨pK3, qK3⟩ := g_140 hN2 K3
  rw [pK3, qK3] at H
  have H : Ev none (e1 + 1) 207 13 [some (.ref 633), some (.int t), none] [.int (G_140 N2 t 1 400)] N2 v M' 0 0 := H
  have H : Ev none (e1 + 1) 207 (if (G_140 N2 t 1 400) = 0 then 32 else 16) [some (.ref 633), some (.int t), none] [] N2 v M' 0 0 := Ev.back 1 (fun n => rfl) H
  by_cases h4 : (G_140 N2 t 1 400) = 0
  · rw [if_pos h4] at H
    have H : Ev none (e1 + 1) 207 33 [some (.ref 633), some (.int t), none] [.int (-1)] N2 v M' 0 0 := Ev.back 1 (fun n => rfl) H
    obtain ⟨z1, z2⟩ := Ev.retz rfl rfl H
    subst eN2
    exact Or.inl ⟨h4, z1, z2⟩
  · rw [if_neg h4] at H
    have H : Ev none (e1 + 1) 207 17 [some (.ref 633), some (.int t), none] [.ref 633] N2 v M' 0 0 := Ev.back 1 (fun n => rfl) H
    have H : Ev none (e1 + 1) 207 20 [some (.ref 633), some (.int t), none] [.ref 635] N2 v M' 0 0 := Ev.back 1 (gs_3 rfl rfl (gf_u hN2.1 qa_633 qr_61_5 qu_63 rfl)) H
    have H : Ev none (e1 + 1) 207 23 [some (.ref 633), some (.int t), none] [.int 518, .ref 635] N2 v M' 0 0 := Ev.back 1 (fun n => rfl) H
    obtain ⟨b5, H⟩ := Ev.ial rfl rfl hN2.1 qa_635 qw_63 H
    have H : Ev none (e1 + 1) 207 24 [some (.ref 633), some (.int t), none] [.int (rI N2 635 518)] N2 v M' 0 0 := H
    rw [show rI N2 635 518 = rI M 635 518 from by rw [eN2]; exact rN_wF] at H
    have H : Ev none (e1 + 1) 207 (if ((rI M 635 518) + t) ≤ 60000 then 34 else 32) [some (.ref 633), some (.int t), none] [] N2 v M' 0 0 := Ev.back 4 (fun n => rfl) H
    by_cases h6 : ((rI M 635 518) + t) ≤ 60000
    · rw [if_pos h6] at H
      have H : Ev none (e1 + 1) 207 36 [some (.ref 633), some (.int t), none] [.int 0, .ref 633] N2 v M' 0 0 := Ev.back 2 (fun n => rfl) H
      obtain ⟨N8, eN8⟩ : ∃ N, N = (wF N2 633 41 0) := ⟨_, rfl⟩
      have hN8 : SQ N8 := by rw [eN8]; exact hN2.kf
      have H : Ev none (e1 + 1) 207 39 [some (.ref 633), some (.int t), none] [] N8 v M' 0 0 := by rw [eN8]; exact Ev.pfi rfl rfl rfl hN2.1 qa_633 qi_61_41 H
      have H : Ev none (e1 + 1) 207 41 [some (.ref 633), some (.int t), some (.int 0)] [] N8 v M' 0 0 := Ev.back 2 (fun n => rfl) H
      have HF := H
      subst eN2 eN8
      exact Or.inr (Or.inl ⟨h4, h6, b5, HF⟩)
    · rw [if_neg h6] at H
      have H : Ev none (e1 + 1) 207 33 [some (.ref 633), some (.int t), none] [.int (-1)] N2 v M' 0 0 := Ev.back 1 (fun n => rfl) H
      obtain ⟨z1, z2⟩ := Ev.retz rfl rfl H
      subst eN2
      exact Or.inr (Or.inr (⟨h4, h6, b5, z1, z2⟩))
theorem rrn_41 {e : Nat} {M M' : Mem} {v : Option Value} {t i : Int32} (hS : SQ M) (H : Ev none e 207 41 [some (.ref 633), some (.int t), some (.int i)] [] M v M' 0 0) : (t ≤ i ∧ v = some (.int (zI M 633 41)) ∧ M' = M) ∨ (¬ (t ≤ i) ∧ (∃ e1 v1 M1, e = e1 + 1 ∧ Ev none e1 204 0 [some (.ref 633), none, none, none] [] M v1 M1 0 0 ∧ Ev none e 207 50 [some (.ref 633), some (.int t), some (.int i)] (v1.toList ++ []) M1 v M' 0 0)) := by
  have H : Ev none e 207 (if t ≤ i then 56 else 46) [some (.ref 633), some (.int t), some (.int i)] [] M v M' 0 0 := Ev.back 3 (fun n => rfl) H
  by_cases h1 : t ≤ i
  · rw [if_pos h1] at H
    have H : Ev none e 207 57 [some (.ref 633), some (.int t), some (.int i)] [.ref 633] M v M' 0 0 := Ev.back 1 (fun n => rfl) H
    have H : Ev none e 207 60 [some (.ref 633), some (.int t), some (.int i)] [.int (zI M 633 41)] M v M' 0 0 := Ev.back 1 (gs_3 rfl rfl (gf_i hS.1 qa_633 qi_61_41 rfl)) H
    obtain ⟨z1, z2⟩ := Ev.retz rfl rfl H
    exact Or.inl ⟨h1, z1, z2⟩
  · rw [if_neg h1] at H
    have H : Ev none e 207 47 [some (.ref 633), some (.int t), some (.int i)] [.ref 633] M v M' 0 0 := Ev.back 1 (fun n => rfl) H
    obtain ⟨e1, rfl⟩ := Ev.dpos rfl rfl H
    obtain ⟨vK2, MK2, K2, H⟩ := Ev.callb (fun n_ => gs_7 rfl rfl (show gCal (.invokevirtual 423) 11 (.ref 633 :: []) M = some (.inr (204, [some (.ref 633), none, none, none], [])) from by show @cond (Option ((List Value × Mem) ⊕ (Nat × Lo × List Value))) (true && gRecv M (.ref 633) 11 && gRoom [] && true) (some (.inr (204, [some (.ref 633), none, none, none], []))) none = _; rw [recv_s hS.1 qa_633 qo_61]; rfl)) H
    have K2 : Ev none e1 204 0 [some (.ref 633), none, none, none] [] M vK2 MK2 0 0 := K2
    have HF := H
    exact Or.inr (⟨h1, ⟨e1, vK2, MK2, rfl, K2, HF⟩⟩)
theorem rrn_50 {e : Nat} {M M' : Mem} {v : Option Value} {t i : Int32} (hS : SQ M) (H : Ev none e 207 50 [some (.ref 633), some (.int t), some (.int i)] [] M v M' 0 0) : Ev none e 207 41 [some (.ref 633), some (.int t), some (.int (i + 1))] [] M v M' 0 0 := by
  have H : Ev none e 207 41 [some (.ref 633), some (.int t), some (.int (i + 1))] [] M v M' 0 0 := Ev.back 2 (fun n => rfl) H
  have HF := H
  exact HF
theorem rwq_0 {e : Nat} {M M' : Mem} {v : Option Value} (hS : SQ M) (H : Ev none e 209 0 [some (.ref 633)] [] M v M' 0 0) : (∃ e1 v1 M1, e = e1 + 1 ∧ Ev none e1 208 0 [some (.ref 633), none, none, none] [] (wF M 633 0 0) v1 M1 0 0 ∧ Ev none e 209 9 [some (.ref 633)] (v1.toList ++ []) M1 v M' 0 0) := by
  have H : Ev none e 209 2 [some (.ref 633)] [.int 0, .ref 633] M v M' 0 0 := Ev.back 2 (fun n => rfl) H
  obtain ⟨N2, eN2⟩ : ∃ N, N = (wF M 633 0 0) := ⟨_, rfl⟩
  have hN2 : SQ N2 := by rw [eN2]; exact hS.kf
  have H : Ev none e 209 5 [some (.ref 633)] [] N2 v M' 0 0 := by rw [eN2]; exact Ev.pfi rfl rfl rfl hS.1 qa_633 qi_61_0 H
  have H : Ev none e 209 6 [some (.ref 633)] [.ref 633] N2 v M' 0 0 := Ev.back 1 (fun n => rfl) H
  obtain ⟨e1, rfl⟩ := Ev.dpos rfl rfl H
  obtain ⟨vK3, MK3, K3, H⟩ := Ev.callb (fun n_ => gs_7 rfl rfl (show gCal (.invokevirtual 426) 11 (.ref 633 :: []) N2 = some (.inr (208, [some (.ref 633), none, none, none], [])) from by show @cond (Option ((List Value × Mem) ⊕ (Nat × Lo × List Value))) (true && gRecv N2 (.ref 633) 11 && gRoom [] && true) (some (.inr (208, [some (.ref 633), none, none, none], []))) none = _; rw [recv_s hN2.1 qa_633 qo_61]; rfl)) H
  have K3 : Ev none e1 208 0 [some (.ref 633), none, none, none] [] N2 vK3 MK3 0 0 := K3
  have HF := H
  subst eN2
  exact ⟨e1, vK3, MK3, rfl, K3, HF⟩
theorem rwq_9 {e : Nat} {M M' : Mem} {v : Option Value} (hS : SQ M) (H : Ev none e 209 9 [some (.ref 633)] [] M v M' 0 0) : (∃ e1 v1 M1, e = e1 + 1 ∧ Ev none e1 216 0 [some (.ref 633), none, none] [] M v1 M1 0 0 ∧ Ev none e 209 13 [some (.ref 633)] (v1.toList ++ []) M1 v M' 0 0) := by
  have H : Ev none e 209 10 [some (.ref 633)] [.ref 633] M v M' 0 0 := Ev.back 1 (fun n => rfl) H
  obtain ⟨e1, rfl⟩ := Ev.dpos rfl rfl H
  obtain ⟨vK1, MK1, K1, H⟩ := Ev.callb (fun n_ => gs_7 rfl rfl (show gCal (.invokevirtual 429) 11 (.ref 633 :: []) M = some (.inr (216, [some (.ref 633), none, none], [])) from by show @cond (Option ((List Value × Mem) ⊕ (Nat × Lo × List Value))) (true && gRecv M (.ref 633) 11 && gRoom [] && true) (some (.inr (216, [some (.ref 633), none, none], []))) none = _; rw [recv_s hS.1 qa_633 qo_61]; rfl)) H
  have K1 : Ev none e1 216 0 [some (.ref 633), none, none] [] M vK1 MK1 0 0 := K1
  have HF := H
  exact ⟨e1, vK1, MK1, rfl, K1, HF⟩
theorem rwq_13 {e : Nat} {M M' : Mem} {v : Option Value} {r : Int32} (hS : SQ M) (H : Ev none e 209 13 [some (.ref 633)] [.int r] M v M' 0 0) : v = some (.int r) ∧ M' = M := by
  obtain ⟨z1, z2⟩ := Ev.retz rfl rfl H
  exact ⟨z1, z2⟩
theorem rra_0 {e : Nat} {M M' : Mem} {v : Option Value} {n : Int32} (hS : SQ M) (H : Ev none e 210 0 [some (.ref 633), some (.int n), none] [] M v M' 0 0) : ((G_140 (wF M 633 0 0) n 1 200) = 0 ∧ v = some (.int 0) ∧ M' = (wF M 633 0 0)) ∨ (¬ ((G_140 (wF M 633 0 0) n 1 200) = 0) ∧ Ev none e 210 20 [some (.ref 633), some (.int n), some (.int 0)] [] (wF M 633 0 0) v M' 0 0) := by
  have H : Ev none e 210 2 [some (.ref 633), some (.int n), none] [.int 0, .ref 633] M v M' 0 0 := Ev.back 2 (fun n => rfl) H
  obtain ⟨N2, eN2⟩ : ∃ N, N = (wF M 633 0 0) := ⟨_, rfl⟩
  have hN2 : SQ N2 := by rw [eN2]; exact hS.kf
  have H : Ev none e 210 5 [some (.ref 633), some (.int n), none] [] N2 v M' 0 0 := by rw [eN2]; exact Ev.pfi rfl rfl rfl hS.1 qa_633 qi_61_0 H
  have H : Ev none e 210 10 [some (.ref 633), some (.int n), none] [.int 200, .int 1, .int n] N2 v M' 0 0 := Ev.back 3 (fun n => rfl) H
  obtain ⟨e1, rfl⟩ := Ev.dpos rfl rfl H
  obtain ⟨vK3, MK3, K3, H⟩ := Ev.callb (fun n => rfl) H
  obtain ⟨pK3, qK3⟩ := g_140 hN2 K3
  rw [pK3, qK3] at H
  have H : Ev none (e1 + 1) 210 13 [some (.ref 633), some (.int n), none] [.int (G_140 N2 n 1 200)] N2 v M' 0 0 := H
  have H : Ev none (e1 + 1) 210 (if (G_140 N2 n 1 200) = 0 then 16 else 18) [some (.ref 633), some (.int n), none] [] N2 v M' 0 0 := Ev.back 1 (fun n => rfl) H
  by_cases h4 : (G_140 N2 n 1 200) = 0
  · rw [if_pos h4] at H
    have H : Ev none (e1 + 1) 210 17 [some (.ref 633), some (.int n), none] [.int 0] N2 v M' 0 0 := Ev.back 1 (fun n => rfl) H
    obtain ⟨z1, z2⟩ := Ev.retz rfl rfl H
    subst eN2
    exact Or.inl ⟨h4, z1, z2⟩
  · rw [if_neg h4] at H
    have H : Ev none (e1 + 1) 210 20 [some (.ref 633), some (.int n), some (.int 0)] [] N2 v M' 0 0 := Ev.back 2 (fun n => rfl) H
    have HF := H
    subst eN2
    exact Or.inr (⟨h4, HF⟩)
theorem rra_20 {e : Nat} {M M' : Mem} {v : Option Value} {n c : Int32} (hS : SQ M) (H : Ev none e 210 20 [some (.ref 633), some (.int n), some (.int c)] [] M v M' 0 0) : ((G_144 M) ≤ c ∧ v = some (.int 1) ∧ M' = M) ∨ (¬ ((G_144 M) ≤ c) ∧ 3 ≤ (G_146 M c 0) ∧ Ev none e 210 20 [some (.ref 633), some (.int n), some (.int (c + 1))] [] M v M' 0 0) ∨ (¬ ((G_144 M) ≤ c) ∧ ¬ (3 ≤ (G_146 M c 0)) ∧ ((G_146 M c 4) + n) ≤ 200 ∧ Ev none e 210 20 [some (.ref 633), some (.int n), some (.int (c + 1))] [] (X_147 M c 4 ((G_146 M c 4) + n)) v M' 0 0) ∨ (¬ ((G_144 M) ≤ c) ∧ ¬ (3 ≤ (G_146 M c 0)) ∧ ¬ (((G_146 M c 4) + n) ≤ 200) ∧ Ev none e 210 20 [some (.ref 633), some (.int n), some (.int (c + 1))] [] (X_147 M c 4 200) v M' 0 0) := by
  have H : Ev none e 210 22 [some (.ref 633), some (.int n), some (.int c)] [.ref 633, .int c] M v M' 0 0 := Ev.back 2 (fun n => rfl) H
  obtain ⟨e1, rfl⟩ := Ev.dpos rfl rfl H
  obtain ⟨vK1, MK1, K1, H⟩ := Ev.callb (fun n_ => gs_7 rfl rfl (show gCal (.invokevirtual 128) 11 (.ref 633 :: [.int c]) M = some (.inr (144, [some (.ref 633)], [.int c])) from by show @cond (Option ((List Value × Mem) ⊕ (Nat × Lo × List Value))) (true && gRecv M (.ref 633) 11 && gRoom [.int c] && true) (some (.inr (144, [some (.ref 633)], [.int c]))) none = _; rw [recv_s hS.1 qa_633 qo_61]; rfl)) H
  obtain ⟨pK1, qK1⟩ := g_144 hS K1
  rw [pK1, qK1] at H
  have H : Ev none (e1 + 1) 210 25 [some (.ref 633), some (.int n), some (.int c)] [.int (G_144 M), .int c] M v M' 0 0 := H
  have H : Ev none (e1 + 1) 210 (if (G_144 M) ≤ c then 78 else 28) [some (.ref 633), some (.int n), some (.int c)] [] M v M' 0 0 := Ev.back 1 (fun n => rfl) H
  by_cases h2 : (G_144 M) ≤ c
  · rw [if_pos h2] at H
    have H : Ev none (e1 + 1) 210 79 [some (.ref 633), some (.int n), some (.int c)] [.int 1] M v M' 0 0 := Ev.back 1 (fun n => rfl) H
    obtain ⟨z1, z2⟩ := Ev.retz rfl rfl H
    exact Or.inl ⟨h2, z1, z2⟩
  · rw [if_neg h2] at H
    have H : Ev none (e1 + 1) 210 31 [some (.ref 633), some (.int n), some (.int c)] [.int 0, .int c, .ref 633] M v M' 0 0 := Ev.back 3 (fun n => rfl) H
    obtain ⟨vK3, MK3, K3, H⟩ := Ev.callb (fun n_ => gs_7 rfl rfl (show gCal (.invokevirtual 136) 11 (.int 0 :: .int c :: .ref 633 :: []) M = some (.inr (146, [some (.ref 633), some (.int c), some (.int 0)], [])) from by show @cond (Option ((List Value × Mem) ⊕ (Nat × Lo × List Value))) (true && gRecv M (.ref 633) 11 && gRoom [] && true) (some (.inr (146, [some (.ref 633), some (.int c), some (.int 0)], []))) none = _; rw [recv_s hS.1 qa_633 qo_61]; rfl)) H
    obtain ⟨pK3, qK3⟩ := g_146 hS K3
    rw [pK3, qK3] at H
    have H : Ev none (e1 + 1) 210 34 [some (.ref 633), some (.int n), some (.int c)] [.int (G_146 M c 0)] M v M' 0 0 := H
    have H : Ev none (e1 + 1) 210 (if 3 ≤ (G_146 M c 0) then 72 else 38) [some (.ref 633), some (.int n), some (.int c)] [] M v M' 0 0 := Ev.back 2 (fun n => rfl) H
    by_cases h4 : 3 ≤ (G_146 M c 0)
    · rw [if_pos h4] at H
      have H : Ev none (e1 + 1) 210 20 [some (.ref 633), some (.int n), some (.int (c + 1))] [] M v M' 0 0 := Ev.back 2 (fun n => rfl) H
      have HF := H
      exact Or.inr (Or.inl ⟨h2, h4, HF⟩)
    · rw [if_neg h4] at H
      have H : Ev none (e1 + 1) 210 44 [some (.ref 633), some (.int n), some (.int c)] [.int 4, .int c, .ref 633, .int 4, .int c, .ref 633] M v M' 0 0 := Ev.back 6 (fun n => rfl) H
      obtain ⟨vK5, MK5, K5, H⟩ := Ev.callb (fun n_ => gs_7 rfl rfl (show gCal (.invokevirtual 136) 11 (.int 4 :: .int c :: .ref 633 :: [.int 4, .int c, .ref 633]) M = some (.inr (146, [some (.ref 633), some (.int c), some (.int 4)], [.int 4, .int c, .ref 633])) from by show @cond (Option ((List Value × Mem) ⊕ (Nat × Lo × List Value))) (true && gRecv M (.ref 633) 11 && gRoom [.int 4, .int c, .ref 633] && true) (some (.inr (146, [some (.ref 633), some (.int c), some (.int 4)], [.int 4, .int c, .ref 633]))) none = _; rw [recv_s hS.1 qa_633 qo_61]; rfl)) H
      obtain ⟨pK5, qK5⟩ := g_146 hS K5
      rw [pK5, qK5] at H
      have H : Ev none (e1 + 1) 210 47 [some (.ref 633), some (.int n), some (.int c)] [.int (G_146 M c 4), .int 4, .int c, .ref 633] M v M' 0 0 := H
      have H : Ev none (e1 + 1) 210 (if ((G_146 M c 4) + n) ≤ 200 then 61 else 55) [some (.ref 633), some (.int n), some (.int c)] [.int 4, .int c, .ref 633] M v M' 0 0 := Ev.back 4 (fun n => rfl) H
      by_cases h6 : ((G_146 M c 4) + n) ≤ 200
      · rw [if_pos h6] at H
        have H : Ev none (e1 + 1) 210 64 [some (.ref 633), some (.int n), some (.int c)] [.int 4, .int c, .ref 633, .int 4, .int c, .ref 633] M v M' 0 0 := Ev.back 3 (fun n => rfl) H
        obtain ⟨vK7, MK7, K7, H⟩ := Ev.callb (fun n_ => gs_7 rfl rfl (show gCal (.invokevirtual 136) 11 (.int 4 :: .int c :: .ref 633 :: [.int 4, .int c, .ref 633]) M = some (.inr (146, [some (.ref 633), some (.int c), some (.int 4)], [.int 4, .int c, .ref 633])) from by show @cond (Option ((List Value × Mem) ⊕ (Nat × Lo × List Value))) (true && gRecv M (.ref 633) 11 && gRoom [.int 4, .int c, .ref 633] && true) (some (.inr (146, [some (.ref 633), some (.int c), some (.int 4)], [.int 4, .int c, .ref 633]))) none = _; rw [recv_s hS.1 qa_633 qo_61]; rfl)) H
        obtain ⟨pK7, qK7⟩ := g_146 hS K7
        rw [pK7, qK7] at H
        have H : Ev none (e1 + 1) 210 67 [some (.ref 633), some (.int n), some (.int c)] [.int (G_146 M c 4), .int 4, .int c, .ref 633] M v M' 0 0 := H
        have H : Ev none (e1 + 1) 210 69 [some (.ref 633), some (.int n), some (.int c)] [.int ((G_146 M c 4) + n), .int 4, .int c, .ref 633] M v M' 0 0 := Ev.back 2 (fun n => rfl) H
        obtain ⟨vK8, MK8, K8, H⟩ := Ev.callb (fun n_ => gs_7 rfl rfl (show gCal (.invokevirtual 151) 11 (.int ((G_146 M c 4) + n) :: .int 4 :: .int c :: .ref 633 :: []) M = some (.inr (147, [some (.ref 633), some (.int c), some (.int 4), some (.int ((G_146 M c 4) + n))], [])) from by show @cond (Option ((List Value × Mem) ⊕ (Nat × Lo × List Value))) (true && gRecv M (.ref 633) 11 && gRoom [] && true) (some (.inr (147, [some (.ref 633), some (.int c), some (.int 4), some (.int ((G_146 M c 4) + n))], []))) none = _; rw [recv_s hS.1 qa_633 qo_61]; rfl)) H
        obtain ⟨pK8, qK8⟩ := g_147 hS K8
        rw [pK8, qK8] at H
        obtain ⟨N9, eN9⟩ : ∃ N, N = (X_147 M c 4 ((G_146 M c 4) + n)) := ⟨_, rfl⟩
        have hN9 : SQ N9 := by rw [eN9]; exact X_147_sx hS
        rw [← eN9] at H
        have H : Ev none (e1 + 1) 210 72 [some (.ref 633), some (.int n), some (.int c)] [] N9 v M' 0 0 := H
        have H : Ev none (e1 + 1) 210 20 [some (.ref 633), some (.int n), some (.int (c + 1))] [] N9 v M' 0 0 := Ev.back 2 (fun n => rfl) H
        have HF := H
        subst eN9
        exact Or.inr (Or.inr (Or.inl ⟨h2, h4, h6, HF⟩))
      · rw [if_neg h6] at H
        have H : Ev none (e1 + 1) 210 69 [some (.ref 633), some (.int n), some (.int c)] [.int 200, .int 4, .int c, .ref 633] M v M' 0 0 := Ev.back 2 (fun n => rfl) H
        obtain ⟨vK10, MK10, K10, H⟩ := Ev.callb (fun n_ => gs_7 rfl rfl (show gCal (.invokevirtual 151) 11 (.int 200 :: .int 4 :: .int c :: .ref 633 :: []) M = some (.inr (147, [some (.ref 633), some (.int c), some (.int 4), some (.int 200)], [])) from by show @cond (Option ((List Value × Mem) ⊕ (Nat × Lo × List Value))) (true && gRecv M (.ref 633) 11 && gRoom [] && true) (some (.inr (147, [some (.ref 633), some (.int c), some (.int 4), some (.int 200)], []))) none = _; rw [recv_s hS.1 qa_633 qo_61]; rfl)) H
        obtain ⟨pK10, qK10⟩ := g_147 hS K10
        rw [pK10, qK10] at H
        obtain ⟨N11, eN11⟩ : ∃ N, N = (X_147 M c 4 200) := ⟨_, rfl⟩
        have hN11 : SQ N11 := by rw [eN11]; exact X_147_sx hS
        rw [← eN11] at H
        have H : Ev none (e1 + 1) 210 72 [some (.ref 633), some (.int n), some (.int c)] [] N11 v M' 0 0 := H
        have H : Ev none (e1 + 1) 210 20 [some (.ref 633), some (.int n), some (.int (c + 1))] [] N11 v M' 0 0 := Ev.back 2 (fun n => rfl) H
        have HF := H
        subst eN11
        exact Or.inr (Or.inr (Or.inr (⟨h2, h4, h6, HF⟩)))
theorem rsn_0 {e : Nat} {M M' : Mem} {v : Option Value} (hS : SQ M) (H : Ev none e 211 0 [some (.ref 633), none] [] M v M' 0 0) : Ev none e 211 7 [some (.ref 633), some (.int 0)] [] (wF M 633 0 0) v M' 0 0 := by
  have H : Ev none e 211 2 [some (.ref 633), none] [.int 0, .ref 633] M v M' 0 0 := Ev.back 2 (fun n => rfl) H
  obtain ⟨N2, eN2⟩ : ∃ N, N = (wF M 633 0 0) := ⟨_, rfl⟩
  have hN2 : SQ N2 := by rw [eN2]; exact hS.kf
  have H : Ev none e 211 5 [some (.ref 633), none] [] N2 v M' 0 0 := by rw [eN2]; exact Ev.pfi rfl rfl rfl hS.1 qa_633 qi_61_0 H
  have H : Ev none e 211 7 [some (.ref 633), some (.int 0)] [] N2 v M' 0 0 := Ev.back 2 (fun n => rfl) H
  have HF := H
  subst eN2
  exact HF
theorem rsn_7 {e : Nat} {M M' : Mem} {v : Option Value} {c : Int32} (hS : SQ M) (H : Ev none e 211 7 [some (.ref 633), some (.int c)] [] M v M' 0 0) : ((G_144 M) ≤ c ∧ v = none ∧ M' = M) ∨ (¬ ((G_144 M) ≤ c) ∧ Ev none e 211 7 [some (.ref 633), some (.int (c + 1))] [] (X_147 M c 6 0) v M' 0 0) := by
  have H : Ev none e 211 9 [some (.ref 633), some (.int c)] [.ref 633, .int c] M v M' 0 0 := Ev.back 2 (fun n => rfl) H
  obtain ⟨e1, rfl⟩ := Ev.dpos rfl rfl H
  obtain ⟨vK1, MK1, K1, H⟩ := Ev.callb (fun n_ => gs_7 rfl rfl (show gCal (.invokevirtual 128) 11 (.ref 633 :: [.int c]) M = some (.inr (144, [some (.ref 633)], [.int c])) from by show @cond (Option ((List Value × Mem) ⊕ (Nat × Lo × List Value))) (true && gRecv M (.ref 633) 11 && gRoom [.int c] && true) (some (.inr (144, [some (.ref 633)], [.int c]))) none = _; rw [recv_s hS.1 qa_633 qo_61]; rfl)) H
  obtain ⟨pK1, qK1⟩ := g_144 hS K1
  rw [pK1, qK1] at H
  have H : Ev none (e1 + 1) 211 12 [some (.ref 633), some (.int c)] [.int (G_144 M), .int c] M v M' 0 0 := H
  have H : Ev none (e1 + 1) 211 (if (G_144 M) ≤ c then 29 else 15) [some (.ref 633), some (.int c)] [] M v M' 0 0 := Ev.back 1 (fun n => rfl) H
  by_cases h2 : (G_144 M) ≤ c
  · rw [if_pos h2] at H
    obtain ⟨z1, z2⟩ := Ev.retb (fun n => rfl) H
    exact Or.inl ⟨h2, z1, z2⟩
  · rw [if_neg h2] at H
    have H : Ev none (e1 + 1) 211 20 [some (.ref 633), some (.int c)] [.int 0, .int 6, .int c, .ref 633] M v M' 0 0 := Ev.back 4 (fun n => rfl) H
    obtain ⟨vK3, MK3, K3, H⟩ := Ev.callb (fun n_ => gs_7 rfl rfl (show gCal (.invokevirtual 151) 11 (.int 0 :: .int 6 :: .int c :: .ref 633 :: []) M = some (.inr (147, [some (.ref 633), some (.int c), some (.int 6), some (.int 0)], [])) from by show @cond (Option ((List Value × Mem) ⊕ (Nat × Lo × List Value))) (true && gRecv M (.ref 633) 11 && gRoom [] && true) (some (.inr (147, [some (.ref 633), some (.int c), some (.int 6), some (.int 0)], []))) none = _; rw [recv_s hS.1 qa_633 qo_61]; rfl)) H
    obtain ⟨pK3, qK3⟩ := g_147 hS K3
    rw [pK3, qK3] at H
    obtain ⟨N4, eN4⟩ : ∃ N, N = (X_147 M c 6 0) := ⟨_, rfl⟩
    have hN4 : SQ N4 := by rw [eN4]; exact X_147_sx hS
    rw [← eN4] at H
    have H : Ev none (e1 + 1) 211 23 [some (.ref 633), some (.int c)] [] N4 v M' 0 0 := H
    have H : Ev none (e1 + 1) 211 7 [some (.ref 633), some (.int (c + 1))] [] N4 v M' 0 0 := Ev.back 2 (fun n => rfl) H
    have HF := H
    subst eN4
    exact Or.inr (⟨h2, HF⟩)
noncomputable def X_213 (M : Mem) (c : Int32) (k : Int32) : Mem := if (G_149 (X_147 M c 0 k) c) = 0 then (X_147 (X_147 M c 0 k) c 3 0) else (X_147 M c 0 k)
theorem g_213 {e : Nat} {M M' : Mem} {v : Option Value} {c k : Int32} (hS : SQ M) (H : Ev none e 213 0 [some (.ref 633), some (.int c), some (.int k)] [] M v M' 0 0) : v = none ∧ M' = X_213 M c k := by
  unfold X_213
  have H : Ev none e 213 4 [some (.ref 633), some (.int c), some (.int k)] [.int k, .int 0, .int c, .ref 633] M v M' 0 0 := Ev.back 4 (fun n => rfl) H
  obtain ⟨e1, rfl⟩ := Ev.dpos rfl rfl H
  obtain ⟨vK1, MK1, K1, H⟩ := Ev.callb (fun n_ => gs_7 rfl rfl (show gCal (.invokevirtual 151) 11 (.int k :: .int 0 :: .int c :: .ref 633 :: []) M = some (.inr (147, [some (.ref 633), some (.int c), some (.int 0), some (.int k)], [])) from by show @cond (Option ((List Value × Mem) ⊕ (Nat × Lo × List Value))) (true && gRecv M (.ref 633) 11 && gRoom [] && true) (some (.inr (147, [some (.ref 633), some (.int c), some (.int 0), some (.int k)], []))) none = _; rw [recv_s hS.1 qa_633 qo_61]; rfl)) H
  obtain ⟨pK1, qK1⟩ := g_147 hS K1
  rw [pK1, qK1] at H
  obtain ⟨N2, eN2⟩ : ∃ N, N = (X_147 M c 0 k) := ⟨_, rfl⟩
  have hN2 : SQ N2 := by rw [eN2]; exact X_147_sx hS
  rw [← eN2] at H
  have H : Ev none (e1 + 1) 213 7 [some (.ref 633), some (.int c), some (.int k)] [] N2 v M' 0 0 := H
  have H : Ev none (e1 + 1) 213 9 [some (.ref 633), some (.int c), some (.int k)] [.int c, .ref 633] N2 v M' 0 0 := Ev.back 2 (fun n => rfl) H
  obtain ⟨vK3, MK3, K3, H⟩ := Ev.callb (fun n_ => gs_7 rfl rfl (show gCal (.invokevirtual 356) 11 (.int c :: .ref 633 :: []) N2 = some (.inr (149, [some (.ref 633), some (.int c)], [])) from by show @cond (Option ((List Value × Mem) ⊕ (Nat × Lo × List Value))) (true && gRecv N2 (.ref 633) 11 && gRoom [] && true) (some (.inr (149, [some (.ref 633), some (.int c)], []))) none = _; rw [recv_s hN2.1 qa_633 qo_61]; rfl)) H
  obtain ⟨pK3, qK3⟩ := g_149 hN2 K3
  rw [pK3, qK3] at H
  have H : Ev none (e1 + 1) 213 12 [some (.ref 633), some (.int c), some (.int k)] [.int (G_149 N2 c)] N2 v M' 0 0 := H
  have H : Ev none (e1 + 1) 213 (if (G_149 N2 c) = 0 then 15 else 22) [some (.ref 633), some (.int c), some (.int k)] [] N2 v M' 0 0 := Ev.back 1 (fun n => rfl) H
  by_cases h4 : (G_149 N2 c) = 0
  · rw [if_pos h4] at H
    have H : Ev none (e1 + 1) 213 19 [some (.ref 633), some (.int c), some (.int k)] [.int 0, .int 3, .int c, .ref 633] N2 v M' 0 0 := Ev.back 4 (fun n => rfl) H
    obtain ⟨vK5, MK5, K5, H⟩ := Ev.callb (fun n_ => gs_7 rfl rfl (show gCal (.invokevirtual 151) 11 (.int 0 :: .int 3 :: .int c :: .ref 633 :: []) N2 = some (.inr (147, [some (.ref 633), some (.int c), some (.int 3), some (.int 0)], [])) from by show @cond (Option ((List Value × Mem) ⊕ (Nat × Lo × List Value))) (true && gRecv N2 (.ref 633) 11 && gRoom [] && true) (some (.inr (147, [some (.ref 633), some (.int c), some (.int 3), some (.int 0)], []))) none = _; rw [recv_s hN2.1 qa_633 qo_61]; rfl)) H
    obtain ⟨pK5, qK5⟩ := g_147 hN2 K5
    rw [pK5, qK5] at H
    obtain ⟨N6, eN6⟩ : ∃ N, N = (X_147 N2 c 3 0) := ⟨_, rfl⟩
    have hN6 : SQ N6 := by rw [eN6]; exact X_147_sx hN2
    rw [← eN6] at H
    have H : Ev none (e1 + 1) 213 22 [some (.ref 633), some (.int c), some (.int k)] [] N6 v M' 0 0 := H
    obtain ⟨p1, p2⟩ := Ev.retb (fun n => rfl) H
    subst eN2 eN6
    exact ⟨p1, by rw [if_pos h4]; exact p2⟩
  · rw [if_neg h4] at H
    obtain ⟨p1, p2⟩ := Ev.retb (fun n => rfl) H
    subst eN2
    exact ⟨p1, by rw [if_neg h4]; exact p2⟩
theorem X_213_sx {M : Mem} {c k : Int32} (hS : SQ M) : SQ (X_213 M c k) := by
  unfold X_213
  split
  · exact X_147_sx (X_147_sx hS)
  · exact X_147_sx hS
theorem rla_0 {e : Nat} {M M' : Mem} {v : Option Value} {c k : Int32} (hS : SQ M) (H : Ev none e 212 0 [some (.ref 633), some (.int c), some (.int k)] [] M v M' 0 0) : ((G_145 (wF M 633 0 0) c) = 0 ∧ v = some (.int 0) ∧ M' = (wF M 633 0 0)) ∨ (¬ ((G_145 (wF M 633 0 0) c) = 0) ∧ (G_140 (wF M 633 0 0) k 0 6) = 0 ∧ v = some (.int 0) ∧ M' = (wF M 633 0 0)) ∨ (¬ ((G_145 (wF M 633 0 0) c) = 0) ∧ ¬ ((G_140 (wF M 633 0 0) k 0 6) = 0) ∧ k = 3 ∧ (∃ e1 v1 M1, e = e1 + 1 ∧ Ev none e1 157 0 [some (.ref 633), some (.int c), none] [] (wF M 633 0 0) v1 M1 0 0 ∧ Ev none e 212 39 [some (.ref 633), some (.int c), some (.int k)] (v1.toList ++ []) M1 v M' 0 0)) ∨ (¬ ((G_145 (wF M 633 0 0) c) = 0) ∧ ¬ ((G_140 (wF M 633 0 0) k 0 6) = 0) ∧ ¬ (k = 3) ∧ k = 6 ∧ (∃ e1 v1 M1, e = e1 + 1 ∧ Ev none e1 157 0 [some (.ref 633), some (.int c), none] [] (wF M 633 0 0) v1 M1 0 0 ∧ Ev none e 212 39 [some (.ref 633), some (.int c), some (.int k)] (v1.toList ++ []) M1 v M' 0 0)) ∨ (¬ ((G_145 (wF M 633 0 0) c) = 0) ∧ ¬ ((G_140 (wF M 633 0 0) k 0 6) = 0) ∧ ¬ (k = 3) ∧ ¬ (k = 6) ∧ (∃ e1 v1 M1, e = e1 + 1 ∧ Ev none e1 213 0 [some (.ref 633), some (.int c), some (.int k)] [] (wF M 633 0 0) v1 M1 0 0 ∧ Ev none e 212 58 [some (.ref 633), some (.int c), some (.int k)] (v1.toList ++ []) M1 v M' 0 0)) := by
  have H : Ev none e 212 2 [some (.ref 633), some (.int c), some (.int k)] [.int 0, .ref 633] M v M' 0 0 := Ev.back 2 (fun n => rfl) H
  obtain ⟨N2, eN2⟩ : ∃ N, N = (wF M 633 0 0) := ⟨_, rfl⟩
  have hN2 : SQ N2 := by rw [eN2]; exact hS.kf
  have H : Ev none e 212 5 [some (.ref 633), some (.int c), some (.int k)] [] N2 v M' 0 0 := by rw [eN2]; exact Ev.pfi rfl rfl rfl hS.1 qa_633 qi_61_0 H
  have H : Ev none e 212 7 [some (.ref 633), some (.int c), some (.int k)] [.int c, .ref 633] N2 v M' 0 0 := Ev.back 2 (fun n => rfl) H
  obtain ⟨e1, rfl⟩ := Ev.dpos rfl rfl H
  obtain ⟨vK3, MK3, K3, H⟩ := Ev.callb (fun n_ => gs_7 rfl rfl (show gCal (.invokevirtual 155) 11 (.int c :: .ref 633 :: []) N2 = some (.inr (145, [some (.ref 633), some (.int c)], [])) from by show @cond (Option ((List Value × Mem) ⊕ (Nat × Lo × List Value))) (true && gRecv N2 (.ref 633) 11 && gRoom [] && true) (some (.inr (145, [some (.ref 633), some (.int c)], []))) none = _; rw [recv_s hN2.1 qa_633 qo_61]; rfl)) H
  obtain ⟨pK3, qK3⟩ := g_145 hN2 K3
  rw [pK3, qK3] at H
  have H : Ev none (e1 + 1) 212 10 [some (.ref 633), some (.int c), some (.int k)] [.int (G_145 N2 c)] N2 v M' 0 0 := H
  have H : Ev none (e1 + 1) 212 (if (G_145 N2 c) = 0 then 50 else 13) [some (.ref 633), some (.int c), some (.int k)] [] N2 v M' 0 0 := Ev.back 1 (fun n => rfl) H
  by_cases h4 : (G_145 N2 c) = 0
  · rw [if_pos h4] at H
    have H : Ev none (e1 + 1) 212 51 [some (.ref 633), some (.int c), some (.int k)] [.int 0] N2 v M' 0 0 := Ev.back 1 (fun n => rfl) H
    obtain ⟨z1, z2⟩ := Ev.retz rfl rfl H
    subst eN2
    exact Or.inl ⟨h4, z1, z2⟩
  · rw [if_neg h4] at H
    have H : Ev none (e1 + 1) 212 17 [some (.ref 633), some (.int c), some (.int k)] [.int 6, .int 0, .int k] N2 v M' 0 0 := Ev.back 3 (fun n => rfl) H
    obtain ⟨vK5, MK5, K5, H⟩ := Ev.callb (fun n => rfl) H
    obtain ⟨pK5, qK5⟩ := g_140 hN2 K5
    rw [pK5, qK5] at H
    have H : Ev none (e1 + 1) 212 20 [some (.ref 633), some (.int c), some (.int k)] [.int (G_140 N2 k 0 6)] N2 v M' 0 0 := H
    have H : Ev none (e1 + 1) 212 (if (G_140 N2 k 0 6) = 0 then 50 else 23) [some (.ref 633), some (.int c), some (.int k)] [] N2 v M' 0 0 := Ev.back 1 (fun n => rfl) H
    by_cases h6 : (G_140 N2 k 0 6) = 0
    · rw [if_pos h6] at H
      have H : Ev none (e1 + 1) 212 51 [some (.ref 633), some (.int c), some (.int k)] [.int 0] N2 v M' 0 0 := Ev.back 1 (fun n => rfl) H
      obtain ⟨z1, z2⟩ := Ev.retz rfl rfl H
      subst eN2
      exact Or.inr (Or.inl ⟨h4, h6, z1, z2⟩)
    · rw [if_neg h6] at H
      have H : Ev none (e1 + 1) 212 (if k = 3 then 34 else 28) [some (.ref 633), some (.int c), some (.int k)] [] N2 v M' 0 0 := Ev.back 3 (fun n => rfl) H
      by_cases h7 : k = 3
      · rw [if_pos h7] at H
        have H : Ev none (e1 + 1) 212 36 [some (.ref 633), some (.int c), some (.int k)] [.int c, .ref 633] N2 v M' 0 0 := Ev.back 2 (fun n => rfl) H
        obtain ⟨vK8, MK8, K8, H⟩ := Ev.callb (fun n_ => gs_7 rfl rfl (show gCal (.invokevirtual 161) 11 (.int c :: .ref 633 :: []) N2 = some (.inr (157, [some (.ref 633), some (.int c), none], [])) from by show @cond (Option ((List Value × Mem) ⊕ (Nat × Lo × List Value))) (true && gRecv N2 (.ref 633) 11 && gRoom [] && true) (some (.inr (157, [some (.ref 633), some (.int c), none], []))) none = _; rw [recv_s hN2.1 qa_633 qo_61]; rfl)) H
        have K8 : Ev none e1 157 0 [some (.ref 633), some (.int c), none] [] N2 vK8 MK8 0 0 := K8
        have HF := H
        subst eN2
        exact Or.inr (Or.inr (Or.inl ⟨h4, h6, h7, ⟨e1, vK8, MK8, rfl, K8, HF⟩⟩))
      · rw [if_neg h7] at H
        have H : Ev none (e1 + 1) 212 (if k = 6 then 34 else 52) [some (.ref 633), some (.int c), some (.int k)] [] N2 v M' 0 0 := Ev.back 3 (fun n => rfl) H
        by_cases h9 : k = 6
        · rw [if_pos h9] at H
          have H : Ev none (e1 + 1) 212 36 [some (.ref 633), some (.int c), some (.int k)] [.int c, .ref 633] N2 v M' 0 0 := Ev.back 2 (fun n => rfl) H
          obtain ⟨vK10, MK10, K10, H⟩ := Ev.callb (fun n_ => gs_7 rfl rfl (show gCal (.invokevirtual 161) 11 (.int c :: .ref 633 :: []) N2 = some (.inr (157, [some (.ref 633), some (.int c), none], [])) from by show @cond (Option ((List Value × Mem) ⊕ (Nat × Lo × List Value))) (true && gRecv N2 (.ref 633) 11 && gRoom [] && true) (some (.inr (157, [some (.ref 633), some (.int c), none], []))) none = _; rw [recv_s hN2.1 qa_633 qo_61]; rfl)) H
          have K10 : Ev none e1 157 0 [some (.ref 633), some (.int c), none] [] N2 vK10 MK10 0 0 := K10
          have HF := H
          subst eN2
          exact Or.inr (Or.inr (Or.inr (Or.inl ⟨h4, h6, h7, h9, ⟨e1, vK10, MK10, rfl, K10, HF⟩⟩)))
        · rw [if_neg h9] at H
          have H : Ev none (e1 + 1) 212 55 [some (.ref 633), some (.int c), some (.int k)] [.int k, .int c, .ref 633] N2 v M' 0 0 := Ev.back 3 (fun n => rfl) H
          obtain ⟨vK11, MK11, K11, H⟩ := Ev.callb (fun n_ => gs_7 rfl rfl (show gCal (.invokevirtual 435) 11 (.int k :: .int c :: .ref 633 :: []) N2 = some (.inr (213, [some (.ref 633), some (.int c), some (.int k)], [])) from by show @cond (Option ((List Value × Mem) ⊕ (Nat × Lo × List Value))) (true && gRecv N2 (.ref 633) 11 && gRoom [] && true) (some (.inr (213, [some (.ref 633), some (.int c), some (.int k)], []))) none = _; rw [recv_s hN2.1 qa_633 qo_61]; rfl)) H
          have K11 : Ev none e1 213 0 [some (.ref 633), some (.int c), some (.int k)] [] N2 vK11 MK11 0 0 := K11
          have HF := H
          subst eN2
          exact Or.inr (Or.inr (Or.inr (Or.inr (⟨h4, h6, h7, h9, ⟨e1, vK11, MK11, rfl, K11, HF⟩⟩))))
theorem rla_39 {e : Nat} {M M' : Mem} {v : Option Value} {c k r : Int32} (hS : SQ M) (H : Ev none e 212 39 [some (.ref 633), some (.int c), some (.int k)] [.int r] M v M' 0 0) : (r = 0 ∧ (∃ e1 v1 M1, e = e1 + 1 ∧ Ev none e1 158 0 [some (.ref 633), some (.int c), none] [] M v1 M1 0 0 ∧ Ev none e 212 47 [some (.ref 633), some (.int c), some (.int k)] (v1.toList ++ []) M1 v M' 0 0)) ∨ (¬ (r = 0) ∧ v = some (.int 0) ∧ M' = M) := by
  have H : Ev none e 212 (if r = 0 then 42 else 50) [some (.ref 633), some (.int c), some (.int k)] [] M v M' 0 0 := Ev.back 1 (fun n => rfl) H
  by_cases h1 : r = 0
  · rw [if_pos h1] at H
    have H : Ev none e 212 44 [some (.ref 633), some (.int c), some (.int k)] [.int c, .ref 633] M v M' 0 0 := Ev.back 2 (fun n => rfl) H
    obtain ⟨e1, rfl⟩ := Ev.dpos rfl rfl H
    obtain ⟨vK2, MK2, K2, H⟩ := Ev.callb (fun n_ => gs_7 rfl rfl (show gCal (.invokevirtual 432) 11 (.int c :: .ref 633 :: []) M = some (.inr (158, [some (.ref 633), some (.int c), none], [])) from by show @cond (Option ((List Value × Mem) ⊕ (Nat × Lo × List Value))) (true && gRecv M (.ref 633) 11 && gRoom [] && true) (some (.inr (158, [some (.ref 633), some (.int c), none], []))) none = _; rw [recv_s hS.1 qa_633 qo_61]; rfl)) H
    have K2 : Ev none e1 158 0 [some (.ref 633), some (.int c), none] [] M vK2 MK2 0 0 := K2
    have HF := H
    exact Or.inl ⟨h1, ⟨e1, vK2, MK2, rfl, K2, HF⟩⟩
  · rw [if_neg h1] at H
    have H : Ev none e 212 51 [some (.ref 633), some (.int c), some (.int k)] [.int 0] M v M' 0 0 := Ev.back 1 (fun n => rfl) H
    obtain ⟨z1, z2⟩ := Ev.retz rfl rfl H
    exact Or.inr (⟨h1, z1, z2⟩)
theorem rla_47 {e : Nat} {M M' : Mem} {v : Option Value} {c k r : Int32} (hS : SQ M) (H : Ev none e 212 47 [some (.ref 633), some (.int c), some (.int k)] [.int r] M v M' 0 0) : (r = 0 ∧ (∃ e1 v1 M1, e = e1 + 1 ∧ Ev none e1 213 0 [some (.ref 633), some (.int c), some (.int k)] [] M v1 M1 0 0 ∧ Ev none e 212 58 [some (.ref 633), some (.int c), some (.int k)] (v1.toList ++ []) M1 v M' 0 0)) ∨ (¬ (r = 0) ∧ v = some (.int 0) ∧ M' = M) := by
  have H : Ev none e 212 (if r = 0 then 52 else 50) [some (.ref 633), some (.int c), some (.int k)] [] M v M' 0 0 := Ev.back 1 (fun n => rfl) H
  by_cases h1 : r = 0
  · rw [if_pos h1] at H
    have H : Ev none e 212 55 [some (.ref 633), some (.int c), some (.int k)] [.int k, .int c, .ref 633] M v M' 0 0 := Ev.back 3 (fun n => rfl) H
    obtain ⟨e1, rfl⟩ := Ev.dpos rfl rfl H
    obtain ⟨vK2, MK2, K2, H⟩ := Ev.callb (fun n_ => gs_7 rfl rfl (show gCal (.invokevirtual 435) 11 (.int k :: .int c :: .ref 633 :: []) M = some (.inr (213, [some (.ref 633), some (.int c), some (.int k)], [])) from by show @cond (Option ((List Value × Mem) ⊕ (Nat × Lo × List Value))) (true && gRecv M (.ref 633) 11 && gRoom [] && true) (some (.inr (213, [some (.ref 633), some (.int c), some (.int k)], []))) none = _; rw [recv_s hS.1 qa_633 qo_61]; rfl)) H
    have K2 : Ev none e1 213 0 [some (.ref 633), some (.int c), some (.int k)] [] M vK2 MK2 0 0 := K2
    have HF := H
    exact Or.inl ⟨h1, ⟨e1, vK2, MK2, rfl, K2, HF⟩⟩
  · rw [if_neg h1] at H
    have H : Ev none e 212 51 [some (.ref 633), some (.int c), some (.int k)] [.int 0] M v M' 0 0 := Ev.back 1 (fun n => rfl) H
    obtain ⟨z1, z2⟩ := Ev.retz rfl rfl H
    exact Or.inr (⟨h1, z1, z2⟩)
theorem rla_58 {e : Nat} {M M' : Mem} {v : Option Value} {c k : Int32} (hS : SQ M) (H : Ev none e 212 58 [some (.ref 633), some (.int c), some (.int k)] [] M v M' 0 0) : v = some (.int 1) ∧ M' = M := by
  have H : Ev none e 212 59 [some (.ref 633), some (.int c), some (.int k)] [.int 1] M v M' 0 0 := Ev.back 1 (fun n => rfl) H
  obtain ⟨z1, z2⟩ := Ev.retz rfl rfl H
  exact ⟨z1, z2⟩
theorem rpk_0 {e : Nat} {M M' : Mem} {v : Option Value} {a b : Int32} (hS : SQ M) (H : Ev none e 155 0 [some (.ref 633), some (.int a), some (.int b), none] [] M v M' 0 0) : ((G_140 (X_139 (wF M 633 0 0)) a 4 16) = 0 ∧ v = some (.int 0) ∧ M' = (X_139 (wF M 633 0 0))) ∨ (¬ ((G_140 (X_139 (wF M 633 0 0)) a 4 16) = 0) ∧ (G_140 (X_139 (wF M 633 0 0)) b 4 16) = 0 ∧ v = some (.int 0) ∧ M' = (X_139 (wF M 633 0 0))) ∨ (¬ ((G_140 (X_139 (wF M 633 0 0)) a 4 16) = 0) ∧ ¬ ((G_140 (X_139 (wF M 633 0 0)) b 4 16) = 0) ∧ (zI (X_139 (wF M 633 0 0)) 633 3) = (a * b) ∧ Ev none e 155 43 [some (.ref 633), some (.int a), some (.int b), some (.int 0)] [] (X_139 (wF M 633 0 0)) v M' 0 0) ∨ (¬ ((G_140 (X_139 (wF M 633 0 0)) a 4 16) = 0) ∧ ¬ ((G_140 (X_139 (wF M 633 0 0)) b 4 16) = 0) ∧ ¬ ((zI (X_139 (wF M 633 0 0)) 633 3) = (a * b)) ∧ v = some (.int 0) ∧ M' = (X_139 (wF M 633 0 0))) := by
  have H : Ev none e 155 2 [some (.ref 633), some (.int a), some (.int b), none] [.int 0, .ref 633] M v M' 0 0 := Ev.back 2 (fun n => rfl) H
  obtain ⟨N2, eN2⟩ : ∃ N, N = (wF M 633 0 0) := ⟨_, rfl⟩
  have hN2 : SQ N2 := by rw [eN2]; exact hS.kf
  have H : Ev none e 155 5 [some (.ref 633), some (.int a), some (.int b), none] [] N2 v M' 0 0 := by rw [eN2]; exact Ev.pfi rfl rfl rfl hS.1 qa_633 qi_61_0 H
  have H : Ev none e 155 6 [some (.ref 633), some (.int a), some (.int b), none] [.ref 633] N2 v M' 0 0 := Ev.back 1 (fun n => rfl) H
  obtain ⟨e1, rfl⟩ := Ev.dpos rfl rfl H
  obtain ⟨vK3, MK3, K3, H⟩ := Ev.callb (fun n_ => gs_7 rfl rfl (show gCal (.invokevirtual 144) 11 (.ref 633 :: []) N2 = some (.inr (139, [some (.ref 633)], [])) from by show @cond (Option ((List Value × Mem) ⊕ (Nat × Lo × List Value))) (true && gRecv N2 (.ref 633) 11 && gRoom [] && true) (some (.inr (139, [some (.ref 633)], []))) none = _; rw [recv_s hN2.1 qa_633 qo_61]; rfl)) H
  obtain ⟨pK3, qK3⟩ := g_139 hN2 K3
  rw [pK3, qK3] at H
  obtain ⟨N4, eN4⟩ : ∃ N, N = (X_139 N2) := ⟨_, rfl⟩
  have hN4 : SQ N4 := by rw [eN4]; exact X_139_sx hN2
  rw [← eN4] at H
  have H : Ev none (e1 + 1) 155 9 [some (.ref 633), some (.int a), some (.int b), none] [] N4 v M' 0 0 := H
  have H : Ev none (e1 + 1) 155 13 [some (.ref 633), some (.int a), some (.int b), none] [.int 16, .int 4, .int a] N4 v M' 0 0 := Ev.back 3 (fun n => rfl) H
  obtain ⟨vK5, MK5, K5, H⟩ := Ev.callb (fun n => rfl) H
  obtain ⟨pK5, qK5⟩ := g_140 hN4 K5
  rw [pK5, qK5] at H
  have H : Ev none (e1 + 1) 155 16 [some (.ref 633), some (.int a), some (.int b), none] [.int (G_140 N4 a 4 16)] N4 v M' 0 0 := H
  have H : Ev none (e1 + 1) 155 (if (G_140 N4 a 4 16) = 0 then 39 else 19) [some (.ref 633), some (.int a), some (.int b), none] [] N4 v M' 0 0 := Ev.back 1 (fun n => rfl) H
  by_cases h6 : (G_140 N4 a 4 16) = 0
  · rw [if_pos h6] at H
    have H : Ev none (e1 + 1) 155 40 [some (.ref 633), some (.int a), some (.int b), none] [.int 0] N4 v M' 0 0 := Ev.back 1 (fun n => rfl) H
    obtain ⟨z1, z2⟩ := Ev.retz rfl rfl H
    subst eN2 eN4
    exact Or.inl ⟨h6, z1, z2⟩
  · rw [if_neg h6] at H
    have H : Ev none (e1 + 1) 155 23 [some (.ref 633), some (.int a), some (.int b), none] [.int 16, .int 4, .int b] N4 v M' 0 0 := Ev.back 3 (fun n => rfl) H
    obtain ⟨vK7, MK7, K7, H⟩ := Ev.callb (fun n => rfl) H
    obtain ⟨pK7, qK7⟩ := g_140 hN4 K7
    rw [pK7, qK7] at H
    have H : Ev none (e1 + 1) 155 26 [some (.ref 633), some (.int a), some (.int b), none] [.int (G_140 N4 b 4 16)] N4 v M' 0 0 := H
    have H : Ev none (e1 + 1) 155 (if (G_140 N4 b 4 16) = 0 then 39 else 29) [some (.ref 633), some (.int a), some (.int b), none] [] N4 v M' 0 0 := Ev.back 1 (fun n => rfl) H
    by_cases h8 : (G_140 N4 b 4 16) = 0
    · rw [if_pos h8] at H
      have H : Ev none (e1 + 1) 155 40 [some (.ref 633), some (.int a), some (.int b), none] [.int 0] N4 v M' 0 0 := Ev.back 1 (fun n => rfl) H
      obtain ⟨z1, z2⟩ := Ev.retz rfl rfl H
      subst eN2 eN4
      exact Or.inr (Or.inl ⟨h6, h8, z1, z2⟩)
    · rw [if_neg h8] at H
      have H : Ev none (e1 + 1) 155 30 [some (.ref 633), some (.int a), some (.int b), none] [.ref 633] N4 v M' 0 0 := Ev.back 1 (fun n => rfl) H
      have H : Ev none (e1 + 1) 155 33 [some (.ref 633), some (.int a), some (.int b), none] [.int (zI N4 633 3)] N4 v M' 0 0 := Ev.back 1 (gs_3 rfl rfl (gf_i hN4.1 qa_633 qi_61_3 rfl)) H
      have H : Ev none (e1 + 1) 155 (if (zI N4 633 3) = (a * b) then 41 else 39) [some (.ref 633), some (.int a), some (.int b), none] [] N4 v M' 0 0 := Ev.back 4 (fun n => rfl) H
      by_cases h9 : (zI N4 633 3) = (a * b)
      · rw [if_pos h9] at H
        have H : Ev none (e1 + 1) 155 43 [some (.ref 633), some (.int a), some (.int b), some (.int 0)] [] N4 v M' 0 0 := Ev.back 2 (fun n => rfl) H
        have HF := H
        subst eN2 eN4
        exact Or.inr (Or.inr (Or.inl ⟨h6, h8, h9, HF⟩))
      · rw [if_neg h9] at H
        have H : Ev none (e1 + 1) 155 40 [some (.ref 633), some (.int a), some (.int b), none] [.int 0] N4 v M' 0 0 := Ev.back 1 (fun n => rfl) H
        obtain ⟨z1, z2⟩ := Ev.retz rfl rfl H
        subst eN2 eN4
        exact Or.inr (Or.inr (Or.inr (⟨h6, h8, h9, z1, z2⟩)))
theorem rpk_43 {e : Nat} {M M' : Mem} {v : Option Value} {a b i : Int32} (hS : SQ M) (H : Ev none e 155 43 [some (.ref 633), some (.int a), some (.int b), some (.int i)] [] M v M' 0 0) : ((zI M 633 3) ≤ i ∧ Ev none e 155 74 [some (.ref 633), some (.int a), some (.int b), some (.int 0)] [] M v M' 0 0) ∨ (¬ ((zI M 633 3) ≤ i) ∧ ((G_142 M i) - (G_142 M i) / 8 * 8) = 7 ∧ v = some (.int 0) ∧ M' = M) ∨ (¬ ((zI M 633 3) ≤ i) ∧ ¬ (((G_142 M i) - (G_142 M i) / 8 * 8) = 7) ∧ Ev none e 155 43 [some (.ref 633), some (.int a), some (.int b), some (.int (i + 1))] [] M v M' 0 0) := by
  have H : Ev none e 155 45 [some (.ref 633), some (.int a), some (.int b), some (.int i)] [.ref 633, .int i] M v M' 0 0 := Ev.back 2 (fun n => rfl) H
  have H : Ev none e 155 48 [some (.ref 633), some (.int a), some (.int b), some (.int i)] [.int (zI M 633 3), .int i] M v M' 0 0 := Ev.back 1 (gs_3 rfl rfl (gf_i hS.1 qa_633 qi_61_3 rfl)) H
  have H : Ev none e 155 (if (zI M 633 3) ≤ i then 72 else 51) [some (.ref 633), some (.int a), some (.int b), some (.int i)] [] M v M' 0 0 := Ev.back 1 (fun n => rfl) H
  by_cases h1 : (zI M 633 3) ≤ i
  · rw [if_pos h1] at H
    have H : Ev none e 155 74 [some (.ref 633), some (.int a), some (.int b), some (.int 0)] [] M v M' 0 0 := Ev.back 2 (fun n => rfl) H
    have HF := H
    exact Or.inl ⟨h1, HF⟩
  · rw [if_neg h1] at H
    have H : Ev none e 155 53 [some (.ref 633), some (.int a), some (.int b), some (.int i)] [.int i, .ref 633] M v M' 0 0 := Ev.back 2 (fun n => rfl) H
    obtain ⟨e1, rfl⟩ := Ev.dpos rfl rfl H
    obtain ⟨vK2, MK2, K2, H⟩ := Ev.callb (fun n_ => gs_7 rfl rfl (show gCal (.invokevirtual 147) 11 (.int i :: .ref 633 :: []) M = some (.inr (142, [some (.ref 633), some (.int i)], [])) from by show @cond (Option ((List Value × Mem) ⊕ (Nat × Lo × List Value))) (true && gRecv M (.ref 633) 11 && gRoom [] && true) (some (.inr (142, [some (.ref 633), some (.int i)], []))) none = _; rw [recv_s hS.1 qa_633 qo_61]; rfl)) H
    obtain ⟨pK2, qK2⟩ := g_142 hS K2
    rw [pK2, qK2] at H
    have H : Ev none (e1 + 1) 155 56 [some (.ref 633), some (.int a), some (.int b), some (.int i)] [.int (G_142 M i)] M v M' 0 0 := H
    have H : Ev none (e1 + 1) 155 (if ((G_142 M i) - (G_142 M i) / 8 * 8) = 7 then 64 else 66) [some (.ref 633), some (.int a), some (.int b), some (.int i)] [] M v M' 0 0 := Ev.back 4 (fun n => rfl) H
    by_cases h3 : ((G_142 M i) - (G_142 M i) / 8 * 8) = 7
    · rw [if_pos h3] at H
      have H : Ev none (e1 + 1) 155 65 [some (.ref 633), some (.int a), some (.int b), some (.int i)] [.int 0] M v M' 0 0 := Ev.back 1 (fun n => rfl) H
      obtain ⟨z1, z2⟩ := Ev.retz rfl rfl H
      exact Or.inr (Or.inl ⟨h1, h3, z1, z2⟩)
    · rw [if_neg h3] at H
      have H : Ev none (e1 + 1) 155 43 [some (.ref 633), some (.int a), some (.int b), some (.int (i + 1))] [] M v M' 0 0 := Ev.back 2 (fun n => rfl) H
      have HF := H
      exact Or.inr (Or.inr (⟨h1, h3, HF⟩))
theorem rpk_74 {e : Nat} {M M' : Mem} {v : Option Value} {a b i : Int32} (hS : SQ M) (H : Ev none e 155 74 [some (.ref 633), some (.int a), some (.int b), some (.int i)] [] M v M' 0 0) : (2314 ≤ i ∧ Ev none e 155 94 [some (.ref 633), some (.int a), some (.int b), some (.int i)] [] M v M' 0 0) ∨ (¬ (2314 ≤ i) ∧ (0 ≤ i.toInt ∧ i.toInt < 2314) ∧ Ev none e 155 74 [some (.ref 633), some (.int a), some (.int b), some (.int (i + 1))] [] (wI M 635 i.toNatClampNeg 0) v M' 0 0) := by
  have H : Ev none e 155 (if 2314 ≤ i then 94 else 81) [some (.ref 633), some (.int a), some (.int b), some (.int i)] [] M v M' 0 0 := Ev.back 3 (fun n => rfl) H
  by_cases h1 : 2314 ≤ i
  · rw [if_pos h1] at H
    have HF := H
    exact Or.inl ⟨h1, HF⟩
  · rw [if_neg h1] at H
    have H : Ev none e 155 82 [some (.ref 633), some (.int a), some (.int b), some (.int i)] [.ref 633] M v M' 0 0 := Ev.back 1 (fun n => rfl) H
    have H : Ev none e 155 85 [some (.ref 633), some (.int a), some (.int b), some (.int i)] [.ref 635] M v M' 0 0 := Ev.back 1 (gs_3 rfl rfl (gf_u hS.1 qa_633 qr_61_5 qu_63 rfl)) H
    have H : Ev none e 155 87 [some (.ref 633), some (.int a), some (.int b), some (.int i)] [.int 0, .int i, .ref 635] M v M' 0 0 := Ev.back 2 (fun n => rfl) H
    obtain ⟨b2, H⟩ := Ev.ias rfl rfl hS.1 qa_635 qw_63 H
    obtain ⟨N3, eN3⟩ : ∃ N, N = (wI M 635 i.toNatClampNeg 0) := ⟨_, rfl⟩
    have hN3 : SQ N3 := by rw [eN3]; exact hS.ki
    have H : Ev none e 155 88 [some (.ref 633), some (.int a), some (.int b), some (.int i)] [] N3 v M' 0 0 := by rw [eN3]; exact H
    have H : Ev none e 155 74 [some (.ref 633), some (.int a), some (.int b), some (.int (i + 1))] [] N3 v M' 0 0 := Ev.back 2 (fun n => rfl) H
    have HF := H
    subst eN3
    exact Or.inr (⟨h1, b2, HF⟩)
theorem rpk_94 {e : Nat} {M M' : Mem} {v : Option Value} {a b i : Int32} (hS : SQ M) (H : Ev none e 155 94 [some (.ref 633), some (.int a), some (.int b), some (.int i)] [] M v M' 0 0) : (0 ≤ (0 : Int32).toInt ∧ (0 : Int32).toInt < 2314) ∧ (0 ≤ (1 : Int32).toInt ∧ (1 : Int32).toInt < 2314) ∧ Ev none e 155 110 [some (.ref 633), some (.int a), some (.int b), some (.int 0)] [] (wI (wI M 635 ((0 : Int32).toNatClampNeg) a) 635 ((1 : Int32).toNatClampNeg) b) v M' 0 0 := by
  have H : Ev none e 155 95 [some (.ref 633), some (.int a), some (.int b), some (.int i)] [.ref 633] M v M' 0 0 := Ev.back 1 (fun n => rfl) H
  have H : Ev none e 155 98 [some (.ref 633), some (.int a), some (.int b), some (.int i)] [.ref 635] M v M' 0 0 := Ev.back 1 (gs_3 rfl rfl (gf_u hS.1 qa_633 qr_61_5 qu_63 rfl)) H
  have H : Ev none e 155 100 [some (.ref 633), some (.int a), some (.int b), some (.int i)] [.int a, .int 0, .ref 635] M v M' 0 0 := Ev.back 2 (fun n => rfl) H
  obtain ⟨b1, H⟩ := Ev.ias rfl rfl hS.1 qa_635 qw_63 H
  obtain ⟨N2, eN2⟩ : ∃ N, N = (wI M 635 ((0 : Int32).toNatClampNeg) a) := ⟨_, rfl⟩
  have hN2 : SQ N2 := by rw [eN2]; exact hS.ki
  have H : Ev none e 155 101 [some (.ref 633), some (.int a), some (.int b), some (.int i)] [] N2 v M' 0 0 := by rw [eN2]; exact H
  have H : Ev none e 155 102 [some (.ref 633), some (.int a), some (.int b), some (.int i)] [.ref 633] N2 v M' 0 0 := Ev.back 1 (fun n => rfl) H
  have H : Ev none e 155 105 [some (.ref 633), some (.int a), some (.int b), some (.int i)] [.ref 635] N2 v M' 0 0 := Ev.back 1 (gs_3 rfl rfl (gf_u hN2.1 qa_633 qr_61_5 qu_63 rfl)) H
  have H : Ev none e 155 107 [some (.ref 633), some (.int a), some (.int b), some (.int i)] [.int b, .int 1, .ref 635] N2 v M' 0 0 := Ev.back 2 (fun n => rfl) H
  obtain ⟨b3, H⟩ := Ev.ias rfl rfl hN2.1 qa_635 qw_63 H
  obtain ⟨N4, eN4⟩ : ∃ N, N = (wI N2 635 ((1 : Int32).toNatClampNeg) b) := ⟨_, rfl⟩
  have hN4 : SQ N4 := by rw [eN4]; exact hN2.ki
  have H : Ev none e 155 108 [some (.ref 633), some (.int a), some (.int b), some (.int i)] [] N4 v M' 0 0 := by rw [eN4]; exact H
  have H : Ev none e 155 110 [some (.ref 633), some (.int a), some (.int b), some (.int 0)] [] N4 v M' 0 0 := Ev.back 2 (fun n => rfl) H
  have HF := H
  subst eN2 eN4
  exact ⟨b1, b3, HF⟩
theorem rpk_110 {e : Nat} {M M' : Mem} {v : Option Value} {a b i : Int32} (hS : SQ M) (H : Ev none e 155 110 [some (.ref 633), some (.int a), some (.int b), some (.int i)] [] M v M' 0 0) : ((zI M 633 3) ≤ i ∧ v = some (.int 1) ∧ M' = M) ∨ (¬ ((zI M 633 3) ≤ i) ∧ Ev none e 155 110 [some (.ref 633), some (.int a), some (.int b), some (.int (i + 1))] [] (X_147 (X_147 (X_147 M i 0 ((G_142 M i) - (G_142 M i) / 8 * 8)) i 1 (((G_142 (X_147 M i 0 ((G_142 M i) - (G_142 M i) / 8 * 8)) i) / 8) - ((G_142 (X_147 M i 0 ((G_142 M i) - (G_142 M i) / 8 * 8)) i) / 8) / 2 * 2)) i 2 ((G_142 (X_147 (X_147 M i 0 ((G_142 M i) - (G_142 M i) / 8 * 8)) i 1 (((G_142 (X_147 M i 0 ((G_142 M i) - (G_142 M i) / 8 * 8)) i) / 8) - ((G_142 (X_147 M i 0 ((G_142 M i) - (G_142 M i) / 8 * 8)) i) / 8) / 2 * 2)) i) / 16)) v M' 0 0) := by
  have H : Ev none e 155 112 [some (.ref 633), some (.int a), some (.int b), some (.int i)] [.ref 633, .int i] M v M' 0 0 := Ev.back 2 (fun n => rfl) H
  have H : Ev none e 155 115 [some (.ref 633), some (.int a), some (.int b), some (.int i)] [.int (zI M 633 3), .int i] M v M' 0 0 := Ev.back 1 (gs_3 rfl rfl (gf_i hS.1 qa_633 qi_61_3 rfl)) H
  have H : Ev none e 155 (if (zI M 633 3) ≤ i then 168 else 118) [some (.ref 633), some (.int a), some (.int b), some (.int i)] [] M v M' 0 0 := Ev.back 1 (fun n => rfl) H
  by_cases h1 : (zI M 633 3) ≤ i
  · rw [if_pos h1] at H
    have H : Ev none e 155 169 [some (.ref 633), some (.int a), some (.int b), some (.int i)] [.int 1] M v M' 0 0 := Ev.back 1 (fun n => rfl) H
    obtain ⟨z1, z2⟩ := Ev.retz rfl rfl H
    exact Or.inl ⟨h1, z1, z2⟩
  · rw [if_neg h1] at H
    have H : Ev none e 155 123 [some (.ref 633), some (.int a), some (.int b), some (.int i)] [.int i, .ref 633, .int 0, .int i, .ref 633] M v M' 0 0 := Ev.back 5 (fun n => rfl) H
    obtain ⟨e1, rfl⟩ := Ev.dpos rfl rfl H
    obtain ⟨vK2, MK2, K2, H⟩ := Ev.callb (fun n_ => gs_7 rfl rfl (show gCal (.invokevirtual 147) 11 (.int i :: .ref 633 :: [.int 0, .int i, .ref 633]) M = some (.inr (142, [some (.ref 633), some (.int i)], [.int 0, .int i, .ref 633])) from by show @cond (Option ((List Value × Mem) ⊕ (Nat × Lo × List Value))) (true && gRecv M (.ref 633) 11 && gRoom [.int 0, .int i, .ref 633] && true) (some (.inr (142, [some (.ref 633), some (.int i)], [.int 0, .int i, .ref 633]))) none = _; rw [recv_s hS.1 qa_633 qo_61]; rfl)) H
    obtain ⟨pK2, qK2⟩ := g_142 hS K2
    rw [pK2, qK2] at H
    have H : Ev none (e1 + 1) 155 126 [some (.ref 633), some (.int a), some (.int b), some (.int i)] [.int (G_142 M i), .int 0, .int i, .ref 633] M v M' 0 0 := H
    have H : Ev none (e1 + 1) 155 129 [some (.ref 633), some (.int a), some (.int b), some (.int i)] [.int ((G_142 M i) - (G_142 M i) / 8 * 8), .int 0, .int i, .ref 633] M v M' 0 0 := Ev.back 2 (fun n => rfl) H
    obtain ⟨vK3, MK3, K3, H⟩ := Ev.callb (fun n_ => gs_7 rfl rfl (show gCal (.invokevirtual 151) 11 (.int ((G_142 M i) - (G_142 M i) / 8 * 8) :: .int 0 :: .int i :: .ref 633 :: []) M = some (.inr (147, [some (.ref 633), some (.int i), some (.int 0), some (.int ((G_142 M i) - (G_142 M i) / 8 * 8))], [])) from by show @cond (Option ((List Value × Mem) ⊕ (Nat × Lo × List Value))) (true && gRecv M (.ref 633) 11 && gRoom [] && true) (some (.inr (147, [some (.ref 633), some (.int i), some (.int 0), some (.int ((G_142 M i) - (G_142 M i) / 8 * 8))], []))) none = _; rw [recv_s hS.1 qa_633 qo_61]; rfl)) H
    obtain ⟨pK3, qK3⟩ := g_147 hS K3
    rw [pK3, qK3] at H
    obtain ⟨N4, eN4⟩ : ∃ N, N = (X_147 M i 0 ((G_142 M i) - (G_142 M i) / 8 * 8)) := ⟨_, rfl⟩
    have hN4 : SQ N4 := by rw [eN4]; exact X_147_sx hS
    rw [← eN4] at H
    have H : Ev none (e1 + 1) 155 132 [some (.ref 633), some (.int a), some (.int b), some (.int i)] [] N4 v M' 0 0 := H
    have H : Ev none (e1 + 1) 155 137 [some (.ref 633), some (.int a), some (.int b), some (.int i)] [.int i, .ref 633, .int 1, .int i, .ref 633] N4 v M' 0 0 := Ev.back 5 (fun n => rfl) H
    obtain ⟨vK5, MK5, K5, H⟩ := Ev.callb (fun n_ => gs_7 rfl rfl (show gCal (.invokevirtual 147) 11 (.int i :: .ref 633 :: [.int 1, .int i, .ref 633]) N4 = some (.inr (142, [some (.ref 633), some (.int i)], [.int 1, .int i, .ref 633])) from by show @cond (Option ((List Value × Mem) ⊕ (Nat × Lo × List Value))) (true && gRecv N4 (.ref 633) 11 && gRoom [.int 1, .int i, .ref 633] && true) (some (.inr (142, [some (.ref 633), some (.int i)], [.int 1, .int i, .ref 633]))) none = _; rw [recv_s hN4.1 qa_633 qo_61]; rfl)) H
    obtain ⟨pK5, qK5⟩ := g_142 hN4 K5
    rw [pK5, qK5] at H
    have H : Ev none (e1 + 1) 155 140 [some (.ref 633), some (.int a), some (.int b), some (.int i)] [.int (G_142 N4 i), .int 1, .int i, .ref 633] N4 v M' 0 0 := H
    have H : Ev none (e1 + 1) 155 145 [some (.ref 633), some (.int a), some (.int b), some (.int i)] [.int (((G_142 N4 i) / 8) - ((G_142 N4 i) / 8) / 2 * 2), .int 1, .int i, .ref 633] N4 v M' 0 0 := Ev.back 4 (fun n => rfl) H
    obtain ⟨vK6, MK6, K6, H⟩ := Ev.callb (fun n_ => gs_7 rfl rfl (show gCal (.invokevirtual 151) 11 (.int (((G_142 N4 i) / 8) - ((G_142 N4 i) / 8) / 2 * 2) :: .int 1 :: .int i :: .ref 633 :: []) N4 = some (.inr (147, [some (.ref 633), some (.int i), some (.int 1), some (.int (((G_142 N4 i) / 8) - ((G_142 N4 i) / 8) / 2 * 2))], [])) from by show @cond (Option ((List Value × Mem) ⊕ (Nat × Lo × List Value))) (true && gRecv N4 (.ref 633) 11 && gRoom [] && true) (some (.inr (147, [some (.ref 633), some (.int i), some (.int 1), some (.int (((G_142 N4 i) / 8) - ((G_142 N4 i) / 8) / 2 * 2))], []))) none = _; rw [recv_s hN4.1 qa_633 qo_61]; rfl)) H
    obtain ⟨pK6, qK6⟩ := g_147 hN4 K6
    rw [pK6, qK6] at H
    obtain ⟨N7, eN7⟩ : ∃ N, N = (X_147 N4 i 1 (((G_142 N4 i) / 8) - ((G_142 N4 i) / 8) / 2 * 2)) := ⟨_, rfl⟩
    have hN7 : SQ N7 := by rw [eN7]; exact X_147_sx hN4
    rw [← eN7] at H
    have H : Ev none (e1 + 1) 155 148 [some (.ref 633), some (.int a), some (.int b), some (.int i)] [] N7 v M' 0 0 := H
    have H : Ev none (e1 + 1) 155 153 [some (.ref 633), some (.int a), some (.int b), some (.int i)] [.int i, .ref 633, .int 2, .int i, .ref 633] N7 v M' 0 0 := Ev.back 5 (fun n => rfl) H
    obtain ⟨vK8, MK8, K8, H⟩ := Ev.callb (fun n_ => gs_7 rfl rfl (show gCal (.invokevirtual 147) 11 (.int i :: .ref 633 :: [.int 2, .int i, .ref 633]) N7 = some (.inr (142, [some (.ref 633), some (.int i)], [.int 2, .int i, .ref 633])) from by show @cond (Option ((List Value × Mem) ⊕ (Nat × Lo × List Value))) (true && gRecv N7 (.ref 633) 11 && gRoom [.int 2, .int i, .ref 633] && true) (some (.inr (142, [some (.ref 633), some (.int i)], [.int 2, .int i, .ref 633]))) none = _; rw [recv_s hN7.1 qa_633 qo_61]; rfl)) H
    obtain ⟨pK8, qK8⟩ := g_142 hN7 K8
    rw [pK8, qK8] at H
    have H : Ev none (e1 + 1) 155 156 [some (.ref 633), some (.int a), some (.int b), some (.int i)] [.int (G_142 N7 i), .int 2, .int i, .ref 633] N7 v M' 0 0 := H
    have H : Ev none (e1 + 1) 155 159 [some (.ref 633), some (.int a), some (.int b), some (.int i)] [.int ((G_142 N7 i) / 16), .int 2, .int i, .ref 633] N7 v M' 0 0 := Ev.back 2 (fun n => rfl) H
    obtain ⟨vK9, MK9, K9, H⟩ := Ev.callb (fun n_ => gs_7 rfl rfl (show gCal (.invokevirtual 151) 11 (.int ((G_142 N7 i) / 16) :: .int 2 :: .int i :: .ref 633 :: []) N7 = some (.inr (147, [some (.ref 633), some (.int i), some (.int 2), some (.int ((G_142 N7 i) / 16))], [])) from by show @cond (Option ((List Value × Mem) ⊕ (Nat × Lo × List Value))) (true && gRecv N7 (.ref 633) 11 && gRoom [] && true) (some (.inr (147, [some (.ref 633), some (.int i), some (.int 2), some (.int ((G_142 N7 i) / 16))], []))) none = _; rw [recv_s hN7.1 qa_633 qo_61]; rfl)) H
    obtain ⟨pK9, qK9⟩ := g_147 hN7 K9
    rw [pK9, qK9] at H
    obtain ⟨N10, eN10⟩ : ∃ N, N = (X_147 N7 i 2 ((G_142 N7 i) / 16)) := ⟨_, rfl⟩
    have hN10 : SQ N10 := by rw [eN10]; exact X_147_sx hN7
    rw [← eN10] at H
    have H : Ev none (e1 + 1) 155 162 [some (.ref 633), some (.int a), some (.int b), some (.int i)] [] N10 v M' 0 0 := H
    have H : Ev none (e1 + 1) 155 110 [some (.ref 633), some (.int a), some (.int b), some (.int (i + 1))] [] N10 v M' 0 0 := Ev.back 2 (fun n => rfl) H
    have HF := H
    subst eN4 eN7 eN10
    exact Or.inr (⟨h1, HF⟩)
theorem rim_0 {e : Nat} {M M' : Mem} {v : Option Value} {k : Int32} (hS : SQ M) (H : Ev none e 246 0 [some (.ref 633), some (.int k), none] [] M v M' 0 0) : ((G_140 (wF M 633 0 0) k 0 2) = 0 ∧ v = some (.int 0) ∧ M' = (wF M 633 0 0)) ∨ (¬ ((G_140 (wF M 633 0 0) k 0 2) = 0) ∧ Ev none e 246 18 [some (.ref 633), some (.int k), some (.int 0)] [] (wF M 633 0 0) v M' 0 0) := by
  have H : Ev none e 246 2 [some (.ref 633), some (.int k), none] [.int 0, .ref 633] M v M' 0 0 := Ev.back 2 (fun n => rfl) H
  obtain ⟨N2, eN2⟩ : ∃ N, N = (wF M 633 0 0) := ⟨_, rfl⟩
  have hN2 : SQ N2 := by rw [eN2]; exact hS.kf
  have H : Ev none e 246 5 [some (.ref 633), some (.int k), none] [] N2 v M' 0 0 := by rw [eN2]; exact Ev.pfi rfl rfl rfl hS.1 qa_633 qi_61_0 H
  have H : Ev none e 246 8 [some (.ref 633), some (.int k), none] [.int 2, .int 0, .int k] N2 v M' 0 0 := Ev.back 3 (fun n => rfl) H
  obtain ⟨e1, rfl⟩ := Ev.dpos rfl rfl H
  obtain ⟨vK3, MK3, K3, H⟩ := Ev.callb (fun n => rfl) H
  obtain ⟨pK3, qK3⟩ := g_140 hN2 K3
  rw [pK3, qK3] at H
  have H : Ev none (e1 + 1) 246 11 [some (.ref 633), some (.int k), none] [.int (G_140 N2 k 0 2)] N2 v M' 0 0 := H
  have H : Ev none (e1 + 1) 246 (if (G_140 N2 k 0 2) = 0 then 14 else 16) [some (.ref 633), some (.int k), none] [] N2 v M' 0 0 := Ev.back 1 (fun n => rfl) H
  by_cases h4 : (G_140 N2 k 0 2) = 0
  · rw [if_pos h4] at H
    have H : Ev none (e1 + 1) 246 15 [some (.ref 633), some (.int k), none] [.int 0] N2 v M' 0 0 := Ev.back 1 (fun n => rfl) H
    obtain ⟨z1, z2⟩ := Ev.retz rfl rfl H
    subst eN2
    exact Or.inl ⟨h4, z1, z2⟩
  · rw [if_neg h4] at H
    have H : Ev none (e1 + 1) 246 18 [some (.ref 633), some (.int k), some (.int 0)] [] N2 v M' 0 0 := Ev.back 2 (fun n => rfl) H
    have HF := H
    subst eN2
    exact Or.inr (⟨h4, HF⟩)
theorem rim_18 {e : Nat} {M M' : Mem} {v : Option Value} {k i : Int32} (hS : SQ M) (H : Ev none e 246 18 [some (.ref 633), some (.int k), some (.int i)] [] M v M' 0 0) : (2314 ≤ i ∧ (0 ≤ k.toInt ∧ k.toInt < 3) ∧ v = some (.int 1) ∧ M' = (wI M 638 k.toNatClampNeg (vp_nar .boolean 1))) ∨ (¬ (2314 ≤ i) ∧ (0 ≤ i.toInt ∧ i.toInt < 2314) ∧ (0 ≤ ((2314 * k) + i).toInt ∧ ((2314 * k) + i).toInt < 6942) ∧ Ev none e 246 18 [some (.ref 633), some (.int k), some (.int (i + 1))] [] (wI M 636 (((2314 * k) + i).toNatClampNeg) (rI M 635 i)) v M' 0 0) := by
  have H : Ev none e 246 (if 2314 ≤ i then 49 else 25) [some (.ref 633), some (.int k), some (.int i)] [] M v M' 0 0 := Ev.back 3 (fun n => rfl) H
  by_cases h1 : 2314 ≤ i
  · rw [if_pos h1] at H
    have H : Ev none e 246 50 [some (.ref 633), some (.int k), some (.int i)] [.ref 633] M v M' 0 0 := Ev.back 1 (fun n => rfl) H
    have H : Ev none e 246 53 [some (.ref 633), some (.int k), some (.int i)] [.ref 638] M v M' 0 0 := Ev.back 1 (gs_3 rfl rfl (gf_u hS.1 qa_633 qr_61_8 qu_66 rfl)) H
    have H : Ev none e 246 55 [some (.ref 633), some (.int k), some (.int i)] [.int 1, .int k, .ref 638] M v M' 0 0 := Ev.back 2 (fun n => rfl) H
    obtain ⟨b2, H⟩ := Ev.bas3 rfl rfl hS.1 qa_638 qw_66 H
    obtain ⟨N3, eN3⟩ : ∃ N, N = (wI M 638 k.toNatClampNeg (vp_nar .boolean 1)) := ⟨_, rfl⟩
    have hN3 : SQ N3 := by rw [eN3]; exact hS.ki
    have H : Ev none e 246 56 [some (.ref 633), some (.int k), some (.int i)] [] N3 v M' 0 0 := by rw [eN3]; exact H
    have H : Ev none e 246 57 [some (.ref 633), some (.int k), some (.int i)] [.int 1] N3 v M' 0 0 := Ev.back 1 (fun n => rfl) H
    obtain ⟨z1, z2⟩ := Ev.retz rfl rfl H
    subst eN3
    exact Or.inl ⟨h1, b2, z1, z2⟩
  · rw [if_neg h1] at H
    have H : Ev none e 246 26 [some (.ref 633), some (.int k), some (.int i)] [.ref 633] M v M' 0 0 := Ev.back 1 (fun n => rfl) H
    have H : Ev none e 246 29 [some (.ref 633), some (.int k), some (.int i)] [.ref 636] M v M' 0 0 := Ev.back 1 (gs_3 rfl rfl (gf_u hS.1 qa_633 qr_61_6 qu_64 rfl)) H
    have H : Ev none e 246 37 [some (.ref 633), some (.int k), some (.int i)] [.ref 633, .int ((2314 * k) + i), .ref 636] M v M' 0 0 := Ev.back 6 (fun n => rfl) H
    have H : Ev none e 246 40 [some (.ref 633), some (.int k), some (.int i)] [.ref 635, .int ((2314 * k) + i), .ref 636] M v M' 0 0 := Ev.back 1 (gs_3 rfl rfl (gf_u hS.1 qa_633 qr_61_5 qu_63 rfl)) H
    have H : Ev none e 246 41 [some (.ref 633), some (.int k), some (.int i)] [.int i, .ref 635, .int ((2314 * k) + i), .ref 636] M v M' 0 0 := Ev.back 1 (fun n => rfl) H
    obtain ⟨b4, H⟩ := Ev.ial rfl rfl hS.1 qa_635 qw_63 H
    have H : Ev none e 246 42 [some (.ref 633), some (.int k), some (.int i)] [.int (rI M 635 i), .int ((2314 * k) + i), .ref 636] M v M' 0 0 := H
    obtain ⟨b5, H⟩ := Ev.ias rfl rfl hS.1 qa_636 qw_64 H
    obtain ⟨N6, eN6⟩ : ∃ N, N = (wI M 636 (((2314 * k) + i).toNatClampNeg) (rI M 635 i)) := ⟨_, rfl⟩
    have hN6 : SQ N6 := by rw [eN6]; exact hS.ki
    have H : Ev none e 246 43 [some (.ref 633), some (.int k), some (.int i)] [] N6 v M' 0 0 := by rw [eN6]; exact H
    have H : Ev none e 246 18 [some (.ref 633), some (.int k), some (.int (i + 1))] [] N6 v M' 0 0 := Ev.back 2 (fun n => rfl) H
    have HF := H
    subst eN6
    exact Or.inr (⟨h1, b4, b5, HF⟩)
theorem rre_0 {e : Nat} {M M' : Mem} {v : Option Value} {k : Int32} (hS : SQ M) (H : Ev none e 247 0 [some (.ref 633), some (.int k), none] [] M v M' 0 0) : ((G_140 (wF M 633 0 0) k 0 2) = 0 ∧ v = some (.int 0) ∧ M' = (wF M 633 0 0)) ∨ (¬ ((G_140 (wF M 633 0 0) k 0 2) = 0) ∧ (rI M 638 k) = 0 ∧ (0 ≤ k.toInt ∧ k.toInt < 3) ∧ v = some (.int 0) ∧ M' = (wF M 633 0 0)) ∨ (¬ ((G_140 (wF M 633 0 0) k 0 2) = 0) ∧ ¬ ((rI M 638 k) = 0) ∧ (0 ≤ k.toInt ∧ k.toInt < 3) ∧ Ev none e 247 27 [some (.ref 633), some (.int k), some (.int 0)] [] (wF M 633 0 0) v M' 0 0) := by
  have H : Ev none e 247 2 [some (.ref 633), some (.int k), none] [.int 0, .ref 633] M v M' 0 0 := Ev.back 2 (fun n => rfl) H
  obtain ⟨N2, eN2⟩ : ∃ N, N = (wF M 633 0 0) := ⟨_, rfl⟩
  have hN2 : SQ N2 := by rw [eN2]; exact hS.kf
  have H : Ev none e 247 5 [some (.ref 633), some (.int k), none] [] N2 v M' 0 0 := by rw [eN2]; exact Ev.pfi rfl rfl rfl hS.1 qa_633 qi_61_0 H
  have H : Ev none e 247 8 [some (.ref 633), some (.int k), none] [.int 2, .int 0, .int k] N2 v M' 0 0 := Ev.back 3 (fun n => rfl) H
  obtain ⟨e1, rfl⟩ := Ev.dpos rfl rfl H
  obtain ⟨vK3, MK3, K3, H⟩ := Ev.callb (fun n => rfl) H
  obtain ⟨pK3, qK3⟩ := g_140 hN2 K3
  rw [pK3, qK3] at H
  have H : Ev none (e1 + 1) 247 11 [some (.ref 633), some (.int k), none] [.int (G_140 N2 k 0 2)] N2 v M' 0 0 := H
  have H : Ev none (e1 + 1) 247 (if (G_140 N2 k 0 2) = 0 then 23 else 14) [some (.ref 633), some (.int k), none] [] N2 v M' 0 0 := Ev.back 1 (fun n => rfl) H
  by_cases h4 : (G_140 N2 k 0 2) = 0
  · rw [if_pos h4] at H
    have H : Ev none (e1 + 1) 247 24 [some (.ref 633), some (.int k), none] [.int 0] N2 v M' 0 0 := Ev.back 1 (fun n => rfl) H
    obtain ⟨z1, z2⟩ := Ev.retz rfl rfl H
    subst eN2
    exact Or.inl ⟨h4, z1, z2⟩
  · rw [if_neg h4] at H
    have H : Ev none (e1 + 1) 247 15 [some (.ref 633), some (.int k), none] [.ref 633] N2 v M' 0 0 := Ev.back 1 (fun n => rfl) H
    have H : Ev none (e1 + 1) 247 18 [some (.ref 633), some (.int k), none] [.ref 638] N2 v M' 0 0 := Ev.back 1 (gs_3 rfl rfl (gf_u hN2.1 qa_633 qr_61_8 qu_66 rfl)) H
    have H : Ev none (e1 + 1) 247 19 [some (.ref 633), some (.int k), none] [.int k, .ref 638] N2 v M' 0 0 := Ev.back 1 (fun n => rfl) H
    obtain ⟨b5, H⟩ := Ev.bal rfl rfl hN2.1 qa_638 qw_66 (Or.inr rfl) H
    have H : Ev none (e1 + 1) 247 20 [some (.ref 633), some (.int k), none] [.int (rI N2 638 k)] N2 v M' 0 0 := H
    rw [show rI N2 638 k = rI M 638 k from by rw [eN2]; exact rN_wF] at H
    have H : Ev none (e1 + 1) 247 (if (rI M 638 k) = 0 then 23 else 25) [some (.ref 633), some (.int k), none] [] N2 v M' 0 0 := Ev.back 1 (fun n => rfl) H
    by_cases h6 : (rI M 638 k) = 0
    · rw [if_pos h6] at H
      have H : Ev none (e1 + 1) 247 24 [some (.ref 633), some (.int k), none] [.int 0] N2 v M' 0 0 := Ev.back 1 (fun n => rfl) H
      obtain ⟨z1, z2⟩ := Ev.retz rfl rfl H
      subst eN2
      exact Or.inr (Or.inl ⟨h4, h6, b5, z1, z2⟩)
    · rw [if_neg h6] at H
      have H : Ev none (e1 + 1) 247 27 [some (.ref 633), some (.int k), some (.int 0)] [] N2 v M' 0 0 := Ev.back 2 (fun n => rfl) H
      have HF := H
      subst eN2
      exact Or.inr (Or.inr (⟨h4, h6, b5, HF⟩))
theorem rre_27 {e : Nat} {M M' : Mem} {v : Option Value} {k i : Int32} (hS : SQ M) (H : Ev none e 247 27 [some (.ref 633), some (.int k), some (.int i)] [] M v M' 0 0) : (2314 ≤ i ∧ v = some (.int 1) ∧ M' = M) ∨ (¬ (2314 ≤ i) ∧ (0 ≤ ((2314 * k) + i).toInt ∧ ((2314 * k) + i).toInt < 6942) ∧ (0 ≤ i.toInt ∧ i.toInt < 2314) ∧ Ev none e 247 27 [some (.ref 633), some (.int k), some (.int (i + 1))] [] (wI M 635 i.toNatClampNeg (rI M 636 ((2314 * k) + i))) v M' 0 0) := by
  have H : Ev none e 247 (if 2314 ≤ i then 58 else 34) [some (.ref 633), some (.int k), some (.int i)] [] M v M' 0 0 := Ev.back 3 (fun n => rfl) H
  by_cases h1 : 2314 ≤ i
  · rw [if_pos h1] at H
    have H : Ev none e 247 59 [some (.ref 633), some (.int k), some (.int i)] [.int 1] M v M' 0 0 := Ev.back 1 (fun n => rfl) H
    obtain ⟨z1, z2⟩ := Ev.retz rfl rfl H
    exact Or.inl ⟨h1, z1, z2⟩
  · rw [if_neg h1] at H
    have H : Ev none e 247 35 [some (.ref 633), some (.int k), some (.int i)] [.ref 633] M v M' 0 0 := Ev.back 1 (fun n => rfl) H
    have H : Ev none e 247 38 [some (.ref 633), some (.int k), some (.int i)] [.ref 635] M v M' 0 0 := Ev.back 1 (gs_3 rfl rfl (gf_u hS.1 qa_633 qr_61_5 qu_63 rfl)) H
    have H : Ev none e 247 40 [some (.ref 633), some (.int k), some (.int i)] [.ref 633, .int i, .ref 635] M v M' 0 0 := Ev.back 2 (fun n => rfl) H
    have H : Ev none e 247 43 [some (.ref 633), some (.int k), some (.int i)] [.ref 636, .int i, .ref 635] M v M' 0 0 := Ev.back 1 (gs_3 rfl rfl (gf_u hS.1 qa_633 qr_61_6 qu_64 rfl)) H
    have H : Ev none e 247 50 [some (.ref 633), some (.int k), some (.int i)] [.int ((2314 * k) + i), .ref 636, .int i, .ref 635] M v M' 0 0 := Ev.back 5 (fun n => rfl) H
    obtain ⟨b2, H⟩ := Ev.ial rfl rfl hS.1 qa_636 qw_64 H
    have H : Ev none e 247 51 [some (.ref 633), some (.int k), some (.int i)] [.int (rI M 636 ((2314 * k) + i)), .int i, .ref 635] M v M' 0 0 := H
    obtain ⟨b3, H⟩ := Ev.ias rfl rfl hS.1 qa_635 qw_63 H
    obtain ⟨N4, eN4⟩ : ∃ N, N = (wI M 635 i.toNatClampNeg (rI M 636 ((2314 * k) + i))) := ⟨_, rfl⟩
    have hN4 : SQ N4 := by rw [eN4]; exact hS.ki
    have H : Ev none e 247 52 [some (.ref 633), some (.int k), some (.int i)] [] N4 v M' 0 0 := by rw [eN4]; exact H
    have H : Ev none e 247 27 [some (.ref 633), some (.int k), some (.int (i + 1))] [] N4 v M' 0 0 := Ev.back 2 (fun n => rfl) H
    have HF := H
    subst eN4
    exact Or.inr (⟨h1, b2, b3, HF⟩)
theorem las_0 {e : Nat} {M M' : Mem} {v : Option Value} (hS : SQ M) (H : Ev none e 153 0 [some (.ref 633), none] [] M v M' 0 0) : Ev none e 153 2 [some (.ref 633), some (.int 0)] [] M v M' 0 0 := by
  have H : Ev none e 153 2 [some (.ref 633), some (.int 0)] [] M v M' 0 0 := Ev.back 2 (fun n => rfl) H
  have HF := H
  exact HF
theorem las_2 {e : Nat} {M M' : Mem} {v : Option Value} {i : Int32} (hS : SQ M) (H : Ev none e 153 2 [some (.ref 633), some (.int i)] [] M v M' 0 0) : (2314 ≤ i ∧ v = none ∧ M' = M) ∨ (¬ (2314 ≤ i) ∧ (0 ≤ i.toInt ∧ i.toInt < 2314) ∧ (0 ≤ i.toInt ∧ i.toInt < 2314) ∧ Ev none e 153 2 [some (.ref 633), some (.int (i + 1))] [] (wI M 637 i.toNatClampNeg (rI M 635 i)) v M' 0 0) := by
  have H : Ev none e 153 (if 2314 ≤ i then 27 else 9) [some (.ref 633), some (.int i)] [] M v M' 0 0 := Ev.back 3 (fun n => rfl) H
  by_cases h1 : 2314 ≤ i
  · rw [if_pos h1] at H
    obtain ⟨z1, z2⟩ := Ev.retb (fun n => rfl) H
    exact Or.inl ⟨h1, z1, z2⟩
  · rw [if_neg h1] at H
    have H : Ev none e 153 10 [some (.ref 633), some (.int i)] [.ref 633] M v M' 0 0 := Ev.back 1 (fun n => rfl) H
    have H : Ev none e 153 13 [some (.ref 633), some (.int i)] [.ref 637] M v M' 0 0 := Ev.back 1 (gs_3 rfl rfl (gf_u hS.1 qa_633 qr_61_7 qu_65 rfl)) H
    have H : Ev none e 153 15 [some (.ref 633), some (.int i)] [.ref 633, .int i, .ref 637] M v M' 0 0 := Ev.back 2 (fun n => rfl) H
    have H : Ev none e 153 18 [some (.ref 633), some (.int i)] [.ref 635, .int i, .ref 637] M v M' 0 0 := Ev.back 1 (gs_3 rfl rfl (gf_u hS.1 qa_633 qr_61_5 qu_63 rfl)) H
    have H : Ev none e 153 19 [some (.ref 633), some (.int i)] [.int i, .ref 635, .int i, .ref 637] M v M' 0 0 := Ev.back 1 (fun n => rfl) H
    obtain ⟨b2, H⟩ := Ev.ial rfl rfl hS.1 qa_635 qw_63 H
    have H : Ev none e 153 20 [some (.ref 633), some (.int i)] [.int (rI M 635 i), .int i, .ref 637] M v M' 0 0 := H
    obtain ⟨b3, H⟩ := Ev.ias rfl rfl hS.1 qa_637 qw_65 H
    obtain ⟨N4, eN4⟩ : ∃ N, N = (wI M 637 i.toNatClampNeg (rI M 635 i)) := ⟨_, rfl⟩
    have hN4 : SQ N4 := by rw [eN4]; exact hS.ki
    have H : Ev none e 153 21 [some (.ref 633), some (.int i)] [] N4 v M' 0 0 := by rw [eN4]; exact H
    have H : Ev none e 153 2 [some (.ref 633), some (.int (i + 1))] [] N4 v M' 0 0 := Ev.back 2 (fun n => rfl) H
    have HF := H
    subst eN4
    exact Or.inr (⟨h1, b2, b3, HF⟩)
theorem lbk_0 {e : Nat} {M M' : Mem} {v : Option Value} (hS : SQ M) (H : Ev none e 154 0 [some (.ref 633), none] [] M v M' 0 0) : Ev none e 154 2 [some (.ref 633), some (.int 0)] [] M v M' 0 0 := by
  have H : Ev none e 154 2 [some (.ref 633), some (.int 0)] [] M v M' 0 0 := Ev.back 2 (fun n => rfl) H
  have HF := H
  exact HF
theorem lbk_2 {e : Nat} {M M' : Mem} {v : Option Value} {i : Int32} (hS : SQ M) (H : Ev none e 154 2 [some (.ref 633), some (.int i)] [] M v M' 0 0) : (2314 ≤ i ∧ v = none ∧ M' = M) ∨ (¬ (2314 ≤ i) ∧ (0 ≤ i.toInt ∧ i.toInt < 2314) ∧ (0 ≤ i.toInt ∧ i.toInt < 2314) ∧ Ev none e 154 2 [some (.ref 633), some (.int (i + 1))] [] (wI M 635 i.toNatClampNeg (rI M 637 i)) v M' 0 0) := by
  have H : Ev none e 154 (if 2314 ≤ i then 27 else 9) [some (.ref 633), some (.int i)] [] M v M' 0 0 := Ev.back 3 (fun n => rfl) H
  by_cases h1 : 2314 ≤ i
  · rw [if_pos h1] at H
    obtain ⟨z1, z2⟩ := Ev.retb (fun n => rfl) H
    exact Or.inl ⟨h1, z1, z2⟩
  · rw [if_neg h1] at H
    have H : Ev none e 154 10 [some (.ref 633), some (.int i)] [.ref 633] M v M' 0 0 := Ev.back 1 (fun n => rfl) H
    have H : Ev none e 154 13 [some (.ref 633), some (.int i)] [.ref 635] M v M' 0 0 := Ev.back 1 (gs_3 rfl rfl (gf_u hS.1 qa_633 qr_61_5 qu_63 rfl)) H
    have H : Ev none e 154 15 [some (.ref 633), some (.int i)] [.ref 633, .int i, .ref 635] M v M' 0 0 := Ev.back 2 (fun n => rfl) H
    have H : Ev none e 154 18 [some (.ref 633), some (.int i)] [.ref 637, .int i, .ref 635] M v M' 0 0 := Ev.back 1 (gs_3 rfl rfl (gf_u hS.1 qa_633 qr_61_7 qu_65 rfl)) H
    have H : Ev none e 154 19 [some (.ref 633), some (.int i)] [.int i, .ref 637, .int i, .ref 635] M v M' 0 0 := Ev.back 1 (fun n => rfl) H
    obtain ⟨b2, H⟩ := Ev.ial rfl rfl hS.1 qa_637 qw_65 H
    have H : Ev none e 154 20 [some (.ref 633), some (.int i)] [.int (rI M 637 i), .int i, .ref 635] M v M' 0 0 := H
    obtain ⟨b3, H⟩ := Ev.ias rfl rfl hS.1 qa_635 qw_63 H
    obtain ⟨N4, eN4⟩ : ∃ N, N = (wI M 635 i.toNatClampNeg (rI M 637 i)) := ⟨_, rfl⟩
    have hN4 : SQ N4 := by rw [eN4]; exact hS.ki
    have H : Ev none e 154 21 [some (.ref 633), some (.int i)] [] N4 v M' 0 0 := by rw [eN4]; exact H
    have H : Ev none e 154 2 [some (.ref 633), some (.int (i + 1))] [] N4 v M' 0 0 := Ev.back 2 (fun n => rfl) H
    have HF := H
    subst eN4
    exact Or.inr (⟨h1, b2, b3, HF⟩)
