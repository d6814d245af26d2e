/-! THE CLASS'S tapeTellsPark: pieces (made by gwal4.py) -/
theorem ttp_0 {e : Nat} {M M' : Mem} {v : Option Value} {a b : Int32} (hS : SQ M) (H : Ev none e 83 0 [some (.ref 0), some (.int a), some (.int b), none] [] M v M' 0 0) : ((G_126 M a 4 16) = 0 ∧ v = some (.int 0) ∧ M' = M) ∨ (¬ ((G_126 M a 4 16) = 0) ∧ (G_126 M b 4 16) = 0 ∧ v = some (.int 0) ∧ M' = M) ∨ (¬ ((G_126 M a 4 16) = 0) ∧ ¬ ((G_126 M b 4 16) = 0) ∧ (zI M 1 1) = (a * b) ∧ Ev none e 83 37 [some (.ref 0), some (.int a), some (.int b), some (.int 0)] [] M v M' 0 0) ∨ (¬ ((G_126 M a 4 16) = 0) ∧ ¬ ((G_126 M b 4 16) = 0) ∧ ¬ ((zI M 1 1) = (a * b)) ∧ v = some (.int 0) ∧ M' = M) := by
  have H : Ev none e 83 4 [some (.ref 0), some (.int a), some (.int b), none] [.int 16, .int 4, .int a] M v M' 0 0 := Ev.back 3 (fun n => rfl) H
  obtain ⟨e1, rfl⟩ := Ev.dpos rfl rfl H
  obtain ⟨vK1, MK1, K1, H⟩ := Ev.callb (fun n => rfl) H
  obtain ⟨pK1, qK1⟩ := g_126 hS K1
  rw [pK1, qK1] at H
  have H : Ev none (e1 + 1) 83 7 [some (.ref 0), some (.int a), some (.int b), none] [.int (G_126 M a 4 16)] M v M' 0 0 := H
  have H : Ev none (e1 + 1) 83 (if (G_126 M a 4 16) = 0 then 33 else 10) [some (.ref 0), some (.int a), some (.int b), none] [] M v M' 0 0 := Ev.back 1 (fun n => rfl) H
  by_cases h2 : (G_126 M a 4 16) = 0
  · rw [if_pos h2] at H
    have H : Ev none (e1 + 1) 83 34 [some (.ref 0), some (.int a), some (.int b), none] [.int 0] M v M' 0 0 := Ev.back 1 (fun n => rfl) H
    obtain ⟨z1, z2⟩ := Ev.retz rfl rfl H
    exact Or.inl ⟨h2, z1, z2⟩
  · rw [if_neg h2] at H
    have H : Ev none (e1 + 1) 83 14 [some (.ref 0), some (.int a), some (.int b), none] [.int 16, .int 4, .int b] M v M' 0 0 := Ev.back 3 (fun n => rfl) H
    obtain ⟨vK3, MK3, K3, H⟩ := Ev.callb (fun n => rfl) H
    obtain ⟨pK3, qK3⟩ := g_126 hS K3
    rw [pK3, qK3] at H
    have H : Ev none (e1 + 1) 83 17 [some (.ref 0), some (.int a), some (.int b), none] [.int (G_126 M b 4 16)] M v M' 0 0 := H
    have H : Ev none (e1 + 1) 83 (if (G_126 M b 4 16) = 0 then 33 else 20) [some (.ref 0), some (.int a), some (.int b), none] [] M v M' 0 0 := Ev.back 1 (fun n => rfl) H
    by_cases h4 : (G_126 M b 4 16) = 0
    · rw [if_pos h4] at H
      have H : Ev none (e1 + 1) 83 34 [some (.ref 0), some (.int a), some (.int b), none] [.int 0] M v M' 0 0 := Ev.back 1 (fun n => rfl) H
      obtain ⟨z1, z2⟩ := Ev.retz rfl rfl H
      exact Or.inr (Or.inl ⟨h2, h4, z1, z2⟩)
    · rw [if_neg h4] at H
      have H : Ev none (e1 + 1) 83 21 [some (.ref 0), some (.int a), some (.int b), none] [.ref 0] M v M' 0 0 := Ev.back 1 (fun n => rfl) H
      have H : Ev none (e1 + 1) 83 24 [some (.ref 0), some (.int a), some (.int b), none] [.ref 1] M v M' 0 0 := Ev.back 1 (gs_3 rfl rfl (gf_u hS.1 qa_0 qr_0_0 qu_1 rfl)) H
      have H : Ev none (e1 + 1) 83 27 [some (.ref 0), some (.int a), some (.int b), none] [.int (zI M 1 1)] M v M' 0 0 := Ev.back 1 (gs_3 rfl rfl (gf_i hS.1 qa_1 qi_1_1 rfl)) H
      have H : Ev none (e1 + 1) 83 (if (zI M 1 1) = (a * b) then 35 else 33) [some (.ref 0), some (.int a), some (.int b), none] [] M v M' 0 0 := Ev.back 4 (fun n => rfl) H
      by_cases h5 : (zI M 1 1) = (a * b)
      · rw [if_pos h5] at H
        have H : Ev none (e1 + 1) 83 37 [some (.ref 0), some (.int a), some (.int b), some (.int 0)] [] M v M' 0 0 := Ev.back 2 (fun n => rfl) H
        have HF := H
        exact Or.inr (Or.inr (Or.inl ⟨h2, h4, h5, HF⟩))
      · rw [if_neg h5] at H
        have H : Ev none (e1 + 1) 83 34 [some (.ref 0), some (.int a), some (.int b), none] [.int 0] M v M' 0 0 := Ev.back 1 (fun n => rfl) H
        obtain ⟨z1, z2⟩ := Ev.retz rfl rfl H
        exact Or.inr (Or.inr (Or.inr (⟨h2, h4, h5, z1, z2⟩)))
theorem ttp_37 {e : Nat} {M M' : Mem} {v : Option Value} {a b k : Int32} (hS : SQ M) (H : Ev none e 83 37 [some (.ref 0), some (.int a), some (.int b), some (.int k)] [] M v M' 0 0) : ((zI M 1 1) ≤ k ∧ v = some (.int 1) ∧ M' = M) ∨ (¬ ((zI M 1 1) ≤ k) ∧ ((rI M 2 k) &&& 7) ≤ 6 ∧ (0 ≤ k.toInt ∧ k.toInt < 440) ∧ Ev none e 83 37 [some (.ref 0), some (.int a), some (.int b), some (.int (k + 1))] [] M v M' 0 0) ∨ (¬ ((zI M 1 1) ≤ k) ∧ ¬ (((rI M 2 k) &&& 7) ≤ 6) ∧ (0 ≤ k.toInt ∧ k.toInt < 440) ∧ v = some (.int 0) ∧ M' = M) := by
  have H : Ev none e 83 39 [some (.ref 0), some (.int a), some (.int b), some (.int k)] [.ref 0, .int k] M v M' 0 0 := Ev.back 2 (fun n => rfl) H
  have H : Ev none e 83 42 [some (.ref 0), some (.int a), some (.int b), some (.int k)] [.ref 1, .int k] M v M' 0 0 := Ev.back 1 (gs_3 rfl rfl (gf_u hS.1 qa_0 qr_0_0 qu_1 rfl)) H
  have H : Ev none e 83 45 [some (.ref 0), some (.int a), some (.int b), some (.int k)] [.int (zI M 1 1), .int k] M v M' 0 0 := Ev.back 1 (gs_3 rfl rfl (gf_i hS.1 qa_1 qi_1_1 rfl)) H
  have H : Ev none e 83 (if (zI M 1 1) ≤ k then 73 else 48) [some (.ref 0), some (.int a), some (.int b), some (.int k)] [] M v M' 0 0 := Ev.back 1 (fun n => rfl) H
  by_cases h1 : (zI M 1 1) ≤ k
  · rw [if_pos h1] at H
    have H : Ev none e 83 74 [some (.ref 0), some (.int a), some (.int b), some (.int k)] [.int 1] M v M' 0 0 := Ev.back 1 (fun n => rfl) H
    obtain ⟨z1, z2⟩ := Ev.retz rfl rfl H
    exact Or.inl ⟨h1, z1, z2⟩
  · rw [if_neg h1] at H
    have H : Ev none e 83 49 [some (.ref 0), some (.int a), some (.int b), some (.int k)] [.ref 0] M v M' 0 0 := Ev.back 1 (fun n => rfl) H
    have H : Ev none e 83 52 [some (.ref 0), some (.int a), some (.int b), some (.int k)] [.ref 1] M v M' 0 0 := Ev.back 1 (gs_3 rfl rfl (gf_u hS.1 qa_0 qr_0_0 qu_1 rfl)) H
    have H : Ev none e 83 55 [some (.ref 0), some (.int a), some (.int b), some (.int k)] [.ref 2] M v M' 0 0 := Ev.back 1 (gs_3 rfl rfl (gf_u hS.1 qa_1 qr_1_0 qu_2 rfl)) H
    have H : Ev none e 83 56 [some (.ref 0), some (.int a), some (.int b), some (.int k)] [.int k, .ref 2] M v M' 0 0 := Ev.back 1 (fun n => rfl) H
    obtain ⟨b2, H⟩ := Ev.ial rfl rfl hS.1 qa_2 qw_2 H
    have H : Ev none e 83 57 [some (.ref 0), some (.int a), some (.int b), some (.int k)] [.int (rI M 2 k)] M v M' 0 0 := H
    have H : Ev none e 83 (if ((rI M 2 k) &&& 7) ≤ 6 then 67 else 65) [some (.ref 0), some (.int a), some (.int b), some (.int k)] [] M v M' 0 0 := Ev.back 4 (fun n => rfl) H
    by_cases h3 : ((rI M 2 k) &&& 7) ≤ 6
    · rw [if_pos h3] at H
      have H : Ev none e 83 37 [some (.ref 0), some (.int a), some (.int b), some (.int (k + 1))] [] M v M' 0 0 := Ev.back 2 (fun n => rfl) H
      have HF := H
      exact Or.inr (Or.inl ⟨h1, h3, b2, HF⟩)
    · rw [if_neg h3] at H
      have H : Ev none e 83 66 [some (.ref 0), some (.int a), some (.int b), some (.int k)] [.int 0] M v M' 0 0 := Ev.back 1 (fun n => rfl) H
      obtain ⟨z1, z2⟩ := Ev.retz rfl rfl H
      exact Or.inr (Or.inr (⟨h1, h3, b2, z1, z2⟩))
