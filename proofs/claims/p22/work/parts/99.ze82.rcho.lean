/-! THE REFERENCE'S walking: choose: pieces (made by gref.py) -/
theorem rfs_0 {e : Nat} {M M' : Mem} {v : Option Value} {k c d : Int32} (hS : SQ M) (H : Ev none e 188 0 [some (.ref 633), some (.int k), some (.int c), some (.int d), none] [] M v M' 0 0) : Ev none e 188 3 [some (.ref 633), some (.int k), some (.int c), some (.int d), some (.int 0)] [] M v M' 0 0 := by
  have H : Ev none e 188 3 [some (.ref 633), some (.int k), some (.int c), some (.int d), some (.int 0)] [] M v M' 0 0 := Ev.back 2 (fun n => rfl) H
  have HF := H
  exact HF
theorem rfs_3 {e : Nat} {M M' : Mem} {v : Option Value} {k c d i : Int32} (hS : SQ M) (H : Ev none e 188 3 [some (.ref 633), some (.int k), some (.int c), some (.int d), some (.int i)] [] M v M' 0 0) : ((rI M 639 0) ≤ i ∧ (0 ≤ (0 : Int32).toInt ∧ (0 : Int32).toInt < 8) ∧ v = some (.int d) ∧ M' = M) ∨ (¬ ((rI M 639 0) ≤ i) ∧ (rI M 640 i) = k ∧ (0 ≤ (0 : Int32).toInt ∧ (0 : Int32).toInt < 8) ∧ (0 ≤ i.toInt ∧ i.toInt < 128) ∧ (∃ e1 v1 M1, e = e1 + 1 ∧ Ev none e1 187 0 [some (.ref 633), some (.int i), some (.int c), none, none, none, none, none] [] M v1 M1 0 0 ∧ Ev none e 188 32 [some (.ref 633), some (.int k), some (.int c), some (.int d), some (.int i)] (v1.toList ++ []) M1 v M' 0 0)) ∨ (¬ ((rI M 639 0) ≤ i) ∧ ¬ ((rI M 640 i) = k) ∧ (0 ≤ (0 : Int32).toInt ∧ (0 : Int32).toInt < 8) ∧ (0 ≤ i.toInt ∧ i.toInt < 128) ∧ Ev none e 188 3 [some (.ref 633), some (.int k), some (.int c), some (.int d), some (.int (i + 1))] [] M v M' 0 0) := by
  have H : Ev none e 188 6 [some (.ref 633), some (.int k), some (.int c), some (.int d), some (.int i)] [.ref 633, .int i] M v M' 0 0 := Ev.back 2 (fun n => rfl) H
  have H : Ev none e 188 9 [some (.ref 633), some (.int k), some (.int c), some (.int d), some (.int i)] [.ref 639, .int i] M v M' 0 0 := Ev.back 1 (gs_3 rfl rfl (gf_u hS.1 qa_633 qr_61_9 qu_67 rfl)) H
  have H : Ev none e 188 10 [some (.ref 633), some (.int k), some (.int c), some (.int d), some (.int i)] [.int 0, .ref 639, .int i] M v M' 0 0 := Ev.back 1 (fun n => rfl) H
  obtain ⟨b1, H⟩ := Ev.ial rfl rfl hS.1 qa_639 qw_67 H
  have H : Ev none e 188 11 [some (.ref 633), some (.int k), some (.int c), some (.int d), some (.int i)] [.int (rI M 639 0), .int i] M v M' 0 0 := H
  have H : Ev none e 188 (if (rI M 639 0) ≤ i then 49 else 14) [some (.ref 633), some (.int k), some (.int c), some (.int d), some (.int i)] [] M v M' 0 0 := Ev.back 1 (fun n => rfl) H
  by_cases h2 : (rI M 639 0) ≤ i
  · rw [if_pos h2] at H
    have H : Ev none e 188 50 [some (.ref 633), some (.int k), some (.int c), some (.int d), some (.int i)] [.int d] M v M' 0 0 := Ev.back 1 (fun n => rfl) H
    obtain ⟨z1, z2⟩ := Ev.retz rfl rfl H
    exact Or.inl ⟨h2, b1, z1, z2⟩
  · rw [if_neg h2] at H
    have H : Ev none e 188 15 [some (.ref 633), some (.int k), some (.int c), some (.int d), some (.int i)] [.ref 633] M v M' 0 0 := Ev.back 1 (fun n => rfl) H
    have H : Ev none e 188 18 [some (.ref 633), some (.int k), some (.int c), some (.int d), some (.int i)] [.ref 640] M v M' 0 0 := Ev.back 1 (gs_3 rfl rfl (gf_u hS.1 qa_633 qr_61_10 qu_68 rfl)) H
    have H : Ev none e 188 20 [some (.ref 633), some (.int k), some (.int c), some (.int d), some (.int i)] [.int i, .ref 640] M v M' 0 0 := Ev.back 1 (fun n => rfl) H
    obtain ⟨b3, H⟩ := Ev.ial rfl rfl hS.1 qa_640 qw_68 H
    have H : Ev none e 188 21 [some (.ref 633), some (.int k), some (.int c), some (.int d), some (.int i)] [.int (rI M 640 i)] M v M' 0 0 := H
    have H : Ev none e 188 (if (rI M 640 i) = k then 25 else 43) [some (.ref 633), some (.int k), some (.int c), some (.int d), some (.int i)] [] M v M' 0 0 := Ev.back 2 (fun n => rfl) H
    by_cases h4 : (rI M 640 i) = k
    · rw [if_pos h4] at H
      have H : Ev none e 188 29 [some (.ref 633), some (.int k), some (.int c), some (.int d), some (.int i)] [.int c, .int i, .ref 633] M v M' 0 0 := Ev.back 3 (fun n => rfl) H
      obtain ⟨e1, rfl⟩ := Ev.dpos rfl rfl H
      obtain ⟨vK5, MK5, K5, H⟩ := Ev.callb (fun n_ => gs_7 rfl rfl (show gCal (.invokevirtual 337) 11 (.int c :: .int i :: .ref 633 :: []) M = some (.inr (187, [some (.ref 633), some (.int i), some (.int c), none, none, none, none, none], [])) from by show @cond (Option ((List Value × Mem) ⊕ (Nat × Lo × List Value))) (true && gRecv M (.ref 633) 11 && gRoom [] && true) (some (.inr (187, [some (.ref 633), some (.int i), some (.int c), none, none, none, none, none], []))) none = _; rw [recv_s hS.1 qa_633 qo_61]; rfl)) H
      have K5 : Ev none e1 187 0 [some (.ref 633), some (.int i), some (.int c), none, none, none, none, none] [] M vK5 MK5 0 0 := K5
      have HF := H
      exact Or.inr (Or.inl ⟨h2, h4, b1, b3, ⟨e1, vK5, MK5, rfl, K5, HF⟩⟩)
    · rw [if_neg h4] at H
      have H : Ev none e 188 3 [some (.ref 633), some (.int k), some (.int c), some (.int d), some (.int (i + 1))] [] M v M' 0 0 := Ev.back 2 (fun n => rfl) H
      have HF := H
      exact Or.inr (Or.inr (⟨h2, h4, b1, b3, HF⟩))
theorem rfs_32 {e : Nat} {M M' : Mem} {v : Option Value} {k c d i y : Int32} (hS : SQ M) (H : Ev none e 188 32 [some (.ref 633), some (.int k), some (.int c), some (.int d), some (.int i)] [.int y] M v M' 0 0) : (y = 0 ∧ Ev none e 188 3 [some (.ref 633), some (.int k), some (.int c), some (.int d), some (.int (i + 1))] [] M v M' 0 0) ∨ (¬ (y = 0) ∧ (0 ≤ i.toInt ∧ i.toInt < 128) ∧ v = some (.int (rI M 642 i)) ∧ M' = M) := by
  have H : Ev none e 188 (if y = 0 then 43 else 35) [some (.ref 633), some (.int k), some (.int c), some (.int d), some (.int i)] [] M v M' 0 0 := Ev.back 1 (fun n => rfl) H
  by_cases h1 : y = 0
  · rw [if_pos h1] at H
    have H : Ev none e 188 3 [some (.ref 633), some (.int k), some (.int c), some (.int d), some (.int (i + 1))] [] M v M' 0 0 := Ev.back 2 (fun n => rfl) H
    have HF := H
    exact Or.inl ⟨h1, HF⟩
  · rw [if_neg h1] at H
    have H : Ev none e 188 36 [some (.ref 633), some (.int k), some (.int c), some (.int d), some (.int i)] [.ref 633] M v M' 0 0 := Ev.back 1 (fun n => rfl) H
    have H : Ev none e 188 39 [some (.ref 633), some (.int k), some (.int c), some (.int d), some (.int i)] [.ref 642] M v M' 0 0 := Ev.back 1 (gs_3 rfl rfl (gf_u hS.1 qa_633 qr_61_12 qu_70 rfl)) H
    have H : Ev none e 188 41 [some (.ref 633), some (.int k), some (.int c), some (.int d), some (.int i)] [.int i, .ref 642] M v M' 0 0 := Ev.back 1 (fun n => rfl) H
    obtain ⟨b2, H⟩ := Ev.ial rfl rfl hS.1 qa_642 qw_70 H
    have H : Ev none e 188 42 [some (.ref 633), some (.int k), some (.int c), some (.int d), some (.int i)] [.int (rI M 642 i)] M v M' 0 0 := H
    obtain ⟨z1, z2⟩ := Ev.retz rfl rfl H
    exact Or.inr (⟨h1, b2, z1, z2⟩)
theorem rfd_0 {e : Nat} {M M' : Mem} {v : Option Value} {tx k : Int32} (hS : SQ M) (H : Ev none e 172 0 [some (.ref 633), some (.int tx), some (.int k), none] [] M v M' 0 0) : Ev none e 172 5 [some (.ref 633), some (.int tx), some (.int k), some (.int (16 * tx))] [] M v M' 0 0 := by
  have H : Ev none e 172 5 [some (.ref 633), some (.int tx), some (.int k), some (.int (16 * tx))] [] M v M' 0 0 := Ev.back 4 (fun n => rfl) H
  have HF := H
  exact HF
theorem rfd_5 {e : Nat} {M M' : Mem} {v : Option Value} {tx k i : Int32} (hS : SQ M) (H : Ev none e 172 5 [some (.ref 633), some (.int tx), some (.int k), some (.int i)] [] M v M' 0 0) : (((16 * tx) + (rI M 639 tx)) ≤ i ∧ (0 ≤ tx.toInt ∧ tx.toInt < 8) ∧ v = some (.int (-1)) ∧ M' = M) ∨ (¬ (((16 * tx) + (rI M 639 tx)) ≤ i) ∧ (rI M 640 i) = k ∧ (0 ≤ tx.toInt ∧ tx.toInt < 8) ∧ (0 ≤ i.toInt ∧ i.toInt < 128) ∧ v = some (.int i) ∧ M' = M) ∨ (¬ (((16 * tx) + (rI M 639 tx)) ≤ i) ∧ ¬ ((rI M 640 i) = k) ∧ (0 ≤ tx.toInt ∧ tx.toInt < 8) ∧ (0 ≤ i.toInt ∧ i.toInt < 128) ∧ Ev none e 172 5 [some (.ref 633), some (.int tx), some (.int k), some (.int (i + 1))] [] M v M' 0 0) := by
  have H : Ev none e 172 11 [some (.ref 633), some (.int tx), some (.int k), some (.int i)] [.ref 633, .int (16 * tx), .int i] M v M' 0 0 := Ev.back 5 (fun n => rfl) H
  have H : Ev none e 172 14 [some (.ref 633), some (.int tx), some (.int k), some (.int i)] [.ref 639, .int (16 * tx), .int i] M v M' 0 0 := Ev.back 1 (gs_3 rfl rfl (gf_u hS.1 qa_633 qr_61_9 qu_67 rfl)) H
  have H : Ev none e 172 15 [some (.ref 633), some (.int tx), some (.int k), some (.int i)] [.int tx, .ref 639, .int (16 * tx), .int i] M v M' 0 0 := Ev.back 1 (fun n => rfl) H
  obtain ⟨b1, H⟩ := Ev.ial rfl rfl hS.1 qa_639 qw_67 H
  have H : Ev none e 172 16 [some (.ref 633), some (.int tx), some (.int k), some (.int i)] [.int (rI M 639 tx), .int (16 * tx), .int i] M v M' 0 0 := H
  have H : Ev none e 172 (if ((16 * tx) + (rI M 639 tx)) ≤ i then 38 else 20) [some (.ref 633), some (.int tx), some (.int k), some (.int i)] [] M v M' 0 0 := Ev.back 2 (fun n => rfl) H
  by_cases h2 : ((16 * tx) + (rI M 639 tx)) ≤ i
  · rw [if_pos h2] at H
    have H : Ev none e 172 39 [some (.ref 633), some (.int tx), some (.int k), some (.int i)] [.int (-1)] M v M' 0 0 := Ev.back 1 (fun n => rfl) H
    obtain ⟨z1, z2⟩ := Ev.retz rfl rfl H
    exact Or.inl ⟨h2, b1, z1, z2⟩
  · rw [if_neg h2] at H
    have H : Ev none e 172 21 [some (.ref 633), some (.int tx), some (.int k), some (.int i)] [.ref 633] M v M' 0 0 := Ev.back 1 (fun n => rfl) H
    have H : Ev none e 172 24 [some (.ref 633), some (.int tx), some (.int k), some (.int i)] [.ref 640] M v M' 0 0 := Ev.back 1 (gs_3 rfl rfl (gf_u hS.1 qa_633 qr_61_10 qu_68 rfl)) H
    have H : Ev none e 172 25 [some (.ref 633), some (.int tx), some (.int k), some (.int i)] [.int i, .ref 640] M v M' 0 0 := Ev.back 1 (fun n => rfl) H
    obtain ⟨b3, H⟩ := Ev.ial rfl rfl hS.1 qa_640 qw_68 H
    have H : Ev none e 172 26 [some (.ref 633), some (.int tx), some (.int k), some (.int i)] [.int (rI M 640 i)] M v M' 0 0 := H
    have H : Ev none e 172 (if (rI M 640 i) = k then 30 else 32) [some (.ref 633), some (.int tx), some (.int k), some (.int i)] [] M v M' 0 0 := Ev.back 2 (fun n => rfl) H
    by_cases h4 : (rI M 640 i) = k
    · rw [if_pos h4] at H
      have H : Ev none e 172 31 [some (.ref 633), some (.int tx), some (.int k), some (.int i)] [.int i] M v M' 0 0 := Ev.back 1 (fun n => rfl) H
      obtain ⟨z1, z2⟩ := Ev.retz rfl rfl H
      exact Or.inr (Or.inl ⟨h2, h4, b1, b3, z1, z2⟩)
    · rw [if_neg h4] at H
      have H : Ev none e 172 5 [some (.ref 633), some (.int tx), some (.int k), some (.int (i + 1))] [] M v M' 0 0 := Ev.back 2 (fun n => rfl) H
      have HF := H
      exact Or.inr (Or.inr (⟨h2, h4, b1, b3, HF⟩))
theorem rme0_0 {e : Nat} {M M' : Mem} {v : Option Value} {c d : Int32} (hS : SQ M) (H : Ev none e 197 0 [some (.ref 633), some (.int c), some (.int d), some (.int 0)] [] M v M' 0 0) : ((G_149 M c) = 0 ∧ v = some (.int 0) ∧ M' = M) ∨ (¬ ((G_149 M c) = 0) ∧ (G_150 M c) = 0 ∧ v = some (.int (((zI M 633 28) - (G_146 M c 3)) / 10)) ∧ M' = M) ∨ (¬ ((G_149 M c) = 0) ∧ ¬ ((G_150 M c) = 0) ∧ v = some (.int 0) ∧ M' = M) := by
  have H : Ev none e 197 42 [some (.ref 633), some (.int c), some (.int d), some (.int 0)] [.int c, .ref 633] M v M' 0 0 := Ev.back 4 (fun n => rfl) H
  obtain ⟨e1, rfl⟩ := Ev.dpos rfl rfl H
  obtain ⟨vK1, MK1, K1, H⟩ := Ev.callb (fun n_ => gs_7 rfl rfl (show gCal (.invokevirtual 356) 11 (.int c :: .ref 633 :: []) M = some (.inr (149, [some (.ref 633), some (.int c)], [])) from by show @cond (Option ((List Value × Mem) ⊕ (Nat × Lo × List Value))) (true && gRecv M (.ref 633) 11 && gRoom [] && true) (some (.inr (149, [some (.ref 633), some (.int c)], []))) none = _; rw [recv_s hS.1 qa_633 qo_61]; rfl)) H
  obtain ⟨pK1, qK1⟩ := g_149 hS K1
  rw [pK1, qK1] at H
  have H : Ev none (e1 + 1) 197 45 [some (.ref 633), some (.int c), some (.int d), some (.int 0)] [.int (G_149 M c)] M v M' 0 0 := H
  have H : Ev none (e1 + 1) 197 (if (G_149 M c) = 0 then 73 else 48) [some (.ref 633), some (.int c), some (.int d), some (.int 0)] [] M v M' 0 0 := Ev.back 1 (fun n => rfl) H
  by_cases h2 : (G_149 M c) = 0
  · rw [if_pos h2] at H
    have H : Ev none (e1 + 1) 197 74 [some (.ref 633), some (.int c), some (.int d), some (.int 0)] [.int 0] M v M' 0 0 := Ev.back 1 (fun n => rfl) H
    obtain ⟨z1, z2⟩ := Ev.retz rfl rfl H
    exact Or.inl ⟨h2, z1, z2⟩
  · rw [if_neg h2] at H
    have H : Ev none (e1 + 1) 197 50 [some (.ref 633), some (.int c), some (.int d), some (.int 0)] [.int c, .ref 633] M v M' 0 0 := Ev.back 2 (fun n => rfl) H
    obtain ⟨vK3, MK3, K3, H⟩ := Ev.callb (fun n_ => gs_7 rfl rfl (show gCal (.invokevirtual 140) 11 (.int c :: .ref 633 :: []) M = some (.inr (150, [some (.ref 633), some (.int c)], [])) from by show @cond (Option ((List Value × Mem) ⊕ (Nat × Lo × List Value))) (true && gRecv M (.ref 633) 11 && gRoom [] && true) (some (.inr (150, [some (.ref 633), some (.int c)], []))) none = _; rw [recv_s hS.1 qa_633 qo_61]; rfl)) H
    obtain ⟨pK3, qK3⟩ := g_150 hS K3
    rw [pK3, qK3] at H
    have H : Ev none (e1 + 1) 197 53 [some (.ref 633), some (.int c), some (.int d), some (.int 0)] [.int (G_150 M c)] M v M' 0 0 := H
    have H : Ev none (e1 + 1) 197 (if (G_150 M c) = 0 then 56 else 73) [some (.ref 633), some (.int c), some (.int d), some (.int 0)] [] M v M' 0 0 := Ev.back 1 (fun n => rfl) H
    by_cases h4 : (G_150 M c) = 0
    · rw [if_pos h4] at H
      have H : Ev none (e1 + 1) 197 57 [some (.ref 633), some (.int c), some (.int d), some (.int 0)] [.ref 633] M v M' 0 0 := Ev.back 1 (fun n => rfl) H
      have H : Ev none (e1 + 1) 197 60 [some (.ref 633), some (.int c), some (.int d), some (.int 0)] [.int (zI M 633 28)] M v M' 0 0 := Ev.back 1 (gs_3 rfl rfl (gf_i hS.1 qa_633 qi_61_28 rfl)) H
      have H : Ev none (e1 + 1) 197 63 [some (.ref 633), some (.int c), some (.int d), some (.int 0)] [.int 3, .int c, .ref 633, .int (zI M 633 28)] M v M' 0 0 := Ev.back 3 (fun n => rfl) H
      obtain ⟨vK5, MK5, K5, H⟩ := Ev.callb (fun n_ => gs_7 rfl rfl (show gCal (.invokevirtual 136) 11 (.int 3 :: .int c :: .ref 633 :: [.int (zI M 633 28)]) M = some (.inr (146, [some (.ref 633), some (.int c), some (.int 3)], [.int (zI M 633 28)])) from by show @cond (Option ((List Value × Mem) ⊕ (Nat × Lo × List Value))) (true && gRecv M (.ref 633) 11 && gRoom [.int (zI M 633 28)] && true) (some (.inr (146, [some (.ref 633), some (.int c), some (.int 3)], [.int (zI M 633 28)]))) none = _; rw [recv_s hS.1 qa_633 qo_61]; rfl)) H
      obtain ⟨pK5, qK5⟩ := g_146 hS K5
      rw [pK5, qK5] at H
      have H : Ev none (e1 + 1) 197 66 [some (.ref 633), some (.int c), some (.int d), some (.int 0)] [.int (G_146 M c 3), .int (zI M 633 28)] M v M' 0 0 := H
      have H : Ev none (e1 + 1) 197 74 [some (.ref 633), some (.int c), some (.int d), some (.int 0)] [.int (((zI M 633 28) - (G_146 M c 3)) / 10)] M v M' 0 0 := Ev.back 4 (fun n => rfl) H
      obtain ⟨z1, z2⟩ := Ev.retz rfl rfl H
      exact Or.inr (Or.inl ⟨h2, h4, z1, z2⟩)
    · rw [if_neg h4] at H
      have H : Ev none (e1 + 1) 197 74 [some (.ref 633), some (.int c), some (.int d), some (.int 0)] [.int 0] M v M' 0 0 := Ev.back 1 (fun n => rfl) H
      obtain ⟨z1, z2⟩ := Ev.retz rfl rfl H
      exact Or.inr (Or.inr (⟨h2, h4, z1, z2⟩))
theorem rme1_0 {e : Nat} {M M' : Mem} {v : Option Value} {c d : Int32} (hS : SQ M) (H : Ev none e 197 0 [some (.ref 633), some (.int c), some (.int d), some (.int 1)] [] M v M' 0 0) : v = some (.int ((G_146 M c 4) / 10)) ∧ M' = M := by
  have H : Ev none e 197 78 [some (.ref 633), some (.int c), some (.int d), some (.int 1)] [.int 4, .int c, .ref 633] M v M' 0 0 := Ev.back 5 (fun n => rfl) H
  obtain ⟨e1, rfl⟩ := Ev.dpos rfl rfl H
  obtain ⟨vK1, MK1, K1, H⟩ := Ev.callb (fun n_ => gs_7 rfl rfl (show gCal (.invokevirtual 136) 11 (.int 4 :: .int c :: .ref 633 :: []) M = some (.inr (146, [some (.ref 633), some (.int c), some (.int 4)], [])) from by show @cond (Option ((List Value × Mem) ⊕ (Nat × Lo × List Value))) (true && gRecv M (.ref 633) 11 && gRoom [] && true) (some (.inr (146, [some (.ref 633), some (.int c), some (.int 4)], []))) none = _; rw [recv_s hS.1 qa_633 qo_61]; rfl)) H
  obtain ⟨pK1, qK1⟩ := g_146 hS K1
  rw [pK1, qK1] at H
  have H : Ev none (e1 + 1) 197 81 [some (.ref 633), some (.int c), some (.int d), some (.int 1)] [.int (G_146 M c 4)] M v M' 0 0 := H
  have H : Ev none (e1 + 1) 197 84 [some (.ref 633), some (.int c), some (.int d), some (.int 1)] [.int ((G_146 M c 4) / 10)] M v M' 0 0 := Ev.back 2 (fun n => rfl) H
  obtain ⟨z1, z2⟩ := Ev.retz rfl rfl H
  exact ⟨z1, z2⟩
theorem rme2_0 {e : Nat} {M M' : Mem} {v : Option Value} {c d : Int32} (hS : SQ M) (H : Ev none e 197 0 [some (.ref 633), some (.int c), some (.int d), some (.int 2)] [] M v M' 0 0) : v = some (.int (G_141 M ((G_146 M c 2) - (G_146 M (zI M 633 34) 2)))) ∧ M' = M := by
  have H : Ev none e 197 88 [some (.ref 633), some (.int c), some (.int d), some (.int 2)] [.int 2, .int c, .ref 633] M v M' 0 0 := Ev.back 5 (fun n => rfl) H
  obtain ⟨e1, rfl⟩ := Ev.dpos rfl rfl H
  obtain ⟨vK1, MK1, K1, H⟩ := Ev.callb (fun n_ => gs_7 rfl rfl (show gCal (.invokevirtual 136) 11 (.int 2 :: .int c :: .ref 633 :: []) M = some (.inr (146, [some (.ref 633), some (.int c), some (.int 2)], [])) from by show @cond (Option ((List Value × Mem) ⊕ (Nat × Lo × List Value))) (true && gRecv M (.ref 633) 11 && gRoom [] && true) (some (.inr (146, [some (.ref 633), some (.int c), some (.int 2)], []))) none = _; rw [recv_s hS.1 qa_633 qo_61]; rfl)) H
  obtain ⟨pK1, qK1⟩ := g_146 hS K1
  rw [pK1, qK1] at H
  have H : Ev none (e1 + 1) 197 91 [some (.ref 633), some (.int c), some (.int d), some (.int 2)] [.int (G_146 M c 2)] M v M' 0 0 := H
  have H : Ev none (e1 + 1) 197 93 [some (.ref 633), some (.int c), some (.int d), some (.int 2)] [.ref 633, .ref 633, .int (G_146 M c 2)] M v M' 0 0 := Ev.back 2 (fun n => rfl) H
  have H : Ev none (e1 + 1) 197 96 [some (.ref 633), some (.int c), some (.int d), some (.int 2)] [.int (zI M 633 34), .ref 633, .int (G_146 M c 2)] M v M' 0 0 := Ev.back 1 (gs_3 rfl rfl (gf_i hS.1 qa_633 qi_61_34 rfl)) H
  have H : Ev none (e1 + 1) 197 97 [some (.ref 633), some (.int c), some (.int d), some (.int 2)] [.int 2, .int (zI M 633 34), .ref 633, .int (G_146 M c 2)] M v M' 0 0 := Ev.back 1 (fun n => rfl) H
  obtain ⟨vK2, MK2, K2, H⟩ := Ev.callb (fun n_ => gs_7 rfl rfl (show gCal (.invokevirtual 136) 11 (.int 2 :: .int (zI M 633 34) :: .ref 633 :: [.int (G_146 M c 2)]) M = some (.inr (146, [some (.ref 633), some (.int (zI M 633 34)), some (.int 2)], [.int (G_146 M c 2)])) from by show @cond (Option ((List Value × Mem) ⊕ (Nat × Lo × List Value))) (true && gRecv M (.ref 633) 11 && gRoom [.int (G_146 M c 2)] && true) (some (.inr (146, [some (.ref 633), some (.int (zI M 633 34)), some (.int 2)], [.int (G_146 M c 2)]))) none = _; rw [recv_s hS.1 qa_633 qo_61]; rfl)) H
  obtain ⟨pK2, qK2⟩ := g_146 hS K2
  rw [pK2, qK2] at H
  have H : Ev none (e1 + 1) 197 100 [some (.ref 633), some (.int c), some (.int d), some (.int 2)] [.int (G_146 M (zI M 633 34) 2), .int (G_146 M c 2)] M v M' 0 0 := H
  have H : Ev none (e1 + 1) 197 101 [some (.ref 633), some (.int c), some (.int d), some (.int 2)] [.int ((G_146 M c 2) - (G_146 M (zI M 633 34) 2))] M v M' 0 0 := Ev.back 1 (fun n => rfl) H
  obtain ⟨vK3, MK3, K3, H⟩ := Ev.callb (fun n => rfl) H
  obtain ⟨pK3, qK3⟩ := g_141 hS K3
  rw [pK3, qK3] at H
  have H : Ev none (e1 + 1) 197 104 [some (.ref 633), some (.int c), some (.int d), some (.int 2)] [.int (G_141 M ((G_146 M c 2) - (G_146 M (zI M 633 34) 2)))] M v M' 0 0 := H
  obtain ⟨z1, z2⟩ := Ev.retz rfl rfl H
  exact ⟨z1, z2⟩
theorem rme3_0 {e : Nat} {M M' : Mem} {v : Option Value} {c d : Int32} (hS : SQ M) (H : Ev none e 197 0 [some (.ref 633), some (.int c), some (.int d), some (.int 3)] [] M v M' 0 0) : ((zI M 633 39) = 0 ∧ (∃ e1 v1 M1, e = e1 + 1 ∧ Ev none e1 198 0 [some (.ref 633), some (.int c), none, none] [] M v1 M1 0 0 ∧ Ev none e 197 121 [some (.ref 633), some (.int c), some (.int d), some (.int 3)] (v1.toList ++ []) M1 v M' 0 0)) ∨ (¬ ((zI M 633 39) = 0) ∧ v = some (.int 0) ∧ M' = M) := by
  have H : Ev none e 197 106 [some (.ref 633), some (.int c), some (.int d), some (.int 3)] [.ref 633] M v M' 0 0 := Ev.back 3 (fun n => rfl) H
  have H : Ev none e 197 109 [some (.ref 633), some (.int c), some (.int d), some (.int 3)] [.int (zI M 633 39)] M v M' 0 0 := Ev.back 1 (gs_3 rfl rfl (gf_i hS.1 qa_633 qi_61_39 rfl)) H
  have H : Ev none e 197 (if (zI M 633 39) = 0 then 116 else 112) [some (.ref 633), some (.int c), some (.int d), some (.int 3)] [] M v M' 0 0 := Ev.back 1 (fun n => rfl) H
  by_cases h1 : (zI M 633 39) = 0
  · rw [if_pos h1] at H
    have H : Ev none e 197 118 [some (.ref 633), some (.int c), some (.int d), some (.int 3)] [.int c, .ref 633] M v M' 0 0 := Ev.back 2 (fun n => rfl) H
    obtain ⟨e1, rfl⟩ := Ev.dpos rfl rfl H
    obtain ⟨vK2, MK2, K2, H⟩ := Ev.callb (fun n_ => gs_7 rfl rfl (show gCal (.invokevirtual 366) 11 (.int c :: .ref 633 :: []) M = some (.inr (198, [some (.ref 633), some (.int c), none, none], [])) from by show @cond (Option ((List Value × Mem) ⊕ (Nat × Lo × List Value))) (true && gRecv M (.ref 633) 11 && gRoom [] && true) (some (.inr (198, [some (.ref 633), some (.int c), none, none], []))) none = _; rw [recv_s hS.1 qa_633 qo_61]; rfl)) H
    have K2 : Ev none e1 198 0 [some (.ref 633), some (.int c), none, none] [] M vK2 MK2 0 0 := K2
    have HF := H
    exact Or.inl ⟨h1, ⟨e1, vK2, MK2, rfl, K2, HF⟩⟩
  · rw [if_neg h1] at H
    have H : Ev none e 197 121 [some (.ref 633), some (.int c), some (.int d), some (.int 3)] [.int 0] M v M' 0 0 := Ev.back 2 (fun n => rfl) H
    obtain ⟨z1, z2⟩ := Ev.retz rfl rfl H
    exact Or.inr (⟨h1, z1, z2⟩)
theorem rme4_0 {e : Nat} {M M' : Mem} {v : Option Value} {c d : Int32} (hS : SQ M) (H : Ev none e 197 0 [some (.ref 633), some (.int c), some (.int d), some (.int 4)] [] M v M' 0 0) : ((zI M 633 37) < 0 ∧ v = some (.int 0) ∧ M' = M) ∨ (¬ ((zI M 633 37) < 0) ∧ (zI M 633 37) = d ∧ v = some (.int 0) ∧ M' = M) ∨ (¬ ((zI M 633 37) < 0) ∧ ¬ ((zI M 633 37) = d) ∧ v = some (.int 1) ∧ M' = M) := by
  have H : Ev none e 197 123 [some (.ref 633), some (.int c), some (.int d), some (.int 4)] [.ref 633] M v M' 0 0 := Ev.back 3 (fun n => rfl) H
  have H : Ev none e 197 126 [some (.ref 633), some (.int c), some (.int d), some (.int 4)] [.int (zI M 633 37)] M v M' 0 0 := Ev.back 1 (gs_3 rfl rfl (gf_i hS.1 qa_633 qi_61_37 rfl)) H
  have H : Ev none e 197 (if (zI M 633 37) < 0 then 141 else 129) [some (.ref 633), some (.int c), some (.int d), some (.int 4)] [] M v M' 0 0 := Ev.back 1 (fun n => rfl) H
  by_cases h1 : (zI M 633 37) < 0
  · rw [if_pos h1] at H
    have H : Ev none e 197 142 [some (.ref 633), some (.int c), some (.int d), some (.int 4)] [.int 0] M v M' 0 0 := Ev.back 1 (fun n => rfl) H
    obtain ⟨z1, z2⟩ := Ev.retz rfl rfl H
    exact Or.inl ⟨h1, z1, z2⟩
  · rw [if_neg h1] at H
    have H : Ev none e 197 130 [some (.ref 633), some (.int c), some (.int d), some (.int 4)] [.ref 633] M v M' 0 0 := Ev.back 1 (fun n => rfl) H
    have H : Ev none e 197 133 [some (.ref 633), some (.int c), some (.int d), some (.int 4)] [.int (zI M 633 37)] M v M' 0 0 := Ev.back 1 (gs_3 rfl rfl (gf_i hS.1 qa_633 qi_61_37 rfl)) H
    have H : Ev none e 197 (if (zI M 633 37) = d then 141 else 137) [some (.ref 633), some (.int c), some (.int d), some (.int 4)] [] M v M' 0 0 := Ev.back 2 (fun n => rfl) H
    by_cases h2 : (zI M 633 37) = d
    · rw [if_pos h2] at H
      have H : Ev none e 197 142 [some (.ref 633), some (.int c), some (.int d), some (.int 4)] [.int 0] M v M' 0 0 := Ev.back 1 (fun n => rfl) H
      obtain ⟨z1, z2⟩ := Ev.retz rfl rfl H
      exact Or.inr (Or.inl ⟨h1, h2, z1, z2⟩)
    · rw [if_neg h2] at H
      have H : Ev none e 197 142 [some (.ref 633), some (.int c), some (.int d), some (.int 4)] [.int 1] M v M' 0 0 := Ev.back 2 (fun n => rfl) H
      obtain ⟨z1, z2⟩ := Ev.retz rfl rfl H
      exact Or.inr (Or.inr (⟨h1, h2, z1, z2⟩))
theorem rme5_0 {e : Nat} {M M' : Mem} {v : Option Value} {c d : Int32} (hS : SQ M) (H : Ev none e 197 0 [some (.ref 633), some (.int c), some (.int d), some (.int 5)] [] M v M' 0 0) : (c = (zI M 633 38) ∧ v = some (.int 1) ∧ M' = M) ∨ (¬ (c = (zI M 633 38)) ∧ v = some (.int 0) ∧ M' = M) := by
  have H : Ev none e 197 145 [some (.ref 633), some (.int c), some (.int d), some (.int 5)] [.ref 633, .int c] M v M' 0 0 := Ev.back 4 (fun n => rfl) H
  have H : Ev none e 197 148 [some (.ref 633), some (.int c), some (.int d), some (.int 5)] [.int (zI M 633 38), .int c] M v M' 0 0 := Ev.back 1 (gs_3 rfl rfl (gf_i hS.1 qa_633 qi_61_38 rfl)) H
  have H : Ev none e 197 (if c = (zI M 633 38) then 151 else 155) [some (.ref 633), some (.int c), some (.int d), some (.int 5)] [] M v M' 0 0 := Ev.back 1 (fun n => rfl) H
  by_cases h1 : c = (zI M 633 38)
  · rw [if_pos h1] at H
    have H : Ev none e 197 156 [some (.ref 633), some (.int c), some (.int d), some (.int 5)] [.int 1] M v M' 0 0 := Ev.back 2 (fun n => rfl) H
    obtain ⟨z1, z2⟩ := Ev.retz rfl rfl H
    exact Or.inl ⟨h1, z1, z2⟩
  · rw [if_neg h1] at H
    have H : Ev none e 197 156 [some (.ref 633), some (.int c), some (.int d), some (.int 5)] [.int 0] M v M' 0 0 := Ev.back 1 (fun n => rfl) H
    obtain ⟨z1, z2⟩ := Ev.retz rfl rfl H
    exact Or.inr (⟨h1, z1, z2⟩)
theorem rme6_0 {e : Nat} {M M' : Mem} {v : Option Value} {c d : Int32} (hS : SQ M) (H : Ev none e 197 0 [some (.ref 633), some (.int c), some (.int d), some (.int 6)] [] M v M' 0 0) : (∃ e1 v1 M1, e = e1 + 1 ∧ Ev none e1 199 0 [some (.ref 633), some (.int c), some (.int d), none, none, none, none] [] M v1 M1 0 0 ∧ Ev none e 197 163 [some (.ref 633), some (.int c), some (.int d), some (.int 6)] (v1.toList ++ []) M1 v M' 0 0) := by
  have H : Ev none e 197 160 [some (.ref 633), some (.int c), some (.int d), some (.int 6)] [.int d, .int c, .ref 633] M v M' 0 0 := Ev.back 5 (fun n => rfl) H
  obtain ⟨e1, rfl⟩ := Ev.dpos rfl rfl H
  obtain ⟨vK1, MK1, K1, H⟩ := Ev.callb (fun n_ => gs_7 rfl rfl (show gCal (.invokevirtual 375) 11 (.int d :: .int c :: .ref 633 :: []) M = some (.inr (199, [some (.ref 633), some (.int c), some (.int d), none, none, none, none], [])) from by show @cond (Option ((List Value × Mem) ⊕ (Nat × Lo × List Value))) (true && gRecv M (.ref 633) 11 && gRoom [] && true) (some (.inr (199, [some (.ref 633), some (.int c), some (.int d), none, none, none, none], []))) none = _; rw [recv_s hS.1 qa_633 qo_61]; rfl)) H
  have K1 : Ev none e1 199 0 [some (.ref 633), some (.int c), some (.int d), none, none, none, none] [] M vK1 MK1 0 0 := K1
  have HF := H
  exact ⟨e1, vK1, MK1, rfl, K1, HF⟩
theorem rme3_121 {e : Nat} {M M' : Mem} {v : Option Value} {c d y : Int32} (hS : SQ M) (H : Ev none e 197 121 [some (.ref 633), some (.int c), some (.int d), some (.int 3)] [.int y] M v M' 0 0) : v = some (.int y) ∧ M' = M := by
  obtain ⟨z1, z2⟩ := Ev.retz rfl rfl H
  exact ⟨z1, z2⟩
theorem rme6_163 {e : Nat} {M M' : Mem} {v : Option Value} {c d y : Int32} (hS : SQ M) (H : Ev none e 197 163 [some (.ref 633), some (.int c), some (.int d), some (.int 6)] [.int y] M v M' 0 0) : v = some (.int y) ∧ M' = M := by
  obtain ⟨z1, z2⟩ := Ev.retz rfl rfl H
  exact ⟨z1, z2⟩
theorem rcr_0 {e : Nat} {M M' : Mem} {v : Option Value} {c : Int32} (hS : SQ M) (H : Ev none e 198 0 [some (.ref 633), some (.int c), none, none] [] M v M' 0 0) : Ev none e 198 4 [some (.ref 633), some (.int c), some (.int 0), some (.int 0)] [] M v M' 0 0 := by
  have H : Ev none e 198 4 [some (.ref 633), some (.int c), some (.int 0), some (.int 0)] [] M v M' 0 0 := Ev.back 4 (fun n => rfl) H
  have HF := H
  exact HF
theorem rcr_4 {e : Nat} {M M' : Mem} {v : Option Value} {c nn k : Int32} (hS : SQ M) (H : Ev none e 198 4 [some (.ref 633), some (.int c), some (.int nn), some (.int k)] [] M v M' 0 0) : ((rI M 635 157) ≤ k ∧ (0 ≤ (157 : Int32).toInt ∧ (157 : Int32).toInt < 2314) ∧ v = some (.int nn) ∧ M' = M) ∨ (¬ ((rI M 635 157) ≤ k) ∧ (rI M 635 (158 + (6 * k))) = c ∧ (0 ≤ (157 : Int32).toInt ∧ (157 : Int32).toInt < 2314) ∧ (0 ≤ (158 + (6 * k)).toInt ∧ (158 + (6 * k)).toInt < 2314) ∧ Ev none e 198 4 [some (.ref 633), some (.int c), some (.int (nn + 1)), some (.int (k + 1))] [] M v M' 0 0) ∨ (¬ ((rI M 635 157) ≤ k) ∧ ¬ ((rI M 635 (158 + (6 * k))) = c) ∧ (0 ≤ (157 : Int32).toInt ∧ (157 : Int32).toInt < 2314) ∧ (0 ≤ (158 + (6 * k)).toInt ∧ (158 + (6 * k)).toInt < 2314) ∧ Ev none e 198 4 [some (.ref 633), some (.int c), some (.int (nn + 0)), some (.int (k + 1))] [] M v M' 0 0) := by
  have H : Ev none e 198 6 [some (.ref 633), some (.int c), some (.int nn), some (.int k)] [.ref 633, .int k] M v M' 0 0 := Ev.back 2 (fun n => rfl) H
  have H : Ev none e 198 9 [some (.ref 633), some (.int c), some (.int nn), some (.int k)] [.ref 635, .int k] M v M' 0 0 := Ev.back 1 (gs_3 rfl rfl (gf_u hS.1 qa_633 qr_61_5 qu_63 rfl)) H
  have H : Ev none e 198 12 [some (.ref 633), some (.int c), some (.int nn), some (.int k)] [.int 157, .ref 635, .int k] M v M' 0 0 := Ev.back 1 (fun n => rfl) H
  obtain ⟨b1, H⟩ := Ev.ial rfl rfl hS.1 qa_635 qw_63 H
  have H : Ev none e 198 13 [some (.ref 633), some (.int c), some (.int nn), some (.int k)] [.int (rI M 635 157), .int k] M v M' 0 0 := H
  have H : Ev none e 198 (if (rI M 635 157) ≤ k then 47 else 16) [some (.ref 633), some (.int c), some (.int nn), some (.int k)] [] M v M' 0 0 := Ev.back 1 (fun n => rfl) H
  by_cases h2 : (rI M 635 157) ≤ k
  · rw [if_pos h2] at H
    have H : Ev none e 198 48 [some (.ref 633), some (.int c), some (.int nn), some (.int k)] [.int nn] M v M' 0 0 := Ev.back 1 (fun n => rfl) H
    obtain ⟨z1, z2⟩ := Ev.retz rfl rfl H
    exact Or.inl ⟨h2, b1, z1, z2⟩
  · rw [if_neg h2] at H
    have H : Ev none e 198 18 [some (.ref 633), some (.int c), some (.int nn), some (.int k)] [.ref 633, .int nn] M v M' 0 0 := Ev.back 2 (fun n => rfl) H
    have H : Ev none e 198 21 [some (.ref 633), some (.int c), some (.int nn), some (.int k)] [.ref 635, .int nn] M v M' 0 0 := Ev.back 1 (gs_3 rfl rfl (gf_u hS.1 qa_633 qr_61_5 qu_63 rfl)) H
    have H : Ev none e 198 29 [some (.ref 633), some (.int c), some (.int nn), some (.int k)] [.int (158 + (6 * k)), .ref 635, .int nn] M v M' 0 0 := Ev.back 5 (fun n => rfl) H
    obtain ⟨b3, H⟩ := Ev.ial rfl rfl hS.1 qa_635 qw_63 H
    have H : Ev none e 198 30 [some (.ref 633), some (.int c), some (.int nn), some (.int k)] [.int (rI M 635 (158 + (6 * k))), .int nn] M v M' 0 0 := H
    have H : Ev none e 198 (if (rI M 635 (158 + (6 * k))) = c then 34 else 38) [some (.ref 633), some (.int c), some (.int nn), some (.int k)] [.int nn] M v M' 0 0 := Ev.back 2 (fun n => rfl) H
    by_cases h4 : (rI M 635 (158 + (6 * k))) = c
    · rw [if_pos h4] at H
      have H : Ev none e 198 4 [some (.ref 633), some (.int c), some (.int (nn + 1)), some (.int (k + 1))] [] M v M' 0 0 := Ev.back 6 (fun n => rfl) H
      have HF := H
      exact Or.inr (Or.inl ⟨h2, h4, b1, b3, HF⟩)
    · rw [if_neg h4] at H
      have H : Ev none e 198 4 [some (.ref 633), some (.int c), some (.int (nn + 0)), some (.int (k + 1))] [] M v M' 0 0 := Ev.back 5 (fun n => rfl) H
      have HF := H
      exact Or.inr (Or.inr (⟨h2, h4, b1, b3, HF⟩))
theorem rse_0 {e : Nat} {M M' : Mem} {v : Option Value} {c d : Int32} (hS : SQ M) (H : Ev none e 199 0 [some (.ref 633), some (.int c), some (.int d), none, none, none, none] [] M v M' 0 0) : (∃ e1 v1 M1, e = e1 + 1 ∧ Ev none e1 172 0 [some (.ref 633), some (.int (zI M 633 36)), some (.int 7), none] [] M v1 M1 0 0 ∧ Ev none e 199 10 [some (.ref 633), some (.int c), some (.int d), none, none, none, none] (v1.toList ++ []) M1 v M' 0 0) := by
  have H : Ev none e 199 2 [some (.ref 633), some (.int c), some (.int d), none, none, none, none] [.ref 633, .ref 633] M v M' 0 0 := Ev.back 2 (fun n => rfl) H
  have H : Ev none e 199 5 [some (.ref 633), some (.int c), some (.int d), none, none, none, none] [.int (zI M 633 36), .ref 633] M v M' 0 0 := Ev.back 1 (gs_3 rfl rfl (gf_i hS.1 qa_633 qi_61_36 rfl)) H
  have H : Ev none e 199 7 [some (.ref 633), some (.int c), some (.int d), none, none, none, none] [.int 7, .int (zI M 633 36), .ref 633] M v M' 0 0 := Ev.back 1 (fun n => rfl) H
  obtain ⟨e1, rfl⟩ := Ev.dpos rfl rfl H
  obtain ⟨vK1, MK1, K1, H⟩ := Ev.callb (fun n_ => gs_7 rfl rfl (show gCal (.invokevirtual 227) 11 (.int 7 :: .int (zI M 633 36) :: .ref 633 :: []) M = some (.inr (172, [some (.ref 633), some (.int (zI M 633 36)), some (.int 7), none], [])) from by show @cond (Option ((List Value × Mem) ⊕ (Nat × Lo × List Value))) (true && gRecv M (.ref 633) 11 && gRoom [] && true) (some (.inr (172, [some (.ref 633), some (.int (zI M 633 36)), some (.int 7), none], []))) none = _; rw [recv_s hS.1 qa_633 qo_61]; rfl)) H
  have K1 : Ev none e1 172 0 [some (.ref 633), some (.int (zI M 633 36)), some (.int 7), none] [] M vK1 MK1 0 0 := K1
  have HF := H
  exact ⟨e1, vK1, MK1, rfl, K1, HF⟩
theorem rse_10 {e : Nat} {M M' : Mem} {v : Option Value} {c d y : Int32} (hS : SQ M) (H : Ev none e 199 10 [some (.ref 633), some (.int c), some (.int d), none, none, none, none] [.int y] M v M' 0 0) : (0 ≤ y ∧ (0 ≤ y.toInt ∧ y.toInt < 128) ∧ Ev none e 199 33 [some (.ref 633), some (.int c), some (.int d), some (.int y), some (.int (rI M 642 y)), some (.int 0), some (.int c)] [] M v M' 0 0) ∨ (¬ (0 ≤ y) ∧ Ev none e 199 33 [some (.ref 633), some (.int c), some (.int d), some (.int y), some (.int 3), some (.int 0), some (.int c)] [] M v M' 0 0) := by
  have H : Ev none e 199 (if 0 ≤ y then 19 else 15) [some (.ref 633), some (.int c), some (.int d), some (.int y), none, none, none] [] M v M' 0 0 := Ev.back 3 (fun n => rfl) H
  by_cases h1 : 0 ≤ y
  · rw [if_pos h1] at H
    have H : Ev none e 199 20 [some (.ref 633), some (.int c), some (.int d), some (.int y), none, none, none] [.ref 633] M v M' 0 0 := Ev.back 1 (fun n => rfl) H
    have H : Ev none e 199 23 [some (.ref 633), some (.int c), some (.int d), some (.int y), none, none, none] [.ref 642] M v M' 0 0 := Ev.back 1 (gs_3 rfl rfl (gf_u hS.1 qa_633 qr_61_12 qu_70 rfl)) H
    have H : Ev none e 199 24 [some (.ref 633), some (.int c), some (.int d), some (.int y), none, none, none] [.int y, .ref 642] M v M' 0 0 := Ev.back 1 (fun n => rfl) H
    obtain ⟨b2, H⟩ := Ev.ial rfl rfl hS.1 qa_642 qw_70 H
    have H : Ev none e 199 25 [some (.ref 633), some (.int c), some (.int d), some (.int y), none, none, none] [.int (rI M 642 y)] M v M' 0 0 := H
    have H : Ev none e 199 33 [some (.ref 633), some (.int c), some (.int d), some (.int y), some (.int (rI M 642 y)), some (.int 0), some (.int c)] [] M v M' 0 0 := Ev.back 5 (fun n => rfl) H
    have HF := H
    exact Or.inl ⟨h1, b2, HF⟩
  · rw [if_neg h1] at H
    have H : Ev none e 199 33 [some (.ref 633), some (.int c), some (.int d), some (.int y), some (.int 3), some (.int 0), some (.int c)] [] M v M' 0 0 := Ev.back 7 (fun n => rfl) H
    have HF := H
    exact Or.inr (⟨h1, HF⟩)
theorem rse_33 {e : Nat} {M M' : Mem} {v : Option Value} {c d fa le nn vv : Int32} (hS : SQ M) (H : Ev none e 199 33 [some (.ref 633), some (.int c), some (.int d), some (.int fa), some (.int le), some (.int nn), some (.int vv)] [] M v M' 0 0) : (le ≤ 0 ∧ v = some (.int nn) ∧ M' = M) ∨ (¬ (le ≤ 0) ∧ vv < 0 ∧ v = some (.int nn) ∧ M' = M) ∨ (¬ (le ≤ 0) ∧ ¬ (vv < 0) ∧ (G_148 M vv) = 0 ∧ v = some (.int nn) ∧ M' = M) ∨ (¬ (le ≤ 0) ∧ ¬ (vv < 0) ∧ ¬ ((G_148 M vv) = 0) ∧ (G_150 M vv) = 0 ∧ Ev none e 199 33 [some (.ref 633), some (.int c), some (.int d), some (.int fa), some (.int (le + Int32.ofInt (-1))), some (.int (nn + 0)), some (.int (G_194 M vv d))] [] M v M' 0 0) ∨ (¬ (le ≤ 0) ∧ ¬ (vv < 0) ∧ ¬ ((G_148 M vv) = 0) ∧ ¬ ((G_150 M vv) = 0) ∧ Ev none e 199 33 [some (.ref 633), some (.int c), some (.int d), some (.int fa), some (.int (le + Int32.ofInt (-1))), some (.int (nn + 1)), some (.int (G_194 M vv d))] [] M v M' 0 0) := by
  have H : Ev none e 199 (if le ≤ 0 then 86 else 38) [some (.ref 633), some (.int c), some (.int d), some (.int fa), some (.int le), some (.int nn), some (.int vv)] [] M v M' 0 0 := Ev.back 2 (fun n => rfl) H
  by_cases h1 : le ≤ 0
  · rw [if_pos h1] at H
    have H : Ev none e 199 88 [some (.ref 633), some (.int c), some (.int d), some (.int fa), some (.int le), some (.int nn), some (.int vv)] [.int nn] M v M' 0 0 := Ev.back 1 (fun n => rfl) H
    obtain ⟨z1, z2⟩ := Ev.retz rfl rfl H
    exact Or.inl ⟨h1, z1, z2⟩
  · rw [if_neg h1] at H
    have H : Ev none e 199 (if vv < 0 then 86 else 43) [some (.ref 633), some (.int c), some (.int d), some (.int fa), some (.int le), some (.int nn), some (.int vv)] [] M v M' 0 0 := Ev.back 2 (fun n => rfl) H
    by_cases h2 : vv < 0
    · rw [if_pos h2] at H
      have H : Ev none e 199 88 [some (.ref 633), some (.int c), some (.int d), some (.int fa), some (.int le), some (.int nn), some (.int vv)] [.int nn] M v M' 0 0 := Ev.back 1 (fun n => rfl) H
      obtain ⟨z1, z2⟩ := Ev.retz rfl rfl H
      exact Or.inr (Or.inl ⟨h1, h2, z1, z2⟩)
    · rw [if_neg h2] at H
      have H : Ev none e 199 46 [some (.ref 633), some (.int c), some (.int d), some (.int fa), some (.int le), some (.int nn), some (.int vv)] [.int vv, .ref 633] M v M' 0 0 := Ev.back 2 (fun n => rfl) H
      obtain ⟨e1, rfl⟩ := Ev.dpos rfl rfl H
      obtain ⟨vK3, MK3, K3, H⟩ := Ev.callb (fun n_ => gs_7 rfl rfl (show gCal (.invokevirtual 158) 11 (.int vv :: .ref 633 :: []) M = some (.inr (148, [some (.ref 633), some (.int vv)], [])) from by show @cond (Option ((List Value × Mem) ⊕ (Nat × Lo × List Value))) (true && gRecv M (.ref 633) 11 && gRoom [] && true) (some (.inr (148, [some (.ref 633), some (.int vv)], []))) none = _; rw [recv_s hS.1 qa_633 qo_61]; rfl)) H
      obtain ⟨pK3, qK3⟩ := g_148 hS K3
      rw [pK3, qK3] at H
      have H : Ev none (e1 + 1) 199 49 [some (.ref 633), some (.int c), some (.int d), some (.int fa), some (.int le), some (.int nn), some (.int vv)] [.int (G_148 M vv)] M v M' 0 0 := H
      have H : Ev none (e1 + 1) 199 (if (G_148 M vv) = 0 then 86 else 52) [some (.ref 633), some (.int c), some (.int d), some (.int fa), some (.int le), some (.int nn), some (.int vv)] [] M v M' 0 0 := Ev.back 1 (fun n => rfl) H
      by_cases h4 : (G_148 M vv) = 0
      · rw [if_pos h4] at H
        have H : Ev none (e1 + 1) 199 88 [some (.ref 633), some (.int c), some (.int d), some (.int fa), some (.int le), some (.int nn), some (.int vv)] [.int nn] M v M' 0 0 := Ev.back 1 (fun n => rfl) H
        obtain ⟨z1, z2⟩ := Ev.retz rfl rfl H
        exact Or.inr (Or.inr (Or.inl ⟨h1, h2, h4, z1, z2⟩))
      · rw [if_neg h4] at H
        have H : Ev none (e1 + 1) 199 57 [some (.ref 633), some (.int c), some (.int d), some (.int fa), some (.int le), some (.int nn), some (.int vv)] [.int vv, .ref 633, .int nn] M v M' 0 0 := Ev.back 3 (fun n => rfl) H
        obtain ⟨vK5, MK5, K5, H⟩ := Ev.callb (fun n_ => gs_7 rfl rfl (show gCal (.invokevirtual 140) 11 (.int vv :: .ref 633 :: [.int nn]) M = some (.inr (150, [some (.ref 633), some (.int vv)], [.int nn])) from by show @cond (Option ((List Value × Mem) ⊕ (Nat × Lo × List Value))) (true && gRecv M (.ref 633) 11 && gRoom [.int nn] && true) (some (.inr (150, [some (.ref 633), some (.int vv)], [.int nn]))) none = _; rw [recv_s hS.1 qa_633 qo_61]; rfl)) H
        obtain ⟨pK5, qK5⟩ := g_150 hS K5
        rw [pK5, qK5] at H
        have H : Ev none (e1 + 1) 199 60 [some (.ref 633), some (.int c), some (.int d), some (.int fa), some (.int le), some (.int nn), some (.int vv)] [.int (G_150 M vv), .int nn] M v M' 0 0 := H
        have H : Ev none (e1 + 1) 199 (if (G_150 M vv) = 0 then 67 else 63) [some (.ref 633), some (.int c), some (.int d), some (.int fa), some (.int le), some (.int nn), some (.int vv)] [.int nn] M v M' 0 0 := Ev.back 1 (fun n => rfl) H
        by_cases h6 : (G_150 M vv) = 0
        · rw [if_pos h6] at H
          have H : Ev none (e1 + 1) 199 75 [some (.ref 633), some (.int c), some (.int d), some (.int fa), some (.int le), some (.int (nn + 0)), some (.int vv)] [.int d, .int vv, .ref 633] M v M' 0 0 := Ev.back 6 (fun n => rfl) H
          obtain ⟨vK7, MK7, K7, H⟩ := Ev.callb (fun n_ => gs_7 rfl rfl (show gCal (.invokevirtual 380) 11 (.int d :: .int vv :: .ref 633 :: []) M = some (.inr (194, [some (.ref 633), some (.int vv), some (.int d), none, none], [])) from by show @cond (Option ((List Value × Mem) ⊕ (Nat × Lo × List Value))) (true && gRecv M (.ref 633) 11 && gRoom [] && true) (some (.inr (194, [some (.ref 633), some (.int vv), some (.int d), none, none], []))) none = _; rw [recv_s hS.1 qa_633 qo_61]; rfl)) H
          obtain ⟨pK7, qK7⟩ := g_194 hS K7
          rw [pK7, qK7] at H
          have H : Ev none (e1 + 1) 199 78 [some (.ref 633), some (.int c), some (.int d), some (.int fa), some (.int le), some (.int (nn + 0)), some (.int vv)] [.int (G_194 M vv d)] M v M' 0 0 := H
          have H : Ev none (e1 + 1) 199 80 [some (.ref 633), some (.int c), some (.int d), some (.int fa), some (.int le), some (.int (nn + 0)), some (.int (G_194 M vv d))] [] M v M' 0 0 := Ev.back 1 (fun n => rfl) H
          have H : Ev none (e1 + 1) 199 83 [some (.ref 633), some (.int c), some (.int d), some (.int fa), some (.int (le + Int32.ofInt (-1))), some (.int (nn + 0)), some (.int (G_194 M vv d))] [] M v M' 0 0 := Ev.back 1 (gs_1 (i := .iinc 4 (-1)) rfl rfl rfl) H
          have H : Ev none (e1 + 1) 199 33 [some (.ref 633), some (.int c), some (.int d), some (.int fa), some (.int (le + Int32.ofInt (-1))), some (.int (nn + 0)), some (.int (G_194 M vv d))] [] M v M' 0 0 := Ev.back 1 (fun n => rfl) H
          have HF := H
          exact Or.inr (Or.inr (Or.inr (Or.inl ⟨h1, h2, h4, h6, HF⟩)))
        · rw [if_neg h6] at H
          have H : Ev none (e1 + 1) 199 75 [some (.ref 633), some (.int c), some (.int d), some (.int fa), some (.int le), some (.int (nn + 1)), some (.int vv)] [.int d, .int vv, .ref 633] M v M' 0 0 := Ev.back 7 (fun n => rfl) H
          obtain ⟨vK8, MK8, K8, H⟩ := Ev.callb (fun n_ => gs_7 rfl rfl (show gCal (.invokevirtual 380) 11 (.int d :: .int vv :: .ref 633 :: []) M = some (.inr (194, [some (.ref 633), some (.int vv), some (.int d), none, none], [])) from by show @cond (Option ((List Value × Mem) ⊕ (Nat × Lo × List Value))) (true && gRecv M (.ref 633) 11 && gRoom [] && true) (some (.inr (194, [some (.ref 633), some (.int vv), some (.int d), none, none], []))) none = _; rw [recv_s hS.1 qa_633 qo_61]; rfl)) H
          obtain ⟨pK8, qK8⟩ := g_194 hS K8
          rw [pK8, qK8] at H
          have H : Ev none (e1 + 1) 199 78 [some (.ref 633), some (.int c), some (.int d), some (.int fa), some (.int le), some (.int (nn + 1)), some (.int vv)] [.int (G_194 M vv d)] M v M' 0 0 := H
          have H : Ev none (e1 + 1) 199 80 [some (.ref 633), some (.int c), some (.int d), some (.int fa), some (.int le), some (.int (nn + 1)), some (.int (G_194 M vv d))] [] M v M' 0 0 := Ev.back 1 (fun n => rfl) H
          have H : Ev none (e1 + 1) 199 83 [some (.ref 633), some (.int c), some (.int d), some (.int fa), some (.int (le + Int32.ofInt (-1))), some (.int (nn + 1)), some (.int (G_194 M vv d))] [] M v M' 0 0 := Ev.back 1 (gs_1 (i := .iinc 4 (-1)) rfl rfl rfl) H
          have H : Ev none (e1 + 1) 199 33 [some (.ref 633), some (.int c), some (.int d), some (.int fa), some (.int (le + Int32.ofInt (-1))), some (.int (nn + 1)), some (.int (G_194 M vv d))] [] M v M' 0 0 := Ev.back 1 (fun n => rfl) H
          have HF := H
          exact Or.inr (Or.inr (Or.inr (Or.inr (⟨h1, h2, h4, h6, HF⟩))))
theorem rwe_0 {e : Nat} {M M' : Mem} {v : Option Value} {c d : Int32} (hS : SQ M) (H : Ev none e 200 0 [some (.ref 633), some (.int c), some (.int d), none, none, none, none, none] [] M v M' 0 0) : ((G_195 M c (zI M 633 35)) ≤ (G_196 M c (zI M 633 35)) ∧ Ev none e 200 59 [some (.ref 633), some (.int c), some (.int d), some (.int (G_195 M c (zI M 633 35))), some (.int (G_196 M c (zI M 633 35))), some (.int ((10 * (G_196 M c (zI M 633 35))) + (4 * (G_195 M c (zI M 633 35))))), some (.int (16 * (zI M 633 36))), none] [] M v M' 0 0) ∨ (¬ ((G_195 M c (zI M 633 35)) ≤ (G_196 M c (zI M 633 35))) ∧ Ev none e 200 59 [some (.ref 633), some (.int c), some (.int d), some (.int (G_195 M c (zI M 633 35))), some (.int (G_196 M c (zI M 633 35))), some (.int ((10 * (G_195 M c (zI M 633 35))) + (4 * (G_196 M c (zI M 633 35))))), some (.int (16 * (zI M 633 36))), none] [] M v M' 0 0) := by
  have H : Ev none e 200 3 [some (.ref 633), some (.int c), some (.int d), none, none, none, none, none] [.ref 633, .int c, .ref 633] M v M' 0 0 := Ev.back 3 (fun n => rfl) H
  have H : Ev none e 200 6 [some (.ref 633), some (.int c), some (.int d), none, none, none, none, none] [.int (zI M 633 35), .int c, .ref 633] M v M' 0 0 := Ev.back 1 (gs_3 rfl rfl (gf_i hS.1 qa_633 qi_61_35 rfl)) H
  obtain ⟨e1, rfl⟩ := Ev.dpos rfl rfl H
  obtain ⟨vK1, MK1, K1, H⟩ := Ev.callb (fun n_ => gs_7 rfl rfl (show gCal (.invokevirtual 386) 11 (.int (zI M 633 35) :: .int c :: .ref 633 :: []) M = some (.inr (195, [some (.ref 633), some (.int c), some (.int (zI M 633 35))], [])) from by show @cond (Option ((List Value × Mem) ⊕ (Nat × Lo × List Value))) (true && gRecv M (.ref 633) 11 && gRoom [] && true) (some (.inr (195, [some (.ref 633), some (.int c), some (.int (zI M 633 35))], []))) none = _; rw [recv_s hS.1 qa_633 qo_61]; rfl)) H
  obtain ⟨pK1, qK1⟩ := g_195 hS K1
  rw [pK1, qK1] at H
  have H : Ev none (e1 + 1) 200 9 [some (.ref 633), some (.int c), some (.int d), none, none, none, none, none] [.int (G_195 M c (zI M 633 35))] M v M' 0 0 := H
  have H : Ev none (e1 + 1) 200 13 [some (.ref 633), some (.int c), some (.int d), some (.int (G_195 M c (zI M 633 35))), none, none, none, none] [.ref 633, .int c, .ref 633] M v M' 0 0 := Ev.back 4 (fun n => rfl) H
  have H : Ev none (e1 + 1) 200 16 [some (.ref 633), some (.int c), some (.int d), some (.int (G_195 M c (zI M 633 35))), none, none, none, none] [.int (zI M 633 35), .int c, .ref 633] M v M' 0 0 := Ev.back 1 (gs_3 rfl rfl (gf_i hS.1 qa_633 qi_61_35 rfl)) H
  obtain ⟨vK2, MK2, K2, H⟩ := Ev.callb (fun n_ => gs_7 rfl rfl (show gCal (.invokevirtual 389) 11 (.int (zI M 633 35) :: .int c :: .ref 633 :: []) M = some (.inr (196, [some (.ref 633), some (.int c), some (.int (zI M 633 35))], [])) from by show @cond (Option ((List Value × Mem) ⊕ (Nat × Lo × List Value))) (true && gRecv M (.ref 633) 11 && gRoom [] && true) (some (.inr (196, [some (.ref 633), some (.int c), some (.int (zI M 633 35))], []))) none = _; rw [recv_s hS.1 qa_633 qo_61]; rfl)) H
  obtain ⟨pK2, qK2⟩ := g_196 hS K2
  rw [pK2, qK2] at H
  have H : Ev none (e1 + 1) 200 19 [some (.ref 633), some (.int c), some (.int d), some (.int (G_195 M c (zI M 633 35))), none, none, none, none] [.int (G_196 M c (zI M 633 35))] M v M' 0 0 := H
  have H : Ev none (e1 + 1) 200 (if (G_195 M c (zI M 633 35)) ≤ (G_196 M c (zI M 633 35)) then 39 else 27) [some (.ref 633), some (.int c), some (.int d), some (.int (G_195 M c (zI M 633 35))), some (.int (G_196 M c (zI M 633 35))), none, none, none] [] M v M' 0 0 := Ev.back 4 (fun n => rfl) H
  by_cases h3 : (G_195 M c (zI M 633 35)) ≤ (G_196 M c (zI M 633 35))
  · rw [if_pos h3] at H
    have H : Ev none (e1 + 1) 200 53 [some (.ref 633), some (.int c), some (.int d), some (.int (G_195 M c (zI M 633 35))), some (.int (G_196 M c (zI M 633 35))), some (.int ((10 * (G_196 M c (zI M 633 35))) + (4 * (G_195 M c (zI M 633 35))))), none, none] [.ref 633, .int 16] M v M' 0 0 := Ev.back 10 (fun n => rfl) H
    have H : Ev none (e1 + 1) 200 56 [some (.ref 633), some (.int c), some (.int d), some (.int (G_195 M c (zI M 633 35))), some (.int (G_196 M c (zI M 633 35))), some (.int ((10 * (G_196 M c (zI M 633 35))) + (4 * (G_195 M c (zI M 633 35))))), none, none] [.int (zI M 633 36), .int 16] M v M' 0 0 := Ev.back 1 (gs_3 rfl rfl (gf_i hS.1 qa_633 qi_61_36 rfl)) H
    have H : Ev none (e1 + 1) 200 59 [some (.ref 633), some (.int c), some (.int d), some (.int (G_195 M c (zI M 633 35))), some (.int (G_196 M c (zI M 633 35))), some (.int ((10 * (G_196 M c (zI M 633 35))) + (4 * (G_195 M c (zI M 633 35))))), some (.int (16 * (zI M 633 36))), none] [] M v M' 0 0 := Ev.back 2 (fun n => rfl) H
    have HF := H
    exact Or.inl ⟨h3, HF⟩
  · rw [if_neg h3] at H
    have H : Ev none (e1 + 1) 200 53 [some (.ref 633), some (.int c), some (.int d), some (.int (G_195 M c (zI M 633 35))), some (.int (G_196 M c (zI M 633 35))), some (.int ((10 * (G_195 M c (zI M 633 35))) + (4 * (G_196 M c (zI M 633 35))))), none, none] [.ref 633, .int 16] M v M' 0 0 := Ev.back 11 (fun n => rfl) H
    have H : Ev none (e1 + 1) 200 56 [some (.ref 633), some (.int c), some (.int d), some (.int (G_195 M c (zI M 633 35))), some (.int (G_196 M c (zI M 633 35))), some (.int ((10 * (G_195 M c (zI M 633 35))) + (4 * (G_196 M c (zI M 633 35))))), none, none] [.int (zI M 633 36), .int 16] M v M' 0 0 := Ev.back 1 (gs_3 rfl rfl (gf_i hS.1 qa_633 qi_61_36 rfl)) H
    have H : Ev none (e1 + 1) 200 59 [some (.ref 633), some (.int c), some (.int d), some (.int (G_195 M c (zI M 633 35))), some (.int (G_196 M c (zI M 633 35))), some (.int ((10 * (G_195 M c (zI M 633 35))) + (4 * (G_196 M c (zI M 633 35))))), some (.int (16 * (zI M 633 36))), none] [] M v M' 0 0 := Ev.back 2 (fun n => rfl) H
    have HF := H
    exact Or.inr (⟨h3, HF⟩)
theorem rwe_59 {e : Nat} {M M' : Mem} {v : Option Value} {c d x y vv k : Int32} {c7 : Option Value} (hS : SQ M) (H : Ev none e 200 59 [some (.ref 633), some (.int c), some (.int d), some (.int x), some (.int y), some (.int vv), some (.int k), c7] [] M v M' 0 0) : (((16 * (zI M 633 36)) + (rI M 639 (zI M 633 36))) ≤ k ∧ (0 ≤ (zI M 633 36).toInt ∧ (zI M 633 36).toInt < 8) ∧ v = some (.int vv) ∧ M' = M) ∨ (¬ (((16 * (zI M 633 36)) + (rI M 639 (zI M 633 36))) ≤ k) ∧ (rI M 640 k) = 5 ∧ (0 ≤ (zI M 633 36).toInt ∧ (zI M 633 36).toInt < 8) ∧ (0 ≤ k.toInt ∧ k.toInt < 128) ∧ (∃ e1 v1 M1, e = e1 + 1 ∧ Ev none e1 187 0 [some (.ref 633), some (.int k), some (.int c), none, none, none, none, none] [] M v1 M1 0 0 ∧ Ev none e 200 99 [some (.ref 633), some (.int c), some (.int d), some (.int x), some (.int y), some (.int vv), some (.int k), c7] (v1.toList ++ []) M1 v M' 0 0)) ∨ (¬ (((16 * (zI M 633 36)) + (rI M 639 (zI M 633 36))) ≤ k) ∧ ¬ ((rI M 640 k) = 5) ∧ (0 ≤ (zI M 633 36).toInt ∧ (zI M 633 36).toInt < 8) ∧ (0 ≤ k.toInt ∧ k.toInt < 128) ∧ Ev none e 200 59 [some (.ref 633), some (.int c), some (.int d), some (.int x), some (.int y), some (.int vv), some (.int (k + 1)), c7] [] M v M' 0 0) := by
  have H : Ev none e 200 64 [some (.ref 633), some (.int c), some (.int d), some (.int x), some (.int y), some (.int vv), some (.int k), c7] [.ref 633, .int 16, .int k] M v M' 0 0 := Ev.back 3 (fun n => rfl) H
  have H : Ev none e 200 67 [some (.ref 633), some (.int c), some (.int d), some (.int x), some (.int y), some (.int vv), some (.int k), c7] [.int (zI M 633 36), .int 16, .int k] M v M' 0 0 := Ev.back 1 (gs_3 rfl rfl (gf_i hS.1 qa_633 qi_61_36 rfl)) H
  have H : Ev none e 200 69 [some (.ref 633), some (.int c), some (.int d), some (.int x), some (.int y), some (.int vv), some (.int k), c7] [.ref 633, .int (16 * (zI M 633 36)), .int k] M v M' 0 0 := Ev.back 2 (fun n => rfl) H
  have H : Ev none e 200 72 [some (.ref 633), some (.int c), some (.int d), some (.int x), some (.int y), some (.int vv), some (.int k), c7] [.ref 639, .int (16 * (zI M 633 36)), .int k] M v M' 0 0 := Ev.back 1 (gs_3 rfl rfl (gf_u hS.1 qa_633 qr_61_9 qu_67 rfl)) H
  have H : Ev none e 200 73 [some (.ref 633), some (.int c), some (.int d), some (.int x), some (.int y), some (.int vv), some (.int k), c7] [.ref 633, .ref 639, .int (16 * (zI M 633 36)), .int k] M v M' 0 0 := Ev.back 1 (fun n => rfl) H
  have H : Ev none e 200 76 [some (.ref 633), some (.int c), some (.int d), some (.int x), some (.int y), some (.int vv), some (.int k), c7] [.int (zI M 633 36), .ref 639, .int (16 * (zI M 633 36)), .int k] M v M' 0 0 := Ev.back 1 (gs_3 rfl rfl (gf_i hS.1 qa_633 qi_61_36 rfl)) H
  obtain ⟨b1, H⟩ := Ev.ial rfl rfl hS.1 qa_639 qw_67 H
  have H : Ev none e 200 77 [some (.ref 633), some (.int c), some (.int d), some (.int x), some (.int y), some (.int vv), some (.int k), c7] [.int (rI M 639 (zI M 633 36)), .int (16 * (zI M 633 36)), .int k] M v M' 0 0 := H
  have H : Ev none e 200 (if ((16 * (zI M 633 36)) + (rI M 639 (zI M 633 36))) ≤ k then 159 else 81) [some (.ref 633), some (.int c), some (.int d), some (.int x), some (.int y), some (.int vv), some (.int k), c7] [] M v M' 0 0 := Ev.back 2 (fun n => rfl) H
  by_cases h2 : ((16 * (zI M 633 36)) + (rI M 639 (zI M 633 36))) ≤ k
  · rw [if_pos h2] at H
    have H : Ev none e 200 161 [some (.ref 633), some (.int c), some (.int d), some (.int x), some (.int y), some (.int vv), some (.int k), c7] [.int vv] M v M' 0 0 := Ev.back 1 (fun n => rfl) H
    obtain ⟨z1, z2⟩ := Ev.retz rfl rfl H
    exact Or.inl ⟨h2, b1, z1, z2⟩
  · rw [if_neg h2] at H
    have H : Ev none e 200 82 [some (.ref 633), some (.int c), some (.int d), some (.int x), some (.int y), some (.int vv), some (.int k), c7] [.ref 633] M v M' 0 0 := Ev.back 1 (fun n => rfl) H
    have H : Ev none e 200 85 [some (.ref 633), some (.int c), some (.int d), some (.int x), some (.int y), some (.int vv), some (.int k), c7] [.ref 640] M v M' 0 0 := Ev.back 1 (gs_3 rfl rfl (gf_u hS.1 qa_633 qr_61_10 qu_68 rfl)) H
    have H : Ev none e 200 87 [some (.ref 633), some (.int c), some (.int d), some (.int x), some (.int y), some (.int vv), some (.int k), c7] [.int k, .ref 640] M v M' 0 0 := Ev.back 1 (fun n => rfl) H
    obtain ⟨b3, H⟩ := Ev.ial rfl rfl hS.1 qa_640 qw_68 H
    have H : Ev none e 200 88 [some (.ref 633), some (.int c), some (.int d), some (.int x), some (.int y), some (.int vv), some (.int k), c7] [.int (rI M 640 k)] M v M' 0 0 := H
    have H : Ev none e 200 (if (rI M 640 k) = 5 then 92 else 153) [some (.ref 633), some (.int c), some (.int d), some (.int x), some (.int y), some (.int vv), some (.int k), c7] [] M v M' 0 0 := Ev.back 2 (fun n => rfl) H
    by_cases h4 : (rI M 640 k) = 5
    · rw [if_pos h4] at H
      have H : Ev none e 200 96 [some (.ref 633), some (.int c), some (.int d), some (.int x), some (.int y), some (.int vv), some (.int k), c7] [.int c, .int k, .ref 633] M v M' 0 0 := Ev.back 3 (fun n => rfl) H
      obtain ⟨e1, rfl⟩ := Ev.dpos rfl rfl H
      obtain ⟨vK5, MK5, K5, H⟩ := Ev.callb (fun n_ => gs_7 rfl rfl (show gCal (.invokevirtual 337) 11 (.int c :: .int k :: .ref 633 :: []) M = some (.inr (187, [some (.ref 633), some (.int k), some (.int c), none, none, none, none, none], [])) from by show @cond (Option ((List Value × Mem) ⊕ (Nat × Lo × List Value))) (true && gRecv M (.ref 633) 11 && gRoom [] && true) (some (.inr (187, [some (.ref 633), some (.int k), some (.int c), none, none, none, none, none], []))) none = _; rw [recv_s hS.1 qa_633 qo_61]; rfl)) H
      have K5 : Ev none e1 187 0 [some (.ref 633), some (.int k), some (.int c), none, none, none, none, none] [] M vK5 MK5 0 0 := K5
      have HF := H
      exact Or.inr (Or.inl ⟨h2, h4, b1, b3, ⟨e1, vK5, MK5, rfl, K5, HF⟩⟩)
    · rw [if_neg h4] at H
      have H : Ev none e 200 59 [some (.ref 633), some (.int c), some (.int d), some (.int x), some (.int y), some (.int vv), some (.int (k + 1)), c7] [] M v M' 0 0 := Ev.back 2 (fun n => rfl) H
      have HF := H
      exact Or.inr (Or.inr (⟨h2, h4, b1, b3, HF⟩))
theorem rwe_99 {e : Nat} {M M' : Mem} {v : Option Value} {c d x y vv k z : Int32} {c7 : Option Value} (hS : SQ M) (H : Ev none e 200 99 [some (.ref 633), some (.int c), some (.int d), some (.int x), some (.int y), some (.int vv), some (.int k), c7] [.int z] M v M' 0 0) : (z = 0 ∧ Ev none e 200 59 [some (.ref 633), some (.int c), some (.int d), some (.int x), some (.int y), some (.int vv), some (.int (k + 1)), c7] [] M v M' 0 0) ∨ (¬ (z = 0) ∧ (0 ≤ k.toInt ∧ k.toInt < 128) ∧ (0 ≤ k.toInt ∧ k.toInt < 128) ∧ (∃ e1 v1 M1, e = e1 + 1 ∧ Ev none e1 197 0 [some (.ref 633), some (.int c), some (.int d), some (.int (rI M 641 k))] [] M v1 M1 0 0 ∧ Ev none e 200 125 [some (.ref 633), some (.int c), some (.int d), some (.int x), some (.int y), some (.int vv), some (.int k), c7] (v1.toList ++ [.int (rI M 642 k)]) M1 v M' 0 0)) := by
  have H : Ev none e 200 (if z = 0 then 102 else 105) [some (.ref 633), some (.int c), some (.int d), some (.int x), some (.int y), some (.int vv), some (.int k), c7] [] M v M' 0 0 := Ev.back 1 (fun n => rfl) H
  by_cases h1 : z = 0
  · rw [if_pos h1] at H
    have H : Ev none e 200 59 [some (.ref 633), some (.int c), some (.int d), some (.int x), some (.int y), some (.int vv), some (.int (k + 1)), c7] [] M v M' 0 0 := Ev.back 3 (fun n => rfl) H
    have HF := H
    exact Or.inl ⟨h1, HF⟩
  · rw [if_neg h1] at H
    have H : Ev none e 200 106 [some (.ref 633), some (.int c), some (.int d), some (.int x), some (.int y), some (.int vv), some (.int k), c7] [.ref 633] M v M' 0 0 := Ev.back 1 (fun n => rfl) H
    have H : Ev none e 200 109 [some (.ref 633), some (.int c), some (.int d), some (.int x), some (.int y), some (.int vv), some (.int k), c7] [.ref 642] M v M' 0 0 := Ev.back 1 (gs_3 rfl rfl (gf_u hS.1 qa_633 qr_61_12 qu_70 rfl)) H
    have H : Ev none e 200 111 [some (.ref 633), some (.int c), some (.int d), some (.int x), some (.int y), some (.int vv), some (.int k), c7] [.int k, .ref 642] M v M' 0 0 := Ev.back 1 (fun n => rfl) H
    obtain ⟨b2, H⟩ := Ev.ial rfl rfl hS.1 qa_642 qw_70 H
    have H : Ev none e 200 112 [some (.ref 633), some (.int c), some (.int d), some (.int x), some (.int y), some (.int vv), some (.int k), c7] [.int (rI M 642 k)] M v M' 0 0 := H
    have H : Ev none e 200 116 [some (.ref 633), some (.int c), some (.int d), some (.int x), some (.int y), some (.int vv), some (.int k), c7] [.ref 633, .int d, .int c, .ref 633, .int (rI M 642 k)] M v M' 0 0 := Ev.back 4 (fun n => rfl) H
    have H : Ev none e 200 119 [some (.ref 633), some (.int c), some (.int d), some (.int x), some (.int y), some (.int vv), some (.int k), c7] [.ref 641, .int d, .int c, .ref 633, .int (rI M 642 k)] M v M' 0 0 := Ev.back 1 (gs_3 rfl rfl (gf_u hS.1 qa_633 qr_61_11 qu_69 rfl)) H
    have H : Ev none e 200 121 [some (.ref 633), some (.int c), some (.int d), some (.int x), some (.int y), some (.int vv), some (.int k), c7] [.int k, .ref 641, .int d, .int c, .ref 633, .int (rI M 642 k)] M v M' 0 0 := Ev.back 1 (fun n => rfl) H
    obtain ⟨b3, H⟩ := Ev.ial rfl rfl hS.1 qa_641 qw_69 H
    have H : Ev none e 200 122 [some (.ref 633), some (.int c), some (.int d), some (.int x), some (.int y), some (.int vv), some (.int k), c7] [.int (rI M 641 k), .int d, .int c, .ref 633, .int (rI M 642 k)] M v M' 0 0 := H
    obtain ⟨e1, rfl⟩ := Ev.dpos rfl rfl H
    obtain ⟨vK4, MK4, K4, H⟩ := Ev.callb (fun n_ => gs_7 rfl rfl (show gCal (.invokevirtual 392) 11 (.int (rI M 641 k) :: .int d :: .int c :: .ref 633 :: [.int (rI M 642 k)]) M = some (.inr (197, [some (.ref 633), some (.int c), some (.int d), some (.int (rI M 641 k))], [.int (rI M 642 k)])) from by show @cond (Option ((List Value × Mem) ⊕ (Nat × Lo × List Value))) (true && gRecv M (.ref 633) 11 && gRoom [.int (rI M 642 k)] && true) (some (.inr (197, [some (.ref 633), some (.int c), some (.int d), some (.int (rI M 641 k))], [.int (rI M 642 k)]))) none = _; rw [recv_s hS.1 qa_633 qo_61]; rfl)) H
    have K4 : Ev none e1 197 0 [some (.ref 633), some (.int c), some (.int d), some (.int (rI M 641 k))] [] M vK4 MK4 0 0 := K4
    have HF := H
    exact Or.inr (⟨h1, b2, b3, ⟨e1, vK4, MK4, rfl, K4, HF⟩⟩)
theorem rwe_125 {e : Nat} {M M' : Mem} {v : Option Value} {c d x y vv k z nu : Int32} {c7 : Option Value} (hS : SQ M) (H : Ev none e 200 125 [some (.ref 633), some (.int c), some (.int d), some (.int x), some (.int y), some (.int vv), some (.int k), c7] [.int z, .int nu] M v M' 0 0) : ((rI M 641 k) = 6 ∧ (0 ≤ k.toInt ∧ k.toInt < 128) ∧ Ev none e 200 59 [some (.ref 633), some (.int c), some (.int d), some (.int x), some (.int y), some (.int (vv + (-(nu * z)))), some (.int (k + 1)), some (.int (nu * z))] [] M v M' 0 0) ∨ (¬ ((rI M 641 k) = 6) ∧ (0 ≤ k.toInt ∧ k.toInt < 128) ∧ Ev none e 200 59 [some (.ref 633), some (.int c), some (.int d), some (.int x), some (.int y), some (.int (vv + (nu * z))), some (.int (k + 1)), some (.int (nu * z))] [] M v M' 0 0) := by
  have H : Ev none e 200 131 [some (.ref 633), some (.int c), some (.int d), some (.int x), some (.int y), some (.int vv), some (.int k), some (.int (nu * z))] [.ref 633, .int vv] M v M' 0 0 := Ev.back 4 (fun n => rfl) H
  have H : Ev none e 200 134 [some (.ref 633), some (.int c), some (.int d), some (.int x), some (.int y), some (.int vv), some (.int k), some (.int (nu * z))] [.ref 641, .int vv] M v M' 0 0 := Ev.back 1 (gs_3 rfl rfl (gf_u hS.1 qa_633 qr_61_11 qu_69 rfl)) H
  have H : Ev none e 200 136 [some (.ref 633), some (.int c), some (.int d), some (.int x), some (.int y), some (.int vv), some (.int k), some (.int (nu * z))] [.int k, .ref 641, .int vv] M v M' 0 0 := Ev.back 1 (fun n => rfl) H
  obtain ⟨b1, H⟩ := Ev.ial rfl rfl hS.1 qa_641 qw_69 H
  have H : Ev none e 200 137 [some (.ref 633), some (.int c), some (.int d), some (.int x), some (.int y), some (.int vv), some (.int k), some (.int (nu * z))] [.int (rI M 641 k), .int vv] M v M' 0 0 := H
  have H : Ev none e 200 (if (rI M 641 k) = 6 then 142 else 148) [some (.ref 633), some (.int c), some (.int d), some (.int x), some (.int y), some (.int vv), some (.int k), some (.int (nu * z))] [.int vv] M v M' 0 0 := Ev.back 2 (fun n => rfl) H
  by_cases h2 : (rI M 641 k) = 6
  · rw [if_pos h2] at H
    have H : Ev none e 200 59 [some (.ref 633), some (.int c), some (.int d), some (.int x), some (.int y), some (.int (vv + (-(nu * z)))), some (.int (k + 1)), some (.int (nu * z))] [] M v M' 0 0 := Ev.back 7 (fun n => rfl) H
    have HF := H
    exact Or.inl ⟨h2, b1, HF⟩
  · rw [if_neg h2] at H
    have H : Ev none e 200 59 [some (.ref 633), some (.int c), some (.int d), some (.int x), some (.int y), some (.int (vv + (nu * z))), some (.int (k + 1)), some (.int (nu * z))] [] M v M' 0 0 := Ev.back 5 (fun n => rfl) H
    have HF := H
    exact Or.inr (⟨h2, b1, HF⟩)
theorem rma_0 {e : Nat} {M M' : Mem} {v : Option Value} {c : Int32} (hS : SQ M) (H : Ev none e 201 0 [some (.ref 633), some (.int c), none] [] M v M' 0 0) : Ev none e 201 8 [some (.ref 633), some (.int c), some (.int (16 * (zI M 633 36)))] [] M v M' 0 0 := by
  have H : Ev none e 201 3 [some (.ref 633), some (.int c), none] [.ref 633, .int 16] M v M' 0 0 := Ev.back 2 (fun n => rfl) H
  have H : Ev none e 201 6 [some (.ref 633), some (.int c), none] [.int (zI M 633 36), .int 16] M v M' 0 0 := Ev.back 1 (gs_3 rfl rfl (gf_i hS.1 qa_633 qi_61_36 rfl)) H
  have H : Ev none e 201 8 [some (.ref 633), some (.int c), some (.int (16 * (zI M 633 36)))] [] M v M' 0 0 := Ev.back 2 (fun n => rfl) H
  have HF := H
  exact HF
theorem rma_8 {e : Nat} {M M' : Mem} {v : Option Value} {c k : Int32} (hS : SQ M) (H : Ev none e 201 8 [some (.ref 633), some (.int c), some (.int k)] [] M v M' 0 0) : (((16 * (zI M 633 36)) + (rI M 639 (zI M 633 36))) ≤ k ∧ (0 ≤ (zI M 633 36).toInt ∧ (zI M 633 36).toInt < 8) ∧ v = some (.int 0) ∧ M' = M) ∨ (¬ (((16 * (zI M 633 36)) + (rI M 639 (zI M 633 36))) ≤ k) ∧ (rI M 640 k) = 6 ∧ (0 ≤ (zI M 633 36).toInt ∧ (zI M 633 36).toInt < 8) ∧ (0 ≤ k.toInt ∧ k.toInt < 128) ∧ (∃ e1 v1 M1, e = e1 + 1 ∧ Ev none e1 187 0 [some (.ref 633), some (.int k), some (.int c), none, none, none, none, none] [] M v1 M1 0 0 ∧ Ev none e 201 46 [some (.ref 633), some (.int c), some (.int k)] (v1.toList ++ []) M1 v M' 0 0)) ∨ (¬ (((16 * (zI M 633 36)) + (rI M 639 (zI M 633 36))) ≤ k) ∧ ¬ ((rI M 640 k) = 6) ∧ (0 ≤ (zI M 633 36).toInt ∧ (zI M 633 36).toInt < 8) ∧ (0 ≤ k.toInt ∧ k.toInt < 128) ∧ Ev none e 201 8 [some (.ref 633), some (.int c), some (.int (k + 1))] [] M v M' 0 0) := by
  have H : Ev none e 201 12 [some (.ref 633), some (.int c), some (.int k)] [.ref 633, .int 16, .int k] M v M' 0 0 := Ev.back 3 (fun n => rfl) H
  have H : Ev none e 201 15 [some (.ref 633), some (.int c), some (.int k)] [.int (zI M 633 36), .int 16, .int k] M v M' 0 0 := Ev.back 1 (gs_3 rfl rfl (gf_i hS.1 qa_633 qi_61_36 rfl)) H
  have H : Ev none e 201 17 [some (.ref 633), some (.int c), some (.int k)] [.ref 633, .int (16 * (zI M 633 36)), .int k] M v M' 0 0 := Ev.back 2 (fun n => rfl) H
  have H : Ev none e 201 20 [some (.ref 633), some (.int c), some (.int k)] [.ref 639, .int (16 * (zI M 633 36)), .int k] M v M' 0 0 := Ev.back 1 (gs_3 rfl rfl (gf_u hS.1 qa_633 qr_61_9 qu_67 rfl)) H
  have H : Ev none e 201 21 [some (.ref 633), some (.int c), some (.int k)] [.ref 633, .ref 639, .int (16 * (zI M 633 36)), .int k] M v M' 0 0 := Ev.back 1 (fun n => rfl) H
  have H : Ev none e 201 24 [some (.ref 633), some (.int c), some (.int k)] [.int (zI M 633 36), .ref 639, .int (16 * (zI M 633 36)), .int k] M v M' 0 0 := Ev.back 1 (gs_3 rfl rfl (gf_i hS.1 qa_633 qi_61_36 rfl)) H
  obtain ⟨b1, H⟩ := Ev.ial rfl rfl hS.1 qa_639 qw_67 H
  have H : Ev none e 201 25 [some (.ref 633), some (.int c), some (.int k)] [.int (rI M 639 (zI M 633 36)), .int (16 * (zI M 633 36)), .int k] M v M' 0 0 := H
  have H : Ev none e 201 (if ((16 * (zI M 633 36)) + (rI M 639 (zI M 633 36))) ≤ k then 57 else 29) [some (.ref 633), some (.int c), some (.int k)] [] M v M' 0 0 := Ev.back 2 (fun n => rfl) H
  by_cases h2 : ((16 * (zI M 633 36)) + (rI M 639 (zI M 633 36))) ≤ k
  · rw [if_pos h2] at H
    have H : Ev none e 201 58 [some (.ref 633), some (.int c), some (.int k)] [.int 0] M v M' 0 0 := Ev.back 1 (fun n => rfl) H
    obtain ⟨z1, z2⟩ := Ev.retz rfl rfl H
    exact Or.inl ⟨h2, b1, z1, z2⟩
  · rw [if_neg h2] at H
    have H : Ev none e 201 30 [some (.ref 633), some (.int c), some (.int k)] [.ref 633] M v M' 0 0 := Ev.back 1 (fun n => rfl) H
    have H : Ev none e 201 33 [some (.ref 633), some (.int c), some (.int k)] [.ref 640] M v M' 0 0 := Ev.back 1 (gs_3 rfl rfl (gf_u hS.1 qa_633 qr_61_10 qu_68 rfl)) H
    have H : Ev none e 201 34 [some (.ref 633), some (.int c), some (.int k)] [.int k, .ref 640] M v M' 0 0 := Ev.back 1 (fun n => rfl) H
    obtain ⟨b3, H⟩ := Ev.ial rfl rfl hS.1 qa_640 qw_68 H
    have H : Ev none e 201 35 [some (.ref 633), some (.int c), some (.int k)] [.int (rI M 640 k)] M v M' 0 0 := H
    have H : Ev none e 201 (if (rI M 640 k) = 6 then 40 else 51) [some (.ref 633), some (.int c), some (.int k)] [] M v M' 0 0 := Ev.back 2 (fun n => rfl) H
    by_cases h4 : (rI M 640 k) = 6
    · rw [if_pos h4] at H
      have H : Ev none e 201 43 [some (.ref 633), some (.int c), some (.int k)] [.int c, .int k, .ref 633] M v M' 0 0 := Ev.back 3 (fun n => rfl) H
      obtain ⟨e1, rfl⟩ := Ev.dpos rfl rfl H
      obtain ⟨vK5, MK5, K5, H⟩ := Ev.callb (fun n_ => gs_7 rfl rfl (show gCal (.invokevirtual 337) 11 (.int c :: .int k :: .ref 633 :: []) M = some (.inr (187, [some (.ref 633), some (.int k), some (.int c), none, none, none, none, none], [])) from by show @cond (Option ((List Value × Mem) ⊕ (Nat × Lo × List Value))) (true && gRecv M (.ref 633) 11 && gRoom [] && true) (some (.inr (187, [some (.ref 633), some (.int k), some (.int c), none, none, none, none, none], []))) none = _; rw [recv_s hS.1 qa_633 qo_61]; rfl)) H
      have K5 : Ev none e1 187 0 [some (.ref 633), some (.int k), some (.int c), none, none, none, none, none] [] M vK5 MK5 0 0 := K5
      have HF := H
      exact Or.inr (Or.inl ⟨h2, h4, b1, b3, ⟨e1, vK5, MK5, rfl, K5, HF⟩⟩)
    · rw [if_neg h4] at H
      have H : Ev none e 201 8 [some (.ref 633), some (.int c), some (.int (k + 1))] [] M v M' 0 0 := Ev.back 2 (fun n => rfl) H
      have HF := H
      exact Or.inr (Or.inr (⟨h2, h4, b1, b3, HF⟩))
theorem rma_46 {e : Nat} {M M' : Mem} {v : Option Value} {c k y : Int32} (hS : SQ M) (H : Ev none e 201 46 [some (.ref 633), some (.int c), some (.int k)] [.int y] M v M' 0 0) : (y = 0 ∧ Ev none e 201 8 [some (.ref 633), some (.int c), some (.int (k + 1))] [] M v M' 0 0) ∨ (¬ (y = 0) ∧ v = some (.int 1) ∧ M' = M) := by
  have H : Ev none e 201 (if y = 0 then 51 else 49) [some (.ref 633), some (.int c), some (.int k)] [] M v M' 0 0 := Ev.back 1 (fun n => rfl) H
  by_cases h1 : y = 0
  · rw [if_pos h1] at H
    have H : Ev none e 201 8 [some (.ref 633), some (.int c), some (.int (k + 1))] [] M v M' 0 0 := Ev.back 2 (fun n => rfl) H
    have HF := H
    exact Or.inl ⟨h1, HF⟩
  · rw [if_neg h1] at H
    have H : Ev none e 201 50 [some (.ref 633), some (.int c), some (.int k)] [.int 1] M v M' 0 0 := Ev.back 1 (fun n => rfl) H
    obtain ⟨z1, z2⟩ := Ev.retz rfl rfl H
    exact Or.inr (⟨h1, z1, z2⟩)
theorem rch_0 {e : Nat} {M M' : Mem} {v : Option Value} (hS : SQ M) (H : Ev none e 202 0 [some (.ref 633), none, none, none, none, none] [] M v M' 0 0) : (2 ≤ (G_195 M (zI M 633 34) (zI M 633 35)) ∧ Ev none e 202 70 [some (.ref 633), some (.int (-1)), some (.int 0), some (.int 0), none, none] [] M v M' 0 0) ∨ (¬ (2 ≤ (G_195 M (zI M 633 34) (zI M 633 35))) ∧ 2 ≤ (G_196 M (zI M 633 34) (zI M 633 35)) ∧ Ev none e 202 70 [some (.ref 633), some (.int (-1)), some (.int 0), some (.int 0), none, none] [] M v M' 0 0) ∨ (¬ (2 ≤ (G_195 M (zI M 633 34) (zI M 633 35))) ∧ ¬ (2 ≤ (G_196 M (zI M 633 34) (zI M 633 35))) ∧ Ev none e 202 34 [some (.ref 633), some (.int 0), none, none, none, none] [] M v M' 0 0) := by
  have H : Ev none e 202 2 [some (.ref 633), none, none, none, none, none] [.ref 633, .ref 633] M v M' 0 0 := Ev.back 2 (fun n => rfl) H
  have H : Ev none e 202 5 [some (.ref 633), none, none, none, none, none] [.int (zI M 633 34), .ref 633] M v M' 0 0 := Ev.back 1 (gs_3 rfl rfl (gf_i hS.1 qa_633 qi_61_34 rfl)) H
  have H : Ev none e 202 6 [some (.ref 633), none, none, none, none, none] [.ref 633, .int (zI M 633 34), .ref 633] M v M' 0 0 := Ev.back 1 (fun n => rfl) H
  have H : Ev none e 202 9 [some (.ref 633), none, none, none, none, none] [.int (zI M 633 35), .int (zI M 633 34), .ref 633] M v M' 0 0 := Ev.back 1 (gs_3 rfl rfl (gf_i hS.1 qa_633 qi_61_35 rfl)) H
  obtain ⟨e1, rfl⟩ := Ev.dpos rfl rfl H
  obtain ⟨vK1, MK1, K1, H⟩ := Ev.callb (fun n_ => gs_7 rfl rfl (show gCal (.invokevirtual 386) 11 (.int (zI M 633 35) :: .int (zI M 633 34) :: .ref 633 :: []) M = some (.inr (195, [some (.ref 633), some (.int (zI M 633 34)), some (.int (zI M 633 35))], [])) from by show @cond (Option ((List Value × Mem) ⊕ (Nat × Lo × List Value))) (true && gRecv M (.ref 633) 11 && gRoom [] && true) (some (.inr (195, [some (.ref 633), some (.int (zI M 633 34)), some (.int (zI M 633 35))], []))) none = _; rw [recv_s hS.1 qa_633 qo_61]; rfl)) H
  obtain ⟨pK1, qK1⟩ := g_195 hS K1
  rw [pK1, qK1] at H
  have H : Ev none (e1 + 1) 202 12 [some (.ref 633), none, none, none, none, none] [.int (G_195 M (zI M 633 34) (zI M 633 35))] M v M' 0 0 := H
  have H : Ev none (e1 + 1) 202 (if 2 ≤ (G_195 M (zI M 633 34) (zI M 633 35)) then 64 else 16) [some (.ref 633), none, none, none, none, none] [] M v M' 0 0 := Ev.back 2 (fun n => rfl) H
  by_cases h2 : 2 ≤ (G_195 M (zI M 633 34) (zI M 633 35))
  · rw [if_pos h2] at H
    have H : Ev none (e1 + 1) 202 70 [some (.ref 633), some (.int (-1)), some (.int 0), some (.int 0), none, none] [] M v M' 0 0 := Ev.back 6 (fun n => rfl) H
    have HF := H
    exact Or.inl ⟨h2, HF⟩
  · rw [if_neg h2] at H
    have H : Ev none (e1 + 1) 202 18 [some (.ref 633), none, none, none, none, none] [.ref 633, .ref 633] M v M' 0 0 := Ev.back 2 (fun n => rfl) H
    have H : Ev none (e1 + 1) 202 21 [some (.ref 633), none, none, none, none, none] [.int (zI M 633 34), .ref 633] M v M' 0 0 := Ev.back 1 (gs_3 rfl rfl (gf_i hS.1 qa_633 qi_61_34 rfl)) H
    have H : Ev none (e1 + 1) 202 22 [some (.ref 633), none, none, none, none, none] [.ref 633, .int (zI M 633 34), .ref 633] M v M' 0 0 := Ev.back 1 (fun n => rfl) H
    have H : Ev none (e1 + 1) 202 25 [some (.ref 633), none, none, none, none, none] [.int (zI M 633 35), .int (zI M 633 34), .ref 633] M v M' 0 0 := Ev.back 1 (gs_3 rfl rfl (gf_i hS.1 qa_633 qi_61_35 rfl)) H
    obtain ⟨vK3, MK3, K3, H⟩ := Ev.callb (fun n_ => gs_7 rfl rfl (show gCal (.invokevirtual 389) 11 (.int (zI M 633 35) :: .int (zI M 633 34) :: .ref 633 :: []) M = some (.inr (196, [some (.ref 633), some (.int (zI M 633 34)), some (.int (zI M 633 35))], [])) from by show @cond (Option ((List Value × Mem) ⊕ (Nat × Lo × List Value))) (true && gRecv M (.ref 633) 11 && gRoom [] && true) (some (.inr (196, [some (.ref 633), some (.int (zI M 633 34)), some (.int (zI M 633 35))], []))) none = _; rw [recv_s hS.1 qa_633 qo_61]; rfl)) H
    obtain ⟨pK3, qK3⟩ := g_196 hS K3
    rw [pK3, qK3] at H
    have H : Ev none (e1 + 1) 202 28 [some (.ref 633), none, none, none, none, none] [.int (G_196 M (zI M 633 34) (zI M 633 35))] M v M' 0 0 := H
    have H : Ev none (e1 + 1) 202 (if 2 ≤ (G_196 M (zI M 633 34) (zI M 633 35)) then 64 else 32) [some (.ref 633), none, none, none, none, none] [] M v M' 0 0 := Ev.back 2 (fun n => rfl) H
    by_cases h4 : 2 ≤ (G_196 M (zI M 633 34) (zI M 633 35))
    · rw [if_pos h4] at H
      have H : Ev none (e1 + 1) 202 70 [some (.ref 633), some (.int (-1)), some (.int 0), some (.int 0), none, none] [] M v M' 0 0 := Ev.back 6 (fun n => rfl) H
      have HF := H
      exact Or.inr (Or.inl ⟨h2, h4, HF⟩)
    · rw [if_neg h4] at H
      have H : Ev none (e1 + 1) 202 34 [some (.ref 633), some (.int 0), none, none, none, none] [] M v M' 0 0 := Ev.back 2 (fun n => rfl) H
      have HF := H
      exact Or.inr (Or.inr (⟨h2, h4, HF⟩))
theorem rch_34 {e : Nat} {M M' : Mem} {v : Option Value} {d : Int32} (hS : SQ M) (H : Ev none e 202 34 [some (.ref 633), some (.int d), none, none, none, none] [] M v M' 0 0) : (8 ≤ d ∧ Ev none e 202 70 [some (.ref 633), some (.int (-1)), some (.int 0), some (.int 0), none, none] [] M v M' 0 0) ∨ (¬ (8 ≤ d) ∧ (G_194 M (zI M 633 34) d) = (zI M 633 35) ∧ v = some (.int d) ∧ M' = M) ∨ (¬ (8 ≤ d) ∧ ¬ ((G_194 M (zI M 633 34) d) = (zI M 633 35)) ∧ Ev none e 202 34 [some (.ref 633), some (.int (d + 1)), none, none, none, none] [] M v M' 0 0) := by
  have H : Ev none e 202 (if 8 ≤ d then 64 else 40) [some (.ref 633), some (.int d), none, none, none, none] [] M v M' 0 0 := Ev.back 3 (fun n => rfl) H
  by_cases h1 : 8 ≤ d
  · rw [if_pos h1] at H
    have H : Ev none e 202 70 [some (.ref 633), some (.int (-1)), some (.int 0), some (.int 0), none, none] [] M v M' 0 0 := Ev.back 6 (fun n => rfl) H
    have HF := H
    exact Or.inl ⟨h1, HF⟩
  · rw [if_neg h1] at H
    have H : Ev none e 202 42 [some (.ref 633), some (.int d), none, none, none, none] [.ref 633, .ref 633] M v M' 0 0 := Ev.back 2 (fun n => rfl) H
    have H : Ev none e 202 45 [some (.ref 633), some (.int d), none, none, none, none] [.int (zI M 633 34), .ref 633] M v M' 0 0 := Ev.back 1 (gs_3 rfl rfl (gf_i hS.1 qa_633 qi_61_34 rfl)) H
    have H : Ev none e 202 46 [some (.ref 633), some (.int d), none, none, none, none] [.int d, .int (zI M 633 34), .ref 633] M v M' 0 0 := Ev.back 1 (fun n => rfl) H
    obtain ⟨e1, rfl⟩ := Ev.dpos rfl rfl H
    obtain ⟨vK2, MK2, K2, H⟩ := Ev.callb (fun n_ => gs_7 rfl rfl (show gCal (.invokevirtual 380) 11 (.int d :: .int (zI M 633 34) :: .ref 633 :: []) M = some (.inr (194, [some (.ref 633), some (.int (zI M 633 34)), some (.int d), none, none], [])) from by show @cond (Option ((List Value × Mem) ⊕ (Nat × Lo × List Value))) (true && gRecv M (.ref 633) 11 && gRoom [] && true) (some (.inr (194, [some (.ref 633), some (.int (zI M 633 34)), some (.int d), none, none], []))) none = _; rw [recv_s hS.1 qa_633 qo_61]; rfl)) H
    obtain ⟨pK2, qK2⟩ := g_194 hS K2
    rw [pK2, qK2] at H
    have H : Ev none (e1 + 1) 202 49 [some (.ref 633), some (.int d), none, none, none, none] [.int (G_194 M (zI M 633 34) d)] M v M' 0 0 := H
    have H : Ev none (e1 + 1) 202 50 [some (.ref 633), some (.int d), none, none, none, none] [.ref 633, .int (G_194 M (zI M 633 34) d)] M v M' 0 0 := Ev.back 1 (fun n => rfl) H
    have H : Ev none (e1 + 1) 202 53 [some (.ref 633), some (.int d), none, none, none, none] [.int (zI M 633 35), .int (G_194 M (zI M 633 34) d)] M v M' 0 0 := Ev.back 1 (gs_3 rfl rfl (gf_i hS.1 qa_633 qi_61_35 rfl)) H
    have H : Ev none (e1 + 1) 202 (if (G_194 M (zI M 633 34) d) = (zI M 633 35) then 56 else 58) [some (.ref 633), some (.int d), none, none, none, none] [] M v M' 0 0 := Ev.back 1 (fun n => rfl) H
    by_cases h3 : (G_194 M (zI M 633 34) d) = (zI M 633 35)
    · rw [if_pos h3] at H
      have H : Ev none (e1 + 1) 202 57 [some (.ref 633), some (.int d), none, none, none, none] [.int d] M v M' 0 0 := Ev.back 1 (fun n => rfl) H
      obtain ⟨z1, z2⟩ := Ev.retz rfl rfl H
      exact Or.inr (Or.inl ⟨h1, h3, z1, z2⟩)
    · rw [if_neg h3] at H
      have H : Ev none (e1 + 1) 202 34 [some (.ref 633), some (.int (d + 1)), none, none, none, none] [] M v M' 0 0 := Ev.back 2 (fun n => rfl) H
      have HF := H
      exact Or.inr (Or.inr (⟨h1, h3, HF⟩))
theorem rch_70 {e : Nat} {M M' : Mem} {v : Option Value} {be le d : Int32} {c4 c5 : Option Value} (hS : SQ M) (H : Ev none e 202 70 [some (.ref 633), some (.int be), some (.int le), some (.int d), c4, c5] [] M v M' 0 0) : (8 ≤ d ∧ v = some (.int be) ∧ M' = M) ∨ (¬ (8 ≤ d) ∧ (G_194 M (zI M 633 34) d) < 0 ∧ Ev none e 202 70 [some (.ref 633), some (.int be), some (.int le), some (.int (d + 1)), some (.int (G_194 M (zI M 633 34) d)), c5] [] M v M' 0 0) ∨ (¬ (8 ≤ d) ∧ ¬ ((G_194 M (zI M 633 34) d) < 0) ∧ (G_148 M (G_194 M (zI M 633 34) d)) = 0 ∧ Ev none e 202 70 [some (.ref 633), some (.int be), some (.int le), some (.int (d + 1)), some (.int (G_194 M (zI M 633 34) d)), c5] [] M v M' 0 0) ∨ (¬ (8 ≤ d) ∧ ¬ ((G_194 M (zI M 633 34) d) < 0) ∧ ¬ ((G_148 M (G_194 M (zI M 633 34) d)) = 0) ∧ (∃ e1 v1 M1, e = e1 + 1 ∧ Ev none e1 201 0 [some (.ref 633), some (.int (G_194 M (zI M 633 34) d)), none] [] M v1 M1 0 0 ∧ Ev none e 202 107 [some (.ref 633), some (.int be), some (.int le), some (.int d), some (.int (G_194 M (zI M 633 34) d)), c5] (v1.toList ++ []) M1 v M' 0 0)) := by
  have H : Ev none e 202 (if 8 ≤ d then 146 else 76) [some (.ref 633), some (.int be), some (.int le), some (.int d), c4, c5] [] M v M' 0 0 := Ev.back 3 (fun n => rfl) H
  by_cases h1 : 8 ≤ d
  · rw [if_pos h1] at H
    have H : Ev none e 202 147 [some (.ref 633), some (.int be), some (.int le), some (.int d), c4, c5] [.int be] M v M' 0 0 := Ev.back 1 (fun n => rfl) H
    obtain ⟨z1, z2⟩ := Ev.retz rfl rfl H
    exact Or.inl ⟨h1, z1, z2⟩
  · rw [if_neg h1] at H
    have H : Ev none e 202 78 [some (.ref 633), some (.int be), some (.int le), some (.int d), c4, c5] [.ref 633, .ref 633] M v M' 0 0 := Ev.back 2 (fun n => rfl) H
    have H : Ev none e 202 81 [some (.ref 633), some (.int be), some (.int le), some (.int d), c4, c5] [.int (zI M 633 34), .ref 633] M v M' 0 0 := Ev.back 1 (gs_3 rfl rfl (gf_i hS.1 qa_633 qi_61_34 rfl)) H
    have H : Ev none e 202 82 [some (.ref 633), some (.int be), some (.int le), some (.int d), c4, c5] [.int d, .int (zI M 633 34), .ref 633] M v M' 0 0 := Ev.back 1 (fun n => rfl) H
    obtain ⟨e1, rfl⟩ := Ev.dpos rfl rfl H
    obtain ⟨vK2, MK2, K2, H⟩ := Ev.callb (fun n_ => gs_7 rfl rfl (show gCal (.invokevirtual 380) 11 (.int d :: .int (zI M 633 34) :: .ref 633 :: []) M = some (.inr (194, [some (.ref 633), some (.int (zI M 633 34)), some (.int d), none, none], [])) from by show @cond (Option ((List Value × Mem) ⊕ (Nat × Lo × List Value))) (true && gRecv M (.ref 633) 11 && gRoom [] && true) (some (.inr (194, [some (.ref 633), some (.int (zI M 633 34)), some (.int d), none, none], []))) none = _; rw [recv_s hS.1 qa_633 qo_61]; rfl)) H
    obtain ⟨pK2, qK2⟩ := g_194 hS K2
    rw [pK2, qK2] at H
    have H : Ev none (e1 + 1) 202 85 [some (.ref 633), some (.int be), some (.int le), some (.int d), c4, c5] [.int (G_194 M (zI M 633 34) d)] M v M' 0 0 := H
    have H : Ev none (e1 + 1) 202 (if (G_194 M (zI M 633 34) d) < 0 then 140 else 92) [some (.ref 633), some (.int be), some (.int le), some (.int d), some (.int (G_194 M (zI M 633 34) d)), c5] [] M v M' 0 0 := Ev.back 3 (fun n => rfl) H
    by_cases h3 : (G_194 M (zI M 633 34) d) < 0
    · rw [if_pos h3] at H
      have H : Ev none (e1 + 1) 202 70 [some (.ref 633), some (.int be), some (.int le), some (.int (d + 1)), some (.int (G_194 M (zI M 633 34) d)), c5] [] M v M' 0 0 := Ev.back 2 (fun n => rfl) H
      have HF := H
      exact Or.inr (Or.inl ⟨h1, h3, HF⟩)
    · rw [if_neg h3] at H
      have H : Ev none (e1 + 1) 202 95 [some (.ref 633), some (.int be), some (.int le), some (.int d), some (.int (G_194 M (zI M 633 34) d)), c5] [.int (G_194 M (zI M 633 34) d), .ref 633] M v M' 0 0 := Ev.back 2 (fun n => rfl) H
      obtain ⟨vK4, MK4, K4, H⟩ := Ev.callb (fun n_ => gs_7 rfl rfl (show gCal (.invokevirtual 158) 11 (.int (G_194 M (zI M 633 34) d) :: .ref 633 :: []) M = some (.inr (148, [some (.ref 633), some (.int (G_194 M (zI M 633 34) d))], [])) from by show @cond (Option ((List Value × Mem) ⊕ (Nat × Lo × List Value))) (true && gRecv M (.ref 633) 11 && gRoom [] && true) (some (.inr (148, [some (.ref 633), some (.int (G_194 M (zI M 633 34) d))], []))) none = _; rw [recv_s hS.1 qa_633 qo_61]; rfl)) H
      obtain ⟨pK4, qK4⟩ := g_148 hS K4
      rw [pK4, qK4] at H
      have H : Ev none (e1 + 1) 202 98 [some (.ref 633), some (.int be), some (.int le), some (.int d), some (.int (G_194 M (zI M 633 34) d)), c5] [.int (G_148 M (G_194 M (zI M 633 34) d))] M v M' 0 0 := H
      have H : Ev none (e1 + 1) 202 (if (G_148 M (G_194 M (zI M 633 34) d)) = 0 then 140 else 101) [some (.ref 633), some (.int be), some (.int le), some (.int d), some (.int (G_194 M (zI M 633 34) d)), c5] [] M v M' 0 0 := Ev.back 1 (fun n => rfl) H
      by_cases h5 : (G_148 M (G_194 M (zI M 633 34) d)) = 0
      · rw [if_pos h5] at H
        have H : Ev none (e1 + 1) 202 70 [some (.ref 633), some (.int be), some (.int le), some (.int (d + 1)), some (.int (G_194 M (zI M 633 34) d)), c5] [] M v M' 0 0 := Ev.back 2 (fun n => rfl) H
        have HF := H
        exact Or.inr (Or.inr (Or.inl ⟨h1, h3, h5, HF⟩))
      · rw [if_neg h5] at H
        have H : Ev none (e1 + 1) 202 104 [some (.ref 633), some (.int be), some (.int le), some (.int d), some (.int (G_194 M (zI M 633 34) d)), c5] [.int (G_194 M (zI M 633 34) d), .ref 633] M v M' 0 0 := Ev.back 2 (fun n => rfl) H
        obtain ⟨vK6, MK6, K6, H⟩ := Ev.callb (fun n_ => gs_7 rfl rfl (show gCal (.invokevirtual 396) 11 (.int (G_194 M (zI M 633 34) d) :: .ref 633 :: []) M = some (.inr (201, [some (.ref 633), some (.int (G_194 M (zI M 633 34) d)), none], [])) from by show @cond (Option ((List Value × Mem) ⊕ (Nat × Lo × List Value))) (true && gRecv M (.ref 633) 11 && gRoom [] && true) (some (.inr (201, [some (.ref 633), some (.int (G_194 M (zI M 633 34) d)), none], []))) none = _; rw [recv_s hS.1 qa_633 qo_61]; rfl)) H
        have K6 : Ev none e1 201 0 [some (.ref 633), some (.int (G_194 M (zI M 633 34) d)), none] [] M vK6 MK6 0 0 := K6
        have HF := H
        exact Or.inr (Or.inr (Or.inr (⟨h1, h3, h5, ⟨e1, vK6, MK6, rfl, K6, HF⟩⟩)))
theorem rch_107 {e : Nat} {M M' : Mem} {v : Option Value} {be le d c y : Int32} {c5 : Option Value} (hS : SQ M) (H : Ev none e 202 107 [some (.ref 633), some (.int be), some (.int le), some (.int d), some (.int c), c5] [.int y] M v M' 0 0) : (y = 0 ∧ (∃ e1 v1 M1, e = e1 + 1 ∧ Ev none e1 200 0 [some (.ref 633), some (.int c), some (.int d), none, none, none, none, none] [] M v1 M1 0 0 ∧ Ev none e 202 120 [some (.ref 633), some (.int be), some (.int le), some (.int d), some (.int c), c5] (v1.toList ++ []) M1 v M' 0 0)) ∨ (¬ (y = 0) ∧ Ev none e 202 70 [some (.ref 633), some (.int be), some (.int le), some (.int (d + 1)), some (.int c), c5] [] M v M' 0 0) := by
  have H : Ev none e 202 (if y = 0 then 113 else 110) [some (.ref 633), some (.int be), some (.int le), some (.int d), some (.int c), c5] [] M v M' 0 0 := Ev.back 1 (fun n => rfl) H
  by_cases h1 : y = 0
  · rw [if_pos h1] at H
    have H : Ev none e 202 117 [some (.ref 633), some (.int be), some (.int le), some (.int d), some (.int c), c5] [.int d, .int c, .ref 633] M v M' 0 0 := Ev.back 3 (fun n => rfl) H
    obtain ⟨e1, rfl⟩ := Ev.dpos rfl rfl H
    obtain ⟨vK2, MK2, K2, H⟩ := Ev.callb (fun n_ => gs_7 rfl rfl (show gCal (.invokevirtual 399) 11 (.int d :: .int c :: .ref 633 :: []) M = some (.inr (200, [some (.ref 633), some (.int c), some (.int d), none, none, none, none, none], [])) from by show @cond (Option ((List Value × Mem) ⊕ (Nat × Lo × List Value))) (true && gRecv M (.ref 633) 11 && gRoom [] && true) (some (.inr (200, [some (.ref 633), some (.int c), some (.int d), none, none, none, none, none], []))) none = _; rw [recv_s hS.1 qa_633 qo_61]; rfl)) H
    have K2 : Ev none e1 200 0 [some (.ref 633), some (.int c), some (.int d), none, none, none, none, none] [] M vK2 MK2 0 0 := K2
    have HF := H
    exact Or.inl ⟨h1, ⟨e1, vK2, MK2, rfl, K2, HF⟩⟩
  · rw [if_neg h1] at H
    have H : Ev none e 202 70 [some (.ref 633), some (.int be), some (.int le), some (.int (d + 1)), some (.int c), c5] [] M v M' 0 0 := Ev.back 3 (fun n => rfl) H
    have HF := H
    exact Or.inr (⟨h1, HF⟩)
theorem rch_120 {e : Nat} {M M' : Mem} {v : Option Value} {be le d c y : Int32} {c5 : Option Value} (hS : SQ M) (H : Ev none e 202 120 [some (.ref 633), some (.int be), some (.int le), some (.int d), some (.int c), c5] [.int y] M v M' 0 0) : (be < 0 ∧ Ev none e 202 70 [some (.ref 633), some (.int d), some (.int y), some (.int (d + 1)), some (.int c), some (.int y)] [] M v M' 0 0) ∨ (¬ (be < 0) ∧ y < le ∧ Ev none e 202 70 [some (.ref 633), some (.int d), some (.int y), some (.int (d + 1)), some (.int c), some (.int y)] [] M v M' 0 0) ∨ (¬ (be < 0) ∧ ¬ (y < le) ∧ Ev none e 202 70 [some (.ref 633), some (.int be), some (.int le), some (.int (d + 1)), some (.int c), some (.int y)] [] M v M' 0 0) := by
  have H : Ev none e 202 (if be < 0 then 135 else 126) [some (.ref 633), some (.int be), some (.int le), some (.int d), some (.int c), some (.int y)] [] M v M' 0 0 := Ev.back 3 (fun n => rfl) H
  by_cases h1 : be < 0
  · rw [if_pos h1] at H
    have H : Ev none e 202 70 [some (.ref 633), some (.int d), some (.int y), some (.int (d + 1)), some (.int c), some (.int y)] [] M v M' 0 0 := Ev.back 6 (fun n => rfl) H
    have HF := H
    exact Or.inl ⟨h1, HF⟩
  · rw [if_neg h1] at H
    have H : Ev none e 202 (if y < le then 135 else 132) [some (.ref 633), some (.int be), some (.int le), some (.int d), some (.int c), some (.int y)] [] M v M' 0 0 := Ev.back 3 (fun n => rfl) H
    by_cases h2 : y < le
    · rw [if_pos h2] at H
      have H : Ev none e 202 70 [some (.ref 633), some (.int d), some (.int y), some (.int (d + 1)), some (.int c), some (.int y)] [] M v M' 0 0 := Ev.back 6 (fun n => rfl) H
      have HF := H
      exact Or.inr (Or.inl ⟨h1, h2, HF⟩)
    · rw [if_neg h2] at H
      have H : Ev none e 202 70 [some (.ref 633), some (.int be), some (.int le), some (.int (d + 1)), some (.int c), some (.int y)] [] M v M' 0 0 := Ev.back 3 (fun n => rfl) H
      have HF := H
      exact Or.inr (Or.inr (⟨h1, h2, HF⟩))
