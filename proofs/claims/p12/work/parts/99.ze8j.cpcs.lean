/-! THE CLASS'S other calls: pieces (made by gwal5.py) -/
theorem net_0 {e : Nat} {M M' : Mem} {v : Option Value} (hS : SQ M) (hLd : fR M 0 2 = 8) (H : Ev none e 97 0 [some (.ref 0)] [] M v M' 0 0) : (∃ e1 v1 M1, e = e1 + 1 ∧ Ev none e1 54 0 [some (.ref 104), some (.ref 8)] [] M v1 M1 0 0 ∧ Ev none e 97 11 [some (.ref 0)] (v1.toList ++ []) M1 v M' 0 0) := by
  have H : Ev none e 97 1 [some (.ref 0)] [.ref 0] M v M' 0 0 := Ev.back 1 (fun n => rfl) H
  have H : Ev none e 97 4 [some (.ref 0)] [.ref 104] M v M' 0 0 := Ev.back 1 (gs_3 rfl rfl (gf_u hS.1 qa_0 qr_0_3 qu_22 rfl)) H
  have H : Ev none e 97 5 [some (.ref 0)] [.ref 0, .ref 104] M v M' 0 0 := Ev.back 1 (fun n => rfl) H
  have H : Ev none e 97 8 [some (.ref 0)] [.ref (fR M 0 2), .ref 104] M v M' 0 0 := Ev.back 1 (gs_3 rfl rfl (gf_r hS.1 qa_0 qr_0_2 rfl)) H
  rw [hLd] at H
  obtain ⟨e1, rfl⟩ := Ev.dpos rfl rfl H
  obtain ⟨vK1, MK1, K1, H⟩ := Ev.callb (fun n_ => gs_7 rfl rfl (show gCal (.invokevirtual 197) 10 (.ref 8 :: .ref 104 :: []) M = some (.inr (54, [some (.ref 104), some (.ref 8)], [])) from by show @cond (Option ((List Value × Mem) ⊕ (Nat × Lo × List Value))) (true && gRecv M (.ref 104) 7 && gRoom [] && true) (some (.inr (54, [some (.ref 104), some (.ref 8)], []))) none = _; rw [recv_s hS.1 qa_104 qo_22]; rfl)) H
  have K1 : Ev none e1 54 0 [some (.ref 104), some (.ref 8)] [] M vK1 MK1 0 0 := K1
  have HF := H
  exact ⟨e1, vK1, MK1, rfl, K1, HF⟩
theorem net_11 {e : Nat} {M M' : Mem} {v : Option Value} (hS : SQ M) (H : Ev none e 97 11 [some (.ref 0)] [] M v M' 0 0) : (∃ e1 v1 M1, e = e1 + 1 ∧ Ev none e1 57 0 [some (.ref 104), none, none] [] M v1 M1 0 0 ∧ Ev none e 97 18 [some (.ref 0)] (v1.toList ++ []) M1 v M' 0 0) := by
  have H : Ev none e 97 12 [some (.ref 0)] [.ref 0] M v M' 0 0 := Ev.back 1 (fun n => rfl) H
  have H : Ev none e 97 15 [some (.ref 0)] [.ref 104] M v M' 0 0 := Ev.back 1 (gs_3 rfl rfl (gf_u hS.1 qa_0 qr_0_3 qu_22 rfl)) H
  obtain ⟨e1, rfl⟩ := Ev.dpos rfl rfl H
  obtain ⟨vK1, MK1, K1, H⟩ := Ev.callb (fun n_ => gs_7 rfl rfl (show gCal (.invokevirtual 207) 10 (.ref 104 :: []) M = some (.inr (57, [some (.ref 104), none, none], [])) from by show @cond (Option ((List Value × Mem) ⊕ (Nat × Lo × List Value))) (true && gRecv M (.ref 104) 7 && gRoom [] && true) (some (.inr (57, [some (.ref 104), none, none], []))) none = _; rw [recv_s hS.1 qa_104 qo_22]; rfl)) H
  have K1 : Ev none e1 57 0 [some (.ref 104), none, none] [] M vK1 MK1 0 0 := K1
  have HF := H
  exact ⟨e1, vK1, MK1, rfl, K1, HF⟩
theorem net_18 {e : Nat} {M M' : Mem} {v : Option Value} {r : Int32} (hS : SQ M) (H : Ev none e 97 18 [some (.ref 0)] [.int r] M v M' 0 0) : v = some (.int r) ∧ M' = M := by
  obtain ⟨z1, z2⟩ := Ev.retz rfl rfl H
  exact ⟨z1, z2⟩
theorem pcs_0 {e : Nat} {M M' : Mem} {v : Option Value} (hS : SQ M) (hLd : fR M 0 2 = 8) (H : Ev none e 98 0 [some (.ref 0)] [] M v M' 0 0) : (∃ e1 v1 M1, e = e1 + 1 ∧ Ev none e1 54 0 [some (.ref 104), some (.ref 8)] [] M v1 M1 0 0 ∧ Ev none e 98 11 [some (.ref 0)] (v1.toList ++ []) M1 v M' 0 0) := by
  have H : Ev none e 98 1 [some (.ref 0)] [.ref 0] M v M' 0 0 := Ev.back 1 (fun n => rfl) H
  have H : Ev none e 98 4 [some (.ref 0)] [.ref 104] M v M' 0 0 := Ev.back 1 (gs_3 rfl rfl (gf_u hS.1 qa_0 qr_0_3 qu_22 rfl)) H
  have H : Ev none e 98 5 [some (.ref 0)] [.ref 0, .ref 104] M v M' 0 0 := Ev.back 1 (fun n => rfl) H
  have H : Ev none e 98 8 [some (.ref 0)] [.ref (fR M 0 2), .ref 104] M v M' 0 0 := Ev.back 1 (gs_3 rfl rfl (gf_r hS.1 qa_0 qr_0_2 rfl)) H
  rw [hLd] at H
  obtain ⟨e1, rfl⟩ := Ev.dpos rfl rfl H
  obtain ⟨vK1, MK1, K1, H⟩ := Ev.callb (fun n_ => gs_7 rfl rfl (show gCal (.invokevirtual 197) 10 (.ref 8 :: .ref 104 :: []) M = some (.inr (54, [some (.ref 104), some (.ref 8)], [])) from by show @cond (Option ((List Value × Mem) ⊕ (Nat × Lo × List Value))) (true && gRecv M (.ref 104) 7 && gRoom [] && true) (some (.inr (54, [some (.ref 104), some (.ref 8)], []))) none = _; rw [recv_s hS.1 qa_104 qo_22]; rfl)) H
  have K1 : Ev none e1 54 0 [some (.ref 104), some (.ref 8)] [] M vK1 MK1 0 0 := K1
  have HF := H
  exact ⟨e1, vK1, MK1, rfl, K1, HF⟩
theorem pcs_11 {e : Nat} {M M' : Mem} {v : Option Value} (hS : SQ M) (H : Ev none e 98 11 [some (.ref 0)] [] M v M' 0 0) : (∃ e1 v1 M1, e = e1 + 1 ∧ Ev none e1 18 0 [some (.ref 192), none, none, none] [] M v1 M1 0 0 ∧ Ev none e 98 18 [some (.ref 0)] (v1.toList ++ []) M1 v M' 0 0) := by
  have H : Ev none e 98 12 [some (.ref 0)] [.ref 0] M v M' 0 0 := Ev.back 1 (fun n => rfl) H
  have H : Ev none e 98 15 [some (.ref 0)] [.ref 192] M v M' 0 0 := Ev.back 1 (gs_3 rfl rfl (gf_u hS.1 qa_0 qr_0_4 qu_41 rfl)) H
  obtain ⟨e1, rfl⟩ := Ev.dpos rfl rfl H
  obtain ⟨vK1, MK1, K1, H⟩ := Ev.callb (fun n_ => gs_7 rfl rfl (show gCal (.invokevirtual 284) 10 (.ref 192 :: []) M = some (.inr (18, [some (.ref 192), none, none, none], [])) from by show @cond (Option ((List Value × Mem) ⊕ (Nat × Lo × List Value))) (true && gRecv M (.ref 192) 2 && gRoom [] && true) (some (.inr (18, [some (.ref 192), none, none, none], []))) none = _; rw [recv_s hS.1 qa_192 qo_41]; rfl)) H
  have K1 : Ev none e1 18 0 [some (.ref 192), none, none, none] [] M vK1 MK1 0 0 := K1
  have HF := H
  exact ⟨e1, vK1, MK1, rfl, K1, HF⟩
theorem pcs_18 {e : Nat} {M M' : Mem} {v : Option Value} {r : Int32} (hS : SQ M) (H : Ev none e 98 18 [some (.ref 0)] [.int r] M v M' 0 0) : v = some (.int r) ∧ M' = M := by
  obtain ⟨z1, z2⟩ := Ev.retz rfl rfl H
  exact ⟨z1, z2⟩
theorem rsc_0 {e : Nat} {M M' : Mem} {v : Option Value} {w t : Int32} (hS : SQ M) (H : Ev none e 99 0 [some (.ref 0), some (.int w), some (.int t), none] [] M v M' 0 0) : ((G_126 M w 1 40) = 0 ∧ v = some (.int (-2)) ∧ M' = M) ∨ (¬ ((G_126 M w 1 40) = 0) ∧ (G_126 M t 1 200) = 0 ∧ v = some (.int (-2)) ∧ M' = M) ∨ (¬ ((G_126 M w 1 40) = 0) ∧ ¬ ((G_126 M t 1 200) = 0) ∧ (∃ e1 v1 M1, e = e1 + 1 ∧ Ev none e1 133 0 [some (.ref 0)] [] M v1 M1 0 0 ∧ Ev none e 99 28 [some (.ref 0), some (.int w), some (.int t), none] (v1.toList ++ []) M1 v M' 0 0)) := by
  have H : Ev none e 99 4 [some (.ref 0), some (.int w), some (.int t), none] [.int 40, .int 1, .int w] M v M' 0 0 := Ev.back 3 (fun n => rfl) H
  obtain ⟨e1, rfl⟩ := Ev.dpos rfl rfl H
  obtain ⟨vK1, MK1, K1, H⟩ := Ev.callb (fun n => rfl) H
  obtain ⟨pK1, qK1⟩ := g_126 hS K1
  rw [pK1, qK1] at H
  have H : Ev none (e1 + 1) 99 7 [some (.ref 0), some (.int w), some (.int t), none] [.int (G_126 M w 1 40)] M v M' 0 0 := H
  have H : Ev none (e1 + 1) 99 (if (G_126 M w 1 40) = 0 then 21 else 10) [some (.ref 0), some (.int w), some (.int t), none] [] M v M' 0 0 := Ev.back 1 (fun n => rfl) H
  by_cases h2 : (G_126 M w 1 40) = 0
  · rw [if_pos h2] at H
    have H : Ev none (e1 + 1) 99 23 [some (.ref 0), some (.int w), some (.int t), none] [.int (-2)] M v M' 0 0 := Ev.back 1 (fun n => rfl) H
    obtain ⟨z1, z2⟩ := Ev.retz rfl rfl H
    exact Or.inl ⟨h2, z1, z2⟩
  · rw [if_neg h2] at H
    have H : Ev none (e1 + 1) 99 15 [some (.ref 0), some (.int w), some (.int t), none] [.int 200, .int 1, .int t] M v M' 0 0 := Ev.back 3 (fun n => rfl) H
    obtain ⟨vK3, MK3, K3, H⟩ := Ev.callb (fun n => rfl) H
    obtain ⟨pK3, qK3⟩ := g_126 hS K3
    rw [pK3, qK3] at H
    have H : Ev none (e1 + 1) 99 18 [some (.ref 0), some (.int w), some (.int t), none] [.int (G_126 M t 1 200)] M v M' 0 0 := H
    have H : Ev none (e1 + 1) 99 (if (G_126 M t 1 200) = 0 then 21 else 24) [some (.ref 0), some (.int w), some (.int t), none] [] M v M' 0 0 := Ev.back 1 (fun n => rfl) H
    by_cases h4 : (G_126 M t 1 200) = 0
    · rw [if_pos h4] at H
      have H : Ev none (e1 + 1) 99 23 [some (.ref 0), some (.int w), some (.int t), none] [.int (-2)] M v M' 0 0 := Ev.back 1 (fun n => rfl) H
      obtain ⟨z1, z2⟩ := Ev.retz rfl rfl H
      exact Or.inr (Or.inl ⟨h2, h4, z1, z2⟩)
    · rw [if_neg h4] at H
      have H : Ev none (e1 + 1) 99 25 [some (.ref 0), some (.int w), some (.int t), none] [.ref 0] M v M' 0 0 := Ev.back 1 (fun n => rfl) H
      obtain ⟨vK5, MK5, K5, H⟩ := Ev.callb (fun n_ => gs_7 rfl rfl (show gCal (.invokevirtual 287) 10 (.ref 0 :: []) M = some (.inr (133, [some (.ref 0)], [])) from by show @cond (Option ((List Value × Mem) ⊕ (Nat × Lo × List Value))) (true && gRecv M (.ref 0) 10 && gRoom [] && true) (some (.inr (133, [some (.ref 0)], []))) none = _; rw [recv_s hS.1 qa_0 qo_0]; rfl)) H
      have K5 : Ev none e1 133 0 [some (.ref 0)] [] M vK5 MK5 0 0 := K5
      have HF := H
      exact Or.inr (Or.inr (⟨h2, h4, ⟨e1, vK5, MK5, rfl, K5, HF⟩⟩))
theorem rsc_28 {e : Nat} {M M' : Mem} {v : Option Value} {w t : Int32} (hS : SQ M) (H : Ev none e 99 28 [some (.ref 0), some (.int w), some (.int t), none] [] M v M' 0 0) : (∃ e1 v1 M1, e = e1 + 1 ∧ Ev none e1 15 0 [some (.ref 192), some (.int 0), none] [] M v1 M1 0 0 ∧ Ev none e 99 36 [some (.ref 0), some (.int w), some (.int t), none] (v1.toList ++ []) M1 v M' 0 0) := by
  have H : Ev none e 99 29 [some (.ref 0), some (.int w), some (.int t), none] [.ref 0] M v M' 0 0 := Ev.back 1 (fun n => rfl) H
  have H : Ev none e 99 32 [some (.ref 0), some (.int w), some (.int t), none] [.ref 192] M v M' 0 0 := Ev.back 1 (gs_3 rfl rfl (gf_u hS.1 qa_0 qr_0_4 qu_41 rfl)) H
  have H : Ev none e 99 33 [some (.ref 0), some (.int w), some (.int t), none] [.int 0, .ref 192] M v M' 0 0 := Ev.back 1 (fun n => rfl) H
  obtain ⟨e1, rfl⟩ := Ev.dpos rfl rfl H
  obtain ⟨vK1, MK1, K1, H⟩ := Ev.callb (fun n_ => gs_7 rfl rfl (show gCal (.invokevirtual 290) 10 (.int 0 :: .ref 192 :: []) M = some (.inr (15, [some (.ref 192), some (.int 0), none], [])) from by show @cond (Option ((List Value × Mem) ⊕ (Nat × Lo × List Value))) (true && gRecv M (.ref 192) 2 && gRoom [] && true) (some (.inr (15, [some (.ref 192), some (.int 0), none], []))) none = _; rw [recv_s hS.1 qa_192 qo_41]; rfl)) H
  have K1 : Ev none e1 15 0 [some (.ref 192), some (.int 0), none] [] M vK1 MK1 0 0 := K1
  have HF := H
  exact ⟨e1, vK1, MK1, rfl, K1, HF⟩
theorem rsc_36 {e : Nat} {M M' : Mem} {v : Option Value} {w t : Int32} (hS : SQ M) (H : Ev none e 99 36 [some (.ref 0), some (.int w), some (.int t), none] [] M v M' 0 0) : Ev none e 99 38 [some (.ref 0), some (.int w), some (.int t), some (.int 1)] [] M v M' 0 0 := by
  have H : Ev none e 99 38 [some (.ref 0), some (.int w), some (.int t), some (.int 1)] [] M v M' 0 0 := Ev.back 2 (fun n => rfl) H
  have HF := H
  exact HF
theorem rsc_38 {e : Nat} {M M' : Mem} {v : Option Value} {w t n : Int32} (hS : SQ M) (H : Ev none e 99 38 [some (.ref 0), some (.int w), some (.int t), some (.int n)] [] M v M' 0 0) : (w < n ∧ v = some (.int (-1)) ∧ M' = M) ∨ (¬ (w < n) ∧ (∃ e1 v1 M1, e = e1 + 1 ∧ Ev none e1 134 0 [some (.ref 0), some (.int t)] [] M v1 M1 0 0 ∧ Ev none e 99 48 [some (.ref 0), some (.int w), some (.int t), some (.int n)] (v1.toList ++ []) M1 v M' 0 0)) := by
  have H : Ev none e 99 (if w < n then 88 else 43) [some (.ref 0), some (.int w), some (.int t), some (.int n)] [] M v M' 0 0 := Ev.back 3 (fun n => rfl) H
  by_cases h1 : w < n
  · rw [if_pos h1] at H
    have H : Ev none e 99 89 [some (.ref 0), some (.int w), some (.int t), some (.int n)] [.int (-1)] M v M' 0 0 := Ev.back 1 (fun n => rfl) H
    obtain ⟨z1, z2⟩ := Ev.retz rfl rfl H
    exact Or.inl ⟨h1, z1, z2⟩
  · rw [if_neg h1] at H
    have H : Ev none e 99 45 [some (.ref 0), some (.int w), some (.int t), some (.int n)] [.int t, .ref 0] M v M' 0 0 := Ev.back 2 (fun n => rfl) H
    obtain ⟨e1, rfl⟩ := Ev.dpos rfl rfl H
    obtain ⟨vK2, MK2, K2, H⟩ := Ev.callb (fun n_ => gs_7 rfl rfl (show gCal (.invokevirtual 293) 10 (.int t :: .ref 0 :: []) M = some (.inr (134, [some (.ref 0), some (.int t)], [])) from by show @cond (Option ((List Value × Mem) ⊕ (Nat × Lo × List Value))) (true && gRecv M (.ref 0) 10 && gRoom [] && true) (some (.inr (134, [some (.ref 0), some (.int t)], []))) none = _; rw [recv_s hS.1 qa_0 qo_0]; rfl)) H
    have K2 : Ev none e1 134 0 [some (.ref 0), some (.int t)] [] M vK2 MK2 0 0 := K2
    have HF := H
    exact Or.inr (⟨h1, ⟨e1, vK2, MK2, rfl, K2, HF⟩⟩)
theorem rsc_48 {e : Nat} {M M' : Mem} {v : Option Value} {w t n : Int32} (hS : SQ M) (H : Ev none e 99 48 [some (.ref 0), some (.int w), some (.int t), some (.int n)] [] M v M' 0 0) : (∃ e1 v1 M1, e = e1 + 1 ∧ Ev none e1 15 0 [some (.ref 192), some (.int (n &&& 1)), none] [] M v1 M1 0 0 ∧ Ev none e 99 58 [some (.ref 0), some (.int w), some (.int t), some (.int n)] (v1.toList ++ []) M1 v M' 0 0) := by
  have H : Ev none e 99 49 [some (.ref 0), some (.int w), some (.int t), some (.int n)] [.ref 0] M v M' 0 0 := Ev.back 1 (fun n => rfl) H
  have H : Ev none e 99 52 [some (.ref 0), some (.int w), some (.int t), some (.int n)] [.ref 192] M v M' 0 0 := Ev.back 1 (gs_3 rfl rfl (gf_u hS.1 qa_0 qr_0_4 qu_41 rfl)) H
  have H : Ev none e 99 55 [some (.ref 0), some (.int w), some (.int t), some (.int n)] [.int (n &&& 1), .ref 192] M v M' 0 0 := Ev.back 3 (fun n => rfl) H
  obtain ⟨e1, rfl⟩ := Ev.dpos rfl rfl H
  obtain ⟨vK1, MK1, K1, H⟩ := Ev.callb (fun n_ => gs_7 rfl rfl (show gCal (.invokevirtual 290) 10 (.int (n &&& 1) :: .ref 192 :: []) M = some (.inr (15, [some (.ref 192), some (.int (n &&& 1)), none], [])) from by show @cond (Option ((List Value × Mem) ⊕ (Nat × Lo × List Value))) (true && gRecv M (.ref 192) 2 && gRoom [] && true) (some (.inr (15, [some (.ref 192), some (.int (n &&& 1)), none], []))) none = _; rw [recv_s hS.1 qa_192 qo_41]; rfl)) H
  have K1 : Ev none e1 15 0 [some (.ref 192), some (.int (n &&& 1)), none] [] M vK1 MK1 0 0 := K1
  have HF := H
  exact ⟨e1, vK1, MK1, rfl, K1, HF⟩
theorem rsc_58 {e : Nat} {M M' : Mem} {v : Option Value} {w t n : Int32} (hS : SQ M) (H : Ev none e 99 58 [some (.ref 0), some (.int w), some (.int t), some (.int n)] [] M v M' 0 0) : (∃ e1 v1 M1, e = e1 + 1 ∧ Ev none e1 17 0 [some (.ref 192), some (.int 0), some (.int 1), none, none] [] M v1 M1 0 0 ∧ Ev none e 99 67 [some (.ref 0), some (.int w), some (.int t), some (.int n)] (v1.toList ++ []) M1 v M' 0 0) := by
  have H : Ev none e 99 59 [some (.ref 0), some (.int w), some (.int t), some (.int n)] [.ref 0] M v M' 0 0 := Ev.back 1 (fun n => rfl) H
  have H : Ev none e 99 62 [some (.ref 0), some (.int w), some (.int t), some (.int n)] [.ref 192] M v M' 0 0 := Ev.back 1 (gs_3 rfl rfl (gf_u hS.1 qa_0 qr_0_4 qu_41 rfl)) H
  have H : Ev none e 99 64 [some (.ref 0), some (.int w), some (.int t), some (.int n)] [.int 1, .int 0, .ref 192] M v M' 0 0 := Ev.back 2 (fun n => rfl) H
  obtain ⟨e1, rfl⟩ := Ev.dpos rfl rfl H
  obtain ⟨vK1, MK1, K1, H⟩ := Ev.callb (fun n_ => gs_7 rfl rfl (show gCal (.invokevirtual 296) 10 (.int 1 :: .int 0 :: .ref 192 :: []) M = some (.inr (17, [some (.ref 192), some (.int 0), some (.int 1), none, none], [])) from by show @cond (Option ((List Value × Mem) ⊕ (Nat × Lo × List Value))) (true && gRecv M (.ref 192) 2 && gRoom [] && true) (some (.inr (17, [some (.ref 192), some (.int 0), some (.int 1), none, none], []))) none = _; rw [recv_s hS.1 qa_192 qo_41]; rfl)) H
  have K1 : Ev none e1 17 0 [some (.ref 192), some (.int 0), some (.int 1), none, none] [] M vK1 MK1 0 0 := K1
  have HF := H
  exact ⟨e1, vK1, MK1, rfl, K1, HF⟩
theorem rsc_67 {e : Nat} {M M' : Mem} {v : Option Value} {w t n p : Int32} (hS : SQ M) (H : Ev none e 99 67 [some (.ref 0), some (.int w), some (.int t), some (.int n)] [.int p] M v M' 0 0) : (∃ e1 v1 M1, e = e1 + 1 ∧ Ev none e1 17 0 [some (.ref 192), some (.int 1), some (.int 0), none, none] [] M v1 M1 0 0 ∧ Ev none e 99 76 [some (.ref 0), some (.int w), some (.int t), some (.int n)] (v1.toList ++ [.int p]) M1 v M' 0 0) := by
  have H : Ev none e 99 68 [some (.ref 0), some (.int w), some (.int t), some (.int n)] [.ref 0, .int p] M v M' 0 0 := Ev.back 1 (fun n => rfl) H
  have H : Ev none e 99 71 [some (.ref 0), some (.int w), some (.int t), some (.int n)] [.ref 192, .int p] M v M' 0 0 := Ev.back 1 (gs_3 rfl rfl (gf_u hS.1 qa_0 qr_0_4 qu_41 rfl)) H
  have H : Ev none e 99 73 [some (.ref 0), some (.int w), some (.int t), some (.int n)] [.int 0, .int 1, .ref 192, .int p] M v M' 0 0 := Ev.back 2 (fun n => rfl) H
  obtain ⟨e1, rfl⟩ := Ev.dpos rfl rfl H
  obtain ⟨vK1, MK1, K1, H⟩ := Ev.callb (fun n_ => gs_7 rfl rfl (show gCal (.invokevirtual 296) 10 (.int 0 :: .int 1 :: .ref 192 :: [.int p]) M = some (.inr (17, [some (.ref 192), some (.int 1), some (.int 0), none, none], [.int p])) from by show @cond (Option ((List Value × Mem) ⊕ (Nat × Lo × List Value))) (true && gRecv M (.ref 192) 2 && gRoom [.int p] && true) (some (.inr (17, [some (.ref 192), some (.int 1), some (.int 0), none, none], [.int p]))) none = _; rw [recv_s hS.1 qa_192 qo_41]; rfl)) H
  have K1 : Ev none e1 17 0 [some (.ref 192), some (.int 1), some (.int 0), none, none] [] M vK1 MK1 0 0 := K1
  have HF := H
  exact ⟨e1, vK1, MK1, rfl, K1, HF⟩
theorem rsc_76 {e : Nat} {M M' : Mem} {v : Option Value} {w t n p q : Int32} (hS : SQ M) (H : Ev none e 99 76 [some (.ref 0), some (.int w), some (.int t), some (.int n)] [.int q, .int p] M v M' 0 0) : ((p + q) = 0 ∧ v = some (.int n) ∧ M' = M) ∨ (¬ ((p + q) = 0) ∧ Ev none e 99 38 [some (.ref 0), some (.int w), some (.int t), some (.int (n + 1))] [] M v M' 0 0) := by
  have H : Ev none e 99 (if (p + q) = 0 then 80 else 82) [some (.ref 0), some (.int w), some (.int t), some (.int n)] [] M v M' 0 0 := Ev.back 2 (fun n => rfl) H
  by_cases h1 : (p + q) = 0
  · rw [if_pos h1] at H
    have H : Ev none e 99 81 [some (.ref 0), some (.int w), some (.int t), some (.int n)] [.int n] M v M' 0 0 := Ev.back 1 (fun n => rfl) H
    obtain ⟨z1, z2⟩ := Ev.retz rfl rfl H
    exact Or.inl ⟨h1, z1, z2⟩
  · rw [if_neg h1] at H
    have H : Ev none e 99 38 [some (.ref 0), some (.int w), some (.int t), some (.int (n + 1))] [] M v M' 0 0 := Ev.back 2 (fun n => rfl) H
    have HF := H
    exact Or.inr (⟨h1, HF⟩)
theorem lea_0 {e : Nat} {M M' : Mem} {v : Option Value} (hS : SQ M) (H : Ev none e 100 0 [some (.ref 0), none] [] M v M' 0 0) : (∃ e1 v1 M1, e = e1 + 1 ∧ Ev none e1 101 0 [some (.ref 0), none, none, none, none] [] M v1 M1 0 0 ∧ Ev none e 100 4 [some (.ref 0), none] (v1.toList ++ []) M1 v M' 0 0) := by
  have H : Ev none e 100 1 [some (.ref 0), none] [.ref 0] M v M' 0 0 := Ev.back 1 (fun n => rfl) H
  obtain ⟨e1, rfl⟩ := Ev.dpos rfl rfl H
  obtain ⟨vK1, MK1, K1, H⟩ := Ev.callb (fun n_ => gs_7 rfl rfl (show gCal (.invokevirtual 299) 10 (.ref 0 :: []) M = some (.inr (101, [some (.ref 0), none, none, none, none], [])) from by show @cond (Option ((List Value × Mem) ⊕ (Nat × Lo × List Value))) (true && gRecv M (.ref 0) 10 && gRoom [] && true) (some (.inr (101, [some (.ref 0), none, none, none, none], []))) none = _; rw [recv_s hS.1 qa_0 qo_0]; rfl)) H
  have K1 : Ev none e1 101 0 [some (.ref 0), none, none, none, none] [] M vK1 MK1 0 0 := K1
  have HF := H
  exact ⟨e1, vK1, MK1, rfl, K1, HF⟩
theorem lea_4 {e : Nat} {M M' : Mem} {v : Option Value} {r : Int32} (hS : SQ M) (H : Ev none e 100 4 [some (.ref 0), none] [.int r] M v M' 0 0) : v = some (.int r) ∧ M' = (wF M 1 1 0) := by
  have H : Ev none e 100 6 [some (.ref 0), some (.int r)] [.ref 0] M v M' 0 0 := Ev.back 2 (fun n => rfl) H
  have H : Ev none e 100 9 [some (.ref 0), some (.int r)] [.ref 1] M v M' 0 0 := Ev.back 1 (gs_3 rfl rfl (gf_u hS.1 qa_0 qr_0_0 qu_1 rfl)) H
  have H : Ev none e 100 10 [some (.ref 0), some (.int r)] [.int 0, .ref 1] M v M' 0 0 := Ev.back 1 (fun n => rfl) H
  obtain ⟨N2, eN2⟩ : ∃ N, N = (wF M 1 1 0) := ⟨_, rfl⟩
  have hN2 : SQ N2 := by rw [eN2]; exact hS.kf
  have H : Ev none e 100 13 [some (.ref 0), some (.int r)] [] N2 v M' 0 0 := by rw [eN2]; exact Ev.pfi rfl rfl rfl hS.1 qa_1 qi_1_1 H
  have H : Ev none e 100 14 [some (.ref 0), some (.int r)] [.int r] N2 v M' 0 0 := Ev.back 1 (fun n => rfl) H
  obtain ⟨z1, z2⟩ := Ev.retz rfl rfl H
  subst eN2
  exact ⟨z1, z2⟩
theorem lot_0 {e : Nat} {M M' : Mem} {v : Option Value} (hS : SQ M) (hLd : fR M 0 2 = 8) (H : Ev none e 101 0 [some (.ref 0), none, none, none, none] [] M v M' 0 0) : ((G_126 M (zI M 1 1) 2 6) = 0 ∧ v = some (.int (-2)) ∧ M' = M) ∨ (¬ ((G_126 M (zI M 1 1) 2 6) = 0) ∧ Ev none e 101 23 [some (.ref 0), some (.int (zI M 1 1)), some (.int 0), none, none] [] M v M' 0 0) := by
  have H : Ev none e 101 1 [some (.ref 0), none, none, none, none] [.ref 0] M v M' 0 0 := Ev.back 1 (fun n => rfl) H
  have H : Ev none e 101 4 [some (.ref 0), none, none, none, none] [.ref 1] M v M' 0 0 := Ev.back 1 (gs_3 rfl rfl (gf_u hS.1 qa_0 qr_0_0 qu_1 rfl)) H
  have H : Ev none e 101 7 [some (.ref 0), none, none, none, none] [.int (zI M 1 1)] M v M' 0 0 := Ev.back 1 (gs_3 rfl rfl (gf_i hS.1 qa_1 qi_1_1 rfl)) H
  have H : Ev none e 101 12 [some (.ref 0), some (.int (zI M 1 1)), none, none, none] [.int 6, .int 2, .int (zI M 1 1)] M v M' 0 0 := Ev.back 4 (fun n => rfl) H
  obtain ⟨e1, rfl⟩ := Ev.dpos rfl rfl H
  obtain ⟨vK1, MK1, K1, H⟩ := Ev.callb (fun n => rfl) H
  obtain ⟨pK1, qK1⟩ := g_126 hS K1
  rw [pK1, qK1] at H
  have H : Ev none (e1 + 1) 101 15 [some (.ref 0), some (.int (zI M 1 1)), none, none, none] [.int (G_126 M (zI M 1 1) 2 6)] M v M' 0 0 := H
  have H : Ev none (e1 + 1) 101 (if (G_126 M (zI M 1 1) 2 6) = 0 then 18 else 21) [some (.ref 0), some (.int (zI M 1 1)), none, none, none] [] M v M' 0 0 := Ev.back 1 (fun n => rfl) H
  by_cases h2 : (G_126 M (zI M 1 1) 2 6) = 0
  · rw [if_pos h2] at H
    have H : Ev none (e1 + 1) 101 20 [some (.ref 0), some (.int (zI M 1 1)), none, none, none] [.int (-2)] M v M' 0 0 := Ev.back 1 (fun n => rfl) H
    obtain ⟨z1, z2⟩ := Ev.retz rfl rfl H
    exact Or.inl ⟨h2, z1, z2⟩
  · rw [if_neg h2] at H
    have H : Ev none (e1 + 1) 101 23 [some (.ref 0), some (.int (zI M 1 1)), some (.int 0), none, none] [] M v M' 0 0 := Ev.back 2 (fun n => rfl) H
    have HF := H
    exact Or.inr (⟨h2, HF⟩)
theorem lot_23 {e : Nat} {M M' : Mem} {v : Option Value} {n i : Int32} {c3 c4 : Option Value} (hS : SQ M) (hLd : fR M 0 2 = 8) (H : Ev none e 101 23 [some (.ref 0), some (.int n), some (.int i), c3, c4] [] M v M' 0 0) : (n ≤ i ∧ (∃ e1 v1 M1, e = e1 + 1 ∧ Ev none e1 54 0 [some (.ref 104), some (.ref 8)] [] M v1 M1 0 0 ∧ Ev none e 101 115 [some (.ref 0), some (.int n), some (.int i), c3, c4] (v1.toList ++ []) M1 v M' 0 0)) ∨ (¬ (n ≤ i) ∧ (0 ≤ i.toInt ∧ i.toInt < 440) ∧ (∃ e1 v1 M1, e = e1 + 1 ∧ Ev none e1 128 0 [some (.ref 0), some (.int (rI M 2 i))] [] M v1 M1 0 0 ∧ Ev none e 101 43 [some (.ref 0), some (.int n), some (.int i), some (.int (rI M 2 i)), c4] (v1.toList ++ []) M1 v M' 0 0)) := by
  have H : Ev none e 101 (if n ≤ i then 104 else 28) [some (.ref 0), some (.int n), some (.int i), c3, c4] [] M v M' 0 0 := Ev.back 3 (fun n => rfl) H
  by_cases h1 : n ≤ i
  · rw [if_pos h1] at H
    have H : Ev none e 101 105 [some (.ref 0), some (.int n), some (.int i), c3, c4] [.ref 0] M v M' 0 0 := Ev.back 1 (fun n => rfl) H
    have H : Ev none e 101 108 [some (.ref 0), some (.int n), some (.int i), c3, c4] [.ref 104] M v M' 0 0 := Ev.back 1 (gs_3 rfl rfl (gf_u hS.1 qa_0 qr_0_3 qu_22 rfl)) H
    have H : Ev none e 101 109 [some (.ref 0), some (.int n), some (.int i), c3, c4] [.ref 0, .ref 104] M v M' 0 0 := Ev.back 1 (fun n => rfl) H
    have H : Ev none e 101 112 [some (.ref 0), some (.int n), some (.int i), c3, c4] [.ref (fR M 0 2), .ref 104] M v M' 0 0 := Ev.back 1 (gs_3 rfl rfl (gf_r hS.1 qa_0 qr_0_2 rfl)) H
    rw [hLd] at H
    obtain ⟨e1, rfl⟩ := Ev.dpos rfl rfl H
    obtain ⟨vK2, MK2, K2, H⟩ := Ev.callb (fun n_ => gs_7 rfl rfl (show gCal (.invokevirtual 197) 10 (.ref 8 :: .ref 104 :: []) M = some (.inr (54, [some (.ref 104), some (.ref 8)], [])) from by show @cond (Option ((List Value × Mem) ⊕ (Nat × Lo × List Value))) (true && gRecv M (.ref 104) 7 && gRoom [] && true) (some (.inr (54, [some (.ref 104), some (.ref 8)], []))) none = _; rw [recv_s hS.1 qa_104 qo_22]; rfl)) H
    have K2 : Ev none e1 54 0 [some (.ref 104), some (.ref 8)] [] M vK2 MK2 0 0 := K2
    have HF := H
    exact Or.inl ⟨h1, ⟨e1, vK2, MK2, rfl, K2, HF⟩⟩
  · rw [if_neg h1] at H
    have H : Ev none e 101 29 [some (.ref 0), some (.int n), some (.int i), c3, c4] [.ref 0] M v M' 0 0 := Ev.back 1 (fun n => rfl) H
    have H : Ev none e 101 32 [some (.ref 0), some (.int n), some (.int i), c3, c4] [.ref 1] M v M' 0 0 := Ev.back 1 (gs_3 rfl rfl (gf_u hS.1 qa_0 qr_0_0 qu_1 rfl)) H
    have H : Ev none e 101 35 [some (.ref 0), some (.int n), some (.int i), c3, c4] [.ref 2] M v M' 0 0 := Ev.back 1 (gs_3 rfl rfl (gf_u hS.1 qa_1 qr_1_0 qu_2 rfl)) H
    have H : Ev none e 101 36 [some (.ref 0), some (.int n), some (.int i), c3, c4] [.int i, .ref 2] M v M' 0 0 := Ev.back 1 (fun n => rfl) H
    obtain ⟨b3, H⟩ := Ev.ial rfl rfl hS.1 qa_2 qw_2 H
    have H : Ev none e 101 37 [some (.ref 0), some (.int n), some (.int i), c3, c4] [.int (rI M 2 i)] M v M' 0 0 := H
    have H : Ev none e 101 40 [some (.ref 0), some (.int n), some (.int i), some (.int (rI M 2 i)), c4] [.int (rI M 2 i), .ref 0] M v M' 0 0 := Ev.back 3 (fun n => rfl) H
    obtain ⟨e1, rfl⟩ := Ev.dpos rfl rfl H
    obtain ⟨vK4, MK4, K4, H⟩ := Ev.callb (fun n_ => gs_7 rfl rfl (show gCal (.invokevirtual 302) 10 (.int (rI M 2 i) :: .ref 0 :: []) M = some (.inr (128, [some (.ref 0), some (.int (rI M 2 i))], [])) from by show @cond (Option ((List Value × Mem) ⊕ (Nat × Lo × List Value))) (true && gRecv M (.ref 0) 10 && gRoom [] && true) (some (.inr (128, [some (.ref 0), some (.int (rI M 2 i))], []))) none = _; rw [recv_s hS.1 qa_0 qo_0]; rfl)) H
    have K4 : Ev none e1 128 0 [some (.ref 0), some (.int (rI M 2 i))] [] M vK4 MK4 0 0 := K4
    have HF := H
    exact Or.inr (⟨h1, b3, ⟨e1, vK4, MK4, rfl, K4, HF⟩⟩)
theorem lot_43 {e : Nat} {M M' : Mem} {v : Option Value} {n i d r : Int32} {c4 : Option Value} (hS : SQ M) (hLd : fR M 0 2 = 8) (H : Ev none e 101 43 [some (.ref 0), some (.int n), some (.int i), some (.int d), c4] [.int r] M v M' 0 0) : (r = 0 ∧ v = some (.int (-2)) ∧ M' = M) ∨ (¬ (r = 0) ∧ (0 ≤ d.toInt ∧ d.toInt < 9) ∧ (0 ≤ i.toInt ∧ i.toInt < 6) ∧ Ev none e 101 67 [some (.ref 0), some (.int n), some (.int i), some (.int d), some (.int 0)] [] (wI M 344 i.toNatClampNeg (rI M (8 + 9) d)) v M' 0 0) := by
  have H : Ev none e 101 (if r = 0 then 46 else 49) [some (.ref 0), some (.int n), some (.int i), some (.int d), c4] [] M v M' 0 0 := Ev.back 1 (fun n => rfl) H
  by_cases h1 : r = 0
  · rw [if_pos h1] at H
    have H : Ev none e 101 48 [some (.ref 0), some (.int n), some (.int i), some (.int d), c4] [.int (-2)] M v M' 0 0 := Ev.back 1 (fun n => rfl) H
    obtain ⟨z1, z2⟩ := Ev.retz rfl rfl H
    exact Or.inl ⟨h1, z1, z2⟩
  · rw [if_neg h1] at H
    have H : Ev none e 101 50 [some (.ref 0), some (.int n), some (.int i), some (.int d), c4] [.ref 0] M v M' 0 0 := Ev.back 1 (fun n => rfl) H
    have H : Ev none e 101 53 [some (.ref 0), some (.int n), some (.int i), some (.int d), c4] [.ref 344] M v M' 0 0 := Ev.back 1 (gs_3 rfl rfl (gf_u hS.1 qa_0 qr_0_12 qu_60 rfl)) H
    have H : Ev none e 101 55 [some (.ref 0), some (.int n), some (.int i), some (.int d), c4] [.ref 0, .int i, .ref 344] M v M' 0 0 := Ev.back 2 (fun n => rfl) H
    have H : Ev none e 101 58 [some (.ref 0), some (.int n), some (.int i), some (.int d), c4] [.ref (fR M 0 2), .int i, .ref 344] M v M' 0 0 := Ev.back 1 (gs_3 rfl rfl (gf_r hS.1 qa_0 qr_0_2 rfl)) H
    rw [hLd] at H
    have H : Ev none e 101 61 [some (.ref 0), some (.int n), some (.int i), some (.int d), c4] [.ref (8 + 9), .int i, .ref 344] M v M' 0 0 := Ev.back 1 (gs_3 rfl rfl (gf_x hS.1 qa_8 qo_8 (fx_l10 hS qa_8) rfl)) H
    have H : Ev none e 101 62 [some (.ref 0), some (.int n), some (.int i), some (.int d), c4] [.int d, .ref (8 + 9), .int i, .ref 344] M v M' 0 0 := Ev.back 1 (fun n => rfl) H
    obtain ⟨b2, H⟩ := Ev.ial rfl rfl hS.1 (fx_h10 qa_8) qw_17 H
    have H : Ev none e 101 63 [some (.ref 0), some (.int n), some (.int i), some (.int d), c4] [.int (rI M (8 + 9) d), .int i, .ref 344] M v M' 0 0 := H
    obtain ⟨b3, H⟩ := Ev.ias rfl rfl hS.1 qa_344 qw_60 H
    obtain ⟨N4, eN4⟩ : ∃ N, N = (wI M 344 i.toNatClampNeg (rI M (8 + 9) d)) := ⟨_, rfl⟩
    have hN4 : SQ N4 := by rw [eN4]; exact hS.ki
    have H : Ev none e 101 64 [some (.ref 0), some (.int n), some (.int i), some (.int d), c4] [] N4 v M' 0 0 := by rw [eN4]; exact H
    have H : Ev none e 101 67 [some (.ref 0), some (.int n), some (.int i), some (.int d), some (.int 0)] [] N4 v M' 0 0 := Ev.back 2 (fun n => rfl) H
    have HF := H
    subst eN4
    exact Or.inr (⟨h1, b2, b3, HF⟩)
theorem lot_67 {e : Nat} {M M' : Mem} {v : Option Value} {n i d j : Int32} (hS : SQ M) (hLd : fR M 0 2 = 8) (H : Ev none e 101 67 [some (.ref 0), some (.int n), some (.int i), some (.int d), some (.int j)] [] M v M' 0 0) : (i ≤ j ∧ Ev none e 101 23 [some (.ref 0), some (.int n), some (.int (i + 1)), some (.int d), some (.int j)] [] M v M' 0 0) ∨ (¬ (i ≤ j) ∧ (rI M 344 j) = (rI M 344 i) ∧ (0 ≤ j.toInt ∧ j.toInt < 6) ∧ (0 ≤ i.toInt ∧ i.toInt < 6) ∧ v = some (.int (-2)) ∧ M' = M) ∨ (¬ (i ≤ j) ∧ ¬ ((rI M 344 j) = (rI M 344 i)) ∧ (0 ≤ j.toInt ∧ j.toInt < 6) ∧ (0 ≤ i.toInt ∧ i.toInt < 6) ∧ Ev none e 101 67 [some (.ref 0), some (.int n), some (.int i), some (.int d), some (.int (j + 1))] [] M v M' 0 0) := by
  have H : Ev none e 101 (if i ≤ j then 98 else 73) [some (.ref 0), some (.int n), some (.int i), some (.int d), some (.int j)] [] M v M' 0 0 := Ev.back 3 (fun n => rfl) H
  by_cases h1 : i ≤ j
  · rw [if_pos h1] at H
    have H : Ev none e 101 23 [some (.ref 0), some (.int n), some (.int (i + 1)), some (.int d), some (.int j)] [] M v M' 0 0 := Ev.back 2 (fun n => rfl) H
    have HF := H
    exact Or.inl ⟨h1, HF⟩
  · rw [if_neg h1] at H
    have H : Ev none e 101 74 [some (.ref 0), some (.int n), some (.int i), some (.int d), some (.int j)] [.ref 0] M v M' 0 0 := Ev.back 1 (fun n => rfl) H
    have H : Ev none e 101 77 [some (.ref 0), some (.int n), some (.int i), some (.int d), some (.int j)] [.ref 344] M v M' 0 0 := Ev.back 1 (gs_3 rfl rfl (gf_u hS.1 qa_0 qr_0_12 qu_60 rfl)) H
    have H : Ev none e 101 79 [some (.ref 0), some (.int n), some (.int i), some (.int d), some (.int j)] [.int j, .ref 344] M v M' 0 0 := Ev.back 1 (fun n => rfl) H
    obtain ⟨b2, H⟩ := Ev.ial rfl rfl hS.1 qa_344 qw_60 H
    have H : Ev none e 101 80 [some (.ref 0), some (.int n), some (.int i), some (.int d), some (.int j)] [.int (rI M 344 j)] M v M' 0 0 := H
    have H : Ev none e 101 81 [some (.ref 0), some (.int n), some (.int i), some (.int d), some (.int j)] [.ref 0, .int (rI M 344 j)] M v M' 0 0 := Ev.back 1 (fun n => rfl) H
    have H : Ev none e 101 84 [some (.ref 0), some (.int n), some (.int i), some (.int d), some (.int j)] [.ref 344, .int (rI M 344 j)] M v M' 0 0 := Ev.back 1 (gs_3 rfl rfl (gf_u hS.1 qa_0 qr_0_12 qu_60 rfl)) H
    have H : Ev none e 101 85 [some (.ref 0), some (.int n), some (.int i), some (.int d), some (.int j)] [.int i, .ref 344, .int (rI M 344 j)] M v M' 0 0 := Ev.back 1 (fun n => rfl) H
    obtain ⟨b3, H⟩ := Ev.ial rfl rfl hS.1 qa_344 qw_60 H
    have H : Ev none e 101 86 [some (.ref 0), some (.int n), some (.int i), some (.int d), some (.int j)] [.int (rI M 344 i), .int (rI M 344 j)] M v M' 0 0 := H
    have H : Ev none e 101 (if (rI M 344 j) = (rI M 344 i) then 89 else 92) [some (.ref 0), some (.int n), some (.int i), some (.int d), some (.int j)] [] M v M' 0 0 := Ev.back 1 (fun n => rfl) H
    by_cases h4 : (rI M 344 j) = (rI M 344 i)
    · rw [if_pos h4] at H
      have H : Ev none e 101 91 [some (.ref 0), some (.int n), some (.int i), some (.int d), some (.int j)] [.int (-2)] M v M' 0 0 := Ev.back 1 (fun n => rfl) H
      obtain ⟨z1, z2⟩ := Ev.retz rfl rfl H
      exact Or.inr (Or.inl ⟨h1, h4, b2, b3, z1, z2⟩)
    · rw [if_neg h4] at H
      have H : Ev none e 101 67 [some (.ref 0), some (.int n), some (.int i), some (.int d), some (.int (j + 1))] [] M v M' 0 0 := Ev.back 2 (fun n => rfl) H
      have HF := H
      exact Or.inr (Or.inr (⟨h1, h4, b2, b3, HF⟩))
theorem lot_115 {e : Nat} {M M' : Mem} {v : Option Value} {n i : Int32} {c3 c4 : Option Value} (hS : SQ M) (H : Ev none e 101 115 [some (.ref 0), some (.int n), some (.int i), c3, c4] [] M v M' 0 0) : (∃ e1 v1 M1, e = e1 + 1 ∧ Ev none e1 21 0 [some (.ref 192), some (.ref 344), some (.int n), none, none, none, none] [] M v1 M1 0 0 ∧ Ev none e 101 127 [some (.ref 0), some (.int n), some (.int i), c3, c4] (v1.toList ++ []) M1 v M' 0 0) := by
  have H : Ev none e 101 116 [some (.ref 0), some (.int n), some (.int i), c3, c4] [.ref 0] M v M' 0 0 := Ev.back 1 (fun n => rfl) H
  have H : Ev none e 101 119 [some (.ref 0), some (.int n), some (.int i), c3, c4] [.ref 192] M v M' 0 0 := Ev.back 1 (gs_3 rfl rfl (gf_u hS.1 qa_0 qr_0_4 qu_41 rfl)) H
  have H : Ev none e 101 120 [some (.ref 0), some (.int n), some (.int i), c3, c4] [.ref 0, .ref 192] M v M' 0 0 := Ev.back 1 (fun n => rfl) H
  have H : Ev none e 101 123 [some (.ref 0), some (.int n), some (.int i), c3, c4] [.ref 344, .ref 192] M v M' 0 0 := Ev.back 1 (gs_3 rfl rfl (gf_u hS.1 qa_0 qr_0_12 qu_60 rfl)) H
  have H : Ev none e 101 124 [some (.ref 0), some (.int n), some (.int i), c3, c4] [.int n, .ref 344, .ref 192] M v M' 0 0 := Ev.back 1 (fun n => rfl) H
  obtain ⟨e1, rfl⟩ := Ev.dpos rfl rfl H
  obtain ⟨vK1, MK1, K1, H⟩ := Ev.callb (fun n_ => gs_7 rfl rfl (show gCal (.invokevirtual 305) 10 (.int n :: .ref 344 :: .ref 192 :: []) M = some (.inr (21, [some (.ref 192), some (.ref 344), some (.int n), none, none, none, none], [])) from by show @cond (Option ((List Value × Mem) ⊕ (Nat × Lo × List Value))) (true && gRecv M (.ref 192) 2 && gRoom [] && true) (some (.inr (21, [some (.ref 192), some (.ref 344), some (.int n), none, none, none, none], []))) none = _; rw [recv_s hS.1 qa_192 qo_41]; rfl)) H
  have K1 : Ev none e1 21 0 [some (.ref 192), some (.ref 344), some (.int n), none, none, none, none] [] M vK1 MK1 0 0 := K1
  have HF := H
  exact ⟨e1, vK1, MK1, rfl, K1, HF⟩
theorem lot_127 {e : Nat} {M M' : Mem} {v : Option Value} {n i r : Int32} {c3 c4 : Option Value} (hS : SQ M) (H : Ev none e 101 127 [some (.ref 0), some (.int n), some (.int i), c3, c4] [.int r] M v M' 0 0) : v = some (.int r) ∧ M' = M := by
  obtain ⟨z1, z2⟩ := Ev.retz rfl rfl H
  exact ⟨z1, z2⟩
theorem lon_0 {e : Nat} {M M' : Mem} {v : Option Value} {a b : Int32} (hS : SQ M) (H : Ev none e 102 0 [some (.ref 0), some (.int a), some (.int b)] [] M v M' 0 0) : (∃ e1 v1 M1, e = e1 + 1 ∧ Ev none e1 129 0 [some (.ref 0), some (.int a), some (.int b)] [] M v1 M1 0 0 ∧ Ev none e 102 6 [some (.ref 0), some (.int a), some (.int b)] (v1.toList ++ []) M1 v M' 0 0) := by
  have H : Ev none e 102 3 [some (.ref 0), some (.int a), some (.int b)] [.int b, .int a, .ref 0] M v M' 0 0 := Ev.back 3 (fun n => rfl) H
  obtain ⟨e1, rfl⟩ := Ev.dpos rfl rfl H
  obtain ⟨vK1, MK1, K1, H⟩ := Ev.callb (fun n_ => gs_7 rfl rfl (show gCal (.invokevirtual 162) 10 (.int b :: .int a :: .ref 0 :: []) M = some (.inr (129, [some (.ref 0), some (.int a), some (.int b)], [])) from by show @cond (Option ((List Value × Mem) ⊕ (Nat × Lo × List Value))) (true && gRecv M (.ref 0) 10 && gRoom [] && true) (some (.inr (129, [some (.ref 0), some (.int a), some (.int b)], []))) none = _; rw [recv_s hS.1 qa_0 qo_0]; rfl)) H
  have K1 : Ev none e1 129 0 [some (.ref 0), some (.int a), some (.int b)] [] M vK1 MK1 0 0 := K1
  have HF := H
  exact ⟨e1, vK1, MK1, rfl, K1, HF⟩
theorem lon_6 {e : Nat} {M M' : Mem} {v : Option Value} {a b r : Int32} (hS : SQ M) (hLd : fR M 0 2 = 8) (H : Ev none e 102 6 [some (.ref 0), some (.int a), some (.int b)] [.int r] M v M' 0 0) : (r = 0 ∧ v = some (.int (-2)) ∧ M' = M) ∨ (¬ (r = 0) ∧ (∃ e1 v1 M1, e = e1 + 1 ∧ Ev none e1 54 0 [some (.ref 104), some (.ref 8)] [] M v1 M1 0 0 ∧ Ev none e 102 23 [some (.ref 0), some (.int a), some (.int b)] (v1.toList ++ []) M1 v M' 0 0)) := by
  have H : Ev none e 102 (if r = 0 then 9 else 12) [some (.ref 0), some (.int a), some (.int b)] [] M v M' 0 0 := Ev.back 1 (fun n => rfl) H
  by_cases h1 : r = 0
  · rw [if_pos h1] at H
    have H : Ev none e 102 11 [some (.ref 0), some (.int a), some (.int b)] [.int (-2)] M v M' 0 0 := Ev.back 1 (fun n => rfl) H
    obtain ⟨z1, z2⟩ := Ev.retz rfl rfl H
    exact Or.inl ⟨h1, z1, z2⟩
  · rw [if_neg h1] at H
    have H : Ev none e 102 13 [some (.ref 0), some (.int a), some (.int b)] [.ref 0] M v M' 0 0 := Ev.back 1 (fun n => rfl) H
    have H : Ev none e 102 16 [some (.ref 0), some (.int a), some (.int b)] [.ref 104] M v M' 0 0 := Ev.back 1 (gs_3 rfl rfl (gf_u hS.1 qa_0 qr_0_3 qu_22 rfl)) H
    have H : Ev none e 102 17 [some (.ref 0), some (.int a), some (.int b)] [.ref 0, .ref 104] M v M' 0 0 := Ev.back 1 (fun n => rfl) H
    have H : Ev none e 102 20 [some (.ref 0), some (.int a), some (.int b)] [.ref (fR M 0 2), .ref 104] M v M' 0 0 := Ev.back 1 (gs_3 rfl rfl (gf_r hS.1 qa_0 qr_0_2 rfl)) H
    rw [hLd] at H
    obtain ⟨e1, rfl⟩ := Ev.dpos rfl rfl H
    obtain ⟨vK2, MK2, K2, H⟩ := Ev.callb (fun n_ => gs_7 rfl rfl (show gCal (.invokevirtual 197) 10 (.ref 8 :: .ref 104 :: []) M = some (.inr (54, [some (.ref 104), some (.ref 8)], [])) from by show @cond (Option ((List Value × Mem) ⊕ (Nat × Lo × List Value))) (true && gRecv M (.ref 104) 7 && gRoom [] && true) (some (.inr (54, [some (.ref 104), some (.ref 8)], []))) none = _; rw [recv_s hS.1 qa_104 qo_22]; rfl)) H
    have K2 : Ev none e1 54 0 [some (.ref 104), some (.ref 8)] [] M vK2 MK2 0 0 := K2
    have HF := H
    exact Or.inr (⟨h1, ⟨e1, vK2, MK2, rfl, K2, HF⟩⟩)
theorem lon_23 {e : Nat} {M M' : Mem} {v : Option Value} {a b : Int32} (hS : SQ M) (hLd : fR M 0 2 = 8) (H : Ev none e 102 23 [some (.ref 0), some (.int a), some (.int b)] [] M v M' 0 0) : (0 ≤ a.toInt ∧ a.toInt < 9) ∧ (0 ≤ b.toInt ∧ b.toInt < 9) ∧ (∃ e1 v1 M1, e = e1 + 1 ∧ Ev none e1 19 0 [some (.ref 192), some (.int (rI M (8 + 9) a)), some (.int (rI M (8 + 9) b)), none, none, none, none] [] M v1 M1 0 0 ∧ Ev none e 102 48 [some (.ref 0), some (.int a), some (.int b)] (v1.toList ++ []) M1 v M' 0 0) := by
  have H : Ev none e 102 24 [some (.ref 0), some (.int a), some (.int b)] [.ref 0] M v M' 0 0 := Ev.back 1 (fun n => rfl) H
  have H : Ev none e 102 27 [some (.ref 0), some (.int a), some (.int b)] [.ref 192] M v M' 0 0 := Ev.back 1 (gs_3 rfl rfl (gf_u hS.1 qa_0 qr_0_4 qu_41 rfl)) H
  have H : Ev none e 102 28 [some (.ref 0), some (.int a), some (.int b)] [.ref 0, .ref 192] M v M' 0 0 := Ev.back 1 (fun n => rfl) H
  have H : Ev none e 102 31 [some (.ref 0), some (.int a), some (.int b)] [.ref (fR M 0 2), .ref 192] M v M' 0 0 := Ev.back 1 (gs_3 rfl rfl (gf_r hS.1 qa_0 qr_0_2 rfl)) H
  rw [hLd] at H
  have H : Ev none e 102 34 [some (.ref 0), some (.int a), some (.int b)] [.ref (8 + 9), .ref 192] M v M' 0 0 := Ev.back 1 (gs_3 rfl rfl (gf_x hS.1 qa_8 qo_8 (fx_l10 hS qa_8) rfl)) H
  have H : Ev none e 102 35 [some (.ref 0), some (.int a), some (.int b)] [.int a, .ref (8 + 9), .ref 192] M v M' 0 0 := Ev.back 1 (fun n => rfl) H
  obtain ⟨b1, H⟩ := Ev.ial rfl rfl hS.1 (fx_h10 qa_8) qw_17 H
  have H : Ev none e 102 36 [some (.ref 0), some (.int a), some (.int b)] [.int (rI M (8 + 9) a), .ref 192] M v M' 0 0 := H
  have H : Ev none e 102 37 [some (.ref 0), some (.int a), some (.int b)] [.ref 0, .int (rI M (8 + 9) a), .ref 192] M v M' 0 0 := Ev.back 1 (fun n => rfl) H
  have H : Ev none e 102 40 [some (.ref 0), some (.int a), some (.int b)] [.ref (fR M 0 2), .int (rI M (8 + 9) a), .ref 192] M v M' 0 0 := Ev.back 1 (gs_3 rfl rfl (gf_r hS.1 qa_0 qr_0_2 rfl)) H
  rw [hLd] at H
  have H : Ev none e 102 43 [some (.ref 0), some (.int a), some (.int b)] [.ref (8 + 9), .int (rI M (8 + 9) a), .ref 192] M v M' 0 0 := Ev.back 1 (gs_3 rfl rfl (gf_x hS.1 qa_8 qo_8 (fx_l10 hS qa_8) rfl)) H
  have H : Ev none e 102 44 [some (.ref 0), some (.int a), some (.int b)] [.int b, .ref (8 + 9), .int (rI M (8 + 9) a), .ref 192] M v M' 0 0 := Ev.back 1 (fun n => rfl) H
  obtain ⟨b2, H⟩ := Ev.ial rfl rfl hS.1 (fx_h10 qa_8) qw_17 H
  have H : Ev none e 102 45 [some (.ref 0), some (.int a), some (.int b)] [.int (rI M (8 + 9) b), .int (rI M (8 + 9) a), .ref 192] M v M' 0 0 := H
  obtain ⟨e1, rfl⟩ := Ev.dpos rfl rfl H
  obtain ⟨vK3, MK3, K3, H⟩ := Ev.callb (fun n_ => gs_7 rfl rfl (show gCal (.invokevirtual 309) 10 (.int (rI M (8 + 9) b) :: .int (rI M (8 + 9) a) :: .ref 192 :: []) M = some (.inr (19, [some (.ref 192), some (.int (rI M (8 + 9) a)), some (.int (rI M (8 + 9) b)), none, none, none, none], [])) from by show @cond (Option ((List Value × Mem) ⊕ (Nat × Lo × List Value))) (true && gRecv M (.ref 192) 2 && gRoom [] && true) (some (.inr (19, [some (.ref 192), some (.int (rI M (8 + 9) a)), some (.int (rI M (8 + 9) b)), none, none, none, none], []))) none = _; rw [recv_s hS.1 qa_192 qo_41]; rfl)) H
  have K3 : Ev none e1 19 0 [some (.ref 192), some (.int (rI M (8 + 9) a)), some (.int (rI M (8 + 9) b)), none, none, none, none] [] M vK3 MK3 0 0 := K3
  have HF := H
  exact ⟨b1, b2, ⟨e1, vK3, MK3, rfl, K3, HF⟩⟩
theorem lon_48 {e : Nat} {M M' : Mem} {v : Option Value} {a b r : Int32} (hS : SQ M) (H : Ev none e 102 48 [some (.ref 0), some (.int a), some (.int b)] [.int r] M v M' 0 0) : v = some (.int r) ∧ M' = M := by
  obtain ⟨z1, z2⟩ := Ev.retz rfl rfl H
  exact ⟨z1, z2⟩
theorem tuc_0 {e : Nat} {M M' : Mem} {v : Option Value} {h w t m : Int32} (hS : SQ M) (H : Ev none e 103 0 [some (.ref 0), some (.int h), some (.int w), some (.int t), some (.int m), none, none, none, none, none, none] [] M v M' 0 0) : ((G_126 M h 0 5) = 0 ∧ v = some (.int (-2)) ∧ M' = M) ∨ (¬ ((G_126 M h 0 5) = 0) ∧ (G_126 M w 1 4) = 0 ∧ v = some (.int (-2)) ∧ M' = M) ∨ (¬ ((G_126 M h 0 5) = 0) ∧ ¬ ((G_126 M w 1 4) = 0) ∧ (G_126 M t 1 100) = 0 ∧ v = some (.int (-2)) ∧ M' = M) ∨ (¬ ((G_126 M h 0 5) = 0) ∧ ¬ ((G_126 M w 1 4) = 0) ∧ ¬ ((G_126 M t 1 100) = 0) ∧ (0 ≤ h.toInt ∧ h.toInt < 6) ∧ (∃ e1 v1 M1, e = e1 + 1 ∧ Ev none e1 52 0 [some (.ref (oI M 109 h)), none] [] M v1 M1 0 0 ∧ Ev none e 103 47 [some (.ref 0), some (.int h), some (.int w), some (.int t), some (.int m), some (.ref (oI M 109 h)), none, none, none, none, none] (v1.toList ++ []) M1 v M' 0 0)) := by
  have H : Ev none e 103 3 [some (.ref 0), some (.int h), some (.int w), some (.int t), some (.int m), none, none, none, none, none, none] [.int 5, .int 0, .int h] M v M' 0 0 := Ev.back 3 (fun n => rfl) H
  obtain ⟨e1, rfl⟩ := Ev.dpos rfl rfl H
  obtain ⟨vK1, MK1, K1, H⟩ := Ev.callb (fun n => rfl) H
  obtain ⟨pK1, qK1⟩ := g_126 hS K1
  rw [pK1, qK1] at H
  have H : Ev none (e1 + 1) 103 6 [some (.ref 0), some (.int h), some (.int w), some (.int t), some (.int m), none, none, none, none, none, none] [.int (G_126 M h 0 5)] M v M' 0 0 := H
  have H : Ev none (e1 + 1) 103 (if (G_126 M h 0 5) = 0 then 28 else 9) [some (.ref 0), some (.int h), some (.int w), some (.int t), some (.int m), none, none, none, none, none, none] [] M v M' 0 0 := Ev.back 1 (fun n => rfl) H
  by_cases h2 : (G_126 M h 0 5) = 0
  · rw [if_pos h2] at H
    have H : Ev none (e1 + 1) 103 30 [some (.ref 0), some (.int h), some (.int w), some (.int t), some (.int m), none, none, none, none, none, none] [.int (-2)] M v M' 0 0 := Ev.back 1 (fun n => rfl) H
    obtain ⟨z1, z2⟩ := Ev.retz rfl rfl H
    exact Or.inl ⟨h2, z1, z2⟩
  · rw [if_neg h2] at H
    have H : Ev none (e1 + 1) 103 12 [some (.ref 0), some (.int h), some (.int w), some (.int t), some (.int m), none, none, none, none, none, none] [.int 4, .int 1, .int w] M v M' 0 0 := Ev.back 3 (fun n => rfl) H
    obtain ⟨vK3, MK3, K3, H⟩ := Ev.callb (fun n => rfl) H
    obtain ⟨pK3, qK3⟩ := g_126 hS K3
    rw [pK3, qK3] at H
    have H : Ev none (e1 + 1) 103 15 [some (.ref 0), some (.int h), some (.int w), some (.int t), some (.int m), none, none, none, none, none, none] [.int (G_126 M w 1 4)] M v M' 0 0 := H
    have H : Ev none (e1 + 1) 103 (if (G_126 M w 1 4) = 0 then 28 else 18) [some (.ref 0), some (.int h), some (.int w), some (.int t), some (.int m), none, none, none, none, none, none] [] M v M' 0 0 := Ev.back 1 (fun n => rfl) H
    by_cases h4 : (G_126 M w 1 4) = 0
    · rw [if_pos h4] at H
      have H : Ev none (e1 + 1) 103 30 [some (.ref 0), some (.int h), some (.int w), some (.int t), some (.int m), none, none, none, none, none, none] [.int (-2)] M v M' 0 0 := Ev.back 1 (fun n => rfl) H
      obtain ⟨z1, z2⟩ := Ev.retz rfl rfl H
      exact Or.inr (Or.inl ⟨h2, h4, z1, z2⟩)
    · rw [if_neg h4] at H
      have H : Ev none (e1 + 1) 103 22 [some (.ref 0), some (.int h), some (.int w), some (.int t), some (.int m), none, none, none, none, none, none] [.int 100, .int 1, .int t] M v M' 0 0 := Ev.back 3 (fun n => rfl) H
      obtain ⟨vK5, MK5, K5, H⟩ := Ev.callb (fun n => rfl) H
      obtain ⟨pK5, qK5⟩ := g_126 hS K5
      rw [pK5, qK5] at H
      have H : Ev none (e1 + 1) 103 25 [some (.ref 0), some (.int h), some (.int w), some (.int t), some (.int m), none, none, none, none, none, none] [.int (G_126 M t 1 100)] M v M' 0 0 := H
      have H : Ev none (e1 + 1) 103 (if (G_126 M t 1 100) = 0 then 28 else 31) [some (.ref 0), some (.int h), some (.int w), some (.int t), some (.int m), none, none, none, none, none, none] [] M v M' 0 0 := Ev.back 1 (fun n => rfl) H
      by_cases h6 : (G_126 M t 1 100) = 0
      · rw [if_pos h6] at H
        have H : Ev none (e1 + 1) 103 30 [some (.ref 0), some (.int h), some (.int w), some (.int t), some (.int m), none, none, none, none, none, none] [.int (-2)] M v M' 0 0 := Ev.back 1 (fun n => rfl) H
        obtain ⟨z1, z2⟩ := Ev.retz rfl rfl H
        exact Or.inr (Or.inr (Or.inl ⟨h2, h4, h6, z1, z2⟩))
      · rw [if_neg h6] at H
        have H : Ev none (e1 + 1) 103 32 [some (.ref 0), some (.int h), some (.int w), some (.int t), some (.int m), none, none, none, none, none, none] [.ref 0] M v M' 0 0 := Ev.back 1 (fun n => rfl) H
        have H : Ev none (e1 + 1) 103 35 [some (.ref 0), some (.int h), some (.int w), some (.int t), some (.int m), none, none, none, none, none, none] [.ref 104] M v M' 0 0 := Ev.back 1 (gs_3 rfl rfl (gf_u hS.1 qa_0 qr_0_3 qu_22 rfl)) H
        have H : Ev none (e1 + 1) 103 38 [some (.ref 0), some (.int h), some (.int w), some (.int t), some (.int m), none, none, none, none, none, none] [.ref 109] M v M' 0 0 := Ev.back 1 (gs_3 rfl rfl (gf_u hS.1 qa_104 qr_22_1 qu_27 rfl)) H
        have H : Ev none (e1 + 1) 103 39 [some (.ref 0), some (.int h), some (.int w), some (.int t), some (.int m), none, none, none, none, none, none] [.int h, .ref 109] M v M' 0 0 := Ev.back 1 (fun n => rfl) H
        obtain ⟨b7, H⟩ := Ev.aal rfl rfl hS.1 qa_109 qz_27 H
        have H : Ev none (e1 + 1) 103 40 [some (.ref 0), some (.int h), some (.int w), some (.int t), some (.int m), none, none, none, none, none, none] [.ref (oI M 109 h)] M v M' 0 0 := H
        have H : Ev none (e1 + 1) 103 44 [some (.ref 0), some (.int h), some (.int w), some (.int t), some (.int m), some (.ref (oI M 109 h)), none, none, none, none, none] [.ref (oI M 109 h)] M v M' 0 0 := Ev.back 2 (fun n => rfl) H
        obtain ⟨vK8, MK8, K8, H⟩ := Ev.callb (fun n_ => gs_7 rfl rfl (show gCal (.invokevirtual 312) 10 (.ref (oI M 109 h) :: []) M = some (.inr (52, [some (.ref (oI M 109 h)), none], [])) from by show @cond (Option ((List Value × Mem) ⊕ (Nat × Lo × List Value))) (true && gRecv M (.ref (oI M 109 h)) 6 && gRoom [] && true) (some (.inr (52, [some (.ref (oI M 109 h)), none], []))) none = _; rw [recv_s hS.1 b7.2 qo_28]; rfl)) H
        have K8 : Ev none e1 52 0 [some (.ref (oI M 109 h)), none] [] M vK8 MK8 0 0 := K8
        have HF := H
        exact Or.inr (Or.inr (Or.inr (⟨h2, h4, h6, b7.1, ⟨e1, vK8, MK8, rfl, K8, HF⟩⟩)))
theorem tuc_47 {e : Nat} {M M' : Mem} {v : Option Value} {h w t m r : Int32} {x : Nat} (hS : SQ M) (a_x : gNth sT x = some 28) (H : Ev none e 103 47 [some (.ref 0), some (.int h), some (.int w), some (.int t), some (.int m), some (.ref x), none, none, none, none, none] [.int r] M v M' 0 0) : (r = (-1) ∧ v = some (.int (-1)) ∧ M' = M) ∨ (¬ (r = (-1)) ∧ (0 ≤ r.toInt ∧ r.toInt < 16) ∧ Ev none e 103 73 [some (.ref 0), some (.int h), some (.int w), some (.int t), some (.int m), some (.ref x), some (.int r), some (.int (rI M (x + 3) r)), some (.int (-1)), some (.int 0), none] [] M v M' 0 0) := by
  have H : Ev none e 103 (if r = (-1) then 55 else 57) [some (.ref 0), some (.int h), some (.int w), some (.int t), some (.int m), some (.ref x), some (.int r), none, none, none, none] [] M v M' 0 0 := Ev.back 4 (fun n => rfl) H
  by_cases h1 : r = (-1)
  · rw [if_pos h1] at H
    have H : Ev none e 103 56 [some (.ref 0), some (.int h), some (.int w), some (.int t), some (.int m), some (.ref x), some (.int r), none, none, none, none] [.int (-1)] M v M' 0 0 := Ev.back 1 (fun n => rfl) H
    obtain ⟨z1, z2⟩ := Ev.retz rfl rfl H
    exact Or.inl ⟨h1, z1, z2⟩
  · rw [if_neg h1] at H
    have H : Ev none e 103 59 [some (.ref 0), some (.int h), some (.int w), some (.int t), some (.int m), some (.ref x), some (.int r), none, none, none, none] [.ref x] M v M' 0 0 := Ev.back 1 (fun n => rfl) H
    have H : Ev none e 103 62 [some (.ref 0), some (.int h), some (.int w), some (.int t), some (.int m), some (.ref x), some (.int r), none, none, none, none] [.ref (x + 3)] M v M' 0 0 := Ev.back 1 (gs_3 rfl rfl (gf_x hS.1 a_x qo_28 (fx_t2 hS a_x) rfl)) H
    have H : Ev none e 103 64 [some (.ref 0), some (.int h), some (.int w), some (.int t), some (.int m), some (.ref x), some (.int r), none, none, none, none] [.int r, .ref (x + 3)] M v M' 0 0 := Ev.back 1 (fun n => rfl) H
    obtain ⟨b2, H⟩ := Ev.ial rfl rfl hS.1 (fx_g2 a_x) qw_31 H
    have H : Ev none e 103 65 [some (.ref 0), some (.int h), some (.int w), some (.int t), some (.int m), some (.ref x), some (.int r), none, none, none, none] [.int (rI M (x + 3) r)] M v M' 0 0 := H
    have H : Ev none e 103 73 [some (.ref 0), some (.int h), some (.int w), some (.int t), some (.int m), some (.ref x), some (.int r), some (.int (rI M (x + 3) r)), some (.int (-1)), some (.int 0), none] [] M v M' 0 0 := Ev.back 5 (fun n => rfl) H
    have HF := H
    exact Or.inr (⟨h1, b2, HF⟩)
theorem tuc_73 {e : Nat} {M M' : Mem} {v : Option Value} {h w t m li told an n : Int32} {x : Nat} {c10 : Option Value} (hS : SQ M) (a_x : gNth sT x = some 28) (H : Ev none e 103 73 [some (.ref 0), some (.int h), some (.int w), some (.int t), some (.int m), some (.ref x), some (.int li), some (.int told), some (.int an), some (.int n), c10] [] M v M' 0 0) : (9 < n ∧ (0 ≤ li.toInt ∧ li.toInt < 16) ∧ v = some (.int an) ∧ M' = (wI M (x + 3) li.toNatClampNeg told)) ∨ (¬ (9 < n) ∧ an = (-1) ∧ (0 ≤ li.toInt ∧ li.toInt < 16) ∧ (∃ e1 v1 M1, e = e1 + 1 ∧ Ev none e1 133 0 [some (.ref 0)] [] (wI M (x + 3) li.toNatClampNeg n) v1 M1 0 0 ∧ Ev none e 103 100 [some (.ref 0), some (.int h), some (.int w), some (.int t), some (.int m), some (.ref x), some (.int li), some (.int told), some (.int an), some (.int n), c10] (v1.toList ++ []) M1 v M' 0 0)) ∨ (¬ (9 < n) ∧ ¬ (an = (-1)) ∧ (0 ≤ li.toInt ∧ li.toInt < 16) ∧ v = some (.int an) ∧ M' = (wI M (x + 3) li.toNatClampNeg told)) := by
  have H : Ev none e 103 (if 9 < n then 142 else 80) [some (.ref 0), some (.int h), some (.int w), some (.int t), some (.int m), some (.ref x), some (.int li), some (.int told), some (.int an), some (.int n), c10] [] M v M' 0 0 := Ev.back 3 (fun n => rfl) H
  by_cases h1 : 9 < n
  · rw [if_pos h1] at H
    have H : Ev none e 103 144 [some (.ref 0), some (.int h), some (.int w), some (.int t), some (.int m), some (.ref x), some (.int li), some (.int told), some (.int an), some (.int n), c10] [.ref x] M v M' 0 0 := Ev.back 1 (fun n => rfl) H
    have H : Ev none e 103 147 [some (.ref 0), some (.int h), some (.int w), some (.int t), some (.int m), some (.ref x), some (.int li), some (.int told), some (.int an), some (.int n), c10] [.ref (x + 3)] M v M' 0 0 := Ev.back 1 (gs_3 rfl rfl (gf_x hS.1 a_x qo_28 (fx_t2 hS a_x) rfl)) H
    have H : Ev none e 103 151 [some (.ref 0), some (.int h), some (.int w), some (.int t), some (.int m), some (.ref x), some (.int li), some (.int told), some (.int an), some (.int n), c10] [.int told, .int li, .ref (x + 3)] M v M' 0 0 := Ev.back 2 (fun n => rfl) H
    obtain ⟨b2, H⟩ := Ev.ias rfl rfl hS.1 (fx_g2 a_x) qw_31 H
    obtain ⟨N3, eN3⟩ : ∃ N, N = (wI M (x + 3) li.toNatClampNeg told) := ⟨_, rfl⟩
    have hN3 : SQ N3 := by rw [eN3]; exact hS.ki
    have H : Ev none e 103 152 [some (.ref 0), some (.int h), some (.int w), some (.int t), some (.int m), some (.ref x), some (.int li), some (.int told), some (.int an), some (.int n), c10] [] N3 v M' 0 0 := by rw [eN3]; exact H
    have H : Ev none e 103 154 [some (.ref 0), some (.int h), some (.int w), some (.int t), some (.int m), some (.ref x), some (.int li), some (.int told), some (.int an), some (.int n), c10] [.int an] N3 v M' 0 0 := Ev.back 1 (fun n => rfl) H
    obtain ⟨z1, z2⟩ := Ev.retz rfl rfl H
    subst eN3
    exact Or.inl ⟨h1, b2, z1, z2⟩
  · rw [if_neg h1] at H
    have H : Ev none e 103 (if an = (-1) then 86 else 142) [some (.ref 0), some (.int h), some (.int w), some (.int t), some (.int m), some (.ref x), some (.int li), some (.int told), some (.int an), some (.int n), c10] [] M v M' 0 0 := Ev.back 3 (fun n => rfl) H
    by_cases h4 : an = (-1)
    · rw [if_pos h4] at H
      have H : Ev none e 103 88 [some (.ref 0), some (.int h), some (.int w), some (.int t), some (.int m), some (.ref x), some (.int li), some (.int told), some (.int an), some (.int n), c10] [.ref x] M v M' 0 0 := Ev.back 1 (fun n => rfl) H
      have H : Ev none e 103 91 [some (.ref 0), some (.int h), some (.int w), some (.int t), some (.int m), some (.ref x), some (.int li), some (.int told), some (.int an), some (.int n), c10] [.ref (x + 3)] M v M' 0 0 := Ev.back 1 (gs_3 rfl rfl (gf_x hS.1 a_x qo_28 (fx_t2 hS a_x) rfl)) H
      have H : Ev none e 103 95 [some (.ref 0), some (.int h), some (.int w), some (.int t), some (.int m), some (.ref x), some (.int li), some (.int told), some (.int an), some (.int n), c10] [.int n, .int li, .ref (x + 3)] M v M' 0 0 := Ev.back 2 (fun n => rfl) H
      obtain ⟨b5, H⟩ := Ev.ias rfl rfl hS.1 (fx_g2 a_x) qw_31 H
      obtain ⟨N6, eN6⟩ : ∃ N, N = (wI M (x + 3) li.toNatClampNeg n) := ⟨_, rfl⟩
      have hN6 : SQ N6 := by rw [eN6]; exact hS.ki
      have H : Ev none e 103 96 [some (.ref 0), some (.int h), some (.int w), some (.int t), some (.int m), some (.ref x), some (.int li), some (.int told), some (.int an), some (.int n), c10] [] N6 v M' 0 0 := by rw [eN6]; exact H
      have H : Ev none e 103 97 [some (.ref 0), some (.int h), some (.int w), some (.int t), some (.int m), some (.ref x), some (.int li), some (.int told), some (.int an), some (.int n), c10] [.ref 0] N6 v M' 0 0 := Ev.back 1 (fun n => rfl) H
      obtain ⟨e1, rfl⟩ := Ev.dpos rfl rfl H
      obtain ⟨vK7, MK7, K7, H⟩ := Ev.callb (fun n_ => gs_7 rfl rfl (show gCal (.invokevirtual 287) 10 (.ref 0 :: []) N6 = some (.inr (133, [some (.ref 0)], [])) from by show @cond (Option ((List Value × Mem) ⊕ (Nat × Lo × List Value))) (true && gRecv N6 (.ref 0) 10 && gRoom [] && true) (some (.inr (133, [some (.ref 0)], []))) none = _; rw [recv_s hN6.1 qa_0 qo_0]; rfl)) H
      have K7 : Ev none e1 133 0 [some (.ref 0)] [] N6 vK7 MK7 0 0 := K7
      have HF := H
      subst eN6
      exact Or.inr (Or.inl ⟨h1, h4, b5, ⟨e1, vK7, MK7, rfl, K7, HF⟩⟩)
    · rw [if_neg h4] at H
      have H : Ev none e 103 144 [some (.ref 0), some (.int h), some (.int w), some (.int t), some (.int m), some (.ref x), some (.int li), some (.int told), some (.int an), some (.int n), c10] [.ref x] M v M' 0 0 := Ev.back 1 (fun n => rfl) H
      have H : Ev none e 103 147 [some (.ref 0), some (.int h), some (.int w), some (.int t), some (.int m), some (.ref x), some (.int li), some (.int told), some (.int an), some (.int n), c10] [.ref (x + 3)] M v M' 0 0 := Ev.back 1 (gs_3 rfl rfl (gf_x hS.1 a_x qo_28 (fx_t2 hS a_x) rfl)) H
      have H : Ev none e 103 151 [some (.ref 0), some (.int h), some (.int w), some (.int t), some (.int m), some (.ref x), some (.int li), some (.int told), some (.int an), some (.int n), c10] [.int told, .int li, .ref (x + 3)] M v M' 0 0 := Ev.back 2 (fun n => rfl) H
      obtain ⟨b8, H⟩ := Ev.ias rfl rfl hS.1 (fx_g2 a_x) qw_31 H
      obtain ⟨N9, eN9⟩ : ∃ N, N = (wI M (x + 3) li.toNatClampNeg told) := ⟨_, rfl⟩
      have hN9 : SQ N9 := by rw [eN9]; exact hS.ki
      have H : Ev none e 103 152 [some (.ref 0), some (.int h), some (.int w), some (.int t), some (.int m), some (.ref x), some (.int li), some (.int told), some (.int an), some (.int n), c10] [] N9 v M' 0 0 := by rw [eN9]; exact H
      have H : Ev none e 103 154 [some (.ref 0), some (.int h), some (.int w), some (.int t), some (.int m), some (.ref x), some (.int li), some (.int told), some (.int an), some (.int n), c10] [.int an] N9 v M' 0 0 := Ev.back 1 (fun n => rfl) H
      obtain ⟨z1, z2⟩ := Ev.retz rfl rfl H
      subst eN9
      exact Or.inr (Or.inr (⟨h1, h4, b8, z1, z2⟩))
theorem tuc_100 {e : Nat} {M M' : Mem} {v : Option Value} {h w t m li told an n : Int32} {x : Nat} {c10 : Option Value} (hS : SQ M) (a_x : gNth sT x = some 28) (H : Ev none e 103 100 [some (.ref 0), some (.int h), some (.int w), some (.int t), some (.int m), some (.ref x), some (.int li), some (.int told), some (.int an), some (.int n), c10] [] M v M' 0 0) : Ev none e 103 103 [some (.ref 0), some (.int h), some (.int w), some (.int t), some (.int m), some (.ref x), some (.int li), some (.int told), some (.int an), some (.int n), some (.int 0)] [] M v M' 0 0 := by
  have H : Ev none e 103 103 [some (.ref 0), some (.int h), some (.int w), some (.int t), some (.int m), some (.ref x), some (.int li), some (.int told), some (.int an), some (.int n), some (.int 0)] [] M v M' 0 0 := Ev.back 2 (fun n => rfl) H
  have HF := H
  exact HF
theorem tuc_103 {e : Nat} {M M' : Mem} {v : Option Value} {h w t m li told an n k : Int32} {x : Nat} (hS : SQ M) (a_x : gNth sT x = some 28) (H : Ev none e 103 103 [some (.ref 0), some (.int h), some (.int w), some (.int t), some (.int m), some (.ref x), some (.int li), some (.int told), some (.int an), some (.int n), some (.int k)] [] M v M' 0 0) : (w ≤ k ∧ (∃ e1 v1 M1, e = e1 + 1 ∧ Ev none e1 57 0 [some (.ref 104), none, none] [] M v1 M1 0 0 ∧ Ev none e 103 127 [some (.ref 0), some (.int h), some (.int w), some (.int t), some (.int m), some (.ref x), some (.int li), some (.int told), some (.int an), some (.int n), some (.int k)] (v1.toList ++ []) M1 v M' 0 0)) ∨ (¬ (w ≤ k) ∧ (∃ e1 v1 M1, e = e1 + 1 ∧ Ev none e1 134 0 [some (.ref 0), some (.int t)] [] M v1 M1 0 0 ∧ Ev none e 103 114 [some (.ref 0), some (.int h), some (.int w), some (.int t), some (.int m), some (.ref x), some (.int li), some (.int told), some (.int an), some (.int n), some (.int k)] (v1.toList ++ []) M1 v M' 0 0)) := by
  have H : Ev none e 103 (if w ≤ k then 120 else 109) [some (.ref 0), some (.int h), some (.int w), some (.int t), some (.int m), some (.ref x), some (.int li), some (.int told), some (.int an), some (.int n), some (.int k)] [] M v M' 0 0 := Ev.back 3 (fun n => rfl) H
  by_cases h1 : w ≤ k
  · rw [if_pos h1] at H
    have H : Ev none e 103 121 [some (.ref 0), some (.int h), some (.int w), some (.int t), some (.int m), some (.ref x), some (.int li), some (.int told), some (.int an), some (.int n), some (.int k)] [.ref 0] M v M' 0 0 := Ev.back 1 (fun n => rfl) H
    have H : Ev none e 103 124 [some (.ref 0), some (.int h), some (.int w), some (.int t), some (.int m), some (.ref x), some (.int li), some (.int told), some (.int an), some (.int n), some (.int k)] [.ref 104] M v M' 0 0 := Ev.back 1 (gs_3 rfl rfl (gf_u hS.1 qa_0 qr_0_3 qu_22 rfl)) H
    obtain ⟨e1, rfl⟩ := Ev.dpos rfl rfl H
    obtain ⟨vK2, MK2, K2, H⟩ := Ev.callb (fun n_ => gs_7 rfl rfl (show gCal (.invokevirtual 207) 10 (.ref 104 :: []) M = some (.inr (57, [some (.ref 104), none, none], [])) from by show @cond (Option ((List Value × Mem) ⊕ (Nat × Lo × List Value))) (true && gRecv M (.ref 104) 7 && gRoom [] && true) (some (.inr (57, [some (.ref 104), none, none], []))) none = _; rw [recv_s hS.1 qa_104 qo_22]; rfl)) H
    have K2 : Ev none e1 57 0 [some (.ref 104), none, none] [] M vK2 MK2 0 0 := K2
    have HF := H
    exact Or.inl ⟨h1, ⟨e1, vK2, MK2, rfl, K2, HF⟩⟩
  · rw [if_neg h1] at H
    have H : Ev none e 103 111 [some (.ref 0), some (.int h), some (.int w), some (.int t), some (.int m), some (.ref x), some (.int li), some (.int told), some (.int an), some (.int n), some (.int k)] [.int t, .ref 0] M v M' 0 0 := Ev.back 2 (fun n => rfl) H
    obtain ⟨e1, rfl⟩ := Ev.dpos rfl rfl H
    obtain ⟨vK3, MK3, K3, H⟩ := Ev.callb (fun n_ => gs_7 rfl rfl (show gCal (.invokevirtual 293) 10 (.int t :: .ref 0 :: []) M = some (.inr (134, [some (.ref 0), some (.int t)], [])) from by show @cond (Option ((List Value × Mem) ⊕ (Nat × Lo × List Value))) (true && gRecv M (.ref 0) 10 && gRoom [] && true) (some (.inr (134, [some (.ref 0), some (.int t)], []))) none = _; rw [recv_s hS.1 qa_0 qo_0]; rfl)) H
    have K3 : Ev none e1 134 0 [some (.ref 0), some (.int t)] [] M vK3 MK3 0 0 := K3
    have HF := H
    exact Or.inr (⟨h1, ⟨e1, vK3, MK3, rfl, K3, HF⟩⟩)
theorem tuc_114 {e : Nat} {M M' : Mem} {v : Option Value} {h w t m li told an n k : Int32} {x : Nat} (hS : SQ M) (a_x : gNth sT x = some 28) (H : Ev none e 103 114 [some (.ref 0), some (.int h), some (.int w), some (.int t), some (.int m), some (.ref x), some (.int li), some (.int told), some (.int an), some (.int n), some (.int k)] [] M v M' 0 0) : Ev none e 103 103 [some (.ref 0), some (.int h), some (.int w), some (.int t), some (.int m), some (.ref x), some (.int li), some (.int told), some (.int an), some (.int n), some (.int (k + 1))] [] M v M' 0 0 := by
  have H : Ev none e 103 103 [some (.ref 0), some (.int h), some (.int w), some (.int t), some (.int m), some (.ref x), some (.int li), some (.int told), some (.int an), some (.int n), some (.int (k + 1))] [] M v M' 0 0 := Ev.back 2 (fun n => rfl) H
  have HF := H
  exact HF
theorem tuc_127 {e : Nat} {M M' : Mem} {v : Option Value} {h w t m li told an n k r : Int32} {x : Nat} (hS : SQ M) (a_x : gNth sT x = some 28) (H : Ev none e 103 127 [some (.ref 0), some (.int h), some (.int w), some (.int t), some (.int m), some (.ref x), some (.int li), some (.int told), some (.int an), some (.int n), some (.int k)] [.int r] M v M' 0 0) : (m < r ∧ Ev none e 103 73 [some (.ref 0), some (.int h), some (.int w), some (.int t), some (.int m), some (.ref x), some (.int li), some (.int told), some (.int an), some (.int (n + 1)), some (.int k)] [] M v M' 0 0) ∨ (¬ (m < r) ∧ Ev none e 103 73 [some (.ref 0), some (.int h), some (.int w), some (.int t), some (.int m), some (.ref x), some (.int li), some (.int told), some (.int n), some (.int (n + 1)), some (.int k)] [] M v M' 0 0) := by
  have H : Ev none e 103 (if m < r then 136 else 132) [some (.ref 0), some (.int h), some (.int w), some (.int t), some (.int m), some (.ref x), some (.int li), some (.int told), some (.int an), some (.int n), some (.int k)] [] M v M' 0 0 := Ev.back 2 (fun n => rfl) H
  by_cases h1 : m < r
  · rw [if_pos h1] at H
    have H : Ev none e 103 73 [some (.ref 0), some (.int h), some (.int w), some (.int t), some (.int m), some (.ref x), some (.int li), some (.int told), some (.int an), some (.int (n + 1)), some (.int k)] [] M v M' 0 0 := Ev.back 2 (fun n => rfl) H
    have HF := H
    exact Or.inl ⟨h1, HF⟩
  · rw [if_neg h1] at H
    have H : Ev none e 103 73 [some (.ref 0), some (.int h), some (.int w), some (.int t), some (.int m), some (.ref x), some (.int li), some (.int told), some (.int n), some (.int (n + 1)), some (.int k)] [] M v M' 0 0 := Ev.back 4 (fun n => rfl) H
    have HF := H
    exact Or.inr (⟨h1, HF⟩)
noncomputable def G_106 (M : Mem) (w : Int32) (t : Int32) : Int32 := if (G_126 M w 1 20) = 0 then 0 else (if (G_126 M t 1 200) = 0 then 0 else 1)
theorem g_106 {e : Nat} {M M' : Mem} {v : Option Value} {w t : Int32} (hS : SQ M) (H : Ev none e 106 0 [some (.ref 0), some (.int w), some (.int t)] [] M v M' 0 0) : v = some (.int (G_106 M w t)) ∧ M' = M := by
  unfold G_106
  have H : Ev none e 106 4 [some (.ref 0), some (.int w), some (.int t)] [.int 20, .int 1, .int w] M v M' 0 0 := Ev.back 3 (fun n => rfl) H
  obtain ⟨e1, rfl⟩ := Ev.dpos rfl rfl H
  obtain ⟨vK1, MK1, K1, H⟩ := Ev.callb (fun n => rfl) H
  obtain ⟨pK1, qK1⟩ := g_126 hS K1
  rw [pK1, qK1] at H
  have H : Ev none (e1 + 1) 106 7 [some (.ref 0), some (.int w), some (.int t)] [.int (G_126 M w 1 20)] M v M' 0 0 := H
  have H : Ev none (e1 + 1) 106 (if (G_126 M w 1 20) = 0 then 25 else 10) [some (.ref 0), some (.int w), some (.int t)] [] M v M' 0 0 := Ev.back 1 (fun n => rfl) H
  by_cases h2 : (G_126 M w 1 20) = 0
  · rw [if_pos h2] at H
    have H : Ev none (e1 + 1) 106 26 [some (.ref 0), some (.int w), some (.int t)] [.int 0] M v M' 0 0 := Ev.back 1 (fun n => rfl) H
    obtain ⟨p1, p2⟩ := Ev.retz rfl rfl H
    exact ⟨by rw [if_pos h2]; exact p1, p2⟩
  · rw [if_neg h2] at H
    have H : Ev none (e1 + 1) 106 15 [some (.ref 0), some (.int w), some (.int t)] [.int 200, .int 1, .int t] M v M' 0 0 := Ev.back 3 (fun n => rfl) H
    obtain ⟨vK3, MK3, K3, H⟩ := Ev.callb (fun n => rfl) H
    obtain ⟨pK3, qK3⟩ := g_126 hS K3
    rw [pK3, qK3] at H
    have H : Ev none (e1 + 1) 106 18 [some (.ref 0), some (.int w), some (.int t)] [.int (G_126 M t 1 200)] M v M' 0 0 := H
    have H : Ev none (e1 + 1) 106 (if (G_126 M t 1 200) = 0 then 25 else 21) [some (.ref 0), some (.int w), some (.int t)] [] M v M' 0 0 := Ev.back 1 (fun n => rfl) H
    by_cases h4 : (G_126 M t 1 200) = 0
    · rw [if_pos h4] at H
      have H : Ev none (e1 + 1) 106 26 [some (.ref 0), some (.int w), some (.int t)] [.int 0] M v M' 0 0 := Ev.back 1 (fun n => rfl) H
      obtain ⟨p1, p2⟩ := Ev.retz rfl rfl H
      exact ⟨by rw [if_neg h2, if_pos h4]; exact p1, p2⟩
    · rw [if_neg h4] at H
      have H : Ev none (e1 + 1) 106 26 [some (.ref 0), some (.int w), some (.int t)] [.int 1] M v M' 0 0 := Ev.back 2 (fun n => rfl) H
      obtain ⟨p1, p2⟩ := Ev.retz rfl rfl H
      exact ⟨by rw [if_neg h2, if_neg h4]; exact p1, p2⟩
theorem pvd_0 {e : Nat} {M M' : Mem} {v : Option Value} {w ws t wh : Int32} (hS : SQ M) (H : Ev none e 104 0 [some (.ref 0), some (.int w), some (.int ws), some (.int t), some (.int wh)] [] M v M' 0 0) : ((G_106 M ws t) = 0 ∧ v = some (.int (-1)) ∧ M' = M) ∨ (¬ ((G_106 M ws t) = 0) ∧ (G_126 M w 1 ws) = 0 ∧ v = some (.int (-1)) ∧ M' = M) ∨ (¬ ((G_106 M ws t) = 0) ∧ ¬ ((G_126 M w 1 ws) = 0) ∧ (G_126 M wh 0 2) = 0 ∧ v = some (.int (-1)) ∧ M' = M) ∨ (¬ ((G_106 M ws t) = 0) ∧ ¬ ((G_126 M w 1 ws) = 0) ∧ ¬ ((G_126 M wh 0 2) = 0) ∧ (∃ e1 v1 M1, e = e1 + 1 ∧ Ev none e1 107 0 [some (.ref 0), some (.int ws), some (.int t), none] [] M v1 M1 0 0 ∧ Ev none e 104 36 [some (.ref 0), some (.int w), some (.int ws), some (.int t), some (.int wh)] (v1.toList ++ []) M1 v M' 0 0)) := by
  have H : Ev none e 104 3 [some (.ref 0), some (.int w), some (.int ws), some (.int t), some (.int wh)] [.int t, .int ws, .ref 0] M v M' 0 0 := Ev.back 3 (fun n => rfl) H
  obtain ⟨e1, rfl⟩ := Ev.dpos rfl rfl H
  obtain ⟨vK1, MK1, K1, H⟩ := Ev.callb (fun n_ => gs_7 rfl rfl (show gCal (.invokevirtual 318) 10 (.int t :: .int ws :: .ref 0 :: []) M = some (.inr (106, [some (.ref 0), some (.int ws), some (.int t)], [])) from by show @cond (Option ((List Value × Mem) ⊕ (Nat × Lo × List Value))) (true && gRecv M (.ref 0) 10 && gRoom [] && true) (some (.inr (106, [some (.ref 0), some (.int ws), some (.int t)], []))) none = _; rw [recv_s hS.1 qa_0 qo_0]; rfl)) H
  obtain ⟨pK1, qK1⟩ := g_106 hS K1
  rw [pK1, qK1] at H
  have H : Ev none (e1 + 1) 104 6 [some (.ref 0), some (.int w), some (.int ws), some (.int t), some (.int wh)] [.int (G_106 M ws t)] M v M' 0 0 := H
  have H : Ev none (e1 + 1) 104 (if (G_106 M ws t) = 0 then 28 else 9) [some (.ref 0), some (.int w), some (.int ws), some (.int t), some (.int wh)] [] M v M' 0 0 := Ev.back 1 (fun n => rfl) H
  by_cases h2 : (G_106 M ws t) = 0
  · rw [if_pos h2] at H
    have H : Ev none (e1 + 1) 104 29 [some (.ref 0), some (.int w), some (.int ws), some (.int t), some (.int wh)] [.int (-1)] M v M' 0 0 := Ev.back 1 (fun n => rfl) H
    obtain ⟨z1, z2⟩ := Ev.retz rfl rfl H
    exact Or.inl ⟨h2, z1, z2⟩
  · rw [if_neg h2] at H
    have H : Ev none (e1 + 1) 104 12 [some (.ref 0), some (.int w), some (.int ws), some (.int t), some (.int wh)] [.int ws, .int 1, .int w] M v M' 0 0 := Ev.back 3 (fun n => rfl) H
    obtain ⟨vK3, MK3, K3, H⟩ := Ev.callb (fun n => rfl) H
    obtain ⟨pK3, qK3⟩ := g_126 hS K3
    rw [pK3, qK3] at H
    have H : Ev none (e1 + 1) 104 15 [some (.ref 0), some (.int w), some (.int ws), some (.int t), some (.int wh)] [.int (G_126 M w 1 ws)] M v M' 0 0 := H
    have H : Ev none (e1 + 1) 104 (if (G_126 M w 1 ws) = 0 then 28 else 18) [some (.ref 0), some (.int w), some (.int ws), some (.int t), some (.int wh)] [] M v M' 0 0 := Ev.back 1 (fun n => rfl) H
    by_cases h4 : (G_126 M w 1 ws) = 0
    · rw [if_pos h4] at H
      have H : Ev none (e1 + 1) 104 29 [some (.ref 0), some (.int w), some (.int ws), some (.int t), some (.int wh)] [.int (-1)] M v M' 0 0 := Ev.back 1 (fun n => rfl) H
      obtain ⟨z1, z2⟩ := Ev.retz rfl rfl H
      exact Or.inr (Or.inl ⟨h2, h4, z1, z2⟩)
    · rw [if_neg h4] at H
      have H : Ev none (e1 + 1) 104 22 [some (.ref 0), some (.int w), some (.int ws), some (.int t), some (.int wh)] [.int 2, .int 0, .int wh] M v M' 0 0 := Ev.back 3 (fun n => rfl) H
      obtain ⟨vK5, MK5, K5, H⟩ := Ev.callb (fun n => rfl) H
      obtain ⟨pK5, qK5⟩ := g_126 hS K5
      rw [pK5, qK5] at H
      have H : Ev none (e1 + 1) 104 25 [some (.ref 0), some (.int w), some (.int ws), some (.int t), some (.int wh)] [.int (G_126 M wh 0 2)] M v M' 0 0 := H
      have H : Ev none (e1 + 1) 104 (if (G_126 M wh 0 2) = 0 then 28 else 30) [some (.ref 0), some (.int w), some (.int ws), some (.int t), some (.int wh)] [] M v M' 0 0 := Ev.back 1 (fun n => rfl) H
      by_cases h6 : (G_126 M wh 0 2) = 0
      · rw [if_pos h6] at H
        have H : Ev none (e1 + 1) 104 29 [some (.ref 0), some (.int w), some (.int ws), some (.int t), some (.int wh)] [.int (-1)] M v M' 0 0 := Ev.back 1 (fun n => rfl) H
        obtain ⟨z1, z2⟩ := Ev.retz rfl rfl H
        exact Or.inr (Or.inr (Or.inl ⟨h2, h4, h6, z1, z2⟩))
      · rw [if_neg h6] at H
        have H : Ev none (e1 + 1) 104 33 [some (.ref 0), some (.int w), some (.int ws), some (.int t), some (.int wh)] [.int t, .int ws, .ref 0] M v M' 0 0 := Ev.back 3 (fun n => rfl) H
        obtain ⟨vK7, MK7, K7, H⟩ := Ev.callb (fun n_ => gs_7 rfl rfl (show gCal (.invokevirtual 321) 10 (.int t :: .int ws :: .ref 0 :: []) M = some (.inr (107, [some (.ref 0), some (.int ws), some (.int t), none], [])) from by show @cond (Option ((List Value × Mem) ⊕ (Nat × Lo × List Value))) (true && gRecv M (.ref 0) 10 && gRoom [] && true) (some (.inr (107, [some (.ref 0), some (.int ws), some (.int t), none], []))) none = _; rw [recv_s hS.1 qa_0 qo_0]; rfl)) H
        have K7 : Ev none e1 107 0 [some (.ref 0), some (.int ws), some (.int t), none] [] M vK7 MK7 0 0 := K7
        have HF := H
        exact Or.inr (Or.inr (Or.inr (⟨h2, h4, h6, ⟨e1, vK7, MK7, rfl, K7, HF⟩⟩)))
theorem pvd_36 {e : Nat} {M M' : Mem} {v : Option Value} {w ws t wh : Int32} (hS : SQ M) (H : Ev none e 104 36 [some (.ref 0), some (.int w), some (.int ws), some (.int t), some (.int wh)] [] M v M' 0 0) : (wh = 0 ∧ (∃ e1 v1 M1, e = e1 + 1 ∧ Ev none e1 16 0 [some (.ref 192), some (.int w), none, none] [] M v1 M1 0 0 ∧ Ev none e 104 72 [some (.ref 0), some (.int w), some (.int ws), some (.int t), some (.int wh)] (v1.toList ++ []) M1 v M' 0 0)) ∨ (¬ (wh = 0) ∧ wh = 1 ∧ (∃ e1 v1 M1, e = e1 + 1 ∧ Ev none e1 17 0 [some (.ref 192), some (.int w), some (.int ws), none, none] [] M v1 M1 0 0 ∧ Ev none e 104 82 [some (.ref 0), some (.int w), some (.int ws), some (.int t), some (.int wh)] (v1.toList ++ []) M1 v M' 0 0)) ∨ (¬ (wh = 0) ∧ ¬ (wh = 1) ∧ (∃ e1 v1 M1, e = e1 + 1 ∧ Ev none e1 17 0 [some (.ref 192), some (.int ws), some (.int w), none, none] [] M v1 M1 0 0 ∧ Ev none e 104 92 [some (.ref 0), some (.int w), some (.int ws), some (.int t), some (.int wh)] (v1.toList ++ []) M1 v M' 0 0)) := by
  have H : Ev none e 104 38 [some (.ref 0), some (.int w), some (.int ws), some (.int t), some (.int wh)] [.int wh] M v M' 0 0 := Ev.back 1 (fun n => rfl) H
  by_cases h1 : wh = 0
  · have H : Ev none e 104 64 [some (.ref 0), some (.int w), some (.int ws), some (.int t), some (.int wh)] [] M v M' 0 0 := Ev.back 1 (by rw [h1]; exact fun n => rfl) H
    have H : Ev none e 104 65 [some (.ref 0), some (.int w), some (.int ws), some (.int t), some (.int wh)] [.ref 0] M v M' 0 0 := Ev.back 1 (fun n => rfl) H
    have H : Ev none e 104 68 [some (.ref 0), some (.int w), some (.int ws), some (.int t), some (.int wh)] [.ref 192] M v M' 0 0 := Ev.back 1 (gs_3 rfl rfl (gf_u hS.1 qa_0 qr_0_4 qu_41 rfl)) H
    have H : Ev none e 104 69 [some (.ref 0), some (.int w), some (.int ws), some (.int t), some (.int wh)] [.int w, .ref 192] M v M' 0 0 := Ev.back 1 (fun n => rfl) H
    obtain ⟨e1, rfl⟩ := Ev.dpos rfl rfl H
    obtain ⟨vK2, MK2, K2, H⟩ := Ev.callb (fun n_ => gs_7 rfl rfl (show gCal (.invokevirtual 324) 10 (.int w :: .ref 192 :: []) M = some (.inr (16, [some (.ref 192), some (.int w), none, none], [])) from by show @cond (Option ((List Value × Mem) ⊕ (Nat × Lo × List Value))) (true && gRecv M (.ref 192) 2 && gRoom [] && true) (some (.inr (16, [some (.ref 192), some (.int w), none, none], []))) none = _; rw [recv_s hS.1 qa_192 qo_41]; rfl)) H
    have K2 : Ev none e1 16 0 [some (.ref 192), some (.int w), none, none] [] M vK2 MK2 0 0 := K2
    have HF := H
    exact Or.inl ⟨h1, ⟨e1, vK2, MK2, rfl, K2, HF⟩⟩
  · by_cases h3 : wh = 1
    · have H : Ev none e 104 73 [some (.ref 0), some (.int w), some (.int ws), some (.int t), some (.int wh)] [] M v M' 0 0 := Ev.back 1 (by rw [h3]; exact fun n => rfl) H
      have H : Ev none e 104 74 [some (.ref 0), some (.int w), some (.int ws), some (.int t), some (.int wh)] [.ref 0] M v M' 0 0 := Ev.back 1 (fun n => rfl) H
      have H : Ev none e 104 77 [some (.ref 0), some (.int w), some (.int ws), some (.int t), some (.int wh)] [.ref 192] M v M' 0 0 := Ev.back 1 (gs_3 rfl rfl (gf_u hS.1 qa_0 qr_0_4 qu_41 rfl)) H
      have H : Ev none e 104 79 [some (.ref 0), some (.int w), some (.int ws), some (.int t), some (.int wh)] [.int ws, .int w, .ref 192] M v M' 0 0 := Ev.back 2 (fun n => rfl) H
      obtain ⟨e1, rfl⟩ := Ev.dpos rfl rfl H
      obtain ⟨vK4, MK4, K4, H⟩ := Ev.callb (fun n_ => gs_7 rfl rfl (show gCal (.invokevirtual 296) 10 (.int ws :: .int w :: .ref 192 :: []) M = some (.inr (17, [some (.ref 192), some (.int w), some (.int ws), none, none], [])) from by show @cond (Option ((List Value × Mem) ⊕ (Nat × Lo × List Value))) (true && gRecv M (.ref 192) 2 && gRoom [] && true) (some (.inr (17, [some (.ref 192), some (.int w), some (.int ws), none, none], []))) none = _; rw [recv_s hS.1 qa_192 qo_41]; rfl)) H
      have K4 : Ev none e1 17 0 [some (.ref 192), some (.int w), some (.int ws), none, none] [] M vK4 MK4 0 0 := K4
      have HF := H
      exact Or.inr (Or.inl ⟨h1, h3, ⟨e1, vK4, MK4, rfl, K4, HF⟩⟩)
    · have H : Ev none e 104 (gT 38 (if (0 : Int) = wh.toInt then 26 else if (1 : Int) = wh.toInt then 35 else 45)) [some (.ref 0), some (.int w), some (.int ws), some (.int t), some (.int wh)] [] M v M' 0 0 := Ev.back 1 (fun n => rfl) H
      have qh1 : wh.toInt ≠ 0 := fun q => h1 (Int32.toInt_inj.mp q)
      have qh3 : wh.toInt ≠ 1 := fun q => h3 (Int32.toInt_inj.mp q)
      rw [if_neg (show ¬ (0 : Int) = wh.toInt from fun q => qh1 q.symm)] at H
      rw [if_neg (show ¬ (1 : Int) = wh.toInt from fun q => qh3 q.symm)] at H
      have H : Ev none e 104 83 [some (.ref 0), some (.int w), some (.int ws), some (.int t), some (.int wh)] [] M v M' 0 0 := H
      have H : Ev none e 104 84 [some (.ref 0), some (.int w), some (.int ws), some (.int t), some (.int wh)] [.ref 0] M v M' 0 0 := Ev.back 1 (fun n => rfl) H
      have H : Ev none e 104 87 [some (.ref 0), some (.int w), some (.int ws), some (.int t), some (.int wh)] [.ref 192] M v M' 0 0 := Ev.back 1 (gs_3 rfl rfl (gf_u hS.1 qa_0 qr_0_4 qu_41 rfl)) H
      have H : Ev none e 104 89 [some (.ref 0), some (.int w), some (.int ws), some (.int t), some (.int wh)] [.int w, .int ws, .ref 192] M v M' 0 0 := Ev.back 2 (fun n => rfl) H
      obtain ⟨e1, rfl⟩ := Ev.dpos rfl rfl H
      obtain ⟨vK5, MK5, K5, H⟩ := Ev.callb (fun n_ => gs_7 rfl rfl (show gCal (.invokevirtual 296) 10 (.int w :: .int ws :: .ref 192 :: []) M = some (.inr (17, [some (.ref 192), some (.int ws), some (.int w), none, none], [])) from by show @cond (Option ((List Value × Mem) ⊕ (Nat × Lo × List Value))) (true && gRecv M (.ref 192) 2 && gRoom [] && true) (some (.inr (17, [some (.ref 192), some (.int ws), some (.int w), none, none], []))) none = _; rw [recv_s hS.1 qa_192 qo_41]; rfl)) H
      have K5 : Ev none e1 17 0 [some (.ref 192), some (.int ws), some (.int w), none, none] [] M vK5 MK5 0 0 := K5
      have HF := H
      exact Or.inr (Or.inr (⟨h1, h3, ⟨e1, vK5, MK5, rfl, K5, HF⟩⟩))
theorem pvd_72 {e : Nat} {M M' : Mem} {v : Option Value} {w ws t wh r : Int32} (hS : SQ M) (H : Ev none e 104 72 [some (.ref 0), some (.int w), some (.int ws), some (.int t), some (.int wh)] [.int r] M v M' 0 0) : v = some (.int r) ∧ M' = M := by
  obtain ⟨z1, z2⟩ := Ev.retz rfl rfl H
  exact ⟨z1, z2⟩
theorem pvd_82 {e : Nat} {M M' : Mem} {v : Option Value} {w ws t wh r : Int32} (hS : SQ M) (H : Ev none e 104 82 [some (.ref 0), some (.int w), some (.int ws), some (.int t), some (.int wh)] [.int r] M v M' 0 0) : v = some (.int r) ∧ M' = M := by
  obtain ⟨z1, z2⟩ := Ev.retz rfl rfl H
  exact ⟨z1, z2⟩
theorem pvd_92 {e : Nat} {M M' : Mem} {v : Option Value} {w ws t wh r : Int32} (hS : SQ M) (H : Ev none e 104 92 [some (.ref 0), some (.int w), some (.int ws), some (.int t), some (.int wh)] [.int r] M v M' 0 0) : v = some (.int r) ∧ M' = M := by
  obtain ⟨z1, z2⟩ := Ev.retz rfl rfl H
  exact ⟨z1, z2⟩
theorem wai_0 {e : Nat} {M M' : Mem} {v : Option Value} {ws t : Int32} (hS : SQ M) (H : Ev none e 105 0 [some (.ref 0), some (.int ws), some (.int t), none, none, none, none] [] M v M' 0 0) : ((G_106 M ws t) = 0 ∧ v = some (.int (-1)) ∧ M' = M) ∨ (¬ ((G_106 M ws t) = 0) ∧ (∃ e1 v1 M1, e = e1 + 1 ∧ Ev none e1 107 0 [some (.ref 0), some (.int ws), some (.int t), none] [] M v1 M1 0 0 ∧ Ev none e 105 17 [some (.ref 0), some (.int ws), some (.int t), none, none, none, none] (v1.toList ++ []) M1 v M' 0 0)) := by
  have H : Ev none e 105 3 [some (.ref 0), some (.int ws), some (.int t), none, none, none, none] [.int t, .int ws, .ref 0] M v M' 0 0 := Ev.back 3 (fun n => rfl) H
  obtain ⟨e1, rfl⟩ := Ev.dpos rfl rfl H
  obtain ⟨vK1, MK1, K1, H⟩ := Ev.callb (fun n_ => gs_7 rfl rfl (show gCal (.invokevirtual 318) 10 (.int t :: .int ws :: .ref 0 :: []) M = some (.inr (106, [some (.ref 0), some (.int ws), some (.int t)], [])) from by show @cond (Option ((List Value × Mem) ⊕ (Nat × Lo × List Value))) (true && gRecv M (.ref 0) 10 && gRoom [] && true) (some (.inr (106, [some (.ref 0), some (.int ws), some (.int t)], []))) none = _; rw [recv_s hS.1 qa_0 qo_0]; rfl)) H
  obtain ⟨pK1, qK1⟩ := g_106 hS K1
  rw [pK1, qK1] at H
  have H : Ev none (e1 + 1) 105 6 [some (.ref 0), some (.int ws), some (.int t), none, none, none, none] [.int (G_106 M ws t)] M v M' 0 0 := H
  have H : Ev none (e1 + 1) 105 (if (G_106 M ws t) = 0 then 9 else 11) [some (.ref 0), some (.int ws), some (.int t), none, none, none, none] [] M v M' 0 0 := Ev.back 1 (fun n => rfl) H
  by_cases h2 : (G_106 M ws t) = 0
  · rw [if_pos h2] at H
    have H : Ev none (e1 + 1) 105 10 [some (.ref 0), some (.int ws), some (.int t), none, none, none, none] [.int (-1)] M v M' 0 0 := Ev.back 1 (fun n => rfl) H
    obtain ⟨z1, z2⟩ := Ev.retz rfl rfl H
    exact Or.inl ⟨h2, z1, z2⟩
  · rw [if_neg h2] at H
    have H : Ev none (e1 + 1) 105 14 [some (.ref 0), some (.int ws), some (.int t), none, none, none, none] [.int t, .int ws, .ref 0] M v M' 0 0 := Ev.back 3 (fun n => rfl) H
    obtain ⟨vK3, MK3, K3, H⟩ := Ev.callb (fun n_ => gs_7 rfl rfl (show gCal (.invokevirtual 321) 10 (.int t :: .int ws :: .ref 0 :: []) M = some (.inr (107, [some (.ref 0), some (.int ws), some (.int t), none], [])) from by show @cond (Option ((List Value × Mem) ⊕ (Nat × Lo × List Value))) (true && gRecv M (.ref 0) 10 && gRoom [] && true) (some (.inr (107, [some (.ref 0), some (.int ws), some (.int t), none], []))) none = _; rw [recv_s hS.1 qa_0 qo_0]; rfl)) H
    have K3 : Ev none e1 107 0 [some (.ref 0), some (.int ws), some (.int t), none] [] M vK3 MK3 0 0 := K3
    have HF := H
    exact Or.inr (⟨h2, ⟨e1, vK3, MK3, rfl, K3, HF⟩⟩)
theorem wai_17 {e : Nat} {M M' : Mem} {v : Option Value} {ws t : Int32} (hS : SQ M) (H : Ev none e 105 17 [some (.ref 0), some (.int ws), some (.int t), none, none, none, none] [] M v M' 0 0) : Ev none e 105 27 [some (.ref 0), some (.int ws), some (.int t), some (.int 1), some (.int 276), some (.int 1), none] [] M v M' 0 0 := by
  have H : Ev none e 105 27 [some (.ref 0), some (.int ws), some (.int t), some (.int 1), some (.int 276), some (.int 1), none] [] M v M' 0 0 := Ev.back 6 (fun n => rfl) H
  have HF := H
  exact HF
theorem wai_27 {e : Nat} {M M' : Mem} {v : Option Value} {ws t be le w : Int32} {c6 : Option Value} (hS : SQ M) (H : Ev none e 105 27 [some (.ref 0), some (.int ws), some (.int t), some (.int be), some (.int le), some (.int w), c6] [] M v M' 0 0) : (ws < w ∧ v = some (.int be) ∧ M' = M) ∨ (¬ (ws < w) ∧ (∃ e1 v1 M1, e = e1 + 1 ∧ Ev none e1 17 0 [some (.ref 192), some (.int w), some (.int ws), none, none] [] M v1 M1 0 0 ∧ Ev none e 105 43 [some (.ref 0), some (.int ws), some (.int t), some (.int be), some (.int le), some (.int w), c6] (v1.toList ++ []) M1 v M' 0 0)) := by
  have H : Ev none e 105 (if ws < w then 79 else 33) [some (.ref 0), some (.int ws), some (.int t), some (.int be), some (.int le), some (.int w), c6] [] M v M' 0 0 := Ev.back 3 (fun n => rfl) H
  by_cases h1 : ws < w
  · rw [if_pos h1] at H
    have H : Ev none e 105 80 [some (.ref 0), some (.int ws), some (.int t), some (.int be), some (.int le), some (.int w), c6] [.int be] M v M' 0 0 := Ev.back 1 (fun n => rfl) H
    obtain ⟨z1, z2⟩ := Ev.retz rfl rfl H
    exact Or.inl ⟨h1, z1, z2⟩
  · rw [if_neg h1] at H
    have H : Ev none e 105 34 [some (.ref 0), some (.int ws), some (.int t), some (.int be), some (.int le), some (.int w), c6] [.ref 0] M v M' 0 0 := Ev.back 1 (fun n => rfl) H
    have H : Ev none e 105 37 [some (.ref 0), some (.int ws), some (.int t), some (.int be), some (.int le), some (.int w), c6] [.ref 192] M v M' 0 0 := Ev.back 1 (gs_3 rfl rfl (gf_u hS.1 qa_0 qr_0_4 qu_41 rfl)) H
    have H : Ev none e 105 40 [some (.ref 0), some (.int ws), some (.int t), some (.int be), some (.int le), some (.int w), c6] [.int ws, .int w, .ref 192] M v M' 0 0 := Ev.back 2 (fun n => rfl) H
    obtain ⟨e1, rfl⟩ := Ev.dpos rfl rfl H
    obtain ⟨vK2, MK2, K2, H⟩ := Ev.callb (fun n_ => gs_7 rfl rfl (show gCal (.invokevirtual 296) 10 (.int ws :: .int w :: .ref 192 :: []) M = some (.inr (17, [some (.ref 192), some (.int w), some (.int ws), none, none], [])) from by show @cond (Option ((List Value × Mem) ⊕ (Nat × Lo × List Value))) (true && gRecv M (.ref 192) 2 && gRoom [] && true) (some (.inr (17, [some (.ref 192), some (.int w), some (.int ws), none, none], []))) none = _; rw [recv_s hS.1 qa_192 qo_41]; rfl)) H
    have K2 : Ev none e1 17 0 [some (.ref 192), some (.int w), some (.int ws), none, none] [] M vK2 MK2 0 0 := K2
    have HF := H
    exact Or.inr (⟨h1, ⟨e1, vK2, MK2, rfl, K2, HF⟩⟩)
theorem wai_43 {e : Nat} {M M' : Mem} {v : Option Value} {ws t be le w p : Int32} {c6 : Option Value} (hS : SQ M) (H : Ev none e 105 43 [some (.ref 0), some (.int ws), some (.int t), some (.int be), some (.int le), some (.int w), c6] [.int p] M v M' 0 0) : (∃ e1 v1 M1, e = e1 + 1 ∧ Ev none e1 17 0 [some (.ref 192), some (.int ws), some (.int w), none, none] [] M v1 M1 0 0 ∧ Ev none e 105 53 [some (.ref 0), some (.int ws), some (.int t), some (.int be), some (.int le), some (.int w), c6] (v1.toList ++ [.int p]) M1 v M' 0 0) := by
  have H : Ev none e 105 44 [some (.ref 0), some (.int ws), some (.int t), some (.int be), some (.int le), some (.int w), c6] [.ref 0, .int p] M v M' 0 0 := Ev.back 1 (fun n => rfl) H
  have H : Ev none e 105 47 [some (.ref 0), some (.int ws), some (.int t), some (.int be), some (.int le), some (.int w), c6] [.ref 192, .int p] M v M' 0 0 := Ev.back 1 (gs_3 rfl rfl (gf_u hS.1 qa_0 qr_0_4 qu_41 rfl)) H
  have H : Ev none e 105 50 [some (.ref 0), some (.int ws), some (.int t), some (.int be), some (.int le), some (.int w), c6] [.int w, .int ws, .ref 192, .int p] M v M' 0 0 := Ev.back 2 (fun n => rfl) H
  obtain ⟨e1, rfl⟩ := Ev.dpos rfl rfl H
  obtain ⟨vK1, MK1, K1, H⟩ := Ev.callb (fun n_ => gs_7 rfl rfl (show gCal (.invokevirtual 296) 10 (.int w :: .int ws :: .ref 192 :: [.int p]) M = some (.inr (17, [some (.ref 192), some (.int ws), some (.int w), none, none], [.int p])) from by show @cond (Option ((List Value × Mem) ⊕ (Nat × Lo × List Value))) (true && gRecv M (.ref 192) 2 && gRoom [.int p] && true) (some (.inr (17, [some (.ref 192), some (.int ws), some (.int w), none, none], [.int p]))) none = _; rw [recv_s hS.1 qa_192 qo_41]; rfl)) H
  have K1 : Ev none e1 17 0 [some (.ref 192), some (.int ws), some (.int w), none, none] [] M vK1 MK1 0 0 := K1
  have HF := H
  exact ⟨e1, vK1, MK1, rfl, K1, HF⟩
theorem wai_53 {e : Nat} {M M' : Mem} {v : Option Value} {ws t be le w p q : Int32} {c6 : Option Value} (hS : SQ M) (H : Ev none e 105 53 [some (.ref 0), some (.int ws), some (.int t), some (.int be), some (.int le), some (.int w), c6] [.int q, .int p] M v M' 0 0) : (le ≤ ((p + q) + w) ∧ Ev none e 105 27 [some (.ref 0), some (.int ws), some (.int t), some (.int be), some (.int le), some (.int (w + 1)), some (.int ((p + q) + w))] [] M v M' 0 0) ∨ (¬ (le ≤ ((p + q) + w)) ∧ Ev none e 105 27 [some (.ref 0), some (.int ws), some (.int t), some (.int w), some (.int ((p + q) + w)), some (.int (w + 1)), some (.int ((p + q) + w))] [] M v M' 0 0) := by
  have H : Ev none e 105 (if le ≤ ((p + q) + w) then 73 else 66) [some (.ref 0), some (.int ws), some (.int t), some (.int be), some (.int le), some (.int w), some (.int ((p + q) + w))] [] M v M' 0 0 := Ev.back 7 (fun n => rfl) H
  by_cases h1 : le ≤ ((p + q) + w)
  · rw [if_pos h1] at H
    have H : Ev none e 105 27 [some (.ref 0), some (.int ws), some (.int t), some (.int be), some (.int le), some (.int (w + 1)), some (.int ((p + q) + w))] [] M v M' 0 0 := Ev.back 2 (fun n => rfl) H
    have HF := H
    exact Or.inl ⟨h1, HF⟩
  · rw [if_neg h1] at H
    have H : Ev none e 105 27 [some (.ref 0), some (.int ws), some (.int t), some (.int w), some (.int ((p + q) + w)), some (.int (w + 1)), some (.int ((p + q) + w))] [] M v M' 0 0 := Ev.back 6 (fun n => rfl) H
    have HF := H
    exact Or.inr (⟨h1, HF⟩)
theorem kwk_0 {e : Nat} {M M' : Mem} {v : Option Value} {ws t : Int32} (hS : SQ M) (H : Ev none e 107 0 [some (.ref 0), some (.int ws), some (.int t), none] [] M v M' 0 0) : (∃ e1 v1 M1, e = e1 + 1 ∧ Ev none e1 133 0 [some (.ref 0)] [] M v1 M1 0 0 ∧ Ev none e 107 4 [some (.ref 0), some (.int ws), some (.int t), none] (v1.toList ++ []) M1 v M' 0 0) := by
  have H : Ev none e 107 1 [some (.ref 0), some (.int ws), some (.int t), none] [.ref 0] M v M' 0 0 := Ev.back 1 (fun n => rfl) H
  obtain ⟨e1, rfl⟩ := Ev.dpos rfl rfl H
  obtain ⟨vK1, MK1, K1, H⟩ := Ev.callb (fun n_ => gs_7 rfl rfl (show gCal (.invokevirtual 287) 10 (.ref 0 :: []) M = some (.inr (133, [some (.ref 0)], [])) from by show @cond (Option ((List Value × Mem) ⊕ (Nat × Lo × List Value))) (true && gRecv M (.ref 0) 10 && gRoom [] && true) (some (.inr (133, [some (.ref 0)], []))) none = _; rw [recv_s hS.1 qa_0 qo_0]; rfl)) H
  have K1 : Ev none e1 133 0 [some (.ref 0)] [] M vK1 MK1 0 0 := K1
  have HF := H
  exact ⟨e1, vK1, MK1, rfl, K1, HF⟩
theorem kwk_4 {e : Nat} {M M' : Mem} {v : Option Value} {ws t : Int32} (hS : SQ M) (H : Ev none e 107 4 [some (.ref 0), some (.int ws), some (.int t), none] [] M v M' 0 0) : Ev none e 107 6 [some (.ref 0), some (.int ws), some (.int t), some (.int 1)] [] M v M' 0 0 := by
  have H : Ev none e 107 6 [some (.ref 0), some (.int ws), some (.int t), some (.int 1)] [] M v M' 0 0 := Ev.back 2 (fun n => rfl) H
  have HF := H
  exact HF
theorem kwk_6 {e : Nat} {M M' : Mem} {v : Option Value} {ws t n : Int32} (hS : SQ M) (H : Ev none e 107 6 [some (.ref 0), some (.int ws), some (.int t), some (.int n)] [] M v M' 0 0) : (ws < n ∧ v = none ∧ M' = M) ∨ (¬ (ws < n) ∧ (∃ e1 v1 M1, e = e1 + 1 ∧ Ev none e1 134 0 [some (.ref 0), some (.int t)] [] M v1 M1 0 0 ∧ Ev none e 107 16 [some (.ref 0), some (.int ws), some (.int t), some (.int n)] (v1.toList ++ []) M1 v M' 0 0)) := by
  have H : Ev none e 107 (if ws < n then 30 else 11) [some (.ref 0), some (.int ws), some (.int t), some (.int n)] [] M v M' 0 0 := Ev.back 3 (fun n => rfl) H
  by_cases h1 : ws < n
  · rw [if_pos h1] at H
    obtain ⟨z1, z2⟩ := Ev.retb (fun n => rfl) H
    exact Or.inl ⟨h1, z1, z2⟩
  · rw [if_neg h1] at H
    have H : Ev none e 107 13 [some (.ref 0), some (.int ws), some (.int t), some (.int n)] [.int t, .ref 0] M v M' 0 0 := Ev.back 2 (fun n => rfl) H
    obtain ⟨e1, rfl⟩ := Ev.dpos rfl rfl H
    obtain ⟨vK2, MK2, K2, H⟩ := Ev.callb (fun n_ => gs_7 rfl rfl (show gCal (.invokevirtual 293) 10 (.int t :: .ref 0 :: []) M = some (.inr (134, [some (.ref 0), some (.int t)], [])) from by show @cond (Option ((List Value × Mem) ⊕ (Nat × Lo × List Value))) (true && gRecv M (.ref 0) 10 && gRoom [] && true) (some (.inr (134, [some (.ref 0), some (.int t)], []))) none = _; rw [recv_s hS.1 qa_0 qo_0]; rfl)) H
    have K2 : Ev none e1 134 0 [some (.ref 0), some (.int t)] [] M vK2 MK2 0 0 := K2
    have HF := H
    exact Or.inr (⟨h1, ⟨e1, vK2, MK2, rfl, K2, HF⟩⟩)
theorem kwk_16 {e : Nat} {M M' : Mem} {v : Option Value} {ws t n : Int32} (hS : SQ M) (H : Ev none e 107 16 [some (.ref 0), some (.int ws), some (.int t), some (.int n)] [] M v M' 0 0) : (∃ e1 v1 M1, e = e1 + 1 ∧ Ev none e1 15 0 [some (.ref 192), some (.int n), none] [] M v1 M1 0 0 ∧ Ev none e 107 24 [some (.ref 0), some (.int ws), some (.int t), some (.int n)] (v1.toList ++ []) M1 v M' 0 0) := by
  have H : Ev none e 107 17 [some (.ref 0), some (.int ws), some (.int t), some (.int n)] [.ref 0] M v M' 0 0 := Ev.back 1 (fun n => rfl) H
  have H : Ev none e 107 20 [some (.ref 0), some (.int ws), some (.int t), some (.int n)] [.ref 192] M v M' 0 0 := Ev.back 1 (gs_3 rfl rfl (gf_u hS.1 qa_0 qr_0_4 qu_41 rfl)) H
  have H : Ev none e 107 21 [some (.ref 0), some (.int ws), some (.int t), some (.int n)] [.int n, .ref 192] M v M' 0 0 := Ev.back 1 (fun n => rfl) H
  obtain ⟨e1, rfl⟩ := Ev.dpos rfl rfl H
  obtain ⟨vK1, MK1, K1, H⟩ := Ev.callb (fun n_ => gs_7 rfl rfl (show gCal (.invokevirtual 290) 10 (.int n :: .ref 192 :: []) M = some (.inr (15, [some (.ref 192), some (.int n), none], [])) from by show @cond (Option ((List Value × Mem) ⊕ (Nat × Lo × List Value))) (true && gRecv M (.ref 192) 2 && gRoom [] && true) (some (.inr (15, [some (.ref 192), some (.int n), none], []))) none = _; rw [recv_s hS.1 qa_192 qo_41]; rfl)) H
  have K1 : Ev none e1 15 0 [some (.ref 192), some (.int n), none] [] M vK1 MK1 0 0 := K1
  have HF := H
  exact ⟨e1, vK1, MK1, rfl, K1, HF⟩
theorem kwk_24 {e : Nat} {M M' : Mem} {v : Option Value} {ws t n : Int32} (hS : SQ M) (H : Ev none e 107 24 [some (.ref 0), some (.int ws), some (.int t), some (.int n)] [] M v M' 0 0) : Ev none e 107 6 [some (.ref 0), some (.int ws), some (.int t), some (.int (n + 1))] [] M v M' 0 0 := by
  have H : Ev none e 107 6 [some (.ref 0), some (.int ws), some (.int t), some (.int (n + 1))] [] M v M' 0 0 := Ev.back 2 (fun n => rfl) H
  have HF := H
  exact HF
theorem fnc_0 {e : Nat} {M M' : Mem} {v : Option Value} {c t : Int32} (hS : SQ M) (H : Ev none e 108 0 [some (.ref 0), some (.int c), some (.int t), none] [] M v M' 0 0) : (∃ e1 v1 M1, e = e1 + 1 ∧ Ev none e1 109 0 [some (.ref 0), some (.int c), some (.int t), none, none] [] M v1 M1 0 0 ∧ Ev none e 108 6 [some (.ref 0), some (.int c), some (.int t), none] (v1.toList ++ []) M1 v M' 0 0) := by
  have H : Ev none e 108 3 [some (.ref 0), some (.int c), some (.int t), none] [.int t, .int c, .ref 0] M v M' 0 0 := Ev.back 3 (fun n => rfl) H
  obtain ⟨e1, rfl⟩ := Ev.dpos rfl rfl H
  obtain ⟨vK1, MK1, K1, H⟩ := Ev.callb (fun n_ => gs_7 rfl rfl (show gCal (.invokevirtual 327) 10 (.int t :: .int c :: .ref 0 :: []) M = some (.inr (109, [some (.ref 0), some (.int c), some (.int t), none, none], [])) from by show @cond (Option ((List Value × Mem) ⊕ (Nat × Lo × List Value))) (true && gRecv M (.ref 0) 10 && gRoom [] && true) (some (.inr (109, [some (.ref 0), some (.int c), some (.int t), none, none], []))) none = _; rw [recv_s hS.1 qa_0 qo_0]; rfl)) H
  have K1 : Ev none e1 109 0 [some (.ref 0), some (.int c), some (.int t), none, none] [] M vK1 MK1 0 0 := K1
  have HF := H
  exact ⟨e1, vK1, MK1, rfl, K1, HF⟩
theorem fnc_6 {e : Nat} {M M' : Mem} {v : Option Value} {c t r : Int32} (hS : SQ M) (H : Ev none e 108 6 [some (.ref 0), some (.int c), some (.int t), none] [.int r] M v M' 0 0) : (r = 0 ∧ v = some (.int (-2)) ∧ M' = (wF M 1 1 0)) ∨ (¬ (r = 0) ∧ (∃ e1 v1 M1, e = e1 + 1 ∧ Ev none e1 110 0 [some (.ref 0), some (.int c), some (.int t), none, none] [] M v1 M1 0 0 ∧ Ev none e 108 15 [some (.ref 0), some (.int c), some (.int t), none] (v1.toList ++ []) M1 v M' 0 0)) := by
  have H : Ev none e 108 (if r = 0 then 18 else 9) [some (.ref 0), some (.int c), some (.int t), none] [] M v M' 0 0 := Ev.back 1 (fun n => rfl) H
  by_cases h1 : r = 0
  · rw [if_pos h1] at H
    have H : Ev none e 108 22 [some (.ref 0), some (.int c), some (.int t), some (.int (-2))] [.ref 0] M v M' 0 0 := Ev.back 3 (fun n => rfl) H
    have H : Ev none e 108 25 [some (.ref 0), some (.int c), some (.int t), some (.int (-2))] [.ref 1] M v M' 0 0 := Ev.back 1 (gs_3 rfl rfl (gf_u hS.1 qa_0 qr_0_0 qu_1 rfl)) H
    have H : Ev none e 108 26 [some (.ref 0), some (.int c), some (.int t), some (.int (-2))] [.int 0, .ref 1] M v M' 0 0 := Ev.back 1 (fun n => rfl) H
    obtain ⟨N3, eN3⟩ : ∃ N, N = (wF M 1 1 0) := ⟨_, rfl⟩
    have hN3 : SQ N3 := by rw [eN3]; exact hS.kf
    have H : Ev none e 108 29 [some (.ref 0), some (.int c), some (.int t), some (.int (-2))] [] N3 v M' 0 0 := by rw [eN3]; exact Ev.pfi rfl rfl rfl hS.1 qa_1 qi_1_1 H
    have H : Ev none e 108 30 [some (.ref 0), some (.int c), some (.int t), some (.int (-2))] [.int (-2)] N3 v M' 0 0 := Ev.back 1 (fun n => rfl) H
    obtain ⟨z1, z2⟩ := Ev.retz rfl rfl H
    subst eN3
    exact Or.inl ⟨h1, z1, z2⟩
  · rw [if_neg h1] at H
    have H : Ev none e 108 12 [some (.ref 0), some (.int c), some (.int t), none] [.int t, .int c, .ref 0] M v M' 0 0 := Ev.back 3 (fun n => rfl) H
    obtain ⟨e1, rfl⟩ := Ev.dpos rfl rfl H
    obtain ⟨vK4, MK4, K4, H⟩ := Ev.callb (fun n_ => gs_7 rfl rfl (show gCal (.invokevirtual 330) 10 (.int t :: .int c :: .ref 0 :: []) M = some (.inr (110, [some (.ref 0), some (.int c), some (.int t), none, none], [])) from by show @cond (Option ((List Value × Mem) ⊕ (Nat × Lo × List Value))) (true && gRecv M (.ref 0) 10 && gRoom [] && true) (some (.inr (110, [some (.ref 0), some (.int c), some (.int t), none, none], []))) none = _; rw [recv_s hS.1 qa_0 qo_0]; rfl)) H
    have K4 : Ev none e1 110 0 [some (.ref 0), some (.int c), some (.int t), none, none] [] M vK4 MK4 0 0 := K4
    have HF := H
    exact Or.inr (⟨h1, ⟨e1, vK4, MK4, rfl, K4, HF⟩⟩)
theorem fnc_15 {e : Nat} {M M' : Mem} {v : Option Value} {c t r : Int32} (hS : SQ M) (H : Ev none e 108 15 [some (.ref 0), some (.int c), some (.int t), none] [.int r] M v M' 0 0) : v = some (.int r) ∧ M' = (wF M 1 1 0) := by
  have H : Ev none e 108 22 [some (.ref 0), some (.int c), some (.int t), some (.int r)] [.ref 0] M v M' 0 0 := Ev.back 3 (fun n => rfl) H
  have H : Ev none e 108 25 [some (.ref 0), some (.int c), some (.int t), some (.int r)] [.ref 1] M v M' 0 0 := Ev.back 1 (gs_3 rfl rfl (gf_u hS.1 qa_0 qr_0_0 qu_1 rfl)) H
  have H : Ev none e 108 26 [some (.ref 0), some (.int c), some (.int t), some (.int r)] [.int 0, .ref 1] M v M' 0 0 := Ev.back 1 (fun n => rfl) H
  obtain ⟨N2, eN2⟩ : ∃ N, N = (wF M 1 1 0) := ⟨_, rfl⟩
  have hN2 : SQ N2 := by rw [eN2]; exact hS.kf
  have H : Ev none e 108 29 [some (.ref 0), some (.int c), some (.int t), some (.int r)] [] N2 v M' 0 0 := by rw [eN2]; exact Ev.pfi rfl rfl rfl hS.1 qa_1 qi_1_1 H
  have H : Ev none e 108 30 [some (.ref 0), some (.int c), some (.int t), some (.int r)] [.int r] N2 v M' 0 0 := Ev.back 1 (fun n => rfl) H
  obtain ⟨z1, z2⟩ := Ev.retz rfl rfl H
  subst eN2
  exact ⟨z1, z2⟩
theorem fto_0 {e : Nat} {M M' : Mem} {v : Option Value} {c t : Int32} (hS : SQ M) (H : Ev none e 109 0 [some (.ref 0), some (.int c), some (.int t), none, none] [] M v M' 0 0) : (∃ e1 v1 M1, e = e1 + 1 ∧ Ev none e1 127 0 [some (.ref 0), some (.int c)] [] M v1 M1 0 0 ∧ Ev none e 109 5 [some (.ref 0), some (.int c), some (.int t), none, none] (v1.toList ++ []) M1 v M' 0 0) := by
  have H : Ev none e 109 2 [some (.ref 0), some (.int c), some (.int t), none, none] [.int c, .ref 0] M v M' 0 0 := Ev.back 2 (fun n => rfl) H
  obtain ⟨e1, rfl⟩ := Ev.dpos rfl rfl H
  obtain ⟨vK1, MK1, K1, H⟩ := Ev.callb (fun n_ => gs_7 rfl rfl (show gCal (.invokevirtual 113) 10 (.int c :: .ref 0 :: []) M = some (.inr (127, [some (.ref 0), some (.int c)], [])) from by show @cond (Option ((List Value × Mem) ⊕ (Nat × Lo × List Value))) (true && gRecv M (.ref 0) 10 && gRoom [] && true) (some (.inr (127, [some (.ref 0), some (.int c)], []))) none = _; rw [recv_s hS.1 qa_0 qo_0]; rfl)) H
  have K1 : Ev none e1 127 0 [some (.ref 0), some (.int c)] [] M vK1 MK1 0 0 := K1
  have HF := H
  exact ⟨e1, vK1, MK1, rfl, K1, HF⟩
theorem fto_5 {e : Nat} {M M' : Mem} {v : Option Value} {c t r : Int32} (hS : SQ M) (H : Ev none e 109 5 [some (.ref 0), some (.int c), some (.int t), none, none] [.int r] M v M' 0 0) : (r = 0 ∧ v = some (.int 0) ∧ M' = M) ∨ (¬ (r = 0) ∧ (G_126 M t 1 100) = 0 ∧ v = some (.int 0) ∧ M' = M) ∨ (¬ (r = 0) ∧ ¬ ((G_126 M t 1 100) = 0) ∧ (G_126 M (zI M 1 1) 1 12) = 0 ∧ v = some (.int 0) ∧ M' = M) ∨ (¬ (r = 0) ∧ ¬ ((G_126 M t 1 100) = 0) ∧ ¬ ((G_126 M (zI M 1 1) 1 12) = 0) ∧ Ev none e 109 38 [some (.ref 0), some (.int c), some (.int t), some (.int 0), none] [] M v M' 0 0) := by
  have H : Ev none e 109 (if r = 0 then 34 else 8) [some (.ref 0), some (.int c), some (.int t), none, none] [] M v M' 0 0 := Ev.back 1 (fun n => rfl) H
  by_cases h1 : r = 0
  · rw [if_pos h1] at H
    have H : Ev none e 109 35 [some (.ref 0), some (.int c), some (.int t), none, none] [.int 0] M v M' 0 0 := Ev.back 1 (fun n => rfl) H
    obtain ⟨z1, z2⟩ := Ev.retz rfl rfl H
    exact Or.inl ⟨h1, z1, z2⟩
  · rw [if_neg h1] at H
    have H : Ev none e 109 12 [some (.ref 0), some (.int c), some (.int t), none, none] [.int 100, .int 1, .int t] M v M' 0 0 := Ev.back 3 (fun n => rfl) H
    obtain ⟨e1, rfl⟩ := Ev.dpos rfl rfl H
    obtain ⟨vK2, MK2, K2, H⟩ := Ev.callb (fun n => rfl) H
    obtain ⟨pK2, qK2⟩ := g_126 hS K2
    rw [pK2, qK2] at H
    have H : Ev none (e1 + 1) 109 15 [some (.ref 0), some (.int c), some (.int t), none, none] [.int (G_126 M t 1 100)] M v M' 0 0 := H
    have H : Ev none (e1 + 1) 109 (if (G_126 M t 1 100) = 0 then 34 else 18) [some (.ref 0), some (.int c), some (.int t), none, none] [] M v M' 0 0 := Ev.back 1 (fun n => rfl) H
    by_cases h3 : (G_126 M t 1 100) = 0
    · rw [if_pos h3] at H
      have H : Ev none (e1 + 1) 109 35 [some (.ref 0), some (.int c), some (.int t), none, none] [.int 0] M v M' 0 0 := Ev.back 1 (fun n => rfl) H
      obtain ⟨z1, z2⟩ := Ev.retz rfl rfl H
      exact Or.inr (Or.inl ⟨h1, h3, z1, z2⟩)
    · rw [if_neg h3] at H
      have H : Ev none (e1 + 1) 109 19 [some (.ref 0), some (.int c), some (.int t), none, none] [.ref 0] M v M' 0 0 := Ev.back 1 (fun n => rfl) H
      have H : Ev none (e1 + 1) 109 22 [some (.ref 0), some (.int c), some (.int t), none, none] [.ref 1] M v M' 0 0 := Ev.back 1 (gs_3 rfl rfl (gf_u hS.1 qa_0 qr_0_0 qu_1 rfl)) H
      have H : Ev none (e1 + 1) 109 25 [some (.ref 0), some (.int c), some (.int t), none, none] [.int (zI M 1 1)] M v M' 0 0 := Ev.back 1 (gs_3 rfl rfl (gf_i hS.1 qa_1 qi_1_1 rfl)) H
      have H : Ev none (e1 + 1) 109 28 [some (.ref 0), some (.int c), some (.int t), none, none] [.int 12, .int 1, .int (zI M 1 1)] M v M' 0 0 := Ev.back 2 (fun n => rfl) H
      obtain ⟨vK4, MK4, K4, H⟩ := Ev.callb (fun n => rfl) H
      obtain ⟨pK4, qK4⟩ := g_126 hS K4
      rw [pK4, qK4] at H
      have H : Ev none (e1 + 1) 109 31 [some (.ref 0), some (.int c), some (.int t), none, none] [.int (G_126 M (zI M 1 1) 1 12)] M v M' 0 0 := H
      have H : Ev none (e1 + 1) 109 (if (G_126 M (zI M 1 1) 1 12) = 0 then 34 else 36) [some (.ref 0), some (.int c), some (.int t), none, none] [] M v M' 0 0 := Ev.back 1 (fun n => rfl) H
      by_cases h5 : (G_126 M (zI M 1 1) 1 12) = 0
      · rw [if_pos h5] at H
        have H : Ev none (e1 + 1) 109 35 [some (.ref 0), some (.int c), some (.int t), none, none] [.int 0] M v M' 0 0 := Ev.back 1 (fun n => rfl) H
        obtain ⟨z1, z2⟩ := Ev.retz rfl rfl H
        exact Or.inr (Or.inr (Or.inl ⟨h1, h3, h5, z1, z2⟩))
      · rw [if_neg h5] at H
        have H : Ev none (e1 + 1) 109 38 [some (.ref 0), some (.int c), some (.int t), some (.int 0), none] [] M v M' 0 0 := Ev.back 2 (fun n => rfl) H
        have HF := H
        exact Or.inr (Or.inr (Or.inr (⟨h1, h3, h5, HF⟩)))
theorem fto_38 {e : Nat} {M M' : Mem} {v : Option Value} {c t i : Int32} {c4 : Option Value} (hS : SQ M) (H : Ev none e 109 38 [some (.ref 0), some (.int c), some (.int t), some (.int i), c4] [] M v M' 0 0) : ((zI M 1 1) ≤ i ∧ v = some (.int 1) ∧ M' = M) ∨ (¬ ((zI M 1 1) ≤ i) ∧ (0 ≤ i.toInt ∧ i.toInt < 440) ∧ (∃ e1 v1 M1, e = e1 + 1 ∧ Ev none e1 127 0 [some (.ref 0), some (.int (rI M 2 i))] [] M v1 M1 0 0 ∧ Ev none e 109 66 [some (.ref 0), some (.int c), some (.int t), some (.int i), some (.int (rI M 2 i))] (v1.toList ++ []) M1 v M' 0 0)) := by
  have H : Ev none e 109 40 [some (.ref 0), some (.int c), some (.int t), some (.int i), c4] [.ref 0, .int i] M v M' 0 0 := Ev.back 2 (fun n => rfl) H
  have H : Ev none e 109 43 [some (.ref 0), some (.int c), some (.int t), some (.int i), c4] [.ref 1, .int i] M v M' 0 0 := Ev.back 1 (gs_3 rfl rfl (gf_u hS.1 qa_0 qr_0_0 qu_1 rfl)) H
  have H : Ev none e 109 46 [some (.ref 0), some (.int c), some (.int t), some (.int i), c4] [.int (zI M 1 1), .int i] M v M' 0 0 := Ev.back 1 (gs_3 rfl rfl (gf_i hS.1 qa_1 qi_1_1 rfl)) H
  have H : Ev none e 109 (if (zI M 1 1) ≤ i then 114 else 49) [some (.ref 0), some (.int c), some (.int t), some (.int i), c4] [] M v M' 0 0 := Ev.back 1 (fun n => rfl) H
  by_cases h1 : (zI M 1 1) ≤ i
  · rw [if_pos h1] at H
    have H : Ev none e 109 115 [some (.ref 0), some (.int c), some (.int t), some (.int i), c4] [.int 1] M v M' 0 0 := Ev.back 1 (fun n => rfl) H
    obtain ⟨z1, z2⟩ := Ev.retz rfl rfl H
    exact Or.inl ⟨h1, z1, z2⟩
  · rw [if_neg h1] at H
    have H : Ev none e 109 50 [some (.ref 0), some (.int c), some (.int t), some (.int i), c4] [.ref 0] M v M' 0 0 := Ev.back 1 (fun n => rfl) H
    have H : Ev none e 109 53 [some (.ref 0), some (.int c), some (.int t), some (.int i), c4] [.ref 1] M v M' 0 0 := Ev.back 1 (gs_3 rfl rfl (gf_u hS.1 qa_0 qr_0_0 qu_1 rfl)) H
    have H : Ev none e 109 56 [some (.ref 0), some (.int c), some (.int t), some (.int i), c4] [.ref 2] M v M' 0 0 := Ev.back 1 (gs_3 rfl rfl (gf_u hS.1 qa_1 qr_1_0 qu_2 rfl)) H
    have H : Ev none e 109 57 [some (.ref 0), some (.int c), some (.int t), some (.int i), c4] [.int i, .ref 2] M v M' 0 0 := Ev.back 1 (fun n => rfl) H
    obtain ⟨b2, H⟩ := Ev.ial rfl rfl hS.1 qa_2 qw_2 H
    have H : Ev none e 109 58 [some (.ref 0), some (.int c), some (.int t), some (.int i), c4] [.int (rI M 2 i)] M v M' 0 0 := H
    have H : Ev none e 109 63 [some (.ref 0), some (.int c), some (.int t), some (.int i), some (.int (rI M 2 i))] [.int (rI M 2 i), .ref 0] M v M' 0 0 := Ev.back 3 (fun n => rfl) H
    obtain ⟨e1, rfl⟩ := Ev.dpos rfl rfl H
    obtain ⟨vK3, MK3, K3, H⟩ := Ev.callb (fun n_ => gs_7 rfl rfl (show gCal (.invokevirtual 113) 10 (.int (rI M 2 i) :: .ref 0 :: []) M = some (.inr (127, [some (.ref 0), some (.int (rI M 2 i))], [])) from by show @cond (Option ((List Value × Mem) ⊕ (Nat × Lo × List Value))) (true && gRecv M (.ref 0) 10 && gRoom [] && true) (some (.inr (127, [some (.ref 0), some (.int (rI M 2 i))], []))) none = _; rw [recv_s hS.1 qa_0 qo_0]; rfl)) H
    have K3 : Ev none e1 127 0 [some (.ref 0), some (.int (rI M 2 i))] [] M vK3 MK3 0 0 := K3
    have HF := H
    exact Or.inr (⟨h1, b2, ⟨e1, vK3, MK3, rfl, K3, HF⟩⟩)
theorem fto_66 {e : Nat} {M M' : Mem} {v : Option Value} {c t i a r : Int32} (hS : SQ M) (hLd : fR M 0 2 = 8) (H : Ev none e 109 66 [some (.ref 0), some (.int c), some (.int t), some (.int i), some (.int a)] [.int r] M v M' 0 0) : (r = 0 ∧ v = some (.int 0) ∧ M' = M) ∨ (¬ (r = 0) ∧ (G_7 M 8 a) = 0 ∧ v = some (.int 0) ∧ M' = M) ∨ (¬ (r = 0) ∧ ¬ ((G_7 M 8 a) = 0) ∧ (∃ e1 v1 M1, e = e1 + 1 ∧ Ev none e1 9 0 [some (.ref 8), some (.int a), none] [] M v1 M1 0 0 ∧ Ev none e 109 90 [some (.ref 0), some (.int c), some (.int t), some (.int i), some (.int a)] (v1.toList ++ []) M1 v M' 0 0)) := by
  have H : Ev none e 109 (if r = 0 then 106 else 69) [some (.ref 0), some (.int c), some (.int t), some (.int i), some (.int a)] [] M v M' 0 0 := Ev.back 1 (fun n => rfl) H
  by_cases h1 : r = 0
  · rw [if_pos h1] at H
    have H : Ev none e 109 107 [some (.ref 0), some (.int c), some (.int t), some (.int i), some (.int a)] [.int 0] M v M' 0 0 := Ev.back 1 (fun n => rfl) H
    obtain ⟨z1, z2⟩ := Ev.retz rfl rfl H
    exact Or.inl ⟨h1, z1, z2⟩
  · rw [if_neg h1] at H
    have H : Ev none e 109 70 [some (.ref 0), some (.int c), some (.int t), some (.int i), some (.int a)] [.ref 0] M v M' 0 0 := Ev.back 1 (fun n => rfl) H
    have H : Ev none e 109 73 [some (.ref 0), some (.int c), some (.int t), some (.int i), some (.int a)] [.ref (fR M 0 2)] M v M' 0 0 := Ev.back 1 (gs_3 rfl rfl (gf_r hS.1 qa_0 qr_0_2 rfl)) H
    rw [hLd] at H
    have H : Ev none e 109 75 [some (.ref 0), some (.int c), some (.int t), some (.int i), some (.int a)] [.int a, .ref 8] M v M' 0 0 := Ev.back 1 (fun n => rfl) H
    obtain ⟨e1, rfl⟩ := Ev.dpos rfl rfl H
    obtain ⟨vK2, MK2, K2, H⟩ := Ev.callb (fun n_ => gs_7 rfl rfl (show gCal (.invokevirtual 117) 10 (.int a :: .ref 8 :: []) M = some (.inr (7, [some (.ref 8), some (.int a)], [])) from by show @cond (Option ((List Value × Mem) ⊕ (Nat × Lo × List Value))) (true && gRecv M (.ref 8) 1 && gRoom [] && true) (some (.inr (7, [some (.ref 8), some (.int a)], []))) none = _; rw [recv_s hS.1 qa_8 qo_8]; rfl)) H
    obtain ⟨pK2, qK2⟩ := g_7 hS qa_8 K2
    rw [pK2, qK2] at H
    have H : Ev none (e1 + 1) 109 78 [some (.ref 0), some (.int c), some (.int t), some (.int i), some (.int a)] [.int (G_7 M 8 a)] M v M' 0 0 := H
    have H : Ev none (e1 + 1) 109 (if (G_7 M 8 a) = 0 then 106 else 81) [some (.ref 0), some (.int c), some (.int t), some (.int i), some (.int a)] [] M v M' 0 0 := Ev.back 1 (fun n => rfl) H
    by_cases h3 : (G_7 M 8 a) = 0
    · rw [if_pos h3] at H
      have H : Ev none (e1 + 1) 109 107 [some (.ref 0), some (.int c), some (.int t), some (.int i), some (.int a)] [.int 0] M v M' 0 0 := Ev.back 1 (fun n => rfl) H
      obtain ⟨z1, z2⟩ := Ev.retz rfl rfl H
      exact Or.inr (Or.inl ⟨h1, h3, z1, z2⟩)
    · rw [if_neg h3] at H
      have H : Ev none (e1 + 1) 109 82 [some (.ref 0), some (.int c), some (.int t), some (.int i), some (.int a)] [.ref 0] M v M' 0 0 := Ev.back 1 (fun n => rfl) H
      have H : Ev none (e1 + 1) 109 85 [some (.ref 0), some (.int c), some (.int t), some (.int i), some (.int a)] [.ref (fR M 0 2)] M v M' 0 0 := Ev.back 1 (gs_3 rfl rfl (gf_r hS.1 qa_0 qr_0_2 rfl)) H
      rw [hLd] at H
      have H : Ev none (e1 + 1) 109 87 [some (.ref 0), some (.int c), some (.int t), some (.int i), some (.int a)] [.int a, .ref 8] M v M' 0 0 := Ev.back 1 (fun n => rfl) H
      obtain ⟨vK4, MK4, K4, H⟩ := Ev.callb (fun n_ => gs_7 rfl rfl (show gCal (.invokevirtual 120) 10 (.int a :: .ref 8 :: []) M = some (.inr (9, [some (.ref 8), some (.int a), none], [])) from by show @cond (Option ((List Value × Mem) ⊕ (Nat × Lo × List Value))) (true && gRecv M (.ref 8) 1 && gRoom [] && true) (some (.inr (9, [some (.ref 8), some (.int a), none], []))) none = _; rw [recv_s hS.1 qa_8 qo_8]; rfl)) H
      have K4 : Ev none e1 9 0 [some (.ref 8), some (.int a), none] [] M vK4 MK4 0 0 := K4
      have HF := H
      exact Or.inr (Or.inr (⟨h1, h3, ⟨e1, vK4, MK4, rfl, K4, HF⟩⟩))
theorem fto_90 {e : Nat} {M M' : Mem} {v : Option Value} {c t i a r : Int32} (hS : SQ M) (hLd : fR M 0 2 = 8) (H : Ev none e 109 90 [some (.ref 0), some (.int c), some (.int t), some (.int i), some (.int a)] [.int r] M v M' 0 0) : (r = 0 ∧ (rI M (8 + 8) a) ≤ 0 ∧ (0 ≤ a.toInt ∧ a.toInt < 256) ∧ Ev none e 109 38 [some (.ref 0), some (.int c), some (.int t), some (.int (i + 1)), some (.int a)] [] M v M' 0 0) ∨ (r = 0 ∧ ¬ ((rI M (8 + 8) a) ≤ 0) ∧ (0 ≤ a.toInt ∧ a.toInt < 256) ∧ v = some (.int 0) ∧ M' = M) ∨ (¬ (r = 0) ∧ v = some (.int 0) ∧ M' = M) := by
  have H : Ev none e 109 (if r = 0 then 93 else 106) [some (.ref 0), some (.int c), some (.int t), some (.int i), some (.int a)] [] M v M' 0 0 := Ev.back 1 (fun n => rfl) H
  by_cases h1 : r = 0
  · rw [if_pos h1] at H
    have H : Ev none e 109 94 [some (.ref 0), some (.int c), some (.int t), some (.int i), some (.int a)] [.ref 0] M v M' 0 0 := Ev.back 1 (fun n => rfl) H
    have H : Ev none e 109 97 [some (.ref 0), some (.int c), some (.int t), some (.int i), some (.int a)] [.ref (fR M 0 2)] M v M' 0 0 := Ev.back 1 (gs_3 rfl rfl (gf_r hS.1 qa_0 qr_0_2 rfl)) H
    rw [hLd] at H
    have H : Ev none e 109 100 [some (.ref 0), some (.int c), some (.int t), some (.int i), some (.int a)] [.ref (8 + 8)] M v M' 0 0 := Ev.back 1 (gs_3 rfl rfl (gf_x hS.1 qa_8 qo_8 (fx_l9 hS qa_8) rfl)) H
    have H : Ev none e 109 102 [some (.ref 0), some (.int c), some (.int t), some (.int i), some (.int a)] [.int a, .ref (8 + 8)] M v M' 0 0 := Ev.back 1 (fun n => rfl) H
    obtain ⟨b2, H⟩ := Ev.ial rfl rfl hS.1 (fx_h9 qa_8) qw_16 H
    have H : Ev none e 109 103 [some (.ref 0), some (.int c), some (.int t), some (.int i), some (.int a)] [.int (rI M (8 + 8) a)] M v M' 0 0 := H
    have H : Ev none e 109 (if (rI M (8 + 8) a) ≤ 0 then 108 else 106) [some (.ref 0), some (.int c), some (.int t), some (.int i), some (.int a)] [] M v M' 0 0 := Ev.back 1 (fun n => rfl) H
    by_cases h3 : (rI M (8 + 8) a) ≤ 0
    · rw [if_pos h3] at H
      have H : Ev none e 109 38 [some (.ref 0), some (.int c), some (.int t), some (.int (i + 1)), some (.int a)] [] M v M' 0 0 := Ev.back 2 (fun n => rfl) H
      have HF := H
      exact Or.inl ⟨h1, h3, b2, HF⟩
    · rw [if_neg h3] at H
      have H : Ev none e 109 107 [some (.ref 0), some (.int c), some (.int t), some (.int i), some (.int a)] [.int 0] M v M' 0 0 := Ev.back 1 (fun n => rfl) H
      obtain ⟨z1, z2⟩ := Ev.retz rfl rfl H
      exact Or.inr (Or.inl ⟨h1, h3, b2, z1, z2⟩)
  · rw [if_neg h1] at H
    have H : Ev none e 109 107 [some (.ref 0), some (.int c), some (.int t), some (.int i), some (.int a)] [.int 0] M v M' 0 0 := Ev.back 1 (fun n => rfl) H
    obtain ⟨z1, z2⟩ := Ev.retz rfl rfl H
    exact Or.inr (Or.inr (⟨h1, z1, z2⟩))
theorem ffe_0 {e : Nat} {M M' : Mem} {v : Option Value} {c t : Int32} (hS : SQ M) (H : Ev none e 110 0 [some (.ref 0), some (.int c), some (.int t), none, none] [] M v M' 0 0) : (∃ e1 v1 M1, e = e1 + 1 ∧ Ev none e1 111 0 [some (.ref 0), some (.int c), some (.int t), some (.int (-1)), some (.int (-1))] [] M v1 M1 0 0 ∧ Ev none e 110 8 [some (.ref 0), some (.int c), some (.int t), none, none] (v1.toList ++ []) M1 v M' 0 0) := by
  have H : Ev none e 110 5 [some (.ref 0), some (.int c), some (.int t), none, none] [.int (-1), .int (-1), .int t, .int c, .ref 0] M v M' 0 0 := Ev.back 5 (fun n => rfl) H
  obtain ⟨e1, rfl⟩ := Ev.dpos rfl rfl H
  obtain ⟨vK1, MK1, K1, H⟩ := Ev.callb (fun n_ => gs_7 rfl rfl (show gCal (.invokevirtual 333) 10 (.int (-1) :: .int (-1) :: .int t :: .int c :: .ref 0 :: []) M = some (.inr (111, [some (.ref 0), some (.int c), some (.int t), some (.int (-1)), some (.int (-1))], [])) from by show @cond (Option ((List Value × Mem) ⊕ (Nat × Lo × List Value))) (true && gRecv M (.ref 0) 10 && gRoom [] && true) (some (.inr (111, [some (.ref 0), some (.int c), some (.int t), some (.int (-1)), some (.int (-1))], []))) none = _; rw [recv_s hS.1 qa_0 qo_0]; rfl)) H
  have K1 : Ev none e1 111 0 [some (.ref 0), some (.int c), some (.int t), some (.int (-1)), some (.int (-1))] [] M vK1 MK1 0 0 := K1
  have HF := H
  exact ⟨e1, vK1, MK1, rfl, K1, HF⟩
noncomputable def A_112 (M : Mem) (n : Int32) (a : Int32) (b : Int32) : Int32 := n
noncomputable def X_112 (M : Mem) (n : Int32) (a : Int32) (b : Int32) : Mem := (wI (wI (wF M 0 14 n) 343 ((0 : Int32).toNatClampNeg) a) 343 ((1 : Int32).toNatClampNeg) b)
theorem g_112 {e : Nat} {M M' : Mem} {v : Option Value} {n a b : Int32} (hS : SQ M) (H : Ev none e 112 0 [some (.ref 0), some (.int n), some (.int a), some (.int b)] [] M v M' 0 0) : v = some (.int (A_112 M n a b)) ∧ M' = X_112 M n a b := by
  unfold A_112 X_112
  have H : Ev none e 112 2 [some (.ref 0), some (.int n), some (.int a), some (.int b)] [.int n, .ref 0] M v M' 0 0 := Ev.back 2 (fun n => rfl) H
  obtain ⟨N2, eN2⟩ : ∃ N, N = (wF M 0 14 n) := ⟨_, rfl⟩
  have hN2 : SQ N2 := by rw [eN2]; exact hS.kf
  have H : Ev none e 112 5 [some (.ref 0), some (.int n), some (.int a), some (.int b)] [] N2 v M' 0 0 := by rw [eN2]; exact Ev.pfi rfl rfl rfl hS.1 qa_0 qi_0_14 H
  have H : Ev none e 112 6 [some (.ref 0), some (.int n), some (.int a), some (.int b)] [.ref 0] N2 v M' 0 0 := Ev.back 1 (fun n => rfl) H
  have H : Ev none e 112 9 [some (.ref 0), some (.int n), some (.int a), some (.int b)] [.ref 343] N2 v M' 0 0 := Ev.back 1 (gs_3 rfl rfl (gf_u hN2.1 qa_0 qr_0_11 qu_59 rfl)) H
  have H : Ev none e 112 11 [some (.ref 0), some (.int n), some (.int a), some (.int b)] [.int a, .int 0, .ref 343] N2 v M' 0 0 := Ev.back 2 (fun n => rfl) H
  obtain ⟨b3, H⟩ := Ev.ias rfl rfl hN2.1 qa_343 qw_59 H
  obtain ⟨N4, eN4⟩ : ∃ N, N = (wI N2 343 ((0 : Int32).toNatClampNeg) a) := ⟨_, rfl⟩
  have hN4 : SQ N4 := by rw [eN4]; exact hN2.ki
  have H : Ev none e 112 12 [some (.ref 0), some (.int n), some (.int a), some (.int b)] [] N4 v M' 0 0 := by rw [eN4]; exact H
  have H : Ev none e 112 13 [some (.ref 0), some (.int n), some (.int a), some (.int b)] [.ref 0] N4 v M' 0 0 := Ev.back 1 (fun n => rfl) H
  have H : Ev none e 112 16 [some (.ref 0), some (.int n), some (.int a), some (.int b)] [.ref 343] N4 v M' 0 0 := Ev.back 1 (gs_3 rfl rfl (gf_u hN4.1 qa_0 qr_0_11 qu_59 rfl)) H
  have H : Ev none e 112 18 [some (.ref 0), some (.int n), some (.int a), some (.int b)] [.int b, .int 1, .ref 343] N4 v M' 0 0 := Ev.back 2 (fun n => rfl) H
  obtain ⟨b5, H⟩ := Ev.ias rfl rfl hN4.1 qa_343 qw_59 H
  obtain ⟨N6, eN6⟩ : ∃ N, N = (wI N4 343 ((1 : Int32).toNatClampNeg) b) := ⟨_, rfl⟩
  have hN6 : SQ N6 := by rw [eN6]; exact hN4.ki
  have H : Ev none e 112 19 [some (.ref 0), some (.int n), some (.int a), some (.int b)] [] N6 v M' 0 0 := by rw [eN6]; exact H
  have H : Ev none e 112 20 [some (.ref 0), some (.int n), some (.int a), some (.int b)] [.int n] N6 v M' 0 0 := Ev.back 1 (fun n => rfl) H
  obtain ⟨p1, p2⟩ := Ev.retz rfl rfl H
  subst eN2 eN4 eN6
  exact ⟨p1, p2⟩
theorem X_112_sx {M : Mem} {n a b : Int32} (hS : SQ M) : SQ (X_112 M n a b) := by
  unfold X_112
  exact ((hS.kf).ki).ki
theorem ffe_8 {e : Nat} {M M' : Mem} {v : Option Value} {c t r : Int32} (hS : SQ M) (H : Ev none e 110 8 [some (.ref 0), some (.int c), some (.int t), none, none] [.int r] M v M' 0 0) : (r = 0 ∧ Ev none e 110 21 [some (.ref 0), some (.int c), some (.int t), some (.int 0), none] [] M v M' 0 0) ∨ (¬ (r = 0) ∧ v = some (.int (A_112 M 0 (-1) (-1))) ∧ M' = (X_112 M 0 (-1) (-1))) := by
  have H : Ev none e 110 (if r = 0 then 19 else 11) [some (.ref 0), some (.int c), some (.int t), none, none] [] M v M' 0 0 := Ev.back 1 (fun n => rfl) H
  by_cases h1 : r = 0
  · rw [if_pos h1] at H
    have H : Ev none e 110 21 [some (.ref 0), some (.int c), some (.int t), some (.int 0), none] [] M v M' 0 0 := Ev.back 2 (fun n => rfl) H
    have HF := H
    exact Or.inl ⟨h1, HF⟩
  · rw [if_neg h1] at H
    have H : Ev none e 110 15 [some (.ref 0), some (.int c), some (.int t), none, none] [.int (-1), .int (-1), .int 0, .ref 0] M v M' 0 0 := Ev.back 4 (fun n => rfl) H
    obtain ⟨e1, rfl⟩ := Ev.dpos rfl rfl H
    obtain ⟨vK2, MK2, K2, H⟩ := Ev.callb (fun n_ => gs_7 rfl rfl (show gCal (.invokevirtual 337) 10 (.int (-1) :: .int (-1) :: .int 0 :: .ref 0 :: []) M = some (.inr (112, [some (.ref 0), some (.int 0), some (.int (-1)), some (.int (-1))], [])) from by show @cond (Option ((List Value × Mem) ⊕ (Nat × Lo × List Value))) (true && gRecv M (.ref 0) 10 && gRoom [] && true) (some (.inr (112, [some (.ref 0), some (.int 0), some (.int (-1)), some (.int (-1))], []))) none = _; rw [recv_s hS.1 qa_0 qo_0]; rfl)) H
    obtain ⟨pK2, qK2⟩ := g_112 hS K2
    rw [pK2, qK2] at H
    obtain ⟨N3, eN3⟩ : ∃ N, N = (X_112 M 0 (-1) (-1)) := ⟨_, rfl⟩
    have hN3 : SQ N3 := by rw [eN3]; exact X_112_sx hS
    rw [← eN3] at H
    have H : Ev none (e1 + 1) 110 18 [some (.ref 0), some (.int c), some (.int t), none, none] [.int (A_112 M 0 (-1) (-1))] N3 v M' 0 0 := H
    obtain ⟨z1, z2⟩ := Ev.retz rfl rfl H
    subst eN3
    exact Or.inr (⟨h1, z1, z2⟩)
theorem ffe_21 {e : Nat} {M M' : Mem} {v : Option Value} {c t i : Int32} {c4 : Option Value} (hS : SQ M) (H : Ev none e 110 21 [some (.ref 0), some (.int c), some (.int t), some (.int i), c4] [] M v M' 0 0) : ((zI M 1 1) ≤ i ∧ Ev none e 110 75 [some (.ref 0), some (.int c), some (.int t), some (.int 0), c4] [] M v M' 0 0) ∨ (¬ ((zI M 1 1) ≤ i) ∧ (0 ≤ i.toInt ∧ i.toInt < 440) ∧ (∃ e1 v1 M1, e = e1 + 1 ∧ Ev none e1 111 0 [some (.ref 0), some (.int c), some (.int t), some (.int (rI M 2 i)), some (.int (-1))] [] M v1 M1 0 0 ∧ Ev none e 110 48 [some (.ref 0), some (.int c), some (.int t), some (.int i), c4] (v1.toList ++ []) M1 v M' 0 0)) := by
  have H : Ev none e 110 23 [some (.ref 0), some (.int c), some (.int t), some (.int i), c4] [.ref 0, .int i] M v M' 0 0 := Ev.back 2 (fun n => rfl) H
  have H : Ev none e 110 26 [some (.ref 0), some (.int c), some (.int t), some (.int i), c4] [.ref 1, .int i] M v M' 0 0 := Ev.back 1 (gs_3 rfl rfl (gf_u hS.1 qa_0 qr_0_0 qu_1 rfl)) H
  have H : Ev none e 110 29 [some (.ref 0), some (.int c), some (.int t), some (.int i), c4] [.int (zI M 1 1), .int i] M v M' 0 0 := Ev.back 1 (gs_3 rfl rfl (gf_i hS.1 qa_1 qi_1_1 rfl)) H
  have H : Ev none e 110 (if (zI M 1 1) ≤ i then 73 else 32) [some (.ref 0), some (.int c), some (.int t), some (.int i), c4] [] M v M' 0 0 := Ev.back 1 (fun n => rfl) H
  by_cases h1 : (zI M 1 1) ≤ i
  · rw [if_pos h1] at H
    have H : Ev none e 110 75 [some (.ref 0), some (.int c), some (.int t), some (.int 0), c4] [] M v M' 0 0 := Ev.back 2 (fun n => rfl) H
    have HF := H
    exact Or.inl ⟨h1, HF⟩
  · rw [if_neg h1] at H
    have H : Ev none e 110 36 [some (.ref 0), some (.int c), some (.int t), some (.int i), c4] [.ref 0, .int t, .int c, .ref 0] M v M' 0 0 := Ev.back 4 (fun n => rfl) H
    have H : Ev none e 110 39 [some (.ref 0), some (.int c), some (.int t), some (.int i), c4] [.ref 1, .int t, .int c, .ref 0] M v M' 0 0 := Ev.back 1 (gs_3 rfl rfl (gf_u hS.1 qa_0 qr_0_0 qu_1 rfl)) H
    have H : Ev none e 110 42 [some (.ref 0), some (.int c), some (.int t), some (.int i), c4] [.ref 2, .int t, .int c, .ref 0] M v M' 0 0 := Ev.back 1 (gs_3 rfl rfl (gf_u hS.1 qa_1 qr_1_0 qu_2 rfl)) H
    have H : Ev none e 110 43 [some (.ref 0), some (.int c), some (.int t), some (.int i), c4] [.int i, .ref 2, .int t, .int c, .ref 0] M v M' 0 0 := Ev.back 1 (fun n => rfl) H
    obtain ⟨b2, H⟩ := Ev.ial rfl rfl hS.1 qa_2 qw_2 H
    have H : Ev none e 110 44 [some (.ref 0), some (.int c), some (.int t), some (.int i), c4] [.int (rI M 2 i), .int t, .int c, .ref 0] M v M' 0 0 := H
    have H : Ev none e 110 45 [some (.ref 0), some (.int c), some (.int t), some (.int i), c4] [.int (-1), .int (rI M 2 i), .int t, .int c, .ref 0] M v M' 0 0 := Ev.back 1 (fun n => rfl) H
    obtain ⟨e1, rfl⟩ := Ev.dpos rfl rfl H
    obtain ⟨vK3, MK3, K3, H⟩ := Ev.callb (fun n_ => gs_7 rfl rfl (show gCal (.invokevirtual 333) 10 (.int (-1) :: .int (rI M 2 i) :: .int t :: .int c :: .ref 0 :: []) M = some (.inr (111, [some (.ref 0), some (.int c), some (.int t), some (.int (rI M 2 i)), some (.int (-1))], [])) from by show @cond (Option ((List Value × Mem) ⊕ (Nat × Lo × List Value))) (true && gRecv M (.ref 0) 10 && gRoom [] && true) (some (.inr (111, [some (.ref 0), some (.int c), some (.int t), some (.int (rI M 2 i)), some (.int (-1))], []))) none = _; rw [recv_s hS.1 qa_0 qo_0]; rfl)) H
    have K3 : Ev none e1 111 0 [some (.ref 0), some (.int c), some (.int t), some (.int (rI M 2 i)), some (.int (-1))] [] M vK3 MK3 0 0 := K3
    have HF := H
    exact Or.inr (⟨h1, b2, ⟨e1, vK3, MK3, rfl, K3, HF⟩⟩)
theorem ffe_48 {e : Nat} {M M' : Mem} {v : Option Value} {c t i r : Int32} {c4 : Option Value} (hS : SQ M) (H : Ev none e 110 48 [some (.ref 0), some (.int c), some (.int t), some (.int i), c4] [.int r] M v M' 0 0) : (r = 0 ∧ Ev none e 110 21 [some (.ref 0), some (.int c), some (.int t), some (.int (i + 1)), c4] [] M v M' 0 0) ∨ (¬ (r = 0) ∧ (0 ≤ i.toInt ∧ i.toInt < 440) ∧ v = some (.int (A_112 M 1 (rI M 2 i) (-1))) ∧ M' = (X_112 M 1 (rI M 2 i) (-1))) := by
  have H : Ev none e 110 (if r = 0 then 67 else 51) [some (.ref 0), some (.int c), some (.int t), some (.int i), c4] [] M v M' 0 0 := Ev.back 1 (fun n => rfl) H
  by_cases h1 : r = 0
  · rw [if_pos h1] at H
    have H : Ev none e 110 21 [some (.ref 0), some (.int c), some (.int t), some (.int (i + 1)), c4] [] M v M' 0 0 := Ev.back 2 (fun n => rfl) H
    have HF := H
    exact Or.inl ⟨h1, HF⟩
  · rw [if_neg h1] at H
    have H : Ev none e 110 54 [some (.ref 0), some (.int c), some (.int t), some (.int i), c4] [.ref 0, .int 1, .ref 0] M v M' 0 0 := Ev.back 3 (fun n => rfl) H
    have H : Ev none e 110 57 [some (.ref 0), some (.int c), some (.int t), some (.int i), c4] [.ref 1, .int 1, .ref 0] M v M' 0 0 := Ev.back 1 (gs_3 rfl rfl (gf_u hS.1 qa_0 qr_0_0 qu_1 rfl)) H
    have H : Ev none e 110 60 [some (.ref 0), some (.int c), some (.int t), some (.int i), c4] [.ref 2, .int 1, .ref 0] M v M' 0 0 := Ev.back 1 (gs_3 rfl rfl (gf_u hS.1 qa_1 qr_1_0 qu_2 rfl)) H
    have H : Ev none e 110 61 [some (.ref 0), some (.int c), some (.int t), some (.int i), c4] [.int i, .ref 2, .int 1, .ref 0] M v M' 0 0 := Ev.back 1 (fun n => rfl) H
    obtain ⟨b2, H⟩ := Ev.ial rfl rfl hS.1 qa_2 qw_2 H
    have H : Ev none e 110 62 [some (.ref 0), some (.int c), some (.int t), some (.int i), c4] [.int (rI M 2 i), .int 1, .ref 0] M v M' 0 0 := H
    have H : Ev none e 110 63 [some (.ref 0), some (.int c), some (.int t), some (.int i), c4] [.int (-1), .int (rI M 2 i), .int 1, .ref 0] M v M' 0 0 := Ev.back 1 (fun n => rfl) H
    obtain ⟨e1, rfl⟩ := Ev.dpos rfl rfl H
    obtain ⟨vK3, MK3, K3, H⟩ := Ev.callb (fun n_ => gs_7 rfl rfl (show gCal (.invokevirtual 337) 10 (.int (-1) :: .int (rI M 2 i) :: .int 1 :: .ref 0 :: []) M = some (.inr (112, [some (.ref 0), some (.int 1), some (.int (rI M 2 i)), some (.int (-1))], [])) from by show @cond (Option ((List Value × Mem) ⊕ (Nat × Lo × List Value))) (true && gRecv M (.ref 0) 10 && gRoom [] && true) (some (.inr (112, [some (.ref 0), some (.int 1), some (.int (rI M 2 i)), some (.int (-1))], []))) none = _; rw [recv_s hS.1 qa_0 qo_0]; rfl)) H
    obtain ⟨pK3, qK3⟩ := g_112 hS K3
    rw [pK3, qK3] at H
    obtain ⟨N4, eN4⟩ : ∃ N, N = (X_112 M 1 (rI M 2 i) (-1)) := ⟨_, rfl⟩
    have hN4 : SQ N4 := by rw [eN4]; exact X_112_sx hS
    rw [← eN4] at H
    have H : Ev none (e1 + 1) 110 66 [some (.ref 0), some (.int c), some (.int t), some (.int i), c4] [.int (A_112 M 1 (rI M 2 i) (-1))] N4 v M' 0 0 := H
    obtain ⟨z1, z2⟩ := Ev.retz rfl rfl H
    subst eN4
    exact Or.inr (⟨h1, b2, z1, z2⟩)
theorem ffe_75 {e : Nat} {M M' : Mem} {v : Option Value} {c t i : Int32} {c4 : Option Value} (hS : SQ M) (H : Ev none e 110 75 [some (.ref 0), some (.int c), some (.int t), some (.int i), c4] [] M v M' 0 0) : ((zI M 1 1) ≤ i ∧ v = some (.int (-1)) ∧ M' = M) ∨ (¬ ((zI M 1 1) ≤ i) ∧ Ev none e 110 91 [some (.ref 0), some (.int c), some (.int t), some (.int i), some (.int (i + 1))] [] M v M' 0 0) := by
  have H : Ev none e 110 77 [some (.ref 0), some (.int c), some (.int t), some (.int i), c4] [.ref 0, .int i] M v M' 0 0 := Ev.back 2 (fun n => rfl) H
  have H : Ev none e 110 80 [some (.ref 0), some (.int c), some (.int t), some (.int i), c4] [.ref 1, .int i] M v M' 0 0 := Ev.back 1 (gs_3 rfl rfl (gf_u hS.1 qa_0 qr_0_0 qu_1 rfl)) H
  have H : Ev none e 110 83 [some (.ref 0), some (.int c), some (.int t), some (.int i), c4] [.int (zI M 1 1), .int i] M v M' 0 0 := Ev.back 1 (gs_3 rfl rfl (gf_i hS.1 qa_1 qi_1_1 rfl)) H
  have H : Ev none e 110 (if (zI M 1 1) ≤ i then 168 else 86) [some (.ref 0), some (.int c), some (.int t), some (.int i), c4] [] M v M' 0 0 := Ev.back 1 (fun n => rfl) H
  by_cases h1 : (zI M 1 1) ≤ i
  · rw [if_pos h1] at H
    have H : Ev none e 110 169 [some (.ref 0), some (.int c), some (.int t), some (.int i), c4] [.int (-1)] M v M' 0 0 := Ev.back 1 (fun n => rfl) H
    obtain ⟨z1, z2⟩ := Ev.retz rfl rfl H
    exact Or.inl ⟨h1, z1, z2⟩
  · rw [if_neg h1] at H
    have H : Ev none e 110 91 [some (.ref 0), some (.int c), some (.int t), some (.int i), some (.int (i + 1))] [] M v M' 0 0 := Ev.back 4 (fun n => rfl) H
    have HF := H
    exact Or.inr (⟨h1, HF⟩)
theorem ffe_91 {e : Nat} {M M' : Mem} {v : Option Value} {c t i j : Int32} (hS : SQ M) (H : Ev none e 110 91 [some (.ref 0), some (.int c), some (.int t), some (.int i), some (.int j)] [] M v M' 0 0) : ((zI M 1 1) ≤ j ∧ Ev none e 110 75 [some (.ref 0), some (.int c), some (.int t), some (.int (i + 1)), some (.int j)] [] M v M' 0 0) ∨ (¬ ((zI M 1 1) ≤ j) ∧ (0 ≤ i.toInt ∧ i.toInt < 440) ∧ (0 ≤ j.toInt ∧ j.toInt < 440) ∧ (∃ e1 v1 M1, e = e1 + 1 ∧ Ev none e1 111 0 [some (.ref 0), some (.int c), some (.int t), some (.int (rI M 2 i)), some (.int (rI M 2 j))] [] M v1 M1 0 0 ∧ Ev none e 110 128 [some (.ref 0), some (.int c), some (.int t), some (.int i), some (.int j)] (v1.toList ++ []) M1 v M' 0 0)) := by
  have H : Ev none e 110 94 [some (.ref 0), some (.int c), some (.int t), some (.int i), some (.int j)] [.ref 0, .int j] M v M' 0 0 := Ev.back 2 (fun n => rfl) H
  have H : Ev none e 110 97 [some (.ref 0), some (.int c), some (.int t), some (.int i), some (.int j)] [.ref 1, .int j] M v M' 0 0 := Ev.back 1 (gs_3 rfl rfl (gf_u hS.1 qa_0 qr_0_0 qu_1 rfl)) H
  have H : Ev none e 110 100 [some (.ref 0), some (.int c), some (.int t), some (.int i), some (.int j)] [.int (zI M 1 1), .int j] M v M' 0 0 := Ev.back 1 (gs_3 rfl rfl (gf_i hS.1 qa_1 qi_1_1 rfl)) H
  have H : Ev none e 110 (if (zI M 1 1) ≤ j then 162 else 103) [some (.ref 0), some (.int c), some (.int t), some (.int i), some (.int j)] [] M v M' 0 0 := Ev.back 1 (fun n => rfl) H
  by_cases h1 : (zI M 1 1) ≤ j
  · rw [if_pos h1] at H
    have H : Ev none e 110 75 [some (.ref 0), some (.int c), some (.int t), some (.int (i + 1)), some (.int j)] [] M v M' 0 0 := Ev.back 2 (fun n => rfl) H
    have HF := H
    exact Or.inl ⟨h1, HF⟩
  · rw [if_neg h1] at H
    have H : Ev none e 110 107 [some (.ref 0), some (.int c), some (.int t), some (.int i), some (.int j)] [.ref 0, .int t, .int c, .ref 0] M v M' 0 0 := Ev.back 4 (fun n => rfl) H
    have H : Ev none e 110 110 [some (.ref 0), some (.int c), some (.int t), some (.int i), some (.int j)] [.ref 1, .int t, .int c, .ref 0] M v M' 0 0 := Ev.back 1 (gs_3 rfl rfl (gf_u hS.1 qa_0 qr_0_0 qu_1 rfl)) H
    have H : Ev none e 110 113 [some (.ref 0), some (.int c), some (.int t), some (.int i), some (.int j)] [.ref 2, .int t, .int c, .ref 0] M v M' 0 0 := Ev.back 1 (gs_3 rfl rfl (gf_u hS.1 qa_1 qr_1_0 qu_2 rfl)) H
    have H : Ev none e 110 114 [some (.ref 0), some (.int c), some (.int t), some (.int i), some (.int j)] [.int i, .ref 2, .int t, .int c, .ref 0] M v M' 0 0 := Ev.back 1 (fun n => rfl) H
    obtain ⟨b2, H⟩ := Ev.ial rfl rfl hS.1 qa_2 qw_2 H
    have H : Ev none e 110 115 [some (.ref 0), some (.int c), some (.int t), some (.int i), some (.int j)] [.int (rI M 2 i), .int t, .int c, .ref 0] M v M' 0 0 := H
    have H : Ev none e 110 116 [some (.ref 0), some (.int c), some (.int t), some (.int i), some (.int j)] [.ref 0, .int (rI M 2 i), .int t, .int c, .ref 0] M v M' 0 0 := Ev.back 1 (fun n => rfl) H
    have H : Ev none e 110 119 [some (.ref 0), some (.int c), some (.int t), some (.int i), some (.int j)] [.ref 1, .int (rI M 2 i), .int t, .int c, .ref 0] M v M' 0 0 := Ev.back 1 (gs_3 rfl rfl (gf_u hS.1 qa_0 qr_0_0 qu_1 rfl)) H
    have H : Ev none e 110 122 [some (.ref 0), some (.int c), some (.int t), some (.int i), some (.int j)] [.ref 2, .int (rI M 2 i), .int t, .int c, .ref 0] M v M' 0 0 := Ev.back 1 (gs_3 rfl rfl (gf_u hS.1 qa_1 qr_1_0 qu_2 rfl)) H
    have H : Ev none e 110 124 [some (.ref 0), some (.int c), some (.int t), some (.int i), some (.int j)] [.int j, .ref 2, .int (rI M 2 i), .int t, .int c, .ref 0] M v M' 0 0 := Ev.back 1 (fun n => rfl) H
    obtain ⟨b3, H⟩ := Ev.ial rfl rfl hS.1 qa_2 qw_2 H
    have H : Ev none e 110 125 [some (.ref 0), some (.int c), some (.int t), some (.int i), some (.int j)] [.int (rI M 2 j), .int (rI M 2 i), .int t, .int c, .ref 0] M v M' 0 0 := H
    obtain ⟨e1, rfl⟩ := Ev.dpos rfl rfl H
    obtain ⟨vK4, MK4, K4, H⟩ := Ev.callb (fun n_ => gs_7 rfl rfl (show gCal (.invokevirtual 333) 10 (.int (rI M 2 j) :: .int (rI M 2 i) :: .int t :: .int c :: .ref 0 :: []) M = some (.inr (111, [some (.ref 0), some (.int c), some (.int t), some (.int (rI M 2 i)), some (.int (rI M 2 j))], [])) from by show @cond (Option ((List Value × Mem) ⊕ (Nat × Lo × List Value))) (true && gRecv M (.ref 0) 10 && gRoom [] && true) (some (.inr (111, [some (.ref 0), some (.int c), some (.int t), some (.int (rI M 2 i)), some (.int (rI M 2 j))], []))) none = _; rw [recv_s hS.1 qa_0 qo_0]; rfl)) H
    have K4 : Ev none e1 111 0 [some (.ref 0), some (.int c), some (.int t), some (.int (rI M 2 i)), some (.int (rI M 2 j))] [] M vK4 MK4 0 0 := K4
    have HF := H
    exact Or.inr (⟨h1, b2, b3, ⟨e1, vK4, MK4, rfl, K4, HF⟩⟩)
theorem ffe_128 {e : Nat} {M M' : Mem} {v : Option Value} {c t i j r : Int32} (hS : SQ M) (H : Ev none e 110 128 [some (.ref 0), some (.int c), some (.int t), some (.int i), some (.int j)] [.int r] M v M' 0 0) : (r = 0 ∧ Ev none e 110 91 [some (.ref 0), some (.int c), some (.int t), some (.int i), some (.int (j + 1))] [] M v M' 0 0) ∨ (¬ (r = 0) ∧ (0 ≤ i.toInt ∧ i.toInt < 440) ∧ (0 ≤ j.toInt ∧ j.toInt < 440) ∧ v = some (.int (A_112 M 2 (rI M 2 i) (rI M 2 j))) ∧ M' = (X_112 M 2 (rI M 2 i) (rI M 2 j))) := by
  have H : Ev none e 110 (if r = 0 then 156 else 131) [some (.ref 0), some (.int c), some (.int t), some (.int i), some (.int j)] [] M v M' 0 0 := Ev.back 1 (fun n => rfl) H
  by_cases h1 : r = 0
  · rw [if_pos h1] at H
    have H : Ev none e 110 91 [some (.ref 0), some (.int c), some (.int t), some (.int i), some (.int (j + 1))] [] M v M' 0 0 := Ev.back 2 (fun n => rfl) H
    have HF := H
    exact Or.inl ⟨h1, HF⟩
  · rw [if_neg h1] at H
    have H : Ev none e 110 134 [some (.ref 0), some (.int c), some (.int t), some (.int i), some (.int j)] [.ref 0, .int 2, .ref 0] M v M' 0 0 := Ev.back 3 (fun n => rfl) H
    have H : Ev none e 110 137 [some (.ref 0), some (.int c), some (.int t), some (.int i), some (.int j)] [.ref 1, .int 2, .ref 0] M v M' 0 0 := Ev.back 1 (gs_3 rfl rfl (gf_u hS.1 qa_0 qr_0_0 qu_1 rfl)) H
    have H : Ev none e 110 140 [some (.ref 0), some (.int c), some (.int t), some (.int i), some (.int j)] [.ref 2, .int 2, .ref 0] M v M' 0 0 := Ev.back 1 (gs_3 rfl rfl (gf_u hS.1 qa_1 qr_1_0 qu_2 rfl)) H
    have H : Ev none e 110 141 [some (.ref 0), some (.int c), some (.int t), some (.int i), some (.int j)] [.int i, .ref 2, .int 2, .ref 0] M v M' 0 0 := Ev.back 1 (fun n => rfl) H
    obtain ⟨b2, H⟩ := Ev.ial rfl rfl hS.1 qa_2 qw_2 H
    have H : Ev none e 110 142 [some (.ref 0), some (.int c), some (.int t), some (.int i), some (.int j)] [.int (rI M 2 i), .int 2, .ref 0] M v M' 0 0 := H
    have H : Ev none e 110 143 [some (.ref 0), some (.int c), some (.int t), some (.int i), some (.int j)] [.ref 0, .int (rI M 2 i), .int 2, .ref 0] M v M' 0 0 := Ev.back 1 (fun n => rfl) H
    have H : Ev none e 110 146 [some (.ref 0), some (.int c), some (.int t), some (.int i), some (.int j)] [.ref 1, .int (rI M 2 i), .int 2, .ref 0] M v M' 0 0 := Ev.back 1 (gs_3 rfl rfl (gf_u hS.1 qa_0 qr_0_0 qu_1 rfl)) H
    have H : Ev none e 110 149 [some (.ref 0), some (.int c), some (.int t), some (.int i), some (.int j)] [.ref 2, .int (rI M 2 i), .int 2, .ref 0] M v M' 0 0 := Ev.back 1 (gs_3 rfl rfl (gf_u hS.1 qa_1 qr_1_0 qu_2 rfl)) H
    have H : Ev none e 110 151 [some (.ref 0), some (.int c), some (.int t), some (.int i), some (.int j)] [.int j, .ref 2, .int (rI M 2 i), .int 2, .ref 0] M v M' 0 0 := Ev.back 1 (fun n => rfl) H
    obtain ⟨b3, H⟩ := Ev.ial rfl rfl hS.1 qa_2 qw_2 H
    have H : Ev none e 110 152 [some (.ref 0), some (.int c), some (.int t), some (.int i), some (.int j)] [.int (rI M 2 j), .int (rI M 2 i), .int 2, .ref 0] M v M' 0 0 := H
    obtain ⟨e1, rfl⟩ := Ev.dpos rfl rfl H
    obtain ⟨vK4, MK4, K4, H⟩ := Ev.callb (fun n_ => gs_7 rfl rfl (show gCal (.invokevirtual 337) 10 (.int (rI M 2 j) :: .int (rI M 2 i) :: .int 2 :: .ref 0 :: []) M = some (.inr (112, [some (.ref 0), some (.int 2), some (.int (rI M 2 i)), some (.int (rI M 2 j))], [])) from by show @cond (Option ((List Value × Mem) ⊕ (Nat × Lo × List Value))) (true && gRecv M (.ref 0) 10 && gRoom [] && true) (some (.inr (112, [some (.ref 0), some (.int 2), some (.int (rI M 2 i)), some (.int (rI M 2 j))], []))) none = _; rw [recv_s hS.1 qa_0 qo_0]; rfl)) H
    obtain ⟨pK4, qK4⟩ := g_112 hS K4
    rw [pK4, qK4] at H
    obtain ⟨N5, eN5⟩ : ∃ N, N = (X_112 M 2 (rI M 2 i) (rI M 2 j)) := ⟨_, rfl⟩
    have hN5 : SQ N5 := by rw [eN5]; exact X_112_sx hS
    rw [← eN5] at H
    have H : Ev none (e1 + 1) 110 155 [some (.ref 0), some (.int c), some (.int t), some (.int i), some (.int j)] [.int (A_112 M 2 (rI M 2 i) (rI M 2 j))] N5 v M' 0 0 := H
    obtain ⟨z1, z2⟩ := Ev.retz rfl rfl H
    subst eN5
    exact Or.inr (⟨h1, b2, b3, z1, z2⟩)
theorem nbs_0 {e : Nat} {M M' : Mem} {v : Option Value} {c t a b : Int32} (hS : SQ M) (H : Ev none e 111 0 [some (.ref 0), some (.int c), some (.int t), some (.int a), some (.int b)] [] M v M' 0 0) : (∃ e1 v1 M1, e = e1 + 1 ∧ Ev none e1 133 0 [some (.ref 0)] [] M v1 M1 0 0 ∧ Ev none e 111 4 [some (.ref 0), some (.int c), some (.int t), some (.int a), some (.int b)] (v1.toList ++ []) M1 v M' 0 0) := by
  have H : Ev none e 111 1 [some (.ref 0), some (.int c), some (.int t), some (.int a), some (.int b)] [.ref 0] M v M' 0 0 := Ev.back 1 (fun n => rfl) H
  obtain ⟨e1, rfl⟩ := Ev.dpos rfl rfl H
  obtain ⟨vK1, MK1, K1, H⟩ := Ev.callb (fun n_ => gs_7 rfl rfl (show gCal (.invokevirtual 287) 10 (.ref 0 :: []) M = some (.inr (133, [some (.ref 0)], [])) from by show @cond (Option ((List Value × Mem) ⊕ (Nat × Lo × List Value))) (true && gRecv M (.ref 0) 10 && gRoom [] && true) (some (.inr (133, [some (.ref 0)], []))) none = _; rw [recv_s hS.1 qa_0 qo_0]; rfl)) H
  have K1 : Ev none e1 133 0 [some (.ref 0)] [] M vK1 MK1 0 0 := K1
  have HF := H
  exact ⟨e1, vK1, MK1, rfl, K1, HF⟩
theorem nbs_4 {e : Nat} {M M' : Mem} {v : Option Value} {c t a b : Int32} (hS : SQ M) (H : Ev none e 111 4 [some (.ref 0), some (.int c), some (.int t), some (.int a), some (.int b)] [] M v M' 0 0) : (∃ e1 v1 M1, e = e1 + 1 ∧ Ev none e1 127 0 [some (.ref 0), some (.int a)] [] M v1 M1 0 0 ∧ Ev none e 111 9 [some (.ref 0), some (.int c), some (.int t), some (.int a), some (.int b)] (v1.toList ++ []) M1 v M' 0 0) := by
  have H : Ev none e 111 6 [some (.ref 0), some (.int c), some (.int t), some (.int a), some (.int b)] [.int a, .ref 0] M v M' 0 0 := Ev.back 2 (fun n => rfl) H
  obtain ⟨e1, rfl⟩ := Ev.dpos rfl rfl H
  obtain ⟨vK1, MK1, K1, H⟩ := Ev.callb (fun n_ => gs_7 rfl rfl (show gCal (.invokevirtual 113) 10 (.int a :: .ref 0 :: []) M = some (.inr (127, [some (.ref 0), some (.int a)], [])) from by show @cond (Option ((List Value × Mem) ⊕ (Nat × Lo × List Value))) (true && gRecv M (.ref 0) 10 && gRoom [] && true) (some (.inr (127, [some (.ref 0), some (.int a)], []))) none = _; rw [recv_s hS.1 qa_0 qo_0]; rfl)) H
  have K1 : Ev none e1 127 0 [some (.ref 0), some (.int a)] [] M vK1 MK1 0 0 := K1
  have HF := H
  exact ⟨e1, vK1, MK1, rfl, K1, HF⟩
theorem nbs_9 {e : Nat} {M M' : Mem} {v : Option Value} {c t a b r : Int32} (hS : SQ M) (hTr : fR M 0 6 = 243) (H : Ev none e 111 9 [some (.ref 0), some (.int c), some (.int t), some (.int a), some (.int b)] [.int r] M v M' 0 0) : (r = 0 ∧ Ev none e 111 22 [some (.ref 0), some (.int c), some (.int t), some (.int a), some (.int b)] [] M v M' 0 0) ∨ (¬ (r = 0) ∧ Ev none e 111 22 [some (.ref 0), some (.int c), some (.int t), some (.int a), some (.int b)] [] (X_10 M 243 a 6) v M' 0 0) := by
  have H : Ev none e 111 (if r = 0 then 22 else 12) [some (.ref 0), some (.int c), some (.int t), some (.int a), some (.int b)] [] M v M' 0 0 := Ev.back 1 (fun n => rfl) H
  by_cases h1 : r = 0
  · rw [if_pos h1] at H
    have HF := H
    exact Or.inl ⟨h1, HF⟩
  · rw [if_neg h1] at H
    have H : Ev none e 111 13 [some (.ref 0), some (.int c), some (.int t), some (.int a), some (.int b)] [.ref 0] M v M' 0 0 := Ev.back 1 (fun n => rfl) H
    have H : Ev none e 111 16 [some (.ref 0), some (.int c), some (.int t), some (.int a), some (.int b)] [.ref (fR M 0 6)] M v M' 0 0 := Ev.back 1 (gs_3 rfl rfl (gf_r hS.1 qa_0 qr_0_6 rfl)) H
    rw [hTr] at H
    have H : Ev none e 111 19 [some (.ref 0), some (.int c), some (.int t), some (.int a), some (.int b)] [.int 6, .int a, .ref 243] M v M' 0 0 := Ev.back 2 (fun n => rfl) H
    obtain ⟨e1, rfl⟩ := Ev.dpos rfl rfl H
    obtain ⟨vK2, MK2, K2, H⟩ := Ev.callb (fun n_ => gs_7 rfl rfl (show gCal (.invokevirtual 238) 10 (.int 6 :: .int a :: .ref 243 :: []) M = some (.inr (10, [some (.ref 243), some (.int a), some (.int 6)], [])) from by show @cond (Option ((List Value × Mem) ⊕ (Nat × Lo × List Value))) (true && gRecv M (.ref 243) 1 && gRoom [] && true) (some (.inr (10, [some (.ref 243), some (.int a), some (.int 6)], []))) none = _; rw [recv_s hS.1 qa_243 qo_8]; rfl)) H
    obtain ⟨pK2, qK2⟩ := g_10 hS qa_243 K2
    rw [pK2, qK2] at H
    obtain ⟨N3, eN3⟩ : ∃ N, N = (X_10 M 243 a 6) := ⟨_, rfl⟩
    have hN3 : SQ N3 := by rw [eN3]; exact X_10_sx hS qa_243
    rw [← eN3] at H
    have H : Ev none (e1 + 1) 111 22 [some (.ref 0), some (.int c), some (.int t), some (.int a), some (.int b)] [] N3 v M' 0 0 := H
    have HF := H
    subst eN3
    exact Or.inr (⟨h1, HF⟩)
theorem nbs_22 {e : Nat} {M M' : Mem} {v : Option Value} {c t a b : Int32} (hS : SQ M) (H : Ev none e 111 22 [some (.ref 0), some (.int c), some (.int t), some (.int a), some (.int b)] [] M v M' 0 0) : (∃ e1 v1 M1, e = e1 + 1 ∧ Ev none e1 127 0 [some (.ref 0), some (.int b)] [] M v1 M1 0 0 ∧ Ev none e 111 28 [some (.ref 0), some (.int c), some (.int t), some (.int a), some (.int b)] (v1.toList ++ []) M1 v M' 0 0) := by
  have H : Ev none e 111 25 [some (.ref 0), some (.int c), some (.int t), some (.int a), some (.int b)] [.int b, .ref 0] M v M' 0 0 := Ev.back 2 (fun n => rfl) H
  obtain ⟨e1, rfl⟩ := Ev.dpos rfl rfl H
  obtain ⟨vK1, MK1, K1, H⟩ := Ev.callb (fun n_ => gs_7 rfl rfl (show gCal (.invokevirtual 113) 10 (.int b :: .ref 0 :: []) M = some (.inr (127, [some (.ref 0), some (.int b)], [])) from by show @cond (Option ((List Value × Mem) ⊕ (Nat × Lo × List Value))) (true && gRecv M (.ref 0) 10 && gRoom [] && true) (some (.inr (127, [some (.ref 0), some (.int b)], []))) none = _; rw [recv_s hS.1 qa_0 qo_0]; rfl)) H
  have K1 : Ev none e1 127 0 [some (.ref 0), some (.int b)] [] M vK1 MK1 0 0 := K1
  have HF := H
  exact ⟨e1, vK1, MK1, rfl, K1, HF⟩
theorem nbs_28 {e : Nat} {M M' : Mem} {v : Option Value} {c t a b r : Int32} (hS : SQ M) (hTr : fR M 0 6 = 243) (H : Ev none e 111 28 [some (.ref 0), some (.int c), some (.int t), some (.int a), some (.int b)] [.int r] M v M' 0 0) : (r = 0 ∧ Ev none e 111 42 [some (.ref 0), some (.int c), some (.int t), some (.int a), some (.int b)] [] M v M' 0 0) ∨ (¬ (r = 0) ∧ Ev none e 111 42 [some (.ref 0), some (.int c), some (.int t), some (.int a), some (.int b)] [] (X_10 M 243 b 6) v M' 0 0) := by
  have H : Ev none e 111 (if r = 0 then 42 else 31) [some (.ref 0), some (.int c), some (.int t), some (.int a), some (.int b)] [] M v M' 0 0 := Ev.back 1 (fun n => rfl) H
  by_cases h1 : r = 0
  · rw [if_pos h1] at H
    have HF := H
    exact Or.inl ⟨h1, HF⟩
  · rw [if_neg h1] at H
    have H : Ev none e 111 32 [some (.ref 0), some (.int c), some (.int t), some (.int a), some (.int b)] [.ref 0] M v M' 0 0 := Ev.back 1 (fun n => rfl) H
    have H : Ev none e 111 35 [some (.ref 0), some (.int c), some (.int t), some (.int a), some (.int b)] [.ref (fR M 0 6)] M v M' 0 0 := Ev.back 1 (gs_3 rfl rfl (gf_r hS.1 qa_0 qr_0_6 rfl)) H
    rw [hTr] at H
    have H : Ev none e 111 39 [some (.ref 0), some (.int c), some (.int t), some (.int a), some (.int b)] [.int 6, .int b, .ref 243] M v M' 0 0 := Ev.back 2 (fun n => rfl) H
    obtain ⟨e1, rfl⟩ := Ev.dpos rfl rfl H
    obtain ⟨vK2, MK2, K2, H⟩ := Ev.callb (fun n_ => gs_7 rfl rfl (show gCal (.invokevirtual 238) 10 (.int 6 :: .int b :: .ref 243 :: []) M = some (.inr (10, [some (.ref 243), some (.int b), some (.int 6)], [])) from by show @cond (Option ((List Value × Mem) ⊕ (Nat × Lo × List Value))) (true && gRecv M (.ref 243) 1 && gRoom [] && true) (some (.inr (10, [some (.ref 243), some (.int b), some (.int 6)], []))) none = _; rw [recv_s hS.1 qa_243 qo_8]; rfl)) H
    obtain ⟨pK2, qK2⟩ := g_10 hS qa_243 K2
    rw [pK2, qK2] at H
    obtain ⟨N3, eN3⟩ : ∃ N, N = (X_10 M 243 b 6) := ⟨_, rfl⟩
    have hN3 : SQ N3 := by rw [eN3]; exact X_10_sx hS qa_243
    rw [← eN3] at H
    have H : Ev none (e1 + 1) 111 42 [some (.ref 0), some (.int c), some (.int t), some (.int a), some (.int b)] [] N3 v M' 0 0 := H
    have HF := H
    subst eN3
    exact Or.inr (⟨h1, HF⟩)
theorem nbs_42 {e : Nat} {M M' : Mem} {v : Option Value} {c t a b : Int32} (hS : SQ M) (H : Ev none e 111 42 [some (.ref 0), some (.int c), some (.int t), some (.int a), some (.int b)] [] M v M' 0 0) : (∃ e1 v1 M1, e = e1 + 1 ∧ Ev none e1 58 0 [some (.ref 104), some (.int t), none, none, none, none, none, none, none] [] (wF M 104 9 c) v1 M1 0 0 ∧ Ev none e 111 58 [some (.ref 0), some (.int c), some (.int t), some (.int a), some (.int b)] (v1.toList ++ []) M1 v M' 0 0) := by
  have H : Ev none e 111 43 [some (.ref 0), some (.int c), some (.int t), some (.int a), some (.int b)] [.ref 0] M v M' 0 0 := Ev.back 1 (fun n => rfl) H
  have H : Ev none e 111 46 [some (.ref 0), some (.int c), some (.int t), some (.int a), some (.int b)] [.ref 104] M v M' 0 0 := Ev.back 1 (gs_3 rfl rfl (gf_u hS.1 qa_0 qr_0_3 qu_22 rfl)) H
  have H : Ev none e 111 47 [some (.ref 0), some (.int c), some (.int t), some (.int a), some (.int b)] [.int c, .ref 104] M v M' 0 0 := Ev.back 1 (fun n => rfl) H
  obtain ⟨N2, eN2⟩ : ∃ N, N = (wF M 104 9 c) := ⟨_, rfl⟩
  have hN2 : SQ N2 := by rw [eN2]; exact hS.kf
  have H : Ev none e 111 50 [some (.ref 0), some (.int c), some (.int t), some (.int a), some (.int b)] [] N2 v M' 0 0 := by rw [eN2]; exact Ev.pfi rfl rfl rfl hS.1 qa_104 qi_22_9 H
  have H : Ev none e 111 51 [some (.ref 0), some (.int c), some (.int t), some (.int a), some (.int b)] [.ref 0] N2 v M' 0 0 := Ev.back 1 (fun n => rfl) H
  have H : Ev none e 111 54 [some (.ref 0), some (.int c), some (.int t), some (.int a), some (.int b)] [.ref 104] N2 v M' 0 0 := Ev.back 1 (gs_3 rfl rfl (gf_u hN2.1 qa_0 qr_0_3 qu_22 rfl)) H
  have H : Ev none e 111 55 [some (.ref 0), some (.int c), some (.int t), some (.int a), some (.int b)] [.int t, .ref 104] N2 v M' 0 0 := Ev.back 1 (fun n => rfl) H
  obtain ⟨e1, rfl⟩ := Ev.dpos rfl rfl H
  obtain ⟨vK3, MK3, K3, H⟩ := Ev.callb (fun n_ => gs_7 rfl rfl (show gCal (.invokevirtual 200) 10 (.int t :: .ref 104 :: []) N2 = some (.inr (58, [some (.ref 104), some (.int t), none, none, none, none, none, none, none], [])) from by show @cond (Option ((List Value × Mem) ⊕ (Nat × Lo × List Value))) (true && gRecv N2 (.ref 104) 7 && gRoom [] && true) (some (.inr (58, [some (.ref 104), some (.int t), none, none, none, none, none, none, none], []))) none = _; rw [recv_s hN2.1 qa_104 qo_22]; rfl)) H
  have K3 : Ev none e1 58 0 [some (.ref 104), some (.int t), none, none, none, none, none, none, none] [] N2 vK3 MK3 0 0 := K3
  have HF := H
  subst eN2
  exact ⟨e1, vK3, MK3, rfl, K3, HF⟩
theorem nbs_58 {e : Nat} {M M' : Mem} {v : Option Value} {c t a b r : Int32} (hS : SQ M) (H : Ev none e 111 58 [some (.ref 0), some (.int c), some (.int t), some (.int a), some (.int b)] [.int r] M v M' 0 0) : ((zI M 104 10) = 0 ∧ v = some (.int 1) ∧ M' = M) ∨ (¬ ((zI M 104 10) = 0) ∧ v = some (.int 0) ∧ M' = M) := by
  have H : Ev none e 111 60 [some (.ref 0), some (.int c), some (.int t), some (.int a), some (.int b)] [.ref 0] M v M' 0 0 := Ev.back 2 (fun n => rfl) H
  have H : Ev none e 111 63 [some (.ref 0), some (.int c), some (.int t), some (.int a), some (.int b)] [.ref 104] M v M' 0 0 := Ev.back 1 (gs_3 rfl rfl (gf_u hS.1 qa_0 qr_0_3 qu_22 rfl)) H
  have H : Ev none e 111 66 [some (.ref 0), some (.int c), some (.int t), some (.int a), some (.int b)] [.int (zI M 104 10)] M v M' 0 0 := Ev.back 1 (gs_3 rfl rfl (gf_i hS.1 qa_104 qi_22_10 rfl)) H
  have H : Ev none e 111 (if (zI M 104 10) = 0 then 69 else 73) [some (.ref 0), some (.int c), some (.int t), some (.int a), some (.int b)] [] M v M' 0 0 := Ev.back 1 (fun n => rfl) H
  by_cases h1 : (zI M 104 10) = 0
  · rw [if_pos h1] at H
    have H : Ev none e 111 74 [some (.ref 0), some (.int c), some (.int t), some (.int a), some (.int b)] [.int 1] M v M' 0 0 := Ev.back 2 (fun n => rfl) H
    obtain ⟨z1, z2⟩ := Ev.retz rfl rfl H
    exact Or.inl ⟨h1, z1, z2⟩
  · rw [if_neg h1] at H
    have H : Ev none e 111 74 [some (.ref 0), some (.int c), some (.int t), some (.int a), some (.int b)] [.int 0] M v M' 0 0 := Ev.back 1 (fun n => rfl) H
    obtain ⟨z1, z2⟩ := Ev.retz rfl rfl H
    exact Or.inr (⟨h1, z1, z2⟩)
theorem lsv_0 {e : Nat} {M M' : Mem} {v : Option Value} {k c ws t : Int32} (hS : SQ M) (H : Ev none e 114 0 [some (.ref 0), some (.int k), some (.int c), some (.int ws), some (.int t), none] [] M v M' 0 0) : (∃ e1 v1 M1, e = e1 + 1 ∧ Ev none e1 130 0 [some (.ref 0), some (.int k)] [] M v1 M1 0 0 ∧ Ev none e 114 5 [some (.ref 0), some (.int k), some (.int c), some (.int ws), some (.int t), none] (v1.toList ++ []) M1 v M' 0 0) := by
  have H : Ev none e 114 2 [some (.ref 0), some (.int k), some (.int c), some (.int ws), some (.int t), none] [.int k, .ref 0] M v M' 0 0 := Ev.back 2 (fun n => rfl) H
  obtain ⟨e1, rfl⟩ := Ev.dpos rfl rfl H
  obtain ⟨vK1, MK1, K1, H⟩ := Ev.callb (fun n_ => gs_7 rfl rfl (show gCal (.invokevirtual 191) 10 (.int k :: .ref 0 :: []) M = some (.inr (130, [some (.ref 0), some (.int k)], [])) from by show @cond (Option ((List Value × Mem) ⊕ (Nat × Lo × List Value))) (true && gRecv M (.ref 0) 10 && gRoom [] && true) (some (.inr (130, [some (.ref 0), some (.int k)], []))) none = _; rw [recv_s hS.1 qa_0 qo_0]; rfl)) H
  have K1 : Ev none e1 130 0 [some (.ref 0), some (.int k)] [] M vK1 MK1 0 0 := K1
  have HF := H
  exact ⟨e1, vK1, MK1, rfl, K1, HF⟩
theorem lsv_5 {e : Nat} {M M' : Mem} {v : Option Value} {k c ws t r : Int32} (hS : SQ M) (H : Ev none e 114 5 [some (.ref 0), some (.int k), some (.int c), some (.int ws), some (.int t), none] [.int r] M v M' 0 0) : (r = 0 ∧ v = some (.int (-2)) ∧ M' = M) ∨ (¬ (r = 0) ∧ (∃ e1 v1 M1, e = e1 + 1 ∧ Ev none e1 127 0 [some (.ref 0), some (.int c)] [] M v1 M1 0 0 ∧ Ev none e 114 13 [some (.ref 0), some (.int k), some (.int c), some (.int ws), some (.int t), none] (v1.toList ++ []) M1 v M' 0 0)) := by
  have H : Ev none e 114 (if r = 0 then 16 else 8) [some (.ref 0), some (.int k), some (.int c), some (.int ws), some (.int t), none] [] M v M' 0 0 := Ev.back 1 (fun n => rfl) H
  by_cases h1 : r = 0
  · rw [if_pos h1] at H
    have H : Ev none e 114 18 [some (.ref 0), some (.int k), some (.int c), some (.int ws), some (.int t), none] [.int (-2)] M v M' 0 0 := Ev.back 1 (fun n => rfl) H
    obtain ⟨z1, z2⟩ := Ev.retz rfl rfl H
    exact Or.inl ⟨h1, z1, z2⟩
  · rw [if_neg h1] at H
    have H : Ev none e 114 10 [some (.ref 0), some (.int k), some (.int c), some (.int ws), some (.int t), none] [.int c, .ref 0] M v M' 0 0 := Ev.back 2 (fun n => rfl) H
    obtain ⟨e1, rfl⟩ := Ev.dpos rfl rfl H
    obtain ⟨vK2, MK2, K2, H⟩ := Ev.callb (fun n_ => gs_7 rfl rfl (show gCal (.invokevirtual 113) 10 (.int c :: .ref 0 :: []) M = some (.inr (127, [some (.ref 0), some (.int c)], [])) from by show @cond (Option ((List Value × Mem) ⊕ (Nat × Lo × List Value))) (true && gRecv M (.ref 0) 10 && gRoom [] && true) (some (.inr (127, [some (.ref 0), some (.int c)], []))) none = _; rw [recv_s hS.1 qa_0 qo_0]; rfl)) H
    have K2 : Ev none e1 127 0 [some (.ref 0), some (.int c)] [] M vK2 MK2 0 0 := K2
    have HF := H
    exact Or.inr (⟨h1, ⟨e1, vK2, MK2, rfl, K2, HF⟩⟩)
theorem lsv_13 {e : Nat} {M M' : Mem} {v : Option Value} {k c ws t r : Int32} (hS : SQ M) (H : Ev none e 114 13 [some (.ref 0), some (.int k), some (.int c), some (.int ws), some (.int t), none] [.int r] M v M' 0 0) : (r = 0 ∧ v = some (.int (-2)) ∧ M' = M) ∨ (¬ (r = 0) ∧ (G_126 M ws 1 40) = 0 ∧ v = some (.int (-2)) ∧ M' = M) ∨ (¬ (r = 0) ∧ ¬ ((G_126 M ws 1 40) = 0) ∧ (G_126 M t 1 200) = 0 ∧ v = some (.int (-2)) ∧ M' = M) ∨ (¬ (r = 0) ∧ ¬ ((G_126 M ws 1 40) = 0) ∧ ¬ ((G_126 M t 1 200) = 0) ∧ (∃ e1 v1 M1, e = e1 + 1 ∧ Ev none e1 133 0 [some (.ref 0)] [] M v1 M1 0 0 ∧ Ev none e 114 48 [some (.ref 0), some (.int k), some (.int c), some (.int ws), some (.int t), none] (v1.toList ++ []) M1 v M' 0 0)) := by
  have H : Ev none e 114 (if r = 0 then 16 else 19) [some (.ref 0), some (.int k), some (.int c), some (.int ws), some (.int t), none] [] M v M' 0 0 := Ev.back 1 (fun n => rfl) H
  by_cases h1 : r = 0
  · rw [if_pos h1] at H
    have H : Ev none e 114 18 [some (.ref 0), some (.int k), some (.int c), some (.int ws), some (.int t), none] [.int (-2)] M v M' 0 0 := Ev.back 1 (fun n => rfl) H
    obtain ⟨z1, z2⟩ := Ev.retz rfl rfl H
    exact Or.inl ⟨h1, z1, z2⟩
  · rw [if_neg h1] at H
    have H : Ev none e 114 23 [some (.ref 0), some (.int k), some (.int c), some (.int ws), some (.int t), none] [.int 40, .int 1, .int ws] M v M' 0 0 := Ev.back 3 (fun n => rfl) H
    obtain ⟨e1, rfl⟩ := Ev.dpos rfl rfl H
    obtain ⟨vK2, MK2, K2, H⟩ := Ev.callb (fun n => rfl) H
    obtain ⟨pK2, qK2⟩ := g_126 hS K2
    rw [pK2, qK2] at H
    have H : Ev none (e1 + 1) 114 26 [some (.ref 0), some (.int k), some (.int c), some (.int ws), some (.int t), none] [.int (G_126 M ws 1 40)] M v M' 0 0 := H
    have H : Ev none (e1 + 1) 114 (if (G_126 M ws 1 40) = 0 then 41 else 29) [some (.ref 0), some (.int k), some (.int c), some (.int ws), some (.int t), none] [] M v M' 0 0 := Ev.back 1 (fun n => rfl) H
    by_cases h3 : (G_126 M ws 1 40) = 0
    · rw [if_pos h3] at H
      have H : Ev none (e1 + 1) 114 43 [some (.ref 0), some (.int k), some (.int c), some (.int ws), some (.int t), none] [.int (-2)] M v M' 0 0 := Ev.back 1 (fun n => rfl) H
      obtain ⟨z1, z2⟩ := Ev.retz rfl rfl H
      exact Or.inr (Or.inl ⟨h1, h3, z1, z2⟩)
    · rw [if_neg h3] at H
      have H : Ev none (e1 + 1) 114 35 [some (.ref 0), some (.int k), some (.int c), some (.int ws), some (.int t), none] [.int 200, .int 1, .int t] M v M' 0 0 := Ev.back 3 (fun n => rfl) H
      obtain ⟨vK4, MK4, K4, H⟩ := Ev.callb (fun n => rfl) H
      obtain ⟨pK4, qK4⟩ := g_126 hS K4
      rw [pK4, qK4] at H
      have H : Ev none (e1 + 1) 114 38 [some (.ref 0), some (.int k), some (.int c), some (.int ws), some (.int t), none] [.int (G_126 M t 1 200)] M v M' 0 0 := H
      have H : Ev none (e1 + 1) 114 (if (G_126 M t 1 200) = 0 then 41 else 44) [some (.ref 0), some (.int k), some (.int c), some (.int ws), some (.int t), none] [] M v M' 0 0 := Ev.back 1 (fun n => rfl) H
      by_cases h5 : (G_126 M t 1 200) = 0
      · rw [if_pos h5] at H
        have H : Ev none (e1 + 1) 114 43 [some (.ref 0), some (.int k), some (.int c), some (.int ws), some (.int t), none] [.int (-2)] M v M' 0 0 := Ev.back 1 (fun n => rfl) H
        obtain ⟨z1, z2⟩ := Ev.retz rfl rfl H
        exact Or.inr (Or.inr (Or.inl ⟨h1, h3, h5, z1, z2⟩))
      · rw [if_neg h5] at H
        have H : Ev none (e1 + 1) 114 45 [some (.ref 0), some (.int k), some (.int c), some (.int ws), some (.int t), none] [.ref 0] M v M' 0 0 := Ev.back 1 (fun n => rfl) H
        obtain ⟨vK6, MK6, K6, H⟩ := Ev.callb (fun n_ => gs_7 rfl rfl (show gCal (.invokevirtual 287) 10 (.ref 0 :: []) M = some (.inr (133, [some (.ref 0)], [])) from by show @cond (Option ((List Value × Mem) ⊕ (Nat × Lo × List Value))) (true && gRecv M (.ref 0) 10 && gRoom [] && true) (some (.inr (133, [some (.ref 0)], []))) none = _; rw [recv_s hS.1 qa_0 qo_0]; rfl)) H
        have K6 : Ev none e1 133 0 [some (.ref 0)] [] M vK6 MK6 0 0 := K6
        have HF := H
        exact Or.inr (Or.inr (Or.inr (⟨h1, h3, h5, ⟨e1, vK6, MK6, rfl, K6, HF⟩⟩)))
theorem lsv_48 {e : Nat} {M M' : Mem} {v : Option Value} {k c ws t : Int32} (hS : SQ M) (hTr : fR M 0 6 = 243) (H : Ev none e 114 48 [some (.ref 0), some (.int k), some (.int c), some (.int ws), some (.int t), none] [] M v M' 0 0) : (0 ≤ k.toInt ∧ k.toInt < 24) ∧ Ev none e 114 61 [some (.ref 0), some (.int k), some (.int c), some (.int ws), some (.int t), none] [] (wF M (oI M (243 + 10) k) 5 0) v M' 0 0 := by
  have H : Ev none e 114 49 [some (.ref 0), some (.int k), some (.int c), some (.int ws), some (.int t), none] [.ref 0] M v M' 0 0 := Ev.back 1 (fun n => rfl) H
  have H : Ev none e 114 52 [some (.ref 0), some (.int k), some (.int c), some (.int ws), some (.int t), none] [.ref (fR M 0 6)] M v M' 0 0 := Ev.back 1 (gs_3 rfl rfl (gf_r hS.1 qa_0 qr_0_6 rfl)) H
  rw [hTr] at H
  have H : Ev none e 114 55 [some (.ref 0), some (.int k), some (.int c), some (.int ws), some (.int t), none] [.ref (243 + 10)] M v M' 0 0 := Ev.back 1 (gs_3 rfl rfl (gf_x hS.1 qa_243 qo_8 (fx_l12 hS qa_243) rfl)) H
  have H : Ev none e 114 56 [some (.ref 0), some (.int k), some (.int c), some (.int ws), some (.int t), none] [.int k, .ref (243 + 10)] M v M' 0 0 := Ev.back 1 (fun n => rfl) H
  obtain ⟨b1, H⟩ := Ev.aal rfl rfl hS.1 (fx_h12 qa_243) qz_18 H
  have H : Ev none e 114 57 [some (.ref 0), some (.int k), some (.int c), some (.int ws), some (.int t), none] [.ref (oI M (243 + 10) k)] M v M' 0 0 := H
  have H : Ev none e 114 58 [some (.ref 0), some (.int k), some (.int c), some (.int ws), some (.int t), none] [.int 0, .ref (oI M (243 + 10) k)] M v M' 0 0 := Ev.back 1 (fun n => rfl) H
  obtain ⟨N3, eN3⟩ : ∃ N, N = (wF M (oI M (243 + 10) k) 5 0) := ⟨_, rfl⟩
  have hN3 : SQ N3 := by rw [eN3]; exact hS.kf
  have H : Ev none e 114 61 [some (.ref 0), some (.int k), some (.int c), some (.int ws), some (.int t), none] [] N3 v M' 0 0 := by rw [eN3]; exact Ev.pfi rfl rfl rfl hS.1 b1.2 qi_20_5 H
  have HF := H
  subst eN3
  exact ⟨b1.1, HF⟩
theorem lsv_61 {e : Nat} {M M' : Mem} {v : Option Value} {k c ws t : Int32} (hS : SQ M) (H : Ev none e 114 61 [some (.ref 0), some (.int k), some (.int c), some (.int ws), some (.int t), none] [] M v M' 0 0) : Ev none e 114 64 [some (.ref 0), some (.int k), some (.int c), some (.int ws), some (.int t), some (.int 0)] [] M v M' 0 0 := by
  have H : Ev none e 114 64 [some (.ref 0), some (.int k), some (.int c), some (.int ws), some (.int t), some (.int 0)] [] M v M' 0 0 := Ev.back 2 (fun n => rfl) H
  have HF := H
  exact HF
theorem lsv_64 {e : Nat} {M M' : Mem} {v : Option Value} {k c ws t n : Int32} (hS : SQ M) (H : Ev none e 114 64 [some (.ref 0), some (.int k), some (.int c), some (.int ws), some (.int t), some (.int n)] [] M v M' 0 0) : (ws ≤ n ∧ (G_56 M c) = 0 ∧ v = some (.int ws) ∧ M' = M) ∨ (ws ≤ n ∧ ¬ ((G_56 M c) = 0) ∧ v = some (.int (-1)) ∧ M' = M) ∨ (¬ (ws ≤ n) ∧ (G_56 M c) = 0 ∧ v = some (.int n) ∧ M' = M) ∨ (¬ (ws ≤ n) ∧ ¬ ((G_56 M c) = 0) ∧ (∃ e1 v1 M1, e = e1 + 1 ∧ Ev none e1 134 0 [some (.ref 0), some (.int t)] [] M v1 M1 0 0 ∧ Ev none e 114 90 [some (.ref 0), some (.int k), some (.int c), some (.int ws), some (.int t), some (.int n)] (v1.toList ++ []) M1 v M' 0 0)) := by
  have H : Ev none e 114 (if ws ≤ n then 96 else 70) [some (.ref 0), some (.int k), some (.int c), some (.int ws), some (.int t), some (.int n)] [] M v M' 0 0 := Ev.back 3 (fun n => rfl) H
  by_cases h1 : ws ≤ n
  · rw [if_pos h1] at H
    have H : Ev none e 114 97 [some (.ref 0), some (.int k), some (.int c), some (.int ws), some (.int t), some (.int n)] [.ref 0] M v M' 0 0 := Ev.back 1 (fun n => rfl) H
    have H : Ev none e 114 100 [some (.ref 0), some (.int k), some (.int c), some (.int ws), some (.int t), some (.int n)] [.ref 104] M v M' 0 0 := Ev.back 1 (gs_3 rfl rfl (gf_u hS.1 qa_0 qr_0_3 qu_22 rfl)) H
    have H : Ev none e 114 101 [some (.ref 0), some (.int k), some (.int c), some (.int ws), some (.int t), some (.int n)] [.int c, .ref 104] M v M' 0 0 := Ev.back 1 (fun n => rfl) H
    obtain ⟨e1, rfl⟩ := Ev.dpos rfl rfl H
    obtain ⟨vK2, MK2, K2, H⟩ := Ev.callb (fun n_ => gs_7 rfl rfl (show gCal (.invokevirtual 347) 10 (.int c :: .ref 104 :: []) M = some (.inr (56, [some (.ref 104), some (.int c)], [])) from by show @cond (Option ((List Value × Mem) ⊕ (Nat × Lo × List Value))) (true && gRecv M (.ref 104) 7 && gRoom [] && true) (some (.inr (56, [some (.ref 104), some (.int c)], []))) none = _; rw [recv_s hS.1 qa_104 qo_22]; rfl)) H
    obtain ⟨pK2, qK2⟩ := g_56 hS K2
    rw [pK2, qK2] at H
    have H : Ev none (e1 + 1) 114 104 [some (.ref 0), some (.int k), some (.int c), some (.int ws), some (.int t), some (.int n)] [.int (G_56 M c)] M v M' 0 0 := H
    have H : Ev none (e1 + 1) 114 (if (G_56 M c) = 0 then 111 else 107) [some (.ref 0), some (.int k), some (.int c), some (.int ws), some (.int t), some (.int n)] [] M v M' 0 0 := Ev.back 1 (fun n => rfl) H
    by_cases h3 : (G_56 M c) = 0
    · rw [if_pos h3] at H
      have H : Ev none (e1 + 1) 114 112 [some (.ref 0), some (.int k), some (.int c), some (.int ws), some (.int t), some (.int n)] [.int ws] M v M' 0 0 := Ev.back 1 (fun n => rfl) H
      obtain ⟨z1, z2⟩ := Ev.retz rfl rfl H
      exact Or.inl ⟨h1, h3, z1, z2⟩
    · rw [if_neg h3] at H
      have H : Ev none (e1 + 1) 114 112 [some (.ref 0), some (.int k), some (.int c), some (.int ws), some (.int t), some (.int n)] [.int (-1)] M v M' 0 0 := Ev.back 2 (fun n => rfl) H
      obtain ⟨z1, z2⟩ := Ev.retz rfl rfl H
      exact Or.inr (Or.inl ⟨h1, h3, z1, z2⟩)
  · rw [if_neg h1] at H
    have H : Ev none e 114 71 [some (.ref 0), some (.int k), some (.int c), some (.int ws), some (.int t), some (.int n)] [.ref 0] M v M' 0 0 := Ev.back 1 (fun n => rfl) H
    have H : Ev none e 114 74 [some (.ref 0), some (.int k), some (.int c), some (.int ws), some (.int t), some (.int n)] [.ref 104] M v M' 0 0 := Ev.back 1 (gs_3 rfl rfl (gf_u hS.1 qa_0 qr_0_3 qu_22 rfl)) H
    have H : Ev none e 114 75 [some (.ref 0), some (.int k), some (.int c), some (.int ws), some (.int t), some (.int n)] [.int c, .ref 104] M v M' 0 0 := Ev.back 1 (fun n => rfl) H
    obtain ⟨e1, rfl⟩ := Ev.dpos rfl rfl H
    obtain ⟨vK4, MK4, K4, H⟩ := Ev.callb (fun n_ => gs_7 rfl rfl (show gCal (.invokevirtual 347) 10 (.int c :: .ref 104 :: []) M = some (.inr (56, [some (.ref 104), some (.int c)], [])) from by show @cond (Option ((List Value × Mem) ⊕ (Nat × Lo × List Value))) (true && gRecv M (.ref 104) 7 && gRoom [] && true) (some (.inr (56, [some (.ref 104), some (.int c)], []))) none = _; rw [recv_s hS.1 qa_104 qo_22]; rfl)) H
    obtain ⟨pK4, qK4⟩ := g_56 hS K4
    rw [pK4, qK4] at H
    have H : Ev none (e1 + 1) 114 78 [some (.ref 0), some (.int k), some (.int c), some (.int ws), some (.int t), some (.int n)] [.int (G_56 M c)] M v M' 0 0 := H
    have H : Ev none (e1 + 1) 114 (if (G_56 M c) = 0 then 81 else 84) [some (.ref 0), some (.int k), some (.int c), some (.int ws), some (.int t), some (.int n)] [] M v M' 0 0 := Ev.back 1 (fun n => rfl) H
    by_cases h5 : (G_56 M c) = 0
    · rw [if_pos h5] at H
      have H : Ev none (e1 + 1) 114 83 [some (.ref 0), some (.int k), some (.int c), some (.int ws), some (.int t), some (.int n)] [.int n] M v M' 0 0 := Ev.back 1 (fun n => rfl) H
      obtain ⟨z1, z2⟩ := Ev.retz rfl rfl H
      exact Or.inr (Or.inr (Or.inl ⟨h1, h5, z1, z2⟩))
    · rw [if_neg h5] at H
      have H : Ev none (e1 + 1) 114 87 [some (.ref 0), some (.int k), some (.int c), some (.int ws), some (.int t), some (.int n)] [.int t, .ref 0] M v M' 0 0 := Ev.back 2 (fun n => rfl) H
      obtain ⟨vK6, MK6, K6, H⟩ := Ev.callb (fun n_ => gs_7 rfl rfl (show gCal (.invokevirtual 293) 10 (.int t :: .ref 0 :: []) M = some (.inr (134, [some (.ref 0), some (.int t)], [])) from by show @cond (Option ((List Value × Mem) ⊕ (Nat × Lo × List Value))) (true && gRecv M (.ref 0) 10 && gRoom [] && true) (some (.inr (134, [some (.ref 0), some (.int t)], []))) none = _; rw [recv_s hS.1 qa_0 qo_0]; rfl)) H
      have K6 : Ev none e1 134 0 [some (.ref 0), some (.int t)] [] M vK6 MK6 0 0 := K6
      have HF := H
      exact Or.inr (Or.inr (Or.inr (⟨h1, h5, ⟨e1, vK6, MK6, rfl, K6, HF⟩⟩)))
theorem lsv_90 {e : Nat} {M M' : Mem} {v : Option Value} {k c ws t n : Int32} (hS : SQ M) (H : Ev none e 114 90 [some (.ref 0), some (.int k), some (.int c), some (.int ws), some (.int t), some (.int n)] [] M v M' 0 0) : Ev none e 114 64 [some (.ref 0), some (.int k), some (.int c), some (.int ws), some (.int t), some (.int (n + 1))] [] M v M' 0 0 := by
  have H : Ev none e 114 64 [some (.ref 0), some (.int k), some (.int c), some (.int ws), some (.int t), some (.int (n + 1))] [] M v M' 0 0 := Ev.back 2 (fun n => rfl) H
  have HF := H
  exact HF
theorem wat_0 {e : Nat} {M M' : Mem} {v : Option Value} {a b h : Int32} (hS : SQ M) (H : Ev none e 132 0 [some (.ref 0), some (.int a), some (.int b), some (.int h)] [] M v M' 0 0) : (∃ e1 v1 M1, e = e1 + 1 ∧ Ev none e1 129 0 [some (.ref 0), some (.int a), some (.int b)] [] M v1 M1 0 0 ∧ Ev none e 132 6 [some (.ref 0), some (.int a), some (.int b), some (.int h)] (v1.toList ++ []) M1 v M' 0 0) := by
  have H : Ev none e 132 3 [some (.ref 0), some (.int a), some (.int b), some (.int h)] [.int b, .int a, .ref 0] M v M' 0 0 := Ev.back 3 (fun n => rfl) H
  obtain ⟨e1, rfl⟩ := Ev.dpos rfl rfl H
  obtain ⟨vK1, MK1, K1, H⟩ := Ev.callb (fun n_ => gs_7 rfl rfl (show gCal (.invokevirtual 162) 10 (.int b :: .int a :: .ref 0 :: []) M = some (.inr (129, [some (.ref 0), some (.int a), some (.int b)], [])) from by show @cond (Option ((List Value × Mem) ⊕ (Nat × Lo × List Value))) (true && gRecv M (.ref 0) 10 && gRoom [] && true) (some (.inr (129, [some (.ref 0), some (.int a), some (.int b)], []))) none = _; rw [recv_s hS.1 qa_0 qo_0]; rfl)) H
  have K1 : Ev none e1 129 0 [some (.ref 0), some (.int a), some (.int b)] [] M vK1 MK1 0 0 := K1
  have HF := H
  exact ⟨e1, vK1, MK1, rfl, K1, HF⟩
theorem wat_6 {e : Nat} {M M' : Mem} {v : Option Value} {a b h r : Int32} (hS : SQ M) (H : Ev none e 132 6 [some (.ref 0), some (.int a), some (.int b), some (.int h)] [.int r] M v M' 0 0) : (r = 0 ∧ v = some (.int 0) ∧ M' = M) ∨ (¬ (r = 0) ∧ (G_126 M h 0 5) = 0 ∧ v = some (.int 0) ∧ M' = M) ∨ (¬ (r = 0) ∧ ¬ ((G_126 M h 0 5) = 0) ∧ v = some (.int 1) ∧ M' = M) := by
  have H : Ev none e 132 (if r = 0 then 22 else 9) [some (.ref 0), some (.int a), some (.int b), some (.int h)] [] M v M' 0 0 := Ev.back 1 (fun n => rfl) H
  by_cases h1 : r = 0
  · rw [if_pos h1] at H
    have H : Ev none e 132 23 [some (.ref 0), some (.int a), some (.int b), some (.int h)] [.int 0] M v M' 0 0 := Ev.back 1 (fun n => rfl) H
    obtain ⟨z1, z2⟩ := Ev.retz rfl rfl H
    exact Or.inl ⟨h1, z1, z2⟩
  · rw [if_neg h1] at H
    have H : Ev none e 132 12 [some (.ref 0), some (.int a), some (.int b), some (.int h)] [.int 5, .int 0, .int h] M v M' 0 0 := Ev.back 3 (fun n => rfl) H
    obtain ⟨e1, rfl⟩ := Ev.dpos rfl rfl H
    obtain ⟨vK2, MK2, K2, H⟩ := Ev.callb (fun n => rfl) H
    obtain ⟨pK2, qK2⟩ := g_126 hS K2
    rw [pK2, qK2] at H
    have H : Ev none (e1 + 1) 132 15 [some (.ref 0), some (.int a), some (.int b), some (.int h)] [.int (G_126 M h 0 5)] M v M' 0 0 := H
    have H : Ev none (e1 + 1) 132 (if (G_126 M h 0 5) = 0 then 22 else 18) [some (.ref 0), some (.int a), some (.int b), some (.int h)] [] M v M' 0 0 := Ev.back 1 (fun n => rfl) H
    by_cases h3 : (G_126 M h 0 5) = 0
    · rw [if_pos h3] at H
      have H : Ev none (e1 + 1) 132 23 [some (.ref 0), some (.int a), some (.int b), some (.int h)] [.int 0] M v M' 0 0 := Ev.back 1 (fun n => rfl) H
      obtain ⟨z1, z2⟩ := Ev.retz rfl rfl H
      exact Or.inr (Or.inl ⟨h1, h3, z1, z2⟩)
    · rw [if_neg h3] at H
      have H : Ev none (e1 + 1) 132 23 [some (.ref 0), some (.int a), some (.int b), some (.int h)] [.int 1] M v M' 0 0 := Ev.back 2 (fun n => rfl) H
      obtain ⟨z1, z2⟩ := Ev.retz rfl rfl H
      exact Or.inr (Or.inr (⟨h1, h3, z1, z2⟩))
theorem way_0 {e : Nat} {M M' : Mem} {v : Option Value} {a b h : Int32} (hS : SQ M) (H : Ev none e 115 0 [some (.ref 0), some (.int a), some (.int b), some (.int h), none] [] M v M' 0 0) : (∃ e1 v1 M1, e = e1 + 1 ∧ Ev none e1 132 0 [some (.ref 0), some (.int a), some (.int b), some (.int h)] [] M v1 M1 0 0 ∧ Ev none e 115 7 [some (.ref 0), some (.int a), some (.int b), some (.int h), none] (v1.toList ++ []) M1 v M' 0 0) := by
  have H : Ev none e 115 4 [some (.ref 0), some (.int a), some (.int b), some (.int h), none] [.int h, .int b, .int a, .ref 0] M v M' 0 0 := Ev.back 4 (fun n => rfl) H
  obtain ⟨e1, rfl⟩ := Ev.dpos rfl rfl H
  obtain ⟨vK1, MK1, K1, H⟩ := Ev.callb (fun n_ => gs_7 rfl rfl (show gCal (.invokevirtual 350) 10 (.int h :: .int b :: .int a :: .ref 0 :: []) M = some (.inr (132, [some (.ref 0), some (.int a), some (.int b), some (.int h)], [])) from by show @cond (Option ((List Value × Mem) ⊕ (Nat × Lo × List Value))) (true && gRecv M (.ref 0) 10 && gRoom [] && true) (some (.inr (132, [some (.ref 0), some (.int a), some (.int b), some (.int h)], []))) none = _; rw [recv_s hS.1 qa_0 qo_0]; rfl)) H
  have K1 : Ev none e1 132 0 [some (.ref 0), some (.int a), some (.int b), some (.int h)] [] M vK1 MK1 0 0 := K1
  have HF := H
  exact ⟨e1, vK1, MK1, rfl, K1, HF⟩
theorem way_7 {e : Nat} {M M' : Mem} {v : Option Value} {a b h r : Int32} (hS : SQ M) (hLd : fR M 0 2 = 8) (H : Ev none e 115 7 [some (.ref 0), some (.int a), some (.int b), some (.int h), none] [.int r] M v M' 0 0) : (r = 0 ∧ v = some (.int (-2)) ∧ M' = M) ∨ (¬ (r = 0) ∧ (∃ e1 v1 M1, e = e1 + 1 ∧ Ev none e1 54 0 [some (.ref 104), some (.ref 8)] [] M v1 M1 0 0 ∧ Ev none e 115 24 [some (.ref 0), some (.int a), some (.int b), some (.int h), none] (v1.toList ++ []) M1 v M' 0 0)) := by
  have H : Ev none e 115 (if r = 0 then 10 else 13) [some (.ref 0), some (.int a), some (.int b), some (.int h), none] [] M v M' 0 0 := Ev.back 1 (fun n => rfl) H
  by_cases h1 : r = 0
  · rw [if_pos h1] at H
    have H : Ev none e 115 12 [some (.ref 0), some (.int a), some (.int b), some (.int h), none] [.int (-2)] M v M' 0 0 := Ev.back 1 (fun n => rfl) H
    obtain ⟨z1, z2⟩ := Ev.retz rfl rfl H
    exact Or.inl ⟨h1, z1, z2⟩
  · rw [if_neg h1] at H
    have H : Ev none e 115 14 [some (.ref 0), some (.int a), some (.int b), some (.int h), none] [.ref 0] M v M' 0 0 := Ev.back 1 (fun n => rfl) H
    have H : Ev none e 115 17 [some (.ref 0), some (.int a), some (.int b), some (.int h), none] [.ref 104] M v M' 0 0 := Ev.back 1 (gs_3 rfl rfl (gf_u hS.1 qa_0 qr_0_3 qu_22 rfl)) H
    have H : Ev none e 115 18 [some (.ref 0), some (.int a), some (.int b), some (.int h), none] [.ref 0, .ref 104] M v M' 0 0 := Ev.back 1 (fun n => rfl) H
    have H : Ev none e 115 21 [some (.ref 0), some (.int a), some (.int b), some (.int h), none] [.ref (fR M 0 2), .ref 104] M v M' 0 0 := Ev.back 1 (gs_3 rfl rfl (gf_r hS.1 qa_0 qr_0_2 rfl)) H
    rw [hLd] at H
    obtain ⟨e1, rfl⟩ := Ev.dpos rfl rfl H
    obtain ⟨vK2, MK2, K2, H⟩ := Ev.callb (fun n_ => gs_7 rfl rfl (show gCal (.invokevirtual 197) 10 (.ref 8 :: .ref 104 :: []) M = some (.inr (54, [some (.ref 104), some (.ref 8)], [])) from by show @cond (Option ((List Value × Mem) ⊕ (Nat × Lo × List Value))) (true && gRecv M (.ref 104) 7 && gRoom [] && true) (some (.inr (54, [some (.ref 104), some (.ref 8)], []))) none = _; rw [recv_s hS.1 qa_104 qo_22]; rfl)) H
    have K2 : Ev none e1 54 0 [some (.ref 104), some (.ref 8)] [] M vK2 MK2 0 0 := K2
    have HF := H
    exact Or.inr (⟨h1, ⟨e1, vK2, MK2, rfl, K2, HF⟩⟩)
theorem way_24 {e : Nat} {M M' : Mem} {v : Option Value} {a b h : Int32} (hS : SQ M) (H : Ev none e 115 24 [some (.ref 0), some (.int a), some (.int b), some (.int h), none] [] M v M' 0 0) : (∃ e1 v1 M1, e = e1 + 1 ∧ Ev none e1 65 0 [some (.ref 104), some (.int a), some (.int b), some (.int h), some (.ref (fR M 0 9)), none, none, none] [] M v1 M1 0 0 ∧ Ev none e 115 38 [some (.ref 0), some (.int a), some (.int b), some (.int h), none] (v1.toList ++ []) M1 v M' 0 0) := by
  have H : Ev none e 115 25 [some (.ref 0), some (.int a), some (.int b), some (.int h), none] [.ref 0] M v M' 0 0 := Ev.back 1 (fun n => rfl) H
  have H : Ev none e 115 28 [some (.ref 0), some (.int a), some (.int b), some (.int h), none] [.ref 104] M v M' 0 0 := Ev.back 1 (gs_3 rfl rfl (gf_u hS.1 qa_0 qr_0_3 qu_22 rfl)) H
  have H : Ev none e 115 32 [some (.ref 0), some (.int a), some (.int b), some (.int h), none] [.ref 0, .int h, .int b, .int a, .ref 104] M v M' 0 0 := Ev.back 4 (fun n => rfl) H
  have H : Ev none e 115 35 [some (.ref 0), some (.int a), some (.int b), some (.int h), none] [.ref (fR M 0 9), .int h, .int b, .int a, .ref 104] M v M' 0 0 := Ev.back 1 (gs_3 rfl rfl (gf_r hS.1 qa_0 qr_0_9 rfl)) H
  obtain ⟨e1, rfl⟩ := Ev.dpos rfl rfl H
  obtain ⟨vK1, MK1, K1, H⟩ := Ev.callb (fun n_ => gs_7 rfl rfl (show gCal (.invokevirtual 353) 10 (.ref (fR M 0 9) :: .int h :: .int b :: .int a :: .ref 104 :: []) M = some (.inr (65, [some (.ref 104), some (.int a), some (.int b), some (.int h), some (.ref (fR M 0 9)), none, none, none], [])) from by show @cond (Option ((List Value × Mem) ⊕ (Nat × Lo × List Value))) (true && gRecv M (.ref 104) 7 && gRoom [] && true) (some (.inr (65, [some (.ref 104), some (.int a), some (.int b), some (.int h), some (.ref (fR M 0 9)), none, none, none], []))) none = _; rw [recv_s hS.1 qa_104 qo_22]; rfl)) H
  have K1 : Ev none e1 65 0 [some (.ref 104), some (.int a), some (.int b), some (.int h), some (.ref (fR M 0 9)), none, none, none] [] M vK1 MK1 0 0 := K1
  have HF := H
  exact ⟨e1, vK1, MK1, rfl, K1, HF⟩
theorem way_38 {e : Nat} {M M' : Mem} {v : Option Value} {a b h r : Int32} (hS : SQ M) (H : Ev none e 115 38 [some (.ref 0), some (.int a), some (.int b), some (.int h), none] [.int r] M v M' 0 0) : (r = 0 ∧ v = some (.int (-1)) ∧ M' = (wF M 0 13 (zI M 104 11))) ∨ (¬ (r = 0) ∧ v = some (.int (zI M 104 11)) ∧ M' = (wF M 0 13 (zI M 104 11))) := by
  have H : Ev none e 115 42 [some (.ref 0), some (.int a), some (.int b), some (.int h), some (.int r)] [.ref 0, .ref 0] M v M' 0 0 := Ev.back 3 (fun n => rfl) H
  have H : Ev none e 115 45 [some (.ref 0), some (.int a), some (.int b), some (.int h), some (.int r)] [.ref 104, .ref 0] M v M' 0 0 := Ev.back 1 (gs_3 rfl rfl (gf_u hS.1 qa_0 qr_0_3 qu_22 rfl)) H
  have H : Ev none e 115 48 [some (.ref 0), some (.int a), some (.int b), some (.int h), some (.int r)] [.int (zI M 104 11), .ref 0] M v M' 0 0 := Ev.back 1 (gs_3 rfl rfl (gf_i hS.1 qa_104 qi_22_11 rfl)) H
  obtain ⟨N2, eN2⟩ : ∃ N, N = (wF M 0 13 (zI M 104 11)) := ⟨_, rfl⟩
  have hN2 : SQ N2 := by rw [eN2]; exact hS.kf
  have H : Ev none e 115 51 [some (.ref 0), some (.int a), some (.int b), some (.int h), some (.int r)] [] N2 v M' 0 0 := by rw [eN2]; exact Ev.pfi rfl rfl rfl hS.1 qa_0 qi_0_13 H
  have H : Ev none e 115 (if r = 0 then 63 else 56) [some (.ref 0), some (.int a), some (.int b), some (.int h), some (.int r)] [] N2 v M' 0 0 := Ev.back 2 (fun n => rfl) H
  by_cases h3 : r = 0
  · rw [if_pos h3] at H
    have H : Ev none e 115 64 [some (.ref 0), some (.int a), some (.int b), some (.int h), some (.int r)] [.int (-1)] N2 v M' 0 0 := Ev.back 1 (fun n => rfl) H
    obtain ⟨z1, z2⟩ := Ev.retz rfl rfl H
    subst eN2
    exact Or.inl ⟨h3, z1, z2⟩
  · rw [if_neg h3] at H
    have H : Ev none e 115 57 [some (.ref 0), some (.int a), some (.int b), some (.int h), some (.int r)] [.ref 0] N2 v M' 0 0 := Ev.back 1 (fun n => rfl) H
    have H : Ev none e 115 60 [some (.ref 0), some (.int a), some (.int b), some (.int h), some (.int r)] [.int (zI N2 0 13)] N2 v M' 0 0 := Ev.back 1 (gs_3 rfl rfl (gf_i hN2.1 qa_0 qi_0_13 rfl)) H
    rw [show zI N2 0 13 = zI M 104 11 from by rw [eN2]; exact fI_wF_eq hS.1 qa_0 qi_0_13] at H
    have H : Ev none e 115 64 [some (.ref 0), some (.int a), some (.int b), some (.int h), some (.int r)] [.int (zI M 104 11)] N2 v M' 0 0 := Ev.back 1 (fun n => rfl) H
    obtain ⟨z1, z2⟩ := Ev.retz rfl rfl H
    subst eN2
    exact Or.inr (⟨h3, z1, z2⟩)
theorem rea_0 {e : Nat} {M M' : Mem} {v : Option Value} (hS : SQ M) (H : Ev none e 117 0 [some (.ref 0), none] [] M v M' 0 0) : (∃ e1 v1 M1, e = e1 + 1 ∧ Ev none e1 118 0 [some (.ref 0), none, none, none, none, none] [] M v1 M1 0 0 ∧ Ev none e 117 4 [some (.ref 0), none] (v1.toList ++ []) M1 v M' 0 0) := by
  have H : Ev none e 117 1 [some (.ref 0), none] [.ref 0] M v M' 0 0 := Ev.back 1 (fun n => rfl) H
  obtain ⟨e1, rfl⟩ := Ev.dpos rfl rfl H
  obtain ⟨vK1, MK1, K1, H⟩ := Ev.callb (fun n_ => gs_7 rfl rfl (show gCal (.invokevirtual 360) 10 (.ref 0 :: []) M = some (.inr (118, [some (.ref 0), none, none, none, none, none], [])) from by show @cond (Option ((List Value × Mem) ⊕ (Nat × Lo × List Value))) (true && gRecv M (.ref 0) 10 && gRoom [] && true) (some (.inr (118, [some (.ref 0), none, none, none, none, none], []))) none = _; rw [recv_s hS.1 qa_0 qo_0]; rfl)) H
  have K1 : Ev none e1 118 0 [some (.ref 0), none, none, none, none, none] [] M vK1 MK1 0 0 := K1
  have HF := H
  exact ⟨e1, vK1, MK1, rfl, K1, HF⟩
theorem rea_4 {e : Nat} {M M' : Mem} {v : Option Value} {r : Int32} (hS : SQ M) (hLd : fR M 0 2 = 8) (H : Ev none e 117 4 [some (.ref 0), none] [.int r] M v M' 0 0) : (r = 0 ∧ v = some (.int (-1)) ∧ M' = (wF M 1 1 0)) ∨ (¬ (r = 0) ∧ (∃ e1 v1 M1, e = e1 + 1 ∧ Ev none e1 43 0 [some (.ref 229), some (.ref 8), none] [] M v1 M1 0 0 ∧ Ev none e 117 18 [some (.ref 0), none] (v1.toList ++ []) M1 v M' 0 0)) := by
  have H : Ev none e 117 (if r = 0 then 21 else 7) [some (.ref 0), none] [] M v M' 0 0 := Ev.back 1 (fun n => rfl) H
  by_cases h1 : r = 0
  · rw [if_pos h1] at H
    have H : Ev none e 117 24 [some (.ref 0), some (.int (-1))] [.ref 0] M v M' 0 0 := Ev.back 3 (fun n => rfl) H
    have H : Ev none e 117 27 [some (.ref 0), some (.int (-1))] [.ref 1] M v M' 0 0 := Ev.back 1 (gs_3 rfl rfl (gf_u hS.1 qa_0 qr_0_0 qu_1 rfl)) H
    have H : Ev none e 117 28 [some (.ref 0), some (.int (-1))] [.int 0, .ref 1] M v M' 0 0 := Ev.back 1 (fun n => rfl) H
    obtain ⟨N3, eN3⟩ : ∃ N, N = (wF M 1 1 0) := ⟨_, rfl⟩
    have hN3 : SQ N3 := by rw [eN3]; exact hS.kf
    have H : Ev none e 117 31 [some (.ref 0), some (.int (-1))] [] N3 v M' 0 0 := by rw [eN3]; exact Ev.pfi rfl rfl rfl hS.1 qa_1 qi_1_1 H
    have H : Ev none e 117 32 [some (.ref 0), some (.int (-1))] [.int (-1)] N3 v M' 0 0 := Ev.back 1 (fun n => rfl) H
    obtain ⟨z1, z2⟩ := Ev.retz rfl rfl H
    subst eN3
    exact Or.inl ⟨h1, z1, z2⟩
  · rw [if_neg h1] at H
    have H : Ev none e 117 8 [some (.ref 0), none] [.ref 0] M v M' 0 0 := Ev.back 1 (fun n => rfl) H
    have H : Ev none e 117 11 [some (.ref 0), none] [.ref 229] M v M' 0 0 := Ev.back 1 (gs_3 rfl rfl (gf_u hS.1 qa_0 qr_0_5 qu_46 rfl)) H
    have H : Ev none e 117 12 [some (.ref 0), none] [.ref 0, .ref 229] M v M' 0 0 := Ev.back 1 (fun n => rfl) H
    have H : Ev none e 117 15 [some (.ref 0), none] [.ref (fR M 0 2), .ref 229] M v M' 0 0 := Ev.back 1 (gs_3 rfl rfl (gf_r hS.1 qa_0 qr_0_2 rfl)) H
    rw [hLd] at H
    obtain ⟨e1, rfl⟩ := Ev.dpos rfl rfl H
    obtain ⟨vK4, MK4, K4, H⟩ := Ev.callb (fun n_ => gs_7 rfl rfl (show gCal (.invokevirtual 364) 10 (.ref 8 :: .ref 229 :: []) M = some (.inr (43, [some (.ref 229), some (.ref 8), none], [])) from by show @cond (Option ((List Value × Mem) ⊕ (Nat × Lo × List Value))) (true && gRecv M (.ref 229) 4 && gRoom [] && true) (some (.inr (43, [some (.ref 229), some (.ref 8), none], []))) none = _; rw [recv_s hS.1 qa_229 qo_46]; rfl)) H
    have K4 : Ev none e1 43 0 [some (.ref 229), some (.ref 8), none] [] M vK4 MK4 0 0 := K4
    have HF := H
    exact Or.inr (⟨h1, ⟨e1, vK4, MK4, rfl, K4, HF⟩⟩)
theorem rea_18 {e : Nat} {M M' : Mem} {v : Option Value} {r : Int32} (hS : SQ M) (H : Ev none e 117 18 [some (.ref 0), none] [.int r] M v M' 0 0) : v = some (.int r) ∧ M' = (wF M 1 1 0) := by
  have H : Ev none e 117 24 [some (.ref 0), some (.int r)] [.ref 0] M v M' 0 0 := Ev.back 3 (fun n => rfl) H
  have H : Ev none e 117 27 [some (.ref 0), some (.int r)] [.ref 1] M v M' 0 0 := Ev.back 1 (gs_3 rfl rfl (gf_u hS.1 qa_0 qr_0_0 qu_1 rfl)) H
  have H : Ev none e 117 28 [some (.ref 0), some (.int r)] [.int 0, .ref 1] M v M' 0 0 := Ev.back 1 (fun n => rfl) H
  obtain ⟨N2, eN2⟩ : ∃ N, N = (wF M 1 1 0) := ⟨_, rfl⟩
  have hN2 : SQ N2 := by rw [eN2]; exact hS.kf
  have H : Ev none e 117 31 [some (.ref 0), some (.int r)] [] N2 v M' 0 0 := by rw [eN2]; exact Ev.pfi rfl rfl rfl hS.1 qa_1 qi_1_1 H
  have H : Ev none e 117 32 [some (.ref 0), some (.int r)] [.int r] N2 v M' 0 0 := Ev.back 1 (fun n => rfl) H
  obtain ⟨z1, z2⟩ := Ev.retz rfl rfl H
  subst eN2
  exact ⟨z1, z2⟩
theorem twy_0 {e : Nat} {M M' : Mem} {v : Option Value} (hS : SQ M) (hLd : fR M 0 2 = 8) (H : Ev none e 118 0 [some (.ref 0), none, none, none, none, none] [] M v M' 0 0) : ((G_126 M ((zI M 1 1) / 3) 1 5) = 0 ∧ v = some (.int 0) ∧ M' = M) ∨ (¬ ((G_126 M ((zI M 1 1) / 3) 1 5) = 0) ∧ (zI M 1 1) = (3 * ((zI M 1 1) / 3)) ∧ (∃ e1 v1 M1, e = e1 + 1 ∧ Ev none e1 54 0 [some (.ref 104), some (.ref 8)] [] M v1 M1 0 0 ∧ Ev none e 118 45 [some (.ref 0), some (.int ((zI M 1 1) / 3)), none, none, none, none] (v1.toList ++ []) M1 v M' 0 0)) ∨ (¬ ((G_126 M ((zI M 1 1) / 3) 1 5) = 0) ∧ ¬ ((zI M 1 1) = (3 * ((zI M 1 1) / 3))) ∧ v = some (.int 0) ∧ M' = M) := by
  have H : Ev none e 118 1 [some (.ref 0), none, none, none, none, none] [.ref 0] M v M' 0 0 := Ev.back 1 (fun n => rfl) H
  have H : Ev none e 118 4 [some (.ref 0), none, none, none, none, none] [.ref 1] M v M' 0 0 := Ev.back 1 (gs_3 rfl rfl (gf_u hS.1 qa_0 qr_0_0 qu_1 rfl)) H
  have H : Ev none e 118 7 [some (.ref 0), none, none, none, none, none] [.int (zI M 1 1)] M v M' 0 0 := Ev.back 1 (gs_3 rfl rfl (gf_i hS.1 qa_1 qi_1_1 rfl)) H
  have H : Ev none e 118 13 [some (.ref 0), some (.int ((zI M 1 1) / 3)), none, none, none, none] [.int 5, .int 1, .int ((zI M 1 1) / 3)] M v M' 0 0 := Ev.back 6 (fun n => rfl) H
  obtain ⟨e1, rfl⟩ := Ev.dpos rfl rfl H
  obtain ⟨vK1, MK1, K1, H⟩ := Ev.callb (fun n => rfl) H
  obtain ⟨pK1, qK1⟩ := g_126 hS K1
  rw [pK1, qK1] at H
  have H : Ev none (e1 + 1) 118 16 [some (.ref 0), some (.int ((zI M 1 1) / 3)), none, none, none, none] [.int (G_126 M ((zI M 1 1) / 3) 1 5)] M v M' 0 0 := H
  have H : Ev none (e1 + 1) 118 (if (G_126 M ((zI M 1 1) / 3) 1 5) = 0 then 32 else 19) [some (.ref 0), some (.int ((zI M 1 1) / 3)), none, none, none, none] [] M v M' 0 0 := Ev.back 1 (fun n => rfl) H
  by_cases h2 : (G_126 M ((zI M 1 1) / 3) 1 5) = 0
  · rw [if_pos h2] at H
    have H : Ev none (e1 + 1) 118 33 [some (.ref 0), some (.int ((zI M 1 1) / 3)), none, none, none, none] [.int 0] M v M' 0 0 := Ev.back 1 (fun n => rfl) H
    obtain ⟨z1, z2⟩ := Ev.retz rfl rfl H
    exact Or.inl ⟨h2, z1, z2⟩
  · rw [if_neg h2] at H
    have H : Ev none (e1 + 1) 118 20 [some (.ref 0), some (.int ((zI M 1 1) / 3)), none, none, none, none] [.ref 0] M v M' 0 0 := Ev.back 1 (fun n => rfl) H
    have H : Ev none (e1 + 1) 118 23 [some (.ref 0), some (.int ((zI M 1 1) / 3)), none, none, none, none] [.ref 1] M v M' 0 0 := Ev.back 1 (gs_3 rfl rfl (gf_u hS.1 qa_0 qr_0_0 qu_1 rfl)) H
    have H : Ev none (e1 + 1) 118 26 [some (.ref 0), some (.int ((zI M 1 1) / 3)), none, none, none, none] [.int (zI M 1 1)] M v M' 0 0 := Ev.back 1 (gs_3 rfl rfl (gf_i hS.1 qa_1 qi_1_1 rfl)) H
    have H : Ev none (e1 + 1) 118 (if (zI M 1 1) = (3 * ((zI M 1 1) / 3)) then 34 else 32) [some (.ref 0), some (.int ((zI M 1 1) / 3)), none, none, none, none] [] M v M' 0 0 := Ev.back 4 (fun n => rfl) H
    by_cases h3 : (zI M 1 1) = (3 * ((zI M 1 1) / 3))
    · rw [if_pos h3] at H
      have H : Ev none (e1 + 1) 118 35 [some (.ref 0), some (.int ((zI M 1 1) / 3)), none, none, none, none] [.ref 0] M v M' 0 0 := Ev.back 1 (fun n => rfl) H
      have H : Ev none (e1 + 1) 118 38 [some (.ref 0), some (.int ((zI M 1 1) / 3)), none, none, none, none] [.ref 104] M v M' 0 0 := Ev.back 1 (gs_3 rfl rfl (gf_u hS.1 qa_0 qr_0_3 qu_22 rfl)) H
      have H : Ev none (e1 + 1) 118 39 [some (.ref 0), some (.int ((zI M 1 1) / 3)), none, none, none, none] [.ref 0, .ref 104] M v M' 0 0 := Ev.back 1 (fun n => rfl) H
      have H : Ev none (e1 + 1) 118 42 [some (.ref 0), some (.int ((zI M 1 1) / 3)), none, none, none, none] [.ref (fR M 0 2), .ref 104] M v M' 0 0 := Ev.back 1 (gs_3 rfl rfl (gf_r hS.1 qa_0 qr_0_2 rfl)) H
      rw [hLd] at H
      obtain ⟨vK4, MK4, K4, H⟩ := Ev.callb (fun n_ => gs_7 rfl rfl (show gCal (.invokevirtual 197) 10 (.ref 8 :: .ref 104 :: []) M = some (.inr (54, [some (.ref 104), some (.ref 8)], [])) from by show @cond (Option ((List Value × Mem) ⊕ (Nat × Lo × List Value))) (true && gRecv M (.ref 104) 7 && gRoom [] && true) (some (.inr (54, [some (.ref 104), some (.ref 8)], []))) none = _; rw [recv_s hS.1 qa_104 qo_22]; rfl)) H
      have K4 : Ev none e1 54 0 [some (.ref 104), some (.ref 8)] [] M vK4 MK4 0 0 := K4
      have HF := H
      exact Or.inr (Or.inl ⟨h2, h3, ⟨e1, vK4, MK4, rfl, K4, HF⟩⟩)
    · rw [if_neg h3] at H
      have H : Ev none (e1 + 1) 118 33 [some (.ref 0), some (.int ((zI M 1 1) / 3)), none, none, none, none] [.int 0] M v M' 0 0 := Ev.back 1 (fun n => rfl) H
      obtain ⟨z1, z2⟩ := Ev.retz rfl rfl H
      exact Or.inr (Or.inr (⟨h2, h3, z1, z2⟩))
theorem twy_45 {e : Nat} {M M' : Mem} {v : Option Value} {n : Int32} (hS : SQ M) (H : Ev none e 118 45 [some (.ref 0), some (.int n), none, none, none, none] [] M v M' 0 0) : Ev none e 118 55 [some (.ref 0), some (.int n), some (.int 0), none, none, none] [] (wF M 229 2 n) v M' 0 0 := by
  have H : Ev none e 118 46 [some (.ref 0), some (.int n), none, none, none, none] [.ref 0] M v M' 0 0 := Ev.back 1 (fun n => rfl) H
  have H : Ev none e 118 49 [some (.ref 0), some (.int n), none, none, none, none] [.ref 229] M v M' 0 0 := Ev.back 1 (gs_3 rfl rfl (gf_u hS.1 qa_0 qr_0_5 qu_46 rfl)) H
  have H : Ev none e 118 50 [some (.ref 0), some (.int n), none, none, none, none] [.int n, .ref 229] M v M' 0 0 := Ev.back 1 (fun n => rfl) H
  obtain ⟨N2, eN2⟩ : ∃ N, N = (wF M 229 2 n) := ⟨_, rfl⟩
  have hN2 : SQ N2 := by rw [eN2]; exact hS.kf
  have H : Ev none e 118 53 [some (.ref 0), some (.int n), none, none, none, none] [] N2 v M' 0 0 := by rw [eN2]; exact Ev.pfi rfl rfl rfl hS.1 qa_229 qi_46_2 H
  have H : Ev none e 118 55 [some (.ref 0), some (.int n), some (.int 0), none, none, none] [] N2 v M' 0 0 := Ev.back 2 (fun n => rfl) H
  have HF := H
  subst eN2
  exact HF
theorem twy_55 {e : Nat} {M M' : Mem} {v : Option Value} {n i : Int32} {c3 c4 c5 : Option Value} (hS : SQ M) (H : Ev none e 118 55 [some (.ref 0), some (.int n), some (.int i), c3, c4, c5] [] M v M' 0 0) : (n ≤ i ∧ v = some (.int 1) ∧ M' = M) ∨ (¬ (n ≤ i) ∧ (0 ≤ (3 * i).toInt ∧ (3 * i).toInt < 440) ∧ (0 ≤ ((3 * i) + 1).toInt ∧ ((3 * i) + 1).toInt < 440) ∧ (0 ≤ ((3 * i) + 2).toInt ∧ ((3 * i) + 2).toInt < 440) ∧ (∃ e1 v1 M1, e = e1 + 1 ∧ Ev none e1 132 0 [some (.ref 0), some (.int (rI M 2 (3 * i))), some (.int (rI M 2 ((3 * i) + 1))), some (.int (rI M 2 ((3 * i) + 2)))] [] M v1 M1 0 0 ∧ Ev none e 118 111 [some (.ref 0), some (.int n), some (.int i), some (.int (rI M 2 (3 * i))), some (.int (rI M 2 ((3 * i) + 1))), some (.int (rI M 2 ((3 * i) + 2)))] (v1.toList ++ []) M1 v M' 0 0)) := by
  have H : Ev none e 118 (if n ≤ i then 160 else 60) [some (.ref 0), some (.int n), some (.int i), c3, c4, c5] [] M v M' 0 0 := Ev.back 3 (fun n => rfl) H
  by_cases h1 : n ≤ i
  · rw [if_pos h1] at H
    have H : Ev none e 118 161 [some (.ref 0), some (.int n), some (.int i), c3, c4, c5] [.int 1] M v M' 0 0 := Ev.back 1 (fun n => rfl) H
    obtain ⟨z1, z2⟩ := Ev.retz rfl rfl H
    exact Or.inl ⟨h1, z1, z2⟩
  · rw [if_neg h1] at H
    have H : Ev none e 118 61 [some (.ref 0), some (.int n), some (.int i), c3, c4, c5] [.ref 0] M v M' 0 0 := Ev.back 1 (fun n => rfl) H
    have H : Ev none e 118 64 [some (.ref 0), some (.int n), some (.int i), c3, c4, c5] [.ref 1] M v M' 0 0 := Ev.back 1 (gs_3 rfl rfl (gf_u hS.1 qa_0 qr_0_0 qu_1 rfl)) H
    have H : Ev none e 118 67 [some (.ref 0), some (.int n), some (.int i), c3, c4, c5] [.ref 2] M v M' 0 0 := Ev.back 1 (gs_3 rfl rfl (gf_u hS.1 qa_1 qr_1_0 qu_2 rfl)) H
    have H : Ev none e 118 70 [some (.ref 0), some (.int n), some (.int i), c3, c4, c5] [.int (3 * i), .ref 2] M v M' 0 0 := Ev.back 3 (fun n => rfl) H
    obtain ⟨b2, H⟩ := Ev.ial rfl rfl hS.1 qa_2 qw_2 H
    have H : Ev none e 118 71 [some (.ref 0), some (.int n), some (.int i), c3, c4, c5] [.int (rI M 2 (3 * i))] M v M' 0 0 := H
    have H : Ev none e 118 73 [some (.ref 0), some (.int n), some (.int i), some (.int (rI M 2 (3 * i))), c4, c5] [.ref 0] M v M' 0 0 := Ev.back 2 (fun n => rfl) H
    have H : Ev none e 118 76 [some (.ref 0), some (.int n), some (.int i), some (.int (rI M 2 (3 * i))), c4, c5] [.ref 1] M v M' 0 0 := Ev.back 1 (gs_3 rfl rfl (gf_u hS.1 qa_0 qr_0_0 qu_1 rfl)) H
    have H : Ev none e 118 79 [some (.ref 0), some (.int n), some (.int i), some (.int (rI M 2 (3 * i))), c4, c5] [.ref 2] M v M' 0 0 := Ev.back 1 (gs_3 rfl rfl (gf_u hS.1 qa_1 qr_1_0 qu_2 rfl)) H
    have H : Ev none e 118 84 [some (.ref 0), some (.int n), some (.int i), some (.int (rI M 2 (3 * i))), c4, c5] [.int ((3 * i) + 1), .ref 2] M v M' 0 0 := Ev.back 5 (fun n => rfl) H
    obtain ⟨b3, H⟩ := Ev.ial rfl rfl hS.1 qa_2 qw_2 H
    have H : Ev none e 118 85 [some (.ref 0), some (.int n), some (.int i), some (.int (rI M 2 (3 * i))), c4, c5] [.int (rI M 2 ((3 * i) + 1))] M v M' 0 0 := H
    have H : Ev none e 118 88 [some (.ref 0), some (.int n), some (.int i), some (.int (rI M 2 (3 * i))), some (.int (rI M 2 ((3 * i) + 1))), c5] [.ref 0] M v M' 0 0 := Ev.back 2 (fun n => rfl) H
    have H : Ev none e 118 91 [some (.ref 0), some (.int n), some (.int i), some (.int (rI M 2 (3 * i))), some (.int (rI M 2 ((3 * i) + 1))), c5] [.ref 1] M v M' 0 0 := Ev.back 1 (gs_3 rfl rfl (gf_u hS.1 qa_0 qr_0_0 qu_1 rfl)) H
    have H : Ev none e 118 94 [some (.ref 0), some (.int n), some (.int i), some (.int (rI M 2 (3 * i))), some (.int (rI M 2 ((3 * i) + 1))), c5] [.ref 2] M v M' 0 0 := Ev.back 1 (gs_3 rfl rfl (gf_u hS.1 qa_1 qr_1_0 qu_2 rfl)) H
    have H : Ev none e 118 99 [some (.ref 0), some (.int n), some (.int i), some (.int (rI M 2 (3 * i))), some (.int (rI M 2 ((3 * i) + 1))), c5] [.int ((3 * i) + 2), .ref 2] M v M' 0 0 := Ev.back 5 (fun n => rfl) H
    obtain ⟨b4, H⟩ := Ev.ial rfl rfl hS.1 qa_2 qw_2 H
    have H : Ev none e 118 100 [some (.ref 0), some (.int n), some (.int i), some (.int (rI M 2 (3 * i))), some (.int (rI M 2 ((3 * i) + 1))), c5] [.int (rI M 2 ((3 * i) + 2))] M v M' 0 0 := H
    have H : Ev none e 118 108 [some (.ref 0), some (.int n), some (.int i), some (.int (rI M 2 (3 * i))), some (.int (rI M 2 ((3 * i) + 1))), some (.int (rI M 2 ((3 * i) + 2)))] [.int (rI M 2 ((3 * i) + 2)), .int (rI M 2 ((3 * i) + 1)), .int (rI M 2 (3 * i)), .ref 0] M v M' 0 0 := Ev.back 5 (fun n => rfl) H
    obtain ⟨e1, rfl⟩ := Ev.dpos rfl rfl H
    obtain ⟨vK5, MK5, K5, H⟩ := Ev.callb (fun n_ => gs_7 rfl rfl (show gCal (.invokevirtual 350) 10 (.int (rI M 2 ((3 * i) + 2)) :: .int (rI M 2 ((3 * i) + 1)) :: .int (rI M 2 (3 * i)) :: .ref 0 :: []) M = some (.inr (132, [some (.ref 0), some (.int (rI M 2 (3 * i))), some (.int (rI M 2 ((3 * i) + 1))), some (.int (rI M 2 ((3 * i) + 2)))], [])) from by show @cond (Option ((List Value × Mem) ⊕ (Nat × Lo × List Value))) (true && gRecv M (.ref 0) 10 && gRoom [] && true) (some (.inr (132, [some (.ref 0), some (.int (rI M 2 (3 * i))), some (.int (rI M 2 ((3 * i) + 1))), some (.int (rI M 2 ((3 * i) + 2)))], []))) none = _; rw [recv_s hS.1 qa_0 qo_0]; rfl)) H
    have K5 : Ev none e1 132 0 [some (.ref 0), some (.int (rI M 2 (3 * i))), some (.int (rI M 2 ((3 * i) + 1))), some (.int (rI M 2 ((3 * i) + 2)))] [] M vK5 MK5 0 0 := K5
    have HF := H
    exact Or.inr (⟨h1, b2, b3, b4, ⟨e1, vK5, MK5, rfl, K5, HF⟩⟩)
theorem twy_111 {e : Nat} {M M' : Mem} {v : Option Value} {n i a b h r : Int32} (hS : SQ M) (H : Ev none e 118 111 [some (.ref 0), some (.int n), some (.int i), some (.int a), some (.int b), some (.int h)] [.int r] M v M' 0 0) : (r = 0 ∧ v = some (.int 0) ∧ M' = M) ∨ (¬ (r = 0) ∧ (∃ e1 v1 M1, e = e1 + 1 ∧ Ev none e1 65 0 [some (.ref 104), some (.int a), some (.int b), some (.int h), some (.ref (fR M 0 10)), none, none, none] [] M v1 M1 0 0 ∧ Ev none e 118 130 [some (.ref 0), some (.int n), some (.int i), some (.int a), some (.int b), some (.int h)] (v1.toList ++ []) M1 v M' 0 0)) := by
  have H : Ev none e 118 (if r = 0 then 133 else 114) [some (.ref 0), some (.int n), some (.int i), some (.int a), some (.int b), some (.int h)] [] M v M' 0 0 := Ev.back 1 (fun n => rfl) H
  by_cases h1 : r = 0
  · rw [if_pos h1] at H
    have H : Ev none e 118 134 [some (.ref 0), some (.int n), some (.int i), some (.int a), some (.int b), some (.int h)] [.int 0] M v M' 0 0 := Ev.back 1 (fun n => rfl) H
    obtain ⟨z1, z2⟩ := Ev.retz rfl rfl H
    exact Or.inl ⟨h1, z1, z2⟩
  · rw [if_neg h1] at H
    have H : Ev none e 118 115 [some (.ref 0), some (.int n), some (.int i), some (.int a), some (.int b), some (.int h)] [.ref 0] M v M' 0 0 := Ev.back 1 (fun n => rfl) H
    have H : Ev none e 118 118 [some (.ref 0), some (.int n), some (.int i), some (.int a), some (.int b), some (.int h)] [.ref 104] M v M' 0 0 := Ev.back 1 (gs_3 rfl rfl (gf_u hS.1 qa_0 qr_0_3 qu_22 rfl)) H
    have H : Ev none e 118 124 [some (.ref 0), some (.int n), some (.int i), some (.int a), some (.int b), some (.int h)] [.ref 0, .int h, .int b, .int a, .ref 104] M v M' 0 0 := Ev.back 4 (fun n => rfl) H
    have H : Ev none e 118 127 [some (.ref 0), some (.int n), some (.int i), some (.int a), some (.int b), some (.int h)] [.ref (fR M 0 10), .int h, .int b, .int a, .ref 104] M v M' 0 0 := Ev.back 1 (gs_3 rfl rfl (gf_r hS.1 qa_0 qr_0_10 rfl)) H
    obtain ⟨e1, rfl⟩ := Ev.dpos rfl rfl H
    obtain ⟨vK2, MK2, K2, H⟩ := Ev.callb (fun n_ => gs_7 rfl rfl (show gCal (.invokevirtual 353) 10 (.ref (fR M 0 10) :: .int h :: .int b :: .int a :: .ref 104 :: []) M = some (.inr (65, [some (.ref 104), some (.int a), some (.int b), some (.int h), some (.ref (fR M 0 10)), none, none, none], [])) from by show @cond (Option ((List Value × Mem) ⊕ (Nat × Lo × List Value))) (true && gRecv M (.ref 104) 7 && gRoom [] && true) (some (.inr (65, [some (.ref 104), some (.int a), some (.int b), some (.int h), some (.ref (fR M 0 10)), none, none, none], []))) none = _; rw [recv_s hS.1 qa_104 qo_22]; rfl)) H
    have K2 : Ev none e1 65 0 [some (.ref 104), some (.int a), some (.int b), some (.int h), some (.ref (fR M 0 10)), none, none, none] [] M vK2 MK2 0 0 := K2
    have HF := H
    exact Or.inr (⟨h1, ⟨e1, vK2, MK2, rfl, K2, HF⟩⟩)
theorem twy_130 {e : Nat} {M M' : Mem} {v : Option Value} {n i a b h r : Int32} (hS : SQ M) (H : Ev none e 118 130 [some (.ref 0), some (.int n), some (.int i), some (.int a), some (.int b), some (.int h)] [.int r] M v M' 0 0) : (r = 0 ∧ v = some (.int 0) ∧ M' = M) ∨ (¬ (r = 0) ∧ (∃ e1 v1 M1, e = e1 + 1 ∧ Ev none e1 42 0 [some (.ref 229), some (.int i), some (.ref (fR M 0 10)), some (.int (zI M 104 11)), none] [] M v1 M1 0 0 ∧ Ev none e 118 154 [some (.ref 0), some (.int n), some (.int i), some (.int a), some (.int b), some (.int h)] (v1.toList ++ []) M1 v M' 0 0)) := by
  have H : Ev none e 118 (if r = 0 then 133 else 135) [some (.ref 0), some (.int n), some (.int i), some (.int a), some (.int b), some (.int h)] [] M v M' 0 0 := Ev.back 1 (fun n => rfl) H
  by_cases h1 : r = 0
  · rw [if_pos h1] at H
    have H : Ev none e 118 134 [some (.ref 0), some (.int n), some (.int i), some (.int a), some (.int b), some (.int h)] [.int 0] M v M' 0 0 := Ev.back 1 (fun n => rfl) H
    obtain ⟨z1, z2⟩ := Ev.retz rfl rfl H
    exact Or.inl ⟨h1, z1, z2⟩
  · rw [if_neg h1] at H
    have H : Ev none e 118 136 [some (.ref 0), some (.int n), some (.int i), some (.int a), some (.int b), some (.int h)] [.ref 0] M v M' 0 0 := Ev.back 1 (fun n => rfl) H
    have H : Ev none e 118 139 [some (.ref 0), some (.int n), some (.int i), some (.int a), some (.int b), some (.int h)] [.ref 229] M v M' 0 0 := Ev.back 1 (gs_3 rfl rfl (gf_u hS.1 qa_0 qr_0_5 qu_46 rfl)) H
    have H : Ev none e 118 141 [some (.ref 0), some (.int n), some (.int i), some (.int a), some (.int b), some (.int h)] [.ref 0, .int i, .ref 229] M v M' 0 0 := Ev.back 2 (fun n => rfl) H
    have H : Ev none e 118 144 [some (.ref 0), some (.int n), some (.int i), some (.int a), some (.int b), some (.int h)] [.ref (fR M 0 10), .int i, .ref 229] M v M' 0 0 := Ev.back 1 (gs_3 rfl rfl (gf_r hS.1 qa_0 qr_0_10 rfl)) H
    have H : Ev none e 118 145 [some (.ref 0), some (.int n), some (.int i), some (.int a), some (.int b), some (.int h)] [.ref 0, .ref (fR M 0 10), .int i, .ref 229] M v M' 0 0 := Ev.back 1 (fun n => rfl) H
    have H : Ev none e 118 148 [some (.ref 0), some (.int n), some (.int i), some (.int a), some (.int b), some (.int h)] [.ref 104, .ref (fR M 0 10), .int i, .ref 229] M v M' 0 0 := Ev.back 1 (gs_3 rfl rfl (gf_u hS.1 qa_0 qr_0_3 qu_22 rfl)) H
    have H : Ev none e 118 151 [some (.ref 0), some (.int n), some (.int i), some (.int a), some (.int b), some (.int h)] [.int (zI M 104 11), .ref (fR M 0 10), .int i, .ref 229] M v M' 0 0 := Ev.back 1 (gs_3 rfl rfl (gf_i hS.1 qa_104 qi_22_11 rfl)) H
    obtain ⟨e1, rfl⟩ := Ev.dpos rfl rfl H
    obtain ⟨vK2, MK2, K2, H⟩ := Ev.callb (fun n_ => gs_7 rfl rfl (show gCal (.invokevirtual 371) 10 (.int (zI M 104 11) :: .ref (fR M 0 10) :: .int i :: .ref 229 :: []) M = some (.inr (42, [some (.ref 229), some (.int i), some (.ref (fR M 0 10)), some (.int (zI M 104 11)), none], [])) from by show @cond (Option ((List Value × Mem) ⊕ (Nat × Lo × List Value))) (true && gRecv M (.ref 229) 4 && gRoom [] && true) (some (.inr (42, [some (.ref 229), some (.int i), some (.ref (fR M 0 10)), some (.int (zI M 104 11)), none], []))) none = _; rw [recv_s hS.1 qa_229 qo_46]; rfl)) H
    have K2 : Ev none e1 42 0 [some (.ref 229), some (.int i), some (.ref (fR M 0 10)), some (.int (zI M 104 11)), none] [] M vK2 MK2 0 0 := K2
    have HF := H
    exact Or.inr (⟨h1, ⟨e1, vK2, MK2, rfl, K2, HF⟩⟩)
theorem twy_154 {e : Nat} {M M' : Mem} {v : Option Value} {n i a b h : Int32} (hS : SQ M) (H : Ev none e 118 154 [some (.ref 0), some (.int n), some (.int i), some (.int a), some (.int b), some (.int h)] [] M v M' 0 0) : Ev none e 118 55 [some (.ref 0), some (.int n), some (.int (i + 1)), some (.int a), some (.int b), some (.int h)] [] M v M' 0 0 := by
  have H : Ev none e 118 55 [some (.ref 0), some (.int n), some (.int (i + 1)), some (.int a), some (.int b), some (.int h)] [] M v M' 0 0 := Ev.back 2 (fun n => rfl) H
  have HF := H
  exact HF
theorem fit_0 {e : Nat} {M M' : Mem} {v : Option Value} {a b : Int32} (hS : SQ M) (H : Ev none e 120 0 [some (.ref 0), some (.int a), some (.int b), none] [] M v M' 0 0) : ((G_126 M (zI M 1 1) 1 200) = 0 ∧ v = some (.int (-1)) ∧ M' = (wF M 1 1 0)) ∨ (¬ ((G_126 M (zI M 1 1) 1 200) = 0) ∧ (∃ e1 v1 M1, e = e1 + 1 ∧ Ev none e1 129 0 [some (.ref 0), some (.int a), some (.int b)] [] M v1 M1 0 0 ∧ Ev none e 120 25 [some (.ref 0), some (.int a), some (.int b), some (.int (-1))] (v1.toList ++ []) M1 v M' 0 0)) := by
  have H : Ev none e 120 3 [some (.ref 0), some (.int a), some (.int b), some (.int (-1))] [.ref 0] M v M' 0 0 := Ev.back 3 (fun n => rfl) H
  have H : Ev none e 120 6 [some (.ref 0), some (.int a), some (.int b), some (.int (-1))] [.ref 1] M v M' 0 0 := Ev.back 1 (gs_3 rfl rfl (gf_u hS.1 qa_0 qr_0_0 qu_1 rfl)) H
  have H : Ev none e 120 9 [some (.ref 0), some (.int a), some (.int b), some (.int (-1))] [.int (zI M 1 1)] M v M' 0 0 := Ev.back 1 (gs_3 rfl rfl (gf_i hS.1 qa_1 qi_1_1 rfl)) H
  have H : Ev none e 120 13 [some (.ref 0), some (.int a), some (.int b), some (.int (-1))] [.int 200, .int 1, .int (zI M 1 1)] M v M' 0 0 := Ev.back 2 (fun n => rfl) H
  obtain ⟨e1, rfl⟩ := Ev.dpos rfl rfl H
  obtain ⟨vK1, MK1, K1, H⟩ := Ev.callb (fun n => rfl) H
  obtain ⟨pK1, qK1⟩ := g_126 hS K1
  rw [pK1, qK1] at H
  have H : Ev none (e1 + 1) 120 16 [some (.ref 0), some (.int a), some (.int b), some (.int (-1))] [.int (G_126 M (zI M 1 1) 1 200)] M v M' 0 0 := H
  have H : Ev none (e1 + 1) 120 (if (G_126 M (zI M 1 1) 1 200) = 0 then 35 else 19) [some (.ref 0), some (.int a), some (.int b), some (.int (-1))] [] M v M' 0 0 := Ev.back 1 (fun n => rfl) H
  by_cases h2 : (G_126 M (zI M 1 1) 1 200) = 0
  · rw [if_pos h2] at H
    have H : Ev none (e1 + 1) 120 36 [some (.ref 0), some (.int a), some (.int b), some (.int (-1))] [.ref 0] M v M' 0 0 := Ev.back 1 (fun n => rfl) H
    have H : Ev none (e1 + 1) 120 39 [some (.ref 0), some (.int a), some (.int b), some (.int (-1))] [.ref 1] M v M' 0 0 := Ev.back 1 (gs_3 rfl rfl (gf_u hS.1 qa_0 qr_0_0 qu_1 rfl)) H
    have H : Ev none (e1 + 1) 120 40 [some (.ref 0), some (.int a), some (.int b), some (.int (-1))] [.int 0, .ref 1] M v M' 0 0 := Ev.back 1 (fun n => rfl) H
    obtain ⟨N4, eN4⟩ : ∃ N, N = (wF M 1 1 0) := ⟨_, rfl⟩
    have hN4 : SQ N4 := by rw [eN4]; exact hS.kf
    have H : Ev none (e1 + 1) 120 43 [some (.ref 0), some (.int a), some (.int b), some (.int (-1))] [] N4 v M' 0 0 := by rw [eN4]; exact Ev.pfi rfl rfl rfl hS.1 qa_1 qi_1_1 H
    have H : Ev none (e1 + 1) 120 44 [some (.ref 0), some (.int a), some (.int b), some (.int (-1))] [.int (-1)] N4 v M' 0 0 := Ev.back 1 (fun n => rfl) H
    obtain ⟨z1, z2⟩ := Ev.retz rfl rfl H
    subst eN4
    exact Or.inl ⟨h2, z1, z2⟩
  · rw [if_neg h2] at H
    have H : Ev none (e1 + 1) 120 22 [some (.ref 0), some (.int a), some (.int b), some (.int (-1))] [.int b, .int a, .ref 0] M v M' 0 0 := Ev.back 3 (fun n => rfl) H
    obtain ⟨vK5, MK5, K5, H⟩ := Ev.callb (fun n_ => gs_7 rfl rfl (show gCal (.invokevirtual 162) 10 (.int b :: .int a :: .ref 0 :: []) M = some (.inr (129, [some (.ref 0), some (.int a), some (.int b)], [])) from by show @cond (Option ((List Value × Mem) ⊕ (Nat × Lo × List Value))) (true && gRecv M (.ref 0) 10 && gRoom [] && true) (some (.inr (129, [some (.ref 0), some (.int a), some (.int b)], []))) none = _; rw [recv_s hS.1 qa_0 qo_0]; rfl)) H
    have K5 : Ev none e1 129 0 [some (.ref 0), some (.int a), some (.int b)] [] M vK5 MK5 0 0 := K5
    have HF := H
    exact Or.inr (⟨h2, ⟨e1, vK5, MK5, rfl, K5, HF⟩⟩)
theorem fit_25 {e : Nat} {M M' : Mem} {v : Option Value} {a b r0 r : Int32} (hS : SQ M) (H : Ev none e 120 25 [some (.ref 0), some (.int a), some (.int b), some (.int r0)] [.int r] M v M' 0 0) : (r = 0 ∧ v = some (.int r0) ∧ M' = (wF M 1 1 0)) ∨ (¬ (r = 0) ∧ (∃ e1 v1 M1, e = e1 + 1 ∧ Ev none e1 121 0 [some (.ref 0), some (.int a), some (.int b), none, none] [] M v1 M1 0 0 ∧ Ev none e 120 34 [some (.ref 0), some (.int a), some (.int b), some (.int r0)] (v1.toList ++ []) M1 v M' 0 0)) := by
  have H : Ev none e 120 (if r = 0 then 35 else 28) [some (.ref 0), some (.int a), some (.int b), some (.int r0)] [] M v M' 0 0 := Ev.back 1 (fun n => rfl) H
  by_cases h1 : r = 0
  · rw [if_pos h1] at H
    have H : Ev none e 120 36 [some (.ref 0), some (.int a), some (.int b), some (.int r0)] [.ref 0] M v M' 0 0 := Ev.back 1 (fun n => rfl) H
    have H : Ev none e 120 39 [some (.ref 0), some (.int a), some (.int b), some (.int r0)] [.ref 1] M v M' 0 0 := Ev.back 1 (gs_3 rfl rfl (gf_u hS.1 qa_0 qr_0_0 qu_1 rfl)) H
    have H : Ev none e 120 40 [some (.ref 0), some (.int a), some (.int b), some (.int r0)] [.int 0, .ref 1] M v M' 0 0 := Ev.back 1 (fun n => rfl) H
    obtain ⟨N3, eN3⟩ : ∃ N, N = (wF M 1 1 0) := ⟨_, rfl⟩
    have hN3 : SQ N3 := by rw [eN3]; exact hS.kf
    have H : Ev none e 120 43 [some (.ref 0), some (.int a), some (.int b), some (.int r0)] [] N3 v M' 0 0 := by rw [eN3]; exact Ev.pfi rfl rfl rfl hS.1 qa_1 qi_1_1 H
    have H : Ev none e 120 44 [some (.ref 0), some (.int a), some (.int b), some (.int r0)] [.int r0] N3 v M' 0 0 := Ev.back 1 (fun n => rfl) H
    obtain ⟨z1, z2⟩ := Ev.retz rfl rfl H
    subst eN3
    exact Or.inl ⟨h1, z1, z2⟩
  · rw [if_neg h1] at H
    have H : Ev none e 120 31 [some (.ref 0), some (.int a), some (.int b), some (.int r0)] [.int b, .int a, .ref 0] M v M' 0 0 := Ev.back 3 (fun n => rfl) H
    obtain ⟨e1, rfl⟩ := Ev.dpos rfl rfl H
    obtain ⟨vK4, MK4, K4, H⟩ := Ev.callb (fun n_ => gs_7 rfl rfl (show gCal (.invokevirtual 384) 10 (.int b :: .int a :: .ref 0 :: []) M = some (.inr (121, [some (.ref 0), some (.int a), some (.int b), none, none], [])) from by show @cond (Option ((List Value × Mem) ⊕ (Nat × Lo × List Value))) (true && gRecv M (.ref 0) 10 && gRoom [] && true) (some (.inr (121, [some (.ref 0), some (.int a), some (.int b), none, none], []))) none = _; rw [recv_s hS.1 qa_0 qo_0]; rfl)) H
    have K4 : Ev none e1 121 0 [some (.ref 0), some (.int a), some (.int b), none, none] [] M vK4 MK4 0 0 := K4
    have HF := H
    exact Or.inr (⟨h1, ⟨e1, vK4, MK4, rfl, K4, HF⟩⟩)
theorem fit_34 {e : Nat} {M M' : Mem} {v : Option Value} {a b r0 r : Int32} (hS : SQ M) (H : Ev none e 120 34 [some (.ref 0), some (.int a), some (.int b), some (.int r0)] [.int r] M v M' 0 0) : v = some (.int r) ∧ M' = (wF M 1 1 0) := by
  have H : Ev none e 120 36 [some (.ref 0), some (.int a), some (.int b), some (.int r)] [.ref 0] M v M' 0 0 := Ev.back 2 (fun n => rfl) H
  have H : Ev none e 120 39 [some (.ref 0), some (.int a), some (.int b), some (.int r)] [.ref 1] M v M' 0 0 := Ev.back 1 (gs_3 rfl rfl (gf_u hS.1 qa_0 qr_0_0 qu_1 rfl)) H
  have H : Ev none e 120 40 [some (.ref 0), some (.int a), some (.int b), some (.int r)] [.int 0, .ref 1] M v M' 0 0 := Ev.back 1 (fun n => rfl) H
  obtain ⟨N2, eN2⟩ : ∃ N, N = (wF M 1 1 0) := ⟨_, rfl⟩
  have hN2 : SQ N2 := by rw [eN2]; exact hS.kf
  have H : Ev none e 120 43 [some (.ref 0), some (.int a), some (.int b), some (.int r)] [] N2 v M' 0 0 := by rw [eN2]; exact Ev.pfi rfl rfl rfl hS.1 qa_1 qi_1_1 H
  have H : Ev none e 120 44 [some (.ref 0), some (.int a), some (.int b), some (.int r)] [.int r] N2 v M' 0 0 := Ev.back 1 (fun n => rfl) H
  obtain ⟨z1, z2⟩ := Ev.retz rfl rfl H
  subst eN2
  exact ⟨z1, z2⟩
theorem ftg_0 {e : Nat} {M M' : Mem} {v : Option Value} {a b : Int32} (hS : SQ M) (hLd : fR M 0 2 = 8) (H : Ev none e 121 0 [some (.ref 0), some (.int a), some (.int b), none, none] [] M v M' 0 0) : (∃ e1 v1 M1, e = e1 + 1 ∧ Ev none e1 54 0 [some (.ref 104), some (.ref 8)] [] M v1 M1 0 0 ∧ Ev none e 121 13 [some (.ref 0), some (.int a), some (.int b), some (.int 0), none] (v1.toList ++ []) M1 v M' 0 0) := by
  have H : Ev none e 121 3 [some (.ref 0), some (.int a), some (.int b), some (.int 0), none] [.ref 0] M v M' 0 0 := Ev.back 3 (fun n => rfl) H
  have H : Ev none e 121 6 [some (.ref 0), some (.int a), some (.int b), some (.int 0), none] [.ref 104] M v M' 0 0 := Ev.back 1 (gs_3 rfl rfl (gf_u hS.1 qa_0 qr_0_3 qu_22 rfl)) H
  have H : Ev none e 121 7 [some (.ref 0), some (.int a), some (.int b), some (.int 0), none] [.ref 0, .ref 104] M v M' 0 0 := Ev.back 1 (fun n => rfl) H
  have H : Ev none e 121 10 [some (.ref 0), some (.int a), some (.int b), some (.int 0), none] [.ref (fR M 0 2), .ref 104] M v M' 0 0 := Ev.back 1 (gs_3 rfl rfl (gf_r hS.1 qa_0 qr_0_2 rfl)) H
  rw [hLd] at H
  obtain ⟨e1, rfl⟩ := Ev.dpos rfl rfl H
  obtain ⟨vK1, MK1, K1, H⟩ := Ev.callb (fun n_ => gs_7 rfl rfl (show gCal (.invokevirtual 197) 10 (.ref 8 :: .ref 104 :: []) M = some (.inr (54, [some (.ref 104), some (.ref 8)], [])) from by show @cond (Option ((List Value × Mem) ⊕ (Nat × Lo × List Value))) (true && gRecv M (.ref 104) 7 && gRoom [] && true) (some (.inr (54, [some (.ref 104), some (.ref 8)], []))) none = _; rw [recv_s hS.1 qa_104 qo_22]; rfl)) H
  have K1 : Ev none e1 54 0 [some (.ref 104), some (.ref 8)] [] M vK1 MK1 0 0 := K1
  have HF := H
  exact ⟨e1, vK1, MK1, rfl, K1, HF⟩
theorem ftg_13 {e : Nat} {M M' : Mem} {v : Option Value} {a b s : Int32} (hS : SQ M) (H : Ev none e 121 13 [some (.ref 0), some (.int a), some (.int b), some (.int s), none] [] M v M' 0 0) : Ev none e 121 16 [some (.ref 0), some (.int a), some (.int b), some (.int s), some (.int 0)] [] M v M' 0 0 := by
  have H : Ev none e 121 16 [some (.ref 0), some (.int a), some (.int b), some (.int s), some (.int 0)] [] M v M' 0 0 := Ev.back 2 (fun n => rfl) H
  have HF := H
  exact HF
theorem ftg_16 {e : Nat} {M M' : Mem} {v : Option Value} {a b s h : Int32} (hS : SQ M) (H : Ev none e 121 16 [some (.ref 0), some (.int a), some (.int b), some (.int s), some (.int h)] [] M v M' 0 0) : (6 ≤ h ∧ v = some (.int s) ∧ M' = M) ∨ (¬ (6 ≤ h) ∧ (∃ e1 v1 M1, e = e1 + 1 ∧ Ev none e1 65 0 [some (.ref 104), some (.int a), some (.int b), some (.int h), some (.ref (fR M 0 10)), none, none, none] [] M v1 M1 0 0 ∧ Ev none e 121 38 [some (.ref 0), some (.int a), some (.int b), some (.int s), some (.int h)] (v1.toList ++ []) M1 v M' 0 0)) := by
  have H : Ev none e 121 (if 6 ≤ h then 76 else 23) [some (.ref 0), some (.int a), some (.int b), some (.int s), some (.int h)] [] M v M' 0 0 := Ev.back 3 (fun n => rfl) H
  by_cases h1 : 6 ≤ h
  · rw [if_pos h1] at H
    have H : Ev none e 121 77 [some (.ref 0), some (.int a), some (.int b), some (.int s), some (.int h)] [.int s] M v M' 0 0 := Ev.back 1 (fun n => rfl) H
    obtain ⟨z1, z2⟩ := Ev.retz rfl rfl H
    exact Or.inl ⟨h1, z1, z2⟩
  · rw [if_neg h1] at H
    have H : Ev none e 121 24 [some (.ref 0), some (.int a), some (.int b), some (.int s), some (.int h)] [.ref 0] M v M' 0 0 := Ev.back 1 (fun n => rfl) H
    have H : Ev none e 121 27 [some (.ref 0), some (.int a), some (.int b), some (.int s), some (.int h)] [.ref 104] M v M' 0 0 := Ev.back 1 (gs_3 rfl rfl (gf_u hS.1 qa_0 qr_0_3 qu_22 rfl)) H
    have H : Ev none e 121 32 [some (.ref 0), some (.int a), some (.int b), some (.int s), some (.int h)] [.ref 0, .int h, .int b, .int a, .ref 104] M v M' 0 0 := Ev.back 4 (fun n => rfl) H
    have H : Ev none e 121 35 [some (.ref 0), some (.int a), some (.int b), some (.int s), some (.int h)] [.ref (fR M 0 10), .int h, .int b, .int a, .ref 104] M v M' 0 0 := Ev.back 1 (gs_3 rfl rfl (gf_r hS.1 qa_0 qr_0_10 rfl)) H
    obtain ⟨e1, rfl⟩ := Ev.dpos rfl rfl H
    obtain ⟨vK2, MK2, K2, H⟩ := Ev.callb (fun n_ => gs_7 rfl rfl (show gCal (.invokevirtual 353) 10 (.ref (fR M 0 10) :: .int h :: .int b :: .int a :: .ref 104 :: []) M = some (.inr (65, [some (.ref 104), some (.int a), some (.int b), some (.int h), some (.ref (fR M 0 10)), none, none, none], [])) from by show @cond (Option ((List Value × Mem) ⊕ (Nat × Lo × List Value))) (true && gRecv M (.ref 104) 7 && gRoom [] && true) (some (.inr (65, [some (.ref 104), some (.int a), some (.int b), some (.int h), some (.ref (fR M 0 10)), none, none, none], []))) none = _; rw [recv_s hS.1 qa_104 qo_22]; rfl)) H
    have K2 : Ev none e1 65 0 [some (.ref 104), some (.int a), some (.int b), some (.int h), some (.ref (fR M 0 10)), none, none, none] [] M vK2 MK2 0 0 := K2
    have HF := H
    exact Or.inr (⟨h1, ⟨e1, vK2, MK2, rfl, K2, HF⟩⟩)
theorem ftg_38 {e : Nat} {M M' : Mem} {v : Option Value} {a b s h r : Int32} (hS : SQ M) (H : Ev none e 121 38 [some (.ref 0), some (.int a), some (.int b), some (.int s), some (.int h)] [.int r] M v M' 0 0) : ((zI M 104 11) = (zI M 1 1) ∧ (∃ e1 v1 M1, e = e1 + 1 ∧ Ev none e1 122 0 [some (.ref 0), none] [] M v1 M1 0 0 ∧ Ev none e 121 60 [some (.ref 0), some (.int a), some (.int b), some (.int s), some (.int h)] (v1.toList ++ []) M1 v M' 0 0)) ∨ (¬ ((zI M 104 11) = (zI M 1 1)) ∧ Ev none e 121 16 [some (.ref 0), some (.int a), some (.int b), some (.int s), some (.int (h + 1))] [] M v M' 0 0) := by
  have H : Ev none e 121 40 [some (.ref 0), some (.int a), some (.int b), some (.int s), some (.int h)] [.ref 0] M v M' 0 0 := Ev.back 2 (fun n => rfl) H
  have H : Ev none e 121 43 [some (.ref 0), some (.int a), some (.int b), some (.int s), some (.int h)] [.ref 104] M v M' 0 0 := Ev.back 1 (gs_3 rfl rfl (gf_u hS.1 qa_0 qr_0_3 qu_22 rfl)) H
  have H : Ev none e 121 46 [some (.ref 0), some (.int a), some (.int b), some (.int s), some (.int h)] [.int (zI M 104 11)] M v M' 0 0 := Ev.back 1 (gs_3 rfl rfl (gf_i hS.1 qa_104 qi_22_11 rfl)) H
  have H : Ev none e 121 47 [some (.ref 0), some (.int a), some (.int b), some (.int s), some (.int h)] [.ref 0, .int (zI M 104 11)] M v M' 0 0 := Ev.back 1 (fun n => rfl) H
  have H : Ev none e 121 50 [some (.ref 0), some (.int a), some (.int b), some (.int s), some (.int h)] [.ref 1, .int (zI M 104 11)] M v M' 0 0 := Ev.back 1 (gs_3 rfl rfl (gf_u hS.1 qa_0 qr_0_0 qu_1 rfl)) H
  have H : Ev none e 121 53 [some (.ref 0), some (.int a), some (.int b), some (.int s), some (.int h)] [.int (zI M 1 1), .int (zI M 104 11)] M v M' 0 0 := Ev.back 1 (gs_3 rfl rfl (gf_i hS.1 qa_1 qi_1_1 rfl)) H
  have H : Ev none e 121 (if (zI M 104 11) = (zI M 1 1) then 56 else 70) [some (.ref 0), some (.int a), some (.int b), some (.int s), some (.int h)] [] M v M' 0 0 := Ev.back 1 (fun n => rfl) H
  by_cases h1 : (zI M 104 11) = (zI M 1 1)
  · rw [if_pos h1] at H
    have H : Ev none e 121 57 [some (.ref 0), some (.int a), some (.int b), some (.int s), some (.int h)] [.ref 0] M v M' 0 0 := Ev.back 1 (fun n => rfl) H
    obtain ⟨e1, rfl⟩ := Ev.dpos rfl rfl H
    obtain ⟨vK2, MK2, K2, H⟩ := Ev.callb (fun n_ => gs_7 rfl rfl (show gCal (.invokevirtual 387) 10 (.ref 0 :: []) M = some (.inr (122, [some (.ref 0), none], [])) from by show @cond (Option ((List Value × Mem) ⊕ (Nat × Lo × List Value))) (true && gRecv M (.ref 0) 10 && gRoom [] && true) (some (.inr (122, [some (.ref 0), none], []))) none = _; rw [recv_s hS.1 qa_0 qo_0]; rfl)) H
    have K2 : Ev none e1 122 0 [some (.ref 0), none] [] M vK2 MK2 0 0 := K2
    have HF := H
    exact Or.inl ⟨h1, ⟨e1, vK2, MK2, rfl, K2, HF⟩⟩
  · rw [if_neg h1] at H
    have H : Ev none e 121 16 [some (.ref 0), some (.int a), some (.int b), some (.int s), some (.int (h + 1))] [] M v M' 0 0 := Ev.back 2 (fun n => rfl) H
    have HF := H
    exact Or.inr (⟨h1, HF⟩)
theorem ftg_60 {e : Nat} {M M' : Mem} {v : Option Value} {a b s h r : Int32} (hS : SQ M) (H : Ev none e 121 60 [some (.ref 0), some (.int a), some (.int b), some (.int s), some (.int h)] [.int r] M v M' 0 0) : (r = 0 ∧ Ev none e 121 16 [some (.ref 0), some (.int a), some (.int b), some (.int s), some (.int (h + 1))] [] M v M' 0 0) ∨ (¬ (r = 0) ∧ Ev none e 121 16 [some (.ref 0), some (.int a), some (.int b), some (.int (s ||| ((1 : Int32) <<< (h &&& 31)))), some (.int (h + 1))] [] M v M' 0 0) := by
  have H : Ev none e 121 (if r = 0 then 70 else 63) [some (.ref 0), some (.int a), some (.int b), some (.int s), some (.int h)] [] M v M' 0 0 := Ev.back 1 (fun n => rfl) H
  by_cases h1 : r = 0
  · rw [if_pos h1] at H
    have H : Ev none e 121 16 [some (.ref 0), some (.int a), some (.int b), some (.int s), some (.int (h + 1))] [] M v M' 0 0 := Ev.back 2 (fun n => rfl) H
    have HF := H
    exact Or.inl ⟨h1, HF⟩
  · rw [if_neg h1] at H
    have H : Ev none e 121 16 [some (.ref 0), some (.int a), some (.int b), some (.int (s ||| ((1 : Int32) <<< (h &&& 31)))), some (.int (h + 1))] [] M v M' 0 0 := Ev.back 8 (fun n => rfl) H
    have HF := H
    exact Or.inr (⟨h1, HF⟩)
