/-! THE CLASS'S other calls: pieces (made by gwal5.py) -/
theorem net_0 {e : Nat} {M M' : Mem} {v : Option Value} (hS : SQ M) (hLd : fR M 0 2 = 8) (H : Ev none e 97 0 [some (.ref 0)] [] M v M' 0 0) : (∃ e1 v1 M1, e = e1 + 1 ∧ Ev none e1 54 0 [some (.ref 104), some (.ref 8)] [] M v1 M1 0 0 ∧ Ev none e 97 11 [some (.ref 0)] (v1.toList ++ []) M1 v M' 0 0) := by
  have H : Ev none e 97 1 [some (.ref 0)] [.ref 0] M v M' 0 0 := Ev.back 1 (fun n => rfl) H
  have H : Ev none e 97 4 [some (.ref 0)] [.ref 104] M v M' 0 0 := Ev.back 1 (gs_3 rfl rfl (gf_u hS.1 qa_0 qr_0_3 qu_22 rfl)) H
  have H : Ev none e 97 5 [some (.ref 0)] [.ref 0, .ref 104] M v M' 0 0 := Ev.back 1 (fun n => rfl) H
  have H : Ev none e 97 8 [some (.ref 0)] [.ref (fR M 0 2), .ref 104] M v M' 0 0 := Ev.back 1 (gs_3 rfl rfl (gf_r hS.1 qa_0 qr_0_2 rfl)) H
  rw [hLd] at H
  obtain ⟨e1, rfl⟩ := Ev.dpos rfl rfl H
  obtain ⟨vK1, MK1, K1, H⟩ := Ev.callb (fun n_ => gs_7 rfl rfl (show gCal (.invokevirtual 197) 10 (.ref 8 :: .ref 104 :: []) M = some (.inr (54, [some (.ref 104), some (.ref 8)], [])) from by show @cond (Option ((List Value × Mem) ⊕ (Nat × Lo × List Value))) (true && gRecv M (.ref 104) 7 && gRoom [] && true) (some (.inr (54, [some (.ref 104), some (.ref 8)], []))) none = _; rw [recv_s hS.1 qa_104 qo_22]; rfl)) H
  have K1 : Ev none e1 54 0 [some (.ref 104), some (.ref 8)] [] M vK1 MK1 0 0 := K1
  have HF := H
  exact ⟨e1, vK1, MK1, rfl, K1, HF⟩
theorem net_11 {e : Nat} {M M' : Mem} {v : Option Value} (hS : SQ M) (H : Ev none e 97 11 [some (.ref 0)] [] M v M' 0 0) : (∃ e1 v1 M1, e = e1 + 1 ∧ Ev none e1 57 0 [some (.ref 104), none, none] [] M v1 M1 0 0 ∧ Ev none e 97 18 [some (.ref 0)] (v1.toList ++ []) M1 v M' 0 0) := by
  have H : Ev none e 97 12 [some (.ref 0)] [.ref 0] M v M' 0 0 := Ev.back 1 (fun n => rfl) H
  have H : Ev none e 97 15 [some (.ref 0)] [.ref 104] M v M' 0 0 := Ev.back 1 (gs_3 rfl rfl (gf_u hS.1 qa_0 qr_0_3 qu_22 rfl)) H
  obtain ⟨e1, rfl⟩ := Ev.dpos rfl rfl H
  obtain ⟨vK1, MK1, K1, H⟩ := Ev.callb (fun n_ => gs_7 rfl rfl (show gCal (.invokevirtual 207) 10 (.ref 104 :: []) M = some (.inr (57, [some (.ref 104), none, none], [])) from by show @cond (Option ((List Value × Mem) ⊕ (Nat × Lo × List Value))) (true && gRecv M (.ref 104) 7 && gRoom [] && true) (some (.inr (57, [some (.ref 104), none, none], []))) none = _; rw [recv_s hS.1 qa_104 qo_22]; rfl)) H
  have K1 : Ev none e1 57 0 [some (.ref 104), none, none] [] M vK1 MK1 0 0 := K1
  have HF := H
  exact ⟨e1, vK1, MK1, rfl, K1, HF⟩
theorem net_18 {e : Nat} {M M' : Mem} {v : Option Value} {r : Int32} (hS : SQ M) (H : Ev none e 97 18 [some (.ref 0)] [.int r] M v M' 0 0) : v = some (.int r) ∧ M' = M := by
  obtain ⟨z1, z2⟩ := Ev.retz rfl rfl H
  exact ⟨z1, z2⟩
theorem pcs_0 {e : Nat} {M M' : Mem} {v : Option Value} (hS : SQ M) (hLd : fR M 0 2 = 8) (H : Ev none e 98 0 [some (.ref 0)] [] M v M' 0 0) : (∃ e1 v1 M1, e = e1 + 1 ∧ Ev none e1 54 0 [some (.ref 104), some (.ref 8)] [] M v1 M1 0 0 ∧ Ev none e 98 11 [some (.ref 0)] (v1.toList ++ []) M1 v M' 0 0) := by
  have H : Ev none e 98 1 [some (.ref 0)] [.ref 0] M v M' 0 0 := Ev.back 1 (fun n => rfl) H
  have H : Ev none e 98 4 [some (.ref 0)] [.ref 104] M v M' 0 0 := Ev.back 1 (gs_3 rfl rfl (gf_u hS.1 qa_0 qr_0_3 qu_22 rfl)) H
  have H : Ev none e 98 5 [some (.ref 0)] [.ref 0, .ref 104] M v M' 0 0 := Ev.back 1 (fun n => rfl) H
  have H : Ev none e 98 8 [some (.ref 0)] [.ref (fR M 0 2), .ref 104] M v M' 0 0 := Ev.back 1 (gs_3 rfl rfl (gf_r hS.1 qa_0 qr_0_2 rfl)) H
  rw [hLd] at H
  obtain ⟨e1, rfl⟩ := Ev.dpos rfl rfl H
  obtain ⟨vK1, MK1, K1, H⟩ := Ev.callb (fun n_ => gs_7 rfl rfl (show gCal (.invokevirtual 197) 10 (.ref 8 :: .ref 104 :: []) M = some (.inr (54, [some (.ref 104), some (.ref 8)], [])) from by show @cond (Option ((List Value × Mem) ⊕ (Nat × Lo × List Value))) (true && gRecv M (.ref 104) 7 && gRoom [] && true) (some (.inr (54, [some (.ref 104), some (.ref 8)], []))) none = _; rw [recv_s hS.1 qa_104 qo_22]; rfl)) H
  have K1 : Ev none e1 54 0 [some (.ref 104), some (.ref 8)] [] M vK1 MK1 0 0 := K1
  have HF := H
  exact ⟨e1, vK1, MK1, rfl, K1, HF⟩
theorem pcs_11 {e : Nat} {M M' : Mem} {v : Option Value} (hS : SQ M) (H : Ev none e 98 11 [some (.ref 0)] [] M v M' 0 0) : (∃ e1 v1 M1, e = e1 + 1 ∧ Ev none e1 18 0 [some (.ref 192), none, none, none] [] M v1 M1 0 0 ∧ Ev none e 98 18 [some (.ref 0)] (v1.toList ++ []) M1 v M' 0 0) := by
  have H : Ev none e 98 12 [some (.ref 0)] [.ref 0] M v M' 0 0 := Ev.back 1 (fun n => rfl) H
  have H : Ev none e 98 15 [some (.ref 0)] [.ref 192] M v M' 0 0 := Ev.back 1 (gs_3 rfl rfl (gf_u hS.1 qa_0 qr_0_4 qu_41 rfl)) H
  obtain ⟨e1, rfl⟩ := Ev.dpos rfl rfl H
  obtain ⟨vK1, MK1, K1, H⟩ := Ev.callb (fun n_ => gs_7 rfl rfl (show gCal (.invokevirtual 284) 10 (.ref 192 :: []) M = some (.inr (18, [some (.ref 192), none, none, none], [])) from by show @cond (Option ((List Value × Mem) ⊕ (Nat × Lo × List Value))) (true && gRecv M (.ref 192) 2 && gRoom [] && true) (some (.inr (18, [some (.ref 192), none, none, none], []))) none = _; rw [recv_s hS.1 qa_192 qo_41]; rfl)) H
  have K1 : Ev none e1 18 0 [some (.ref 192), none, none, none] [] M vK1 MK1 0 0 := K1
  have HF := H
  exact ⟨e1, vK1, MK1, rfl, K1, HF⟩
theorem pcs_18 {e : Nat} {M M' : Mem} {v : Option Value} {r : Int32} (hS : SQ M) (H : Ev none e 98 18 [some (.ref 0)] [.int r] M v M' 0 0) : v = some (.int r) ∧ M' = M := by
  obtain ⟨z1, z2⟩ := Ev.retz rfl rfl H
  exact ⟨z1, z2⟩
theorem rsc_0 {e : Nat} {M M' : Mem} {v : Option Value} {w t : Int32} (hS : SQ M) (H : Ev none e 99 0 [some (.ref 0), some (.int w), some (.int t), none] [] M v M' 0 0) : ((G_126 M w 1 40) = 0 ∧ v = some (.int (-2)) ∧ M' = M) ∨ (¬ ((G_126 M w 1 40) = 0) ∧ (G_126 M t 1 200) = 0 ∧ v = some (.int (-2)) ∧ M' = M) ∨ (¬ ((G_126 M w 1 40) = 0) ∧ ¬ ((G_126 M t 1 200) = 0) ∧ (∃ e1 v1 M1, e = e1 + 1 ∧ Ev none e1 133 0 [some (.ref 0)] [] M v1 M1 0 0 ∧ Ev none e 99 28 [some (.ref 0), some (.int w), some (.int t), none] (v1.toList ++ []) M1 v M' 0 0)) := by
  have H : Ev none e 99 4 [some (.ref 0), some (.int w), some (.int t), none] [.int 40, .int 1, .int w] M v M' 0 0 := Ev.back 3 (fun n => rfl) H
  obtain ⟨e1, rfl⟩ := Ev.dpos rfl rfl H
  obtain ⟨vK1, MK1, K1, H⟩ := Ev.callb (fun n => rfl) H
  obtain ⟨pK1, qK1⟩ := g_126 hS K1
  rw [pK1, qK1] at H
  have H : Ev none (e1 + 1) 99 7 [some (.ref 0), some (.int w), some (.int t), none] [.int (G_126 M w 1 40)] M v M' 0 0 := H
  have H : Ev none (e1 + 1) 99 (if (G_126 M w 1 40) = 0 then 21 else 10) [some (.ref 0), some (.int w), some (.int t), none] [] M v M' 0 0 := Ev.back 1 (fun n => rfl) H
  by_cases h2 : (G_126 M w 1 40) = 0
  · rw [if_pos h2] at H
    have H : Ev none (e1 + 1) 99 23 [some (.ref 0), some (.int w), some (.int t), none] [.int (-2)] M v M' 0 0 := Ev.back 1 (fun n => rfl) H
    obtain ⟨z1, z2⟩ := Ev.retz rfl rfl H
    exact Or.inl ⟨h2, z1, z2⟩
  · rw [if_neg h2] at H
    have H : Ev none (e1 + 1) 99 15 [some (.ref 0), some (.int w), some (.int t), none] [.int 200, .int 1, .int t] M v M' 0 0 := Ev.back 3 (fun n => rfl) H
    obtain ⟨vK3, MK3, K3, H⟩ := Ev.callb (fun n => rfl) H
    obtain ⟨pK3, qK3⟩ := g_126 hS K3
    rw [pK3, qK3] at H
    have H : Ev none (e1 + 1) 99 18 [some (.ref 0), some (.int w), some (.int t), none] [.int (G_126 M t 1 200)] M v M' 0 0 := H
    have H : Ev none (e1 + 1) 99 (if (G_126 M t 1 200) = 0 then 21 else 24) [some (.ref 0), some (.int w), some (.int t), none] [] M v M' 0 0 := Ev.back 1 (fun n => rfl) H
    by_cases h4 : (G_126 M t 1 200) = 0
    · rw [if_pos h4] at H
      have H : Ev none (e1 + 1) 99 23 [some (.ref 0), some (.int w), some (.int t), none] [.int (-2)] M v M' 0 0 := Ev.back 1 (fun n => rfl) H
      obtain ⟨z1, z2⟩ := Ev.retz rfl rfl H
      exact Or.inr (Or.inl ⟨h2, h4, z1, z2⟩)
    · rw [if_neg h4] at H
      have H : Ev none (e1 + 1) 99 25 [some (.ref 0), some (.int w), some (.int t), none] [.ref 0] M v M' 0 0 := Ev.back 1 (fun n => rfl) H
      obtain ⟨vK5, MK5, K5, H⟩ := Ev.callb (fun n_ => gs_7 rfl rfl (show gCal (.invokevirtual 287) 10 (.ref 0 :: []) M = some (.inr (133, [some (.ref 0)], [])) from by show @cond (Option ((List Value × Mem) ⊕ (Nat × Lo × List Value))) (true && gRecv M (.ref 0) 10 && gRoom [] && true) (some (.inr (133, [some (.ref 0)], []))) none = _; rw [recv_s hS.1 qa_0 qo_0]; rfl)) H
      have K5 : Ev none e1 133 0 [some (.ref 0)] [] M vK5 MK5 0 0 := K5
      have HF := H
      exact Or.inr (Or.inr (⟨h2, h4, ⟨e1, vK5, MK5, rfl, K5, HF⟩⟩))
theorem rsc_28 {e : Nat} {M M' : Mem} {v : Option Value} {w t : Int32} (hS : SQ M) (H : Ev none e 99 28 [some (.ref 0), some (.int w), some (.int t), none] [] M v M' 0 0) : (∃ e1 v1 M1, e = e1 + 1 ∧ Ev none e1 15 0 [some (.ref 192), some (.int 0), none] [] M v1 M1 0 0 ∧ Ev none e 99 36 [some (.ref 0), some (.int w), some (.int t), none] (v1.toList ++ []) M1 v M' 0 0) := by
  have H : Ev none e 99 29 [some (.ref 0), some (.int w), some (.int t), none] [.ref 0] M v M' 0 0 := Ev.back 1 (fun n => rfl) H
  have H : Ev none e 99 32 [some (.ref 0), some (.int w), some (.int t), none] [.ref 192] M v M' 0 0 := Ev.back 1 (gs_3 rfl rfl (gf_u hS.1 qa_0 qr_0_4 qu_41 rfl)) H
  have H : Ev none e 99 33 [some (.ref 0), some (.int w), some (.int t), none] [.int 0, .ref 192] M v M' 0 0 := Ev.back 1 (fun n => rfl) H
  obtain ⟨e1, rfl⟩ := Ev.dpos rfl rfl H
  obtain ⟨vK1, MK1, K1, H⟩ := Ev.callb (fun n_ => gs_7 rfl rfl (show gCal (.invokevirtual 290) 10 (.int 0 :: .ref 192 :: []) M = some (.inr (15, [some (.ref 192), some (.int 0), none], [])) from by show @cond (Option ((List Value × Mem) ⊕ (Nat × Lo × List Value))) (true && gRecv M (.ref 192) 2 && gRoom [] && true) (some (.inr (15, [some (.ref 192), some (.int 0), none], []))) none = _; rw [recv_s hS.1 qa_192 qo_41]; rfl)) H
  have K1 : Ev none e1 15 0 [some (.ref 192), some (.int 0), none] [] M vK1 MK1 0 0 := K1
  have HF := H
  exact ⟨e1, vK1, MK1, rfl, K1, HF⟩
theorem rsc_36 {e : Nat} {M M' : Mem} {v : Option Value} {w t : Int32} (hS : SQ M) (H : Ev none e 99 36 [some (.ref 0), some (.int w), some (.int t), none] [] M v M' 0 0) : Ev none e 99 38 [some (.ref 0), some (.int w), some (.int t), some (.int 1)] [] M v M' 0 0 := by
  have H : Ev none e 99 38 [some (.ref 0), some (.int w), some (.int t), some (.int 1)] [] M v M' 0 0 := Ev.back 2 (fun n => rfl) H
  have HF := H
  exact HF
theorem rsc_38 {e : Nat} {M M' : Mem} {v : Option Value} {w t n : Int32} (hS : SQ M) (H : Ev none e 99 38 [some (.ref 0), some (.int w), some (.int t), some (.int n)] [] M v M' 0 0) : (w < n ∧ v = some (.int (-1)) ∧ M' = M) ∨ (¬ (w < n) ∧ (∃ e1 v1 M1, e = e1 + 1 ∧ Ev none e1 134 0 [some (.ref 0), some (.int t)] [] M v1 M1 0 0 ∧ Ev none e 99 48 [some (.ref 0), some (.int w), some (.int t), some (.int n)] (v1.toList ++ []) M1 v M' 0 0)) := by
  have H : Ev none e 99 (if w < n then 88 else 43) [some (.ref 0), some (.int w), some (.int t), some (.int n)] [] M v M' 0 0 := Ev.back 3 (fun n => rfl) H
  by_cases h1 : w < n
  · rw [if_pos h1] at H
    have H : Ev none e 99 89 [some (.ref 0), some (.int w), some (.int t), some (.int n)] [.int (-1)] M v M' 0 0 := Ev.back 1 (fun n => rfl) H
    obtain ⟨z1, z2⟩ := Ev.retz rfl rfl H
    exact Or.inl ⟨h1, z1, z2⟩
  · rw [if_neg h1] at H
    have H : Ev none e 99 45 [some (.ref 0), some (.int w), some (.int t), some (.int n)] [.int t, .ref 0] M v M' 0 0 := Ev.back 2 (fun n => rfl) H
    obtain ⟨e1, rfl⟩ := Ev.dpos rfl rfl H
    obtain ⟨vK2, MK2, K2, H⟩ := Ev.callb (fun n_ => gs_7 rfl rfl (show gCal (.invokevirtual 293) 10 (.int t :: .ref 0 :: []) M = some (.inr (134, [some (.ref 0), some (.int t)], [])) from by show @cond (Option ((List Value × Mem) ⊕ (Nat × Lo × List Value))) (true && gRecv M (.ref 0) 10 && gRoom [] && true) (some (.inr (134, [some (.ref 0), some (.int t)], []))) none = _; rw [recv_s hS.1 qa_0 qo_0]; rfl)) H
    have K2 : Ev none e1 134 0 [some (.ref 0), some (.int t)] [] M vK2 MK2 0 0 := K2
    have HF := H
    exact Or.inr (⟨h1, ⟨e1, vK2, MK2, rfl, K2, HF⟩⟩)
theorem rsc_48 {e : Nat} {M M' : Mem} {v : Option Value} {w t n : Int32} (hS : SQ M) (H : Ev none e 99 48 [some (.ref 0), some (.int w), some (.int t), some (.int n)] [] M v M' 0 0) : (∃ e1 v1 M1, e = e1 + 1 ∧ Ev none e1 15 0 [some (.ref 192), some (.int (n &&& 1)), none] [] M v1 M1 0 0 ∧ Ev none e 99 58 [some (.ref 0), some (.int w), some (.int t), some (.int n)] (v1.toList ++ []) M1 v M' 0 0) := by
  have H : Ev none e 99 49 [some (.ref 0), some (.int w), some (.int t), some (.int n)] [.ref 0] M v M' 0 0 := Ev.back 1 (fun n => rfl) H
  have H : Ev none e 99 52 [some (.ref 0), some (.int w), some (.int t), some (.int n)] [.ref 192] M v M' 0 0 := Ev.back 1 (gs_3 rfl rfl (gf_u hS.1 qa_0 qr_0_4 qu_41 rfl)) H
  have H : Ev none e 99 55 [some (.ref 0), some (.int w), some (.int t), some (.int n)] [.int (n &&& 1), .ref 192] M v M' 0 0 := Ev.back 3 (fun n => rfl) H
  obtain ⟨e1, rfl⟩ := Ev.dpos rfl rfl H
  obtain ⟨vK1, MK1, K1, H⟩ := Ev.callb (fun n_ => gs_7 rfl rfl (show gCal (.invokevirtual 290) 10 (.int (n &&& 1) :: .ref 192 :: []) M = some (.inr (15, [some (.ref 192), some (.int (n &&& 1)), none], [])) from by show @cond (Option ((List Value × Mem) ⊕ (Nat × Lo × List Value))) (true && gRecv M (.ref 192) 2 && gRoom [] && true) (some (.inr (15, [some (.ref 192), some (.int (n &&& 1)), none], []))) none = _; rw [recv_s hS.1 qa_192 qo_41]; rfl)) H
  have K1 : Ev none e1 15 0 [some (.ref 192), some (.int (n &&& 1)), none] [] M vK1 MK1 0 0 := K1
  have HF := H
  exact ⟨e1, vK1, MK1, rfl, K1, HF⟩
theorem rsc_58 {e : Nat} {M M' : Mem} {v : Option Value} {w t n : Int32} (hS : SQ M) (H : Ev none e 99 58 [some (.ref 0), some (.int w), some (.int t), some (.int n)] [] M v M' 0 0) : (∃ e1 v1 M1, e = e1 + 1 ∧ Ev none e1 17 0 [some (.ref 192), some (.int 0), some (.int 1), none, none] [] M v1 M1 0 0 ∧ Ev none e 99 67 [some (.ref 0), some (.int w), some (.int t), some (.int n)] (v1.toList ++ []) M1 v M' 0 0) := by
  have H : Ev none e 99 59 [some (.ref 0), some (.int w), some (.int t), some (.int n)] [.ref 0] M v M' 0 0 := Ev.back 1 (fun n => rfl) H
  have H : Ev none e 99 62 [some (.ref 0), some (.int w), some (.int t), some (.int n)] [.ref 192] M v M' 0 0 := Ev.back 1 (gs_3 rfl rfl (gf_u hS.1 qa_0 qr_0_4 qu_41 rfl)) H
  have H : Ev none e 99 64 [some (.ref 0), some (.int w), some (.int t), some (.int n)] [.int 1, .int 0, .ref 192] M v M' 0 0 := Ev.back 2 (fun n => rfl) H
  obtain ⟨e1, rfl⟩ := Ev.dpos rfl rfl H
  obtain ⟨vK1, MK1, K1, H⟩ := Ev.callb (fun n_ => gs_7 rfl rfl (show gCal (.invokevirtual 296) 10 (.int 1 :: .int 0 :: .ref 192 :: []) M = some (.inr (17, [some (.ref 192), some (.int 0), some (.int 1), none, none], [])) from by show @cond (Option ((List Value × Mem) ⊕ (Nat × Lo × List Value))) (true && gRecv M (.ref 192) 2 && gRoom [] && true) (some (.inr (17, [some (.ref 192), some (.int 0), some (.int 1), none, none], []))) none = _; rw [recv_s hS.1 qa_192 qo_41]; rfl)) H
  have K1 : Ev none e1 17 0 [some (.ref 192), some (.int 0), some (.int 1), none, none] [] M vK1 MK1 0 0 := K1
  have HF := H
  exact ⟨e1, vK1, MK1, rfl, K1, HF⟩
theorem rsc_67 {e : Nat} {M M' : Mem} {v : Option Value} {w t n p : Int32} (hS : SQ M) (H : Ev none e 99 67 [some (.ref 0), some (.int w), some (.int t), some (.int n)] [.int p] M v M' 0 0) : (∃ e1 v1 M1, e = e1 + 1 ∧ Ev none e1 17 0 [some (.ref 192), some (.int 1), some (.int 0), none, none] [] M v1 M1 0 0 ∧ Ev none e 99 76 [some (.ref 0), some (.int w), some (.int t), some (.int n)] (v1.toList ++ [.int p]) M1 v M' 0 0) := by
  have H : Ev none e 99 68 [some (.ref 0), some (.int w), some (.int t), some (.int n)] [.ref 0, .int p] M v M' 0 0 := Ev.back 1 (fun n => rfl) H
  have H : Ev none e 99 71 [some (.ref 0), some (.int w), some (.int t), some (.int n)] [.ref 192, .int p] M v M' 0 0 := Ev.back 1 (gs_3 rfl rfl (gf_u hS.1 qa_0 qr_0_4 qu_41 rfl)) H
  have H : Ev none e 99 73 [some (.ref 0), some (.int w), some (.int t), some (.int n)] [.int 0, .int 1, .ref 192, .int p] M v M' 0 0 := Ev.back 2 (fun n => rfl) H
  obtain ⟨e1, rfl⟩ := Ev.dpos rfl rfl H
  obtain ⟨vK1, MK1, K1, H⟩ := Ev.callb (fun n_ => gs_7 rfl rfl (show gCal (.invokevirtual 296) 10 (.int 0 :: .int 1 :: .ref 192 :: [.int p]) M = some (.inr (17, [some (.ref 192), some (.int 1), some (.int 0), none, none], [.int p])) from by show @cond (Option ((List Value × Mem) ⊕ (Nat × Lo × List Value))) (true && gRecv M (.ref 192) 2 && gRoom [.int p] && true) (some (.inr (17, [some (.ref 192), some (.int 1), some (.int 0), none, none], [.int p]))) none = _; rw [recv_s hS.1 qa_192 qo_41]; rfl)) H
  have K1 : Ev none e1 17 0 [some (.ref 192), some (.int 1), some (.int 0), none, none] [] M vK1 MK1 0 0 := K1
  have HF := H
  exact ⟨e1, vK1, MK1, rfl, K1, HF⟩
theorem rsc_76 {e : Nat} {M M' : Mem} {v : Option Value} {w t n p q : Int32} (hS : SQ M) (H : Ev none e 99 76 [some (.ref 0), some (.int w), some (.int t), some (.int n)] [.int q, .int p] M v M' 0 0) : ((p + q) = 0 ∧ v = some (.int n) ∧ M' = M) ∨ (¬ ((p + q) = 0) ∧ Ev none e 99 38 [some (.ref 0), some (.int w), some (.int t), some (.int (n + 1))] [] M v M' 0 0) := by
  have H : Ev none e 99 (if (p + q) = 0 then 80 else 82) [some (.ref 0), some (.int w), some (.int t), some (.int n)] [] M v M' 0 0 := Ev.back 2 (fun n => rfl) H
  by_cases h1 : (p + q) = 0
  · rw [if_pos h1] at H
    have H : Ev none e 99 81 [some (.ref 0), some (.int w), some (.int t), some (.int n)] [.int n] M v M' 0 0 := Ev.back 1 (fun n => rfl) H
    obtain ⟨z1, z2⟩ := Ev.retz rfl rfl H
    exact Or.inl ⟨h1, z1, z2⟩
  · rw [if_neg h1] at H
    have H : Ev none e 99 38 [some (.ref 0), some (.int w), some (.int t), some (.int (n + 1))] [] M v M' 0 0 := Ev.back 2 (fun n => rfl) H
    have HF := H
    exact Or.inr (⟨h1, HF⟩)
theorem lea_0 {e : Nat} {M M' : Mem} {v : Option Value} (hS : SQ M) (H : Ev none e 100 0 [some (.ref 0), none] [] M v M' 0 0) : (∃ e1 v1 M1, e = e1 + 1 ∧ Ev none e1 101 0 [some (.ref 0), none, none, none, none] [] M v1 M1 0 0 ∧ Ev none e 100 4 [some (.ref 0), none] (v1.toList ++ []) M1 v M' 0 0) := by
  have H : Ev none e 100 1 [some (.ref 0), none] [.ref 0] M v M' 0 0 := Ev.back 1 (fun n => rfl) H
  obtain ⟨e1, rfl⟩ := Ev.dpos rfl rfl H
  obtain ⟨vK1, MK1, K1, H⟩ := Ev.callb (fun n_ => gs_7 rfl rfl (show gCal (.invokevirtual 299) 10 (.ref 0 :: []) M = some (.inr (101, [some (.ref 0), none, none, none, none], [])) from by show @cond (Option ((List Value × Mem) ⊕ (Nat × Lo × List Value))) (true && gRecv M (.ref 0) 10 && gRoom [] && true) (some (.inr (101, [some (.ref 0), none, none, none, none], []))) none = _; rw [recv_s hS.1 qa_0 qo_0]; rfl)) H
  have K1 : Ev none e1 101 0 [some (.ref 0), none, none, none, none] [] M vK1 MK1 0 0 := K1
  have HF := H
  exact ⟨e1, vK1, MK1, rfl, K1, HF⟩
theorem lea_4 {e : Nat} {M M' : Mem} {v : Option Value} {r : Int32} (hS : SQ M) (H : Ev none e 100 4 [some (.ref 0), none] [.int r] M v M' 0 0) : v = some (.int r) ∧ M' = (wF M 1 1 0) := by
  have H : Ev none e 100 6 [some (.ref 0), some (.int r)] [.ref 0] M v M' 0 0 := Ev.back 2 (fun n => rfl) H
  have H : Ev none e 100 9 [some (.ref 0), some (.int r)] [.ref 1] M v M' 0 0 := Ev.back 1 (gs_3 rfl rfl (gf_u hS.1 qa_0 qr_0_0 qu_1 rfl)) H
  have H : Ev none e 100 10 [some (.ref 0), some (.int r)] [.int 0, .ref 1] M v M' 0 0 := Ev.back 1 (fun n => rfl) H
  obtain ⟨N2, eN2⟩ : ∃ N, N = (wF M 1 1 0) := ⟨_, rfl⟩
  have hN2 : SQ N2 := by rw [eN2]; exact hS.kf
  have H : Ev none e 100 13 [some (.ref 0), some (.int r)] [] N2 v M' 0 0 := by rw [eN2]; exact Ev.pfi rfl rfl rfl hS.1 qa_1 qi_1_1 H
  have H : Ev none e 100 14 [some (.ref 0), some (.int r)] [.int r] N2 v M' 0 0 := Ev.back 1 (fun n => rfl) H
  obtain ⟨z1, z2⟩ := Ev.retz rfl rfl H
  subst eN2
  exact ⟨z1, z2⟩
theorem lot_0 {e : Nat} {M M' : Mem} {v : Option Value} (hS : SQ M) (hLd : fR M 0 2 = 8) (H : Ev none e 101 0 [some (.ref 0), none, none, none, none] [] M v M' 0 0) : ((G_126 M (zI M 1 1) 2 6) = 0 ∧ v = some (.int (-2)) ∧ M' = M) ∨ (¬ ((G_126 M (zI M 1 1) 2 6) = 0) ∧ Ev none e 101 23 [some (.ref 0), some (.int (zI M 1 1)), some (.int 0), none, none] [] M v M' 0 0) := by
  have H : Ev none e 101 1 [some (.ref 0), none, none, none, none] [.ref 0] M v M' 0 0 := Ev.back 1 (fun n => rfl) H
  have H : Ev none e 101 4 [some (.ref 0), none, none, none, none] [.ref 1] M v M' 0 0 := Ev.back 1 (gs_3 rfl rfl (gf_u hS.1 qa_0 qr_0_0 qu_1 rfl)) H
  have H : Ev none e 101 7 [some (.ref 0), none, none, none, none] [.int (zI M 1 1)] M v M' 0 0 := Ev.back 1 (gs_3 rfl rfl (gf_i hS.1 qa_1 qi_1_1 rfl)) H
  have H : Ev none e 101 12 [some (.ref 0), some (.int (zI M 1 1)), none, none, none] [.int 6, .int 2, .int (zI M 1 1)] M v M' 0 0 := Ev.back 4 (fun n => rfl) H
  obtain ⟨e1, rfl⟩ := Ev.dpos rfl rfl H
  obtain ⟨vK1, MK1, K1, H⟩ := Ev.callb (fun n => rfl) H
  obtain ⟨pK1, qK1⟩ := g_126 hS K1
  rw [pK1, qK1] at H
  have H : Ev none (e1 + 1) 101 15 [some (.ref 0), some (.int (zI M 1 1)), none, none, none] [.int (G_126 M (zI M 1 1) 2 6)] M v M' 0 0 := H
  have H : Ev none (e1 + 1) 101 (if (G_126 M (zI M 1 1) 2 6) = 0 then 18 else 21) [some (.ref 0), some (.int (zI M 1 1)), none, none, none] [] M v M' 0 0 := Ev.back 1 (fun n => rfl) H
  by_cases h2 : (G_126 M (zI M 1 1) 2 6) = 0
  · rw [if_pos h2] at H
    have H : Ev none (e1 + 1) 101 20 [some (.ref 0), some (.int (zI M 1 1)), none, none, none] [.int (-2)] M v M' 0 0 := Ev.back 1 (fun n => rfl) H
    obtain ⟨z1, z2⟩ := Ev.retz rfl rfl H
    exact Or.inl ⟨h2, z1, z2⟩
  · rw [if_neg h2] at H
    have H : Ev none (e1 + 1) 101 23 [some (.ref 0), some (.int (zI M 1 1)), some (.int 0), none, none] [] M v M' 0 0 := Ev.back 2 (fun n => rfl) H
    have HF := H
    exact Or.inr (⟨h2, HF⟩)
theorem lot_23 {e : Nat} {M M' : Mem} {v : Option Value} {n i : Int32} {c3 c4 : Option Value} (hS : SQ M) (hLd : fR M 0 2 = 8) (H : Ev none e 101 23 [some (.ref 0), some (.int n), some (.int i), c3, c4] [] M v M' 0 0) : (n ≤ i ∧ (∃ e1 v1 M1, e = e1 + 1 ∧ Ev none e1 54 0 [some (.ref 104), some (.ref 8)] [] M v1 M1 0 0 ∧ Ev none e 101 115 [some (.ref 0), some (.int n), some (.int i), c3, c4] (v1.toList ++ []) M1 v M' 0 0)) ∨ (¬ (n ≤ i) ∧ (0 ≤ i.toInt ∧ i.toInt < 440) ∧ (∃ e1 v1 M1, e = e1 + 1 ∧ Ev none e1 128 0 [some (.ref 0), some (.int (rI M 2 i))] [] M v1 M1 0 0 ∧ Ev none e 101 43 [some (.ref 0), some (.int n), some (.int i), some (.int (rI M 2 i)), c4] (v1.toList ++ []) M1 v M' 0 0)) := by
  have H : Ev none e 101 (if n ≤ i then 104 else 28) [some (.ref 0), some (.int n), some (.int i), c3, c4] [] M v M' 0 0 := Ev.back 3 (fun n => rfl) H
  by_cases h1 : n ≤ i
  · rw [if_pos h1] at H
    have H : Ev none e 101 105 [some (.ref 0), some (.int n), some (.int i), c3, c4] [.ref 0] M v M' 0 0 := Ev.back 1 (fun n => rfl) H
    have H : Ev none e 101 108 [some (.ref 0), some (.int n), some (.int i), c3, c4] [.ref 104] M v M' 0 0 := Ev.back 1 (gs_3 rfl rfl (gf_u hS.1 qa_0 qr_0_3 qu_22 rfl)) H
    have H : Ev none e 101 109 [some (.ref 0), some (.int n), some (.int i), c3, c4] [.ref 0, .ref 104] M v M' 0 0 := Ev.back 1 (fun n => rfl) H
    have H : Ev none e 101 112 [some (.ref 0), some (.int n), some (.int i), c3, c4] [.ref (fR M 0 2), .ref 104] M v M' 0 0 := Ev.back 1 (gs_3 rfl rfl (gf_r hS.1 qa_0 qr_0_2 rfl)) H
    rw [hLd] at H
    obtain ⟨e1, rfl⟩ := Ev.dpos rfl rfl H
    obtain ⟨vK2, MK2, K2, H⟩ := Ev.callb (fun n_ => gs_7 rfl rfl (show gCal (.invokevirtual 197) 10 (.ref 8 :: .ref 104 :: []) M = some (.inr (54, [some (.ref 104), some (.ref 8)], [])) from by show @cond (Option ((List Value × Mem) ⊕ (Nat × Lo × List Value))) (true && gRecv M (.ref 104) 7 && gRoom [] && true) (some (.inr (54, [some (.ref 104), some (.ref 8)], []))) none = _; rw [recv_s hS.1 qa_104 qo_22]; rfl)) H
    have K2 : Ev none e1 54 0 [some (.ref 104), some (.ref 8)] [] M vK2 MK2 0 0 := K2
    have HF := H
    exact Or.inl ⟨h1, ⟨e1, vK2, MK2, rfl, K2, HF⟩⟩
  · rw [if_neg h1] at H
    have H : Ev none e 101 29 [some (.ref 0), some (.int n), some (.int i), c3, c4] [.ref 0] M v M' 0 0 := Ev.back 1 (fun n => rfl) H
    have H : Ev none e 101 32 [some (.ref 0), some (.int n), some (.int i), c3, c4] [.ref 1] M v M' 0 0 := Ev.back 1 (gs_3 rfl rfl (gf_u hS.1 qa_0 qr_0_0 qu_1 rfl)) H
    have H : Ev none e 101 35 [some (.ref 0), some (.int n), some (.int i), c3, c4] [.ref 2] M v M' 0 0 := Ev.back 1 (gs_3 rfl rfl (gf_u hS.1 qa_1 qr_1_0 qu_2 rfl)) H
    have H : Ev none e 101 36 [some (.ref 0), some (.int n), some (.int i), c3, c4] [.int i, .ref 2] M v M' 0 0 := Ev.back 1 (fun n => rfl) H
    obtain ⟨b3, H⟩ := Ev.ial rfl rfl hS.1 qa_2 qw_2 H
    have H : Ev none e 101 37 [some (.ref 0), some (.int n), some (.int i), c3, c4] [.int (rI M 2 i)] M v M' 0 0 := H
    have H : Ev none e 101 40 [some (.ref 0), some (.int n), some (.int i), some (.int (rI M 2 i)), c4] [.int (rI M 2 i), .ref 0] M v M' 0 0 := Ev.back 3 (fun n => rfl) H
    obtain ⟨e1, rfl⟩ := Ev.dpos rfl rfl H
    obtain ⟨vK4, MK4, K4, H⟩ := Ev.callb (fun n_ => gs_7 rfl rfl (show gCal (.invokevirtual 302) 10 (.int (rI M 2 i) :: .ref 0 :: []) M = some (.inr (128, [some (.ref 0), some (.int (rI M 2 i))], [])) from by show @cond (Option ((List Value × Mem) ⊕ (Nat × Lo × List Value))) (true && gRecv M (.ref 0) 10 && gRoom [] && true) (some (.inr (128, [some (.ref 0), some (.int (rI M 2 i))], []))) none = _; rw [recv_s hS.1 qa_0 qo_0]; rfl)) H
    have K4 : Ev none e1 128 0 [some (.ref 0), some (.int (rI M 2 i))] [] M vK4 MK4 0 0 := K4
    have HF := H
    exact Or.inr (⟨h1, b3, ⟨e1, vK4, MK4, rfl, K4, HF⟩⟩)
theorem lot_43 {e : Nat} {M M' : Mem} {v : Option Value} {n i d r : Int32} {c4 : Option Value} (hS : SQ M) (hLd : fR M 0 2 = 8) (H : Ev none e 101 43 [some (.ref 0), some (.int n), some (.int i), some (.int d), c4] [.int r] M v M' 0 0) : (r = 0 ∧ v = some (.int (-2)) ∧ M' = M) ∨ (¬ (r = 0) ∧ (0 ≤ d.toInt ∧ d.toInt < 9) ∧ (0 ≤ i.toInt ∧ i.toInt < 6) ∧ Ev none e 101 67 [some (.ref 0), some (.int n), some (.int i), some (.int d), some (.int 0)] [] (wI M 344 i.toNatClampNeg (rI M (8 + 9) d)) v M' 0 0) := by
  have H : Ev none e 101 (if r = 0 then 46 else 49) [some (.ref 0), some (.int n), some (.int i), some (.int d), c4] [] M v M' 0 0 := Ev.back 1 (fun n => rfl) H
  by_cases h1 : r = 0
  · rw [if_pos h1] at H
    have H : Ev none e 101 48 [some (.ref 0), some (.int n), some (.int i), some (.int d), c4] [.int (-2)] M v M' 0 0 := Ev.back 1 (fun n => rfl) H
    obtain ⟨z1, z2⟩ := Ev.retz rfl rfl H
    exact Or.inl ⟨h1, z1, z2⟩
  · rw [if_neg h1] at H
    have H : Ev none e 101 50 [some (.ref 0), some (.int n), some (.int i), some (.int d), c4] [.ref 0] M v M' 0 0 := Ev.back 1 (fun n => rfl) H
    have H : Ev none e 101 53 [some (.ref 0), some (.int n), some (.int i), some (.int d), c4] [.ref 344] M v M' 0 0 := Ev.back 1 (gs_3 rfl rfl (gf_u hS.1 qa_0 qr_0_12 qu_60 rfl)) H
    have H : Ev none e 101 55 [some (.ref 0), some (.int n), some (.int i), some (.int d), c4] [.ref 0, .int i, .ref 344] M v M' 0 0 := Ev.back 2 (fun n => rfl) H
    have H : Ev none e 101 58 [some (.ref 0), some (.int n), some (.int i), some (.int d), c4] [.ref (fR M 0 2), .int i, .ref 344] M v M' 0 0 := Ev.back 1 (gs_3 rfl rfl (gf_r hS.1 qa_0 qr_0_2 rfl)) H
    rw [hLd] at H
    have H : Ev none e 101 61 [some (.ref 0), some (.int n), some (.int i), some (.int d), c4] [.ref (8 + 9), .int i, .ref 344] M v M' 0 0 := Ev.back 1 (gs_3 rfl rfl (gf_x hS.1 qa_8 qo_8 (fx_l10 hS qa_8) rfl)) H
    have H : Ev none e 101 62 [some (.ref 0), some (.int n), some (.int i), some (.int d), c4] [.int d, .ref (8 + 9), .int i, .ref 344] M v M' 0 0 := Ev.back 1 (fun n => rfl) H
    obtain ⟨b2, H⟩ := Ev.ial rfl rfl hS.1 (fx_h10 qa_8) qw_17 H
    have H : Ev none e 101 63 [some (.ref 0), some (.int n), some (.int i), some (.int d), c4] [.int (rI M (8 + 9) d), .int i, .ref 344] M v M' 0 0 := H
    obtain ⟨b3, H⟩ := Ev.ias rfl rfl hS.1 qa_344 qw_60 H
    obtain ⟨N4, eN4⟩ : ∃ N, N = (wI M 344 i.toNatClampNeg (rI M (8 + 9) d)) := ⟨_, rfl⟩
    have hN4 : SQ N4 := by rw [eN4]; exact hS.ki
    have H : Ev none e 101 64 [some (.ref 0), some (.int n), some (.int i), some (.int d), c4] [] N4 v M' 0 0 := by rw [eN4]; exact H
    have H : Ev none e 101 67 [some (.ref 0), some (.int n), some (.int i), some (.int d), some (.int 0)] [] N4 v M' 0 0 := Ev.back 2 (fun n => rfl) H
    have HF := H
    subst eN4
    exact Or.inr (⟨h1, b2, b3, HF⟩)
theorem lot_67 {e : Nat} {M M' : Mem} {v : Option Value} {n i d j : Int32} (hS : SQ M) (hLd : fR M 0 2 = 8) (H : Ev none e 101 67 [some (.ref 0), some (.int n), some (.int i), some (.int d), some (.int j)] [] M v M' 0 0) : (i ≤ j ∧ Ev none e 101 23 [some (.ref 0), some (.int n), some (.int (i + 1)), some (.int d), some (.int j)] [] M v M' 0 0) ∨ (¬ (i ≤ j) ∧ (rI M 344 j) = (rI M 344 i) ∧ (0 ≤ j.toInt ∧ j.toInt < 6) ∧ (0 ≤ i.toInt ∧ i.toInt < 6) ∧ v = some (.int (-2)) ∧ M' = M) ∨ (¬ (i ≤ j) ∧ ¬ ((rI M 344 j) = (rI M 344 i)) ∧ (0 ≤ j.toInt ∧ j.toInt < 6) ∧ (0 ≤ i.toInt ∧ i.toInt < 6) ∧ Ev none e 101 67 [some (.ref 0), some (.int n), some (.int i), some (.int d), some (.int (j + 1))] [] M v M' 0 0) := by
  have H : Ev none e 101 (if i ≤ j then 98 else 73) [some (.ref 0), some (.int n), some (.int i), some (.int d), some (.int j)] [] M v M' 0 0 := Ev.back 3 (fun n => rfl) H
  by_cases h1 : i ≤ j
  · rw [if_pos h1] at H
    have H : Ev none e 101 23 [some (.ref 0), some (.int n), some (.int (i + 1)), some (.int d), some (.int j)] [] M v M' 0 0 := Ev.back 2 (fun n => rfl) H
    have HF := H
    exact Or.inl ⟨h1, HF⟩
  · rw [if_neg h1] at H
    have H : Ev none e 101 74 [some (.ref 0), some (.int n), some (.int i), some (.int d), some (.int j)] [.ref 0] M v M' 0 0 := Ev.back 1 (fun n => rfl) H
    have H : Ev none e 101 77 [some (.ref 0), some (.int n), some (.int i), some (.int d), some (.int j)] [.ref 344] M v M' 0 0 := Ev.back 1 (gs_3 rfl rfl (gf_u hS.1 qa_0 qr_0_12 qu_60 rfl)) H
    have H : Ev none e 101 79 [some (.ref 0), some (.int n), some (.int i), some (.int d), some (.int j)] [.int j, .ref 344] M v M' 0 0 := Ev.back 1 (fun n => rfl) H
    obtain ⟨b2, H⟩ := Ev.ial rfl rfl hS.1 qa_344 qw_60 H
    have H : Ev none e 101 80 [some (.ref 0), some (.int n), some (.int i), some (.int d), some (.int j)] [.int (rI M 344 j)] M v M' 0 0 := H
    have H : Ev none e 101 81 [some (.ref 0), some (.int n), some (.int i), some (.int d), some (.int j)] [.ref 0, .int (rI M 344 j)] M v M' 0 0 := Ev.back 1 (fun n => rfl) H
    have H : Ev none e 101 84 [some (.ref 0), some (.int n), some (.int i), some (.int d), some (.int j)] [.ref 344, .int (rI M 344 j)] M v M' 0 0 := Ev.back 1 (gs_3 rfl rfl (gf_u hS.1 qa_0 qr_0_12 qu_60 rfl)) H
    have H : Ev none e 101 85 [some (.ref 0), some (.int n), some (.int i), some (.int d), some (.int j)] [.int i, .ref 344, .int (rI M 344 j)] M v M' 0 0 := Ev.back 1 (fun n => rfl) H
    obtain ⟨b3, H⟩ := Ev.ial rfl rfl hS.1 qa_344 qw_60 H
    have H : Ev none e 101 86 [some (.ref 0), some (.int n), some (.int i), some (.int d), some (.int j)] [.int (rI M 344 i), .int (rI M 344 j)] M v M' 0 0 := H
    have H : Ev none e 101 (if (rI M 344 j) = (rI M 344 i) then 89 else 92) [some (.ref 0), some (.int n), some (.int i), some (.int d), some (.int j)] [] M v M' 0 0 := Ev.back 1 (fun n => rfl) H
    by_cases h4 : (rI M 344 j) = (rI M 344 i)
    · rw [if_pos h4] at H
      have H : Ev none e 101 91 [some (.ref 0), some (.int n), some (.int i), some (.int d), some (.int j)] [.int (-2)] M v M' 0 0 := Ev.back 1 (fun n => rfl) H
      obtain ⟨z1, z2⟩ := Ev.retz rfl rfl H
      exact Or.inr (Or.inl ⟨h1, h4, b2, b3, z1, z2⟩)
    · rw [if_neg h4] at H
      have H : Ev none e 101 67 [some (.ref 0), some (.int n), some (.int i), some (.int d), some (.int (j + 1))] [] M v M' 0 0 := Ev.back 2 (fun n => rfl) H
      have HF := H
      exact Or.inr (Or.inr (⟨h1, h4, b2, b3, HF⟩))
theorem lot_115 {e : Nat} {M M' : Mem} {v : Option Value} {n i : Int32} {c3 c4 : Option Value} (hS : SQ M) (H : Ev none e 101 115 [some (.ref 0), some (.int n), some (.int i), c3, c4] [] M v M' 0 0) : (∃ e1 v1 M1, e = e1 + 1 ∧ Ev none e1 21 0 [some (.ref 192), some (.ref 344), some (.int n), none, none, none, none] [] M v1 M1 0 0 ∧ Ev none e 101 127 [some (.ref 0), some (.int n), some (.int i), c3, c4] (v1.toList ++ []) M1 v M' 0 0) := by
  have H : Ev none e 101 116 [some (.ref 0), some (.int n), some (.int i), c3, c4] [.ref 0] M v M' 0 0 := Ev.back 1 (fun n => rfl) H
  have H : Ev none e 101 119 [some (.ref 0), some (.int n), some (.int i), c3, c4] [.ref 192] M v M' 0 0 := Ev.back 1 (gs_3 rfl rfl (gf_u hS.1 qa_0 qr_0_4 qu_41 rfl)) H
  have H : Ev none e 101 120 [some (.ref 0), some (.int n), some (.int i), c3, c4] [.ref 0, .ref 192] M v M' 0 0 := Ev.back 1 (fun n => rfl) H
  have H : Ev none e 101 123 [some (.ref 0), some (.int n), some (.int i), c3, c4] [.ref 344, .ref 192] M v M' 0 0 := Ev.back 1 (gs_3 rfl rfl (gf_u hS.1 qa_0 qr_0_12 qu_60 rfl)) H
  have H : Ev none e 101 124 [some (.ref 0), some (.int n), some (.int i), c3, c4] [.int n, .ref 344, .ref 192] M v M' 0 0 := Ev.back 1 (fun n => rfl) H
  obtain ⟨e1, rfl⟩ := Ev.dpos rfl rfl H
  obtain ⟨vK1, MK1, K1, H⟩ := Ev.callb (fun n_ => gs_7 rfl rfl (show gCal (.invokevirtual 305) 10 (.int n :: .ref 344 :: .ref 192 :: []) M = some (.inr (21, [some (.ref 192), some (.ref 344), some (.int n), none, none, none, none], [])) from by show @cond (Option ((List Value × Mem) ⊕ (Nat × Lo × List Value))) (true && gRecv M (.ref 192) 2 && gRoom [] && true) (some (.inr (21, [some (.ref 192), some (.ref 344), some (.int n), none, none, none, none], []))) none = _; rw [recv_s hS.1 qa_192 qo_41]; rfl)) H
  have K1 : Ev none e1 21 0 [some (.ref 192), some (.ref 344), some (.int n), none, none, none, none] [] M vK1 MK1 0 0 := K1
  have HF := H
  exact ⟨e1, vK1, MK1, rfl, K1, HF⟩
theorem lot_127 {e : Nat} {M M' : Mem} {v : Option Value} {n i r : Int32} {c3 c4 : Option Value} (hS : SQ M) (H : Ev none e 101 127 [some (.ref 0), some (.int n), some (.int i), c3, c4] [.int r] M v M' 0 0) : v = some (.int r) ∧ M' = M := by
  obtain ⟨z1, z2⟩ := Ev.retz rfl rfl H
  exact ⟨z1, z2⟩
theorem lon_0 {e : Nat} {M M' : Mem} {v : Option Value} {a b : Int32} (hS : SQ M) (H : Ev none e 102 0 [some (.ref 0), some (.int a), some (.int b)] [] M v M' 0 0) : (∃ e1 v1 M1, e = e1 + 1 ∧ Ev none e1 129 0 [some (.ref 0), some (.int a), some (.int b)] [] M v1 M1 0 0 ∧ Ev none e 102 6 [some (.ref 0), some (.int a), some (.int b)] (v1.toList ++ []) M1 v M' 0 0) := by
  have H : Ev none e 102 3 [some (.ref 0), some (.int a), some (.int b)] [.int b, .int a, .ref 0] M v M' 0 0 := Ev.back 3 (fun n => rfl) H
  obtain ⟨e1, rfl⟩ := Ev.dpos rfl rfl H
  obtain ⟨vK1, MK1, K1, H⟩ := Ev.callb (fun n_ => gs_7 rfl rfl (show gCal (.invokevirtual 162) 10 (.int b :: .int a :: .ref 0 :: []) M = some (.inr (129, [some (.ref 0), some (.int a), some (.int b)], [])) from by show @cond (Option ((List Value × Mem) ⊕ (Nat × Lo × List Value))) (true && gRecv M (.ref 0) 10 && gRoom [] && true) (some (.inr (129, [some (.ref 0), some (.int a), some (.int b)], []))) none = _; rw [recv_s hS.1 qa_0 qo_0]; rfl)) H
  have K1 : Ev none e1 129 0 [some (.ref 0), some (.int a), some (.int b)] [] M vK1 MK1 0 0 := K1
  have HF := H
  exact ⟨e1, vK1, MK1, rfl, K1, HF⟩
theorem lon_6 {e : Nat} {M M' : Mem} {v : Option Value} {a b r : Int32} (hS : SQ M) (hLd : fR M 0 2 = 8) (H : Ev none e 102 6 [some (.ref 0), some (.int a), some (.int b)] [.int r] M v M' 0 0) : (r = 0 ∧ v = some (.int (-2)) ∧ M' = M) ∨ (¬ (r = 0) ∧ (∃ e1 v1 M1, e = e1 + 1 ∧ Ev none e1 54 0 [some (.ref 104), some (.ref 8)] [] M v1 M1 0 0 ∧ Ev none e 102 23 [some (.ref 0), some (.int a), some (.int b)] (v1.toList ++ []) M1 v M' 0 0)) := by
  have H : Ev none e 102 (if r = 0 then 9 else 12) [some (.ref 0), some (.int a), some (.int b)] [] M v M' 0 0 := Ev.back 1 (fun n => rfl) H
  by_cases h1 : r = 0
  · rw [if_pos h1] at H
    have H : Ev none e 102 11 [some (.ref 0), some (.int a), some (.int b)] [.int (-2)] M v M' 0 0 := Ev.back 1 (fun n => rfl) H
    obtain ⟨z1, z2⟩ := Ev.retz rfl rfl H
    exact Or.inl ⟨h1, z1, z2⟩
  · rw [if_neg h1] at H
    have H : Ev none e 102 13 [some (.ref 0), some (.int a), some (.int b)] [.ref 0] M v M' 0 0 := Ev.back 1 (fun n => rfl) H
    have H : Ev none e 102 16 [some (.ref 0), some (.int a), some (.int b)] [.ref 104] M v M' 0 0 := Ev.back 1 (gs_3 rfl rfl (gf_u hS.1 qa_0 qr_0_3 qu_22 rfl)) H
    have H : Ev none e 102 17 [some (.ref 0), some (.int a), some (.int b)] [.ref 0, .ref 104] M v M' 0 0 := Ev.back 1 (fun n => rfl) H
    have H : Ev none e 102 20 [some (.ref 0), some (.int a), some (.int b)] [.ref (fR M 0 2), .ref 104] M v M' 0 0 := Ev.back 1 (gs_3 rfl rfl (gf_r hS.1 qa_0 qr_0_2 rfl)) H
    rw [hLd] at H
    obtain ⟨e1, rfl⟩ := Ev.dpos rfl rfl H
    obtain ⟨vK2, MK2, K2, H⟩ := Ev.callb (fun n_ => gs_7 rfl rfl (show gCal (.invokevirtual 197) 10 (.ref 8 :: .ref 104 :: []) M = some (.inr (54, [some (.ref 104), some (.ref 8)], [])) from by show @cond (Option ((List Value × Mem) ⊕ (Nat × Lo × List Value))) (true && gRecv M (.ref 104) 7 && gRoom [] && true) (some (.inr (54, [some (.ref 104), some (.ref 8)], []))) none = _; rw [recv_s hS.1 qa_104 qo_22]; rfl)) H
    have K2 : Ev none e1 54 0 [some (.ref 104), some (.ref 8)] [] M vK2 MK2 0 0 := K2
    have HF := H
    exact Or.inr (⟨h1, ⟨e1, vK2, MK2, rfl, K2, HF⟩⟩)
theorem lon_23 {e : Nat} {M M' : Mem} {v : Option Value} {a b : Int32} (hS : SQ M) (hLd : fR M 0 2 = 8) (H : Ev none e 102 23 [some (.ref 0), some (.int a), some (.int b)] [] M v M' 0 0) : (0 ≤ a.toInt ∧ a.toInt < 9) ∧ (0 ≤ b.toInt ∧ b.toInt < 9) ∧ (∃ e1 v1 M1, e = e1 + 1 ∧ Ev none e1 19 0 [some (.ref 192), some (.int (rI M (8 + 9) a)), some (.int (rI M (8 + 9) b)), none, none, none, none] [] M v1 M1 0 0 ∧ Ev none e 102 48 [some (.ref 0), some (.int a), some (.int b)] (v1.toList ++ []) M1 v M' 0 0) := by
  have H : Ev none e 102 24 [some (.ref 0), some (.int a), some (.int b)] [.ref 0] M v M' 0 0 := Ev.back 1 (fun n => rfl) H
  have H : Ev none e 102 27 [some (.ref 0), some (.int a), some (.int b)] [.ref 192] M v M' 0 0 := Ev.back 1 (gs_3 rfl rfl (gf_u hS.1 qa_0 qr_0_4 qu_41 rfl)) H
  have H : Ev none e 102 28 [some (.ref 0), some (.int a), some (.int b)] [.ref 0, .ref 192] M v M' 0 0 := Ev.back 1 (fun n => rfl) H
  have H : Ev none e 102 31 [some (.ref 0), some (.int a), some (.int b)] [.ref (fR M 0 2), .ref 192] M v M' 0 0 := Ev.back 1 (gs_3 rfl rfl (gf_r hS.1 qa_0 qr_0_2 rfl)) H
  rw [hLd] at H
  have H : Ev none e 102 34 [some (.ref 0), some (.int a), some (.int b)] [.ref (8 + 9), .ref 192] M v M' 0 0 := Ev.back 1 (gs_3 rfl rfl (gf_x hS.1 qa_8 qo_8 (fx_l10 hS qa_8) rfl)) H
  have H : Ev none e 102 35 [some (.ref 0), some (.int a), some (.int b)] [.int a, .ref (8 + 9), .ref 192] M v M' 0 0 := Ev.back 1 (fun n => rfl) H
  obtain ⟨b1, H⟩ := Ev.ial rfl rfl hS.1 (fx_h10 qa_8) qw_17 H
  have H : Ev none e 102 36 [some (.ref 0), some (.int a), some (.int b)] [.int (rI M (8 + 9) a), .ref 192] M v M' 0 0 := H
  have H : Ev none e 102 37 [some (.ref 0), some (.int a), some (.int b)] [.ref 0, .int (rI M (8 + 9) a), .ref 192] M v M' 0 0 := Ev.back 1 (fun n => rfl) H
  have H : Ev none e 102 40 [some (.ref 0), some (.int a), some (.int b)] [.ref (fR M 0 2), .int (rI M (8 + 9) a), .ref 192] M v M' 0 0 := Ev.back 1 (gs_3 rfl rfl (gf_r hS.1 qa_0 qr_0_2 rfl)) H
  rw [hLd] at H
  have H : Ev none e 102 43 [some (.ref 0), some (.int a), some (.int b)] [.ref (8 + 9), .int (rI M (8 + 9) a), .ref 192] M v M' 0 0 := Ev.back 1 (gs_3 rfl rfl (gf_x hS.1 qa_8 qo_8 (fx_l10 hS qa_8) rfl)) H
  have H : Ev none e 102 44 [some (.ref 0), some (.int a), some (.int b)] [.int b, .ref (8 + 9), .int (rI M (8 + 9) a), .ref 192] M v M' 0 0 := Ev.back 1 (fun n => rfl) H
  obtain ⟨b2, H⟩ := Ev.ial rfl rfl hS.1 (fx_h10 qa_8) qw_17 H
  have H : Ev none e 102 45 [some (.ref 0), some (.int a), some (.int b)] [.int (rI M (8 + 9) b), .int (rI M (8 + 9) a), .ref 192] M v M' 0 0 := H
  obtain ⟨e1, rfl⟩ := Ev.dpos rfl rfl H
  obtain ⟨vK3, MK3, K3, H⟩ := Ev.callb (fun n_ => gs_7 rfl rfl (show gCal (.invokevirtual 309) 10 (.int (rI M (8 + 9) b) :: .int (rI M (8 + 9) a) :: .ref 192 :: []) M = some (.inr (19, [some (.ref 192), some (.int (rI M (8 + 9) a)), some (.int (rI M (8 + 9) b)), none, none, none, none], [])) from by show @cond (Option ((List Value × Mem) ⊕ (Nat × Lo × List Value))) (true && gRecv M (.ref 192) 2 && gRoom [] && true) (some (.inr (19, [some (.ref 192), some (.int (rI M (8 + 9) a)), some (.int (rI M (8 + 9) b)), none, none, none, none], []))) none = _; rw [recv_s hS.1 qa_192 qo_41]; rfl)) H
  have K3 : Ev none e1 19 0 [some (.ref 192), some (.int (rI M (8 + 9) a)), some (.int (rI M (8 + 9) b)), none, none, none, none] [] M vK3 MK3 0 0 := K3
  have HF := H
  exact ⟨b1, b2, ⟨e1, vK3, MK3, rfl, K3, HF⟩⟩
theorem lon_48 {e : Nat} {M M' : Mem} {v : Option Value} {a b r : Int32} (hS : SQ M) (H : Ev none e 102 48 [some (.ref 0), some (.int a), some (.int b)] [.int r] M v M' 0 0) : v = some (.int r) ∧ M' = M := by
  obtain ⟨z1, z2⟩ := Ev.retz rfl rfl H
  exact ⟨z1, z2⟩
theorem tuc_0 {e : Nat} {M M' : Mem} {v : Option Value} {h w t m : Int32} (hS : SQ M) (H : Ev none e 103 0 [some (.ref 0), some (.int h), some (.int w), some (.int t), some (.int m), none, none, none, none, none, none] [] M v M' 0 0) : ((G_126 M h 0 5) = 0 ∧ v = some (.int (-2)) ∧ M' = M) ∨ (¬ ((G_126 M h 0 5) = 0) ∧ (G_126 M w 1 4) = 0 ∧ v = some (.int (-2)) ∧ M' = M) ∨ (¬ ((G_126 M h 0 5) = 0) ∧ ¬ ((G_126 M w 1 4) = 0) ∧ (G_126 M t 1 100) = 0 ∧ v = some (.int (-2)) ∧ M' = M) ∨ (¬ ((G_126 M h 0 5) = 0) ∧ ¬ ((G_126 M w 1 4) = 0) ∧ ¬ ((G_126 M t 1 100) = 0) ∧ (0 ≤ h.toInt ∧ h.toInt < 6) ∧ (∃ e1 v1 M1, e = e1 + 1 ∧ Ev none e1 52 0 [some (.ref (oI M 109 h)), none] [] M v1 M1 0 0 ∧ Ev none e 103 47 [some (.ref 0), some (.int h), some (.int w), some (.int t), some (.int m), some (.ref (oI M 109 h)), none, none, none, none, none] (v1.toList ++ []) M1 v M' 0 0)) := by
  have H : Ev none e 103 3 [some (.ref 0), some (.int h), some (.int w), some (.int t), some (.int m), none, none, none, none, none, none] [.int 5, .int 0, .int h] M v M' 0 0 := Ev.back 3 (fun n => rfl) H
  obtain ⟨e1, rfl⟩ := Ev.dpos rfl rfl H
  obtain ⟨vK1, MK1, K1, H⟩ := Ev.callb (fun n => rfl) H
  obtain ⟨pK1, qK1⟩ := g_126 hS K1
  rw [pK1, qK1] at H
  have H : Ev none (e1 + 1) 103 6 [some (.ref 0), some (.int h), some (.int w), some (.int t), some (.int m), none, none, none, none, none, none] [.int (G_126 M h 0 5)] M v M' 0 0 := H
  have H : Ev none (e1 + 1) 103 (if (G_126 M h 0 5) = 0 then 28 else 9) [some (.ref 0), some (.int h), some (.int w), some (.int t), some (.int m), none, none, none, none, none, none] [] M v M' 0 0 := Ev.back 1 (fun n => rfl) H
  by_cases h2 : (G_126 M h 0 5) = 0
  · rw [if_pos h2] at H
    have H : Ev none (e1 + 1) 103 30 [some (.ref 0), some (.int h), some (.int w), some (.int t), some (.int m), none, none, none, none, none, none] [.int (-2)] M v M' 0 0 := Ev.back 1 (fun n => rfl) H
    obtain ⟨z1, z2⟩ := Ev.retz rfl rfl H
    exact Or.inl ⟨h2, z1, z2⟩
  · rw [if_neg h2] at H
    have H : Ev none (e1 + 1) 103 12 [some (.ref 0), some (.int h), some (.int w), some (.int t), some (.int m), none, none, none, none, none, none] [.int 4, .int 1, .int w] M v M' 0 0 := Ev.back 3 (fun n => rfl) H
    obtain ⟨vK3, MK3, K3, H⟩ := Ev.callb (fun n => rfl) H
    obtain ⟨pK3, qK3⟩ := g_126 hS K3
    rw [pK3, qK3] at H
    have H : Ev none (e1 + 1) 103 15 [some (.ref 0), some (.int h), some (.int w), some (.int t), some (.int m), none, none, none, none, none, none] [.int (G_126 M w 1 4)] M v M' 0 0 := H
    have H : Ev none (e1 + 1) 103 (if (G_126 M w 1 4) = 0 then 28 else 18) [some (.ref 0), some (.int h), some (.int w), some (.int t), some (.int m), none, none, none, none, none, none] [] M v M' 0 0 := Ev.back 1 (fun n => rfl) H
    by_cases h4 : (G_126 M w 1 4) = 0
    · rw [if_pos h4] at H
      have H : Ev none (e1 + 1) 103 30 [some (.ref 0), some (.int h), some (.int w), some (.int t), some (.int m), none, none, none, none, none, none] [.int (-2)] M v M' 0 0 := Ev.back 1 (fun n => rfl) H
      obtain ⟨z1, z2⟩ := Ev.retz rfl rfl H
      exact Or.inr (Or.inl ⟨h2, h4, z1, z2⟩)
    · rw [if_neg h4] at H
      have H : Ev none (e1 + 1) 103 22 [some (.ref 0), some (.int h), some (.int w), some (.int t), some (.int m), none, none, none, none, none, none] [.int 100, .int 1, .int t] M v M' 0 0 := Ev.back 3 (fun n => rfl) H
      obtain ⟨vK5, MK5, K5, H⟩ := Ev.callb (fun n => rfl) H
      obtain ⟨pK5, qK5⟩ := g_126 hS K5
      rw [pK5, qK5] at H
      have H : Ev none (e1 + 1) 103 25 [some (.ref 0), some (.int h), some (.int w), some (.int t), some (.int m), none, none, none, none, none, none] [.int (G_126 M t 1 100)] M v M' 0 0 := H
      have H : Ev none (e1 + 1) 103 (if (G_126 M t 1 100) = 0 then 28 else 31) [some (.ref 0), some (.int h), some (.int w), some (.int t), some (.int m), none, none, none, none, none, none] [] M v M' 0 0 := Ev.back 1 (fun n => rfl) H
      by_cases h6 : (G_126 M t 1 100) = 0
      · rw [if_pos h6] at H
        have H : Ev none (e1 + 1) 103 30 [some (.ref 0), some (.int h), some (.int w), some (.int t), some (.int m), none, none, none, none, none, none] [.int (-2)] M v M' 0 0 := Ev.back 1 (fun n => rfl) H
        obtain ⟨z1, z2⟩ := Ev.retz rfl rfl H
        exact Or.inr (Or.inr (Or.inl ⟨h2, h4, h6, z1, z2⟩))
      · rw [if_neg h6] at H
        have H : Ev none (e1 + 1) 103 32 [some (.ref 0), some (.int h), some (.int w), some (.int t), some (.int m), none, none, none, none, none, none] [.ref 0] M v M' 0 0 := Ev.back 1 (fun n => rfl) H
        have H : Ev none (e1 + 1) 103 35 [some (.ref 0), some (.int h), some (.int w), some (.int t), some (.int m), none, none, none, none, none, none] [.ref 104] M v M' 0 0 := Ev.back 1 (gs_3 rfl rfl (gf_u hS.1 qa_0 qr_0_3 qu_22 rfl)) H
        have H : Ev none (e1 + 1) 103 38 [some (.ref 0), some (.int h), some (.int w), some (.int t), some (.int m), none, none, none, none, none, none] [.ref 109] M v M' 0 0 := Ev.back 1 (gs_3 rfl rfl (gf_u hS.1 qa_104 qr_22_1 qu_27 rfl)) H
        have H : Ev none (e1 + 1) 103 39 [some (.ref 0), some (.int h), some (.int w), some (.int t), some (.int m), none, none, none, none, none, none] [.int h, .ref 109] M v M' 0 0 := Ev.back 1 (fun n => rfl) H
        obtain ⟨b7, H⟩ := Ev.aal rfl rfl hS.1 qa_109 qz_27 H
        have H : Ev none (e1 + 1) 103 40 [some (.ref 0), some (.int h), some (.int w), some (.int t), some (.int m), none, none, none, none, none, none] [.ref (oI M 109 h)] M v M' 0 0 := H
        have H : Ev none (e1 + 1) 103 44 [some (.ref 0), some (.int h), some (.int w), some (.int t), some (.int m), some (.ref (oI M 109 h)), none, none, none, none, none] [.ref (oI M 109 h)] M v M' 0 0 := Ev.back 2 (fun n => rfl) H
        obtain ⟨vK8, MK8, K8, H⟩ := Ev.callb (fun n_ => gs_7 rfl rfl (show gCal (.invokevirtual 312) 10 (.ref (oI M 109 h) :: []) M = some (.inr (52, [some (.ref (oI M 109 h)), none], [])) from by show @cond (Option ((List Value × Mem) ⊕ (Nat × Lo × List Value))) (true && gRecv M (.ref (oI M 109 h)) 6 && gRoom [] && true) (some (.inr (52, [some (.ref (oI M 109 h)), none], []))) none = _; rw [recv_s hS.1 b7.2 qo_28]; rfl)) H
        have K8 : Ev none e1 52 0 [some (.ref (oI M 109 h)), none] [] M vK8 MK8 0 0 := K8
        have HF := H
        exact Or.inr (Or.inr (Or.inr (⟨h2, h4, h6, b7.1, ⟨e1, vK8, MK8, rfl, K8, HF⟩⟩)))
theorem tuc_47 {e : Nat} {M M' : Mem} {v : Option Value} {h w t m r : Int32} {x : Nat} (hS : SQ M) (a_x : gNth sT x = some 28) (H : Ev none e 103 47 [some (.ref 0), some (.int h), some (.int w), some (.int t), some (.int m), some (.ref x), none, none, none, none, none] [.int r] M v M' 0 0) : (r = (-1) ∧ v = some (.int (-1)) ∧ M' = M) ∨ (¬ (r = (-1)) ∧ (0 ≤ r.toInt ∧ r.toInt < 16) ∧ Ev none e 103 73 [some (.ref 0), some (.int h), some (.int w), some (.int t), some (.int m), some (.ref x), some (.int r), some (.int (rI M (x + 3) r)), some (.int (-1)), some (.int 0), none] [] M v M' 0 0) := by
  have H : Ev none e 103 (if r = (-1) then 55 else 57) [some (.ref 0), some (.int h), some (.int w), some (.int t), some (.int m), some (.ref x), some (.int r), none, none, none, none] [] M v M' 0 0 := Ev.back 4 (fun n => rfl) H
  by_cases h1 : r = (-1)
  · rw [if_pos h1] at H
    have H : Ev none e 103 56 [some (.ref 0), some (.int h), some (.int w), some (.int t), some (.int m), some (.ref x), some (.int r), none, none, none, none] [.int (-1)] M v M' 0 0 := Ev.back 1 (fun n => rfl) H
    obtain ⟨z1, z2⟩ := Ev.retz rfl rfl H
    exact Or.inl ⟨h1, z1, z2⟩
  · rw [if_neg h1] at H
    have H : Ev none e 103 59 [some (.ref 0), some (.int h), some (.int w), some (.int t), some (.int m), some (.ref x), some (.int r), none, none, none, none] [.ref x] M v M' 0 0 := Ev.back 1 (fun n => rfl) H
    have H : Ev none e 103 62 [some (.ref 0), some (.int h), some (.int w), some (.int t), some (.int m), some (.ref x), some (.int r), none, none, none, none] [.ref (x + 3)] M v M' 0 0 := Ev.back 1 (gs_3 rfl rfl (gf_x hS.1 a_x qo_28 (fx_t2 hS a_x) rfl)) H
    have H : Ev none e 103 64 [some (.ref 0), some (.int h), some (.int w), some (.int t), some (.int m), some (.ref x), some (.int r), none, none, none, none] [.int r, .ref (x + 3)] M v M' 0 0 := Ev.back 1 (fun n => rfl) H
    obtain ⟨b2, H⟩ := Ev.ial rfl rfl hS.1 (fx_g2 a_x) qw_31 H
    have H : Ev none e 103 65 [some (.ref 0), some (.int h), some (.int w), some (.int t), some (.int m), some (.ref x), some (.int r), none, none, none, none] [.int (rI M (x + 3) r)] M v M' 0 0 := H
    have H : Ev none e 103 73 [some (.ref 0), some (.int h), some (.int w), some (.int t), some (.int m), some (.ref x), some (.int r), some (.int (rI M (x + 3) r)), some (.int (-1)), some (.int 0), none] [] M v M' 0 0 := Ev.back 5 (fun n => rfl) H
    have HF := H
    exact Or.inr (⟨h1, b2, HF⟩)
theorem tuc_73 {e : Nat} {M M' : Mem} {v : Option Value} {h w t m li told an n : Int32} {x : Nat} {c10 : Option Value} (hS : SQ M) (a_x : gNth sT x = some 28) (H : Ev none e 103 73 [some (.ref 0), some (.int h), some (.int w), some (.int t), some (.int m), some (.ref x), some (.int li), some (.int told), some (.int an), some (.int n), c10] [] M v M' 0 0) : (9 < n ∧ (0 ≤ li.toInt ∧ li.toInt < 16) ∧ v = some (.int an) ∧ M' = (wI M (x + 3) li.toNatClampNeg told)) ∨ (¬ (9 < n) ∧ an = (-1) ∧ (0 ≤ li.toInt ∧ li.toInt < 16) ∧ (∃ e1 v1 M1, e = e1 + 1 ∧ Ev none e1 133 0 [some (.ref 0)] [] (wI M (x + 3) li.toNatClampNeg n) v1 M1 0 0 ∧ Ev none e 103 100 [some (.ref 0), some (.int h), some (.int w), some (.int t), some (.int m), some (.ref x), some (.int li), some (.int told), some (.int an), some (.int n), c10] (v1.toList ++ []) M1 v M' 0 0)) ∨ (¬ (9 < n) ∧ ¬ (an = (-1)) ∧ (0 ≤ li.toInt ∧ li.toInt < 16) ∧ v = some (.int an) ∧ M' = (wI M (x + 3) li.toNatClampNeg told)) := by
  have H : Ev none e 103 (if 9 < n then 142 else 80) [some (.ref 0), some (.int h), some (.int w), some (.int t), some (.int m), some (.ref x), some (.int li), some (.int told), some (.int an), some (.int n), c10] [] M v M' 0 0 := Ev.back 3 (fun n => rfl) H
  by_cases h1 : 9 < n
  · rw [if_pos h1] at H
    have H : Ev none e 103 144 [some (.ref 0), some (.int h), some (.int w), some (.int t), some (.int m), some (.ref x), some (.int li), some (.int told), some (.int an), some (.int n), c10] [.ref x] M v M' 0 0 := Ev.back 1 (fun n => rfl) H
    have H : Ev none e 103 147 [some (.ref 0), some (.int h), some (.int w), some (.int t), some (.int m), some (.ref x), some (.int li), some (.int told), some (.int an), some (.int n), c10] [.ref (x + 3)] M v M' 0 0 := Ev.back 1 (gs_3 rfl rfl (gf_x hS.1 a_x qo_28 (fx_t2 hS a_x) rfl)) H
    have H : Ev none e 103 151 [some (.ref 0), some (.int h), some (.int w), some (.int t), some (.int m), some (.ref x), some (.int li), some (.int told), some (.int an), some (.int n), c10] [.int told, .int li, .ref (x + 3)] M v M' 0 0 := Ev.back 2 (fun n => rfl) H
    obtain ⟨b2, H⟩ := Ev.ias rfl rfl hS.1 (fx_g2 a_x) qw_31 H
    obtain ⟨N3, eN3⟩ : ∃ N, N = (wI M (x + 3) li.toNatClampNeg told) := ⟨_, rfl⟩
    have hN3 : SQ N3 := by rw [eN3]; exact hS.ki
    have H : Ev none e 103 152 [some (.ref 0), some (.int h), some (.int w), some (.int t), some (.int m), some (.ref x), some (.int li), some (.int told), some (.int an), some (.int n), c10] [] N3 v M' 0 0 := by rw [eN3]; exact H
    have H : Ev none e 103 154 [some (.ref 0), some (.int h), some (.int w), some (.int t), some (.int m), some (.ref x), some (.int li), some (.int told), some (.int an), some (.int n), c10] [.int an] N3 v M' 0 0 := Ev.back 1 (fun n => rfl) H
    obtain ⟨z1, z2⟩ := Ev.retz rfl rfl H
    subst eN3
    exact Or.inl ⟨h1, b2, z1, z2⟩
  · rw [if_neg h1] at H
    have H : Ev none e 103 (if an = (-1) then 86 else 142) [some (.ref 0), some (.int h), some (.int w), some (.int t), some (.int m), some (.ref x), some (.int li), some (.int told), some (.int an), some (.int n), c10] [] M v M' 0 0 := Ev.back 3 (fun n => rfl) H
    by_cases h4 : an = (-1)
    · rw [if_pos h4] at H
      have H : Ev none e 103 88 [some (.ref 0), some (.int h), some (.int w), some (.int t), some (.int m), some (.ref x), some (.int li), some (.int told), some (.int an), some (.int n), c10] [.ref x] M v M' 0 0 := Ev.back 1 (fun n => rfl) H
      have H : Ev none e 103 91 [some (.ref 0), some (.int h), some (.int w), some (.int t), some (.int m), some (.ref x), some (.int li), some (.int told), some (.int an), some (.int n), c10] [.ref (x + 3)] M v M' 0 0 := Ev.back 1 (gs_3 rfl rfl (gf_x hS.1 a_x qo_28 (fx_t2 hS a_x) rfl)) H
      have H : Ev none e 103 95 [some (.ref 0), some (.int h), some (.int w), some (.int t), some (.int m), some (.ref x), some (.int li), some (.int told), some (.int an), some (.int n), c10] [.int n, .int li, .ref (x + 3)] M v M' 0 0 := Ev.back 2 (fun n => rfl) H
      obtain ⟨b5, H⟩ := Ev.ias rfl rfl hS.1 (fx_g2 a_x) qw_31 H
      obtain ⟨N6, eN6⟩ : ∃ N, N = (wI M (x + 3) li.toNatClampNeg n) := ⟨_, rfl⟩
      have hN6 : SQ N6 := by rw [eN6]; exact hS.ki
      have H : Ev none e 103 96 [some (.ref 0), some (.int h), some (.int w), some (.int t), some (.int m), some (.ref x), some (.int li), some (.int told), some (.int an), some (.int n), c10] [] N6 v M' 0 0 := by rw [eN6]; exact H
      have H : Ev none e 103 97 [some (.ref 0), some (.int h), some (.int w), some (.int t), some (.int m), some (.ref x), some (.int li), some (.int told), some (.int an), some (.int n), c10] [.ref 0] N6 v M' 0 0 := Ev.back 1 (fun n => rfl) H
      obtain ⟨e1, rfl⟩ := Ev.dpos rfl rfl H
      obtain ⟨vK7, MK7, K7, H⟩ := Ev.callb (fun n_ => gs_7 rfl rfl (show gCal (.invokevirtual 287) 10 (.ref 0 :: []) N6 = some (.inr (133, [some (.ref 0)], [])) from by show @cond (Option ((List Value × Mem) ⊕ (Nat × Lo × List Value))) (true && gRecv N6 (.ref 0) 10 && gRoom [] && true) (some (.inr (133, [some (.ref 0)], []))) none = _; rw [recv_s hN6.1 qa_0 qo_0]; rfl)) H
      have K7 : Ev none e1 133 0 [some (.ref 0)] [] N6 vK7 MK7 0 0 := K7
      have HF := H
      subst eN6
      exact Or.inr (Or.inl ⟨h1, h4, b5, ⟨e1, vK7, MK7, rfl, K7, HF⟩⟩)
    · rw [if_neg h4] at H
      have H : Ev none e 103 144 [some (.ref 0), some (.int h), some (.int w), some (.int t), some (.int m), some (.ref x), some (.int li), some (.int told), some (.int an), some (.int n), c10] [.ref x] M v M' 0 0 := Ev.back 1 (fun n => rfl) H
      have H : Ev none e 103 147 [some (.ref 0), some (.int h), some (.int w), some (.int t), some (.int m), some (.ref x), some (.int li), some (.int told), some (.int an), some (.int n), c10] [.ref (x + 3)] M v M' 0 0 := Ev.back 1 (gs_3 rfl rfl (gf_x hS.1 a_x qo_28 (fx_t2 hS a_x) rfl)) H
      have H : Ev none e 103 151 [some (.ref 0), some (.int h), some (.int w), some (.int t), some (.int m), some (.ref x), some (.int li), some (.int told), some (.int an), some (.int n), c10] [.int told, .int li, .ref (x + 3)] M v M' 0 0 := Ev.back 2 (fun n => rfl) H
      obtain ⟨b8, H⟩ := Ev.ias rfl rfl hS.1 (fx_g2 a_x) qw_31 H
      obtain ⟨N9, eN9⟩ : ∃ N, N = (wI M (x + 3) li.toNatClampNeg told) := ⟨_, rfl⟩
      have hN9 : SQ N9 := by rw [eN9]; exact hS.ki
      have H : Ev none e 103 152 [some (.ref 0), some (.int h), some (.int w), some (.int t), some (.int m), some (.ref x), some (.int li), some (.int told), some (.int an), some (.int n), c10] [] N9 v M' 0 0 := by rw [eN9]; exact H
      have H : Ev none e 103 154 [some (.ref 0), some (.int h), some (.int w), some (.int t), some (.int m), some (.ref x), some (.int li), some (.int told), some (.int an), some (.int n), c10] [.int an] N9 v M' 0 0 := Ev.back 1 (fun n => rfl) H
      obtain ⟨z1, z2⟩ := Ev.retz rfl rfl H
      subst eN9
      exact Or.inr (Or.inr (⟨h1, h4, b8, z1, z2⟩))
theorem tuc_100 {e : Nat} {M M' : Mem} {v : Option Value} {h w t m li told an n : Int32} {x : Nat} {c10 : Option Value} (hS : SQ M) (a_x : gNth sT x = some 28) (H : Ev none e 103 100 [some (.ref 0), some (.int h), some (.int w), some (.int t), some (.int m), some (.ref x), some (.int li), some (.int told), some (.int an), some (.int n), c10] [] M v M' 0 0) : Ev none e 103 103 [some (.ref 0), some (.int h), some (.int w), some (.int t), some (.int m), some (.ref x), some (.int li), some (.int told), some (.int an), some (.int n), some (.int 0)] [] M v M' 0 0 := by
  have H : Ev none e 103 103 [some (.ref 0), some (.int h), some (.int w), some (.int t), some (.int m), some (.ref x), some (.int li), some (.int told), some (.int an), some (.int n), some (.int 0)] [] M v M' 0 0 := Ev.back 2 (fun n => rfl) H
  have HF := H
  exact HF
theorem tuc_103 {e : Nat} {M M' : Mem} {v : Option Value} {h w t m li told an n k : Int32} {x : Nat} (hS : SQ M) (a_x : gNth sT x = some 28) (H : Ev none e 103 103 [some (.ref 0), some (.int h), some (.int w), some (.int t), some (.int m), some (.ref x), some (.int li), some (.int told), some (.int an), some (.int n), some (.int k)] [] M v M' 0 0) : (w ≤ k ∧ (∃ e1 v1 M1, e = e1 + 1 ∧ Ev none e1 57 0 [some (.ref 104), none, none] [] M v1 M1 0 0 ∧ Ev none e 103 127 [some (.ref 0), some (.int h), some (.int w), some (.int t), some (.int m), some (.ref x), some (.int li), some (.int told), some (.int an), some (.int n), some (.int k)] (v1.toList ++ []) M1 v M' 0 0)) ∨ (¬ (w ≤ k) ∧ (∃ e1 v1 M1, e = e1 + 1 ∧ Ev none e1 134 0 [some (.ref 0), some (.int t)] [] M v1 M1 0 0 ∧ Ev none e 103 114 [some (.ref 0), some (.int h), some (.int w), some (.int t), some (.int m), some (.ref x), some (.int li), some (.int told), some (.int an), some (.int n), some (.int k)] (v1.toList ++ []) M1 v M' 0 0)) := by
  have H : Ev none e 103 (if w ≤ k then 120 else 109) [some (.ref 0), some (.int h), some (.int w), some (.int t), some (.int m), some (.ref x), some (.int li), some (.int told), some (.int an), some (.int n), some (.int k)] [] M v M' 0 0 := Ev.back 3 (fun n => rfl) H
  by_cases h1 : w ≤ k
  · rw [if_pos h1] at H
    have H : Ev none e 103 121 [some (.ref 0), some (.int h), some (.int w), some (.int t), some (.int m), some (.ref x), some (.int li), some (.int told), some (.int an), some (.int n), some (.int k)] [.ref 0] M v M' 0 0 := Ev.back 1 (fun n => rfl) H
    have H : Ev none e 103 124 [some (.ref 0), some (.int h), some (.int w), some (.int t), some (.int m), some (.ref x), some (.int li), some (.int told), some (.int an), some (.int n), some (.int k)] [.ref 104] M v M' 0 0 := Ev.back 1 (gs_3 rfl rfl (gf_u hS.1 qa_0 qr_0_3 qu_22 rfl)) H
    obtain ⟨e1, rfl⟩ := Ev.dpos rfl rfl H
    obtain ⟨vK2, MK2, K2, H⟩ := Ev.callb (fun n_ => gs_7 rfl rfl (show gCal (.invokevirtual 207) 10 (.ref 104 :: []) M = some (.inr (57, [some (.ref 104), none, none], [])) from by show @cond (Option ((List Value × Mem) ⊕ (Nat × Lo × List Value))) (true && gRecv M (.ref 104) 7 && gRoom [] && true) (some (.inr (57, [some (.ref 104), none, none], []))) none = _; rw [recv_s hS.1 qa_104 qo_22]; rfl)) H
    have K2 : Ev none e1 57 0 [some (.ref 104), none, none] [] M vK2 MK2 0 0 := K2
    have HF := H
    exact Or.inl ⟨h1, ⟨e1, vK2, MK2, rfl, K2, HF⟩⟩
  · rw [if_neg h1] at H
    have H : Ev none e 103 111 [some (.ref 0), some (.int h), some (.int w), some (.int t), some (.int m), some (.ref x), some (.int li), some (.int told), some (.int an), some (.int n), some (.int k)] [.int t, .ref 0] M v M' 0 0 := Ev.back 2 (fun n => rfl) H
    obtain ⟨e1, rfl⟩ := Ev.dpos rfl rfl H
    obtain ⟨vK3, MK3, K3, H⟩ := Ev.callb (fun n_ => gs_7 rfl rfl (show gCal (.invokevirtual 293) 10 (.int t :: .ref 0 :: []) M = some (.inr (134, [some (.ref 0), some (.int t)], [])) from by show @cond (Option ((List Value × Mem) ⊕ (Nat × Lo × List Value))) (true && gRecv M (.ref 0) 10 && gRoom [] && true) (some (.inr (134, [some (.ref 0), some (.int t)], []))) none = _; rw [recv_s hS.1 qa_0 qo_0]; rfl)) H
    have K3 : Ev none e1 134 0 [some (.ref 0), some (.int t)] [] M vK3 MK3 0 0 := K3
    have HF := H
    exact Or.inr (⟨h1, ⟨e1, vK3, MK3, rfl, K3, HF⟩⟩)
theorem tuc_114 {e : Nat} {M M' : Mem} {v : Option Value} {h w t m li told an n k : Int32} {x : Nat} (hS : SQ M) (a_x : gNth sT x = some 28) (H : Ev none e 103 114 [some (.ref 0), some (.int h), some (.int w), some (.int t), some (.int m), some (.ref x), some (.int li), some (.int told), some (.int an), some (.int n), some (.int k)] [] M v M' 0 0) : Ev none e 103 103 [some (.ref 0), some (.int h), some (.int w), some (.int t), some (.int m), some (.ref x), some (.int li), some (.int told), some (.int an), some (.int n), some (.int (k + 1))] [] M v M' 0 0 := by
  have H : Ev none e 103 103 [some (.ref 0), some (.int h), some (.int w), some (.int t), some (.int m), some (.ref x), some (.int li), some (.int told), some (.int an), some (.int n), some (.int (k + 1))] [] M v M' 0 0 := Ev.back 2 (fun n => rfl) H
  have HF := H
  exact HF
theorem tuc_127 {e : Nat} {M M' : Mem} {v : Option Value} {h w t m li told an n k r : Int32} {x : Nat} (hS : SQ M) (a_x : gNth sT x = some 28) (H : Ev none e 103 127 [some (.ref 0), some (.int h), some (.int w), some (.int t), some (.int m), some (.ref x), some (.int li), some (.int told), some (.int an), some (.int n), some (.int k)] [.int r] M v M' 0 0) : (m < r ∧ Ev none e 103 73 [some (.ref 0), some (.int h), some (.int w), some (.int t), some (.int m), some (.ref x), some (.int li), some (.int told), some (.int an), some (.int (n + 1)), some (.int k)] [] M v M' 0 0) ∨ (¬ (m < r) ∧ Ev none e 103 73 [some (.ref 0), some (.int h), some (.int w), some (.int t), some (.int m), some (.ref x), some (.int li), some (.int told), some (.int n), some (.int (n + 1)), some (.int k)] [] M v M' 0 0) := by
  have H : Ev none e 103 (if m < r then 136 else 132) [some (.ref 0), some (.int h), some (.int w), some (.int t), some (.int m), some (.ref x), some (.int li), some (.int told), some (.int an), some (.int n), some (.int k)] [] M v M' 0 0 := Ev.back 2 (fun n => rfl) H
  by_cases h1 : m < r
  · rw [if_pos h1] at H
    have H : Ev none e 103 73 [some (.ref 0), some (.int h), some (.int w), some (.int t), some (.int m), some (.ref x), some (.int li), some (.int told), some (.int an), some (.int (n + 1)), some (.int k)] [] M v M' 0 0 := Ev.back 2 (fun n => rfl) H
    have HF := H
    exact Or.inl ⟨h1, HF⟩
  · rw [if_neg h1] at H
    have H : Ev none e 103 73 [some (.ref 0), some (.int h), some (.int w), some (.int t), some (.int m), some (.ref x), some (.int li), some (.int told), some (.int n), some (.int (n + 1)), some (.int k)] [] M v M' 0 0 := Ev.back 4 (fun n => rfl) H
    have HF := H
    exact Or.inr (⟨h1, HF⟩)
noncomputable def G_106 (M : Mem) (w : Int32) (t : Int32) : Int32 := if (G_126 M w 1 20) = 0 then 0 else (if (G_126 M t 1 200) = 0 then 0 else 1)
theorem g_106 {e : Nat} {M M' : Mem} {v : Option Value} {w t : Int32} (hS : SQ M) (H : Ev none e 106 0 [some (.ref 0), some (.int w), some (.int t)] [] M v M' 0 0) : v = some (.int (G_106 M w t)) ∧ M' = M := by
  unfold G_106
  have H : Ev none e 106 4 [some (.ref 0), some (.int w), some (.int t)] [.int 20, .int 1, .int w] M v M' 0 0 := Ev.back 3 (fun n => rfl) H
  obtain ⟨e1, rfl⟩ := Ev.dpos rfl rfl H
  obtain ⟨vK1, MK1, K1, H⟩ := Ev.callb (fun n => rfl) H
  obtain ⟨pK1, qK1⟩ := g_126 hS K1
  rw [pK1, qK1] at H
  have H : Ev none (e1 + 1) 106 7 [some (.ref 0), some (.int w), some (.int t)] [.int (G_126 M w 1 20)] M v M' 0 0 := H
  have H : Ev none (e1 + 1) 106 (if (G_126 M w 1 20) = 0 then 25 else 10) [some (.ref 0), some (.int w), some (.int t)] [] M v M' 0 0 := Ev.back 1 (fun n => rfl) H
  by_cases h2 : (G_126 M w 1 20) = 0
  · rw [if_pos h2] at H
    have H : Ev none (e1 + 1) 106 26 [some (.ref 0), some (.int w), some (.int t)] [.int 0] M v M' 0 0 := Ev.back 1 (fun n => rfl) H
    obtain ⟨p1, p2⟩ := Ev.retz rfl rfl H
    exact ⟨by rw [if_pos h2]; exact p1, p2⟩
  · rw [if_neg h2] at H
    have H : Ev none (e1 + 1) 106 15 [some (.ref 0), some (.int w), some (.int t)] [.int 200, .int 1, .int t] M v M' 0 0 := Ev.back 3 (fun n => rfl) H
    obtain ⟨vK3, MK3, K3, H⟩ := Ev.callb (fun n => rfl) H
    obtain ⟨pK3, qK3⟩ := g_126 hS K3
    rw [pK3, qK3] at H
    have H : Ev none (e1 + 1) 106 18 [some (.ref 0), some (.int w), some (.int t)] [.int (G_126 M t 1 200)] M v M' 0 0 := H
    have H : Ev none (e1 + 1) 106 (if (G_126 M t 1 200) = 0 then 25 else 21) [some (.ref 0), some (.int w), some (.int t)] [] M v M' 0 0 := Ev.back 1 (fun n => rfl) H
    by_cases h4 : (G_126 M t 1 200) = 0
    · rw [if_pos h4] at H
      have H : Ev none (e1 + 1) 106 26 [some (.ref 0), some (.int w), some (.int t)] [.int 0] M v M' 0 0 := Ev.back 1 (fun n => rfl) H
      obtain ⟨p1, p2⟩ := Ev.retz rfl rfl H
      exact ⟨by rw [if_neg h2, if_pos h4]; exact p1, p2⟩
    · rw [if_neg h4] at H
      have H : Ev none (e1 + 1) 106 26 [some (.ref 0), some (.int w), some (.int t)] [.int 1] M v M' 0 0 := Ev.back 2 (fun n => rfl) H
      obtain ⟨p1, p2⟩ := Ev.retz rfl rfl H
      exact ⟨by rw [if_neg h2, if_neg h4]; exact p1, p2⟩
theorem pvd_0 {e : Nat} {M M' : Mem} {v : Option Value} {w ws t wh : Int32} (hS : SQ M) (H : Ev none e 104 0 [some (.ref 0), some (.int w), some (.int ws), some (.int t), some (.int wh)] [] M v M' 0 0) : ((G_106 M ws t) = 0 ∧ v = some (.int (-1)) ∧ M' = M) ∨ (¬ ((G_106 M ws t) = 0) ∧ (G_126 M w 1 ws) = 0 ∧ v = some (.int (-1)) ∧ M' = M) ∨ (¬ ((G_106 M ws t) = 0) ∧ ¬ ((G_126 M w 1 ws) = 0) ∧ (G_126 M wh 0 2) = 0 ∧ v = some (.int (-1)) ∧ M' = M) ∨ (¬ ((G_106 M ws t) = 0) ∧ ¬ ((G_126 M w 1 ws) = 0) ∧ ¬ ((G_126 M wh 0 2) = 0) ∧ (∃ e1 v1 M1, e = e1 + 1 ∧ Ev none e1 107 0 [some (.ref 0), some (.int ws), some (.int t), none] [] M v1 M1 0 0 ∧ Ev none e 104 36 [some (.ref 0), some (.int w), some (.int ws), some (.int t), some (.int wh)] (v1.toList ++ []) M1 v M' 0 0)) := by
  have H : Ev none e 104 3 [some (.ref 0), some (.int w), some (.int ws), some (.int t), some (.int wh)] [.int t, .int ws, .ref 0] M v M' 0 0 := Ev.back 3 (fun n => rfl) H
  obtain ⟨e1, rfl⟩ := Ev.dpos rfl rfl H
  obtain ⟨vK1, MK1, K1, H⟩ := Ev.callb (fun n_ => gs_7 rfl rfl (show gCal (.invokevirtual 318) 10 (.int t :: .int ws :: .ref 0 :: []) M = some (.inr (106, [some (.ref 0), some (.int ws), some (.int t)], [])) from by show @cond (Option ((List Value × Mem) ⊕ (Nat × Lo × List Value))) (true && gRecv M (.ref 0) 10 && gRoom [] && true) (some (.inr (106, [some (.ref 0), some (.int ws), some (.int t)], []))) none = _; rw [recv_s hS.1 qa_0 qo_0]; rfl)) H
  obtain ⟨pK1, qK1⟩ := g_106 hS K1
  rw [pK1, qK1] at H
  have H : Ev none (e1 + 1) 104 6 [some (.ref 0), some (.int w), some (.int ws), some (.int t), some (.int wh)] [.int (G_106 M ws t)] M v M' 0 0 := H
  have H : Ev none (e1 + 1) 104 (if (G_106 M ws t) = 0 then 28 else 9) [some (.ref 0), some (.int w), some (.int ws), some (.int t), some (.int wh)] [] M v M' 0 0 := Ev.back 1 (fun n => rfl) H
  by_cases h2 : (G_106 M ws t) = 0
  · rw [if_pos h2] at H
    have H : Ev none (e1 + 1) 104 29 [some (.ref 0), some (.int w), some (.int ws), some (.int t), some (.int wh)] [.int (-1)] M v M' 0 0 := Ev.back 1 (fun n => rfl) H
    obtain ⟨z1, z2⟩ := Ev.retz rfl rfl H
    exact Or.inl ⟨h2, z1, z2⟩
  · rw [if_neg h2] at H
    have H : Ev none (e1 + 1) 104 12 [some (.ref 0), some (.int w), some (.int ws), some (.int t), some (.int wh)] [.int ws, .int 1, .int w] M v M' 0 0 := Ev.back 3 (fun n => rfl) H
    obtain ⟨vK3, MK3, K3, H⟩ := Ev.callb (fun n => rfl) H
    obtain ⟨pK3, qK3⟩ := g_126 hS K3
    rw [pK3, qK3] at H
    have H : Ev none (e1 + 1) 104 15 [some (.ref 0), some (.int w), some (.int ws), some (.int t), some (.int wh)] [.int (G_126 M w 1 ws)] M v M' 0 0 := H
    have H : Ev none (e1 + 1) 104 (if (G_126 M w 1 ws) = 0 then 28 else 18) [some (.ref 0), some (.int w), some (.int ws), some (.int t), some (.int wh)] [] M v M' 0 0 := Ev.back 1 (fun n => rfl) H
    by_cases h4 : (G_126 M w 1 ws) = 0
    · rw [if_pos h4] at H
      have H : Ev none (e1 + 1) 104 29 [some (.ref 0), some (.int w), some (.int ws), some (.int t), some (.int wh)] [.int (-1)] M v M' 0 0 := Ev.back 1 (fun n => rfl) H
      obtain ⟨z1, z2⟩ := Ev.retz rfl rfl H
      exact Or.inr (Or.inl ⟨h2, h4, z1, z2⟩)
    · rw [if_neg h4] at H
      have H : Ev none (e1 + 1) 104 22 [some (.ref 0), some (.int w), some (.int ws), some (.int t), some (.int wh)] [.int 2, .int 0, .int wh] M v M' 0 0 := Ev.back 3 (fun n => rfl) H
      obtain ⟨vK5, MK5, K5, H⟩ := Ev.callb (fun n => rfl) H
      obtain ⟨pK5, qK5⟩ := g_126 hS K5
      rw [pK5, qK5] at H
      have H : Ev none (e1 + 1) 104 25 [some (.ref 0), some (.int w), some (.int ws), some (.int t), some (.int wh)] [.int (G_126 M wh 0 2)] M v M' 0 0 := H
      have H : Ev none (e1 + 1) 104 (if (G_126 M wh 0 2) = 0 then 28 else 30) [some (.ref 0), some (.int w), some (.int ws), some (.int t), some (.int wh)] [] M v M' 0 0 := Ev.back 1 (fun n => rfl) H
      by_cases h6 : (G_126 M wh 0 2) = 0
      · rw [if_pos h6] at H
        have H : Ev none (e1 + 1) 104 29 [some (.ref 0), some (.int w), some (.int ws), some (.int t), some (.int wh)] [.int (-1)] M v M' 0 0 := Ev.back 1 (fun n => rfl) H
        obtain ⟨z1, z2⟩ := Ev.retz rfl rfl H
        exact Or.inr (Or.inr (Or.inl ⟨h2, h4, h6, z1, z2⟩))
      · rw [if_neg h6] at H
        have H : Ev none (e1 + 1) 104 33 [some (.ref 0), some (.int w), some (.int ws), some (.int t), some (.int wh)] [.int t, .int ws, .ref 0] M v M' 0 0 := Ev.back 3 (fun n => rfl) H
        obtain ⟨vK7, MK7, K7, H⟩ := Ev.callb (fun n_ => gs_7 rfl rfl (show gCal (.invokevirtual 321) 10 (.int t :: .int ws :: .ref 0 :: []) M = some (.inr (107, [some (.ref 0), some (.int ws), some (.int t), none], [])) from by show @cond (Option ((List Value × Mem) ⊕ (Nat × Lo × List Value))) (true && gRecv M (.ref 0) 10 && gRoom [] && true) (some (.inr (107, [some (.ref 0), some (.int ws), some (.int t), none], []))) none = _; rw [recv_s hS.1 qa_0 qo_0]; rfl)) H
        have K7 : Ev none e1 107 0 [some (.ref 0), some (.int ws), some (.int t), none] [] M vK7 MK7 0 0 := K7
        have HF := H
        exact Or.inr (Or.inr (Or.inr (⟨h2, h4, h6, ⟨e1, vK7, MK7, rfl, K7, HF⟩⟩)))
theorem pvd_36 {e : Nat} {M M' : Mem} {v : Option Value} {w ws t wh : Int32} (hS : SQ M) (H : Ev none e 104 36 [some (.ref 0), some (.int w), some (.int ws), some (.int t), some (.int wh)] [] M v M' 0 0) : (wh = 0 ∧ (∃ e1 v1 M1, e = e1 + 1 ∧ Ev none e1 16 0 [some (.ref 192), some (.int w), none, none] [] M v1 M1 0 0 ∧ Ev none e 104 72 [some (.ref 0), some (.int w), some (.int ws), some (.int t), some (.int wh)] (v1.toList ++ []) M1 v M' 0 0)) ∨ (¬ (wh = 0) ∧ wh = 1 ∧ (∃ e1 v1 M1, e = e1 + 1 ∧ Ev none e1 17 0 [some (.ref 192), some (.int w), some (.int ws), none, none] [] M v1 M1 0 0 ∧ Ev none e 104 82 [some (.ref 0), some (.int w), some (.int ws), some (.int t), some (.int wh)] (v1.toList ++ []) M1 v M' 0 0)) ∨ (¬ (wh = 0) ∧ ¬ (wh = 1) ∧ (∃ e1 v1 M1, e = e1 + 1 ∧ Ev none e1 17 0 [some (.ref 192), some (.int ws), some (.int w), none, none] [] M v1 M1 0 0 ∧ Ev none e 104 92 [some (.ref 0), some (.int w), some (.int ws), some (.int t), some (.int wh)] (v1.toList ++ []) M1 v M' 0 0)) := by
  have H : Ev none e 104 38 [some (.ref 0), some (.int w), some (.int ws), some (.int t), some (.int wh)] [.int wh] M v M' 0 0 := Ev.back 1 (fun n => rfl) H
  by_cases h1 : wh = 0
  · have H : Ev none e 104 64 [some (.ref 0), some (.int w), some (.int ws), some (.int t), some (.int wh)] [] M v M' 0 0 := Ev.back 1 (by rw [h1]; exact fun n => rfl) H
    have H : Ev none e 104 65 [some (.ref 0), some (.int w), some (.int ws), some (.int t), some (.int wh)] [.ref 0] M v M' 0 0 := Ev.back 1 (fun n => rfl) H
    have H : Ev none e 104 68 [some (.ref 0), some (.int w), some (.int ws), some (.int t), some (.int wh)] [.ref 192] M v M' 0 0 := Ev.back 1 (gs_3 rfl rfl (gf_u hS.1 qa_0 qr_0_4 qu_41 rfl)) H
    have H : Ev none e 104 69 [some (.ref 0), some (.int w), some (.int ws), some (.int t), some (.int wh)] [.int w, .ref 192] M v M' 0 0 := Ev.back 1 (fun n => rfl) H
    obtain ⟨e1, rfl⟩ := Ev.dpos rfl rfl H
    obtain ⟨vK2, MK2, K2, H⟩ := Ev.callb (fun n_ => gs_7 rfl rfl (show gCal (.invokevirtual 324) 10 (.int w :: .ref 192 :: []) M = some (.inr (16, [some (.ref 192), some (.int w), none, none], [])) from by show @cond (Option ((List Value × Mem) ⊕ (Nat × Lo × List Value))) (true && gRecv M (.ref 192) 2 && gRoom [] && true) (some (.inr (16, [some (.ref 192), some (.int w), none, none], []))) none = _; rw [recv_s hS.1 qa_192 qo_41]; rfl)) H
    have K2 : Ev none e1 16 0 [some (.ref 192), some (.int w), none, none] [] M vK2 MK2 0 0 := K2
    have HF := H
    exact Or.inl ⟨h1, ⟨e1, vK2, MK2, rfl, K2, HF⟩⟩
  · by_cases h3 : wh = 1
    · have H : Ev none e 104 73 [some (.ref 0), some (.int w), some (.int ws), some (.int t), some (.int wh)] [] M v M' 0 0 := Ev.back 1 (by rw [h3]; exact fun n => rfl) H
      have H : Ev none e 104 74 [some (.ref 0), some (.int w), some (.int ws), some (.int t), some (.int wh)] [.ref 0] M v M' 0 0 := Ev.back 1 (fun n => rfl) H
      have H : Ev none e 104 77 [some (.ref 0), some (.int w), some (.int ws), some (.int t), some (.int wh)] [.ref 192] M v M' 0 0 := Ev.back 1 (gs_3 rfl rfl (gf_u hS.1 qa_0 qr_0_4 qu_41 rfl)) H
      have H : Ev none e 104 79 [some (.ref 0), some (.int w), some (.int ws), some (.int t), some (.int wh)] [.int ws, .int w, .ref 192] M v M' 0 0 := Ev.back 2 (fun n => rfl) H
      obtain ⟨e1, rfl⟩ := Ev.dpos rfl rfl H
      obtain ⟨vK4, MK4, K4, H⟩ := Ev.callb (fun n_ => gs_7 rfl rfl (show gCal (.invokevirtual 296) 10 (.int ws :: .int w :: .ref 192 :: []) M = some (.inr (17, [some (.ref 192), some (.int w), some (.int ws), none, none], [])) from by show @cond (Option ((List Value × Mem) ⊕ (Nat × Lo × List Value))) (true && gRecv M (.ref 192) 2 && gRoom [] && true) (some (.inr (17, [some (.ref 192), some (.int w), some (.int ws), none, none], []))) none = _; rw [recv_s hS.1 qa_192 qo_41]; rfl)) H
      have K4 : Ev none e1 17 0 [some (.ref 192), some (.int w), some (.int ws), none, none] [] M vK4 MK4 0 0 := K4
      have HF := H
      exact Or.inr (Or.inl ⟨h1, h3, ⟨e1, vK4, MK4, rfl, K4, HF⟩⟩)
    · have H : Ev none e 104 (gT 38 (if (0 : Int) = wh.toInt then 26 else if (1 : Int) = wh.toInt then 35 else 45)) [some (.ref 0), some (.int w), some (.int ws), some (.int t), some (.int wh)] [] M v M' 0 0 := Ev.back 1 (fun n => rfl) H
      have qh1 : wh.toInt ≠ 0 := fun q => h1 (Int32.toInt_inj.mp q)
      have qh3 : wh.toInt ≠ 1 := fun q => h3 (Int32.toInt_inj.mp q)
      rw [if_neg (show ¬ (0 : Int) = wh.toInt from fun q => qh1 q.symm)] at H
      rw [if_neg (show ¬ (1 : Int) = wh.toInt from fun q => qh3 q.symm)] at H
      have H : Ev none e 104 83 [some (.ref 0), some (.int w), some (.int ws), some (.int t), some (.int wh)] [] M v M' 0 0 := H
      have H : Ev none e 104 84 [some (.ref 0), some (.int w), some (.int ws), some (.int t), some (.int wh)] [.ref 0] M v M' 0 0 := Ev.back 1 (fun n => rfl) H
      have H : Ev none e 104 87 [some (.ref 0), some (.int w), some (.int ws), some (.int t), some (.int wh)] [.ref 192] M v M' 0 0 := Ev.back 1 (gs_3 rfl rfl (gf_u hS.1 qa_0 qr_0_4 qu_41 rfl)) H
      have H : Ev none e 104 89 [some (.ref 0), some (.int w), some (.int ws), some (.int t), some (.int wh)] [.int w, .int ws, .ref 192] M v M' 0 0 := Ev.back 2 (fun n => rfl) H
      obtain ⟨e1, rfl⟩ := Ev.dpos rfl rfl H
      obtain ⟨vK5, MK5, K5, H⟩ := Ev.callb (fun n_ => gs_7 rfl rfl (show gCal (.invokevirtual 296) 10 (.int w :: .int ws :: .ref 192 :: []) M = some (.inr (17, [some (.ref 192), some (.int ws), some (.int w), none, none], [])) from by show @cond (Option ((List Value × Mem) ⊕ (Nat × Lo × List Value))) (true && gRecv M (.ref 192) 2 && gRoom [] && true) (some (.inr (17, [some (.ref 192), some (.int ws), some (.int w), none, none], []))) none = _; rw [recv_s hS.1 qa_192 qo_41]; rfl)) H
      have K5 : Ev none e1 17 0 [some (.ref 192), some (.int ws), some (.int w), none, none] [] M vK5 MK5 0 0 := K5
      have HF := H
      exact Or.inr (Or.inr (⟨h1, h3, ⟨e1, vK5, MK5, rfl, K5, HF⟩⟩))
theorem pvd_72 {e : Nat} {M M' : Mem} {v : Option Value} {w ws t wh r : Int32} (hS : SQ M) (H : Ev none e 104 72 [some (.ref 0), some (.int w), some (.int ws), some (.int t), some (.int wh)] [.int r] M v M' 0 0) : v = some (.int r) ∧ M' = M := by
  obtain ⟨z1, z2⟩ := Ev.retz rfl rfl H
  exact ⟨z1, z2⟩
theorem pvd_82 {e : Nat} {M M' : Mem} {v : Option Value} {w ws t wh r : Int32} (hS : SQ M) (H : Ev none e 104 82 [some (.ref 0), some (.int w), some (.int ws), some (.int t), some (.int wh)] [.int r] M v M' 0 0) : v = some (.int r) ∧ M' = M := by
  obtain ⟨z1, z2⟩ := Ev.retz rfl rfl H
  exact ⟨z1, z2⟩
theorem pvd_92 {e : Nat} {M M' : Mem} {v : Option Value} {w ws t wh r : Int32} (hS : SQ M) (H : Ev none e 104 92 [some (.ref 0), some (.int w), some (.int ws), some (.int t), some (.int wh)] [.int r] M v M' 0 0) : v = some (.int r) ∧ M' = M := by
  obtain ⟨z1, z2⟩ := Ev.retz rfl rfl H
  exact ⟨z1, z2⟩
theorem wai_0 {e : Nat} {M M' : Mem} {v : Option Value} {ws t : Int32} (hS : SQ M) (H : Ev none e 105 0 [some (.ref 0), some (.int ws), some (.int t), none, none, none, none] [] M v M' 0 0) : ((G_106 M ws t) = 0 ∧ v = some (.int (-1)) ∧ M' = M) ∨ (¬ ((G_106 M ws t) = 0) ∧ (∃ e1 v1 M1, e = e1 + 1 ∧ Ev none e1 107 0 [some (.ref 0), some (.int ws), some (.int t), none] [] M v1 M1 0 0 ∧ Ev none e 105 17 [some (.ref 0), some (.int ws), some (.int t), none, none, none, none] (v1.toList ++ []) M1 v M' 0 0)) := by
  have H : Ev none e 105 3 [some (.ref 0), some (.int ws), some (.int t), none, none, none, none] [.int t, .int ws, .ref 0] M v M' 0 0 := Ev.back 3 (fun n => rfl) H
  obtain ⟨e1, rfl⟩ := Ev.dpos rfl rfl H
  obtain ⟨vK1, MK1, K1, H⟩ := Ev.callb (fun n_ => gs_7 rfl rfl (show gCal (.invokevirtual 318) 10 (.int t :: .int ws :: .ref 0 :: []) M = some (.inr (106, [some (.ref 0), some (.int ws), some (.int t)], [])) from by show @cond (Option ((List Value × Mem) ⊕ (Nat × Lo × List Value))) (true && gRecv M (.ref 0) 10 && gRoom [] && true) (some (.inr (106, [some (.ref 0), some (.int ws), some (.int t)], []))) none = _; rw [recv_s hS.1 qa_0 qo_0]; rfl)) H
  obtain ⟨pK1, qK1⟩ := g_106 hS K1
  rw [pK1, qK1] at H
  have H : Ev none (e1 + 1) 105 6 [some (.ref 0), some (.int ws), some (.int t), none, none, none, none] [.int (G_106 M ws t)] M v M' 0 0 := H
  have H : Ev none (e1 + 1) 105 (if (G_106 M ws t) = 0 then 9 else 11) [some (.ref 0), some (.int ws), some (.int t), none, none, none, none] [] M v M' 0 0 := Ev.back 1 (fun n => rfl) H
  by_cases h2 : (G_106 M ws t) = 0
  · rw [if_pos h2] at H
    have H : Ev none (e1 + 1) 105 10 [some (.ref 0), some (.int ws), some (.int t), none, none, none, none] [.int (-1)] M v M' 0 0 := Ev.back 1 (fun n => rfl) H
    obtain ⟨z1, z2⟩ := Ev.retz rfl rfl H
    exact Or.inl ⟨h2, z1, z2⟩
  · rw [if_neg h2] at H
    have H : Ev none (e1 + 1) 105 14 [some (.ref 0), some (.int ws), some (.int t), none, none, none, none] [.int t, .int ws, .ref 0] M v M' 0 0 := Ev.back 3 (fun n => rfl) H
    obtain ⟨vK3, MK3, K3, H⟩ := Ev.callb (fun n_ => gs_7 rfl rfl (show gCal (.invokevirtual 321) 10 (.int t :: .int ws :: .ref 0 :: []) M = some (.inr (107, [some (.ref 0), some (.int ws), some (.int t), none], [])) from by show @cond (Option ((List Value × Mem) ⊕ (Nat × Lo × List Value))) (true && gRecv M (.ref 0) 10 && gRoom [] && true) (some (.inr (107, [some (.ref 0), some (.int ws), some (.int t), none], []))) none = _; rw [recv_s hS.1 qa_0 qo_0]; rfl)) H
    have K3 : Ev none e1 107 0 [some (.ref 0), some (.int ws), some (.int t), none] [] M vK3 MK3 0 0 := K3
    have HF := H
    exact Or.inr (⟨h2, ⟨e1, vK3, MK3, rfl, K3, HF⟩⟩)
theorem wai_17 {e : Nat} {M M' : Mem} {v : Option Value} {ws t : Int32} (hS : SQ M) (H : Ev none e 105 17 [some (.ref 0), some (.int ws), some (.int t), none, none, none, none] [] M v M' 0 0) : Ev none e 105 27 [some (.ref 0), some (.int ws), some (.int t), some (.int 1), some (.int 276), some (.int 1), none] [] M v M' 0 0 := by
  have H : Ev none e 105 27 [some (.ref 0), some (.int ws), some (.int t), some (.int 1), some (.int 276), some (.int 1), none] [] M v M' 0 0 := Ev.back 6 (fun n => rfl) H
  have HF := H
  exact HF
theorem wai_27 {e : Nat} {M M' : Mem} {v : Option Value} {ws t be le w : Int32} {c6 : Option Value} (hS : SQ M) (H : Ev none e 105 27 [some (.ref 0), some (.int ws), some (.int t), some (.int be), some (.int le), some (.int w), c6] [] M v M' 0 0) : (ws < w ∧ v = some (.int be) ∧ M' = M) ∨ (¬ (ws < w) ∧ (∃ e1 v1 M1, e = e1 + 1 ∧ Ev none e1 17 0 [some (.ref 192), some (.int w), some (.int ws), none, none] [] M v1 M1 0 0 ∧ Ev none e 105 43 [some (.ref 0), some (.int ws), some (.int t), some (.int be), some (.int le), some (.int w), c6] (v1.toList ++ []) M1 v M' 0 0)) := by
  have H : Ev none e 105 (if ws < w then 79 else 33) [some (.ref 0), some (.int ws), some (.int t), some (.int be), some (.int le), some (.int w), c6] [] M v M' 0 0 := Ev.back 3 (fun n => rfl) H
  by_cases h1 : ws < w
  · rw [if_pos h1] at H
    have H : Ev none e 105 80 [some (.ref 0), some (.int ws), some (.int t), some (.int be), some (.int le), some (.int w), c6] [.int be] M v M' 0 0 := Ev.back 1 (fun n => rfl) H
    obtain ⟨z1, z2⟩ := Ev.retz rfl rfl H
    exact Or.inl ⟨h1, z1, z2⟩
  · rw [if_neg h1] at H
    have H : Ev none e 105 34 [some (.ref 0), some (.int ws), some (.int t), some (.int be), some (.int le), some (.int w), c6] [.ref 0] M v M' 0 0 := Ev.back 1 (fun n => rfl) H
    have H : Ev none e 105 37 [some (.ref 0), some (.int ws), some (.int t), some (.int be), some (.int le), some (.int w), c6] [.ref 192] M v M' 0 0 := Ev.back 1 (gs_3 rfl rfl (gf_u hS.1 qa_0 qr_0_4 qu_41 rfl)) H
    have H : Ev none e 105 40 [some (.ref 0), some (.int ws), some (.int t), some (.int be), some (.int le), some (.int w), c6] [.int ws, .int w, .ref 192] M v M' 0 0 := Ev.back 2 (fun n => rfl) H
    obtain ⟨e1, rfl⟩ := Ev.dpos rfl rfl H
    obtain ⟨vK2, MK2, K2, H⟩ := Ev.callb (fun n_ => gs_7 rfl rfl (show gCal (.invokevirtual 296) 10 (.int ws :: .int w :: .ref 192 :: []) M = some (.inr (17, [some (.ref 192), some (.int w), some (.int ws), none, none], [])) from by show @cond (Option ((List Value × Mem) ⊕ (Nat × Lo × List Value))) (true && gRecv M (.ref 192) 2 && gRoom [] && true) (some (.inr (17, [some (.ref 192), some (.int w), some (.int ws), none, none], []))) none = _; rw [recv_s hS.1 qa_192 qo_41]; rfl)) H
    have K2 : Ev none e1 17 0 [some (.ref 192), some (.int w), some (.int ws), none, none] [] M vK2 MK2 0 0 := K2
    have HF := H
    exact Or.inr (⟨h1, ⟨e1, vK2, MK2, rfl, K2, HF⟩⟩)
theorem wai_43 {e : Nat} {M M' : Mem} {v : Option Value} {ws t be le w p : Int32} {c6 : Option Value} (hS : SQ M) (H : Ev none e 105 43 [some (.ref 0), some (.int ws), some (.int t), some (.int be), some (.int le), some (.int w), c6] [.int p] M v M' 0 0) : (∃ e1 v1 M1, e = e1 + 1 ∧ Ev none e1 17 0 [some (.ref 192), some (.int ws), some (.int w), none, none] [] M v1 M1 0 0 ∧ Ev none e 105 53 [some (.ref 0), some (.int ws), some (.int t), some (.int be), some (.int le), some (.int w), c6] (v1.toList ++ [.int p]) M1 v M' 0 0) := by
  have H : Ev none e 105 44 [some (.ref 0), some (.int ws), some (.int t), some (.int be), some (.int le), some (.int w), c6] [.ref 0, .int p] M v M' 0 0 := Ev.back 1 (fun n => rfl) H
  have H : Ev none e 105 47 [some (.ref 0), some (.int ws), some (.int t), some (.int be), some (.int le), some (.int w), c6] [.ref 192, .int p] M v M' 0 0 := Ev.back 1 (gs_3 rfl rfl (gf_u hS.1 qa_0 qr_0_4 qu_41 rfl)) H
  have H : Ev none e 105 50 [some (.ref 0), some (.int ws), some (.int t), some (.int be), some (.int le), some (.int w), c6] [.int w, .int ws, .ref 192, .int p] M v M' 0 0 := Ev.back 2 (fun n => rfl) H
  obtain ⟨e1, rfl⟩ := Ev.dpos rfl rfl H
  obtain ⟨vK1, MK1, K1, H⟩ := Ev.callb (fun n_ => gs_7 rfl rfl (show gCal (.invokevirtual 296) 10 (.int w :: .int ws :: .ref 192 :: [.int p]) M = some (.inr (17, [some (.ref 192), some (.int ws), some (.int w), none, none], [.int p])) from by show @cond (Option ((List Value × Mem) ⊕ (Nat × Lo × List Value))) (true && gRecv M (.ref 192) 2 && gRoom [.int p] && true) (some (.inr (17, [some (.ref 192), some (.int ws), some (.int w), none, none], [.int p]))) none = _; rw [recv_s hS.1 qa_192 qo_41]; rfl)) H
  have K1 : Ev none e1 17 0 [some (.ref 192), some (.int ws), some (.int w), none, none] [] M vK1 MK1 0 0 := K1
  have HF := H
  exact ⟨e1, vK1, MK1, rfl, K1, HF⟩
theorem wai_53 {e : Nat} {M M' : Mem} {v : Option Value} {ws t be le w p q : Int32} {c6 : Option Value} (hS : SQ M) (H : Ev none e 105 53 [some (.ref 0), some (.int ws), some (.int t), some (.int be), some (.int le), some (.int w), c6] [.int q, .int p] M v M' 0 0) : (le ≤ ((p + q) + w) ∧ Ev none e 105 27 [some (.ref 0), some (.int ws), some (.int t), some (.int be), some (.int le), some (.int (w + 1)), some (.int ((p + q) + w))] [] M v M' 0 0) ∨ (¬ (le ≤ ((p + q) + w)) ∧ Ev none e 105 27 [some (.ref 0), some (.int ws), some (.int t), some (.int w), some (.int ((p + q) + w)), some (.int (w + 1)), some (.int ((p + q) + w))] [] M v M' 0 0) := by
  have H : Ev none e 105 (if le ≤ ((p + q) + w) then 73 else 66) [some (.ref 0), some (.int ws), some (.int t), some (.int be), some (.int le), some (.int w), some (.int ((p + q) + w))] [] M v M' 0 0 := Ev.back 7 (fun n => rfl) H
  by_cases h1 : le ≤ ((p + q) + w)
  · rw [if_pos h1] at H
    have H : Ev none e 105 27 [some (.ref 0), some (.int ws), some (.int t), some (.int be), some (.int le), some (.int (w + 1)), some (.int ((p + q) + w))] [] M v M' 0 0 := Ev.back 2 (fun n => rfl) H
    have HF := H
    exact Or.inl ⟨h1, HF⟩
  · rw [if_neg h1] at H
    have H : Ev none e 105 27 [some (.ref 0), some (.int ws), some (.int t), some (.int w), some (.int ((p + q) + w)), some (.int (w + 1)), some (.int ((p + q) + w))] [] M v M' 0 0 := Ev.back 6 (fun n => rfl) H
    have HF := H
    exact Or.inr (⟨h1, HF⟩)
theorem kwk_0 {e : Nat} {M M' : Mem} {v : Option Value} {ws t : Int32} (hS : SQ M) (H : Ev none e 107 0 [some (.ref 0), some (.int ws), some (.int t), none] [] M v M' 0 0) : (∃ e1 v1 M1, e = e1 + 1 ∧ Ev none e1 133 0 [some (.ref 0)] [] M v1 M1 0 0 ∧ Ev none e 107 4 [some (.ref 0), some (.int ws), some (.int t), none] (v1.toList ++ []) M1 v M' 0 0) := by
  have H : Ev none e 107 1 [some (.ref 0), some (.int ws), some (.int t), none] [.ref 0] M v M' 0 0 := Ev.back 1 (fun n => rfl) H
  obtain ⟨e1, rfl⟩ := Ev.dpos rfl rfl H
  obtain ⟨vK1, MK1, K1, H⟩ := Ev.callb (fun n_ => gs_7 rfl rfl (show gCal (.invokevirtual 287) 10 (.ref 0 :: []) M = some (.inr (133, [some (.ref 0)], [])) from by show @cond (Option ((List Value × Mem) ⊕ (Nat × Lo × List Value))) (true && gRecv M (.ref 0) 10 && gRoom [] && true) (some (.inr (133, [some (.ref 0)], []))) none = _; rw [recv_s hS.1 qa_0 qo_0]; rfl)) H
  have K1 : Ev none e1 133 0 [some (.ref 0)] [] M vK1 MK1 0 0 := K1
  have HF := H
  exact ⟨e1, vK1, MK1, rfl, K1, HF⟩
theorem kwk_4 {e : Nat} {M M' : Mem} {v : Option Value} {ws t : Int32} (hS : SQ M) (H : Ev none e 107 4 [some (.ref 0), some (.int ws), some (.int t), none] [] M v M' 0 0) : Ev none e 107 6 [some (.ref 0), some (.int ws), some (.int t), some (.int 1)] [] M v M' 0 0 := by
  have H : Ev none e 107 6 [some (.ref 0), some (.int ws), some (.int t), some (.int 1)] [] M v M' 0 0 := Ev.back 2 (fun n => rfl) H
  have HF := H
  exact HF
theorem kwk_6 {e : Nat} {M M' : Mem} {v : Option Value} {ws t n : Int32} (hS : SQ M) (H : Ev none e 107 6 [some (.ref 0), some (.int ws), some (.int t), some (.int n)] [] M v M' 0 0) : (ws < n ∧ v = none ∧ M' = M) ∨ (¬ (ws < n) ∧ (∃ e1 v1 M1, e = e1 + 1 ∧ Ev none e1 134 0 [some (.ref 0), some (.int t)] [] M v1 M1 0 0 ∧ Ev none e 107 16 [some (.ref 0), some (.int ws), some (.int t), some (.int n)] (v1.toList ++ []) M1 v M' 0 0)) := by
  have H : Ev none e 107 (if ws < n then 30 else 11) [some (.ref 0), some (.int ws), some (.int t), some (.int n)] [] M v M' 0 0 := Ev.back 3 (fun n => rfl) H
  by_cases h1 : ws < n
  · rw [if_pos h1] at H
    obtain ⟨z1, z2⟩ := Ev.retb (fun n => rfl) H
    exact Or.inl ⟨h1, z1, z2⟩
  · rw [if_neg h1] at H
    have H : Ev none e 107 13 [some (.ref 0), some (.int ws), some (.int t), some (.int n)] [.int t, .ref 0] M v M' 0 0 := Ev.back 2 (fun n => rfl) H
    obtain ⟨e1, rfl⟩ := Ev.dpos rfl rfl H
    obtain ⟨vK2, MK2, K2, H⟩ := Ev.callb (fun n_ => gs_7 rfl rfl (show gCal (.invokevirtual 293) 10 (.int t :: .ref 0 :: []) M = some (.inr (134, [some (.ref 0), some (.int t)], [])) from by show @cond (Option ((List Value × Mem) ⊕ (Nat × Lo × List Value))) (true && gRecv M (.ref 0) 10 && gRoom [] && true) (some (.inr (134, [some (.ref 0), some (.int t)], []))) none = _; rw [recv_s hS.1 qa_0 qo_0]; rfl)) H
    have K2 : Ev none e1 134 0 [some (.ref 0), some (.int t)] [] M vK2 MK2 0 0 := K2
    have HF := H
    exact Or.inr (⟨h1, ⟨e1, vK2, MK2, rfl, K2, HF⟩⟩)
theorem kwk_16 {e : Nat} {M M' : Mem} {v : Option Value} {ws t n : Int32} (hS : SQ M) (H : Ev none e 107 16 [some (.ref 0), some (.int ws), some (.int t), some (.int n)] [] M v M' 0 0) : (∃ e1 v1 M1, e = e1 + 1 ∧ Ev none e1 15 0 [some (.ref 192), some (.int n), none] [] M v1 M1 0 0 ∧ Ev none e 107 24 [some (.ref 0), some (.int ws), some (.int t), some (.int n)] (v1.toList ++ []) M1 v M' 0 0) := by
  have H : Ev none e 107 17 [some (.ref 0), some (.int ws), some (.int t), some (.int n)] [.ref 0] M v M' 0 0 := Ev.back 1 (fun n => rfl) H
  have H : Ev none e 107 20 [some (.ref 0), some (.int ws), some (.int t), some (.int n)] [.ref 192] M v M' 0 0 := Ev.back 1 (gs_3 rfl rfl (gf_u hS.1 qa_0 qr_0_4 qu_41 rfl)) H
  have H : Ev none e 107 21 [some (.ref 0), some (.int ws), some (.int t), some (.int n)] [.int n, .ref 192] M v M' 0 0 := Ev.back 1 (fun n => rfl) H
  obtain ⟨e1, rfl⟩ := Ev.dpos rfl rfl H
  obtain ⟨vK1, MK1, K1, H⟩ := Ev.callb (fun n_ => gs_7 rfl rfl (show gCal (.invokevirtual 290) 10 (.int n :: .ref 192 :: []) M = some (.inr (15, [some (.ref 192), some (.int n), none], [])) from by show @cond (Option ((List Value × Mem) ⊕ (Nat × Lo × List Value))) (true && gRecv M (.ref 192) 2 && gRoom [] && true) (some (.inr (15, [some (.ref 192), some (.int n), none], []))) none = _; rw [recv_s hS.1 qa_192 qo_41]; rfl)) H
  have K1 : Ev none e1 15 0 [some (.ref 192), some (.int n), none] [] M vK1 MK1 0 0 := K1
  have HF := H
  exact ⟨e1, vK1, MK1, rfl, K1, HF⟩
theorem kwk_24 {e : Nat} {M M' : Mem} {v : Option Value} {ws t n : Int32} (hS : SQ M) (H : Ev none e 107 24 [some (.ref 0), some (.int ws), some (.int t), some (.int n)] [] M v M' 0 0) : Ev none e 107 6 [some (.ref 0), some (.int ws), some (.int t), some (.int (n + 1))] [] M v M' 0 0 := by
  have H : Ev none e 107 6 [some (.ref 0), some (.int ws), some (.int t), some (.int (n + 1))] [] M v M' 0 0 := Ev.back 2 (fun n => rfl) H
  have HF := H
  exact HF
theorem fnc_0 {e : Nat} {M M' : Mem} {v : Option Value} {c t : Int32} (hS : SQ M) (H : Ev none e 108 0 [some (.ref 0), some (.int c), some (.int t), none] [] M v M' 0 0) : (∃ e1 v1 M1, e = e1 + 1 ∧ Ev none e1 109 0 [some (.ref 0), some (.int c), some (.int t), none, none] [] M v1 M1 0 0 ∧ Ev none e 108 6 [some (.ref 0), some (.int c), some (.int t), none] (v1.toList ++ []) M1 v M' 0 0) := by
  have H : Ev none e 108 3 [some (.ref 0), some (.int c), some (.int t), none] [.int t, .int c, .ref 0] M v M' 0 0 := Ev.back 3 (fun n => rfl) H
  obtain ⟨e1, rfl⟩ := Ev.dpos rfl rfl H
  obtain ⟨vK1, MK1, K1, H⟩ := Ev.callb (fun n_ => gs_7 rfl rfl (show gCal (.invokevirtual 327) 10 (.int t :: .int c :: .ref 0 :: []) M = some (.inr (109, [some (.ref 0), some (.int c), some (.int t), none, none], [])) from by show @cond (Option ((List Value × Mem) ⊕ (Nat × Lo × List Value))) (true && gRecv M (.ref 0) 10 && gRoom [] && true) (some (.inr (109, [some (.ref 0), some (.int c), some (.int t), none, none], []))) none = _; rw [recv_s hS.1 qa_0 qo_0]; rfl)) H
  have K1 : Ev none e1 109 0 [some (.ref 0), some (.int c), some (.int t), none, none] [] M vK1 MK1 0 0 := K1
  have HF := H
  exact ⟨e1, vK1, MK1, rfl, K1, HF⟩
theorem fnc_6 {e : Nat} {M M' : Mem} {v : Option Value} {c t r : Int32} (hS : SQ M) (H : Ev none e 108 6 [some (.ref 0), some (.int c), some (.int t), none] [.int r] M v M' 0 0) : (r = 0 ∧ v = some (.int (-2)) ∧ M' = (wF M 1 1 0)) ∨ (¬ (r = 0) ∧ (∃ e1 v1 M1, e = e1 + 1 ∧ Ev none e1 110 0 [some (.ref 0), some (.int c), some (.int t), none, none] [] M v1 M1 0 0 ∧ Ev none e 108 15 [some (.ref 0), some (.int c), some (.int t), none] (v1.toList ++ []) M1 v M' 0 0)) := by
  have H : Ev none e 108 (if r = 0 then 18 else 9) [some (.ref 0), some (.int c), some (.int t), none] [] M v M' 0 0 := Ev.back 1 (fun n => rfl) H
  by_cases h1 : r = 0
  · rw [if_pos h1] at H
    have H : Ev none e 108 22 [some (.ref 0), some (.int c), some (.int t), some (.int (-2))] [.ref 0] M v M' 0 0 := Ev.back 3 (fun n => rfl) H
    have H : Ev none e 108 25 [some (.ref 0), some (.int c), some (.int t), some (.int (-2))] [.ref 1] M v M' 0 0 := Ev.back 1 (gs_3 rfl rfl (gf_u hS.1 qa_0 qr_0_0 qu_1 rfl)) H
    have H : Ev none e 108 26 [some (.ref 0), some (.int c), some (.int t), some (.int (-2))] [.int 0, .ref 1] M v M' 0 0 := Ev.back 1 (fun n => rfl) H
    obtain ⟨N3, eN3⟩ : ∃ N, N = (wF M 1 1 0) := ⟨_, rfl⟩
    have hN3 : SQ N3 := by rw [eN3]; exact hS.kf
    have H : Ev none e 108 29 [some (.ref 0), some (.int c), some (.int t), some (.int (-2))] [] N3 v M' 0 0 := by rw [eN3]; exact Ev.pfi rfl rfl rfl hS.1 qa_1 qi_1_1 H
    have H : Ev none e 108 30 [some (.ref 0), some (.int c), some (.int t), some (.int (-2))] [.int (-2)] N3 v M' 0 0 := Ev.back 1 (fun n => rfl) H
    obtain ⟨z1, z2⟩ := Ev.retz rfl rfl H
    subst eN3
    exact Or.inl ⟨h1, z1, z2⟩
  · rw [if_neg h1] at H
    have H : Ev none e 108 12 [some (.ref 0), some (.int c), some (.int t), none] [.int t, .int c, .ref 0] M v M' 0 0 := Ev.back 3 (fun n => rfl) H
    obtain ⟨e1, rfl⟩ := Ev.dpos rfl rfl H
    obtain ⟨vK4, MK4, K4, H⟩ := Ev.callb (fun n_ => gs_7 rfl rfl (show gCal (.invokevirtual 330) 10 (.int t :: .int c :: .ref 0 :: []) M = some (.inr (110, [some (.ref 0), some (.int c), some (.int t), none, none], [])) from by show @cond (Option ((List Value × Mem) ⊕ (Nat × Lo × List Value))) (true && gRecv M (.ref 0) 10 && gRoom [] && true) (some (.inr (110, [some (.ref 0), some (.int c), some (.int t), none, none], []))) none = _; rw [recv_s hS.1 qa_0 qo_0]; rfl)) H
    have K4 : Ev none e1 110 0 [some (.ref 0), some (.int c), some (.int t), none, none] [] M vK4 MK4 0 0 := K4
    have HF := H
    exact Or.inr (⟨h1, ⟨e1, vK4, MK4, rfl, K4, HF⟩⟩)
theorem fnc_15 {e : Nat} {M M' : Mem} {v : Option Value} {c t r : Int32} (hS : SQ M) (H : Ev none e 108 15 [some (.ref 0), some (.int c), some (.int t), none] [.int r] M v M' 0 0) : v = some (.int r) ∧ M' = (wF M 1 1 0) := by
  have H : Ev none e 108 22 [some (.ref 0), some (.int c), some (.int t), some (.int r)] [.ref 0] M v M' 0 0 := Ev.back 3 (fun n => rfl) H
  have H : Ev none e 108 25 [some (.ref 0), some (.int c), some (.int t), some (.int r)] [.ref 1] M v M' 0 0 := Ev.back 1 (gs_3 rfl rfl (gf_u hS.1 qa_0 qr_0_0 qu_1 rfl)) H
  have H : Ev none e 108 26 [some (.ref 0), some (.int c), some (.int t), some (.int r)] [.int 0, .ref 1] M v M' 0 0 := Ev.back 1 (fun n => rfl) H
  obtain ⟨N2, eN2⟩ : ∃ N, N = (wF M 1 1 0) := ⟨_, rfl⟩
  have hN2 : SQ N2 := by rw [eN2]; exact hS.kf
  have H : Ev none e 108 29 [some (.ref 0), some (.int c), some (.int t), some (.int r)] [] N2 v M' 0 0 := by rw [eN2]; exact Ev.pfi rfl rfl rfl hS.1 qa_1 qi_1_1 H
  have H : Ev none e 108 30 [some (.ref 0), some (.int c), some (.int t), some (.int r)] [.int r] N2 v M' 0 0 := Ev.back 1 (fun n => rfl) H
  obtain ⟨z1, z2⟩ := Ev.retz rfl rfl H
  subst eN2
  exact ⟨z1, z2⟩
theorem fto_0 {e : Nat} {M M' : Mem} {v : Option Value} {c t : Int32} (hS : SQ M) (H : Ev none e 109 0 [some (.ref 0), some (.int c), some (.int t), none, none] [] M v M' 0 0) : (∃ e1 v1 M1, e = e1 + 1 ∧ Ev none e1 127 0 [some (.ref 0), some (.int c)] [] M v1 M1 0 0 ∧ Ev none e 109 5 [some (.ref 0), some (.int c), some (.int t), none, none] (v1.toList ++ []) M1 v M' 0 0) := by
  have H : Ev none e 109 2 [some (.ref 0), some (.int c), some (.int t), none, none] [.int c, .ref 0] M v M' 0 0 := Ev.back 2 (fun n => rfl) H
  obtain ⟨e1, rfl⟩ := Ev.dpos rfl rfl H
  obtain ⟨vK1, MK1, K1, H⟩ := Ev.callb (fun n_ => gs_7 rfl rfl (show gCal (.invokevirtual 113) 10 (.int c :: .ref 0 :: []) M = some (.inr (127, [some (.ref 0), some (.int c)], [])) from by show @cond (Option ((List Value × Mem) ⊕ (Nat × Lo × List Value))) (true && gRecv M (.ref 0) 10 && gRoom [] && true) (some (.inr (127, [some (.ref 0), some (.int c)], []))) none = _; rw [recv_s hS.1 qa_0 qo_0]; rfl)) H
  have K1 : Ev none e1 127 0 [some (.ref 0), some (.int c)] [] M vK1 MK1 0 0 := K1
  have HF := H
  exact ⟨e1, vK1, MK1, rfl, K1, HF⟩
theorem fto_5 {e : Nat} {M M' : Mem} {v : Option Value} {c t r : Int32} (hS : SQ M) (H : Ev none e 109 5 [some (.ref 0), some (.int c), some (.int t), none, none] [.int r] M v M' 0 0) : (r = 0 ∧ v = some (.int 0) ∧ M' = M) ∨ (¬ (r = 0) ∧ (G_126 M t 1 100) = 0 ∧ v = some (.int 0) ∧ M' = M) ∨ (¬ (r = 0) ∧ ¬ ((G_126 M t 1 100) = 0) ∧ (G_126 M (zI M 1 1) 1 12) = 0 ∧ v = some (.int 0) ∧ M' = M) ∨ (¬ (r = 0) ∧ ¬ ((G_126 M t 1 100) = 0) ∧ ¬ ((G_126 M (zI M 1 1) 1 12) = 0) ∧ Ev none e 109 38 [some (.ref 0), some (.int c), some (.int t), some (.int 0), none] [] M v M' 0 0) := by
  have H : Ev none e 109 (if r = 0 then 34 else 8) [some (.ref 0), some (.int c), some (.int t), none, none] [] M v M' 0 0 := Ev.back 1 (fun n => rfl) H
  by_cases h1 : r = 0
  · rw [if_pos h1] at H
    have H : Ev none e 109 35 [some (.ref 0), some (.int c), some (.int t), none, none] [.int 0] M v M' 0 0 := Ev.back 1 (fun n => rfl) H
    obtain ⟨z1, z2⟩ := Ev.retz rfl rfl H
    exact Or.inl ⟨h1, z1, z2⟩
  · rw [if_neg h1] at H
    have H : Ev none e 109 12 [some (.ref 0), some (.int c), some (.int t), none, none] [.int 100, .int 1, .int t] M v M' 0 0 := Ev.back 3 (fun n => rfl) H
    obtain ⟨e1, rfl⟩ := Ev.dpos rfl rfl H
    obtain ⟨vK2, MK2, K2, H⟩ := Ev.callb (fun n => rfl) H
    obtain ⟨pK2, qK2⟩ := g_126 hS K2
    rw [pK2, qK2] at H
    have H : Ev none (e1 + 1) 109 15 [some (.ref 0), some (.int c), some (.int t), none, none] [.int (G_126 M t 1 100)] M v M' 0 0 := H
    have H : Ev none (e1 + 1) 109 (if (G_126 M t 1 100) = 0 then 34 else 18) [some (.ref 0), some (.int c), some (.int t), none, none] [] M v M' 0 0 := Ev.back 1 (fun n => rfl) H
    by_cases h3 : (G_126 M t 1 100) = 0
    · rw [if_pos h3] at H
      have H : Ev none (e1 + 1) 109 35 [some (.ref 0), some (.int c), some (.int t), none, none] [.int 0] M v M' 0 0 := Ev.back 1 (fun n => rfl) H
      obtain ⟨z1, z2⟩ := Ev.retz rfl rfl H
      exact Or.inr (Or.inl ⟨h1, h3, z1, z2⟩)
    · rw [if_neg h3] at H
      have H : Ev none (e1 + 1) 109 19 [some (.ref 0), some (.int c), some (.int t), none, none] [.ref 0] M v M' 0 0 := Ev.back 1 (fun n => rfl) H
      have H : Ev none (e1 + 1) 109 22 [some (.ref 0), some (.int c), some (.int t), none, none] [.ref 1] M v M' 0 0 := Ev.back 1 (gs_3 rfl rfl (gf_u hS.1 qa_0 qr_0_0 qu_1 rfl)) H
      have H : Ev none (e1 + 1) 109 25 [some (.ref 0), some (.int c), some (.int t), none, none] [.int (zI M 1 1)] M v M' 0 0 := Ev.back 1 (gs_3 rfl rfl (gf_i hS.1 qa_1 qi_1_1 rfl)) H
      have H : Ev none (e1 + 1) 109 28 [some (.ref 0), some (.int c), some (.int t), none, none] [.int 12, .int 1, .int (zI M 1 1)] M v M' 0 0 := Ev.back 2 (fun n => rfl) H
      obtain ⟨vK4, MK4, K4, H⟩ := Ev.callb (fun n => rfl) H
      obtain ⟨pK4, qK4⟩ := g_126 hS K4
      rw [pK4, qK4] at H
      have H : Ev none (e1 + 1) 109 31 [some (.ref 0), some (.int c), some (.int t), none, none] [.int (G_126 M (zI M 1 1) 1 12)] M v M' 0 0 := H
      have H : Ev none (e1 + 1) 109 (if (G_126 M (zI M 1 1) 1 12) = 0 then 34 else 36) [some (.ref 0), some (.int c), some (.int t), none, none] [] M v M' 0 0 := Ev.back 1 (fun n => rfl) H
      by_cases h5 : (G_126 M (zI M 1 1) 1 12) = 0
      · rw [if_pos h5] at H
        have H : Ev none (e1 + 1) 109 35 [some (.ref 0), some (.int c), some (.int t), none, none] [.int 0] M v M' 0 0 := Ev.back 1 (fun n => rfl) H
        obtain ⟨z1, z2⟩ := Ev.retz rfl rfl H
        exact Or.inr (Or.inr (Or.inl ⟨h1, h3, h5, z1, z2⟩))
      · rw [if_neg h5] at H
        have H : Ev none (e1 + 1) 109 38 [some (.ref 0), some (.int c), some (.int t), some (.int 0), none] [] M v M' 0 0 := Ev.back 2 (fun n => rfl) H
        have HF := H
        exact Or.inr (Or.inr (Or.inr (⟨h1, h3, h5, HF⟩)))
theorem fto_38 {e : Nat} {M M' : Mem} {v : Option Value} {c t i : Int32} {c4 : Option Value} (hS : SQ M) (H : Ev none e 109 38 [some (.ref 0), some (.int c), some (.int t), some (.int i), c4] [] M v M' 0 0) : ((zI M 1 1) ≤ i ∧ v = some (.int 1) ∧ M' = M) ∨ (¬ ((zI M 1 1) ≤ i) ∧ (0 ≤ i.toInt ∧ i.toInt < 440) ∧ (∃ e1 v1 M1, e = e1 + 1 ∧ Ev none e1 127 0 [some (.ref 0), some (.int (rI M 2 i))] [] M v1 M1 0 0 ∧ Ev none e 109 66 [some (.ref 0), some (.int c), some (.int t), some (.int i), some (.int (rI M 2 i))] (v1.toList ++ []) M1 v M' 0 0)) := by
  have H : Ev none e 109 40 [some (.ref 0), some (.int c), some (.int t), some (.int i), c4] [.ref 0, .int i] M v M' 0 0 := Ev.back 2 (fun n => rfl) H
  have H : Ev none e 109 43 [some (.ref 0), some (.int c), some (.int t), some (.int i), c4] [.ref 1, .int i] M v M' 0 0 := Ev.back 1 (gs_3 rfl rfl (gf_u hS.1 qa_0 qr_0_0 qu_1 rfl)) H
  have H : Ev none e 109 46 [some (.ref 0), some (.int c), some (.int t), some (.int i), c4] [.int (zI M 1 1), .int i] M v M' 0 0 := Ev.back 1 (gs_3 rfl rfl (gf_i hS.1 qa_1 qi_1_1 rfl)) H
  have H : Ev none e 109 (if (zI M 1 1) ≤ i then 114 else 49) [some (.ref 0), some (.int c), some (.int t), some (.int i), c4] [] M v M' 0 0 := Ev.back 1 (fun n => rfl) H
  by_cases h1 : (zI M 1 1) ≤ i
  · rw [if_pos h1] at H
    have H : Ev none e 109 115 [some (.ref 0), some (.int c), some (.int t), some (.int i), c4] [.int 1] M v M' 0 0 := Ev.back 1 (fun n => rfl) H
    obtain ⟨z1, z2⟩ := Ev.retz rfl rfl H
    exact Or.inl ⟨h1, z1, z2⟩
  · rw [if_neg h1] at H
    have H : Ev none e 109 50 [some (.ref 0), some (.int c), some (.int t), some (.int i), c4] [.ref 0] M v M' 0 0 := Ev.back 1 (fun n => rfl) H
    have H : Ev none e 109 53 [some (.ref 0), some (.int c), some (.int t), some (.int i), c4] [.ref 1] M v M' 0 0 := Ev.back 1 (gs_3 rfl rfl (gf_u hS.1 qa_0 qr_0_0 qu_1 rfl)) H
    have H : Ev none e 109 56 [some (.ref 0), some (.int c), some (.int t), some (.int i), c4] [.ref 2] M v M' 0 0 := Ev.back 1 (gs_3 rfl rfl (gf_u hS.1 qa_1 qr_1_0 qu_2 rfl)) H
    have H : Ev none e 109 57 [some (.ref 0), some (.int c), some (.int t), some (.int i), c4] [.int i, .ref 2] M v M' 0 0 := Ev.back 1 (fun n => rfl) H
    obtain ⟨b2, H⟩ := Ev.ial rfl rfl hS.1 qa_2 qw_2 H
    have H : Ev none e 109 58 [some (.ref 0), some (.int c), some (.int t), some (.int i), c4] [.int (rI M 2 i)] M v M' 0 0 := H
    have H : Ev none e 109 63 [some (.ref 0), some (.int c), some (.int t), some (.int i), some (.int (rI M 2 i))] [.int (rI M 2 i), .ref 0] M v M' 0 0 := Ev.back 3 (fun n => rfl) H
    obtain ⟨e1, rfl⟩ := Ev.dpos rfl rfl H
    obtain ⟨vK3, MK3, K3, H⟩ := Ev.callb (fun n_ => gs_7 rfl rfl (show gCal (.invokevirtual 113) 10 (.int (rI M 2 i) :: .ref 0 :: []) M = some (.inr (127, [some (.ref 0), some (.int (rI M 2 i))], [])) from by show @cond (Option ((List Value × Mem) ⊕ (Nat × Lo × List Value))) (true && gRecv M (.ref 0) 10 && gRoom [] && true) (some (.inr (127, [some (.ref 0), some (.int (rI M 2 i))], []))) none = _; rw [recv_s hS.1 qa_0 qo_0]; rfl)) H
    have K3 : Ev none e1 127 0 [some (.ref 0), some (.int (rI M 2 i))] [] M vK3 MK3 0 0 := K3
    have HF := H
    exact Or.inr (⟨h1, b2, ⟨e1, vK3, MK3, rfl, K3, HF⟩⟩)
theorem fto_66 {e : Nat} {M M' : Mem} {v : Option Value} {c t i a r : Int32} (hS : SQ M) (hLd : fR M 0 2 = 8) (H : Ev none e 109 66 [some (.ref 0), some (.int c), some (.int t), some (.int i), some (.int a)] [.int r] M v M' 0 0) : (r = 0 ∧ v = some (.int 0) ∧ M' = M) ∨ (¬ (r = 0) ∧ (G_7 M 8 a) = 0 ∧ v = some (.int 0) ∧ M' = M) ∨ (¬ (r = 0) ∧ ¬ ((G_7 M 8 a) = 0) ∧ (∃ e1 v1 M1, e = e1 + 1 ∧ Ev none e1 9 0 [some (.ref 8), some (.int a), none] [] M v1 M1 0 0 ∧ Ev none e 109 90 [some (.ref 0), some (.int c), some (.int t), some (.int i), some (.int a)] (v1.toList ++ []) M1 v M' 0 0)) := by
  have H : Ev none e 109 (if r = 0 then 106 else 69) [some (.ref 0), some (.int c), some (.int t), some (.int i), some (.int a)] [] M v M' 0 0 := Ev.back 1 (fun n => rfl) H
  by_cases h1 : r = 0
  · rw [if_pos h1] at H
    have H : Ev none e 109 107 [some (.ref 0), some (.int c), some (.int t), some (.int i), some (.int a)] [.int 0] M v M' 0 0 := Ev.back 1 (fun n => rfl) H
    obtain ⟨z1, z2⟩ := Ev.retz rfl rfl H
    exact Or.inl ⟨h1, z1, z2⟩
  · rw [if_neg h1] at H
    have H : Ev none e 109 70 [some (.ref 0), some (.int c), some (.int t), some (.int i), some (.int a)] [.ref 0] M v M' 0 0 := Ev.back 1 (fun n => rfl) H
    have H : Ev none e 109 73 [some (.ref 0), some (.int c), some (.int t), some (.int i), some (.int a)] [.ref (fR M 0 2)] M v M' 0 0 := Ev.back 1 (gs_3 rfl rfl (gf_r hS.1 qa_0 qr_0_2 rfl)) H
    rw [hLd] at H
    have H : Ev none e 109 75 [some (.ref 0), some (.int c), some (.int t), some (.int i), some (.int a)] [.int a, .ref 8] M v M' 0 0 := Ev.back 1 (fun n => rfl) H
    obtain ⟨e1, rfl⟩ := Ev.dpos rfl rfl H
    obtain ⟨vK2, MK2, K2, H⟩ := Ev.callb (fun n_ => gs_7 rfl rfl (show gCal (.invokevirtual 117) 10 (.int a :: .ref 8 :: []) M = some (.inr (7, [some (.ref 8), some (.int a)], [])) from by show @cond (Option ((List Value × Mem) ⊕ (Nat × Lo × List Value))) (true && gRecv M (.ref 8) 1 && gRoom [] && true) (some (.inr (7, [some (.ref 8), some (.int a)], []))) none = _; rw [recv_s hS.1 qa_8 qo_8]; rfl)) H
    obtain ⟨pK2, qK2⟩ := g_7 hS qa_8 K2
    rw [pK2, qK2] at H
    have H : Ev none (e1 + 1) 109 78 [some (.ref 0), some (.int c), some (.int t), some (.int i), some (.int a)] [.int (G_7 M 8 a)] M v M' 0 0 := H
    have H : Ev none (e1 + 1) 109 (if (G_7 M 8 a) = 0 then 106 else 81) [some (.ref 0), some (.int c), some (.int t), some (.int i), some (.int a)] [] M v M' 0 0 := Ev.back 1 (fun n => rfl) H
    by_cases h3 : (G_7 M 8 a) = 0
    · rw [if_pos h3] at H
      have H : Ev none (e1 + 1) 109 107 [some (.ref 0), some (.int c), some (.int t), some (.int i), some (.int a)] [.int 0] M v M' 0 0 := Ev.back 1 (fun n => rfl) H
      obtain ⟨z1, z2⟩ := Ev.retz rfl rfl H
      exact Or.inr (Or.inl ⟨h1, h3, z1, z2⟩)
    · rw [if_neg h3] at H
      have H : Ev none (e1 + 1) 109 82 [some (.ref 0), some (.int c), some (.int t), some (.int i), some (.int a)] [.ref 0] M v M' 0 0 := Ev.back 1 (fun n => rfl) H
      have H : Ev none (e1 + 1) 109 85 [some (.ref 0), some (.int c), some (.int t), some (.int i), some (.int a)] [.ref (fR M 0 2)] M v M' 0 0 := Ev.back 1 (gs_3 rfl rfl (gf_r hS.1 qa_0 qr_0_2 rfl)) H
      rw [hLd] at H
      have H : Ev none (e1 + 1) 109 87 [some (.ref 0), some (.int c), some (.int t), some (.int i), some (.int a)] [.int a, .ref 8] M v M' 0 0 := Ev.back 1 (fun n => rfl) H
      obtain ⟨vK4, MK4, K4, H⟩ := Ev.callb (fun n_ => gs_7 rfl rfl (show gCal (.invokevirtual 120) 10 (.int a :: .ref 8 :: []) M = some (.inr (9, [some (.ref 8), some (.int a), none], [])) from by show @cond (Option ((List Value × Mem) ⊕ (Nat × Lo × List Value))) (true && gRecv M (.ref 8) 1 && gRoom [] && true) (some (.inr (9, [some (.ref 8), some (.int a), none], []))) none = _; rw [recv_s hS.1 qa_8 qo_8]; rfl)) H
      have K4 : Ev none e1 9 0 [some (.ref 8), some (.int a), none] [] M vK4 MK4 0 0 := K4
      have HF := H
      exact Or.inr (Or.inr (⟨h1, h3, ⟨e1, vK4, MK4, rfl, K4, HF⟩⟩))
theorem fto_90 {e : Nat} {M M' : Mem} {v : Option Value} {c t i a r : Int32} (hS : SQ M) (hLd : fR M 0 2 = 8) (H : Ev none e 109 90 [some (.ref 0), some (.int c), some (.int t), some (.int i), some (.int a)] [.int r] M v M' 0 0) : (r = 0 ∧ (rI M (8 + 8) a) ≤ 0 ∧ (0 ≤ a.toInt ∧ a.toInt < 256) ∧ Ev none e 109 38 [some (.ref 0), some (.int c), some (.int t), some (.int (i + 1)), some (.int a)] [] M v M' 0 0) ∨ (r = 0 ∧ ¬ ((rI M (8 + 8) a) ≤ 0) ∧ (0 ≤ a.toInt ∧ a.toInt < 256) ∧ v = some (.int 0) ∧ M' = M) ∨ (¬ (r = 0) ∧ v = some (.int 0) ∧ M' = M) := by
  have H : Ev none e 109 (if r = 0 then 93 else 106) [some (.ref 0), some (.int c), some (.int t), some (.int i), some (.int a)] [] M v M' 0 0 := Ev.back 1 (fun n => rfl) H
  by_cases h1 : r = 0
  · rw [if_pos h1] at H
    have H : Ev none e 109 94 [some (.ref 0), some (.int c), some (.int t), some (.int i), some (.int a)] [.ref 0] M v M' 0 0 := Ev.back 1 (fun n => rfl) H
    have H : Ev none e 109 97 [some (.ref 0), some (.int c), some (.int t), some (.int i), some (.int a)] [.ref (fR M 0 2)] M v M' 0 0 := Ev.back 1 (gs_3 rfl rfl (gf_r hS.1 qa_0 qr_0_2 rfl)) H
    rw [hLd] at H
    have H : Ev none e 109 100 [some (.ref 0), some (.int c), some (.int t), some (.int i), some (.int a)] [.ref (8 + 8)] M v M' 0 0 := Ev.back 1 (gs_3 rfl rfl (gf_x hS.1 qa_8 qo_8 (fx_l9 hS qa_8) rfl)) H
    have H : Ev none e 109 102 [some (.ref 0), some (.int c), some (.int t), some (.int i), some (.int a)] [.int a, .ref (8 + 8)] M v M' 0 0 := Ev.back 1 (fun n => rfl) H
    obtain ⟨b2, H⟩ := Ev.ial rfl rfl hS.1 (fx_h9 qa_8) qw_16 H
    have H : Ev none e 109 103 [some (.ref 0), some (.int c), some (.int t), some (.int i), some (.int a)] [.int (rI M (8 + 8) a)] M v M' 0 0 := H
    have H : Ev none e 109 (if (rI M (8 + 8) a) ≤ 0 then 108 else 106) [some (.ref 0), some (.int c), some (.int t), some (.int i), some (.int a)] [] M v M' 0 0 := Ev.back 1 (fun n => rfl) H
    by_cases h3 : (rI M (8 + 8) a) ≤ 0
    · rw [if_pos h3] at H
      have H : Ev none e 109 38 [some (.ref 0), some (.int c), some (.int t), some (.int (i + 1)), some (.int a)] [] M v M' 0 0 := Ev.back 2 (fun n => rfl) H
      have HF := H
      exact Or.inl ⟨h1, h3, b2, HF⟩
    · rw [if_neg h3] at H
      have H : Ev none e 109 107 [some (.ref 0), some (.int c), some (.int t), some (.int i), some (.int a)] [.int 0] M v M' 0 0 := Ev.back 1 (fun n => rfl) H
      obtain ⟨z1, z2⟩ := Ev.retz rfl rfl H
      exact Or.inr (Or.inl ⟨h1, h3, b2, z1, z2⟩)
  · rw [if_neg h1] at H
    have H : Ev none e 109 107 [some (.ref 0), some (.int c), some (.int t), some (.int i), some (.int a)] [.int 0] M v M' 0 0 := Ev.back 1 (fun n => rfl) H
    obtain ⟨z1, z2⟩ := Ev.retz rfl rfl H
    exact Or.inr (Or.inr (⟨h1, z1, z2⟩))
theorem ffe_0 {e : Nat} {M M' : Mem} {v : Option Value} {c t : Int32} (hS : SQ M) (H : Ev none e 110 0 [some (.ref 0), some (.int c), some (.int t), none, none] [] M v M' 0 0) : (∃ e1 v1 M1, e = e1 + 1 ∧ Ev none e1 111 0 [some (.ref 0), some (.int c), some (.int t), some (.int (-1)), some (.int (-1))] [] M v1 M1 0 0 ∧ Ev none e 110 8 [some (.ref 0), some (.int c), some (.int t), none, none] (v1.toList ++ []) M1 v M' 0 0) := by
  have H : Ev none e 110 5 [some (.ref 0), some (.int c), some (.int t), none, none] [.int (-1), .int (-1), .int t, .int c, .ref 0] M v M' 0 0 := Ev.back 5 (fun n => rfl) H
  obtain ⟨e1, rfl⟩ := Ev.dpos rfl rfl H
  obtain ⟨vK1, MK1, K1, H⟩ := Ev.callb (fun n_ => gs_7 rfl rfl (show gCal (.invokevirtual 333) 10 (.int (-1) :: .int (-1) :: .int t :: .int c :: .ref 0 :: []) M = some (.inr (111, [some (.ref 0), some (.int c), some (.int t), some (.int (-1)), some (.int (-1))], [])) from by show @cond (Option ((List Value × Mem) ⊕ (Nat × Lo × List Value))) (true && gRecv M (.ref 0) 10 && gRoom [] && true) (some (.inr (111, [some (.ref 0), some (.int c), some (.int t), some (.int (-1)), some (.int (-1))], []))) none = _; rw [recv_s hS.1 qa_0 qo_0]; rfl)) H
  have K1 : Ev none e1 111 0 [some (.ref 0), some (.int c), some (.int t), some (.int (-1)), some (.int (-1))] [] M vK1 MK1 0 0 := K1
  have HF := H
  exact ⟨e1, vK1, MK1, rfl, K1, HF⟩
noncomputable def A_112 (M : Mem) (n : Int32) (a : Int32) (b : Int32) : Int32 := n
noncomputable def X_112 (M : Mem) (n : Int32) (a : Int32) (b : Int32) : Mem := (wI (wI (wF M 0 14 n) 343 ((0 : Int32).toNatClampNeg) a) 343 ((1 : Int32).toNatClampNeg) b)
theorem g_112 {e : Nat} {M M' : Mem} {v : Option Value} {n a b : Int32} (hS : SQ M) (H : Ev none e 112 0 [some (.ref 0), some (.int n), some (.int a), some (.int b)] [] M v M' 0 0) : v = some (.int (A_112 M n a b)) ∧ M' = X_112 M n a b := by
  unfold A_112 X_112
  have H : Ev none e 112 2 [some (.ref 0), some (.int n), some (.int a), some (.int b)] [.int n, .ref 0] M v M' 0 0 := Ev.back 2 (fun n => rfl) H
  obtain ⟨N2, eN2⟩ : ∃ N, N = (wF M 0 14 n) := ⟨_, rfl⟩
  have hN2 : SQ N2 := by rw [eN2]; exact hS.kf
  have H : Ev none e 112 5 [some (.ref 0), some (.int n), some (.int a), some (.int b)] [] N2 v M' 0 0 := by rw [eN2]; exact Ev.pfi rfl rfl rfl hS.1 qa_0 qi_0_14 H
  have H : Ev none e 112 6 [some (.ref 0), some (.int n), some (.int a), some (.int b)] [.ref 0] N2 v M' 0 0 := Ev.back 1 (fun n => rfl) H
  have H : Ev none e 112 9 [some (.ref 0), some (.int n), some (.int a), some (.int b)] [.ref 343] N2 v M' 0 0 := Ev.back 1 (gs_3 rfl rfl (gf_u hN2.1 qa_0 qr_0_11 qu_59 rfl)) H
  have H : Ev none e 112 11 [some (.ref 0), some (.int n), some (.int a), some (.int b)] [.int a, .int 0, .ref 343] N2 v M' 0 0 := Ev.back 2 (fun n => rfl) H
  obtain ⟨b3, H⟩ := Ev.ias rfl rfl hN2.1 qa_343 qw_59 H
  obtain ⟨N4, eN4⟩ : ∃ N, N = (wI N2 343 ((0 : Int32).toNatClampNeg) a) := ⟨_, rfl⟩
  have hN4 : SQ N4 := by rw [eN4]; exact hN2.ki
  have H : Ev none e 112 12 [some (.ref 0), some (.int n), some (.int a), some (.int b)] [] N4 v M' 0 0 := by rw [eN4]; exact H
  have H : Ev none e 112 13 [some (.ref 0), some (.int n), some (.int a), some (.int b)] [.ref 0] N4 v M' 0 0 := Ev.back 1 (fun n => rfl) H
  have H : Ev none e 112 16 [some (.ref 0), some (.int n), some (.int a), some (.int b)] [.ref 343] N4 v M' 0 0 := Ev.back 1 (gs_3 rfl rfl (gf_u hN4.1 qa_0 qr_0_11 qu_59 rfl)) H
  have H : Ev none e 112 18 [some (.ref 0), some (.int n), some (.int a), some (.int b)] [.int b, .int 1, .ref 343] N4 v M' 0 0 := Ev.back 2 (fun n => rfl) H
  obtain ⟨b5, H⟩ := Ev.ias rfl rfl hN4.1 qa_343 qw_59 H
  obtain ⟨N6, eN6⟩ : ∃ N, N = (wI N4 343 ((1 : Int32).toNatClampNeg) b) := ⟨_, rfl⟩
  have hN6 : SQ N6 := by rw [eN6]; exact hN4.ki
  have H : Ev none e 112 19 [some (.ref 0), some (.int n), some (.int a), some (.int b)] [] N6 v M' 0 0 := by rw [eN6]; exact H
  have H : Ev none e 112 20 [some (.ref 0), some (.int n), some (.int a), some (.int b)] [.int n] N6 v M' 0 0 := Ev.back 1 (fun n => rfl) H
  obtain ⟨p1, p2⟩ := Ev.retz rfl rfl H
  subst eN2 eN4 eN6
  exact ⟨p1, p2⟩
theorem X_112_sx {M : Mem} {n a b : Int32} (hS : SQ M) : SQ (X_112 M n a b) := by
  unfold X_112
  exact ((hS.kf).ki).ki
theorem ffe_8 {e : Nat} {M M' : Mem} {v : Option Value} {c t r : Int32} (hS : SQ M) (H : Ev none e 110 8 [some (.ref 0), some (.int c), some (.int t), none, none] [.int r] M v M' 0 0) : (r = 0 ∧ Ev none e 110 21 [some (.ref 0), some (.int c), some (.int t), some (.int 0), none] [] M v M' 0 0) ∨ (¬ (r = 0) ∧ v = some (.int (A_112 M 0 (-1) (-1))) ∧ M' = (X_112 M 0 (-1) (-1))) := by
  have H : Ev none e 110 (if r = 0 then 19 else 11) [some (.ref 0), some (.int c), some (.int t), none, none] [] M v M' 0 0 := Ev.back 1 (fun n => rfl) H
  by_cases h1 : r = 0
  · rw [if_pos h1] at H
    have H : Ev none e 110 21 [some (.ref 0), some (.int c), some (.int t), some (.int 0), none] [] M v M' 0 0 := Ev.back 2 (fun n => rfl) H
    have HF := H
    exact Or.inl ⟨h1, HF⟩
  · rw [if_neg h1] at H
    have H : Ev none e 110 15 [some (.ref 0), some (.int c), some (.int t), none, none] [.int (-1), .int (-1), .int 0, .ref 0] M v M' 0 0 := Ev.back 4 (fun n => rfl) H
    obtain ⟨e1, rfl⟩ := Ev.dpos rfl rfl H
    obtain ⟨vK2, MK2, K2, H⟩ := Ev.callb (fun n_ => gs_7 rfl rfl (show gCal (.invokevirtual 337) 10 (.int (-1) :: .int (-1) :: .int 0 :: .ref 0 :: []) M = some (.inr (112, [some (.ref 0), some (.int 0), some (.int (-1)), some (.int (-1))], [])) from by show @cond (Option ((List Value × Mem) ⊕ (Nat × Lo × List Value))) (true && gRecv M (.ref 0) 10 && gRoom [] && true) (some (.inr (112, [some (.ref 0), some (.int 0), some (.int (-1)), some (.int (-1))], []))) none = _; rw [recv_s hS.1 qa_0 qo_0]; rfl)) H
    obtain ⟨pK2, qK2⟩ := g_112 hS K2
    rw [pK2, qK2] at H
    obtain ⟨N3, eN3⟩ : ∃ N, N = (X_112 M 0 (-1) (-1)) := ⟨_, rfl⟩
    have hN3 : SQ N3 := by rw [eN3]; exact X_112_sx hS
    rw [← eN3] at H
    have H : Ev none (e1 + 1) 110 18 [some (.ref 0), some (.int c), some (.int t), none, none] [.int (A_112 M 0 (-1) (-1))] N3 v M' 0 0 := H
    obtain ⟨z1, z2⟩ := Ev.retz rfl rfl H
    subst eN3
    exact Or.inr (⟨h1, z1, z2⟩)
theorem ffe_21 {e : Nat} {M M' : Mem} {v : Option Value} {c t i : Int32} {c4 : Option Value} (hS : SQ M) (H : Ev none e 110 21 [some (.ref 0), some (.int c), some (.int t), some (.int i), c4] [] M v M' 0 0) : ((zI M 1 1) ≤ i ∧ Ev none e 110 75 [some (.ref 0), some (.int c), some (.int t), some (.int 0), c4] [] M v M' 0 0) ∨ (¬ ((zI M 1 1) ≤ i) ∧ (0 ≤ i.toInt ∧ i.toInt < 440) ∧ (∃ e1 v1 M1, e = e1 + 1 ∧ Ev none e1 111 0 [some (.ref 0), some (.int c), some (.int t), some (.int (rI M 2 i)), some (.int (-1))] [] M v1 M1 0 0 ∧ Ev none e 110 48 [some (.ref 0), some (.int c), some (.int t), some (.int i), c4] (v1.toList ++ []) M1 v M' 0 0)) := by
  have H : Ev none e 110 23 [some (.ref 0), some (.int c), some (.int t), some (.int i), c4] [.ref 0, .int i] M v M' 0 0 := Ev.back 2 (fun n => rfl) H
  have H : Ev none e 110 26 [some (.ref 0), some (.int c), some (.int t), some (.int i), c4] [.ref 1, .int i] M v M' 0 0 := Ev.back 1 (gs_3 rfl rfl (gf_u hS.1 qa_0 qr_0_0 qu_1 rfl)) H
  have H : Ev none e 110 29 [some (.ref 0), some (.int c), some (.int t), some (.int i), c4] [.int (zI M 1 1), .int i] M v M' 0 0 := Ev.back 1 (gs_3 rfl rfl (gf_i hS.1 qa_1 qi_1_1 rfl)) H
  have H : Ev none e 110 (if (zI M 1 1) ≤ i then 73 else 32) [some (.ref 0), some (.int c), some (.int t), some (.int i), c4] [] M v M' 0 0 := Ev.back 1 (fun n => rfl) H
  by_cases h1 : (zI M 1 1) ≤ i
  · rw [if_pos h1] at H
    have H : Ev none e 110 75 [some (.ref 0), some (.int c), some (.int t), some (.int 0), c4] [] M v M' 0 0 := Ev.back 2 (fun n => rfl) H
    have HF := H
    exact Or.inl ⟨h1, HF⟩
  · rw [if_neg h1] at H
    have H : Ev none e 110 36 [some (.ref 0), some (.int c), some (.int t), some (.int i), c4] [.ref 0, .int t, .int c, .ref 0] M v M' 0 0 := Ev.back 4 (fun n => rfl) H
    have H : Ev none e 110 39 [some (.ref 0), some (.int c), some (.int t), some (.int i), c4] [.ref 1, .int t, .int c, .ref 0] M v M' 0 0 := Ev.back 1 (gs_3 rfl rfl (gf_u hS.1 qa_0 qr_0_0 qu_1 rfl)) H
    have H : Ev none e 110 42 [some (.ref 0), some (.int c), some (.int t), some (.int i), c4] [.ref 2, .int t, .int c, .ref 0] M v M' 0 0 := Ev.back 1 (gs_3 rfl rfl (gf_u hS.1 qa_1 qr_1_0 qu_2 rfl)) H
    have H : Ev none e 110 43 [some (.ref 0), some (.int c), some (.int t), some (.int i), c4] [.int i, .ref 2, .int t, .int c, .ref 0] M v M' 0 0 := Ev.back 1 (fun n => rfl) H
    obtain ⟨b2, H⟩ := Ev.ial rfl rfl hS.1 qa_2 qw_2 H
    have H : Ev none e 110 44 [some (.ref 0), some (.int c), some (.int t), some (.int i), c4] [.int (rI M 2 i), .int t, .int c, .ref 0] M v M' 0 0 := H
    have H : Ev none e 110 45 [some (.ref 0), some (.int c), some (.int t), some (.int i), c4] [.int (-1), .int (rI M 2 i), .int t, .int c, .ref 0] M v M' 0 0 := Ev.back 1 (fun n => rfl) H
    obtain ⟨e1, rfl⟩ := Ev.dpos rfl rfl H
    obtain ⟨vK3, MK3, K3, H⟩ := Ev.callb (fun n_ => gs_7 rfl rfl (show gCal (.invokevirtual 333) 10 (.int (-1) :: .int (rI M 2 i) :: .int t :: .int c :: .ref 0 :: []) M = some (.inr (111, [some (.ref 0), some (.int c), some (.int t), some (.int (rI M 2 i)), some (.int (-1))], [])) from by show @cond (Option ((List Value × Mem) ⊕ (Nat × Lo × List Value))) (true && gRecv M (.ref 0) 10 && gRoom [] && true) (some (.inr (111, [some (.ref 0), some (.int c), some (.int t), some (.int (rI M 2 i)), some (.int (-1))], []))) none = _; rw [recv_s hS.1 qa_0 qo_0]; rfl)) H
    have K3 : Ev none e1 111 0 [some (.ref 0), some (.int c), some (.int t), some (.int (rI M 2 i)), some (.int (-1))] [] M vK3 MK3 0 0 := K3
    have HF := H
    exact Or.inr (⟨h1, b2, ⟨e1, vK3, MK3, rfl, K3, HF⟩⟩)
theorem ffe_48 {e : Nat} {M M' : Mem} {v : Option Value} {c t i r : Int32} {c4 : Option Value} (hS : SQ M) (H : Ev none e 110 48 [some (.ref 0), some (.int c), some (.int t), some (.int i), c4] [.int r] M v M' 0 0) : (r = 0 ∧ Ev none e 110 21 [some (.ref 0), some (.int c), some (.int t), some (.int (i + 1)), c4] [] M v M' 0 0) ∨ (¬ (r = 0) ∧ (0 ≤ i.toInt ∧ i.toInt < 440) ∧ v = some (.int (A_112 M 1 (rI M 2 i) (-1))) ∧ M' = (X_112 M 1 (rI M 2 i) (-1))) := by
  have H : Ev none e 110 (if r = 0 then 67 else 51) [some (.ref 0), some (.int c), some (.int t), some (.int i), c4] [] M v M' 0 0 := Ev.back 1 (fun n => rfl) H
  by_cases h1 : r = 0
  · rw [if_pos h1] at H
    have H : Ev none e 110 21 [some (.ref 0), some (.int c), some (.int t), some (.int (i + 1)), c4] [] M v M' 0 0 := Ev.back 2 (fun n => rfl) H
    have HF := H
    exact Or.inl ⟨h1, HF⟩
  · rw [if_neg h1] at H
    have H : Ev none e 110 54 [some (.ref 0), some (.int c), some (.int t), some (.int i), c4] [.ref 0, .int 1, .ref 0] M v M' 0 0 := Ev.back 3 (fun n => rfl) H
    have H : Ev none e 110 57 [some (.ref 0), some (.int c), some (.int t), some (.int i), c4] [.ref 1, .int 1, .ref 0] M v M' 0 0 := Ev.back 1 (gs_3 rfl rfl (gf_u hS.1 qa_0 qr_0_0 qu_1 rfl)) H
    have H : Ev none e 110 60 [some (.ref 0), some (.int c), some (.int t), some (.int i), c4] [.ref 2, .int 1, .ref 0] M v M' 0 0 := Ev.back 1 (gs_3 rfl rfl (gf_u hS.1 qa_1 qr_1_0 qu_2 rfl)) H
    have H : Ev none e 110 61 [some (.ref 0), some (.int c), some (.int t), some (.int i), c4] [.int i, .ref 2, .int 1, .ref 0] M v M' 0 0 := Ev.back 1 (fun n => rfl) H
    obtain ⟨b2, H⟩ := Ev.ial rfl rfl hS.1 qa_2 qw_2 H
    have H : Ev none e 110 62 [some (.ref 0), some (.int c), some (.int t), some (.int i), c4] [.int (rI M 2 i), .int 1, .ref 0] M v M' 0 0 := H
    have H : Ev none e 110 63 [some (.ref 0), some (.int c), some (.int t), some (.int i), c4] [.int (-1), .int (rI M 2 i), .int 1, .ref 0] M v M' 0 0 := Ev.back 1 (fun n => rfl) H
    obtain ⟨e1, rfl⟩ := Ev.dpos rfl rfl H
    obtain ⟨vK3, MK3, K3, H⟩ := Ev.callb (fun n_ => gs_7 rfl rfl (show gCal (.invokevirtual 337) 10 (.int (-1) :: .int (rI M 2 i) :: .int 1 :: .ref 0 :: []) M = some (.inr (112, [some (.ref 0), some (.int 1), some (.int (rI M 2 i)), some (.int (-1))], [])) from by show @cond (Option ((List Value × Mem) ⊕ (Nat × Lo × List Value))) (true && gRecv M (.ref 0) 10 && gRoom [] && true) (some (.inr (112, [some (.ref 0), some (.int 1), some (.int (rI M 2 i)), some (.int (-1))], []))) none = _; rw [recv_s hS.1 qa_0 qo_0]; rfl)) H
    obtain ⟨pK3, qK3⟩ := g_112 hS K3
    rw [pK3, qK3] at H
    obtain ⟨N4, eN4⟩ : ∃ N, N = (X_112 M 1 (rI M 2 i) (-1)) := ⟨_, rfl⟩
    have hN4 : SQ N4 := by rw [eN4]; exact X_112_sx hS
    rw [← eN4] at H
    have H : Ev none (e1 + 1) 110 66 [some (.ref 0), some (.int c), some (.int t), some (.int i), c4] [.int (A_112 M 1 (rI M 2 i) (-1))] N4 v M' 0 0 := H
    obtain ⟨z1, z2⟩ := Ev.retz rfl rfl H
    subst eN4
    exact Or.inr (⟨h1, b2, z1, z2⟩)
theorem ffe_75 {e : Nat} {M M' : Mem} {v : Option Value} {c t i : Int32} {c4 : Option Value} (hS : SQ M) (H : Ev none e 110 75 [some (.ref 0), some (.int c), some (.int t), some (.int i), c4] [] M v M' 0 0) : ((zI M 1 1) ≤ i ∧ v = some (.int (-1)) ∧ M' = M) ∨ (¬ ((zI M 1 1) ≤ i) ∧ Ev none e 110 91 [some (.ref 0), some (.int c), some (.int t), some (.int i), some (.int (i + 1))] [] M v M' 0 0) := by
  have H : Ev none e 110 77 [some (.ref 0), some (.int c), some (.int t), some (.int i), c4] [.ref 0, .int i] M v M' 0 0 := Ev.back 2 (fun n => rfl) H
  have H : Ev none e 110 80 [some (.ref 0), some (.int c), some (.int t), some (.int i), c4] [.ref 1, .int i] M v M' 0 0 := Ev.back 1 (gs_3 rfl rfl (gf_u hS.1 qa_0 qr_0_0 qu_1 rfl)) H
  have H : Ev none e 110 83 [some (.ref 0), some (.int c), some (.int t), some (.int i), c4] [.int (zI M 1 1), .int i] M v M' 0 0 := Ev.back 1 (gs_3 rfl rfl (gf_i hS.1 qa_1 qi_1_1 rfl)) H
  have H : Ev none e 110 (if (zI M 1 1) ≤ i then 168 else 86) [some (.ref 0), some (.int c), some (.int t), some (.int i), c4] [] M v M' 0 0 := Ev.back 1 (fun n => rfl) H
  by_cases h1 : (zI M 1 1) ≤ i
  · rw [if_pos h1] at H
    have H : Ev none e 110 169 [some (.ref 0), some (.int c), some (.int t), some (.int i), c4] [.int (-1)] M v M' 0 0 := Ev.back 1 (fun n => rfl) H
    obtain ⟨z1, z2⟩ := Ev.retz rfl rfl H
    exact Or.inl ⟨h1, z1, z2⟩
  · rw [if_neg h1] at H
    have H : Ev none e 110 91 [some (.ref 0), some (.int c), some (.int t), some (.int i), some (.int (i + 1))] [] M v M' 0 0 := Ev.back 4 (fun n => rfl) H
    have HF := H
    exact Or.inr (⟨h1, HF⟩)
theorem ffe_91 {e : Nat} {M M' : Mem} {v : Option Value} {c t i j : Int32} (hS : SQ M) (H : Ev none e 110 91 [some (.ref 0), some (.int c), some (.int t), some (.int i), some (.int j)] [] M v M' 0 0) : ((zI M 1 1) ≤ j ∧ Ev none e 110 75 [some (.ref 0), some (.int c), some (.int t), some (.int (i + 1)), some (.int j)] [] M v M' 0 0) ∨ (¬ ((zI M 1 1) ≤ j) ∧ (0 ≤ i.toInt ∧ i.toInt < 440) ∧ (0 ≤ j.toInt ∧ j.toInt < 440) ∧ (∃ e1 v1 M1, e = e1 + 1 ∧ Ev none e1 111 0 [some (.ref 0), some (.int c), some (.int t), some (.int (rI M 2 i)), some (.int (rI M 2 j))] [] M v1 M1 0 0 ∧ Ev none e 110 128 [some (.ref 0), some (.int c), some (.int t), some (.int i), some (.int j)] (v1.toList ++ []) M1 v M' 0 0)) := by
  have H : Ev none e 110 94 [some (.ref 0), some (.int c), some (.int t), some (.int i), some (.int j)] [.ref 0, .int j] M v M' 0 0 := Ev.back 2 (fun n => rfl) H
  have H : Ev none e 110 97 [some (.ref 0), some (.int c), some (.int t), some (.int i), some (.int j)] [.ref 1, .int j] M v M' 0 0 := Ev.back 1 (gs_3 rfl rfl (gf_u hS.1 qa_0 qr_0_0 qu_1 rfl)) H
  have H : Ev none e 110 100 [some (.ref 0), some (.int c), some (.int t), some (.int i), some (.int j)] [.int (zI M 1 1), .int j] M v M' 0 0 := Ev.back 1 (gs_3 rfl rfl (gf_i hS.1 qa_1 qi_1_1 rfl)) H
  have H : Ev none e 110 (if (zI M 1 1) ≤ j then 162 else 103) [some (.ref 0), some (.int c), some (.int t), some (.int i), some (.int j)] [] M v M' 0 0 := Ev.back 1 (fun n => rfl) H
  by_cases h1 : (zI M 1 1) ≤ j
  · rw [if_pos h1] at H
    have H : Ev none e 110 75 [some (.ref 0), some (.int c), some (.int t), some (.int (i + 1)), some (.int j)] [] M v M' 0 0 := Ev.back 2 (fun n => rfl) H
    have HF := H
    exact Or.inl ⟨h1, HF⟩
  · rw [if_neg h1] at H
    have H : Ev none e 110 107 [some (.ref 0), some (.int c), some (.int t), some (.int i), some (.int j)] [.ref 0, .int t, .int c, .ref 0] M v M' 0 0 := Ev.back 4 (fun n => rfl) H
    have H : Ev none e 110 110 [some (.ref 0), some (.int c), some (.int t), some (.int i), some (.int j)] [.ref 1, .int t, .int c, .ref 0] M v M' 0 0 := Ev.back 1 (gs_3 rfl rfl (gf_u hS.1 qa_0 qr_0_0 qu_1 rfl)) H
    have H : Ev none e 110 113 [some (.ref 0), some (.int c), some (.int t), some (.int i), some (.int j)] [.ref 2, .int t, .int c, .ref 0] M v M' 0 0 := Ev.back 1 (gs_3 rfl rfl (gf_u hS.1 qa_1 qr_1_0 qu_2 rfl)) H
    have H : Ev none e 110 114 [some (.ref 0), some (.int c), some (.int t), some (.int i), some (.int j)] [.int i, .ref 2, .int t, .int c, .ref 0] M v M' 0 0 := Ev.back 1 (fun n => rfl) H
    obtain ⟨b2, H⟩ := Ev.ial rfl rfl hS.1 qa_2 qw_2 H
    have H : Ev none e 110 115 [some (.ref 0), some (.int c), some (.int t), some (.int i), some (.int j)] [.int (rI M 2 i), .int t, .int c, .ref 0] M v M' 0 0 := H
    have H : Ev none e 110 116 [some (.ref 0), some (.int c), some (.int t), some (.int i), some (.int j)] [.ref 0, .int (rI M 2 i), .int t, .int c, .ref 0] M v M' 0 0 := Ev.back 1 (fun n => rfl) H
    have H : Ev none e 110 119 [some (.ref 0), some (.int c), some (.int t), some (.int i), some (.int j)] [.ref 1, .int (rI M 2 i), .int t, .int c, .ref 0] M v M' 0 0 := Ev.back 1 (gs_3 rfl rfl (gf_u hS.1 qa_0 qr_0_0 qu_1 rfl)) H
    have H : Ev none e 110 122 [some (.ref 0), some (.int c), some (.int t), some (.int i), some (.int j)] [.ref 2, .int (rI M 2 i), .int t, .int c, .ref 0] M v M' 0 0 := Ev.back 1 (gs_3 rfl rfl (gf_u hS.1 qa_1 qr_1_0 qu_2 rfl)) H
    have H : Ev none e 110 124 [some (.ref 0), some (.int c), some (.int t), some (.int i), some (.int j)] [.int j, .ref 2, .int (rI M 2 i), .int t, .int c, .ref 0] M v M' 0 0 := Ev.back 1 (fun n => rfl) H
    obtain ⟨b3, H⟩ := Ev.ial rfl rfl hS.1 qa_2 qw_2 H
    have H : Ev none e 110 125 [some (.ref 0), some (.int c), some (.int t), some (.int i), some (.int j)] [.int (rI M 2 j), .int (rI M 2 i), .int t, .int c, .ref 0] M v M' 0 0 := H
    obtain ⟨e1, rfl⟩ := Ev.dpos rfl rfl H
    obtain ⟨vK4, MK4, K4, H⟩ := Ev.callb (fun n_ => gs_7 rfl rfl (show gCal (.invokevirtual 333) 10 (.int (rI M 2 j) :: .int (rI M 2 i) :: .int t :: .int c :: .ref 0 :: []) M = some (.inr (111, [some (.ref 0), some (.int c), some (.int t), some (.int (rI M 2 i)), some (.int (rI M 2 j))], [])) from by show @cond (Option ((List Value × Mem) ⊕ (Nat × Lo × List Value))) (true && gRecv M (.ref 0) 10 && gRoom [] && true) (some (.inr (111, [some (.ref 0), some (.int c), some (.int t), some (.int (rI M 2 i)), some (.int (rI M 2 j))], []))) none = _; rw [recv_s hS.1 qa_0 qo_0]; rfl)) H
    have K4 : Ev none e1 111 0 [some (.ref 0), some (.int c), some (.int t), some (.int (rI M 2 i)), some (.int (rI M 2 j))] [] M vK4 MK4 0 0 := K4
    have HF := H
    exact Or.inr (⟨h1, b2, b3, ⟨e1, vK4, MK4, rfl, K4, HF⟩⟩)
theorem ffe_128 {e : Nat} {M M' : Mem} {v : Option Value} {c t i j r : Int32} (hS : SQ M) (H : Ev none e 110 128 [some (.ref 0), some (.int c), some (.int t), some (.int i), some (.int j)] [.int r] M v M' 0 0) : (r = 0 ∧ Ev none e 110 91 [some (.ref 0), some (.int c), some (.int t), some (.int i), some (.int (j + 1))] [] M v M' 0 0) ∨ (¬ (r = 0) ∧ (0 ≤ i.toInt ∧ i.toInt < 440) ∧ (0 ≤ j.toInt ∧ j.toInt < 440) ∧ v = some (.int (A_112 M 2 (rI M 2 i) (rI M 2 j))) ∧ M' = (X_112 M 2 (rI M 2 i) (rI M 2 j))) := by
  have H : Ev none e 110 (if r = 0 then 156 else 131) [some (.ref 0), some (.int c), some (.int t), some (.int i), some (.int j)] [] M v M' 0 0 := Ev.back 1 (fun n => rfl) H
  by_cases h1 : r = 0
  · rw [if_pos h1] at H
    have H : Ev none e 110 91 [some (.ref 0), some (.int c), some (.int t), some (.int i), some (.int (j + 1))] [] M v M' 0 0 := Ev.back 2 (fun n => rfl) H
    have HF := H
    exact Or.inl ⟨h1, HF⟩
  · rw [if_neg h1] at H
    have H : Ev none e 110 134 [some (.ref 0), some (.int c), some (.int t), some (.int i), some (.int j)] [.ref 0, .int 2, .ref 0] M v M' 0 0 := Ev.back 3 (fun n => rfl) H
    have H : Ev none e 110 137 [some (.ref 0), some (.int c), some (.int t), some (.int i), some (.int j)] [.ref 1, .int 2, .ref 0] M v M' 0 0 := Ev.back 1 (gs_3 rfl rfl (gf_u hS.1 qa_0 qr_0_0 qu_1 rfl)) H
    have H : Ev none e 110 140 [some (.ref 0), some (.int c), some (.int t), some (.int i), some (.int j)] [.ref 2, .int 2, .ref 0] M v M' 0 0 := Ev.back 1 (gs_3 rfl rfl (gf_u hS.1 qa_1 qr_1_0 qu_2 rfl)) H
    have H : Ev none e 110 141 [some (.ref 0), some (.int c), some (.int t), some (.int i), some (.int j)] [.int i, .ref 2, .int 2, .ref 0] M v M' 0 0 := Ev.back 1 (fun n => rfl) H
    obtain ⟨b2, H⟩ := Ev.ial rfl rfl hS.1 qa_2 qw_2 H
    have H : Ev none e 110 142 [some (.ref 0), some (.int c), some (.int t), some (.int i), some (.int j)] [.int (rI M 2 i), .int 2, .ref 0] M v M' 0 0 := H
    have H : Ev none e 110 143 [some (.ref 0), some (.int c), some (.int t), some (.int i), some (.int j)] [.ref 0, .int (rI M 2 i), .int 2, .ref 0] M v M' 0 0 := Ev.back 1 (fun n => rfl) H
    have H : Ev none e 110 146 [some (.ref 0), some (.int c), some (.int t), some (.int i), some (.int j)] [.ref 1, .int (rI M 2 i), .int 2, .ref 0] M v M' 0 0 := Ev.back 1 (gs_3 rfl rfl (gf_u hS.1 qa_0 qr_0_0 qu_1 rfl)) H
    have H : Ev none e 110 149 [some (.ref 0), some (.int c), some (.int t), some (.int i), some (.int j)] [.ref 2, .int (rI M 2 i), .int 2, .ref 0] M v M' 0 0 := Ev.back 1 (gs_3 rfl rfl (gf_u hS.1 qa_1 qr_1_0 qu_2 rfl)) H
    have H : Ev none e 110 151 [some (.ref 0), some (.int c), some (.int t), some (.int i), some (.int j)] [.int j, .ref 2, .int (rI M 2 i), .int 2, .ref 0] M v M' 0 0 := Ev.back 1 (fun n => rfl) H
    obtain ⟨b3, H⟩ := Ev.ial rfl rfl hS.1 qa_2 qw_2 H
    have H : Ev none e 110 152 [some (.ref 0), some (.int c), some (.int t), some (.int i), some (.int j)] [.int (rI M 2 j), .int (rI M 2 i), .int 2, .ref 0] M v M' 0 0 := H
    obtain ⟨e1, rfl⟩ := Ev.dpos rfl rfl H
    obtain ⟨vK4, MK4, K4, H⟩ := Ev.callb (fun n_ => gs_7 rfl rfl (show gCal (.invokevirtual 337) 10 (.int (rI M 2 j) :: .int (rI M 2 i) :: .int 2 :: .ref 0 :: []) M = some (.inr (112, [some (.ref 0), some (.int 2), some (.int (rI M 2 i)), some (.int (rI M 2 j))], [])) from by show @cond (Option ((List Value × Mem) ⊕ (Nat × Lo × List Value))) (true && gRecv M (.ref 0) 10 && gRoom [] && true) (some (.inr (112, [some (.ref 0), some (.int 2), some (.int (rI M 2 i)), some (.int (rI M 2 j))], []))) none = _; rw [recv_s hS.1 qa_0 qo_0]; rfl)) H
    obtain ⟨pK4, qK4⟩ := g_112 hS K4
    rw [pK4, qK4] at H
    obtain ⟨N5, eN5⟩ : ∃ N, N = (X_112 M 2 (rI M 2 i) (rI M 2 j)) := ⟨_, rfl⟩
    have hN5 : SQ N5 := by rw [eN5]; exact X_112_sx hS
    rw [← eN5] at H
    have H : Ev none (e1 + 1) 110 155 [some (.ref 0), some (.int c), some (.int t), some (.int i), some (.int j)] [.int (A_112 M 2 (rI M 2 i) (rI M 2 j))] N5 v M' 0 0 := H
    obtain ⟨z1, z2⟩ := Ev.retz rfl rfl H
    subst eN5
    exact Or.inr (⟨h1, b2, b3, z1, z2⟩)
theorem nbs_0 {e : Nat} {M M' : Mem} {v : Option Value} {c t a b : Int32} (hS : SQ M) (H : Ev none e 111 0 [some (.ref 0), some (.int c), some (.int t), some (.int a), some (.int b)] [] M v M' 0 0) : (∃ e1 v1 M1, e = e1 + 1 ∧ Ev none e1 133 0 [some (.ref 0)] [] M v1 M1 0 0 ∧ Ev none e 111 4 [some (.ref 0), some (.int c), some (.int t), some (.int a), some (.int b)] (v1.toList ++ []) M1 v M' 0 0) := by
  have H : Ev none e 111 1 [some (.ref 0), some (.int c), some (.int t), some (.int a), some (.int b)] [.ref 0] M v M' 0 0 := Ev.back 1 (fun n => rfl) H
  obtain ⟨e1, rfl⟩ := Ev.dpos rfl rfl H
  obtain ⟨vK1, MK1, K1, H⟩ := Ev.callb (fun n_ => gs_7 rfl rfl (show gCal (.invokevirtual 287) 10 (.ref 0 :: []) M = some (.inr (133, [some (.ref 0)], [])) from by show @cond (Option ((List Value × Mem) ⊕ (Nat × Lo × List Value))) (true && gRecv M (.ref 0) 10 && gRoom [] && true) (some (.inr (133, [some (.ref 0)], []))) none = _; rw [recv_s hS.1 qa_0 qo_0]; rfl)) H
  have K1 : Ev none e1 133 0 [some (.ref 0)] [] M vK1 MK1 0 0 := K1
  have HF := H
  exact ⟨e1, vK1, MK1, rfl, K1, HF⟩
theorem nbs_4 {e : Nat} {M M' : Mem} {v : Option Value} {c t a b : Int32} (hS : SQ M) (H : Ev none e 111 4 [some (.ref 0), some (.int c), some (.int t), some (.int a), some (.int b)] [] M v M' 0 0) : (∃ e1 v1 M1, e = e1 + 1 ∧ Ev none e1 127 0 [some (.ref 0), some (.int a)] [] M v1 M1 0 0 ∧ Ev none e 111 9 [some (.ref 0), some (.int c), some (.int t), some (.int a), some (.int b)] (v1.toList ++ []) M1 v M' 0 0) := by
  have H : Ev none e 111 6 [some (.ref 0), some (.int c), some (.int t), some (.int a), some (.int b)] [.int a, .ref 0] M v M' 0 0 := Ev.back 2 (fun n => rfl) H
  obtain ⟨e1, rfl⟩ := Ev.dpos rfl rfl H
  obtain ⟨vK1, MK1, K1, H⟩ := Ev.callb (fun n_ => gs_7 rfl rfl (show gCal (.invokevirtual 113) 10 (.int a :: .ref 0 :: []) M = some (.inr (127, [some (.ref 0), some (.int a)], [])) from by show @cond (Option ((List Value × Mem) ⊕ (Nat × Lo × List Value))) (true && gRecv M (.ref 0) 10 && gRoom [] && true) (some (.inr (127, [some (.ref 0), some (.int a)], []))) none = _; rw [recv_s hS.1 qa_0 qo_0]; rfl)) H
  have K1 : Ev none e1 127 0 [some (.ref 0), some (.int a)] [] M vK1 MK1 0 0 := K1
  have HF := H
  exact ⟨e1, vK1, MK1, rfl, K1, HF⟩
theorem nbs_9 {e : Nat} {M M' : Mem} {v : Option Value} {c t a b r : Int32} (hS : SQ M) (hTr : fR M 0 6 = 243) (H : Ev none e 111 9 [some (.ref 0), some (.int c), some (.int t), some (.int a), some (.int b)] [.int r] M v M' 0 0) : (r = 0 ∧ Ev none e 111 22 [some (.ref 0), some (.int c), some (.int t), some (.int a), some (.int b)] [] M v M' 0 0) ∨ (¬ (r = 0) ∧ Ev none e 111 22 [some (.ref 0), some (.int c), some (.int t), some (.int a), some (.int b)] [] (X_10 M 243 a 6) v M' 0 0) := by
  have H : Ev none e 111 (if r = 0 then 22 else 12) [some (.ref 0), some (.int c), some (.int t), some (.int a), some (.int b)] [] M v M' 0 0 := Ev.back 1 (fun n => rfl) H
  by_cases h1 : r = 0
  · rw [if_pos h1] at H
    have HF := H
    exact Or.inl ⟨h1, HF⟩
  · rw [if_neg h1] at H
    have H : Ev none e 111 13 [some (.ref 0), some (.int c), some (.int t), some (.int a), some (.int b)] [.ref 0] M v M' 0 0 := Ev.back 1 (fun n => rfl) H
    have H : Ev none e 111 16 [some (.ref 0), some (.int c), some (.int t), some (.int a), some (.int b)] [.ref (fR M 0 6)] M v M' 0 0 := Ev.back 1 (gs_3 rfl rfl (gf_r hS.1 qa_0 qr_0_6 rfl)) H
    rw [hTr] at H
    have H : Ev none e 111 19 [some (.ref 0), some (.int c), some (.int t), some (.int a), some (.int b)] [.int 6, .int a, .ref 243] M v M' 0 0 := Ev.back 2 (fun n => rfl) H
    obtain ⟨e1, rfl⟩ := Ev.dpos rfl rfl H
    obtain ⟨vK2, MK2, K2, H⟩ := Ev.callb (fun n_ => gs_7 rfl rfl (show gCal (.invokevirtual 238) 10 (.int 6 :: .int a :: .ref 243 :: []) M = some (.inr (10, [some (.ref 243), some (.int a), some (.int 6)], [])) from by show @cond (Option ((List Value × Mem) ⊕ (Nat × Lo × List Value))) (true && gRecv M (.ref 243) 1 && gRoom [] && true) (some (.inr (10, [some (.ref 243), some (.int a), some (.int 6)], []))) none = _; rw [recv_s hS.1 qa_243 qo_8]; rfl)) H
    obtain ⟨pK2, qK2⟩ := g_10 hS qa_243 K2
    rw [pK2, qK2] at H
    obtain ⟨N3, eN3⟩ : ∃ N, N = (X_10 M 243 a 6) := ⟨_, rfl⟩
    have hN3 : SQ N3 := by rw [eN3]; exact X_10_sx hS qa_243
    rw [← eN3] at H
    have H : Ev none (e1 + 1) 111 22 [some (.ref 0), some (.int c), some (.int t), some (.int a), some (.int b)] [] N3 v M' 0 0 := H
    have HF := H
    subst eN3
    exact Or.inr (⟨h1, HF⟩)
theorem nbs_22 {e : Nat} {M M' : Mem} {v : Option Value} {c t a b : Int32} (hS : SQ M) (H : Ev none e 111 22 [some (.ref 0), some (.int c), some (.int t), some (.int a), some (.int b)] [] M v M' 0 0) : (∃ e1 v1 M1, e = e1 + 1 ∧ Ev none e1 127 0 [some (.ref 0), some (.int b)] [] M v1 M1 0 0 ∧ Ev none e 111 28 [some (.ref 0), some (.int c), some (.int t), some (.int a), some (.int b)] (v1.toList ++ []) M1 v M' 0 0) := by
  have H : Ev none e 111 25 [some (.ref 0), some (.int c), some (.int t), some (.int a), some (.int b)] [.int b, .ref 0] M v M' 0 0 := Ev.back 2 (fun n => rfl) H
  obtain ⟨e1, rfl⟩ := Ev.dpos rfl rfl H
  obtain ⟨vK1, MK1, K1, H⟩ := Ev.callb (fun n_ => gs_7 rfl rfl (show gCal (.invokevirtual 113) 10 (.int b :: .ref 0 :: []) M = some (.inr (127, [some (.ref 0), some (.int b)], [])) from by show @cond (Option ((List Value × Mem) ⊕ (Nat × Lo × List Value))) (true && gRecv M (.ref 0) 10 && gRoom [] && true) (some (.inr (127, [some (.ref 0), some (.int b)], []))) none = _; rw [recv_s hS.1 qa_0 qo_0]; rfl)) H
  have K1 : Ev none e1 127 0 [some (.ref 0), some (.int b)] [] M vK1 MK1 0 0 := K1
  have HF := H
  exact ⟨e1, vK1, MK1, rfl, K1, HF⟩
theorem nbs_28 {e : Nat} {M M' : Mem} {v : Option Value} {c t a b r : Int32} (hS : SQ M) (hTr : fR M 0 6 = 243) (H : Ev none e 111 28 [some (.ref 0), some (.int c), some (.int t), some (.int a), some (.int b)] [.int r] M v M' 0 0) : (r = 0 ∧ Ev none e 111 42 [some (.ref 0), some (.int c), some (.int t), some (.int a), some (.int b)] [] M v M' 0 0) ∨ (¬ (r = 0) ∧ Ev none e 111 42 [some (.ref 0), some (.int c), some (.int t), some (.int a), some (.int b)] [] (X_10 M 243 b 6) v M' 0 0) := by
  have H : Ev none e 111 (if r = 0 then 42 else 31) [some (.ref 0), some (.int c), some (.int t), some (.int a), some (.int b)] [] M v M' 0 0 := Ev.back 1 (fun n => rfl) H
  by_cases h1 : r = 0
  · rw [if_pos h1] at H
    have HF := H
    exact Or.inl ⟨h1, HF⟩
  · rw [if_neg h1] at H
    have H : Ev none e 111 32 [some (.ref 0), some (.int c), some (.int t), some (.int a), some (.int b)] [.ref 0] M v M' 0 0 := Ev.back 1 (fun n => rfl) H
    have H : Ev none e 111 35 [some (.ref 0), some (.int c), some (.int t), some (.int a), some (.int b)] [.ref (fR M 0 6)] M v M' 0 0 := Ev.back 1 (gs_3 rfl rfl (gf_r hS.1 qa_0 qr_0_6 rfl)) H
    rw [hTr] at H
    have H : Ev none e 111 39 [some (.ref 0), some (.int c), some (.int t), some (.int a), some (.int b)] [.int 6, .int b, .ref 243] M v M' 0 0 := Ev.back 2 (fun n => rfl) H
    obtain ⟨e1, rfl⟩ := Ev.dpos rfl rfl H
    obtain ⟨vK2, MK2, K2, H⟩ := Ev.callb (fun n_ => gs_7 rfl rfl (show gCal (.invokevirtual 238) 10 (.int 6 :: .int b :: .ref 243 :: []) M = some (.inr (10, [some (.ref 243), some (.int b), some (.int 6)], [])) from by show @cond (Option ((List Value × Mem) ⊕ (Nat × Lo × List Value))) (true && gRecv M (.ref 243) 1 && gRoom [] && true) (some (.inr (10, [some (.ref 243), some (.int b), some (.int 6)], []))) none = _; rw [recv_s hS.1 qa_243 qo_8]; rfl)) H
    obtain ⟨pK2, qK2⟩ := g_10 hS qa_243 K2
    rw [pK2, qK2] at H
    obtain ⟨N3, eN3⟩ : ∃ N, N = (X_10 M 243 b 6) := ⟨_, rfl⟩
    have hN3 : SQ N3 := by rw [eN3]; exact X_10_sx hS qa_243
    rw [← eN3] at H
    have H : Ev none (e1 + 1) 111 42 [some (.ref 0), some (.int c), some (.int t), some (.int a), some (.int b)] [] N3 v M' 0 0 := H
    have HF := H
    subst eN3
    exact Or.inr (⟨h1, HF⟩)
theorem nbs_42 {e : Nat} {M M' : Mem} {v : Option Value} {c t a b : Int32} (hS : SQ M) (H : Ev none e 111 42 [some (.ref 0), some (.int c), some (.int t), some (.int a), some (.int b)] [] M v M' 0 0) : (∃ e1 v1 M1, e = e1 + 1 ∧ Ev none e1 58 0 [some (.ref 104), some (.int t), none, none, none, none, none, none, none] [] (wF M 104 9 c) v1 M1 0 0 ∧ Ev none e 111 58 [some (.ref 0), some (.int c), some (.int t), some (.int a), some (.int b)] (v1.toList ++ []) M1 v M' 0 0) := by
  have H : Ev none e 111 43 [some (.ref 0), some (.int c), some (.int t), some (.int a), some (.int b)] [.ref 0] M v M' 0 0 := Ev.back 1 (fun n => rfl) H
  have H : Ev none e 111 46 [some (.ref 0), some (.int c), some (.int t), some (.int a), some (.int b)] [.ref 104] M v M' 0 0 := Ev.back 1 (gs_3 rfl rfl (gf_u hS.1 qa_0 qr_0_3 qu_22 rfl)) H
  have H : Ev none e 111 47 [some (.ref 0), some (.int c), some (.int t), some (.int a), some (.int b)] [.int c, .ref 104] M v M' 0 0 := Ev.back 1 (fun n => rfl) H
  obtain ⟨N2, eN2⟩ : ∃ N, N = (wF M 104 9 c) := ⟨_, rfl⟩
  have hN2 : SQ N2 := by rw [eN2]; exact hS.kf
  have H : Ev none e 111 50 [some (.ref 0), some (.int c), some (.int t), some (.int a), some (.int b)] [] N2 v M' 0 0 := by rw [eN2]; exact Ev.pfi rfl rfl rfl hS.1 qa_104 qi_22_9 H
  have H : Ev none e 111 51 [some (.ref 0), some (.int c), some (.int t), some (.int a), some (.int b)] [.ref 0] N2 v M' 0 0 := Ev.back 1 (fun n => rfl) H
  have H : Ev none e 111 54 [some (.ref 0), some (.int c), some (.int t), some (.int a), some (.int b)] [.ref 104] N2 v M' 0 0 := Ev.back 1 (gs_3 rfl rfl (gf_u hN2.1 qa_0 qr_0_3 qu_22 rfl)) H
  have H : Ev none e 111 55 [some (.ref 0), some (.int c), some (.int t), some (.int a), some (.int b)] [.int t, .ref 104] N2 v M' 0 0 := Ev.back 1 (fun n => rfl) H
  obtain ⟨e1, rfl⟩ := Ev.dpos rfl rfl H
  obtain ⟨vK3, MK3, K3, H⟩ := Ev.callb (fun n_ => gs_7 rfl rfl (show gCal (.invokevirtual 200) 10 (.int t :: .ref 104 :: []) N2 = some (.inr (58, [some (.ref 104), some (.int t), none, none, none, none, none, none, none], [])) from by show @cond (Option ((List Value × Mem) ⊕ (Nat × Lo × List Value))) (true && gRecv N2 (.ref 104) 7 && gRoom [] && true) (some (.inr (58, [some (.ref 104), some (.int t), none, none, none, none, none, none, none], []))) none = _; rw [recv_s hN2.1 qa_104 qo_22]; rfl)) H
  have K3 : Ev none e1 58 0 [some (.ref 104), some (.int t), none, none, none, none, none, none, none] [] N2 vK3 MK3 0 0 := K3
  have HF := H
  subst eN2
  exact ⟨e1, vK3, MK3, rfl, K3, HF⟩
theorem nbs_58 {e : Nat} {M M' : Mem} {v : Option Value} {c t a b r : Int32} (hS : SQ M) (H : Ev none e 111 58 [some (.ref 0), some (.int c), some (.int t), some (.int a), some (.int b)] [.int r] M v M' 0 0) : ((zI M 104 10) = 0 ∧ v = some (.int 1) ∧ M' = M) ∨ (¬ ((zI M 104 10) = 0) ∧ v = some (.int 0) ∧ M' = M) := by
  have H : Ev none e 111 60 [some (.ref 0), some (.int c), some (.int t), some (.int a), some (.int b)] [.ref 0] M v M' 0 0 := Ev.back 2 (fun n => rfl) H
  have H : Ev none e 111 63 [some (.ref 0), some (.int c), some (.int t), some (.int a), some (.int b)] [.ref 104] M v M' 0 0 := Ev.back 1 (gs_3 rfl rfl (gf_u hS.1 qa_0 qr_0_3 qu_22 rfl)) H
  have H : Ev none e 111 66 [some (.ref 0), some (.int c), some (.int t), some (.int a), some (.int b)] [.int (zI M 104 10)] M v M' 0 0 := Ev.back 1 (gs_3 rfl rfl (gf_i hS.1 qa_104 qi_22_10 rfl)) H
  have H : Ev none e 111 (if (zI M 104 10) = 0 then 69 else 73) [some (.ref 0), some (.int c), some (.int t), some (.int a), some (.int b)] [] M v M' 0 0 := Ev.back 1 (fun n => rfl) H
  by_cases h1 : (zI M 104 10) = 0
  · rw [if_pos h1] at H
    have H : Ev none e 111 74 [some (.ref 0), some (.int c), some (.int t), some (.int a), some (.int b)] [.int 1] M v M' 0 0 := Ev.back 2 (fun n => rfl) H
    obtain ⟨z1, z2⟩ := Ev.retz rfl rfl H
    exact Or.inl ⟨h1, z1, z2⟩
  · rw [if_neg h1] at H
    have H : Ev none e 111 74 [some (.ref 0), some (.int c), some (.int t), some (.int a), some (.int b)] [.int 0] M v M' 0 0 := Ev.back 1 (fun n => rfl) H
    obtain ⟨z1, z2⟩ := Ev.retz rfl rfl H
    exact Or.inr (⟨h1, z1, z2⟩)
theorem lsv_0 {e : Nat} {M M' : Mem} {v : Option Value} {k c ws t : Int32} (hS : SQ M) (H : Ev none e 114 0 [some (.ref 0), some (.int k), some (.int c), some (.int ws), some (.int t), none] [] M v M' 0 0) : (∃ e1 v1 M1, e = e1 + 1 ∧ Ev none e1 130 0 [some (.ref 0), some (.int k)] [] M v1 M1 0 0 ∧ Ev none e 114 5 [some (.ref 0), some (.int k), some (.int c), some (.int ws), some (.int t), none] (v1.toList ++ []) M1 v M' 0 0) := by
  have H : Ev none e 114 2 [some (.ref 0), some (.int k), some (.int c), some (.int ws), some (.int t), none] [.int k, .ref 0] M v M' 0 0 := Ev.back 2 (fun n => rfl) H
  obtain ⟨e1, rfl⟩ := Ev.dpos rfl rfl H
  obtain ⟨vK1, MK1, K1, H⟩ := Ev.callb (fun n_ => gs_7 rfl rfl (show gCal (.invokevirtual 191) 10 (.int k :: .ref 0 :: []) M = some (.inr (130, [some (.ref 0), some (.int k)], [])) from by show @cond (Option ((List Value × Mem) ⊕ (Nat × Lo × List Value))) (true && gRecv M (.ref 0) 10 && gRoom [] && true) (some (.inr (130, [some (.ref 0), some (.int k)], []))) none = _; rw [recv_s hS.1 qa_0 qo_0]; rfl)) H
  have K1 : Ev none e1 130 0 [some (.ref 0), some (.int k)] [] M vK1 MK1 0 0 := K1
  have HF := H
  exact ⟨e1, vK1, MK1, rfl, K1, HF⟩
theorem lsv_5 {e : Nat} {M M' : Mem} {v : Option Value} {k c ws t r : Int32} (hS : SQ M) (H : Ev none e 114 5 [some (.ref 0), some (.int k), some (.int c), some (.int ws), some (.int t), none] [.int r] M v M' 0 0) : (r = 0 ∧ v = some (.int (-2)) ∧ M' = M) ∨ (¬ (r = 0) ∧ (∃ e1 v1 M1, e = e1 + 1 ∧ Ev none e1 127 0 [some (.ref 0), some (.int c)] [] M v1 M1 0 0 ∧ Ev none e 114 13 [some (.ref 0), some (.int k), some (.int c), some (.int ws), some (.int t), none] (v1.toList ++ []) M1 v M' 0 0)) := by
  have H : Ev none e 114 (if r = 0 then 16 else 8) [some (.ref 0), some (.int k), some (.int c), some (.int ws), some (.int t), none] [] M v M' 0 0 := Ev.back 1 (fun n => rfl) H
  by_cases h1 : r = 0
  · rw [if_pos h1] at H
    have H : Ev none e 114 18 [some (.ref 0), some (.int k), some (.int c), some (.int ws), some (.int t), none] [.int (-2)] M v M' 0 0 := Ev.back 1 (fun n => rfl) H
    obtain ⟨z1, z2⟩ := Ev.retz rfl rfl H
    exact Or.inl ⟨h1, z1, z2⟩
  · rw [if_neg h1] at H
    have H : Ev none e 114 10 [some (.ref 0), some (.int k), some (.int c), some (.int ws), some (.int t), none] [.int c, .ref 0] M v M' 0 0 := Ev.back 2 (fun n => rfl) H
    obtain ⟨e1, rfl⟩ := Ev.dpos rfl rfl H
    obtain ⟨vK2, MK2, K2, H⟩ := Ev.callb (fun n_ => gs_7 rfl rfl (show gCal (.invokevirtual 113) 10 (.int c :: .ref 0 :: []) M = some (.inr (127, [some (.ref 0), some (.int c)], [])) from by show @cond (Option ((List Value × Mem) ⊕ (Nat × Lo × List Value))) (true && gRecv M (.ref 0) 10 && gRoom [] && true) (some (.inr (127, [some (.ref 0), some (.int c)], []))) none = _; rw [recv_s hS.1 qa_0 qo_0]; rfl)) H
    have K2 : Ev none e1 127 0 [some (.ref 0), some (.int c)] [] M vK2 MK2 0 0 := K2
    have HF := H
    exact Or.inr (⟨h1, ⟨e1, vK2, MK2, rfl, K2, HF⟩⟩)
theorem lsv_13 {e : Nat} {M M' : Mem} {v : Option Value} {k c ws t r : Int32} (hS : SQ M) (H : Ev none e 114 13 [some (.ref 0), some (.int k), some (.int c), some (.int ws), some (.int t), none] [.int r] M v M' 0 0) : (r = 0 ∧ v = some (.int (-2)) ∧ M' = M) ∨ (¬ (r = 0) ∧ (G_126 M ws 1 40) = 0 ∧ v = some (.int (-2)) ∧ M' = M) ∨ (¬ (r = 0) ∧ ¬ ((G_126 M ws 1 40) = 0) ∧ (G_126 M t 1 200) = 0 ∧ v = some (.int (-2)) ∧ M' = M) ∨ (¬ (r = 0) ∧ ¬ ((G_126 M ws 1 40) = 0) ∧ ¬ ((G_126 M t 1 200) = 0) ∧ (∃ e1 v1 M1, e = e1 + 1 ∧ Ev none e1 133 0 [some (.ref 0)] [] M v1 M1 0 0 ∧ Ev none e 114 48 [some (.ref 0), some (.int k), some (.int c), some (.int ws), some (.int t), none] (v1.toList ++ []) M1 v M' 0 0)) := by
  have H : Ev none e 114 (if r = 0 then 16 else 19) [some (.ref 0), some (.int k), some (.int c), some (.int ws), some (.int t), none] [] M v M' 0 0 := Ev.back 1 (fun n => rfl) H
  by_cases h1 : r = 0
  · rw [if_pos h1] at H
    have H : Ev none e 114 18 [some (.ref 0), some (.int k), some (.int c), some (.int ws), some (.int t), none] [.int (-2)] M v M' 0 0 := Ev.back 1 (fun n => rfl) H
    obtain ⟨z1, z2⟩ := Ev.retz rfl rfl H
    exact Or.inl ⟨h1, z1, z2⟩
  · rw [if_neg h1] at H
    have H : Ev none e 114 23 [some (.ref 0), some (.int k), some (.int c), some (.int ws), some (.int t), none] [.int 40, .int 1, .int ws] M v M' 0 0 := Ev.back 3 (fun n => rfl) H
    obtain ⟨e1, rfl⟩ := Ev.dpos rfl rfl H
    obtain ⟨vK2, MK2, K2, H⟩ := Ev.callb (fun n => rfl) H
    obtain ⟨pK2, qK2⟩ := g_126 hS K2
    rw [pK2, qK2] at H
    have H : Ev none (e1 + 1) 114 26 [some (.ref 0), some (.int k), some (.int c), some (.int ws), some (.int t), none] [.int (G_126 M ws 1 40)] M v M' 0 0 := H
    have H : Ev none (e1 + 1) 114 (if (G_126 M ws 1 40) = 0 then 41 else 29) [some (.ref 0), some (.int k), some (.int c), some (.int ws), some (.int t), none] [] M v M' 0 0 := Ev.back 1 (fun n => rfl) H
    by_cases h3 : (G_126 M ws 1 40) = 0
    · rw [if_pos h3] at H
      have H : Ev none (e1 + 1) 114 43 [some (.ref 0), some (.int k), some (.int c), some (.int ws), some (.int t), none] [.int (-2)] M v M' 0 0 := Ev.back 1 (fun n => rfl) H
      obtain ⟨z1, z2⟩ := Ev.retz rfl rfl H
      exact Or.inr (Or.inl ⟨h1, h3, z1, z2⟩)
    · rw [if_neg h3] at H
      have H : Ev none (e1 + 1) 114 35 [some (.ref 0), some (.int k), some (.int c), some (.int ws), some (.int t), none] [.int 200, .int 1, .int t] M v M' 0 0 := Ev.back 3 (fun n => rfl) H
      obtain ⟨vK4, MK4, K4, H⟩ := Ev.callb (fun n => rfl) H
      obtain ⟨pK4, qK4⟩ := g_126 hS K4
      rw [pK4, qK4] at H
      have H : Ev none (e1 + 1) 114 38 [some (.ref 0), some (.int k), some (.int c), some (.int ws), some (.int t), none] [.int (G_126 M t 1 200)] M v M' 0 0 := H
      have H : Ev none (e1 + 1) 114 (if (G_126 M t 1 200) = 0 then 41 else 44) [some (.ref 0), some (.int k), some (.int c), some (.int ws), some (.int t), none] [] M v M' 0 0 := Ev.back 1 (fun n => rfl) H
      by_cases h5 : (G_126 M t 1 200) = 0
      · rw [if_pos h5] at H
        have H : Ev none (e1 + 1) 114 43 [some (.ref 0), some (.int k), some (.int c), some (.int ws), some (.int t), none] [.int (-2)] M v M' 0 0 := Ev.back 1 (fun n => rfl) H
        obtain ⟨z1, z2⟩ := Ev.retz rfl rfl H
        exact Or.inr (Or.inr (Or.inl ⟨h1, h3, h5, z1, z2⟩))
      · rw [if_neg h5] at H
        have H : Ev none (e1 + 1) 114 45 [some (.ref 0), some (.int k), some (.int c), some (.int ws), some (.int t), none] [.ref 0] M v M' 0 0 := Ev.back 1 (fun n => rfl) H
        obtain ⟨vK6, MK6, K6, H⟩ := Ev.callb (fun n_ => gs_7 rfl rfl (show gCal (.invokevirtual 287) 10 (.ref 0 :: []) M = some (.inr (133, [some (.ref 0)], [])) from by show @cond (Option ((List Value × Mem) ⊕ (Nat × Lo × List Value))) (true && gRecv M (.ref 0) 10 && gRoom [] && true) (some (.inr (133, [some (.ref 0)], []))) none = _; rw [recv_s hS.1 qa_0 qo_0]; rfl)) H
        have K6 : Ev none e1 133 0 [some (.ref 0)] [] M vK6 MK6 0 0 := K6
        have HF := H
        exact Or.inr (Or.inr (Or.inr (⟨h1, h3, h5, ⟨e1, vK6, MK6, rfl, K6, HF⟩⟩)))
theorem lsv_48 {e : Nat} {M M' : Mem} {v : Option Value} {k c ws t : Int32} (hS : SQ M) (hTr : fR M 0 6 = 243) (H : Ev none e 114 48 [some (.ref 0), some (.int k), some (.int c), some (.int ws), some (.int t), none] [] M v M' 0 0) : (0 ≤ k.toInt ∧ k.toInt < 24) ∧ Ev none e 114 61 [some (.ref 0), some (.int k), some (.int c), some (.int ws), some (.int t), none] [] (wF M (oI M (243 + 10) k) 5 0) v M' 0 0 := by
  have H : Ev none e 114 49 [some (.ref 0), some (.int k), some (.int c), some (.int ws), some (.int t), none] [.ref 0] M v M' 0 0 := Ev.back 1 (fun n => rfl) H
  have H : Ev none e 114 52 [some (.ref 0), some (.int k), some (.int c), some (.int ws), some (.int t), none] [.ref (fR M 0 6)] M v M' 0 0 := Ev.back 1 (gs_3 rfl rfl (gf_r hS.1 qa_0 qr_0_6 rfl)) H
  rw [hTr] at H
  have H : Ev none e 114 55 [some (.ref 0), some (.int k), some (.int c), some (.int ws), some (.int t), none] [.ref (243 + 10)] M v M' 0 0 := Ev.back 1 (gs_3 rfl rfl (gf_x hS.1 qa_243 qo_8 (fx_l12 hS qa_243) rfl)) H
  have H : Ev none e 114 56 [some (.ref 0), some (.int k), some (.int c), some (.int ws), some (.int t), none] [.int k, .ref (243 + 10)] M v M' 0 0 := Ev.back 1 (fun n => rfl) H
  obtain ⟨b1, H⟩ := Ev.aal rfl rfl hS.1 (fx_h12 qa_243) qz_18 H
  have H : Ev none e 114 57 [some (.ref 0), some (.int k), some (.int c), some (.int ws), some (.int t), none] [.ref (oI M (243 + 10) k)] M v M' 0 0 := H
  have H : Ev none e 114 58 [some (.ref 0), some (.int k), some (.int c), some (.int ws), some (.int t), none] [.int 0, .ref (oI M (243 + 10) k)] M v M' 0 0 := Ev.back 1 (fun n => rfl) H
  obtain ⟨N3, eN3⟩ : ∃ N, N = (wF M (oI M (243 + 10) k) 5 0) := ⟨_, rfl⟩
  have hN3 : SQ N3 := by rw [eN3]; exact hS.kf
  have H : Ev none e 114 61 [some (.ref 0), some (.int k), some (.int c), some (.int ws), some (.int t), none] [] N3 v M' 0 0 := by rw [eN3]; exact Ev.pfi rfl rfl rfl hS.1 b1.2 qi_20_5 H
  have HF := H
  subst eN3
  exact ⟨b1.1, HF⟩
theorem lsv_61 {e : Nat} {M M' : Mem} {v : Option Value} {k c ws t : Int32} (hS : SQ M) (H : Ev none e 114 61 [some (.ref 0), some (.int k), some (.int c), some (.int ws), some (.int t), none] [] M v M' 0 0) : Ev none e 114 64 [some (.ref 0), some (.int k), some (.int c), some (.int ws), some (.int t), some (.int 0)] [] M v M' 0 0 := by
  have H : Ev none e 114 64 [some (.ref 0), some (.int k), some (.int c), some (.int ws), some (.int t), some (.int 0)] [] M v M' 0 0 := Ev.back 2 (fun n => rfl) H
  have HF := H
  exact HF
theorem lsv_64 {e : Nat} {M M' : Mem} {v : Option Value} {k c ws t n : Int32} (hS : SQ M) (H : Ev none e 114 64 [some (.ref 0), some (.int k), some (.int c), some (.int ws), some (.int t), some (.int n)] [] M v M' 0 0) : (ws ≤ n ∧ (G_56 M c) = 0 ∧ v = some (.int ws) ∧ M' = M) ∨ (ws ≤ n ∧ ¬ ((G_56 M c) = 0) ∧ v = some (.int (-1)) ∧ M' = M) ∨ (¬ (ws ≤ n) ∧ (G_56 M c) = 0 ∧ v = some (.int n) ∧ M' = M) ∨ (¬ (ws ≤ n) ∧ ¬ ((G_56 M c) = 0) ∧ (∃ e1 v1 M1, e = e1 + 1 ∧ Ev none e1 134 0 [some (.ref 0), some (.int t)] [] M v1 M1 0 0 ∧ Ev none e 114 90 [some (.ref 0), some (.int k), some (.int c), some (.int ws), some (.int t), some (.int n)] (v1.toList ++ []) M1 v M' 0 0)) := by
  have H : Ev none e 114 (if ws ≤ n then 96 else 70) [some (.ref 0), some (.int k), some (.int c), some (.int ws), some (.int t), some (.int n)] [] M v M' 0 0 := Ev.back 3 (fun n => rfl) H
  by_cases h1 : ws ≤ n
  · rw [if_pos h1] at H
    have H : Ev none e 114 97 [some (.ref 0), some (.int k), some (.int c), some (.int ws), some (.int t), some (.int n)] [.ref 0] M v M' 0 0 := Ev.back 1 (fun n => rfl) H
    have H : Ev none e 114 100 [some (.ref 0), some (.int k), some (.int c), some (.int ws), some (.int t), some (.int n)] [.ref 104] M v M' 0 0 := Ev.back 1 (gs_3 rfl rfl (gf_u hS.1 qa_0 qr_0_3 qu_22 rfl)) H
    have H : Ev none e 114 101 [some (.ref 0), some (.int k), some (.int c), some (.int ws), some (.int t), some (.int n)] [.int c, .ref 104] M v M' 0 0 := Ev.back 1 (fun n => rfl) H
    obtain ⟨e1, rfl⟩ := Ev.dpos rfl rfl H
    obtain ⟨vK2, MK2, K2, H⟩ := Ev.callb (fun n_ => gs_7 rfl rfl (show gCal (.invokevirtual 347) 10 (.int c :: .ref 104 :: []) M = some (.inr (56, [some (.ref 104), some (.int c)], [])) from by show @cond (Option ((List Value × Mem) ⊕ (Nat × Lo × List Value))) (true && gRecv M (.ref 104) 7 && gRoom [] && true) (some (.inr (56, [some (.ref 104), some (.int c)], []))) none = _; rw [recv_s hS.1 qa_104 qo_22]; rfl)) H
    obtain ⟨pK2, qK2⟩ := g_56 hS K2
    rw [pK2, qK2] at H
    have H : Ev none (e1 + 1) 114 104 [some (.ref 0), some (.int k), some (.int c), some (.int ws), some (.int t), some (.int n)] [.int (G_56 M c)] M v M' 0 0 := H
    have H : Ev none (e1 + 1) 114 (if (G_56 M c) = 0 then 111 else 107) [some (.ref 0), some (.int k), some (.int c), some (.int ws), some (.int t), some (.int n)] [] M v M' 0 0 := Ev.back 1 (fun n => rfl) H
    by_cases h3 : (G_56 M c) = 0
    · rw [if_pos h3] at H
      have H : Ev none (e1 + 1) 114 112 [some (.ref 0), some (.int k), some (.int c), some (.int ws), some (.int t), some (.int n)] [.int ws] M v M' 0 0 := Ev.back 1 (fun n => rfl) H
      obtain ⟨z1, z2⟩ := Ev.retz rfl rfl H
      exact Or.inl ⟨h1, h3, z1, z2⟩
    · rw [if_neg h3] at H
      have H : Ev none (e1 + 1) 114 112 [some (.ref 0), some (.int k), some (.int c), some (.int ws), some (.int t), some (.int n)] [.int (-1)] M v M' 0 0 := Ev.back 2 (fun n => rfl) H
      obtain ⟨z1, z2⟩ := Ev.retz rfl rfl H
      exact Or.inr (Or.inl ⟨h1, h3, z1, z2⟩)
  · rw [if_neg h1] at H
    have H : Ev none e 114 71 [some (.ref 0), some (.int k), some (.int c), some (.int ws), some (.int t), some (.int n)] [.ref 0] M v M' 0 0 := Ev.back 1 (fun n => rfl) H
    have H : Ev none e 114 74 [some (.ref 0), some (.int k), some (.int c), some (.int ws), some (.int t), some (.int n)] [.ref 104] M v M' 0 0 := Ev.back 1 (gs_3 rfl rfl (gf_u hS.1 qa_0 qr_0_3 qu_22 rfl)) H
    have H : Ev none e 114 75 [some (.ref 0), some (.int k), some (.int c), some (.int ws), some (.int t), some (.int n)] [.int c, .ref 104] M v M' 0 0 := Ev.back 1 (fun n => rfl) H
    obtain ⟨e1, rfl⟩ := Ev.dpos rfl rfl H
    obtain ⟨vK4, MK4, K4, H⟩ := Ev.callb (fun n_ => gs_7 rfl rfl (show gCal (.invokevirtual 347) 10 (.int c :: .ref 104 :: []) M = some (.inr (56, [some (.ref 104), some (.int c)], [])) from by show @cond (Option ((List Value × Mem) ⊕ (Nat × Lo × List Value))) (true && gRecv M (.ref 104) 7 && gRoom [] && true) (some (.inr (56, [some (.ref 104), some (.int c)], []))) none = _; rw [recv_s hS.1 qa_104 qo_22]; rfl)) H
    obtain ⟨pK4, qK4⟩ := g_56 hS K4
    rw [pK4, qK4] at H
    have H : Ev none (e1 + 1) 114 78 [some (.ref 0), some (.int k), some (.int c), some (.int ws), some (.int t), some (.int n)] [.int (G_56 M c)] M v M' 0 0 := H
    have H : Ev none (e1 + 1) 114 (if (G_56 M c) = 0 then 81 else 84) [some (.ref 0), some (.int k), some (.int c), some (.int ws), some (.int t), some (.int n)] [] M v M' 0 0 := Ev.back 1 (fun n => rfl) H
    by_cases h5 : (G_56 M c) = 0
    · rw [if_pos h5] at H
      have H : Ev none (e1 + 1) 114 83 [some (.ref 0), some (.int k), some (.int c), some (.int ws), some (.int t), some (.int n)] [.int n] M v M' 0 0 := Ev.back 1 (fun n => rfl) H
      obtain ⟨z1, z2⟩ := Ev.retz rfl rfl H
      exact Or.inr (Or.inr (Or.inl ⟨h1, h5, z1, z2⟩))
    · rw [if_neg h5] at H
      have H : Ev none (e1 + 1) 114 87 [some (.ref 0), some (.int k), some (.int c), some (.int ws), some (.int t), some (.int n)] [.int t, .ref 0] M v M' 0 0 := Ev.back 2 (fun n => rfl) H
      obtain ⟨vK6, MK6, K6, H⟩ := Ev.callb (fun n_ => gs_7 rfl rfl (show gCal (.invokevirtual 293) 10 (.int t :: .ref 0 :: []) M = some (.inr (134, [some (.ref 0), some (.int t)], [])) from by show @cond (Option ((List Value × Mem) ⊕ (Nat × Lo × List Value))) (true && gRecv M (.ref 0) 10 && gRoom [] && true) (some (.inr (134, [some (.ref 0), some (.int t)], []))) none = _; rw [recv_s hS.1 qa_0 qo_0]; rfl)) H
      have K6 : Ev none e1 134 0 [some (.ref 0), some (.int t)] [] M vK6 MK6 0 0 := K6
      have HF := H
      exact Or.inr (Or.inr (Or.inr (⟨h1, h5, ⟨e1, vK6, MK6, rfl, K6, HF⟩⟩)))
theorem lsv_90 {e : Nat} {M M' : Mem} {v : Option Value} {k c ws t n : Int32} (hS : SQ M) (H : Ev none e 114 90 [some (.ref 0), some (.int k), some (.int c), some (.int ws), some (.int t), some (.int n)] [] M v M' 0 0) : Ev none e 114 64 [some (.ref 0), some (.int k), some (.int c), some (.int ws), some (.int t), some (.int (n + 1))] [] M v M' 0 0 := by
  have H : Ev none e 114 64 [some (.ref 0), some (.int k), some (.int c), some (.int ws), some (.int t), some (.int (n + 1))] [] M v M' 0 0 := Ev.back 2 (fun n => rfl) H
  have HF := H
  exact HF
theorem wat_0 {e : Nat} {M M' : Mem} {v : Option Value} {a b h : Int32} (hS : SQ M) (H : Ev none e 132 0 [some (.ref 0), some (.int a), some (.int b), some (.int h)] [] M v M' 0 0) : (∃ e1 v1 M1, e = e1 + 1 ∧ Ev none e1 129 0 [some (.ref 0), some (.int a), some (.int b)] [] M v1 M1 0 0 ∧ Ev none e 132 6 [some (.ref 0), some (.int a), some (.int b), some (.int h)] (v1.toList ++ []) M1 v M' 0 0) := by
  have H : Ev none e 132 3 [some (.ref 0), some (.int a), some (.int b), some (.int h)] [.int b, .int a, .ref 0] M v M' 0 0 := Ev.back 3 (fun n => rfl) H
  obtain ⟨e1, rfl⟩ := Ev.dpos rfl rfl H
  obtain ⟨vK1, MK1, K1, H⟩ := Ev.callb (fun n_ => gs_7 rfl rfl (show gCal (.invokevirtual 162) 10 (.int b :: .int a :: .ref 0 :: []) M = some (.inr (129, [some (.ref 0), some (.int a), some (.int b)], [])) from by show @cond (Option ((List Value × Mem) ⊕ (Nat × Lo × List Value))) (true && gRecv M (.ref 0) 10 && gRoom [] && true) (some (.inr (129, [some (.ref 0), some (.int a), some (.int b)], []))) none = _; rw [recv_s hS.1 qa_0 qo_0]; rfl)) H
  have K1 : Ev none e1 129 0 [some (.ref 0), some (.int a), some (.int b)] [] M vK1 MK1 0 0 := K1
  have HF := H
  exact ⟨e1, vK1, MK1, rfl, K1, HF⟩
theorem wat_6 {e : Nat} {M M' : Mem} {v : Option Value} {a b h r : Int32} (hS : SQ M) (H : Ev none e 132 6 [some (.ref 0), some (.int a), some (.int b), some (.int h)] [.int r] M v M' 0 0) : (r = 0 ∧ v = some (.int 0) ∧ M' = M) ∨ (¬ (r = 0) ∧ (G_126 M h 0 5) = 0 ∧ v = some (.int 0) ∧ M' = M) ∨ (¬ (r = 0) ∧ ¬ ((G_126 M h 0 5) = 0) ∧ v = some (.int 1) ∧ M' = M) := by
  have H : Ev none e 132 (if r = 0 then 22 else 9) [some (.ref 0), some (.int a), some (.int b), some (.int h)] [] M v M' 0 0 := Ev.back 1 (fun n => rfl) H
  by_cases h1 : r = 0
  · rw [if_pos h1] at H
    have H : Ev none e 132 23 [some (.ref 0), some (.int a), some (.int b), some (.int h)] [.int 0] M v M' 0 0 := Ev.back 1 (fun n => rfl) H
    obtain ⟨z1, z2⟩ := Ev.retz rfl rfl H
    exact Or.inl ⟨h1, z1, z2⟩
  · rw [if_neg h1] at H
    have H : Ev none e 132 12 [some (.ref 0), some (.int a), some (.int b), some (.int h)] [.int 5, .int 0, .int h] M v M' 0 0 := Ev.back 3 (fun n => rfl) H
    obtain ⟨e1, rfl⟩ := Ev.dpos rfl rfl H
    obtain ⟨vK2, MK2, K2, H⟩ := Ev.callb (fun n => rfl) H
    obtain ⟨pK2, qK2⟩ := g_126 hS K2
    rw [pK2, qK2] at H
    have H : Ev none (e1 + 1) 132 15 [some (.ref 0), some (.int a), some (.int b), some (.int h)] [.int (G_126 M h 0 5)] M v M' 0 0 := H
    have H : Ev none (e1 + 1) 132 (if (G_126 M h 0 5) = 0 then 22 else 18) [some (.ref 0), some (.int a), some (.int b), some (.int h)] [] M v M' 0 0 := Ev.back 1 (fun n => rfl) H
    by_cases h3 : (G_126 M h 0 5) = 0
    · rw [if_pos h3] at H
      have H : Ev none (e1 + 1) 132 23 [some (.ref 0), some (.int a), some (.int b), some (.int h)] [.int 0] M v M' 0 0 := Ev.back 1 (fun n => rfl) H
      obtain ⟨z1, z2⟩ := Ev.retz rfl rfl H
      exact Or.inr (Or.inl ⟨h1, h3, z1, z2⟩)
    · rw [if_neg h3] at H
      have H : Ev none (e1 + 1) 132 23 [some (.ref 0), some (.int a), some (.int b), some (.int h)] [.int 1] M v M' 0 0 := Ev.back 2 (fun n => rfl) H
      obtain ⟨z1, z2⟩ := Ev.retz rfl rfl H
      exact Or.inr (Or.inr (⟨h1, h3, z1, z2⟩))
theorem way_0 {e : Nat} {M M' : Mem} {v : Option Value} {a b h : Int32} (hS : SQ M) (H : Ev none e 115 0 [some (.ref 0), some (.int a), some (.int b), some (.int h), none] [] M v M' 0 0) : (∃ e1 v1 M1, e = e1 + 1 ∧ Ev none e1 132 0 [some (.ref 0), some (.int a), some (.int b), some (.int h)] [] M v1 M1 0 0 ∧ Ev none e 115 7 [some (.ref 0), some (.int a), some (.int b), some (.int h), none] (v1.toList ++ []) M1 v M' 0 0) := by
  have H : Ev none e 115 4 [some (.ref 0), some (.int a), some (.int b), some (.int h), none] [.int h, .int b, .int a, .ref 0] M v M' 0 0 := Ev.back 4 (fun n => rfl) H
  obtain ⟨e1, rfl⟩ := Ev.dpos rfl rfl H
  obtain ⟨vK1, MK1, K1, H⟩ := Ev.callb (fun n_ => gs_7 rfl rfl (show gCal (.invokevirtual 350) 10 (.int h :: .int b :: .int a :: .ref 0 :: []) M = some (.inr (132, [some (.ref 0), some (.int a), some (.int b), some (.int h)], [])) from by show @cond (Option ((List Value × Mem) ⊕ (Nat × Lo × List Value))) (true && gRecv M (.ref 0) 10 && gRoom [] && true) (some (.inr (132, [some (.ref 0), some (.int a), some (.int b), some (.int h)], []))) none = _; rw [recv_s hS.1 qa_0 qo_0]; rfl)) H
  have K1 : Ev none e1 132 0 [some (.ref 0), some (.int a), some (.int b), some (.int h)] [] M vK1 MK1 0 0 := K1
  have HF := H
  exact ⟨e1, vK1, MK1, rfl, K1, HF⟩
theorem way_7 {e : Nat} {M M' : Mem} {v : Option Value} {a b h r : Int32} (hS : SQ M) (hLd : fR M 0 2 = 8) (H : Ev none e 115 7 [some (.ref 0), some (.int a), some (.int b), some (.int h), none] [.int r] M v M' 0 0) : (r = 0 ∧ v = some (.int (-2)) ∧ M' = M) ∨ (¬ (r = 0) ∧ (∃ e1 v1 M1, e = e1 + 1 ∧ Ev none e1 54 0 [some (.ref 104), some (.ref 8)] [] M v1 M1 0 0 ∧ Ev none e 115 24 [some (.ref 0), some (.int a), some (.int b), some (.int h), none] (v1.toList ++ []) M1 v M' 0 0)) := by
  have H : Ev none e 115 (if r = 0 then 10 else 13) [some (.ref 0), some (.int a), some (.int b), some (.int h), none] [] M v M' 0 0 := Ev.back 1 (fun n => rfl) H
  by_cases h1 : r = 0
  · rw [if_pos h1] at H
    have H : Ev none e 115 12 [some (.ref 0), some (.int a), some (.int b), some (.int h), none] [.int (-2)] M v M' 0 0 := Ev.back 1 (fun n => rfl) H
    obtain ⟨z1, z2⟩ := Ev.retz rfl rfl H
    exact Or.inl ⟨h1, z1, z2⟩
  · rw [if_neg h1] at H
    have H : Ev none e 115 14 [some (.ref 0), some (.int a), some (.int b), some (.int h), none] [.ref 0] M v M' 0 0 := Ev.back 1 (fun n => rfl) H
    have H : Ev none e 115 17 [some (.ref 0), some (.int a), some (.int b), some (.int h), none] [.ref 104] M v M' 0 0 := Ev.back 1 (gs_3 rfl rfl (gf_u hS.1 qa_0 qr_0_3 qu_22 rfl)) H
    have H : Ev none e 115 18 [some (.ref 0), some (.int a), some (.int b), some (.int h), none] [.ref 0, .ref 104] M v M' 0 0 := Ev.back 1 (fun n => rfl) H
    have H : Ev none e 115 21 [some (.ref 0), some (.int a), some (.int b), some (.int h), none] [.ref (fR M 0 2), .ref 104] M v M' 0 0 := Ev.back 1 (gs_3 rfl rfl (gf_r hS.1 qa_0 qr_0_2 rfl)) H
    rw [hLd] at H
    obtain ⟨e1, rfl⟩ := Ev.dpos rfl rfl H
    obtain ⟨vK2, MK2, K2, H⟩ := Ev.callb (fun n_ => gs_7 rfl rfl (show gCal (.invokevirtual 197) 10 (.ref 8 :: .ref 104 :: []) M = some (.inr (54, [some (.ref 104), some (.ref 8)], [])) from by show @cond (Option ((List Value × Mem) ⊕ (Nat × Lo × List Value))) (true && gRecv M (.ref 104) 7 && gRoom [] && true) (some (.inr (54, [some (.ref 104), some (.ref 8)], []))) none = _; rw [recv_s hS.1 qa_104 qo_22]; rfl)) H
    have K2 : Ev none e1 54 0 [some (.ref 104), some (.ref 8)] [] M vK2 MK2 0 0 := K2
    have HF := H
    exact Or.inr (⟨h1, ⟨e1, vK2, MK2, rfl, K2, HF⟩⟩)
theorem way_24 {e : Nat} {M M' : Mem} {v : Option Value} {a b h : Int32} (hS : SQ M) (H : Ev none e 115 24 [some (.ref 0), some (.int a), some (.int b), some (.int h), none] [] M v M' 0 0) : (∃ e1 v1 M1, e = e1 + 1 ∧ Ev none e1 65 0 [some (.ref 104), some (.int a), some (.int b), some (.int h), some (.ref (fR M 0 9)), none, none, none] [] M v1 M1 0 0 ∧ Ev none e 115 38 [some (.ref 0), some (.int a), some (.int b), some (.int h), none] (v1.toList ++ []) M1 v M' 0 0) := by
  have H : Ev none e 115 25 [some (.ref 0), some (.int a), some (.int b), some (.int h), none] [.ref 0] M v M' 0 0 := Ev.back 1 (fun n => rfl) H
  have H : Ev none e 115 28 [some (.ref 0), some (.int a), some (.int b), some (.int h), none] [.ref 104] M v M' 0 0 := Ev.back 1 (gs_3 rfl rfl (gf_u hS.1 qa_0 qr_0_3 qu_22 rfl)) H
  have H : Ev none e 115 32 [some (.ref 0), some (.int a), some (.int b), some (.int h), none] [.ref 0, .int h, .int b, .int a, .ref 104] M v M' 0 0 := Ev.back 4 (fun n => rfl) H
  have H : Ev none e 115 35 [some (.ref 0), some (.int a), some (.int b), some (.int h), none] [.ref (fR M 0 9), .int h, .int b, .int a, .ref 104] M v M' 0 0 := Ev.back 1 (gs_3 rfl rfl (gf_r hS.1 qa_0 qr_0_9 rfl)) H
  obtain ⟨e1, rfl⟩ := Ev.dpos rfl rfl H
  obtain ⟨vK1, MK1, K1, H⟩ := Ev.callb (fun n_ => gs_7 rfl rfl (show gCal (.invokevirtual 353) 10 (.ref (fR M 0 9) :: .int h :: .int b :: .int a :: .ref 104 :: []) M = some (.inr (65, [some (.ref 104), some (.int a), some (.int b), some (.int h), some (.ref (fR M 0 9)), none, none, none], [])) from by show @cond (Option ((List Value × Mem) ⊕ (Nat × Lo × List Value))) (true && gRecv M (.ref 104) 7 && gRoom [] && true) (some (.inr (65, [some (.ref 104), some (.int a), some (.int b), some (.int h), some (.ref (fR M 0 9)), none, none, none], []))) none = _; rw [recv_s hS.1 qa_104 qo_22]; rfl)) H
  have K1 : Ev none e1 65 0 [some (.ref 104), some (.int a), some (.int b), some (.int h), some (.ref (fR M 0 9)), none, none, none] [] M vK1 MK1 0 0 := K1
  have HF := H
  exact ⟨e1, vK1, MK1, rfl, K1, HF⟩
theorem way_38 {e : Nat} {M M' : Mem} {v : Option Value} {a b h r : Int32} (hS : SQ M) (H : Ev none e 115 38 [some (.ref 0), some (.int a), some (.int b), some (.int h), none] [.int r] M v M' 0 0) : (r = 0 ∧ v = some (.int (-1)) ∧ M' = (wF M 0 13 (zI M 104 11))) ∨ (¬ (r = 0) ∧ v = some (.int (zI M 104 11)) ∧ M' = (wF M 0 13 (zI M 104 11))) := by
  have H : Ev none e 115 42 [some (.ref 0), some (.int a), some (.int b), some (.int h), some (.int r)] [.ref 0, .ref 0] M v M' 0 0 := Ev.back 3 (fun n => rfl) H
  have H : Ev none e 115 45 [some (.ref 0), some (.int a), some (.int b), some (.int h), some (.int r)] [.ref 104, .ref 0] M v M' 0 0 := Ev.back 1 (gs_3 rfl rfl (gf_u hS.1 qa_0 qr_0_3 qu_22 rfl)) H
  have H : Ev none e 115 48 [some (.ref 0), some (.int a), some (.int b), some (.int h), some (.int r)] [.int (zI M 104 11), .ref 0] M v M' 0 0 := Ev.back 1 (gs_3 rfl rfl (gf_i hS.1 qa_104 qi_22_11 rfl)) H
  obtain ⟨N2, eN2⟩ : ∃ N, N = (wF M 0 13 (zI M 104 11)) := ⟨_, rfl⟩
  have hN2 : SQ N2 := by rw [eN2]; exact hS.kf
  have H : Ev none e 115 51 [some (.ref 0), some (.int a), some (.int b), some (.int h), some (.int r)] [] N2 v M' 0 0 := by rw [eN2]; exact Ev.pfi rfl rfl rfl hS.1 qa_0 qi_0_13 H
  have H : Ev none e 115 (if r = 0 then 63 else 56) [some (.ref 0), some (.int a), some (.int b), some (.int h), some (.int r)] [] N2 v M' 0 0 := Ev.back 2 (fun n => rfl) H
  by_cases h3 : r = 0
  · rw [if_pos h3] at H
    have H : Ev none e 115 64 [some (.ref 0), some (.int a), some (.int b), some (.int h), some (.int r)] [.int (-1)] N2 v M' 0 0 := Ev.back 1 (fun n => rfl) H
    obtain ⟨z1, z2⟩ := Ev.retz rfl rfl H
    subst eN2
    exact Or.inl ⟨h3, z1, z2⟩
  · rw [if_neg h3] at H
    have H : Ev none e 115 57 [some (.ref 0), some (.int a), some (.int b), some (.int h), some (.int r)] [.ref 0] N2 v M' 0 0 := Ev.back 1 (fun n => rfl) H
    have H : Ev none e 115 60 [some (.ref 0), some (.int a), some (.int b), some (.int h), some (.int r)] [.int (zI N2 0 13)] N2 v M' 0 0 := Ev.back 1 (gs_3 rfl rfl (gf_i hN2.1 qa_0 qi_0_13 rfl)) H
    rw [show zI N2 0 13 = zI M 104 11 from by rw [eN2]; exact fI_wF_eq hS.1 qa_0 qi_0_13] at H
    have H : Ev none e 115 64 [some (.ref 0), some (.int a), some (.int b), some (.int h), some (.int r)] [.int (zI M 104 11)] N2 v M' 0 0 := Ev.back 1 (fun n => rfl) H
    obtain ⟨z1, z2⟩ := Ev.retz rfl rfl H
    subst eN2
    exact Or.inr (⟨h3, z1, z2⟩)
theorem rea_0 {e : Nat} {M M' : Mem} {v : Option Value} (hS : SQ M) (H : Ev none e 117 0 [some (.ref 0), none] [] M v M' 0 0) : (∃ e1 v1 M1, e = e1 + 1 ∧ Ev none e1 118 0 [some (.ref 0), none, none, none, none, none] [] M v1 M1 0 0 ∧ Ev none e 117 4 [some (.ref 0), none] (v1.toList ++ []) M1 v M' 0 0) := by
  have H : Ev none e 117 1 [some (.ref 0), none] [.ref 0] M v M' 0 0 := Ev.back 1 (fun n => rfl) H
  obtain ⟨e1, rfl⟩ := Ev.dpos rfl rfl H
  obtain ⟨vK1, MK1, K1, H⟩ := Ev.callb (fun n_ => gs_7 rfl rfl (show gCal (.invokevirtual 360) 10 (.ref 0 :: []) M = some (.inr (118, [some (.ref 0), none, none, none, none, none], [])) from by show @cond (Option ((List Value × Mem) ⊕ (Nat × Lo × List Value))) (true && gRecv M (.ref 0) 10 && gRoom [] && true) (some (.inr (118, [some (.ref 0), none, none, none, none, none], []))) none = _; rw [recv_s hS.1 qa_0 qo_0]; rfl)) H
  have K1 : Ev none e1 118 0 [some (.ref 0), none, none, none, none, none] [] M vK1 MK1 0 0 := K1
  have HF := H
  exact ⟨e1, vK1, MK1, rfl, K1, HF⟩
theorem rea_4 {e : Nat} {M M' : Mem} {v : Option Value} {r : Int32} (hS : SQ M) (hLd : fR M 0 2 = 8) (H : Ev none e 117 4 [some (.ref 0), none] [.int r] M v M' 0 0) : (r = 0 ∧ v = some (.int (-1)) ∧ M' = (wF M 1 1 0)) ∨ (¬ (r = 0) ∧ (∃ e1 v1 M1, e = e1 + 1 ∧ Ev none e1 43 0 [some (.ref 229), some (.ref 8), none] [] M v1 M1 0 0 ∧ Ev none e 117 18 [some (.ref 0), none] (v1.toList ++ []) M1 v M' 0 0)) := by
  have H : Ev none e 117 (if r = 0 then 21 else 7) [some (.ref 0), none] [] M v M' 0 0 := Ev.back 1 (fun n => rfl) H
  by_cases h1 : r = 0
  · rw [if_pos h1] at H
    have H : Ev none e 117 24 [some (.ref 0), some (.int (-1))] [.ref 0] M v M' 0 0 := Ev.back 3 (fun n => rfl) H
    have H : Ev none e 117 27 [some (.ref 0), some (.int (-1))] [.ref 1] M v M' 0 0 := Ev.back 1 (gs_3 rfl rfl (gf_u hS.1 qa_0 qr_0_0 qu_1 rfl)) H
    have H : Ev none e 117 28 [some (.ref 0), some (.int (-1))] [.int 0, .ref 1] M v M' 0 0 := Ev.back 1 (fun n => rfl) H
    obtain ⟨N3, eN3⟩ : ∃ N, N = (wF M 1 1 0) := ⟨_, rfl⟩
    have hN3 : SQ N3 := by rw [eN3]; exact hS.kf
    have H : Ev none e 117 31 [some (.ref 0), some (.int (-1))] [] N3 v M' 0 0 := by rw [eN3]; exact Ev.pfi rfl rfl rfl hS.1 qa_1 qi_1_1 H
    have H : Ev none e 117 32 [some (.ref 0), some (.int (-1))] [.int (-1)] N3 v M' 0 0 := Ev.back 1 (fun n => rfl) H
    obtain ⟨z1, z2⟩ := Ev.retz rfl rfl H
    subst eN3
    exact Or.inl ⟨h1, z1, z2⟩
  · rw [if_neg h1] at H
    have H : Ev none e 117 8 [some (.ref 0), none] [.ref 0] M v M' 0 0 := Ev.back 1 (fun n => rfl) H
    have H : Ev none e 117 11 [some (.ref 0), none] [.ref 229] M v M' 0 0 := Ev.back 1 (gs_3 rfl rfl (gf_u hS.1 qa_0 qr_0_5 qu_46 rfl)) H
    have H : Ev none e 117 12 [some (.ref 0), none] [.ref 0, .ref 229] M v M' 0 0 := Ev.back 1 (fun n => rfl) H
    have H : Ev none e 117 15 [some (.ref 0), none] [.ref (fR M 0 2), .ref 229] M v M' 0 0 := Ev.back 1 (gs_3 rfl rfl (gf_r hS.1 qa_0 qr_0_2 rfl)) H
    rw [hLd] at H
    obtain ⟨e1, rfl⟩ := Ev.dpos rfl rfl H
    obtain ⟨vK4, MK4, K4, H⟩ := Ev.callb (fun n_ => gs_7 rfl rfl (show gCal (.invokevirtual 364) 10 (.ref 8 :: .ref 229 :: []) M = some (.inr (43, [some (.ref 229), some (.ref 8), none], [])) from by show @cond (Option ((List Value × Mem) ⊕ (Nat × Lo × List Value))) (true && gRecv M (.ref 229) 4 && gRoom [] && true) (some (.inr (43, [some (.ref 229), some (.ref 8), none], []))) none = _; rw [recv_s hS.1 qa_229 qo_46]; rfl)) H
    have K4 : Ev none e1 43 0 [some (.ref 229), some (.ref 8), none] [] M vK4 MK4 0 0 := K4
    have HF := H
    exact Or.inr (⟨h1, ⟨e1, vK4, MK4, rfl, K4, HF⟩⟩)
theorem rea_18 {e : Nat} {M M' : Mem} {v : Option Value} {r : Int32} (hS : SQ M) (H : Ev none e 117 18 [some (.ref 0), none] [.int r] M v M' 0 0) : v = some (.int r) ∧ M' = (wF M 1 1 0) := by
  have H : Ev none e 117 24 [some (.ref 0), some (.int r)] [.ref 0] M v M' 0 0 := Ev.back 3 (fun n => rfl) H
  have H : Ev none e 117 27 [some (.ref 0), some (.int r)] [.ref 1] M v M' 0 0 := Ev.back 1 (gs_3 rfl rfl (gf_u hS.1 qa_0 qr_0_0 qu_1 rfl)) H
  have H : Ev none e 117 28 [some (.ref 0), some (.int r)] [.int 0, .ref 1] M v M' 0 0 := Ev.back 1 (fun n => rfl) H
  obtain ⟨N2, eN2⟩ : ∃ N, N = (wF M 1 1 0) := ⟨_, rfl⟩
  have hN2 : SQ N2 := by rw [eN2]; exact hS.kf
  have H : Ev none e 117 31 [some (.ref 0), some (.int r)] [] N2 v M' 0 0 := by rw [eN2]; exact Ev.pfi rfl rfl rfl hS.1 qa_1 qi_1_1 H
  have H : Ev none e 117 32 [some (.ref 0), some (.int r)] [.int r] N2 v M' 0 0 := Ev.back 1 (fun n => rfl) H
  obtain ⟨z1, z2⟩ := Ev.retz rfl rfl H
  subst eN2
  exact ⟨z1, z2⟩
theorem twy_0 {e : Nat} {M M' : Mem} {v : Option Value} (hS : SQ M) (hLd : fR M 0 2 = 8) (H : Ev none e 118 0 [some (.ref 0), none, none, none, none, none] [] M v M' 0 0) : ((G_126 M ((zI M 1 1) / 3) 1 5) = 0 ∧ v = some (.int 0) ∧ M' = M) ∨ (¬ ((G_126 M ((zI M 1 1) / 3) 1 5) = 0) ∧ (zI M 1 1) = (3 * ((zI M 1 1) / 3)) ∧ (∃ e1 v1 M1, e = e1 + 1 ∧ Ev none e1 54 0 [some (.ref 104), some (.ref 8)] [] M v1 M1 0 0 ∧ Ev none e 118 45 [some (.ref 0), some (.int ((zI M 1 1) / 3)), none, none, none, none] (v1.toList ++ []) M1 v M' 0 0)) ∨ (¬ ((G_126 M ((zI M 1 1) / 3) 1 5) = 0) ∧ ¬ ((zI M 1 1) = (3 * ((zI M 1 1) / 3))) ∧ v = some (.int 0) ∧ M' = M) := by
  have H : Ev none e 118 1 [some (.ref 0), none, none, none, none, none] [.ref 0] M v M' 0 0 := Ev.back 1 (fun n => rfl) H
  have H : Ev none e 118 4 [some (.ref 0), none, none, none, none, none] [.ref 1] M v M' 0 0 := Ev.back 1 (gs_3 rfl rfl (gf_u hS.1 qa_0 qr_0_0 qu_1 rfl)) H
  have H : Ev none e 118 7 [some (.ref 0), none, none, none, none, none] [.int (zI M 1 1)] M v M' 0 0 := Ev.back 1 (gs_3 rfl rfl (gf_i hS.1 qa_1 qi_1_1 rfl)) H
  have H : Ev none e 118 13 [some (.ref 0), some (.int ((zI M 1 1) / 3)), none, none, none, none] [.int 5, .int 1, .int ((zI M 1 1) / 3)] M v M' 0 0 := Ev.back 6 (fun n => rfl) H
  obtain ⟨e1, rfl⟩ := Ev.dpos rfl rfl H
  obtain ⟨vK1, MK1, K1, H⟩ := Ev.callb (fun n => rfl) H
  obtain ⟨pK1, qK1⟩ := g_126 hS K1
  rw [pK1, qK1] at H
  have H : Ev none (e1 + 1) 118 16 [some (.ref 0), some (.int ((zI M 1 1) / 3)), none, none, none, none] [.int (G_126 M ((zI M 1 1) / 3) 1 5)] M v M' 0 0 := H
  have H : Ev none (e1 + 1) 118 (if (G_126 M ((zI M 1 1) / 3) 1 5) = 0 then 32 else 19) [some (.ref 0), some (.int ((zI M 1 1) / 3)), none, none, none, none] [] M v M' 0 0 := Ev.back 1 (fun n => rfl) H
  by_cases h2 : (G_126 M ((zI M 1 1) / 3) 1 5) = 0
  · rw [if_pos h2] at H
    have H : Ev none (e1 + 1) 118 33 [some (.ref 0), some (.int ((zI M 1 1) / 3)), none, none, none, none] [.int 0] M v M' 0 0 := Ev.back 1 (fun n => rfl) H
    obtain ⟨z1, z2⟩ := Ev.retz rfl rfl H
    exact Or.inl ⟨h2, z1, z2⟩
  · rw [if_neg h2] at H
    have H : Ev none (e1 + 1) 118 20 [some (.ref 0), some (.int ((zI M 1 1) / 3)), none, none, none, none] [.ref 0] M v M' 0 0 := Ev.back 1 (fun n => rfl) H
    have H : Ev none (e1 + 1) 118 23 [some (.ref 0), some (.int ((zI M 1 1) / 3)), none, none, none, none] [.ref 1] M v M' 0 0 := Ev.back 1 (gs_3 rfl rfl (gf_u hS.1 qa_0 qr_0_0 qu_1 rfl)) H
    have H : Ev none (e1 + 1) 118 26 [some (.ref 0), some (.int ((zI M 1 1) / 3)), none, none, none, none] [.int (zI M 1 1)] M v M' 0 0 := Ev.back 1 (gs_3 rfl rfl (gf_i hS.1 qa_1 qi_1_1 rfl)) H
    have H : Ev none (e1 + 1) 118 (if (zI M 1 1) = (3 * ((zI M 1 1) / 3)) then 34 else 32) [some (.ref 0), some (.int ((zI M 1 1) / 3)), none, none, none, none] [] M v M' 0 0 := Ev.back 4 (fun n => rfl) H
    by_cases h3 : (zI M 1 1) = (3 * ((zI M 1 1) / 3))
    · rw [if_pos h3] at H
      have H : Ev none (e1 + 1) 118 35 [some (.ref 0), some (.int ((zI M 1 1) / 3)), none, none, none, none] [.ref 0] M v M' 0 0 := Ev.back 1 (fun n => rfl) H
      have H : Ev none (e1 + 1) 118 38 [some (.ref 0), some (.int ((zI M 1 1) / 3)), none, none, none, none] [.ref 104] M v M' 0 0 := Ev.back 1 (gs_3 rfl rfl (gf_u hS.1 qa_0 qr_0_3 qu_22 rfl)) H
      have H : Ev none (e1 + 1) 118 39 [some (.ref 0), some (.int ((zI M 1 1) / 3)), none, none, none, none] [.ref 0, .ref 104] M v M' 0 0 := Ev.back 1 (fun n => rfl) H
      have H : Ev none (e1 + 1) 118 42 [some (.ref 0), some (.int ((zI M 1 1) / 3)), none, none, none, none] [.ref (fR M 0 2), .ref 104] M v M' 0 0 := Ev.back 1 (gs_3 rfl rfl (gf_r hS.1 qa_0 qr_0_2 rfl)) H
      rw [hLd] at H
      obtain ⟨vK4, MK4, K4, H⟩ := Ev.callb (fun n_ => gs_7 rfl rfl (show gCal (.invokevirtual 197) 10 (.ref 8 :: .ref 104 :: []) M = some (.inr (54, [some (.ref 104), some (.ref 8)], [])) from by show @cond (Option ((List Value × Mem) ⊕ (Nat × Lo × List Value))) (true && gRecv M (.ref 104) 7 && gRoom [] && true) (some (.inr (54, [some (.ref 104), some (.ref 8)], []))) none = _; rw [recv_s hS.1 qa_104 qo_22]; rfl)) H
      have K4 : Ev none e1 54 0 [some (.ref 104), some (.ref 8)] [] M vK4 MK4 0 0 := K4
      have HF := H
      exact Or.inr (Or.inl ⟨h2, h3, ⟨e1, vK4, MK4, rfl, K4, HF⟩⟩)
    · rw [if_neg h3] at H
      have H : Ev none (e1 + 1) 118 33 [some (.ref 0), some (.int ((zI M 1 1) / 3)), none, none, none, none] [.int 0] M v M' 0 0 := Ev.back 1 (fun n => rfl) H
      obtain ⟨z1, z2⟩ := Ev.retz rfl rfl H
      exact Or.inr (Or.inr (⟨h2, h3, z1, z2⟩))
theorem twy_45 {e : Nat} {M M' : Mem} {v : Option Value} {n : Int32} (hS : SQ M) (H : Ev none e 118 45 [some (.ref 0), some (.int n), none, none, none, none] [] M v M' 0 0) : Ev none e 118 55 [some (.ref 0), some (.int n), some (.int 0), none, none, none] [] (wF M 229 2 n) v M' 0 0 := by
  have H : Ev none e 118 46 [some (.ref 0), some (.int n), none, none, none, none] [.ref 0] M v M' 0 0 := Ev.back 1 (fun n => rfl) H
  have H : Ev none e 118 49 [some (.ref 0), some (.int n), none, none, none, none] [.ref 229] M v M' 0 0 := Ev.back 1 (gs_3 rfl rfl (gf_u hS.1 qa_0 qr_0_5 qu_46 rfl)) H
  have H : Ev none e 118 50 [some (.ref 0), some (.int n), none, none, none, none] [.int n, .ref 229] M v M' 0 0 := Ev.back 1 (fun n => rfl) H
  obtain ⟨N2, eN2⟩ : ∃ N, N = (wF M 229 2 n) := ⟨_, rfl⟩
  have hN2 : SQ N2 := by rw [eN2]; exact hS.kf
  have H : Ev none e 118 53 [some (.ref 0), some (.int n), none, none, none, none] [] N2 v M' 0 0 := by rw [eN2]; exact Ev.pfi rfl rfl rfl hS.1 qa_229 qi_46_2 H
  have H : Ev none e 118 55 [some (.ref 0), some (.int n), some (.int 0), none, none, none] [] N2 v M' 0 0 := Ev.back 2 (fun n => rfl) H
  have HF := H
  subst eN2
  exact HF
theorem twy_55 {e : Nat} {M M' : Mem} {v : Option Value} {n i : Int32} {c3 c4 c5 : Option Value} (hS : SQ M) (H : Ev none e 118 55 [some (.ref 0), some (.int n), some (.int i), c3, c4, c5] [] M v M' 0 0) : (n ≤ i ∧ v = some (.int 1) ∧ M' = M) ∨ (¬ (n ≤ i) ∧ (0 ≤ (3 * i).toInt ∧ (3 * i).toInt < 440) ∧ (0 ≤ ((3 * i) + 1).toInt ∧ ((3 * i) + 1).toInt < 440) ∧ (0 ≤ ((3 * i) + 2).toInt ∧ ((3 * i) + 2).toInt < 440) ∧ (∃ e1 v1 M1, e = e1 + 1 ∧ Ev none e1 132 0 [some (.ref 0), some (.int (rI M 2 (3 * i))), some (.int (rI M 2 ((3 * i) + 1))), some (.int (rI M 2 ((3 * i) + 2)))] [] M v1 M1 0 0 ∧ Ev none e 118 111 [some (.ref 0), some (.int n), some (.int i), some (.int (rI M 2 (3 * i))), some (.int (rI M 2 ((3 * i) + 1))), some (.int (rI M 2 ((3 * i) + 2)))] (v1.toList ++ []) M1 v M' 0 0)) := by
  have H : Ev none e 118 (if n ≤ i then 160 else 60) [some (.ref 0), some (.int n), some (.int i), c3, c4, c5] [] M v M' 0 0 := Ev.back 3 (fun n => rfl) H
  by_cases h1 : n ≤ i
  · rw [if_pos h1] at H
    have H : Ev none e 118 161 [some (.ref 0), some (.int n), some (.int i), c3, c4, c5] [.int 1] M v M' 0 0 := Ev.back 1 (fun n => rfl) H
    obtain ⟨z1, z2⟩ := Ev.retz rfl rfl H
    exact Or.inl ⟨h1, z1, z2⟩
  · rw [if_neg h1] at H
    have H : Ev none e 118 61 [some (.ref 0), some (.int n), some (.int i), c3, c4, c5] [.ref 0] M v M' 0 0 := Ev.back 1 (fun n => rfl) H
    have H : Ev none e 118 64 [some (.ref 0), some (.int n), some (.int i), c3, c4, c5] [.ref 1] M v M' 0 0 := Ev.back 1 (gs_3 rfl rfl (gf_u hS.1 qa_0 qr_0_0 qu_1 rfl)) H
    have H : Ev none e 118 67 [some (.ref 0), some (.int n), some (.int i), c3, c4, c5] [.ref 2] M v M' 0 0 := Ev.back 1 (gs_3 rfl rfl (gf_u hS.1 qa_1 qr_1_0 qu_2 rfl)) H
    have H : Ev none e 118 70 [some (.ref 0), some (.int n), some (.int i), c3, c4, c5] [.int (3 * i), .ref 2] M v M' 0 0 := Ev.back 3 (fun n => rfl) H
    obtain ⟨b2, H⟩ := Ev.ial rfl rfl hS.1 qa_2 qw_2 H
    have H : Ev none e 118 71 [some (.ref 0), some (.int n), some (.int i), c3, c4, c5] [.int (rI M 2 (3 * i))] M v M' 0 0 := H
    have H : Ev none e 118 73 [some (.ref 0), some (.int n), some (.int i), some (.int (rI M 2 (3 * i))), c4, c5] [.ref 0] M v M' 0 0 := Ev.back 2 (fun n => rfl) H
    have H : Ev none e 118 76 [some (.ref 0), some (.int n), some (.int i), some (.int (rI M 2 (3 * i))), c4, c5] [.ref 1] M v M' 0 0 := Ev.back 1 (gs_3 rfl rfl (gf_u hS.1 qa_0 qr_0_0 qu_1 rfl)) H
    have H : Ev none e 118 79 [some (.ref 0), some (.int n), some (.int i), some (.int (rI M 2 (3 * i))), c4, c5] [.ref 2] M v M' 0 0 := Ev.back 1 (gs_3 rfl rfl (gf_u hS.1 qa_1 qr_1_0 qu_2 rfl)) H
    have H : Ev none e 118 84 [some (.ref 0), some (.int n), some (.int i), some (.int (rI M 2 (3 * i))), c4, c5] [.int ((3 * i) + 1), .ref 2] M v M' 0 0 := Ev.back 5 (fun n => rfl) H
    obtain ⟨b3, H⟩ := Ev.ial rfl rfl hS.1 qa_2 qw_2 H
    have H : Ev none e 118 85 [some (.ref 0), some (.int n), some (.int i), some (.int (rI M 2 (3 * i))), c4, c5] [.int (rI M 2 ((3 * i) + 1))] M v M' 0 0 := H
    have H : Ev none e 118 88 [some (.ref 0), some (.int n), some (.int i), some (.int (rI M 2 (3 * i))), some (.int (rI M 2 ((3 * i) + 1))), c5] [.ref 0] M v M' 0 0 := Ev.back 2 (fun n => rfl) H
    have H : Ev none e 118 91 [some (.ref 0), some (.int n), some (.int i), some (.int (rI M 2 (3 * i))), some (.int (rI M 2 ((3 * i) + 1))), c5] [.ref 1] M v M' 0 0 := Ev.back 1 (gs_3 rfl rfl (gf_u hS.1 qa_0 qr_0_0 qu_1 rfl)) H
    have H : Ev none e 118 94 [some (.ref 0), some (.int n), some (.int i), some (.int (rI M 2 (3 * i))), some (.int (rI M 2 ((3 * i) + 1))), c5] [.ref 2] M v M' 0 0 := Ev.back 1 (gs_3 rfl rfl (gf_u hS.1 qa_1 qr_1_0 qu_2 rfl)) H
    have H : Ev none e 118 99 [some (.ref 0), some (.int n), some (.int i), some (.int (rI M 2 (3 * i))), some (.int (rI M 2 ((3 * i) + 1))), c5] [.int ((3 * i) + 2), .ref 2] M v M' 0 0 := Ev.back 5 (fun n => rfl) H
    obtain ⟨b4, H⟩ := Ev.ial rfl rfl hS.1 qa_2 qw_2 H
    have H : Ev none e 118 100 [some (.ref 0), some (.int n), some (.int i), some (.int (rI M 2 (3 * i))), some (.int (rI M 2 ((3 * i) + 1))), c5] [.int (rI M 2 ((3 * i) + 2))] M v M' 0 0 := H
    have H : Ev none e 118 108 [some (.ref 0), some (.int n), some (.int i), some (.int (rI M 2 (3 * i))), some (.int (rI M 2 ((3 * i) + 1))), some (.int (rI M 2 ((3 * i) + 2)))] [.int (rI M 2 ((3 * i) + 2)), .int (rI M 2 ((3 * i) + 1)), .int (rI M 2 (3 * i)), .ref 0] M v M' 0 0 := Ev.back 5 (fun n => rfl) H
    obtain ⟨e1, rfl⟩ := Ev.dpos rfl rfl H
    obtain ⟨vK5, MK5, K5, H⟩ := Ev.callb (fun n_ => gs_7 rfl rfl (show gCal (.invokevirtual 350) 10 (.int (rI M 2 ((3 * i) + 2)) :: .int (rI M 2 ((3 * i) + 1)) :: .int (rI M 2 (3 * i)) :: .ref 0 :: []) M = some (.inr (132, [some (.ref 0), some (.int (rI M 2 (3 * i))), some (.int (rI M 2 ((3 * i) + 1))), some (.int (rI M 2 ((3 * i) + 2)))], [])) from by show @cond (Option ((List Value × Mem) ⊕ (Nat × Lo × List Value))) (true && gRecv M (.ref 0) 10 && gRoom [] && true) (some (.inr (132, [some (.ref 0), some (.int (rI M 2 (3 * i))), some (.int (rI M 2 ((3 * i) + 1))), some (.int (rI M 2 ((3 * i) + 2)))], []))) none = _; rw [recv_s hS.1 qa_0 qo_0]; rfl)) H
    have K5 : Ev none e1 132 0 [some (.ref 0), some (.int (rI M 2 (3 * i))), some (.int (rI M 2 ((3 * i) + 1))), some (.int (rI M 2 ((3 * i) + 2)))] [] M vK5 MK5 0 0 := K5
    have HF := H
    exact Or.inr (⟨h1, b2, b3, b4, ⟨e1, vK5, MK5, rfl, K5, HF⟩⟩)
theorem twy_111 {e : Nat} {M M' : Mem} {v : Option Value} {n i a b h r : Int32} (hS : SQ M) (H : Ev none e 118 111 [some (.ref 0), some (.int n), some (.int i), some (.int a), some (.int b), some (.int h)] [.int r] M v M' 0 0) : (r = 0 ∧ v = some (.int 0) ∧ M' = M) ∨ (¬ (r = 0) ∧ (∃ e1 v1 M1, e = e1 + 1 ∧ Ev none e1 65 0 [some (.ref 104), some (.int a), some (.int b), some (.int h), some (.ref (fR M 0 10)), none, none, none] [] M v1 M1 0 0 ∧ Ev none e 118 130 [some (.ref 0), some (.int n), some (.int i), some (.int a), some (.int b), some (.int h)] (v1.toList ++ []) M1 v M' 0 0)) := by
  have H : Ev none e 118 (if r = 0 then 133 else 114) [some (.ref 0), some (.int n), some (.int i), some (.int a), some (.int b), some (.int h)] [] M v M' 0 0 := Ev.back 1 (fun n => rfl) H
  by_cases h1 : r = 0
  · rw [if_pos h1] at H
    have H : Ev none e 118 134 [some (.ref 0), some (.int n), some (.int i), some (.int a), some (.int b), some (.int h)] [.int 0] M v M' 0 0 := Ev.back 1 (fun n => rfl) H
    obtain ⟨z1, z2⟩ := Ev.retz rfl rfl H
    exact Or.inl ⟨h1, z1, z2⟩
  · rw [if_neg h1] at H
    have H : Ev none e 118 115 [some (.ref 0), some (.int n), some (.int i), some (.int a), some (.int b), some (.int h)] [.ref 0] M v M' 0 0 := Ev.back 1 (fun n => rfl) H
    have H : Ev none e 118 118 [some (.ref 0), some (.int n), some (.int i), some (.int a), some (.int b), some (.int h)] [.ref 104] M v M' 0 0 := Ev.back 1 (gs_3 rfl rfl (gf_u hS.1 qa_0 qr_0_3 qu_22 rfl)) H
    have H : Ev none e 118 124 [some (.ref 0), some (.int n), some (.int i), some (.int a), some (.int b), some (.int h)] [.ref 0, .int h, .int b, .int a, .ref 104] M v M' 0 0 := Ev.back 4 (fun n => rfl) H
    have H : Ev none e 118 127 [some (.ref 0), some (.int n), some (.int i), some (.int a), some (.int b), some (.int h)] [.ref (fR M 0 10), .int h, .int b, .int a, .ref 104] M v M' 0 0 := Ev.back 1 (gs_3 rfl rfl (gf_r hS.1 qa_0 qr_0_10 rfl)) H
    obtain ⟨e1, rfl⟩ := Ev.dpos rfl rfl H
    obtain ⟨vK2, MK2, K2, H⟩ := Ev.callb (fun n_ => gs_7 rfl rfl (show gCal (.invokevirtual 353) 10 (.ref (fR M 0 10) :: .int h :: .int b :: .int a :: .ref 104 :: []) M = some (.inr (65, [some (.ref 104), some (.int a), some (.int b), some (.int h), some (.ref (fR M 0 10)), none, none, none], [])) from by show @cond (Option ((List Value × Mem) ⊕ (Nat × Lo × List Value))) (true && gRecv M (.ref 104) 7 && gRoom [] && true) (some (.inr (65, [some (.ref 104), some (.int a), some (.int b), some (.int h), some (.ref (fR M 0 10)), none, none, none], []))) none = _; rw [recv_s hS.1 qa_104 qo_22]; rfl)) H
    have K2 : Ev none e1 65 0 [some (.ref 104), some (.int a), some (.int b), some (.int h), some (.ref (fR M 0 10)), none, none, none] [] M vK2 MK2 0 0 := K2
    have HF := H
    exact Or.inr (⟨h1, ⟨e1, vK2, MK2, rfl, K2, HF⟩⟩)
theorem twy_130 {e : Nat} {M M' : Mem} {v : Option Value} {n i a b h r : Int32} (hS : SQ M) (H : Ev none e 118 130 [some (.ref 0), some (.int n), some (.int i), some (.int a), some (.int b), some (.int h)] [.int r] M v M' 0 0) : (r = 0 ∧ v = some (.int 0) ∧ M' = M) ∨ (¬ (r = 0) ∧ (∃ e1 v1 M1, e = e1 + 1 ∧ Ev none e1 42 0 [some (.ref 229), some (.int i), some (.ref (fR M 0 10)), some (.int (zI M 104 11)), none] [] M v1 M1 0 0 ∧ Ev none e 118 154 [some (.ref 0), some (.int n), some (.int i), some (.int a), some (.int b), some (.int h)] (v1.toList ++ []) M1 v M' 0 0)) := by
  have H : Ev none e 118 (if r = 0 then 133 else 135) [some (.ref 0), some (.int n), some (.int i), some (.int a), some (.int b), some (.int h)] [] M v M' 0 0 := Ev.back 1 (fun n => rfl) H
  by_cases h1 : r = 0
  · rw [if_pos h1] at H
    have H : Ev none e 118 134 [some (.ref 0), some (.int n), some (.int i), some (.int a), some (.int b), some (.int h)] [.int 0] M v M' 0 0 := Ev.back 1 (fun n => rfl) H
    obtain ⟨z1, z2⟩ := Ev.retz rfl rfl H
    exact Or.inl ⟨h1, z1, z2⟩
  · rw [if_neg h1] at H
    have H : Ev none e 118 136 [some (.ref 0), some (.int n), some (.int i), some (.int a), some (.int b), some (.int h)] [.ref 0] M v M' 0 0 := Ev.back 1 (fun n => rfl) H
    have H : Ev none e 118 139 [some (.ref 0), some (.int n), some (.int i), some (.int a), some (.int b), some (.int h)] [.ref 229] M v M' 0 0 := Ev.back 1 (gs_3 rfl rfl (gf_u hS.1 qa_0 qr_0_5 qu_46 rfl)) H
    have H : Ev none e 118 141 [some (.ref 0), some (.int n), some (.int i), some (.int a), some (.int b), some (.int h)] [.ref 0, .int i, .ref 229] M v M' 0 0 := Ev.back 2 (fun n => rfl) H
    have H : Ev none e 118 144 [some (.ref 0), some (.int n), some (.int i), some (.int a), some (.int b), some (.int h)] [.ref (fR M 0 10), .int i, .ref 229] M v M' 0 0 := Ev.back 1 (gs_3 rfl rfl (gf_r hS.1 qa_0 qr_0_10 rfl)) H
    have H : Ev none e 118 145 [some (.ref 0), some (.int n), some (.int i), some (.int a), some (.int b), some (.int h)] [.ref 0, .ref (fR M 0 10), .int i, .ref 229] M v M' 0 0 := Ev.back 1 (fun n => rfl) H
    have H : Ev none e 118 148 [some (.ref 0), some (.int n), some (.int i), some (.int a), some (.int b), some (.int h)] [.ref 104, .ref (fR M 0 10), .int i, .ref 229] M v M' 0 0 := Ev.back 1 (gs_3 rfl rfl (gf_u hS.1 qa_0 qr_0_3 qu_22 rfl)) H
    have H : Ev none e 118 151 [some (.ref 0), some (.int n), some (.int i), some (.int a), some (.int b), some (.int h)] [.int (zI M 104 11), .ref (fR M 0 10), .int i, .ref 229] M v M' 0 0 := Ev.back 1 (gs_3 rfl rfl (gf_i hS.1 qa_104 qi_22_11 rfl)) H
    obtain ⟨e1, rfl⟩ := Ev.dpos rfl rfl H
    obtain ⟨vK2, MK2, K2, H⟩ := Ev.callb (fun n_ => gs_7 rfl rfl (show gCal (.invokevirtual 371) 10 (.int (zI M 104 11) :: .ref (fR M 0 10) :: .int i :: .ref 229 :: []) M = some (.inr (42, [some (.ref 229), some (.int i), some (.ref (fR M 0 10)), some (.int (zI M 104 11)), none], [])) from by show @cond (Option ((List Value × Mem) ⊕ (Nat × Lo × List Value))) (true && gRecv M (.ref 229) 4 && gRoom [] && true) (some (.inr (42, [some (.ref 229), some (.int i), some (.ref (fR M 0 10)), some (.int (zI M 104 11)), none], []))) none = _; rw [recv_s hS.1 qa_229 qo_46]; rfl)) H
    have K2 : Ev none e1 42 0 [some (.ref 229), some (.int i), some (.ref (fR M 0 10)), some (.int (zI M 104 11)), none] [] M vK2 MK2 0 0 := K2
    have HF := H
    exact Or.inr (⟨h1, ⟨e1, vK2, MK2, rfl, K2, HF⟩⟩)
theorem twy_154 {e : Nat} {M M' : Mem} {v : Option Value} {n i a b h : Int32} (hS : SQ M) (H : Ev none e 118 154 [some (.ref 0), some (.int n), some (.int i), some (.int a), some (.int b), some (.int h)] [] M v M' 0 0) : Ev none e 118 55 [some (.ref 0), some (.int n), some (.int (i + 1)), some (.int a), some (.int b), some (.int h)] [] M v M' 0 0 := by
  have H : Ev none e 118 55 [some (.ref 0), some (.int n), some (.int (i + 1)), some (.int a), some (.int b), some (.int h)] [] M v M' 0 0 := Ev.back 2 (fun n => rfl) H
  have HF := H
  exact HF
theorem fit_0 {e : Nat} {M M' : Mem} {v : Option Value} {a b : Int32} (hS : SQ M) (H : Ev none e 120 0 [some (.ref 0), some (.int a), some (.int b), none] [] M v M' 0 0) : ((G_126 M (zI M 1 1) 1 200) = 0 ∧ v = some (.int (-1)) ∧ M' = (wF M 1 1 0)) ∨ (¬ ((G_126 M (zI M 1 1) 1 200) = 0) ∧ (∃ e1 v1 M1, e = e1 + 1 ∧ Ev none e1 129 0 [some (.ref 0), some (.int a), some (.int b)] [] M v1 M1 0 0 ∧ Ev none e 120 25 [some (.ref 0), some (.int a), some (.int b), some (.int (-1))] (v1.toList ++ []) M1 v M' 0 0)) := by
  have H : Ev none e 120 3 [some (.ref 0), some (.int a), some (.int b), some (.int (-1))] [.ref 0] M v M' 0 0 := Ev.back 3 (fun n => rfl) H
  have H : Ev none e 120 6 [some (.ref 0), some (.int a), some (.int b), some (.int (-1))] [.ref 1] M v M' 0 0 := Ev.back 1 (gs_3 rfl rfl (gf_u hS.1 qa_0 qr_0_0 qu_1 rfl)) H
  have H : Ev none e 120 9 [some (.ref 0), some (.int a), some (.int b), some (.int (-1))] [.int (zI M 1 1)] M v M' 0 0 := Ev.back 1 (gs_3 rfl rfl (gf_i hS.1 qa_1 qi_1_1 rfl)) H
  have H : Ev none e 120 13 [some (.ref 0), some (.int a), some (.int b), some (.int (-1))] [.int 200, .int 1, .int (zI M 1 1)] M v M' 0 0 := Ev.back 2 (fun n => rfl) H
  obtain ⟨e1, rfl⟩ := Ev.dpos rfl rfl H
  obtain ⟨vK1, MK1, K1, H⟩ := Ev.callb (fun n => rfl) H
  obtain ⟨pK1, qK1⟩ := g_126 hS K1
  rw [pK1, qK1] at H
  have H : Ev none (e1 + 1) 120 16 [some (.ref 0), some (.int a), some (.int b), some (.int (-1))] [.int (G_126 M (zI M 1 1) 1 200)] M v M' 0 0 := H
  have H : Ev none (e1 + 1) 120 (if (G_126 M (zI M 1 1) 1 200) = 0 then 35 else 19) [some (.ref 0), some (.int a), some (.int b), some (.int (-1))] [] M v M' 0 0 := Ev.back 1 (fun n => rfl) H
  by_cases h2 : (G_126 M (zI M 1 1) 1 200) = 0
  · rw [if_pos h2] at H
    have H : Ev none (e1 + 1) 120 36 [some (.ref 0), some (.int a), some (.int b), some (.int (-1))] [.ref 0] M v M' 0 0 := Ev.back 1 (fun n => rfl) H
    have H : Ev none (e1 + 1) 120 39 [some (.ref 0), some (.int a), some (.int b), some (.int (-1))] [.ref 1] M v M' 0 0 := Ev.back 1 (gs_3 rfl rfl (gf_u hS.1 qa_0 qr_0_0 qu_1 rfl)) H
    have H : Ev none (e1 + 1) 120 40 [some (.ref 0), some (.int a), some (.int b), some (.int (-1))] [.int 0, .ref 1] M v M' 0 0 := Ev.back 1 (fun n => rfl) H
    obtain ⟨N4, eN4⟩ : ∃ N, N = (wF M 1 1 0) := ⟨_, rfl⟩
    have hN4 : SQ N4 := by rw [eN4]; exact hS.kf
    have H : Ev none (e1 + 1) 120 43 [some (.ref 0), some (.int a), some (.int b), some (.int (-1))] [] N4 v M' 0 0 := by rw [eN4]; exact Ev.pfi rfl rfl rfl hS.1 qa_1 qi_1_1 H
    have H : Ev none (e1 + 1) 120 44 [some (.ref 0), some (.int a), some (.int b), some (.int (-1))] [.int (-1)] N4 v M' 0 0 := Ev.back 1 (fun n => rfl) H
    obtain ⟨z1, z2⟩ := Ev.retz rfl rfl H
    subst eN4
    exact Or.inl ⟨h2, z1, z2⟩
  · rw [if_neg h2] at H
    have H : Ev none (e1 + 1) 120 22 [some (.ref 0), some (.int a), some (.int b), some (.int (-1))] [.int b, .int a, .ref 0] M v M' 0 0 := Ev.back 3 (fun n => rfl) H
    obtain ⟨vK5, MK5, K5, H⟩ := Ev.callb (fun n_ => gs_7 rfl rfl (show gCal (.invokevirtual 162) 10 (.int b :: .int a :: .ref 0 :: []) M = some (.inr (129, [some (.ref 0), some (.int a), some (.int b)], [])) from by show @cond (Option ((List Value × Mem) ⊕ (Nat × Lo × List Value))) (true && gRecv M (.ref 0) 10 && gRoom [] && true) (some (.inr (129, [some (.ref 0), some (.int a), some (.int b)], []))) none = _; rw [recv_s hS.1 qa_0 qo_0]; rfl)) H
    have K5 : Ev none e1 129 0 [some (.ref 0), some (.int a), some (.int b)] [] M vK5 MK5 0 0 := K5
    have HF := H
    exact Or.inr (⟨h2, ⟨e1, vK5, MK5, rfl, K5, HF⟩⟩)
theorem fit_25 {e : Nat} {M M' : Mem} {v : Option Value} {a b r0 r : Int32} (hS : SQ M) (H : Ev none e 120 25 [some (.ref 0), some (.int a), some (.int b), some (.int r0)] [.int r] M v M' 0 0) : (r = 0 ∧ v = some (.int r0) ∧ M' = (wF M 1 1 0)) ∨ (¬ (r = 0) ∧ (∃ e1 v1 M1, e = e1 + 1 ∧ Ev none e1 121 0 [some (.ref 0), some (.int a), some (.int b), none, none] [] M v1 M1 0 0 ∧ Ev none e 120 34 [some (.ref 0), some (.int a), some (.int b), some (.int r0)] (v1.toList ++ []) M1 v M' 0 0)) := by
  have H : Ev none e 120 (if r = 0 then 35 else 28) [some (.ref 0), some (.int a), some (.int b), some (.int r0)] [] M v M' 0 0 := Ev.back 1 (fun n => rfl) H
  by_cases h1 : r = 0
  · rw [if_pos h1] at H
    have H : Ev none e 120 36 [some (.ref 0), some (.int a), some (.int b), some (.int r0)] [.ref 0] M v M' 0 0 := Ev.back 1 (fun n => rfl) H
    have H : Ev none e 120 39 [some (.ref 0), some (.int a), some (.int b), some (.int r0)] [.ref 1] M v M' 0 0 := Ev.back 1 (gs_3 rfl rfl (gf_u hS.1 qa_0 qr_0_0 qu_1 rfl)) H
    have H : Ev none e 120 40 [some (.ref 0), some (.int a), some (.int b), some (.int r0)] [.int 0, .ref 1] M v M' 0 0 := Ev.back 1 (fun n => rfl) H
    obtain ⟨N3, eN3⟩ : ∃ N, N = (wF M 1 1 0) := ⟨_, rfl⟩
    have hN3 : SQ N3 := by rw [eN3]; exact hS.kf
    have H : Ev none e 120 43 [some (.ref 0), some (.int a), some (.int b), some (.int r0)] [] N3 v M' 0 0 := by rw [eN3]; exact Ev.pfi rfl rfl rfl hS.1 qa_1 qi_1_1 H
    have H : Ev none e 120 44 [some (.ref 0), some (.int a), some (.int b), some (.int r0)] [.int r0] N3 v M' 0 0 := Ev.back 1 (fun n => rfl) H
    obtain ⟨z1, z2⟩ := Ev.retz rfl rfl H
    subst eN3
    exact Or.inl ⟨h1, z1, z2⟩
  · rw [if_neg h1] at H
    have H : Ev none e 120 31 [some (.ref 0), some (.int a), some (.int b), some (.int r0)] [.int b, .int a, .ref 0] M v M' 0 0 := Ev.back 3 (fun n => rfl) H
    obtain ⟨e1, rfl⟩ := Ev.dpos rfl rfl H
    obtain ⟨vK4, MK4, K4, H⟩ := Ev.callb (fun n_ => gs_7 rfl rfl (show gCal (.invokevirtual 384) 10 (.int b :: .int a :: .ref 0 :: []) M = some (.inr (121, [some (.ref 0), some (.int a), some (.int b), none, none], [])) from by show @cond (Option ((List Value × Mem) ⊕ (Nat × Lo × List Value))) (true && gRecv M (.ref 0) 10 && gRoom [] && true) (some (.inr (121, [some (.ref 0), some (.int a), some (.int b), none, none], []))) none = _; rw [recv_s hS.1 qa_0 qo_0]; rfl)) H
    have K4 : Ev none e1 121 0 [some (.ref 0), some (.int a), some (.int b), none, none] [] M vK4 MK4 0 0 := K4
    have HF := H
    exact Or.inr (⟨h1, ⟨e1, vK4, MK4, rfl, K4, HF⟩⟩)
theorem fit_34 {e : Nat} {M M' : Mem} {v : Option Value} {a b r0 r : Int32} (hS : SQ M) (H : Ev none e 120 34 [some (.ref 0), some (.int a), some (.int b), some (.int r0)] [.int r] M v M' 0 0) : v = some (.int r) ∧ M' = (wF M 1 1 0) := by
  have H : Ev none e 120 36 [some (.ref 0), some (.int a), some (.int b), some (.int r)] [.ref 0] M v M' 0 0 := Ev.back 2 (fun n => rfl) H
  have H : Ev none e 120 39 [some (.ref 0), some (.int a), some (.int b), some (.int r)] [.ref 1] M v M' 0 0 := Ev.back 1 (gs_3 rfl rfl (gf_u hS.1 qa_0 qr_0_0 qu_1 rfl)) H
  have H : Ev none e 120 40 [some (.ref 0), some (.int a), some (.int b), some (.int r)] [.int 0, .ref 1] M v M' 0 0 := Ev.back 1 (fun n => rfl) H
  obtain ⟨N2, eN2⟩ : ∃ N, N = (wF M 1 1 0) := ⟨_, rfl⟩
  have hN2 : SQ N2 := by rw [eN2]; exact hS.kf
  have H : Ev none e 120 43 [some (.ref 0), some (.int a), some (.int b), some (.int r)] [] N2 v M' 0 0 := by rw [eN2]; exact Ev.pfi rfl rfl rfl hS.1 qa_1 qi_1_1 H
  have H : Ev none e 120 44 [some (.ref 0), some (.int a), some (.int b), some (.int r)] [.int r] N2 v M' 0 0 := Ev.back 1 (fun n => rfl) H
  obtain ⟨z1, z2⟩ := Ev.retz rfl rfl H
  subst eN2
  exact ⟨z1, z2⟩
theorem ftg_0 {e : Nat} {M M' : Mem} {v : Option Value} {a b : Int32} (hS : SQ M) (hLd : fR M 0 2 = 8) (H : Ev none e 121 0 [some (.ref 0), some (.int a), some (.int b), none, none] [] M v M' 0 0) : (∃ e1 v1 M1, e = e1 + 1 ∧ Ev none e1 54 0 [some (.ref 104), some (.ref 8)] [] M v1 M1 0 0 ∧ Ev none e 121 13 [some (.ref 0), some (.int a), some (.int b), some (.int 0), none] (v1.toList ++ []) M1 v M' 0 0) := by
  have H : Ev none e 121 3 [some (.ref 0), some (.int a), some (.int b), some (.int 0), none] [.ref 0] M v M' 0 0 := Ev.back 3 (fun n => rfl) H
  have H : Ev none e 121 6 [some (.ref 0), some (.int a), some (.int b), some (.int 0), none] [.ref 104] M v M' 0 0 := Ev.back 1 (gs_3 rfl rfl (gf_u hS.1 qa_0 qr_0_3 qu_22 rfl)) H
  have H : Ev none e 121 7 [some (.ref 0), some (.int a), some (.int b), some (.int 0), none] [.ref 0, .ref 104] M v M' 0 0 := Ev.back 1 (fun n => rfl) H
  have H : Ev none e 121 10 [some (.ref 0), some (.int a), some (.int b), some (.int 0), none] [.ref (fR M 0 2), .ref 104] M v M' 0 0 := Ev.back 1 (gs_3 rfl rfl (gf_r hS.1 qa_0 qr_0_2 rfl)) H
  rw [hLd] at H
  obtain ⟨e1, rfl⟩ := Ev.dpos rfl rfl H
  obtain ⟨vK1, MK1, K1, H⟩ := Ev.callb (fun n_ => gs_7 rfl rfl (show gCal (.invokevirtual 197) 10 (.ref 8 :: .ref 104 :: []) M = some (.inr (54, [some (.ref 104), some (.ref 8)], [])) from by show @cond (Option ((List Value × Mem) ⊕ (Nat × Lo × List Value))) (true && gRecv M (.ref 104) 7 && gRoom [] && true) (some (.inr (54, [some (.ref 104), some (.ref 8)], []))) none = _; rw [recv_s hS.1 qa_104 qo_22]; rfl)) H
  have K1 : Ev none e1 54 0 [some (.ref 104), some (.ref 8)] [] M vK1 MK1 0 0 := K1
  have HF := H
  exact ⟨e1, vK1, MK1, rfl, K1, HF⟩
theorem ftg_13 {e : Nat} {M M' : Mem} {v : Option Value} {a b s : Int32} (hS : SQ M) (H : Ev none e 121 13 [some (.ref 0), some (.int a), some (.int b), some (.int s), none] [] M v M' 0 0) : Ev none e 121 16 [some (.ref 0), some (.int a), some (.int b), some (.int s), some (.int 0)] [] M v M' 0 0 := by
  have H : Ev none e 121 16 [some (.ref 0), some (.int a), some (.int b), some (.int s), some (.int 0)] [] M v M' 0 0 := Ev.back 2 (fun n => rfl) H
  have HF := H
  exact HF
theorem ftg_16 {e : Nat} {M M' : Mem} {v : Option Value} {a b s h : Int32} (hS : SQ M) (H : Ev none e 121 16 [some (.ref 0), some (.int a), some (.int b), some (.int s), some (.int h)] [] M v M' 0 0) : (6 ≤ h ∧ v = some (.int s) ∧ M' = M) ∨ (¬ (6 ≤ h) ∧ (∃ e1 v1 M1, e = e1 + 1 ∧ Ev none e1 65 0 [some (.ref 104), some (.int a), some (.int b), some (.int h), some (.ref (fR M 0 10)), none, none, none] [] M v1 M1 0 0 ∧ Ev none e 121 38 [some (.ref 0), some (.int a), some (.int b), some (.int s), some (.int h)] (v1.toList ++ []) M1 v M' 0 0)) := by
  have H : Ev none e 121 (if 6 ≤ h then 76 else 23) [some (.ref 0), some (.int a), some (.int b), some (.int s), some (.int h)] [] M v M' 0 0 := Ev.back 3 (fun n => rfl) H
  by_cases h1 : 6 ≤ h
  · rw [if_pos h1] at H
    have H : Ev none e 121 77 [some (.ref 0), some (.int a), some (.int b), some (.int s), some (.int h)] [.int s] M v M' 0 0 := Ev.back 1 (fun n => rfl) H
    obtain ⟨z1, z2⟩ := Ev.retz rfl rfl H
    exact Or.inl ⟨h1, z1, z2⟩
  · rw [if_neg h1] at H
    have H : Ev none e 121 24 [some (.ref 0), some (.int a), some (.int b), some (.int s), some (.int h)] [.ref 0] M v M' 0 0 := Ev.back 1 (fun n => rfl) H
    have H : Ev none e 121 27 [some (.ref 0), some (.int a), some (.int b), some (.int s), some (.int h)] [.ref 104] M v M' 0 0 := Ev.back 1 (gs_3 rfl rfl (gf_u hS.1 qa_0 qr_0_3 qu_22 rfl)) H
    have H : Ev none e 121 32 [some (.ref 0), some (.int a), some (.int b), some (.int s), some (.int h)] [.ref 0, .int h, .int b, .int a, .ref 104] M v M' 0 0 := Ev.back 4 (fun n => rfl) H
    have H : Ev none e 121 35 [some (.ref 0), some (.int a), some (.int b), some (.int s), some (.int h)] [.ref (fR M 0 10), .int h, .int b, .int a, .ref 104] M v M' 0 0 := Ev.back 1 (gs_3 rfl rfl (gf_r hS.1 qa_0 qr_0_10 rfl)) H
    obtain ⟨e1, rfl⟩ := Ev.dpos rfl rfl H
    obtain ⟨vK2, MK2, K2, H⟩ := Ev.callb (fun n_ => gs_7 rfl rfl (show gCal (.invokevirtual 353) 10 (.ref (fR M 0 10) :: .int h :: .int b :: .int a :: .ref 104 :: []) M = some (.inr (65, [some (.ref 104), some (.int a), some (.int b), some (.int h), some (.ref (fR M 0 10)), none, none, none], [])) from by show @cond (Option ((List Value × Mem) ⊕ (Nat × Lo × List Value))) (true && gRecv M (.ref 104) 7 && gRoom [] && true) (some (.inr (65, [some (.ref 104), some (.int a), some (.int b), some (.int h), some (.ref (fR M 0 10)), none, none, none], []))) none = _; rw [recv_s hS.1 qa_104 qo_22]; rfl)) H
    have K2 : Ev none e1 65 0 [some (.ref 104), some (.int a), some (.int b), some (.int h), some (.ref (fR M 0 10)), none, none, none] [] M vK2 MK2 0 0 := K2
    have HF := H
    exact Or.inr (⟨h1, ⟨e1, vK2, MK2, rfl, K2, HF⟩⟩)
theorem ftg_38 {e : Nat} {M M' : Mem} {v : Option Value} {a b s h r : Int32} (hS : SQ M) (H : Ev none e 121 38 [some (.ref 0), some (.int a), some (.int b), some (.int s), some (.int h)] [.int r] M v M' 0 0) : ((zI M 104 11) = (zI M 1 1) ∧ (∃ e1 v1 M1, e = e1 + 1 ∧ Ev none e1 122 0 [some (.ref 0), none] [] M v1 M1 0 0 ∧ Ev none e 121 60 [some (.ref 0), some (.int a), some (.int b), some (.int s), some (.int h)] (v1.toList ++ []) M1 v M' 0 0)) ∨ (¬ ((zI M 104 11) = (zI M 1 1)) ∧ Ev none e 121 16 [some (.ref 0), some (.int a), some (.int b), some (.int s), some (.int (h + 1))] [] M v M' 0 0) := by
  have H : Ev none e 121 40 [some (.ref 0), some (.int a), some (.int b), some (.int s), some (.int h)] [.ref 0] M v M' 0 0 := Ev.back 2 (fun n => rfl) H
  have H : Ev none e 121 43 [some (.ref 0), some (.int a), some (.int b), some (.int s), some (.int h)] [.ref 104] M v M' 0 0 := Ev.back 1 (gs_3 rfl rfl (gf_u hS.1 qa_0 qr_0_3 qu_22 rfl)) H
  have H : Ev none e 121 46 [some (.ref 0), some (.int a), some (.int b), some (.int s), some (.int h)] [.int (zI M 104 11)] M v M' 0 0 := Ev.back 1 (gs_3 rfl rfl (gf_i hS.1 qa_104 qi_22_11 rfl)) H
  have H : Ev none e 121 47 [some (.ref 0), some (.int a), some (.int b), some (.int s), some (.int h)] [.ref 0, .int (zI M 104 11)] M v M' 0 0 := Ev.back 1 (fun n => rfl) H
  have H : Ev none e 121 50 [some (.ref 0), some (.int a), some (.int b), some (.int s), some (.int h)] [.ref 1, .int (zI M 104 11)] M v M' 0 0 := Ev.back 1 (gs_3 rfl rfl (gf_u hS.1 qa_0 qr_0_0 qu_1 rfl)) H
  have H : Ev none e 121 53 [some (.ref 0), some (.int a), some (.int b), some (.int s), some (.int h)] [.int (zI M 1 1), .int (zI M 104 11)] M v M' 0 0 := Ev.back 1 (gs_3 rfl rfl (gf_i hS.1 qa_1 qi_1_1 rfl)) H
  have H : Ev none e 121 (if (zI M 104 11) = (zI M 1 1) then 56 else 70) [some (.ref 0), some (.int a), some (.int b), some (.int s), some (.int h)] [] M v M' 0 0 := Ev.back 1 (fun n => rfl) H
  by_cases h1 : (zI M 104 11) = (zI M 1 1)
  · rw [if_pos h1] at H
    have H : Ev none e 121 57 [some (.ref 0), some (.int a), some (.int b), some (.int s), some (.int h)] [.ref 0] M v M' 0 0 := Ev.back 1 (fun n => rfl) H
    obtain ⟨e1, rfl⟩ := Ev.dpos rfl rfl H
    obtain ⟨vK2, MK2, K2, H⟩ := Ev.callb (fun n_ => gs_7 rfl rfl (show gCal (.invokevirtual 387) 10 (.ref 0 :: []) M = some (.inr (122, [some (.ref 0), none], [])) from by show @cond (Option ((List Value × Mem) ⊕ (Nat × Lo × List Value))) (true && gRecv M (.ref 0) 10 && gRoom [] && true) (some (.inr (122, [some (.ref 0), none], []))) none = _; rw [recv_s hS.1 qa_0 qo_0]; rfl)) H
    have K2 : Ev none e1 122 0 [some (.ref 0), none] [] M vK2 MK2 0 0 := K2
    have HF := H
    exact Or.inl ⟨h1, ⟨e1, vK2, MK2, rfl, K2, HF⟩⟩
  · rw [if_neg h1] at H
    have H : Ev none e 121 16 [some (.ref 0), some (.int a), some (.int b), some (.int s), some (.int (h + 1))] [] M v M' 0 0 := Ev.back 2 (fun n => rfl) H
    have HF := H
    exact Or.inr (⟨h1, HF⟩)
theorem ftg_60 {e : Nat} {M M' : Mem} {v : Option Value} {a b s h r : Int32} (hS : SQ M) (H : Ev none e 121 60 [some (.ref 0), some (.int a), some (.int b), some (.int s), some (.int h)] [.int r] M v M' 0 0) : (r = 0 ∧ Ev none e 121 16 [some (.ref 0), some (.int a), some (.int b), some (.int s), some (.int (h + 1))] [] M v M' 0 0) ∨ (¬ (r = 0) ∧ Ev none e 121 16 [some (.ref 0), some (.int a), some (.int b), some (.int (s ||| ((1 : Int32) <<< (h &&& 31)))), some (.int (h + 1))] [] M v M' 0 0) := by
  have H : Ev none e 121 (if r = 0 then 70 else 63) [some (.ref 0), some (.int a), some (.int b), some (.int s), some (.int h)] [] M v M' 0 0 := Ev.back 1 (fun n => rfl) H
  by_cases h1 : r = 0
  · rw [if_pos h1] at H
    have H : Ev none e 121 16 [some (.ref 0), some (.int a), some (.int b), some (.int s), some (.int (h + 1))] [] M v M' 0 0 := Ev.back 2 (fun n => rfl) H
    have HF := H
    exact Or.inl ⟨h1, HF⟩
  · rw [if_neg h1] at H
    have H : Ev none e 121 16 [some (.ref 0), some (.int a), some (.int b), some (.int (s ||| ((1 : Int32) <<< (h &&& 31)))), some (.int (h + 1))] [] M v M' 0 0 := Ev.back 8 (fun n => rfl) H
    have HF := H
    exact Or.inr (⟨h1, HF⟩)
/-! THE REFERENCE'S other calls: pieces (made by gref5.py) -/
theorem ntb_0 {e : Nat} {M M' : Mem} {v : Option Value} (hS : SQ M) (H : Ev none e 220 0 [some (.ref 633), some (.ref 651), none] [] M v M' 0 0) : Ev none e 220 2 [some (.ref 633), some (.ref 651), some (.int 0)] [] M v M' 0 0 := by
  have H : Ev none e 220 2 [some (.ref 633), some (.ref 651), some (.int 0)] [] M v M' 0 0 := Ev.back 2 (fun n => rfl) H
  have HF := H
  exact HF
theorem ntb_2 {e : Nat} {M M' : Mem} {v : Option Value} {c : Int32} (hS : SQ M) (H : Ev none e 220 2 [some (.ref 633), some (.ref 651), some (.int c)] [] M v M' 0 0) : ((G_144 M) ≤ c ∧ v = none ∧ M' = M) ∨ (¬ ((G_144 M) ≤ c) ∧ (0 ≤ c.toInt ∧ c.toInt < 256) ∧ Ev none e 220 2 [some (.ref 633), some (.ref 651), some (.int (c + 1))] [] (wI M 651 c.toNatClampNeg (vp_nar .boolean (G_150 M c))) v M' 0 0) := by
  have H : Ev none e 220 4 [some (.ref 633), some (.ref 651), some (.int c)] [.ref 633, .int c] M v M' 0 0 := Ev.back 2 (fun n => rfl) H
  obtain ⟨e1, rfl⟩ := Ev.dpos rfl rfl H
  obtain ⟨vK1, MK1, K1, H⟩ := Ev.callb (fun n_ => gs_7 rfl rfl (show gCal (.invokevirtual 128) 11 (.ref 633 :: [.int c]) M = some (.inr (144, [some (.ref 633)], [.int c])) from by show @cond (Option ((List Value × Mem) ⊕ (Nat × Lo × List Value))) (true && gRecv M (.ref 633) 11 && gRoom [.int c] && true) (some (.inr (144, [some (.ref 633)], [.int c]))) none = _; rw [recv_s hS.1 qa_633 qo_61]; rfl)) H
  obtain ⟨pK1, qK1⟩ := g_144 hS K1
  rw [pK1, qK1] at H
  have H : Ev none (e1 + 1) 220 7 [some (.ref 633), some (.ref 651), some (.int c)] [.int (G_144 M), .int c] M v M' 0 0 := H
  have H : Ev none (e1 + 1) 220 (if (G_144 M) ≤ c then 24 else 10) [some (.ref 633), some (.ref 651), some (.int c)] [] M v M' 0 0 := Ev.back 1 (fun n => rfl) H
  by_cases h2 : (G_144 M) ≤ c
  · rw [if_pos h2] at H
    obtain ⟨z1, z2⟩ := Ev.retb (fun n => rfl) H
    exact Or.inl ⟨h2, z1, z2⟩
  · rw [if_neg h2] at H
    have H : Ev none (e1 + 1) 220 14 [some (.ref 633), some (.ref 651), some (.int c)] [.int c, .ref 633, .int c, .ref 651] M v M' 0 0 := Ev.back 4 (fun n => rfl) H
    obtain ⟨vK3, MK3, K3, H⟩ := Ev.callb (fun n_ => gs_7 rfl rfl (show gCal (.invokevirtual 140) 11 (.int c :: .ref 633 :: [.int c, .ref 651]) M = some (.inr (150, [some (.ref 633), some (.int c)], [.int c, .ref 651])) from by show @cond (Option ((List Value × Mem) ⊕ (Nat × Lo × List Value))) (true && gRecv M (.ref 633) 11 && gRoom [.int c, .ref 651] && true) (some (.inr (150, [some (.ref 633), some (.int c)], [.int c, .ref 651]))) none = _; rw [recv_s hS.1 qa_633 qo_61]; rfl)) H
    obtain ⟨pK3, qK3⟩ := g_150 hS K3
    rw [pK3, qK3] at H
    have H : Ev none (e1 + 1) 220 17 [some (.ref 633), some (.ref 651), some (.int c)] [.int (G_150 M c), .int c, .ref 651] M v M' 0 0 := H
    obtain ⟨b4, H⟩ := Ev.bas3 rfl rfl hS.1 qa_651 qw_79 H
    obtain ⟨N5, eN5⟩ : ∃ N, N = (wI M 651 c.toNatClampNeg (vp_nar .boolean (G_150 M c))) := ⟨_, rfl⟩
    have hN5 : SQ N5 := by rw [eN5]; exact hS.ki
    have H : Ev none (e1 + 1) 220 18 [some (.ref 633), some (.ref 651), some (.int c)] [] N5 v M' 0 0 := by rw [eN5]; exact H
    have H : Ev none (e1 + 1) 220 2 [some (.ref 633), some (.ref 651), some (.int (c + 1))] [] N5 v M' 0 0 := Ev.back 2 (fun n => rfl) H
    have HF := H
    subst eN5
    exact Or.inr (⟨h2, b4, HF⟩)
theorem ntd_0 {e : Nat} {M M' : Mem} {v : Option Value} (hS : SQ M) (H : Ev none e 220 0 [some (.ref 633), some (.ref 652), none] [] M v M' 0 0) : Ev none e 220 2 [some (.ref 633), some (.ref 652), some (.int 0)] [] M v M' 0 0 := by
  have H : Ev none e 220 2 [some (.ref 633), some (.ref 652), some (.int 0)] [] M v M' 0 0 := Ev.back 2 (fun n => rfl) H
  have HF := H
  exact HF
theorem ntd_2 {e : Nat} {M M' : Mem} {v : Option Value} {c : Int32} (hS : SQ M) (H : Ev none e 220 2 [some (.ref 633), some (.ref 652), some (.int c)] [] M v M' 0 0) : ((G_144 M) ≤ c ∧ v = none ∧ M' = M) ∨ (¬ ((G_144 M) ≤ c) ∧ (0 ≤ c.toInt ∧ c.toInt < 256) ∧ Ev none e 220 2 [some (.ref 633), some (.ref 652), some (.int (c + 1))] [] (wI M 652 c.toNatClampNeg (vp_nar .boolean (G_150 M c))) v M' 0 0) := by
  have H : Ev none e 220 4 [some (.ref 633), some (.ref 652), some (.int c)] [.ref 633, .int c] M v M' 0 0 := Ev.back 2 (fun n => rfl) H
  obtain ⟨e1, rfl⟩ := Ev.dpos rfl rfl H
  obtain ⟨vK1, MK1, K1, H⟩ := Ev.callb (fun n_ => gs_7 rfl rfl (show gCal (.invokevirtual 128) 11 (.ref 633 :: [.int c]) M = some (.inr (144, [some (.ref 633)], [.int c])) from by show @cond (Option ((List Value × Mem) ⊕ (Nat × Lo × List Value))) (true && gRecv M (.ref 633) 11 && gRoom [.int c] && true) (some (.inr (144, [some (.ref 633)], [.int c]))) none = _; rw [recv_s hS.1 qa_633 qo_61]; rfl)) H
  obtain ⟨pK1, qK1⟩ := g_144 hS K1
  rw [pK1, qK1] at H
  have H : Ev none (e1 + 1) 220 7 [some (.ref 633), some (.ref 652), some (.int c)] [.int (G_144 M), .int c] M v M' 0 0 := H
  have H : Ev none (e1 + 1) 220 (if (G_144 M) ≤ c then 24 else 10) [some (.ref 633), some (.ref 652), some (.int c)] [] M v M' 0 0 := Ev.back 1 (fun n => rfl) H
  by_cases h2 : (G_144 M) ≤ c
  · rw [if_pos h2] at H
    obtain ⟨z1, z2⟩ := Ev.retb (fun n => rfl) H
    exact Or.inl ⟨h2, z1, z2⟩
  · rw [if_neg h2] at H
    have H : Ev none (e1 + 1) 220 14 [some (.ref 633), some (.ref 652), some (.int c)] [.int c, .ref 633, .int c, .ref 652] M v M' 0 0 := Ev.back 4 (fun n => rfl) H
    obtain ⟨vK3, MK3, K3, H⟩ := Ev.callb (fun n_ => gs_7 rfl rfl (show gCal (.invokevirtual 140) 11 (.int c :: .ref 633 :: [.int c, .ref 652]) M = some (.inr (150, [some (.ref 633), some (.int c)], [.int c, .ref 652])) from by show @cond (Option ((List Value × Mem) ⊕ (Nat × Lo × List Value))) (true && gRecv M (.ref 633) 11 && gRoom [.int c, .ref 652] && true) (some (.inr (150, [some (.ref 633), some (.int c)], [.int c, .ref 652]))) none = _; rw [recv_s hS.1 qa_633 qo_61]; rfl)) H
    obtain ⟨pK3, qK3⟩ := g_150 hS K3
    rw [pK3, qK3] at H
    have H : Ev none (e1 + 1) 220 17 [some (.ref 633), some (.ref 652), some (.int c)] [.int (G_150 M c), .int c, .ref 652] M v M' 0 0 := H
    obtain ⟨b4, H⟩ := Ev.bas3 rfl rfl hS.1 qa_652 qw_80 H
    obtain ⟨N5, eN5⟩ : ∃ N, N = (wI M 652 c.toNatClampNeg (vp_nar .boolean (G_150 M c))) := ⟨_, rfl⟩
    have hN5 : SQ N5 := by rw [eN5]; exact hS.ki
    have H : Ev none (e1 + 1) 220 18 [some (.ref 633), some (.ref 652), some (.int c)] [] N5 v M' 0 0 := by rw [eN5]; exact H
    have H : Ev none (e1 + 1) 220 2 [some (.ref 633), some (.ref 652), some (.int (c + 1))] [] N5 v M' 0 0 := Ev.back 2 (fun n => rfl) H
    have HF := H
    subst eN5
    exact Or.inr (⟨h2, b4, HF⟩)
theorem nte_0 {e : Nat} {M M' : Mem} {v : Option Value} (hS : SQ M) (H : Ev none e 220 0 [some (.ref 633), some (.ref 653), none] [] M v M' 0 0) : Ev none e 220 2 [some (.ref 633), some (.ref 653), some (.int 0)] [] M v M' 0 0 := by
  have H : Ev none e 220 2 [some (.ref 633), some (.ref 653), some (.int 0)] [] M v M' 0 0 := Ev.back 2 (fun n => rfl) H
  have HF := H
  exact HF
theorem nte_2 {e : Nat} {M M' : Mem} {v : Option Value} {c : Int32} (hS : SQ M) (H : Ev none e 220 2 [some (.ref 633), some (.ref 653), some (.int c)] [] M v M' 0 0) : ((G_144 M) ≤ c ∧ v = none ∧ M' = M) ∨ (¬ ((G_144 M) ≤ c) ∧ (0 ≤ c.toInt ∧ c.toInt < 256) ∧ Ev none e 220 2 [some (.ref 633), some (.ref 653), some (.int (c + 1))] [] (wI M 653 c.toNatClampNeg (vp_nar .boolean (G_150 M c))) v M' 0 0) := by
  have H : Ev none e 220 4 [some (.ref 633), some (.ref 653), some (.int c)] [.ref 633, .int c] M v M' 0 0 := Ev.back 2 (fun n => rfl) H
  obtain ⟨e1, rfl⟩ := Ev.dpos rfl rfl H
  obtain ⟨vK1, MK1, K1, H⟩ := Ev.callb (fun n_ => gs_7 rfl rfl (show gCal (.invokevirtual 128) 11 (.ref 633 :: [.int c]) M = some (.inr (144, [some (.ref 633)], [.int c])) from by show @cond (Option ((List Value × Mem) ⊕ (Nat × Lo × List Value))) (true && gRecv M (.ref 633) 11 && gRoom [.int c] && true) (some (.inr (144, [some (.ref 633)], [.int c]))) none = _; rw [recv_s hS.1 qa_633 qo_61]; rfl)) H
  obtain ⟨pK1, qK1⟩ := g_144 hS K1
  rw [pK1, qK1] at H
  have H : Ev none (e1 + 1) 220 7 [some (.ref 633), some (.ref 653), some (.int c)] [.int (G_144 M), .int c] M v M' 0 0 := H
  have H : Ev none (e1 + 1) 220 (if (G_144 M) ≤ c then 24 else 10) [some (.ref 633), some (.ref 653), some (.int c)] [] M v M' 0 0 := Ev.back 1 (fun n => rfl) H
  by_cases h2 : (G_144 M) ≤ c
  · rw [if_pos h2] at H
    obtain ⟨z1, z2⟩ := Ev.retb (fun n => rfl) H
    exact Or.inl ⟨h2, z1, z2⟩
  · rw [if_neg h2] at H
    have H : Ev none (e1 + 1) 220 14 [some (.ref 633), some (.ref 653), some (.int c)] [.int c, .ref 633, .int c, .ref 653] M v M' 0 0 := Ev.back 4 (fun n => rfl) H
    obtain ⟨vK3, MK3, K3, H⟩ := Ev.callb (fun n_ => gs_7 rfl rfl (show gCal (.invokevirtual 140) 11 (.int c :: .ref 633 :: [.int c, .ref 653]) M = some (.inr (150, [some (.ref 633), some (.int c)], [.int c, .ref 653])) from by show @cond (Option ((List Value × Mem) ⊕ (Nat × Lo × List Value))) (true && gRecv M (.ref 633) 11 && gRoom [.int c, .ref 653] && true) (some (.inr (150, [some (.ref 633), some (.int c)], [.int c, .ref 653]))) none = _; rw [recv_s hS.1 qa_633 qo_61]; rfl)) H
    obtain ⟨pK3, qK3⟩ := g_150 hS K3
    rw [pK3, qK3] at H
    have H : Ev none (e1 + 1) 220 17 [some (.ref 633), some (.ref 653), some (.int c)] [.int (G_150 M c), .int c, .ref 653] M v M' 0 0 := H
    obtain ⟨b4, H⟩ := Ev.bas3 rfl rfl hS.1 qa_653 qw_81 H
    obtain ⟨N5, eN5⟩ : ∃ N, N = (wI M 653 c.toNatClampNeg (vp_nar .boolean (G_150 M c))) := ⟨_, rfl⟩
    have hN5 : SQ N5 := by rw [eN5]; exact hS.ki
    have H : Ev none (e1 + 1) 220 18 [some (.ref 633), some (.ref 653), some (.int c)] [] N5 v M' 0 0 := by rw [eN5]; exact H
    have H : Ev none (e1 + 1) 220 2 [some (.ref 633), some (.ref 653), some (.int (c + 1))] [] N5 v M' 0 0 := Ev.back 2 (fun n => rfl) H
    have HF := H
    subst eN5
    exact Or.inr (⟨h2, b4, HF⟩)
theorem inq_0 {e : Nat} {M M' : Mem} {v : Option Value} (hS : SQ M) (H : Ev none e 221 0 [some (.ref 633), some (.ref 651), none] [] M v M' 0 0) : Ev none e 221 2 [some (.ref 633), some (.ref 651), some (.int 0)] [] M v M' 0 0 := by
  have H : Ev none e 221 2 [some (.ref 633), some (.ref 651), some (.int 0)] [] M v M' 0 0 := Ev.back 2 (fun n => rfl) H
  have HF := H
  exact HF
theorem inq_2 {e : Nat} {M M' : Mem} {v : Option Value} {c : Int32} (hS : SQ M) (H : Ev none e 221 2 [some (.ref 633), some (.ref 651), some (.int c)] [] M v M' 0 0) : ((G_144 M) ≤ c ∧ v = some (.int 1) ∧ M' = M) ∨ (¬ ((G_144 M) ≤ c) ∧ (rI M 651 c) = (G_150 M c) ∧ (0 ≤ c.toInt ∧ c.toInt < 256) ∧ Ev none e 221 2 [some (.ref 633), some (.ref 651), some (.int (c + 1))] [] M v M' 0 0) ∨ (¬ ((G_144 M) ≤ c) ∧ ¬ ((rI M 651 c) = (G_150 M c)) ∧ (0 ≤ c.toInt ∧ c.toInt < 256) ∧ v = some (.int 0) ∧ M' = M) := by
  have H : Ev none e 221 4 [some (.ref 633), some (.ref 651), some (.int c)] [.ref 633, .int c] M v M' 0 0 := Ev.back 2 (fun n => rfl) H
  obtain ⟨e1, rfl⟩ := Ev.dpos rfl rfl H
  obtain ⟨vK1, MK1, K1, H⟩ := Ev.callb (fun n_ => gs_7 rfl rfl (show gCal (.invokevirtual 128) 11 (.ref 633 :: [.int c]) M = some (.inr (144, [some (.ref 633)], [.int c])) from by show @cond (Option ((List Value × Mem) ⊕ (Nat × Lo × List Value))) (true && gRecv M (.ref 633) 11 && gRoom [.int c] && true) (some (.inr (144, [some (.ref 633)], [.int c]))) none = _; rw [recv_s hS.1 qa_633 qo_61]; rfl)) H
  obtain ⟨pK1, qK1⟩ := g_144 hS K1
  rw [pK1, qK1] at H
  have H : Ev none (e1 + 1) 221 7 [some (.ref 633), some (.ref 651), some (.int c)] [.int (G_144 M), .int c] M v M' 0 0 := H
  have H : Ev none (e1 + 1) 221 (if (G_144 M) ≤ c then 29 else 10) [some (.ref 633), some (.ref 651), some (.int c)] [] M v M' 0 0 := Ev.back 1 (fun n => rfl) H
  by_cases h2 : (G_144 M) ≤ c
  · rw [if_pos h2] at H
    have H : Ev none (e1 + 1) 221 30 [some (.ref 633), some (.ref 651), some (.int c)] [.int 1] M v M' 0 0 := Ev.back 1 (fun n => rfl) H
    obtain ⟨z1, z2⟩ := Ev.retz rfl rfl H
    exact Or.inl ⟨h2, z1, z2⟩
  · rw [if_neg h2] at H
    have H : Ev none (e1 + 1) 221 12 [some (.ref 633), some (.ref 651), some (.int c)] [.int c, .ref 651] M v M' 0 0 := Ev.back 2 (fun n => rfl) H
    obtain ⟨b3, H⟩ := Ev.bal rfl rfl hS.1 qa_651 qw_79 (Or.inr rfl) H
    have H : Ev none (e1 + 1) 221 13 [some (.ref 633), some (.ref 651), some (.int c)] [.int (rI M 651 c)] M v M' 0 0 := H
    have H : Ev none (e1 + 1) 221 15 [some (.ref 633), some (.ref 651), some (.int c)] [.int c, .ref 633, .int (rI M 651 c)] M v M' 0 0 := Ev.back 2 (fun n => rfl) H
    obtain ⟨vK4, MK4, K4, H⟩ := Ev.callb (fun n_ => gs_7 rfl rfl (show gCal (.invokevirtual 140) 11 (.int c :: .ref 633 :: [.int (rI M 651 c)]) M = some (.inr (150, [some (.ref 633), some (.int c)], [.int (rI M 651 c)])) from by show @cond (Option ((List Value × Mem) ⊕ (Nat × Lo × List Value))) (true && gRecv M (.ref 633) 11 && gRoom [.int (rI M 651 c)] && true) (some (.inr (150, [some (.ref 633), some (.int c)], [.int (rI M 651 c)]))) none = _; rw [recv_s hS.1 qa_633 qo_61]; rfl)) H
    obtain ⟨pK4, qK4⟩ := g_150 hS K4
    rw [pK4, qK4] at H
    have H : Ev none (e1 + 1) 221 18 [some (.ref 633), some (.ref 651), some (.int c)] [.int (G_150 M c), .int (rI M 651 c)] M v M' 0 0 := H
    have H : Ev none (e1 + 1) 221 (if (rI M 651 c) = (G_150 M c) then 23 else 21) [some (.ref 633), some (.ref 651), some (.int c)] [] M v M' 0 0 := Ev.back 1 (fun n => rfl) H
    by_cases h5 : (rI M 651 c) = (G_150 M c)
    · rw [if_pos h5] at H
      have H : Ev none (e1 + 1) 221 2 [some (.ref 633), some (.ref 651), some (.int (c + 1))] [] M v M' 0 0 := Ev.back 2 (fun n => rfl) H
      have HF := H
      exact Or.inr (Or.inl ⟨h2, h5, b3, HF⟩)
    · rw [if_neg h5] at H
      have H : Ev none (e1 + 1) 221 22 [some (.ref 633), some (.ref 651), some (.int c)] [.int 0] M v M' 0 0 := Ev.back 1 (fun n => rfl) H
      obtain ⟨z1, z2⟩ := Ev.retz rfl rfl H
      exact Or.inr (Or.inr (⟨h2, h5, b3, z1, z2⟩))
theorem rgq_0 {e : Nat} {M M' : Mem} {v : Option Value} {t : Int32} (hS : SQ M) (H : Ev none e 222 0 [some (.ref 633), some (.int t), none] [] M v M' 0 0) : Ev none e 222 2 [some (.ref 633), some (.int t), some (.int 0)] [] M v M' 0 0 := by
  have H : Ev none e 222 2 [some (.ref 633), some (.int t), some (.int 0)] [] M v M' 0 0 := Ev.back 2 (fun n => rfl) H
  have HF := H
  exact HF
theorem rgq_2 {e : Nat} {M M' : Mem} {v : Option Value} {t i : Int32} (hS : SQ M) (H : Ev none e 222 2 [some (.ref 633), some (.int t), some (.int i)] [] M v M' 0 0) : (t ≤ i ∧ (∃ e1 v1 M1, e = e1 + 1 ∧ Ev none e1 208 0 [some (.ref 633), none, none, none] [] M v1 M1 0 0 ∧ Ev none e 222 21 [some (.ref 633), some (.int t), some (.int i)] (v1.toList ++ []) M1 v M' 0 0)) ∨ (¬ (t ≤ i) ∧ (∃ e1 v1 M1, e = e1 + 1 ∧ Ev none e1 204 0 [some (.ref 633), none, none, none] [] M v1 M1 0 0 ∧ Ev none e 222 11 [some (.ref 633), some (.int t), some (.int i)] (v1.toList ++ []) M1 v M' 0 0)) := by
  have H : Ev none e 222 (if t ≤ i then 17 else 7) [some (.ref 633), some (.int t), some (.int i)] [] M v M' 0 0 := Ev.back 3 (fun n => rfl) H
  by_cases h1 : t ≤ i
  · rw [if_pos h1] at H
    have H : Ev none e 222 18 [some (.ref 633), some (.int t), some (.int i)] [.ref 633] M v M' 0 0 := Ev.back 1 (fun n => rfl) H
    obtain ⟨e1, rfl⟩ := Ev.dpos rfl rfl H
    obtain ⟨vK2, MK2, K2, H⟩ := Ev.callb (fun n_ => gs_7 rfl rfl (show gCal (.invokevirtual 426) 11 (.ref 633 :: []) M = some (.inr (208, [some (.ref 633), none, none, none], [])) from by show @cond (Option ((List Value × Mem) ⊕ (Nat × Lo × List Value))) (true && gRecv M (.ref 633) 11 && gRoom [] && true) (some (.inr (208, [some (.ref 633), none, none, none], []))) none = _; rw [recv_s hS.1 qa_633 qo_61]; rfl)) H
    have K2 : Ev none e1 208 0 [some (.ref 633), none, none, none] [] M vK2 MK2 0 0 := K2
    have HF := H
    exact Or.inl ⟨h1, ⟨e1, vK2, MK2, rfl, K2, HF⟩⟩
  · rw [if_neg h1] at H
    have H : Ev none e 222 8 [some (.ref 633), some (.int t), some (.int i)] [.ref 633] M v M' 0 0 := Ev.back 1 (fun n => rfl) H
    obtain ⟨e1, rfl⟩ := Ev.dpos rfl rfl H
    obtain ⟨vK3, MK3, K3, H⟩ := Ev.callb (fun n_ => gs_7 rfl rfl (show gCal (.invokevirtual 423) 11 (.ref 633 :: []) M = some (.inr (204, [some (.ref 633), none, none, none], [])) from by show @cond (Option ((List Value × Mem) ⊕ (Nat × Lo × List Value))) (true && gRecv M (.ref 633) 11 && gRoom [] && true) (some (.inr (204, [some (.ref 633), none, none, none], []))) none = _; rw [recv_s hS.1 qa_633 qo_61]; rfl)) H
    have K3 : Ev none e1 204 0 [some (.ref 633), none, none, none] [] M vK3 MK3 0 0 := K3
    have HF := H
    exact Or.inr (⟨h1, ⟨e1, vK3, MK3, rfl, K3, HF⟩⟩)
theorem rgq_11 {e : Nat} {M M' : Mem} {v : Option Value} {t i : Int32} (hS : SQ M) (H : Ev none e 222 11 [some (.ref 633), some (.int t), some (.int i)] [] M v M' 0 0) : Ev none e 222 2 [some (.ref 633), some (.int t), some (.int (i + 1))] [] M v M' 0 0 := by
  have H : Ev none e 222 2 [some (.ref 633), some (.int t), some (.int (i + 1))] [] M v M' 0 0 := Ev.back 2 (fun n => rfl) H
  have HF := H
  exact HF
theorem rgq_21 {e : Nat} {M M' : Mem} {v : Option Value} {t i : Int32} (hS : SQ M) (H : Ev none e 222 21 [some (.ref 633), some (.int t), some (.int i)] [] M v M' 0 0) : v = none ∧ M' = M := by
  obtain ⟨z1, z2⟩ := Ev.retb (fun n => rfl) H
  exact ⟨z1, z2⟩
theorem rrs_0 {e : Nat} {M M' : Mem} {v : Option Value} {w t : Int32} (hS : SQ M) (H : Ev none e 223 0 [some (.ref 633), some (.int w), some (.int t), none, none] [] M v M' 0 0) : ((G_140 (wF M 633 0 0) w 1 40) = 0 ∧ v = some (.int (-2)) ∧ M' = (wF M 633 0 0)) ∨ (¬ ((G_140 (wF M 633 0 0) w 1 40) = 0) ∧ (G_140 (wF M 633 0 0) t 1 200) = 0 ∧ v = some (.int (-2)) ∧ M' = (wF M 633 0 0)) ∨ (¬ ((G_140 (wF M 633 0 0) w 1 40) = 0) ∧ ¬ ((G_140 (wF M 633 0 0) t 1 200) = 0) ∧ (∃ e1 v1 M1, e = e1 + 1 ∧ Ev none e1 153 0 [some (.ref 633), none] [] (wF M 633 0 0) v1 M1 0 0 ∧ Ev none e 223 33 [some (.ref 633), some (.int w), some (.int t), none, none] (v1.toList ++ []) M1 v M' 0 0)) := by
  have H : Ev none e 223 2 [some (.ref 633), some (.int w), some (.int t), none, none] [.int 0, .ref 633] M v M' 0 0 := Ev.back 2 (fun n => rfl) H
  obtain ⟨N2, eN2⟩ : ∃ N, N = (wF M 633 0 0) := ⟨_, rfl⟩
  have hN2 : SQ N2 := by rw [eN2]; exact hS.kf
  have H : Ev none e 223 5 [some (.ref 633), some (.int w), some (.int t), none, none] [] N2 v M' 0 0 := by rw [eN2]; exact Ev.pfi rfl rfl rfl hS.1 qa_633 qi_61_0 H
  have H : Ev none e 223 9 [some (.ref 633), some (.int w), some (.int t), none, none] [.int 40, .int 1, .int w] N2 v M' 0 0 := Ev.back 3 (fun n => rfl) H
  obtain ⟨e1, rfl⟩ := Ev.dpos rfl rfl H
  obtain ⟨vK3, MK3, K3, H⟩ := Ev.callb (fun n => rfl) H
  obtain ⟨pK3, qK3⟩ := g_140 hN2 K3
  rw [pK3, qK3] at H
  have H : Ev none (e1 + 1) 223 12 [some (.ref 633), some (.int w), some (.int t), none, none] [.int (G_140 N2 w 1 40)] N2 v M' 0 0 := H
  have H : Ev none (e1 + 1) 223 (if (G_140 N2 w 1 40) = 0 then 26 else 15) [some (.ref 633), some (.int w), some (.int t), none, none] [] N2 v M' 0 0 := Ev.back 1 (fun n => rfl) H
  by_cases h4 : (G_140 N2 w 1 40) = 0
  · rw [if_pos h4] at H
    have H : Ev none (e1 + 1) 223 28 [some (.ref 633), some (.int w), some (.int t), none, none] [.int (-2)] N2 v M' 0 0 := Ev.back 1 (fun n => rfl) H
    obtain ⟨z1, z2⟩ := Ev.retz rfl rfl H
    subst eN2
    exact Or.inl ⟨h4, z1, z2⟩
  · rw [if_neg h4] at H
    have H : Ev none (e1 + 1) 223 20 [some (.ref 633), some (.int w), some (.int t), none, none] [.int 200, .int 1, .int t] N2 v M' 0 0 := Ev.back 3 (fun n => rfl) H
    obtain ⟨vK5, MK5, K5, H⟩ := Ev.callb (fun n => rfl) H
    obtain ⟨pK5, qK5⟩ := g_140 hN2 K5
    rw [pK5, qK5] at H
    have H : Ev none (e1 + 1) 223 23 [some (.ref 633), some (.int w), some (.int t), none, none] [.int (G_140 N2 t 1 200)] N2 v M' 0 0 := H
    have H : Ev none (e1 + 1) 223 (if (G_140 N2 t 1 200) = 0 then 26 else 29) [some (.ref 633), some (.int w), some (.int t), none, none] [] N2 v M' 0 0 := Ev.back 1 (fun n => rfl) H
    by_cases h6 : (G_140 N2 t 1 200) = 0
    · rw [if_pos h6] at H
      have H : Ev none (e1 + 1) 223 28 [some (.ref 633), some (.int w), some (.int t), none, none] [.int (-2)] N2 v M' 0 0 := Ev.back 1 (fun n => rfl) H
      obtain ⟨z1, z2⟩ := Ev.retz rfl rfl H
      subst eN2
      exact Or.inr (Or.inl ⟨h4, h6, z1, z2⟩)
    · rw [if_neg h6] at H
      have H : Ev none (e1 + 1) 223 30 [some (.ref 633), some (.int w), some (.int t), none, none] [.ref 633] N2 v M' 0 0 := Ev.back 1 (fun n => rfl) H
      obtain ⟨vK7, MK7, K7, H⟩ := Ev.callb (fun n_ => gs_7 rfl rfl (show gCal (.invokevirtual 445) 11 (.ref 633 :: []) N2 = some (.inr (153, [some (.ref 633), none], [])) from by show @cond (Option ((List Value × Mem) ⊕ (Nat × Lo × List Value))) (true && gRecv N2 (.ref 633) 11 && gRoom [] && true) (some (.inr (153, [some (.ref 633), none], []))) none = _; rw [recv_s hN2.1 qa_633 qo_61]; rfl)) H
      have K7 : Ev none e1 153 0 [some (.ref 633), none] [] N2 vK7 MK7 0 0 := K7
      have HF := H
      subst eN2
      exact Or.inr (Or.inr (⟨h4, h6, ⟨e1, vK7, MK7, rfl, K7, HF⟩⟩))
theorem rrs_33 {e : Nat} {M M' : Mem} {v : Option Value} {w t : Int32} (hS : SQ M) (H : Ev none e 223 33 [some (.ref 633), some (.int w), some (.int t), none, none] [] M v M' 0 0) : Ev none e 223 38 [some (.ref 633), some (.int w), some (.int t), some (.int (-1)), some (.int 1)] [] M v M' 0 0 := by
  have H : Ev none e 223 38 [some (.ref 633), some (.int w), some (.int t), some (.int (-1)), some (.int 1)] [] M v M' 0 0 := Ev.back 4 (fun n => rfl) H
  have HF := H
  exact HF
theorem rrs_38 {e : Nat} {M M' : Mem} {v : Option Value} {w t f n : Int32} (hS : SQ M) (H : Ev none e 223 38 [some (.ref 633), some (.int w), some (.int t), some (.int f), some (.int n)] [] M v M' 0 0) : (w < n ∧ (∃ e1 v1 M1, e = e1 + 1 ∧ Ev none e1 154 0 [some (.ref 633), none] [] M v1 M1 0 0 ∧ Ev none e 223 85 [some (.ref 633), some (.int w), some (.int t), some (.int f), some (.int n)] (v1.toList ++ []) M1 v M' 0 0)) ∨ (¬ (w < n) ∧ 0 ≤ f ∧ (∃ e1 v1 M1, e = e1 + 1 ∧ Ev none e1 154 0 [some (.ref 633), none] [] M v1 M1 0 0 ∧ Ev none e 223 85 [some (.ref 633), some (.int w), some (.int t), some (.int f), some (.int n)] (v1.toList ++ []) M1 v M' 0 0)) ∨ (¬ (w < n) ∧ ¬ (0 ≤ f) ∧ (∃ e1 v1 M1, e = e1 + 1 ∧ Ev none e1 220 0 [some (.ref 633), some (.ref 651), none] [] M v1 M1 0 0 ∧ Ev none e 223 56 [some (.ref 633), some (.int w), some (.int t), some (.int f), some (.int n)] (v1.toList ++ []) M1 v M' 0 0)) := by
  have H : Ev none e 223 (if w < n then 81 else 44) [some (.ref 633), some (.int w), some (.int t), some (.int f), some (.int n)] [] M v M' 0 0 := Ev.back 3 (fun n => rfl) H
  by_cases h1 : w < n
  · rw [if_pos h1] at H
    have H : Ev none e 223 82 [some (.ref 633), some (.int w), some (.int t), some (.int f), some (.int n)] [.ref 633] M v M' 0 0 := Ev.back 1 (fun n => rfl) H
    obtain ⟨e1, rfl⟩ := Ev.dpos rfl rfl H
    obtain ⟨vK2, MK2, K2, H⟩ := Ev.callb (fun n_ => gs_7 rfl rfl (show gCal (.invokevirtual 459) 11 (.ref 633 :: []) M = some (.inr (154, [some (.ref 633), none], [])) from by show @cond (Option ((List Value × Mem) ⊕ (Nat × Lo × List Value))) (true && gRecv M (.ref 633) 11 && gRoom [] && true) (some (.inr (154, [some (.ref 633), none], []))) none = _; rw [recv_s hS.1 qa_633 qo_61]; rfl)) H
    have K2 : Ev none e1 154 0 [some (.ref 633), none] [] M vK2 MK2 0 0 := K2
    have HF := H
    exact Or.inl ⟨h1, ⟨e1, vK2, MK2, rfl, K2, HF⟩⟩
  · rw [if_neg h1] at H
    have H : Ev none e 223 (if 0 ≤ f then 81 else 48) [some (.ref 633), some (.int w), some (.int t), some (.int f), some (.int n)] [] M v M' 0 0 := Ev.back 2 (fun n => rfl) H
    by_cases h3 : 0 ≤ f
    · rw [if_pos h3] at H
      have H : Ev none e 223 82 [some (.ref 633), some (.int w), some (.int t), some (.int f), some (.int n)] [.ref 633] M v M' 0 0 := Ev.back 1 (fun n => rfl) H
      obtain ⟨e1, rfl⟩ := Ev.dpos rfl rfl H
      obtain ⟨vK4, MK4, K4, H⟩ := Ev.callb (fun n_ => gs_7 rfl rfl (show gCal (.invokevirtual 459) 11 (.ref 633 :: []) M = some (.inr (154, [some (.ref 633), none], [])) from by show @cond (Option ((List Value × Mem) ⊕ (Nat × Lo × List Value))) (true && gRecv M (.ref 633) 11 && gRoom [] && true) (some (.inr (154, [some (.ref 633), none], []))) none = _; rw [recv_s hS.1 qa_633 qo_61]; rfl)) H
      have K4 : Ev none e1 154 0 [some (.ref 633), none] [] M vK4 MK4 0 0 := K4
      have HF := H
      exact Or.inr (Or.inl ⟨h1, h3, ⟨e1, vK4, MK4, rfl, K4, HF⟩⟩)
    · rw [if_neg h3] at H
      have H : Ev none e 223 50 [some (.ref 633), some (.int w), some (.int t), some (.int f), some (.int n)] [.ref 633, .ref 633] M v M' 0 0 := Ev.back 2 (fun n => rfl) H
      have H : Ev none e 223 53 [some (.ref 633), some (.int w), some (.int t), some (.int f), some (.int n)] [.ref 651, .ref 633] M v M' 0 0 := Ev.back 1 (gs_3 rfl rfl (gf_u hS.1 qa_633 qr_61_44 qu_79 rfl)) H
      obtain ⟨e1, rfl⟩ := Ev.dpos rfl rfl H
      obtain ⟨vK5, MK5, K5, H⟩ := Ev.callb (fun n_ => gs_7 rfl rfl (show gCal (.invokevirtual 448) 11 (.ref 651 :: .ref 633 :: []) M = some (.inr (220, [some (.ref 633), some (.ref 651), none], [])) from by show @cond (Option ((List Value × Mem) ⊕ (Nat × Lo × List Value))) (true && gRecv M (.ref 633) 11 && gRoom [] && true) (some (.inr (220, [some (.ref 633), some (.ref 651), none], []))) none = _; rw [recv_s hS.1 qa_633 qo_61]; rfl)) H
      have K5 : Ev none e1 220 0 [some (.ref 633), some (.ref 651), none] [] M vK5 MK5 0 0 := K5
      have HF := H
      exact Or.inr (Or.inr (⟨h1, h3, ⟨e1, vK5, MK5, rfl, K5, HF⟩⟩))
theorem rrs_56 {e : Nat} {M M' : Mem} {v : Option Value} {w t f n : Int32} (hS : SQ M) (H : Ev none e 223 56 [some (.ref 633), some (.int w), some (.int t), some (.int f), some (.int n)] [] M v M' 0 0) : (∃ e1 v1 M1, e = e1 + 1 ∧ Ev none e1 222 0 [some (.ref 633), some (.int t), none] [] M v1 M1 0 0 ∧ Ev none e 223 61 [some (.ref 633), some (.int w), some (.int t), some (.int f), some (.int n)] (v1.toList ++ []) M1 v M' 0 0) := by
  have H : Ev none e 223 58 [some (.ref 633), some (.int w), some (.int t), some (.int f), some (.int n)] [.int t, .ref 633] M v M' 0 0 := Ev.back 2 (fun n => rfl) H
  obtain ⟨e1, rfl⟩ := Ev.dpos rfl rfl H
  obtain ⟨vK1, MK1, K1, H⟩ := Ev.callb (fun n_ => gs_7 rfl rfl (show gCal (.invokevirtual 452) 11 (.int t :: .ref 633 :: []) M = some (.inr (222, [some (.ref 633), some (.int t), none], [])) from by show @cond (Option ((List Value × Mem) ⊕ (Nat × Lo × List Value))) (true && gRecv M (.ref 633) 11 && gRoom [] && true) (some (.inr (222, [some (.ref 633), some (.int t), none], []))) none = _; rw [recv_s hS.1 qa_633 qo_61]; rfl)) H
  have K1 : Ev none e1 222 0 [some (.ref 633), some (.int t), none] [] M vK1 MK1 0 0 := K1
  have HF := H
  exact ⟨e1, vK1, MK1, rfl, K1, HF⟩
theorem rrs_61 {e : Nat} {M M' : Mem} {v : Option Value} {w t f n : Int32} (hS : SQ M) (H : Ev none e 223 61 [some (.ref 633), some (.int w), some (.int t), some (.int f), some (.int n)] [] M v M' 0 0) : (∃ e1 v1 M1, e = e1 + 1 ∧ Ev none e1 221 0 [some (.ref 633), some (.ref 651), none] [] M v1 M1 0 0 ∧ Ev none e 223 69 [some (.ref 633), some (.int w), some (.int t), some (.int f), some (.int n)] (v1.toList ++ []) M1 v M' 0 0) := by
  have H : Ev none e 223 63 [some (.ref 633), some (.int w), some (.int t), some (.int f), some (.int n)] [.ref 633, .ref 633] M v M' 0 0 := Ev.back 2 (fun n => rfl) H
  have H : Ev none e 223 66 [some (.ref 633), some (.int w), some (.int t), some (.int f), some (.int n)] [.ref 651, .ref 633] M v M' 0 0 := Ev.back 1 (gs_3 rfl rfl (gf_u hS.1 qa_633 qr_61_44 qu_79 rfl)) H
  obtain ⟨e1, rfl⟩ := Ev.dpos rfl rfl H
  obtain ⟨vK1, MK1, K1, H⟩ := Ev.callb (fun n_ => gs_7 rfl rfl (show gCal (.invokevirtual 455) 11 (.ref 651 :: .ref 633 :: []) M = some (.inr (221, [some (.ref 633), some (.ref 651), none], [])) from by show @cond (Option ((List Value × Mem) ⊕ (Nat × Lo × List Value))) (true && gRecv M (.ref 633) 11 && gRoom [] && true) (some (.inr (221, [some (.ref 633), some (.ref 651), none], []))) none = _; rw [recv_s hS.1 qa_633 qo_61]; rfl)) H
  have K1 : Ev none e1 221 0 [some (.ref 633), some (.ref 651), none] [] M vK1 MK1 0 0 := K1
  have HF := H
  exact ⟨e1, vK1, MK1, rfl, K1, HF⟩
theorem rrs_69 {e : Nat} {M M' : Mem} {v : Option Value} {w t f n r : Int32} (hS : SQ M) (H : Ev none e 223 69 [some (.ref 633), some (.int w), some (.int t), some (.int f), some (.int n)] [.int r] M v M' 0 0) : (r = 0 ∧ Ev none e 223 38 [some (.ref 633), some (.int w), some (.int t), some (.int f), some (.int (n + 1))] [] M v M' 0 0) ∨ (¬ (r = 0) ∧ Ev none e 223 38 [some (.ref 633), some (.int w), some (.int t), some (.int n), some (.int (n + 1))] [] M v M' 0 0) := by
  have H : Ev none e 223 (if r = 0 then 75 else 72) [some (.ref 633), some (.int w), some (.int t), some (.int f), some (.int n)] [] M v M' 0 0 := Ev.back 1 (fun n => rfl) H
  by_cases h1 : r = 0
  · rw [if_pos h1] at H
    have H : Ev none e 223 38 [some (.ref 633), some (.int w), some (.int t), some (.int f), some (.int (n + 1))] [] M v M' 0 0 := Ev.back 2 (fun n => rfl) H
    have HF := H
    exact Or.inl ⟨h1, HF⟩
  · rw [if_neg h1] at H
    have H : Ev none e 223 38 [some (.ref 633), some (.int w), some (.int t), some (.int n), some (.int (n + 1))] [] M v M' 0 0 := Ev.back 4 (fun n => rfl) H
    have HF := H
    exact Or.inr (⟨h1, HF⟩)
theorem rrs_85 {e : Nat} {M M' : Mem} {v : Option Value} {w t f n : Int32} (hS : SQ M) (H : Ev none e 223 85 [some (.ref 633), some (.int w), some (.int t), some (.int f), some (.int n)] [] M v M' 0 0) : v = some (.int f) ∧ M' = M := by
  have H : Ev none e 223 86 [some (.ref 633), some (.int w), some (.int t), some (.int f), some (.int n)] [.int f] M v M' 0 0 := Ev.back 1 (fun n => rfl) H
  obtain ⟨z1, z2⟩ := Ev.retz rfl rfl H
  exact ⟨z1, z2⟩
theorem trq_0 {e : Nat} {M M' : Mem} {v : Option Value} {h w t m : Int32} (hS : SQ M) (H : Ev none e 229 0 [some (.ref 633), some (.int h), some (.int w), some (.int t), some (.int m), none, none, none, none, none] [] M v M' 0 0) : ((G_140 (wF M 633 0 0) h 0 5) = 0 ∧ v = some (.int (-2)) ∧ M' = (wF M 633 0 0)) ∨ (¬ ((G_140 (wF M 633 0 0) h 0 5) = 0) ∧ (G_140 (wF M 633 0 0) w 1 4) = 0 ∧ v = some (.int (-2)) ∧ M' = (wF M 633 0 0)) ∨ (¬ ((G_140 (wF M 633 0 0) h 0 5) = 0) ∧ ¬ ((G_140 (wF M 633 0 0) w 1 4) = 0) ∧ (G_140 (wF M 633 0 0) t 1 100) = 0 ∧ v = some (.int (-2)) ∧ M' = (wF M 633 0 0)) ∨ (¬ ((G_140 (wF M 633 0 0) h 0 5) = 0) ∧ ¬ ((G_140 (wF M 633 0 0) w 1 4) = 0) ∧ ¬ ((G_140 (wF M 633 0 0) t 1 100) = 0) ∧ Ev none e 229 47 [some (.ref 633), some (.int h), some (.int w), some (.int t), some (.int m), some (.int (-1)), some (.int (16 * (1 + h))), none, none, none] [] (wF M 633 0 0) v M' 0 0) := by
  have H : Ev none e 229 2 [some (.ref 633), some (.int h), some (.int w), some (.int t), some (.int m), none, none, none, none, none] [.int 0, .ref 633] M v M' 0 0 := Ev.back 2 (fun n => rfl) H
  obtain ⟨N2, eN2⟩ : ∃ N, N = (wF M 633 0 0) := ⟨_, rfl⟩
  have hN2 : SQ N2 := by rw [eN2]; exact hS.kf
  have H : Ev none e 229 5 [some (.ref 633), some (.int h), some (.int w), some (.int t), some (.int m), none, none, none, none, none] [] N2 v M' 0 0 := by rw [eN2]; exact Ev.pfi rfl rfl rfl hS.1 qa_633 qi_61_0 H
  have H : Ev none e 229 8 [some (.ref 633), some (.int h), some (.int w), some (.int t), some (.int m), none, none, none, none, none] [.int 5, .int 0, .int h] N2 v M' 0 0 := Ev.back 3 (fun n => rfl) H
  obtain ⟨e1, rfl⟩ := Ev.dpos rfl rfl H
  obtain ⟨vK3, MK3, K3, H⟩ := Ev.callb (fun n => rfl) H
  obtain ⟨pK3, qK3⟩ := g_140 hN2 K3
  rw [pK3, qK3] at H
  have H : Ev none (e1 + 1) 229 11 [some (.ref 633), some (.int h), some (.int w), some (.int t), some (.int m), none, none, none, none, none] [.int (G_140 N2 h 0 5)] N2 v M' 0 0 := H
  have H : Ev none (e1 + 1) 229 (if (G_140 N2 h 0 5) = 0 then 33 else 14) [some (.ref 633), some (.int h), some (.int w), some (.int t), some (.int m), none, none, none, none, none] [] N2 v M' 0 0 := Ev.back 1 (fun n => rfl) H
  by_cases h4 : (G_140 N2 h 0 5) = 0
  · rw [if_pos h4] at H
    have H : Ev none (e1 + 1) 229 35 [some (.ref 633), some (.int h), some (.int w), some (.int t), some (.int m), none, none, none, none, none] [.int (-2)] N2 v M' 0 0 := Ev.back 1 (fun n => rfl) H
    obtain ⟨z1, z2⟩ := Ev.retz rfl rfl H
    subst eN2
    exact Or.inl ⟨h4, z1, z2⟩
  · rw [if_neg h4] at H
    have H : Ev none (e1 + 1) 229 17 [some (.ref 633), some (.int h), some (.int w), some (.int t), some (.int m), none, none, none, none, none] [.int 4, .int 1, .int w] N2 v M' 0 0 := Ev.back 3 (fun n => rfl) H
    obtain ⟨vK5, MK5, K5, H⟩ := Ev.callb (fun n => rfl) H
    obtain ⟨pK5, qK5⟩ := g_140 hN2 K5
    rw [pK5, qK5] at H
    have H : Ev none (e1 + 1) 229 20 [some (.ref 633), some (.int h), some (.int w), some (.int t), some (.int m), none, none, none, none, none] [.int (G_140 N2 w 1 4)] N2 v M' 0 0 := H
    have H : Ev none (e1 + 1) 229 (if (G_140 N2 w 1 4) = 0 then 33 else 23) [some (.ref 633), some (.int h), some (.int w), some (.int t), some (.int m), none, none, none, none, none] [] N2 v M' 0 0 := Ev.back 1 (fun n => rfl) H
    by_cases h6 : (G_140 N2 w 1 4) = 0
    · rw [if_pos h6] at H
      have H : Ev none (e1 + 1) 229 35 [some (.ref 633), some (.int h), some (.int w), some (.int t), some (.int m), none, none, none, none, none] [.int (-2)] N2 v M' 0 0 := Ev.back 1 (fun n => rfl) H
      obtain ⟨z1, z2⟩ := Ev.retz rfl rfl H
      subst eN2
      exact Or.inr (Or.inl ⟨h4, h6, z1, z2⟩)
    · rw [if_neg h6] at H
      have H : Ev none (e1 + 1) 229 27 [some (.ref 633), some (.int h), some (.int w), some (.int t), some (.int m), none, none, none, none, none] [.int 100, .int 1, .int t] N2 v M' 0 0 := Ev.back 3 (fun n => rfl) H
      obtain ⟨vK7, MK7, K7, H⟩ := Ev.callb (fun n => rfl) H
      obtain ⟨pK7, qK7⟩ := g_140 hN2 K7
      rw [pK7, qK7] at H
      have H : Ev none (e1 + 1) 229 30 [some (.ref 633), some (.int h), some (.int w), some (.int t), some (.int m), none, none, none, none, none] [.int (G_140 N2 t 1 100)] N2 v M' 0 0 := H
      have H : Ev none (e1 + 1) 229 (if (G_140 N2 t 1 100) = 0 then 33 else 36) [some (.ref 633), some (.int h), some (.int w), some (.int t), some (.int m), none, none, none, none, none] [] N2 v M' 0 0 := Ev.back 1 (fun n => rfl) H
      by_cases h8 : (G_140 N2 t 1 100) = 0
      · rw [if_pos h8] at H
        have H : Ev none (e1 + 1) 229 35 [some (.ref 633), some (.int h), some (.int w), some (.int t), some (.int m), none, none, none, none, none] [.int (-2)] N2 v M' 0 0 := Ev.back 1 (fun n => rfl) H
        obtain ⟨z1, z2⟩ := Ev.retz rfl rfl H
        subst eN2
        exact Or.inr (Or.inr (Or.inl ⟨h4, h6, h8, z1, z2⟩))
      · rw [if_neg h8] at H
        have H : Ev none (e1 + 1) 229 47 [some (.ref 633), some (.int h), some (.int w), some (.int t), some (.int m), some (.int (-1)), some (.int (16 * (1 + h))), none, none, none] [] N2 v M' 0 0 := Ev.back 8 (fun n => rfl) H
        have HF := H
        subst eN2
        exact Or.inr (Or.inr (Or.inr (⟨h4, h6, h8, HF⟩)))
theorem trq_47 {e : Nat} {M M' : Mem} {v : Option Value} {h w t m x k : Int32} (hS : SQ M) (H : Ev none e 229 47 [some (.ref 633), some (.int h), some (.int w), some (.int t), some (.int m), some (.int x), some (.int k), none, none, none] [] M v M' 0 0) : (((16 * (1 + h)) + (rI M 639 (1 + h))) ≤ k ∧ (0 ≤ (1 + h).toInt ∧ (1 + h).toInt < 8) ∧ Ev none e 229 105 [some (.ref 633), some (.int h), some (.int w), some (.int t), some (.int m), some (.int x), some (.int k), none, none, none] [] M v M' 0 0) ∨ (¬ (((16 * (1 + h)) + (rI M 639 (1 + h))) ≤ k) ∧ 0 ≤ x ∧ (0 ≤ (1 + h).toInt ∧ (1 + h).toInt < 8) ∧ Ev none e 229 105 [some (.ref 633), some (.int h), some (.int w), some (.int t), some (.int m), some (.int x), some (.int k), none, none, none] [] M v M' 0 0) ∨ (¬ (((16 * (1 + h)) + (rI M 639 (1 + h))) ≤ k) ∧ ¬ (0 ≤ x) ∧ (rI M 640 k) = 5 ∧ (rI M 641 k) = 6 ∧ (0 ≤ (1 + h).toInt ∧ (1 + h).toInt < 8) ∧ (0 ≤ k.toInt ∧ k.toInt < 128) ∧ (0 ≤ k.toInt ∧ k.toInt < 128) ∧ Ev none e 229 47 [some (.ref 633), some (.int h), some (.int w), some (.int t), some (.int m), some (.int k), some (.int (k + 1)), none, none, none] [] M v M' 0 0) ∨ (¬ (((16 * (1 + h)) + (rI M 639 (1 + h))) ≤ k) ∧ ¬ (0 ≤ x) ∧ (rI M 640 k) = 5 ∧ ¬ ((rI M 641 k) = 6) ∧ (0 ≤ (1 + h).toInt ∧ (1 + h).toInt < 8) ∧ (0 ≤ k.toInt ∧ k.toInt < 128) ∧ (0 ≤ k.toInt ∧ k.toInt < 128) ∧ Ev none e 229 47 [some (.ref 633), some (.int h), some (.int w), some (.int t), some (.int m), some (.int x), some (.int (k + 1)), none, none, none] [] M v M' 0 0) ∨ (¬ (((16 * (1 + h)) + (rI M 639 (1 + h))) ≤ k) ∧ ¬ (0 ≤ x) ∧ ¬ ((rI M 640 k) = 5) ∧ (0 ≤ (1 + h).toInt ∧ (1 + h).toInt < 8) ∧ (0 ≤ k.toInt ∧ k.toInt < 128) ∧ Ev none e 229 47 [some (.ref 633), some (.int h), some (.int w), some (.int t), some (.int m), some (.int x), some (.int (k + 1)), none, none, none] [] M v M' 0 0) := by
  have H : Ev none e 229 56 [some (.ref 633), some (.int h), some (.int w), some (.int t), some (.int m), some (.int x), some (.int k), none, none, none] [.ref 633, .int (16 * (1 + h)), .int k] M v M' 0 0 := Ev.back 7 (fun n => rfl) H
  have H : Ev none e 229 59 [some (.ref 633), some (.int h), some (.int w), some (.int t), some (.int m), some (.int x), some (.int k), none, none, none] [.ref 639, .int (16 * (1 + h)), .int k] M v M' 0 0 := Ev.back 1 (gs_3 rfl rfl (gf_u hS.1 qa_633 qr_61_9 qu_67 rfl)) H
  have H : Ev none e 229 62 [some (.ref 633), some (.int h), some (.int w), some (.int t), some (.int m), some (.int x), some (.int k), none, none, none] [.int (1 + h), .ref 639, .int (16 * (1 + h)), .int k] M v M' 0 0 := Ev.back 3 (fun n => rfl) H
  obtain ⟨b1, H⟩ := Ev.ial rfl rfl hS.1 qa_639 qw_67 H
  have H : Ev none e 229 63 [some (.ref 633), some (.int h), some (.int w), some (.int t), some (.int m), some (.int x), some (.int k), none, none, none] [.int (rI M 639 (1 + h)), .int (16 * (1 + h)), .int k] M v M' 0 0 := H
  have H : Ev none e 229 (if ((16 * (1 + h)) + (rI M 639 (1 + h))) ≤ k then 105 else 67) [some (.ref 633), some (.int h), some (.int w), some (.int t), some (.int m), some (.int x), some (.int k), none, none, none] [] M v M' 0 0 := Ev.back 2 (fun n => rfl) H
  by_cases h2 : ((16 * (1 + h)) + (rI M 639 (1 + h))) ≤ k
  · rw [if_pos h2] at H
    have HF := H
    exact Or.inl ⟨h2, b1, HF⟩
  · rw [if_neg h2] at H
    have H : Ev none e 229 (if 0 ≤ x then 105 else 72) [some (.ref 633), some (.int h), some (.int w), some (.int t), some (.int m), some (.int x), some (.int k), none, none, none] [] M v M' 0 0 := Ev.back 2 (fun n => rfl) H
    by_cases h3 : 0 ≤ x
    · rw [if_pos h3] at H
      have HF := H
      exact Or.inr (Or.inl ⟨h2, h3, b1, HF⟩)
    · rw [if_neg h3] at H
      have H : Ev none e 229 73 [some (.ref 633), some (.int h), some (.int w), some (.int t), some (.int m), some (.int x), some (.int k), none, none, none] [.ref 633] M v M' 0 0 := Ev.back 1 (fun n => rfl) H
      have H : Ev none e 229 76 [some (.ref 633), some (.int h), some (.int w), some (.int t), some (.int m), some (.int x), some (.int k), none, none, none] [.ref 640] M v M' 0 0 := Ev.back 1 (gs_3 rfl rfl (gf_u hS.1 qa_633 qr_61_10 qu_68 rfl)) H
      have H : Ev none e 229 78 [some (.ref 633), some (.int h), some (.int w), some (.int t), some (.int m), some (.int x), some (.int k), none, none, none] [.int k, .ref 640] M v M' 0 0 := Ev.back 1 (fun n => rfl) H
      obtain ⟨b4, H⟩ := Ev.ial rfl rfl hS.1 qa_640 qw_68 H
      have H : Ev none e 229 79 [some (.ref 633), some (.int h), some (.int w), some (.int t), some (.int m), some (.int x), some (.int k), none, none, none] [.int (rI M 640 k)] M v M' 0 0 := H
      have H : Ev none e 229 (if (rI M 640 k) = 5 then 83 else 99) [some (.ref 633), some (.int h), some (.int w), some (.int t), some (.int m), some (.int x), some (.int k), none, none, none] [] M v M' 0 0 := Ev.back 2 (fun n => rfl) H
      by_cases h5 : (rI M 640 k) = 5
      · rw [if_pos h5] at H
        have H : Ev none e 229 84 [some (.ref 633), some (.int h), some (.int w), some (.int t), some (.int m), some (.int x), some (.int k), none, none, none] [.ref 633] M v M' 0 0 := Ev.back 1 (fun n => rfl) H
        have H : Ev none e 229 87 [some (.ref 633), some (.int h), some (.int w), some (.int t), some (.int m), some (.int x), some (.int k), none, none, none] [.ref 641] M v M' 0 0 := Ev.back 1 (gs_3 rfl rfl (gf_u hS.1 qa_633 qr_61_11 qu_69 rfl)) H
        have H : Ev none e 229 89 [some (.ref 633), some (.int h), some (.int w), some (.int t), some (.int m), some (.int x), some (.int k), none, none, none] [.int k, .ref 641] M v M' 0 0 := Ev.back 1 (fun n => rfl) H
        obtain ⟨b6, H⟩ := Ev.ial rfl rfl hS.1 qa_641 qw_69 H
        have H : Ev none e 229 90 [some (.ref 633), some (.int h), some (.int w), some (.int t), some (.int m), some (.int x), some (.int k), none, none, none] [.int (rI M 641 k)] M v M' 0 0 := H
        have H : Ev none e 229 (if (rI M 641 k) = 6 then 95 else 99) [some (.ref 633), some (.int h), some (.int w), some (.int t), some (.int m), some (.int x), some (.int k), none, none, none] [] M v M' 0 0 := Ev.back 2 (fun n => rfl) H
        by_cases h7 : (rI M 641 k) = 6
        · rw [if_pos h7] at H
          have H : Ev none e 229 47 [some (.ref 633), some (.int h), some (.int w), some (.int t), some (.int m), some (.int k), some (.int (k + 1)), none, none, none] [] M v M' 0 0 := Ev.back 4 (fun n => rfl) H
          have HF := H
          exact Or.inr (Or.inr (Or.inl ⟨h2, h3, h5, h7, b1, b4, b6, HF⟩))
        · rw [if_neg h7] at H
          have H : Ev none e 229 47 [some (.ref 633), some (.int h), some (.int w), some (.int t), some (.int m), some (.int x), some (.int (k + 1)), none, none, none] [] M v M' 0 0 := Ev.back 2 (fun n => rfl) H
          have HF := H
          exact Or.inr (Or.inr (Or.inr (Or.inl ⟨h2, h3, h5, h7, b1, b4, b6, HF⟩)))
      · rw [if_neg h5] at H
        have H : Ev none e 229 47 [some (.ref 633), some (.int h), some (.int w), some (.int t), some (.int m), some (.int x), some (.int (k + 1)), none, none, none] [] M v M' 0 0 := Ev.back 2 (fun n => rfl) H
        have HF := H
        exact Or.inr (Or.inr (Or.inr (Or.inr (⟨h2, h3, h5, b1, b4, HF⟩))))
theorem trq_105 {e : Nat} {M M' : Mem} {v : Option Value} {h w t m x k : Int32} (hS : SQ M) (H : Ev none e 229 105 [some (.ref 633), some (.int h), some (.int w), some (.int t), some (.int m), some (.int x), some (.int k), none, none, none] [] M v M' 0 0) : (0 ≤ x ∧ (0 ≤ x.toInt ∧ x.toInt < 128) ∧ Ev none e 229 127 [some (.ref 633), some (.int h), some (.int w), some (.int t), some (.int m), some (.int x), some (.int (rI M 642 x)), some (.int (-1)), some (.int 0), none] [] M v M' 0 0) ∨ (¬ (0 ≤ x) ∧ v = some (.int (-1)) ∧ M' = M) := by
  have H : Ev none e 229 (if 0 ≤ x then 112 else 110) [some (.ref 633), some (.int h), some (.int w), some (.int t), some (.int m), some (.int x), some (.int k), none, none, none] [] M v M' 0 0 := Ev.back 2 (fun n => rfl) H
  by_cases h1 : 0 ≤ x
  · rw [if_pos h1] at H
    have H : Ev none e 229 113 [some (.ref 633), some (.int h), some (.int w), some (.int t), some (.int m), some (.int x), some (.int k), none, none, none] [.ref 633] M v M' 0 0 := Ev.back 1 (fun n => rfl) H
    have H : Ev none e 229 116 [some (.ref 633), some (.int h), some (.int w), some (.int t), some (.int m), some (.int x), some (.int k), none, none, none] [.ref 642] M v M' 0 0 := Ev.back 1 (gs_3 rfl rfl (gf_u hS.1 qa_633 qr_61_12 qu_70 rfl)) H
    have H : Ev none e 229 118 [some (.ref 633), some (.int h), some (.int w), some (.int t), some (.int m), some (.int x), some (.int k), none, none, none] [.int x, .ref 642] M v M' 0 0 := Ev.back 1 (fun n => rfl) H
    obtain ⟨b2, H⟩ := Ev.ial rfl rfl hS.1 qa_642 qw_70 H
    have H : Ev none e 229 119 [some (.ref 633), some (.int h), some (.int w), some (.int t), some (.int m), some (.int x), some (.int k), none, none, none] [.int (rI M 642 x)] M v M' 0 0 := H
    have H : Ev none e 229 127 [some (.ref 633), some (.int h), some (.int w), some (.int t), some (.int m), some (.int x), some (.int (rI M 642 x)), some (.int (-1)), some (.int 0), none] [] M v M' 0 0 := Ev.back 5 (fun n => rfl) H
    have HF := H
    exact Or.inl ⟨h1, b2, HF⟩
  · rw [if_neg h1] at H
    have H : Ev none e 229 111 [some (.ref 633), some (.int h), some (.int w), some (.int t), some (.int m), some (.int x), some (.int k), none, none, none] [.int (-1)] M v M' 0 0 := Ev.back 1 (fun n => rfl) H
    obtain ⟨z1, z2⟩ := Ev.retz rfl rfl H
    exact Or.inr (⟨h1, z1, z2⟩)
theorem trq_127 {e : Nat} {M M' : Mem} {v : Option Value} {h w t m x was f n : Int32} {c9 : Option Value} (hS : SQ M) (H : Ev none e 229 127 [some (.ref 633), some (.int h), some (.int w), some (.int t), some (.int m), some (.int x), some (.int was), some (.int f), some (.int n), c9] [] M v M' 0 0) : (10 ≤ n ∧ (0 ≤ x.toInt ∧ x.toInt < 128) ∧ v = some (.int f) ∧ M' = (wI M 642 x.toNatClampNeg was)) ∨ (¬ (10 ≤ n) ∧ 0 ≤ f ∧ (0 ≤ x.toInt ∧ x.toInt < 128) ∧ v = some (.int f) ∧ M' = (wI M 642 x.toNatClampNeg was)) ∨ (¬ (10 ≤ n) ∧ ¬ (0 ≤ f) ∧ (0 ≤ x.toInt ∧ x.toInt < 128) ∧ (∃ e1 v1 M1, e = e1 + 1 ∧ Ev none e1 153 0 [some (.ref 633), none] [] (wI M 642 x.toNatClampNeg n) v1 M1 0 0 ∧ Ev none e 229 152 [some (.ref 633), some (.int h), some (.int w), some (.int t), some (.int m), some (.int x), some (.int was), some (.int f), some (.int n), c9] (v1.toList ++ []) M1 v M' 0 0)) := by
  have H : Ev none e 229 (if 10 ≤ n then 195 else 134) [some (.ref 633), some (.int h), some (.int w), some (.int t), some (.int m), some (.int x), some (.int was), some (.int f), some (.int n), c9] [] M v M' 0 0 := Ev.back 3 (fun n => rfl) H
  by_cases h1 : 10 ≤ n
  · rw [if_pos h1] at H
    have H : Ev none e 229 196 [some (.ref 633), some (.int h), some (.int w), some (.int t), some (.int m), some (.int x), some (.int was), some (.int f), some (.int n), c9] [.ref 633] M v M' 0 0 := Ev.back 1 (fun n => rfl) H
    have H : Ev none e 229 199 [some (.ref 633), some (.int h), some (.int w), some (.int t), some (.int m), some (.int x), some (.int was), some (.int f), some (.int n), c9] [.ref 642] M v M' 0 0 := Ev.back 1 (gs_3 rfl rfl (gf_u hS.1 qa_633 qr_61_12 qu_70 rfl)) H
    have H : Ev none e 229 203 [some (.ref 633), some (.int h), some (.int w), some (.int t), some (.int m), some (.int x), some (.int was), some (.int f), some (.int n), c9] [.int was, .int x, .ref 642] M v M' 0 0 := Ev.back 2 (fun n => rfl) H
    obtain ⟨b2, H⟩ := Ev.ias rfl rfl hS.1 qa_642 qw_70 H
    obtain ⟨N3, eN3⟩ : ∃ N, N = (wI M 642 x.toNatClampNeg was) := ⟨_, rfl⟩
    have hN3 : SQ N3 := by rw [eN3]; exact hS.ki
    have H : Ev none e 229 204 [some (.ref 633), some (.int h), some (.int w), some (.int t), some (.int m), some (.int x), some (.int was), some (.int f), some (.int n), c9] [] N3 v M' 0 0 := by rw [eN3]; exact H
    have H : Ev none e 229 206 [some (.ref 633), some (.int h), some (.int w), some (.int t), some (.int m), some (.int x), some (.int was), some (.int f), some (.int n), c9] [.int f] N3 v M' 0 0 := Ev.back 1 (fun n => rfl) H
    obtain ⟨z1, z2⟩ := Ev.retz rfl rfl H
    subst eN3
    exact Or.inl ⟨h1, b2, z1, z2⟩
  · rw [if_neg h1] at H
    have H : Ev none e 229 (if 0 ≤ f then 195 else 139) [some (.ref 633), some (.int h), some (.int w), some (.int t), some (.int m), some (.int x), some (.int was), some (.int f), some (.int n), c9] [] M v M' 0 0 := Ev.back 2 (fun n => rfl) H
    by_cases h4 : 0 ≤ f
    · rw [if_pos h4] at H
      have H : Ev none e 229 196 [some (.ref 633), some (.int h), some (.int w), some (.int t), some (.int m), some (.int x), some (.int was), some (.int f), some (.int n), c9] [.ref 633] M v M' 0 0 := Ev.back 1 (fun n => rfl) H
      have H : Ev none e 229 199 [some (.ref 633), some (.int h), some (.int w), some (.int t), some (.int m), some (.int x), some (.int was), some (.int f), some (.int n), c9] [.ref 642] M v M' 0 0 := Ev.back 1 (gs_3 rfl rfl (gf_u hS.1 qa_633 qr_61_12 qu_70 rfl)) H
      have H : Ev none e 229 203 [some (.ref 633), some (.int h), some (.int w), some (.int t), some (.int m), some (.int x), some (.int was), some (.int f), some (.int n), c9] [.int was, .int x, .ref 642] M v M' 0 0 := Ev.back 2 (fun n => rfl) H
      obtain ⟨b5, H⟩ := Ev.ias rfl rfl hS.1 qa_642 qw_70 H
      obtain ⟨N6, eN6⟩ : ∃ N, N = (wI M 642 x.toNatClampNeg was) := ⟨_, rfl⟩
      have hN6 : SQ N6 := by rw [eN6]; exact hS.ki
      have H : Ev none e 229 204 [some (.ref 633), some (.int h), some (.int w), some (.int t), some (.int m), some (.int x), some (.int was), some (.int f), some (.int n), c9] [] N6 v M' 0 0 := by rw [eN6]; exact H
      have H : Ev none e 229 206 [some (.ref 633), some (.int h), some (.int w), some (.int t), some (.int m), some (.int x), some (.int was), some (.int f), some (.int n), c9] [.int f] N6 v M' 0 0 := Ev.back 1 (fun n => rfl) H
      obtain ⟨z1, z2⟩ := Ev.retz rfl rfl H
      subst eN6
      exact Or.inr (Or.inl ⟨h1, h4, b5, z1, z2⟩)
    · rw [if_neg h4] at H
      have H : Ev none e 229 140 [some (.ref 633), some (.int h), some (.int w), some (.int t), some (.int m), some (.int x), some (.int was), some (.int f), some (.int n), c9] [.ref 633] M v M' 0 0 := Ev.back 1 (fun n => rfl) H
      have H : Ev none e 229 143 [some (.ref 633), some (.int h), some (.int w), some (.int t), some (.int m), some (.int x), some (.int was), some (.int f), some (.int n), c9] [.ref 642] M v M' 0 0 := Ev.back 1 (gs_3 rfl rfl (gf_u hS.1 qa_633 qr_61_12 qu_70 rfl)) H
      have H : Ev none e 229 147 [some (.ref 633), some (.int h), some (.int w), some (.int t), some (.int m), some (.int x), some (.int was), some (.int f), some (.int n), c9] [.int n, .int x, .ref 642] M v M' 0 0 := Ev.back 2 (fun n => rfl) H
      obtain ⟨b7, H⟩ := Ev.ias rfl rfl hS.1 qa_642 qw_70 H
      obtain ⟨N8, eN8⟩ : ∃ N, N = (wI M 642 x.toNatClampNeg n) := ⟨_, rfl⟩
      have hN8 : SQ N8 := by rw [eN8]; exact hS.ki
      have H : Ev none e 229 148 [some (.ref 633), some (.int h), some (.int w), some (.int t), some (.int m), some (.int x), some (.int was), some (.int f), some (.int n), c9] [] N8 v M' 0 0 := by rw [eN8]; exact H
      have H : Ev none e 229 149 [some (.ref 633), some (.int h), some (.int w), some (.int t), some (.int m), some (.int x), some (.int was), some (.int f), some (.int n), c9] [.ref 633] N8 v M' 0 0 := Ev.back 1 (fun n => rfl) H
      obtain ⟨e1, rfl⟩ := Ev.dpos rfl rfl H
      obtain ⟨vK9, MK9, K9, H⟩ := Ev.callb (fun n_ => gs_7 rfl rfl (show gCal (.invokevirtual 445) 11 (.ref 633 :: []) N8 = some (.inr (153, [some (.ref 633), none], [])) from by show @cond (Option ((List Value × Mem) ⊕ (Nat × Lo × List Value))) (true && gRecv N8 (.ref 633) 11 && gRoom [] && true) (some (.inr (153, [some (.ref 633), none], []))) none = _; rw [recv_s hN8.1 qa_633 qo_61]; rfl)) H
      have K9 : Ev none e1 153 0 [some (.ref 633), none] [] N8 vK9 MK9 0 0 := K9
      have HF := H
      subst eN8
      exact Or.inr (Or.inr (⟨h1, h4, b7, ⟨e1, vK9, MK9, rfl, K9, HF⟩⟩))
theorem trq_152 {e : Nat} {M M' : Mem} {v : Option Value} {h w t m x was f n : Int32} {c9 : Option Value} (hS : SQ M) (H : Ev none e 229 152 [some (.ref 633), some (.int h), some (.int w), some (.int t), some (.int m), some (.int x), some (.int was), some (.int f), some (.int n), c9] [] M v M' 0 0) : Ev none e 229 155 [some (.ref 633), some (.int h), some (.int w), some (.int t), some (.int m), some (.int x), some (.int was), some (.int f), some (.int n), some (.int 0)] [] M v M' 0 0 := by
  have H : Ev none e 229 155 [some (.ref 633), some (.int h), some (.int w), some (.int t), some (.int m), some (.int x), some (.int was), some (.int f), some (.int n), some (.int 0)] [] M v M' 0 0 := Ev.back 2 (fun n => rfl) H
  have HF := H
  exact HF
theorem trq_155 {e : Nat} {M M' : Mem} {v : Option Value} {h w t m x was f n j : Int32} (hS : SQ M) (H : Ev none e 229 155 [some (.ref 633), some (.int h), some (.int w), some (.int t), some (.int m), some (.int x), some (.int was), some (.int f), some (.int n), some (.int j)] [] M v M' 0 0) : (w ≤ j ∧ (∃ e1 v1 M1, e = e1 + 1 ∧ Ev none e1 216 0 [some (.ref 633), none, none] [] M v1 M1 0 0 ∧ Ev none e 229 176 [some (.ref 633), some (.int h), some (.int w), some (.int t), some (.int m), some (.int x), some (.int was), some (.int f), some (.int n), some (.int j)] (v1.toList ++ []) M1 v M' 0 0)) ∨ (¬ (w ≤ j) ∧ (∃ e1 v1 M1, e = e1 + 1 ∧ Ev none e1 222 0 [some (.ref 633), some (.int t), none] [] M v1 M1 0 0 ∧ Ev none e 229 166 [some (.ref 633), some (.int h), some (.int w), some (.int t), some (.int m), some (.int x), some (.int was), some (.int f), some (.int n), some (.int j)] (v1.toList ++ []) M1 v M' 0 0)) := by
  have H : Ev none e 229 (if w ≤ j then 172 else 161) [some (.ref 633), some (.int h), some (.int w), some (.int t), some (.int m), some (.int x), some (.int was), some (.int f), some (.int n), some (.int j)] [] M v M' 0 0 := Ev.back 3 (fun n => rfl) H
  by_cases h1 : w ≤ j
  · rw [if_pos h1] at H
    have H : Ev none e 229 173 [some (.ref 633), some (.int h), some (.int w), some (.int t), some (.int m), some (.int x), some (.int was), some (.int f), some (.int n), some (.int j)] [.ref 633] M v M' 0 0 := Ev.back 1 (fun n => rfl) H
    obtain ⟨e1, rfl⟩ := Ev.dpos rfl rfl H
    obtain ⟨vK2, MK2, K2, H⟩ := Ev.callb (fun n_ => gs_7 rfl rfl (show gCal (.invokevirtual 429) 11 (.ref 633 :: []) M = some (.inr (216, [some (.ref 633), none, none], [])) from by show @cond (Option ((List Value × Mem) ⊕ (Nat × Lo × List Value))) (true && gRecv M (.ref 633) 11 && gRoom [] && true) (some (.inr (216, [some (.ref 633), none, none], []))) none = _; rw [recv_s hS.1 qa_633 qo_61]; rfl)) H
    have K2 : Ev none e1 216 0 [some (.ref 633), none, none] [] M vK2 MK2 0 0 := K2
    have HF := H
    exact Or.inl ⟨h1, ⟨e1, vK2, MK2, rfl, K2, HF⟩⟩
  · rw [if_neg h1] at H
    have H : Ev none e 229 163 [some (.ref 633), some (.int h), some (.int w), some (.int t), some (.int m), some (.int x), some (.int was), some (.int f), some (.int n), some (.int j)] [.int t, .ref 633] M v M' 0 0 := Ev.back 2 (fun n => rfl) H
    obtain ⟨e1, rfl⟩ := Ev.dpos rfl rfl H
    obtain ⟨vK3, MK3, K3, H⟩ := Ev.callb (fun n_ => gs_7 rfl rfl (show gCal (.invokevirtual 452) 11 (.int t :: .ref 633 :: []) M = some (.inr (222, [some (.ref 633), some (.int t), none], [])) from by show @cond (Option ((List Value × Mem) ⊕ (Nat × Lo × List Value))) (true && gRecv M (.ref 633) 11 && gRoom [] && true) (some (.inr (222, [some (.ref 633), some (.int t), none], []))) none = _; rw [recv_s hS.1 qa_633 qo_61]; rfl)) H
    have K3 : Ev none e1 222 0 [some (.ref 633), some (.int t), none] [] M vK3 MK3 0 0 := K3
    have HF := H
    exact Or.inr (⟨h1, ⟨e1, vK3, MK3, rfl, K3, HF⟩⟩)
theorem trq_166 {e : Nat} {M M' : Mem} {v : Option Value} {h w t m x was f n j : Int32} (hS : SQ M) (H : Ev none e 229 166 [some (.ref 633), some (.int h), some (.int w), some (.int t), some (.int m), some (.int x), some (.int was), some (.int f), some (.int n), some (.int j)] [] M v M' 0 0) : Ev none e 229 155 [some (.ref 633), some (.int h), some (.int w), some (.int t), some (.int m), some (.int x), some (.int was), some (.int f), some (.int n), some (.int (j + 1))] [] M v M' 0 0 := by
  have H : Ev none e 229 155 [some (.ref 633), some (.int h), some (.int w), some (.int t), some (.int m), some (.int x), some (.int was), some (.int f), some (.int n), some (.int (j + 1))] [] M v M' 0 0 := Ev.back 2 (fun n => rfl) H
  have HF := H
  exact HF
theorem trq_176 {e : Nat} {M M' : Mem} {v : Option Value} {h w t m x was f n j r : Int32} (hS : SQ M) (H : Ev none e 229 176 [some (.ref 633), some (.int h), some (.int w), some (.int t), some (.int m), some (.int x), some (.int was), some (.int f), some (.int n), some (.int j)] [.int r] M v M' 0 0) : (m < r ∧ (∃ e1 v1 M1, e = e1 + 1 ∧ Ev none e1 154 0 [some (.ref 633), none] [] M v1 M1 0 0 ∧ Ev none e 229 189 [some (.ref 633), some (.int h), some (.int w), some (.int t), some (.int m), some (.int x), some (.int was), some (.int f), some (.int n), some (.int j)] (v1.toList ++ []) M1 v M' 0 0)) ∨ (¬ (m < r) ∧ (∃ e1 v1 M1, e = e1 + 1 ∧ Ev none e1 154 0 [some (.ref 633), none] [] M v1 M1 0 0 ∧ Ev none e 229 189 [some (.ref 633), some (.int h), some (.int w), some (.int t), some (.int m), some (.int x), some (.int was), some (.int n), some (.int n), some (.int j)] (v1.toList ++ []) M1 v M' 0 0)) := by
  have H : Ev none e 229 (if m < r then 185 else 181) [some (.ref 633), some (.int h), some (.int w), some (.int t), some (.int m), some (.int x), some (.int was), some (.int f), some (.int n), some (.int j)] [] M v M' 0 0 := Ev.back 2 (fun n => rfl) H
  by_cases h1 : m < r
  · rw [if_pos h1] at H
    have H : Ev none e 229 186 [some (.ref 633), some (.int h), some (.int w), some (.int t), some (.int m), some (.int x), some (.int was), some (.int f), some (.int n), some (.int j)] [.ref 633] M v M' 0 0 := Ev.back 1 (fun n => rfl) H
    obtain ⟨e1, rfl⟩ := Ev.dpos rfl rfl H
    obtain ⟨vK2, MK2, K2, H⟩ := Ev.callb (fun n_ => gs_7 rfl rfl (show gCal (.invokevirtual 459) 11 (.ref 633 :: []) M = some (.inr (154, [some (.ref 633), none], [])) from by show @cond (Option ((List Value × Mem) ⊕ (Nat × Lo × List Value))) (true && gRecv M (.ref 633) 11 && gRoom [] && true) (some (.inr (154, [some (.ref 633), none], []))) none = _; rw [recv_s hS.1 qa_633 qo_61]; rfl)) H
    have K2 : Ev none e1 154 0 [some (.ref 633), none] [] M vK2 MK2 0 0 := K2
    have HF := H
    exact Or.inl ⟨h1, ⟨e1, vK2, MK2, rfl, K2, HF⟩⟩
  · rw [if_neg h1] at H
    have H : Ev none e 229 186 [some (.ref 633), some (.int h), some (.int w), some (.int t), some (.int m), some (.int x), some (.int was), some (.int n), some (.int n), some (.int j)] [.ref 633] M v M' 0 0 := Ev.back 3 (fun n => rfl) H
    obtain ⟨e1, rfl⟩ := Ev.dpos rfl rfl H
    obtain ⟨vK3, MK3, K3, H⟩ := Ev.callb (fun n_ => gs_7 rfl rfl (show gCal (.invokevirtual 459) 11 (.ref 633 :: []) M = some (.inr (154, [some (.ref 633), none], [])) from by show @cond (Option ((List Value × Mem) ⊕ (Nat × Lo × List Value))) (true && gRecv M (.ref 633) 11 && gRoom [] && true) (some (.inr (154, [some (.ref 633), none], []))) none = _; rw [recv_s hS.1 qa_633 qo_61]; rfl)) H
    have K3 : Ev none e1 154 0 [some (.ref 633), none] [] M vK3 MK3 0 0 := K3
    have HF := H
    exact Or.inr (⟨h1, ⟨e1, vK3, MK3, rfl, K3, HF⟩⟩)
theorem trq_189 {e : Nat} {M M' : Mem} {v : Option Value} {h w t m x was f n j : Int32} (hS : SQ M) (H : Ev none e 229 189 [some (.ref 633), some (.int h), some (.int w), some (.int t), some (.int m), some (.int x), some (.int was), some (.int f), some (.int n), some (.int j)] [] M v M' 0 0) : Ev none e 229 127 [some (.ref 633), some (.int h), some (.int w), some (.int t), some (.int m), some (.int x), some (.int was), some (.int f), some (.int (n + 1)), some (.int j)] [] M v M' 0 0 := by
  have H : Ev none e 229 127 [some (.ref 633), some (.int h), some (.int w), some (.int t), some (.int m), some (.int x), some (.int was), some (.int f), some (.int (n + 1)), some (.int j)] [] M v M' 0 0 := Ev.back 2 (fun n => rfl) H
  have HF := H
  exact HF
theorem rpv_0 {e : Nat} {M M' : Mem} {v : Option Value} {w ws t : Int32} (hS : SQ M) (H : Ev none e 230 0 [some (.ref 633), some (.int w), some (.int ws), some (.int t), none] [] M v M' 0 0) : (∃ e1 v1 M1, e = e1 + 1 ∧ Ev none e1 153 0 [some (.ref 633), none] [] M v1 M1 0 0 ∧ Ev none e 230 4 [some (.ref 633), some (.int w), some (.int ws), some (.int t), none] (v1.toList ++ []) M1 v M' 0 0) := by
  have H : Ev none e 230 1 [some (.ref 633), some (.int w), some (.int ws), some (.int t), none] [.ref 633] M v M' 0 0 := Ev.back 1 (fun n => rfl) H
  obtain ⟨e1, rfl⟩ := Ev.dpos rfl rfl H
  obtain ⟨vK1, MK1, K1, H⟩ := Ev.callb (fun n_ => gs_7 rfl rfl (show gCal (.invokevirtual 445) 11 (.ref 633 :: []) M = some (.inr (153, [some (.ref 633), none], [])) from by show @cond (Option ((List Value × Mem) ⊕ (Nat × Lo × List Value))) (true && gRecv M (.ref 633) 11 && gRoom [] && true) (some (.inr (153, [some (.ref 633), none], []))) none = _; rw [recv_s hS.1 qa_633 qo_61]; rfl)) H
  have K1 : Ev none e1 153 0 [some (.ref 633), none] [] M vK1 MK1 0 0 := K1
  have HF := H
  exact ⟨e1, vK1, MK1, rfl, K1, HF⟩
theorem rpv_4 {e : Nat} {M M' : Mem} {v : Option Value} {w ws t : Int32} (hS : SQ M) (H : Ev none e 230 4 [some (.ref 633), some (.int w), some (.int ws), some (.int t), none] [] M v M' 0 0) : Ev none e 230 7 [some (.ref 633), some (.int w), some (.int ws), some (.int t), some (.int 1)] [] M v M' 0 0 := by
  have H : Ev none e 230 7 [some (.ref 633), some (.int w), some (.int ws), some (.int t), some (.int 1)] [] M v M' 0 0 := Ev.back 2 (fun n => rfl) H
  have HF := H
  exact HF
theorem rpv_7 {e : Nat} {M M' : Mem} {v : Option Value} {w ws t k : Int32} (hS : SQ M) (H : Ev none e 230 7 [some (.ref 633), some (.int w), some (.int ws), some (.int t), some (.int k)] [] M v M' 0 0) : (ws < k ∧ (∃ e1 v1 M1, e = e1 + 1 ∧ Ev none e1 220 0 [some (.ref 633), some (.ref 652), none] [] M v1 M1 0 0 ∧ Ev none e 230 46 [some (.ref 633), some (.int w), some (.int ws), some (.int t), some (.int k)] (v1.toList ++ []) M1 v M' 0 0)) ∨ (¬ (ws < k) ∧ (∃ e1 v1 M1, e = e1 + 1 ∧ Ev none e1 222 0 [some (.ref 633), some (.int t), none] [] M v1 M1 0 0 ∧ Ev none e 230 18 [some (.ref 633), some (.int w), some (.int ws), some (.int t), some (.int k)] (v1.toList ++ []) M1 v M' 0 0)) := by
  have H : Ev none e 230 (if ws < k then 38 else 13) [some (.ref 633), some (.int w), some (.int ws), some (.int t), some (.int k)] [] M v M' 0 0 := Ev.back 3 (fun n => rfl) H
  by_cases h1 : ws < k
  · rw [if_pos h1] at H
    have H : Ev none e 230 40 [some (.ref 633), some (.int w), some (.int ws), some (.int t), some (.int k)] [.ref 633, .ref 633] M v M' 0 0 := Ev.back 2 (fun n => rfl) H
    have H : Ev none e 230 43 [some (.ref 633), some (.int w), some (.int ws), some (.int t), some (.int k)] [.ref 652, .ref 633] M v M' 0 0 := Ev.back 1 (gs_3 rfl rfl (gf_u hS.1 qa_633 qr_61_45 qu_80 rfl)) H
    obtain ⟨e1, rfl⟩ := Ev.dpos rfl rfl H
    obtain ⟨vK2, MK2, K2, H⟩ := Ev.callb (fun n_ => gs_7 rfl rfl (show gCal (.invokevirtual 448) 11 (.ref 652 :: .ref 633 :: []) M = some (.inr (220, [some (.ref 633), some (.ref 652), none], [])) from by show @cond (Option ((List Value × Mem) ⊕ (Nat × Lo × List Value))) (true && gRecv M (.ref 633) 11 && gRoom [] && true) (some (.inr (220, [some (.ref 633), some (.ref 652), none], []))) none = _; rw [recv_s hS.1 qa_633 qo_61]; rfl)) H
    have K2 : Ev none e1 220 0 [some (.ref 633), some (.ref 652), none] [] M vK2 MK2 0 0 := K2
    have HF := H
    exact Or.inl ⟨h1, ⟨e1, vK2, MK2, rfl, K2, HF⟩⟩
  · rw [if_neg h1] at H
    have H : Ev none e 230 15 [some (.ref 633), some (.int w), some (.int ws), some (.int t), some (.int k)] [.int t, .ref 633] M v M' 0 0 := Ev.back 2 (fun n => rfl) H
    obtain ⟨e1, rfl⟩ := Ev.dpos rfl rfl H
    obtain ⟨vK3, MK3, K3, H⟩ := Ev.callb (fun n_ => gs_7 rfl rfl (show gCal (.invokevirtual 452) 11 (.int t :: .ref 633 :: []) M = some (.inr (222, [some (.ref 633), some (.int t), none], [])) from by show @cond (Option ((List Value × Mem) ⊕ (Nat × Lo × List Value))) (true && gRecv M (.ref 633) 11 && gRoom [] && true) (some (.inr (222, [some (.ref 633), some (.int t), none], []))) none = _; rw [recv_s hS.1 qa_633 qo_61]; rfl)) H
    have K3 : Ev none e1 222 0 [some (.ref 633), some (.int t), none] [] M vK3 MK3 0 0 := K3
    have HF := H
    exact Or.inr (⟨h1, ⟨e1, vK3, MK3, rfl, K3, HF⟩⟩)
theorem rpv_18 {e : Nat} {M M' : Mem} {v : Option Value} {w ws t k : Int32} (hS : SQ M) (H : Ev none e 230 18 [some (.ref 633), some (.int w), some (.int ws), some (.int t), some (.int k)] [] M v M' 0 0) : (k = w ∧ (∃ e1 v1 M1, e = e1 + 1 ∧ Ev none e1 220 0 [some (.ref 633), some (.ref 653), none] [] M v1 M1 0 0 ∧ Ev none e 230 32 [some (.ref 633), some (.int w), some (.int ws), some (.int t), some (.int k)] (v1.toList ++ []) M1 v M' 0 0)) ∨ (¬ (k = w) ∧ Ev none e 230 7 [some (.ref 633), some (.int w), some (.int ws), some (.int t), some (.int (k + 1))] [] M v M' 0 0) := by
  have H : Ev none e 230 (if k = w then 24 else 32) [some (.ref 633), some (.int w), some (.int ws), some (.int t), some (.int k)] [] M v M' 0 0 := Ev.back 3 (fun n => rfl) H
  by_cases h1 : k = w
  · rw [if_pos h1] at H
    have H : Ev none e 230 26 [some (.ref 633), some (.int w), some (.int ws), some (.int t), some (.int k)] [.ref 633, .ref 633] M v M' 0 0 := Ev.back 2 (fun n => rfl) H
    have H : Ev none e 230 29 [some (.ref 633), some (.int w), some (.int ws), some (.int t), some (.int k)] [.ref 653, .ref 633] M v M' 0 0 := Ev.back 1 (gs_3 rfl rfl (gf_u hS.1 qa_633 qr_61_46 qu_81 rfl)) H
    obtain ⟨e1, rfl⟩ := Ev.dpos rfl rfl H
    obtain ⟨vK2, MK2, K2, H⟩ := Ev.callb (fun n_ => gs_7 rfl rfl (show gCal (.invokevirtual 448) 11 (.ref 653 :: .ref 633 :: []) M = some (.inr (220, [some (.ref 633), some (.ref 653), none], [])) from by show @cond (Option ((List Value × Mem) ⊕ (Nat × Lo × List Value))) (true && gRecv M (.ref 633) 11 && gRoom [] && true) (some (.inr (220, [some (.ref 633), some (.ref 653), none], []))) none = _; rw [recv_s hS.1 qa_633 qo_61]; rfl)) H
    have K2 : Ev none e1 220 0 [some (.ref 633), some (.ref 653), none] [] M vK2 MK2 0 0 := K2
    have HF := H
    exact Or.inl ⟨h1, ⟨e1, vK2, MK2, rfl, K2, HF⟩⟩
  · rw [if_neg h1] at H
    have H : Ev none e 230 7 [some (.ref 633), some (.int w), some (.int ws), some (.int t), some (.int (k + 1))] [] M v M' 0 0 := Ev.back 2 (fun n => rfl) H
    have HF := H
    exact Or.inr (⟨h1, HF⟩)
theorem rpv_32 {e : Nat} {M M' : Mem} {v : Option Value} {w ws t k : Int32} (hS : SQ M) (H : Ev none e 230 32 [some (.ref 633), some (.int w), some (.int ws), some (.int t), some (.int k)] [] M v M' 0 0) : Ev none e 230 7 [some (.ref 633), some (.int w), some (.int ws), some (.int t), some (.int (k + 1))] [] M v M' 0 0 := by
  have H : Ev none e 230 7 [some (.ref 633), some (.int w), some (.int ws), some (.int t), some (.int (k + 1))] [] M v M' 0 0 := Ev.back 2 (fun n => rfl) H
  have HF := H
  exact HF
theorem rpv_46 {e : Nat} {M M' : Mem} {v : Option Value} {w ws t k : Int32} (hS : SQ M) (H : Ev none e 230 46 [some (.ref 633), some (.int w), some (.int ws), some (.int t), some (.int k)] [] M v M' 0 0) : Ev none e 230 64 [some (.ref 633), some (.int w), some (.int ws), some (.int t), some (.int 0)] [] (wF (wF (wF M 633 49 0) 633 50 0) 633 51 0) v M' 0 0 := by
  have H : Ev none e 230 48 [some (.ref 633), some (.int w), some (.int ws), some (.int t), some (.int k)] [.int 0, .ref 633] M v M' 0 0 := Ev.back 2 (fun n => rfl) H
  obtain ⟨N2, eN2⟩ : ∃ N, N = (wF M 633 49 0) := ⟨_, rfl⟩
  have hN2 : SQ N2 := by rw [eN2]; exact hS.kf
  have H : Ev none e 230 51 [some (.ref 633), some (.int w), some (.int ws), some (.int t), some (.int k)] [] N2 v M' 0 0 := by rw [eN2]; exact Ev.pfi rfl rfl rfl hS.1 qa_633 qi_61_49 H
  have H : Ev none e 230 53 [some (.ref 633), some (.int w), some (.int ws), some (.int t), some (.int k)] [.int 0, .ref 633] N2 v M' 0 0 := Ev.back 2 (fun n => rfl) H
  obtain ⟨N4, eN4⟩ : ∃ N, N = (wF N2 633 50 0) := ⟨_, rfl⟩
  have hN4 : SQ N4 := by rw [eN4]; exact hN2.kf
  have H : Ev none e 230 56 [some (.ref 633), some (.int w), some (.int ws), some (.int t), some (.int k)] [] N4 v M' 0 0 := by rw [eN4]; exact Ev.pfi rfl rfl rfl hN2.1 qa_633 qi_61_50 H
  have H : Ev none e 230 58 [some (.ref 633), some (.int w), some (.int ws), some (.int t), some (.int k)] [.int 0, .ref 633] N4 v M' 0 0 := Ev.back 2 (fun n => rfl) H
  obtain ⟨N6, eN6⟩ : ∃ N, N = (wF N4 633 51 0) := ⟨_, rfl⟩
  have hN6 : SQ N6 := by rw [eN6]; exact hN4.kf
  have H : Ev none e 230 61 [some (.ref 633), some (.int w), some (.int ws), some (.int t), some (.int k)] [] N6 v M' 0 0 := by rw [eN6]; exact Ev.pfi rfl rfl rfl hN4.1 qa_633 qi_61_51 H
  have H : Ev none e 230 64 [some (.ref 633), some (.int w), some (.int ws), some (.int t), some (.int 0)] [] N6 v M' 0 0 := Ev.back 2 (fun n => rfl) H
  have HF := H
  subst eN2 eN4 eN6
  exact HF
theorem rpv_64 {e : Nat} {M M' : Mem} {v : Option Value} {w ws t k : Int32} (hS : SQ M) (H : Ev none e 230 64 [some (.ref 633), some (.int w), some (.int ws), some (.int t), some (.int k)] [] M v M' 0 0) : ((G_144 M) ≤ k ∧ (∃ e1 v1 M1, e = e1 + 1 ∧ Ev none e1 154 0 [some (.ref 633), none] [] M v1 M1 0 0 ∧ Ev none e 230 175 [some (.ref 633), some (.int w), some (.int ws), some (.int t), some (.int k)] (v1.toList ++ []) M1 v M' 0 0)) ∨ (¬ ((G_144 M) ≤ k) ∧ (rI M 653 k) = 0 ∧ (rI M 652 k) = 0 ∧ (0 ≤ k.toInt ∧ k.toInt < 256) ∧ (0 ≤ k.toInt ∧ k.toInt < 256) ∧ (0 ≤ k.toInt ∧ k.toInt < 256) ∧ Ev none e 230 64 [some (.ref 633), some (.int w), some (.int ws), some (.int t), some (.int (k + 1))] [] (wF (wF (wF M 633 49 ((zI M 633 49) + 0)) 633 50 ((zI M 633 50) + 0)) 633 51 ((zI M 633 51) + 0)) v M' 0 0) ∨ (¬ ((G_144 M) ≤ k) ∧ (rI M 653 k) = 0 ∧ ¬ ((rI M 652 k) = 0) ∧ (0 ≤ k.toInt ∧ k.toInt < 256) ∧ (0 ≤ k.toInt ∧ k.toInt < 256) ∧ (0 ≤ k.toInt ∧ k.toInt < 256) ∧ (0 ≤ k.toInt ∧ k.toInt < 256) ∧ Ev none e 230 64 [some (.ref 633), some (.int w), some (.int ws), some (.int t), some (.int (k + 1))] [] (wF (wF (wF M 633 49 ((zI M 633 49) + 0)) 633 50 ((zI M 633 50) + 0)) 633 51 ((zI M 633 51) + 1)) v M' 0 0) ∨ (¬ ((G_144 M) ≤ k) ∧ ¬ ((rI M 653 k) = 0) ∧ (rI M 652 k) = 0 ∧ (0 ≤ k.toInt ∧ k.toInt < 256) ∧ (0 ≤ k.toInt ∧ k.toInt < 256) ∧ (0 ≤ k.toInt ∧ k.toInt < 256) ∧ (0 ≤ k.toInt ∧ k.toInt < 256) ∧ Ev none e 230 64 [some (.ref 633), some (.int w), some (.int ws), some (.int t), some (.int (k + 1))] [] (wF (wF (wF M 633 49 ((zI M 633 49) + 1)) 633 50 ((zI M 633 50) + 1)) 633 51 ((zI M 633 51) + 0)) v M' 0 0) ∨ (¬ ((G_144 M) ≤ k) ∧ ¬ ((rI M 653 k) = 0) ∧ ¬ ((rI M 652 k) = 0) ∧ (0 ≤ k.toInt ∧ k.toInt < 256) ∧ (0 ≤ k.toInt ∧ k.toInt < 256) ∧ (0 ≤ k.toInt ∧ k.toInt < 256) ∧ (0 ≤ k.toInt ∧ k.toInt < 256) ∧ (0 ≤ k.toInt ∧ k.toInt < 256) ∧ Ev none e 230 64 [some (.ref 633), some (.int w), some (.int ws), some (.int t), some (.int (k + 1))] [] (wF (wF (wF M 633 49 ((zI M 633 49) + 1)) 633 50 ((zI M 633 50) + 0)) 633 51 ((zI M 633 51) + 0)) v M' 0 0) := by
  have H : Ev none e 230 67 [some (.ref 633), some (.int w), some (.int ws), some (.int t), some (.int k)] [.ref 633, .int k] M v M' 0 0 := Ev.back 2 (fun n => rfl) H
  obtain ⟨e1, rfl⟩ := Ev.dpos rfl rfl H
  obtain ⟨vK1, MK1, K1, H⟩ := Ev.callb (fun n_ => gs_7 rfl rfl (show gCal (.invokevirtual 128) 11 (.ref 633 :: [.int k]) M = some (.inr (144, [some (.ref 633)], [.int k])) from by show @cond (Option ((List Value × Mem) ⊕ (Nat × Lo × List Value))) (true && gRecv M (.ref 633) 11 && gRoom [.int k] && true) (some (.inr (144, [some (.ref 633)], [.int k]))) none = _; rw [recv_s hS.1 qa_633 qo_61]; rfl)) H
  obtain ⟨pK1, qK1⟩ := g_144 hS K1
  rw [pK1, qK1] at H
  have H : Ev none (e1 + 1) 230 70 [some (.ref 633), some (.int w), some (.int ws), some (.int t), some (.int k)] [.int (G_144 M), .int k] M v M' 0 0 := H
  have H : Ev none (e1 + 1) 230 (if (G_144 M) ≤ k then 171 else 73) [some (.ref 633), some (.int w), some (.int ws), some (.int t), some (.int k)] [] M v M' 0 0 := Ev.back 1 (fun n => rfl) H
  by_cases h2 : (G_144 M) ≤ k
  · rw [if_pos h2] at H
    have H : Ev none (e1 + 1) 230 172 [some (.ref 633), some (.int w), some (.int ws), some (.int t), some (.int k)] [.ref 633] M v M' 0 0 := Ev.back 1 (fun n => rfl) H
    obtain ⟨vK3, MK3, K3, H⟩ := Ev.callb (fun n_ => gs_7 rfl rfl (show gCal (.invokevirtual 459) 11 (.ref 633 :: []) M = some (.inr (154, [some (.ref 633), none], [])) from by show @cond (Option ((List Value × Mem) ⊕ (Nat × Lo × List Value))) (true && gRecv M (.ref 633) 11 && gRoom [] && true) (some (.inr (154, [some (.ref 633), none], []))) none = _; rw [recv_s hS.1 qa_633 qo_61]; rfl)) H
    have K3 : Ev none e1 154 0 [some (.ref 633), none] [] M vK3 MK3 0 0 := K3
    have HF := H
    exact Or.inl ⟨h2, ⟨e1, vK3, MK3, rfl, K3, HF⟩⟩
  · rw [if_neg h2] at H
    have H : Ev none (e1 + 1) 230 75 [some (.ref 633), some (.int w), some (.int ws), some (.int t), some (.int k)] [.ref 633, .ref 633] M v M' 0 0 := Ev.back 2 (fun n => rfl) H
    have H : Ev none (e1 + 1) 230 78 [some (.ref 633), some (.int w), some (.int ws), some (.int t), some (.int k)] [.int (zI M 633 49), .ref 633] M v M' 0 0 := Ev.back 1 (gs_3 rfl rfl (gf_i hS.1 qa_633 qi_61_49 rfl)) H
    have H : Ev none (e1 + 1) 230 79 [some (.ref 633), some (.int w), some (.int ws), some (.int t), some (.int k)] [.ref 633, .int (zI M 633 49), .ref 633] M v M' 0 0 := Ev.back 1 (fun n => rfl) H
    have H : Ev none (e1 + 1) 230 82 [some (.ref 633), some (.int w), some (.int ws), some (.int t), some (.int k)] [.ref 653, .int (zI M 633 49), .ref 633] M v M' 0 0 := Ev.back 1 (gs_3 rfl rfl (gf_u hS.1 qa_633 qr_61_46 qu_81 rfl)) H
    have H : Ev none (e1 + 1) 230 84 [some (.ref 633), some (.int w), some (.int ws), some (.int t), some (.int k)] [.int k, .ref 653, .int (zI M 633 49), .ref 633] M v M' 0 0 := Ev.back 1 (fun n => rfl) H
    obtain ⟨b4, H⟩ := Ev.bal rfl rfl hS.1 qa_653 qw_81 (Or.inr rfl) H
    have H : Ev none (e1 + 1) 230 85 [some (.ref 633), some (.int w), some (.int ws), some (.int t), some (.int k)] [.int (rI M 653 k), .int (zI M 633 49), .ref 633] M v M' 0 0 := H
    have H : Ev none (e1 + 1) 230 (if (rI M 653 k) = 0 then 92 else 88) [some (.ref 633), some (.int w), some (.int ws), some (.int t), some (.int k)] [.int (zI M 633 49), .ref 633] M v M' 0 0 := Ev.back 1 (fun n => rfl) H
    by_cases h5 : (rI M 653 k) = 0
    · rw [if_pos h5] at H
      have H : Ev none (e1 + 1) 230 94 [some (.ref 633), some (.int w), some (.int ws), some (.int t), some (.int k)] [.int ((zI M 633 49) + 0), .ref 633] M v M' 0 0 := Ev.back 2 (fun n => rfl) H
      obtain ⟨N7, eN7⟩ : ∃ N, N = (wF M 633 49 ((zI M 633 49) + 0)) := ⟨_, rfl⟩
      have hN7 : SQ N7 := by rw [eN7]; exact hS.kf
      have H : Ev none (e1 + 1) 230 97 [some (.ref 633), some (.int w), some (.int ws), some (.int t), some (.int k)] [] N7 v M' 0 0 := by rw [eN7]; exact Ev.pfi rfl rfl rfl hS.1 qa_633 qi_61_49 H
      have H : Ev none (e1 + 1) 230 99 [some (.ref 633), some (.int w), some (.int ws), some (.int t), some (.int k)] [.ref 633, .ref 633] N7 v M' 0 0 := Ev.back 2 (fun n => rfl) H
      have H : Ev none (e1 + 1) 230 102 [some (.ref 633), some (.int w), some (.int ws), some (.int t), some (.int k)] [.int (zI N7 633 50), .ref 633] N7 v M' 0 0 := Ev.back 1 (gs_3 rfl rfl (gf_i hN7.1 qa_633 qi_61_50 rfl)) H
      rw [show zI N7 633 50 = zI M 633 50 from by rw [eN7]; exact fI_wF_ne (fun q => absurd q.2 (by decide))] at H
      have H : Ev none (e1 + 1) 230 103 [some (.ref 633), some (.int w), some (.int ws), some (.int t), some (.int k)] [.ref 633, .int (zI M 633 50), .ref 633] N7 v M' 0 0 := Ev.back 1 (fun n => rfl) H
      have H : Ev none (e1 + 1) 230 106 [some (.ref 633), some (.int w), some (.int ws), some (.int t), some (.int k)] [.ref 653, .int (zI M 633 50), .ref 633] N7 v M' 0 0 := Ev.back 1 (gs_3 rfl rfl (gf_u hN7.1 qa_633 qr_61_46 qu_81 rfl)) H
      have H : Ev none (e1 + 1) 230 108 [some (.ref 633), some (.int w), some (.int ws), some (.int t), some (.int k)] [.int k, .ref 653, .int (zI M 633 50), .ref 633] N7 v M' 0 0 := Ev.back 1 (fun n => rfl) H
      obtain ⟨b8, H⟩ := Ev.bal rfl rfl hN7.1 qa_653 qw_81 (Or.inr rfl) H
      have H : Ev none (e1 + 1) 230 109 [some (.ref 633), some (.int w), some (.int ws), some (.int t), some (.int k)] [.int (rI N7 653 k), .int (zI M 633 50), .ref 633] N7 v M' 0 0 := H
      rw [show rI N7 653 k = rI M 653 k from by rw [eN7]; exact rN_wF] at H
      have H : Ev none (e1 + 1) 230 (if (rI M 653 k) = 0 then 126 else 112) [some (.ref 633), some (.int w), some (.int ws), some (.int t), some (.int k)] [.int (zI M 633 50), .ref 633] N7 v M' 0 0 := Ev.back 1 (fun n => rfl) H
      rw [if_pos h5] at H
      have H : Ev none (e1 + 1) 230 128 [some (.ref 633), some (.int w), some (.int ws), some (.int t), some (.int k)] [.int ((zI M 633 50) + 0), .ref 633] N7 v M' 0 0 := Ev.back 2 (fun n => rfl) H
      obtain ⟨N10, eN10⟩ : ∃ N, N = (wF N7 633 50 ((zI M 633 50) + 0)) := ⟨_, rfl⟩
      have hN10 : SQ N10 := by rw [eN10]; exact hN7.kf
      have H : Ev none (e1 + 1) 230 131 [some (.ref 633), some (.int w), some (.int ws), some (.int t), some (.int k)] [] N10 v M' 0 0 := by rw [eN10]; exact Ev.pfi rfl rfl rfl hN7.1 qa_633 qi_61_50 H
      have H : Ev none (e1 + 1) 230 133 [some (.ref 633), some (.int w), some (.int ws), some (.int t), some (.int k)] [.ref 633, .ref 633] N10 v M' 0 0 := Ev.back 2 (fun n => rfl) H
      have H : Ev none (e1 + 1) 230 136 [some (.ref 633), some (.int w), some (.int ws), some (.int t), some (.int k)] [.int (zI N10 633 51), .ref 633] N10 v M' 0 0 := Ev.back 1 (gs_3 rfl rfl (gf_i hN10.1 qa_633 qi_61_51 rfl)) H
      rw [(show zI N10 633 51 = zI N7 633 51 from by rw [eN10]; exact fI_wF_ne (fun q => absurd q.2 (by decide))).trans (show zI N7 633 51 = zI M 633 51 from by rw [eN7]; exact fI_wF_ne (fun q => absurd q.2 (by decide)))] at H
      have H : Ev none (e1 + 1) 230 137 [some (.ref 633), some (.int w), some (.int ws), some (.int t), some (.int k)] [.ref 633, .int (zI M 633 51), .ref 633] N10 v M' 0 0 := Ev.back 1 (fun n => rfl) H
      have H : Ev none (e1 + 1) 230 140 [some (.ref 633), some (.int w), some (.int ws), some (.int t), some (.int k)] [.ref 652, .int (zI M 633 51), .ref 633] N10 v M' 0 0 := Ev.back 1 (gs_3 rfl rfl (gf_u hN10.1 qa_633 qr_61_45 qu_80 rfl)) H
      have H : Ev none (e1 + 1) 230 142 [some (.ref 633), some (.int w), some (.int ws), some (.int t), some (.int k)] [.int k, .ref 652, .int (zI M 633 51), .ref 633] N10 v M' 0 0 := Ev.back 1 (fun n => rfl) H
      obtain ⟨b11, H⟩ := Ev.bal rfl rfl hN10.1 qa_652 qw_80 (Or.inr rfl) H
      have H : Ev none (e1 + 1) 230 143 [some (.ref 633), some (.int w), some (.int ws), some (.int t), some (.int k)] [.int (rI N10 652 k), .int (zI M 633 51), .ref 633] N10 v M' 0 0 := H
      rw [(show rI N10 652 k = rI N7 652 k from by rw [eN10]; exact rN_wF).trans (show rI N7 652 k = rI M 652 k from by rw [eN7]; exact rN_wF)] at H
      have H : Ev none (e1 + 1) 230 (if (rI M 652 k) = 0 then 160 else 146) [some (.ref 633), some (.int w), some (.int ws), some (.int t), some (.int k)] [.int (zI M 633 51), .ref 633] N10 v M' 0 0 := Ev.back 1 (fun n => rfl) H
      by_cases h12 : (rI M 652 k) = 0
      · rw [if_pos h12] at H
        have H : Ev none (e1 + 1) 230 162 [some (.ref 633), some (.int w), some (.int ws), some (.int t), some (.int k)] [.int ((zI M 633 51) + 0), .ref 633] N10 v M' 0 0 := Ev.back 2 (fun n => rfl) H
        obtain ⟨N14, eN14⟩ : ∃ N, N = (wF N10 633 51 ((zI M 633 51) + 0)) := ⟨_, rfl⟩
        have hN14 : SQ N14 := by rw [eN14]; exact hN10.kf
        have H : Ev none (e1 + 1) 230 165 [some (.ref 633), some (.int w), some (.int ws), some (.int t), some (.int k)] [] N14 v M' 0 0 := by rw [eN14]; exact Ev.pfi rfl rfl rfl hN10.1 qa_633 qi_61_51 H
        have H : Ev none (e1 + 1) 230 64 [some (.ref 633), some (.int w), some (.int ws), some (.int t), some (.int (k + 1))] [] N14 v M' 0 0 := Ev.back 2 (fun n => rfl) H
        have HF := H
        subst eN7 eN10 eN14
        exact Or.inr (Or.inl ⟨h2, h5, h12, b4, b8, b11, HF⟩)
      · rw [if_neg h12] at H
        have H : Ev none (e1 + 1) 230 147 [some (.ref 633), some (.int w), some (.int ws), some (.int t), some (.int k)] [.ref 633, .int (zI M 633 51), .ref 633] N10 v M' 0 0 := Ev.back 1 (fun n => rfl) H
        have H : Ev none (e1 + 1) 230 150 [some (.ref 633), some (.int w), some (.int ws), some (.int t), some (.int k)] [.ref 653, .int (zI M 633 51), .ref 633] N10 v M' 0 0 := Ev.back 1 (gs_3 rfl rfl (gf_u hN10.1 qa_633 qr_61_46 qu_81 rfl)) H
        have H : Ev none (e1 + 1) 230 152 [some (.ref 633), some (.int w), some (.int ws), some (.int t), some (.int k)] [.int k, .ref 653, .int (zI M 633 51), .ref 633] N10 v M' 0 0 := Ev.back 1 (fun n => rfl) H
        obtain ⟨b15, H⟩ := Ev.bal rfl rfl hN10.1 qa_653 qw_81 (Or.inr rfl) H
        have H : Ev none (e1 + 1) 230 153 [some (.ref 633), some (.int w), some (.int ws), some (.int t), some (.int k)] [.int (rI N10 653 k), .int (zI M 633 51), .ref 633] N10 v M' 0 0 := H
        rw [(show rI N10 653 k = rI N7 653 k from by rw [eN10]; exact rN_wF).trans (show rI N7 653 k = rI M 653 k from by rw [eN7]; exact rN_wF)] at H
        have H : Ev none (e1 + 1) 230 (if (rI M 653 k) = 0 then 156 else 160) [some (.ref 633), some (.int w), some (.int ws), some (.int t), some (.int k)] [.int (zI M 633 51), .ref 633] N10 v M' 0 0 := Ev.back 1 (fun n => rfl) H
        rw [if_pos h5] at H
        have H : Ev none (e1 + 1) 230 162 [some (.ref 633), some (.int w), some (.int ws), some (.int t), some (.int k)] [.int ((zI M 633 51) + 1), .ref 633] N10 v M' 0 0 := Ev.back 3 (fun n => rfl) H
        obtain ⟨N17, eN17⟩ : ∃ N, N = (wF N10 633 51 ((zI M 633 51) + 1)) := ⟨_, rfl⟩
        have hN17 : SQ N17 := by rw [eN17]; exact hN10.kf
        have H : Ev none (e1 + 1) 230 165 [some (.ref 633), some (.int w), some (.int ws), some (.int t), some (.int k)] [] N17 v M' 0 0 := by rw [eN17]; exact Ev.pfi rfl rfl rfl hN10.1 qa_633 qi_61_51 H
        have H : Ev none (e1 + 1) 230 64 [some (.ref 633), some (.int w), some (.int ws), some (.int t), some (.int (k + 1))] [] N17 v M' 0 0 := Ev.back 2 (fun n => rfl) H
        have HF := H
        subst eN7 eN10 eN17
        exact Or.inr (Or.inr (Or.inl ⟨h2, h5, h12, b4, b8, b11, b15, HF⟩))
    · rw [if_neg h5] at H
      have H : Ev none (e1 + 1) 230 94 [some (.ref 633), some (.int w), some (.int ws), some (.int t), some (.int k)] [.int ((zI M 633 49) + 1), .ref 633] M v M' 0 0 := Ev.back 3 (fun n => rfl) H
      obtain ⟨N19, eN19⟩ : ∃ N, N = (wF M 633 49 ((zI M 633 49) + 1)) := ⟨_, rfl⟩
      have hN19 : SQ N19 := by rw [eN19]; exact hS.kf
      have H : Ev none (e1 + 1) 230 97 [some (.ref 633), some (.int w), some (.int ws), some (.int t), some (.int k)] [] N19 v M' 0 0 := by rw [eN19]; exact Ev.pfi rfl rfl rfl hS.1 qa_633 qi_61_49 H
      have H : Ev none (e1 + 1) 230 99 [some (.ref 633), some (.int w), some (.int ws), some (.int t), some (.int k)] [.ref 633, .ref 633] N19 v M' 0 0 := Ev.back 2 (fun n => rfl) H
      have H : Ev none (e1 + 1) 230 102 [some (.ref 633), some (.int w), some (.int ws), some (.int t), some (.int k)] [.int (zI N19 633 50), .ref 633] N19 v M' 0 0 := Ev.back 1 (gs_3 rfl rfl (gf_i hN19.1 qa_633 qi_61_50 rfl)) H
      rw [show zI N19 633 50 = zI M 633 50 from by rw [eN19]; exact fI_wF_ne (fun q => absurd q.2 (by decide))] at H
      have H : Ev none (e1 + 1) 230 103 [some (.ref 633), some (.int w), some (.int ws), some (.int t), some (.int k)] [.ref 633, .int (zI M 633 50), .ref 633] N19 v M' 0 0 := Ev.back 1 (fun n => rfl) H
      have H : Ev none (e1 + 1) 230 106 [some (.ref 633), some (.int w), some (.int ws), some (.int t), some (.int k)] [.ref 653, .int (zI M 633 50), .ref 633] N19 v M' 0 0 := Ev.back 1 (gs_3 rfl rfl (gf_u hN19.1 qa_633 qr_61_46 qu_81 rfl)) H
      have H : Ev none (e1 + 1) 230 108 [some (.ref 633), some (.int w), some (.int ws), some (.int t), some (.int k)] [.int k, .ref 653, .int (zI M 633 50), .ref 633] N19 v M' 0 0 := Ev.back 1 (fun n => rfl) H
      obtain ⟨b20, H⟩ := Ev.bal rfl rfl hN19.1 qa_653 qw_81 (Or.inr rfl) H
      have H : Ev none (e1 + 1) 230 109 [some (.ref 633), some (.int w), some (.int ws), some (.int t), some (.int k)] [.int (rI N19 653 k), .int (zI M 633 50), .ref 633] N19 v M' 0 0 := H
      rw [show rI N19 653 k = rI M 653 k from by rw [eN19]; exact rN_wF] at H
      have H : Ev none (e1 + 1) 230 (if (rI M 653 k) = 0 then 126 else 112) [some (.ref 633), some (.int w), some (.int ws), some (.int t), some (.int k)] [.int (zI M 633 50), .ref 633] N19 v M' 0 0 := Ev.back 1 (fun n => rfl) H
      rw [if_neg h5] at H
      have H : Ev none (e1 + 1) 230 113 [some (.ref 633), some (.int w), some (.int ws), some (.int t), some (.int k)] [.ref 633, .int (zI M 633 50), .ref 633] N19 v M' 0 0 := Ev.back 1 (fun n => rfl) H
      have H : Ev none (e1 + 1) 230 116 [some (.ref 633), some (.int w), some (.int ws), some (.int t), some (.int k)] [.ref 652, .int (zI M 633 50), .ref 633] N19 v M' 0 0 := Ev.back 1 (gs_3 rfl rfl (gf_u hN19.1 qa_633 qr_61_45 qu_80 rfl)) H
      have H : Ev none (e1 + 1) 230 118 [some (.ref 633), some (.int w), some (.int ws), some (.int t), some (.int k)] [.int k, .ref 652, .int (zI M 633 50), .ref 633] N19 v M' 0 0 := Ev.back 1 (fun n => rfl) H
      obtain ⟨b21, H⟩ := Ev.bal rfl rfl hN19.1 qa_652 qw_80 (Or.inr rfl) H
      have H : Ev none (e1 + 1) 230 119 [some (.ref 633), some (.int w), some (.int ws), some (.int t), some (.int k)] [.int (rI N19 652 k), .int (zI M 633 50), .ref 633] N19 v M' 0 0 := H
      rw [show rI N19 652 k = rI M 652 k from by rw [eN19]; exact rN_wF] at H
      have H : Ev none (e1 + 1) 230 (if (rI M 652 k) = 0 then 122 else 126) [some (.ref 633), some (.int w), some (.int ws), some (.int t), some (.int k)] [.int (zI M 633 50), .ref 633] N19 v M' 0 0 := Ev.back 1 (fun n => rfl) H
      by_cases h22 : (rI M 652 k) = 0
      · rw [if_pos h22] at H
        have H : Ev none (e1 + 1) 230 128 [some (.ref 633), some (.int w), some (.int ws), some (.int t), some (.int k)] [.int ((zI M 633 50) + 1), .ref 633] N19 v M' 0 0 := Ev.back 3 (fun n => rfl) H
        obtain ⟨N24, eN24⟩ : ∃ N, N = (wF N19 633 50 ((zI M 633 50) + 1)) := ⟨_, rfl⟩
        have hN24 : SQ N24 := by rw [eN24]; exact hN19.kf
        have H : Ev none (e1 + 1) 230 131 [some (.ref 633), some (.int w), some (.int ws), some (.int t), some (.int k)] [] N24 v M' 0 0 := by rw [eN24]; exact Ev.pfi rfl rfl rfl hN19.1 qa_633 qi_61_50 H
        have H : Ev none (e1 + 1) 230 133 [some (.ref 633), some (.int w), some (.int ws), some (.int t), some (.int k)] [.ref 633, .ref 633] N24 v M' 0 0 := Ev.back 2 (fun n => rfl) H
        have H : Ev none (e1 + 1) 230 136 [some (.ref 633), some (.int w), some (.int ws), some (.int t), some (.int k)] [.int (zI N24 633 51), .ref 633] N24 v M' 0 0 := Ev.back 1 (gs_3 rfl rfl (gf_i hN24.1 qa_633 qi_61_51 rfl)) H
        rw [(show zI N24 633 51 = zI N19 633 51 from by rw [eN24]; exact fI_wF_ne (fun q => absurd q.2 (by decide))).trans (show zI N19 633 51 = zI M 633 51 from by rw [eN19]; exact fI_wF_ne (fun q => absurd q.2 (by decide)))] at H
        have H : Ev none (e1 + 1) 230 137 [some (.ref 633), some (.int w), some (.int ws), some (.int t), some (.int k)] [.ref 633, .int (zI M 633 51), .ref 633] N24 v M' 0 0 := Ev.back 1 (fun n => rfl) H
        have H : Ev none (e1 + 1) 230 140 [some (.ref 633), some (.int w), some (.int ws), some (.int t), some (.int k)] [.ref 652, .int (zI M 633 51), .ref 633] N24 v M' 0 0 := Ev.back 1 (gs_3 rfl rfl (gf_u hN24.1 qa_633 qr_61_45 qu_80 rfl)) H
        have H : Ev none (e1 + 1) 230 142 [some (.ref 633), some (.int w), some (.int ws), some (.int t), some (.int k)] [.int k, .ref 652, .int (zI M 633 51), .ref 633] N24 v M' 0 0 := Ev.back 1 (fun n => rfl) H
        obtain ⟨b25, H⟩ := Ev.bal rfl rfl hN24.1 qa_652 qw_80 (Or.inr rfl) H
        have H : Ev none (e1 + 1) 230 143 [some (.ref 633), some (.int w), some (.int ws), some (.int t), some (.int k)] [.int (rI N24 652 k), .int (zI M 633 51), .ref 633] N24 v M' 0 0 := H
        rw [(show rI N24 652 k = rI N19 652 k from by rw [eN24]; exact rN_wF).trans (show rI N19 652 k = rI M 652 k from by rw [eN19]; exact rN_wF)] at H
        have H : Ev none (e1 + 1) 230 (if (rI M 652 k) = 0 then 160 else 146) [some (.ref 633), some (.int w), some (.int ws), some (.int t), some (.int k)] [.int (zI M 633 51), .ref 633] N24 v M' 0 0 := Ev.back 1 (fun n => rfl) H
        rw [if_pos h22] at H
        have H : Ev none (e1 + 1) 230 162 [some (.ref 633), some (.int w), some (.int ws), some (.int t), some (.int k)] [.int ((zI M 633 51) + 0), .ref 633] N24 v M' 0 0 := Ev.back 2 (fun n => rfl) H
        obtain ⟨N27, eN27⟩ : ∃ N, N = (wF N24 633 51 ((zI M 633 51) + 0)) := ⟨_, rfl⟩
        have hN27 : SQ N27 := by rw [eN27]; exact hN24.kf
        have H : Ev none (e1 + 1) 230 165 [some (.ref 633), some (.int w), some (.int ws), some (.int t), some (.int k)] [] N27 v M' 0 0 := by rw [eN27]; exact Ev.pfi rfl rfl rfl hN24.1 qa_633 qi_61_51 H
        have H : Ev none (e1 + 1) 230 64 [some (.ref 633), some (.int w), some (.int ws), some (.int t), some (.int (k + 1))] [] N27 v M' 0 0 := Ev.back 2 (fun n => rfl) H
        have HF := H
        subst eN19 eN24 eN27
        exact Or.inr (Or.inr (Or.inr (Or.inl ⟨h2, h5, h22, b4, b20, b21, b25, HF⟩)))
      · rw [if_neg h22] at H
        have H : Ev none (e1 + 1) 230 128 [some (.ref 633), some (.int w), some (.int ws), some (.int t), some (.int k)] [.int ((zI M 633 50) + 0), .ref 633] N19 v M' 0 0 := Ev.back 2 (fun n => rfl) H
        obtain ⟨N29, eN29⟩ : ∃ N, N = (wF N19 633 50 ((zI M 633 50) + 0)) := ⟨_, rfl⟩
        have hN29 : SQ N29 := by rw [eN29]; exact hN19.kf
        have H : Ev none (e1 + 1) 230 131 [some (.ref 633), some (.int w), some (.int ws), some (.int t), some (.int k)] [] N29 v M' 0 0 := by rw [eN29]; exact Ev.pfi rfl rfl rfl hN19.1 qa_633 qi_61_50 H
        have H : Ev none (e1 + 1) 230 133 [some (.ref 633), some (.int w), some (.int ws), some (.int t), some (.int k)] [.ref 633, .ref 633] N29 v M' 0 0 := Ev.back 2 (fun n => rfl) H
        have H : Ev none (e1 + 1) 230 136 [some (.ref 633), some (.int w), some (.int ws), some (.int t), some (.int k)] [.int (zI N29 633 51), .ref 633] N29 v M' 0 0 := Ev.back 1 (gs_3 rfl rfl (gf_i hN29.1 qa_633 qi_61_51 rfl)) H
        rw [(show zI N29 633 51 = zI N19 633 51 from by rw [eN29]; exact fI_wF_ne (fun q => absurd q.2 (by decide))).trans (show zI N19 633 51 = zI M 633 51 from by rw [eN19]; exact fI_wF_ne (fun q => absurd q.2 (by decide)))] at H
        have H : Ev none (e1 + 1) 230 137 [some (.ref 633), some (.int w), some (.int ws), some (.int t), some (.int k)] [.ref 633, .int (zI M 633 51), .ref 633] N29 v M' 0 0 := Ev.back 1 (fun n => rfl) H
        have H : Ev none (e1 + 1) 230 140 [some (.ref 633), some (.int w), some (.int ws), some (.int t), some (.int k)] [.ref 652, .int (zI M 633 51), .ref 633] N29 v M' 0 0 := Ev.back 1 (gs_3 rfl rfl (gf_u hN29.1 qa_633 qr_61_45 qu_80 rfl)) H
        have H : Ev none (e1 + 1) 230 142 [some (.ref 633), some (.int w), some (.int ws), some (.int t), some (.int k)] [.int k, .ref 652, .int (zI M 633 51), .ref 633] N29 v M' 0 0 := Ev.back 1 (fun n => rfl) H
        obtain ⟨b30, H⟩ := Ev.bal rfl rfl hN29.1 qa_652 qw_80 (Or.inr rfl) H
        have H : Ev none (e1 + 1) 230 143 [some (.ref 633), some (.int w), some (.int ws), some (.int t), some (.int k)] [.int (rI N29 652 k), .int (zI M 633 51), .ref 633] N29 v M' 0 0 := H
        rw [(show rI N29 652 k = rI N19 652 k from by rw [eN29]; exact rN_wF).trans (show rI N19 652 k = rI M 652 k from by rw [eN19]; exact rN_wF)] at H
        have H : Ev none (e1 + 1) 230 (if (rI M 652 k) = 0 then 160 else 146) [some (.ref 633), some (.int w), some (.int ws), some (.int t), some (.int k)] [.int (zI M 633 51), .ref 633] N29 v M' 0 0 := Ev.back 1 (fun n => rfl) H
        rw [if_neg h22] at H
        have H : Ev none (e1 + 1) 230 147 [some (.ref 633), some (.int w), some (.int ws), some (.int t), some (.int k)] [.ref 633, .int (zI M 633 51), .ref 633] N29 v M' 0 0 := Ev.back 1 (fun n => rfl) H
        have H : Ev none (e1 + 1) 230 150 [some (.ref 633), some (.int w), some (.int ws), some (.int t), some (.int k)] [.ref 653, .int (zI M 633 51), .ref 633] N29 v M' 0 0 := Ev.back 1 (gs_3 rfl rfl (gf_u hN29.1 qa_633 qr_61_46 qu_81 rfl)) H
        have H : Ev none (e1 + 1) 230 152 [some (.ref 633), some (.int w), some (.int ws), some (.int t), some (.int k)] [.int k, .ref 653, .int (zI M 633 51), .ref 633] N29 v M' 0 0 := Ev.back 1 (fun n => rfl) H
        obtain ⟨b31, H⟩ := Ev.bal rfl rfl hN29.1 qa_653 qw_81 (Or.inr rfl) H
        have H : Ev none (e1 + 1) 230 153 [some (.ref 633), some (.int w), some (.int ws), some (.int t), some (.int k)] [.int (rI N29 653 k), .int (zI M 633 51), .ref 633] N29 v M' 0 0 := H
        rw [(show rI N29 653 k = rI N19 653 k from by rw [eN29]; exact rN_wF).trans (show rI N19 653 k = rI M 653 k from by rw [eN19]; exact rN_wF)] at H
        have H : Ev none (e1 + 1) 230 (if (rI M 653 k) = 0 then 156 else 160) [some (.ref 633), some (.int w), some (.int ws), some (.int t), some (.int k)] [.int (zI M 633 51), .ref 633] N29 v M' 0 0 := Ev.back 1 (fun n => rfl) H
        rw [if_neg h5] at H
        have H : Ev none (e1 + 1) 230 162 [some (.ref 633), some (.int w), some (.int ws), some (.int t), some (.int k)] [.int ((zI M 633 51) + 0), .ref 633] N29 v M' 0 0 := Ev.back 2 (fun n => rfl) H
        obtain ⟨N33, eN33⟩ : ∃ N, N = (wF N29 633 51 ((zI M 633 51) + 0)) := ⟨_, rfl⟩
        have hN33 : SQ N33 := by rw [eN33]; exact hN29.kf
        have H : Ev none (e1 + 1) 230 165 [some (.ref 633), some (.int w), some (.int ws), some (.int t), some (.int k)] [] N33 v M' 0 0 := by rw [eN33]; exact Ev.pfi rfl rfl rfl hN29.1 qa_633 qi_61_51 H
        have H : Ev none (e1 + 1) 230 64 [some (.ref 633), some (.int w), some (.int ws), some (.int t), some (.int (k + 1))] [] N33 v M' 0 0 := Ev.back 2 (fun n => rfl) H
        have HF := H
        subst eN19 eN29 eN33
        exact Or.inr (Or.inr (Or.inr (Or.inr (⟨h2, h5, h22, b4, b20, b21, b30, b31, HF⟩))))
theorem rpv_175 {e : Nat} {M M' : Mem} {v : Option Value} {w ws t k : Int32} (hS : SQ M) (H : Ev none e 230 175 [some (.ref 633), some (.int w), some (.int ws), some (.int t), some (.int k)] [] M v M' 0 0) : v = none ∧ M' = M := by
  obtain ⟨z1, z2⟩ := Ev.retb (fun n => rfl) H
  exact ⟨z1, z2⟩
theorem rpd_0 {e : Nat} {M M' : Mem} {v : Option Value} {w ws t wh : Int32} (hS : SQ M) (H : Ev none e 231 0 [some (.ref 633), some (.int w), some (.int ws), some (.int t), some (.int wh)] [] M v M' 0 0) : ((G_140 (wF M 633 0 0) ws 1 20) = 0 ∧ v = some (.int (-1)) ∧ M' = (wF M 633 0 0)) ∨ (¬ ((G_140 (wF M 633 0 0) ws 1 20) = 0) ∧ (G_140 (wF M 633 0 0) w 1 ws) = 0 ∧ v = some (.int (-1)) ∧ M' = (wF M 633 0 0)) ∨ (¬ ((G_140 (wF M 633 0 0) ws 1 20) = 0) ∧ ¬ ((G_140 (wF M 633 0 0) w 1 ws) = 0) ∧ (G_140 (wF M 633 0 0) t 1 200) = 0 ∧ v = some (.int (-1)) ∧ M' = (wF M 633 0 0)) ∨ (¬ ((G_140 (wF M 633 0 0) ws 1 20) = 0) ∧ ¬ ((G_140 (wF M 633 0 0) w 1 ws) = 0) ∧ ¬ ((G_140 (wF M 633 0 0) t 1 200) = 0) ∧ (G_140 (wF M 633 0 0) wh 0 2) = 0 ∧ v = some (.int (-1)) ∧ M' = (wF M 633 0 0)) ∨ (¬ ((G_140 (wF M 633 0 0) ws 1 20) = 0) ∧ ¬ ((G_140 (wF M 633 0 0) w 1 ws) = 0) ∧ ¬ ((G_140 (wF M 633 0 0) t 1 200) = 0) ∧ ¬ ((G_140 (wF M 633 0 0) wh 0 2) = 0) ∧ (∃ e1 v1 M1, e = e1 + 1 ∧ Ev none e1 230 0 [some (.ref 633), some (.int w), some (.int ws), some (.int t), none] [] (wF M 633 0 0) v1 M1 0 0 ∧ Ev none e 231 54 [some (.ref 633), some (.int w), some (.int ws), some (.int t), some (.int wh)] (v1.toList ++ []) M1 v M' 0 0)) := by
  have H : Ev none e 231 2 [some (.ref 633), some (.int w), some (.int ws), some (.int t), some (.int wh)] [.int 0, .ref 633] M v M' 0 0 := Ev.back 2 (fun n => rfl) H
  obtain ⟨N2, eN2⟩ : ∃ N, N = (wF M 633 0 0) := ⟨_, rfl⟩
  have hN2 : SQ N2 := by rw [eN2]; exact hS.kf
  have H : Ev none e 231 5 [some (.ref 633), some (.int w), some (.int ws), some (.int t), some (.int wh)] [] N2 v M' 0 0 := by rw [eN2]; exact Ev.pfi rfl rfl rfl hS.1 qa_633 qi_61_0 H
  have H : Ev none e 231 9 [some (.ref 633), some (.int w), some (.int ws), some (.int t), some (.int wh)] [.int 20, .int 1, .int ws] N2 v M' 0 0 := Ev.back 3 (fun n => rfl) H
  obtain ⟨e1, rfl⟩ := Ev.dpos rfl rfl H
  obtain ⟨vK3, MK3, K3, H⟩ := Ev.callb (fun n => rfl) H
  obtain ⟨pK3, qK3⟩ := g_140 hN2 K3
  rw [pK3, qK3] at H
  have H : Ev none (e1 + 1) 231 12 [some (.ref 633), some (.int w), some (.int ws), some (.int t), some (.int wh)] [.int (G_140 N2 ws 1 20)] N2 v M' 0 0 := H
  have H : Ev none (e1 + 1) 231 (if (G_140 N2 ws 1 20) = 0 then 45 else 15) [some (.ref 633), some (.int w), some (.int ws), some (.int t), some (.int wh)] [] N2 v M' 0 0 := Ev.back 1 (fun n => rfl) H
  by_cases h4 : (G_140 N2 ws 1 20) = 0
  · rw [if_pos h4] at H
    have H : Ev none (e1 + 1) 231 46 [some (.ref 633), some (.int w), some (.int ws), some (.int t), some (.int wh)] [.int (-1)] N2 v M' 0 0 := Ev.back 1 (fun n => rfl) H
    obtain ⟨z1, z2⟩ := Ev.retz rfl rfl H
    subst eN2
    exact Or.inl ⟨h4, z1, z2⟩
  · rw [if_neg h4] at H
    have H : Ev none (e1 + 1) 231 18 [some (.ref 633), some (.int w), some (.int ws), some (.int t), some (.int wh)] [.int ws, .int 1, .int w] N2 v M' 0 0 := Ev.back 3 (fun n => rfl) H
    obtain ⟨vK5, MK5, K5, H⟩ := Ev.callb (fun n => rfl) H
    obtain ⟨pK5, qK5⟩ := g_140 hN2 K5
    rw [pK5, qK5] at H
    have H : Ev none (e1 + 1) 231 21 [some (.ref 633), some (.int w), some (.int ws), some (.int t), some (.int wh)] [.int (G_140 N2 w 1 ws)] N2 v M' 0 0 := H
    have H : Ev none (e1 + 1) 231 (if (G_140 N2 w 1 ws) = 0 then 45 else 24) [some (.ref 633), some (.int w), some (.int ws), some (.int t), some (.int wh)] [] N2 v M' 0 0 := Ev.back 1 (fun n => rfl) H
    by_cases h6 : (G_140 N2 w 1 ws) = 0
    · rw [if_pos h6] at H
      have H : Ev none (e1 + 1) 231 46 [some (.ref 633), some (.int w), some (.int ws), some (.int t), some (.int wh)] [.int (-1)] N2 v M' 0 0 := Ev.back 1 (fun n => rfl) H
      obtain ⟨z1, z2⟩ := Ev.retz rfl rfl H
      subst eN2
      exact Or.inr (Or.inl ⟨h4, h6, z1, z2⟩)
    · rw [if_neg h6] at H
      have H : Ev none (e1 + 1) 231 29 [some (.ref 633), some (.int w), some (.int ws), some (.int t), some (.int wh)] [.int 200, .int 1, .int t] N2 v M' 0 0 := Ev.back 3 (fun n => rfl) H
      obtain ⟨vK7, MK7, K7, H⟩ := Ev.callb (fun n => rfl) H
      obtain ⟨pK7, qK7⟩ := g_140 hN2 K7
      rw [pK7, qK7] at H
      have H : Ev none (e1 + 1) 231 32 [some (.ref 633), some (.int w), some (.int ws), some (.int t), some (.int wh)] [.int (G_140 N2 t 1 200)] N2 v M' 0 0 := H
      have H : Ev none (e1 + 1) 231 (if (G_140 N2 t 1 200) = 0 then 45 else 35) [some (.ref 633), some (.int w), some (.int ws), some (.int t), some (.int wh)] [] N2 v M' 0 0 := Ev.back 1 (fun n => rfl) H
      by_cases h8 : (G_140 N2 t 1 200) = 0
      · rw [if_pos h8] at H
        have H : Ev none (e1 + 1) 231 46 [some (.ref 633), some (.int w), some (.int ws), some (.int t), some (.int wh)] [.int (-1)] N2 v M' 0 0 := Ev.back 1 (fun n => rfl) H
        obtain ⟨z1, z2⟩ := Ev.retz rfl rfl H
        subst eN2
        exact Or.inr (Or.inr (Or.inl ⟨h4, h6, h8, z1, z2⟩))
      · rw [if_neg h8] at H
        have H : Ev none (e1 + 1) 231 39 [some (.ref 633), some (.int w), some (.int ws), some (.int t), some (.int wh)] [.int 2, .int 0, .int wh] N2 v M' 0 0 := Ev.back 3 (fun n => rfl) H
        obtain ⟨vK9, MK9, K9, H⟩ := Ev.callb (fun n => rfl) H
        obtain ⟨pK9, qK9⟩ := g_140 hN2 K9
        rw [pK9, qK9] at H
        have H : Ev none (e1 + 1) 231 42 [some (.ref 633), some (.int w), some (.int ws), some (.int t), some (.int wh)] [.int (G_140 N2 wh 0 2)] N2 v M' 0 0 := H
        have H : Ev none (e1 + 1) 231 (if (G_140 N2 wh 0 2) = 0 then 45 else 47) [some (.ref 633), some (.int w), some (.int ws), some (.int t), some (.int wh)] [] N2 v M' 0 0 := Ev.back 1 (fun n => rfl) H
        by_cases h10 : (G_140 N2 wh 0 2) = 0
        · rw [if_pos h10] at H
          have H : Ev none (e1 + 1) 231 46 [some (.ref 633), some (.int w), some (.int ws), some (.int t), some (.int wh)] [.int (-1)] N2 v M' 0 0 := Ev.back 1 (fun n => rfl) H
          obtain ⟨z1, z2⟩ := Ev.retz rfl rfl H
          subst eN2
          exact Or.inr (Or.inr (Or.inr (Or.inl ⟨h4, h6, h8, h10, z1, z2⟩)))
        · rw [if_neg h10] at H
          have H : Ev none (e1 + 1) 231 51 [some (.ref 633), some (.int w), some (.int ws), some (.int t), some (.int wh)] [.int t, .int ws, .int w, .ref 633] N2 v M' 0 0 := Ev.back 4 (fun n => rfl) H
          obtain ⟨vK11, MK11, K11, H⟩ := Ev.callb (fun n_ => gs_7 rfl rfl (show gCal (.invokevirtual 482) 11 (.int t :: .int ws :: .int w :: .ref 633 :: []) N2 = some (.inr (230, [some (.ref 633), some (.int w), some (.int ws), some (.int t), none], [])) from by show @cond (Option ((List Value × Mem) ⊕ (Nat × Lo × List Value))) (true && gRecv N2 (.ref 633) 11 && gRoom [] && true) (some (.inr (230, [some (.ref 633), some (.int w), some (.int ws), some (.int t), none], []))) none = _; rw [recv_s hN2.1 qa_633 qo_61]; rfl)) H
          have K11 : Ev none e1 230 0 [some (.ref 633), some (.int w), some (.int ws), some (.int t), none] [] N2 vK11 MK11 0 0 := K11
          have HF := H
          subst eN2
          exact Or.inr (Or.inr (Or.inr (Or.inr (⟨h4, h6, h8, h10, ⟨e1, vK11, MK11, rfl, K11, HF⟩⟩))))
theorem rpd_54 {e : Nat} {M M' : Mem} {v : Option Value} {w ws t wh : Int32} (hS : SQ M) (H : Ev none e 231 54 [some (.ref 633), some (.int w), some (.int ws), some (.int t), some (.int wh)] [] M v M' 0 0) : (wh = 0 ∧ v = some (.int (zI M 633 49)) ∧ M' = M) ∨ (¬ (wh = 0) ∧ wh = 1 ∧ v = some (.int (zI M 633 50)) ∧ M' = M) ∨ (¬ (wh = 0) ∧ ¬ (wh = 1) ∧ v = some (.int (zI M 633 51)) ∧ M' = M) := by
  have H : Ev none e 231 (if wh = 0 then 59 else 66) [some (.ref 633), some (.int w), some (.int ws), some (.int t), some (.int wh)] [] M v M' 0 0 := Ev.back 2 (fun n => rfl) H
  by_cases h1 : wh = 0
  · rw [if_pos h1] at H
    have H : Ev none e 231 60 [some (.ref 633), some (.int w), some (.int ws), some (.int t), some (.int wh)] [.ref 633] M v M' 0 0 := Ev.back 1 (fun n => rfl) H
    have H : Ev none e 231 63 [some (.ref 633), some (.int w), some (.int ws), some (.int t), some (.int wh)] [.int (zI M 633 49)] M v M' 0 0 := Ev.back 1 (gs_3 rfl rfl (gf_i hS.1 qa_633 qi_61_49 rfl)) H
    have H : Ev none e 231 83 [some (.ref 633), some (.int w), some (.int ws), some (.int t), some (.int wh)] [.int (zI M 633 49)] M v M' 0 0 := Ev.back 1 (fun n => rfl) H
    obtain ⟨z1, z2⟩ := Ev.retz rfl rfl H
    exact Or.inl ⟨h1, z1, z2⟩
  · rw [if_neg h1] at H
    have H : Ev none e 231 (if wh = 1 then 72 else 79) [some (.ref 633), some (.int w), some (.int ws), some (.int t), some (.int wh)] [] M v M' 0 0 := Ev.back 3 (fun n => rfl) H
    by_cases h2 : wh = 1
    · rw [if_pos h2] at H
      have H : Ev none e 231 73 [some (.ref 633), some (.int w), some (.int ws), some (.int t), some (.int wh)] [.ref 633] M v M' 0 0 := Ev.back 1 (fun n => rfl) H
      have H : Ev none e 231 76 [some (.ref 633), some (.int w), some (.int ws), some (.int t), some (.int wh)] [.int (zI M 633 50)] M v M' 0 0 := Ev.back 1 (gs_3 rfl rfl (gf_i hS.1 qa_633 qi_61_50 rfl)) H
      have H : Ev none e 231 83 [some (.ref 633), some (.int w), some (.int ws), some (.int t), some (.int wh)] [.int (zI M 633 50)] M v M' 0 0 := Ev.back 1 (fun n => rfl) H
      obtain ⟨z1, z2⟩ := Ev.retz rfl rfl H
      exact Or.inr (Or.inl ⟨h1, h2, z1, z2⟩)
    · rw [if_neg h2] at H
      have H : Ev none e 231 80 [some (.ref 633), some (.int w), some (.int ws), some (.int t), some (.int wh)] [.ref 633] M v M' 0 0 := Ev.back 1 (fun n => rfl) H
      have H : Ev none e 231 83 [some (.ref 633), some (.int w), some (.int ws), some (.int t), some (.int wh)] [.int (zI M 633 51)] M v M' 0 0 := Ev.back 1 (gs_3 rfl rfl (gf_i hS.1 qa_633 qi_61_51 rfl)) H
      obtain ⟨z1, z2⟩ := Ev.retz rfl rfl H
      exact Or.inr (Or.inr (⟨h1, h2, z1, z2⟩))
theorem rwt_0 {e : Nat} {M M' : Mem} {v : Option Value} {ws t : Int32} (hS : SQ M) (H : Ev none e 232 0 [some (.ref 633), some (.int ws), some (.int t), none, none, none, none] [] M v M' 0 0) : ((G_140 (wF M 633 0 0) ws 1 20) = 0 ∧ v = some (.int (-1)) ∧ M' = (wF M 633 0 0)) ∨ (¬ ((G_140 (wF M 633 0 0) ws 1 20) = 0) ∧ (G_140 (wF M 633 0 0) t 1 200) = 0 ∧ v = some (.int (-1)) ∧ M' = (wF M 633 0 0)) ∨ (¬ ((G_140 (wF M 633 0 0) ws 1 20) = 0) ∧ ¬ ((G_140 (wF M 633 0 0) t 1 200) = 0) ∧ Ev none e 232 36 [some (.ref 633), some (.int ws), some (.int t), some (.int (-1)), some (.int 0), some (.int 1), none] [] (wF M 633 0 0) v M' 0 0) := by
  have H : Ev none e 232 2 [some (.ref 633), some (.int ws), some (.int t), none, none, none, none] [.int 0, .ref 633] M v M' 0 0 := Ev.back 2 (fun n => rfl) H
  obtain ⟨N2, eN2⟩ : ∃ N, N = (wF M 633 0 0) := ⟨_, rfl⟩
  have hN2 : SQ N2 := by rw [eN2]; exact hS.kf
  have H : Ev none e 232 5 [some (.ref 633), some (.int ws), some (.int t), none, none, none, none] [] N2 v M' 0 0 := by rw [eN2]; exact Ev.pfi rfl rfl rfl hS.1 qa_633 qi_61_0 H
  have H : Ev none e 232 9 [some (.ref 633), some (.int ws), some (.int t), none, none, none, none] [.int 20, .int 1, .int ws] N2 v M' 0 0 := Ev.back 3 (fun n => rfl) H
  obtain ⟨e1, rfl⟩ := Ev.dpos rfl rfl H
  obtain ⟨vK3, MK3, K3, H⟩ := Ev.callb (fun n => rfl) H
  obtain ⟨pK3, qK3⟩ := g_140 hN2 K3
  rw [pK3, qK3] at H
  have H : Ev none (e1 + 1) 232 12 [some (.ref 633), some (.int ws), some (.int t), none, none, none, none] [.int (G_140 N2 ws 1 20)] N2 v M' 0 0 := H
  have H : Ev none (e1 + 1) 232 (if (G_140 N2 ws 1 20) = 0 then 26 else 15) [some (.ref 633), some (.int ws), some (.int t), none, none, none, none] [] N2 v M' 0 0 := Ev.back 1 (fun n => rfl) H
  by_cases h4 : (G_140 N2 ws 1 20) = 0
  · rw [if_pos h4] at H
    have H : Ev none (e1 + 1) 232 27 [some (.ref 633), some (.int ws), some (.int t), none, none, none, none] [.int (-1)] N2 v M' 0 0 := Ev.back 1 (fun n => rfl) H
    obtain ⟨z1, z2⟩ := Ev.retz rfl rfl H
    subst eN2
    exact Or.inl ⟨h4, z1, z2⟩
  · rw [if_neg h4] at H
    have H : Ev none (e1 + 1) 232 20 [some (.ref 633), some (.int ws), some (.int t), none, none, none, none] [.int 200, .int 1, .int t] N2 v M' 0 0 := Ev.back 3 (fun n => rfl) H
    obtain ⟨vK5, MK5, K5, H⟩ := Ev.callb (fun n => rfl) H
    obtain ⟨pK5, qK5⟩ := g_140 hN2 K5
    rw [pK5, qK5] at H
    have H : Ev none (e1 + 1) 232 23 [some (.ref 633), some (.int ws), some (.int t), none, none, none, none] [.int (G_140 N2 t 1 200)] N2 v M' 0 0 := H
    have H : Ev none (e1 + 1) 232 (if (G_140 N2 t 1 200) = 0 then 26 else 28) [some (.ref 633), some (.int ws), some (.int t), none, none, none, none] [] N2 v M' 0 0 := Ev.back 1 (fun n => rfl) H
    by_cases h6 : (G_140 N2 t 1 200) = 0
    · rw [if_pos h6] at H
      have H : Ev none (e1 + 1) 232 27 [some (.ref 633), some (.int ws), some (.int t), none, none, none, none] [.int (-1)] N2 v M' 0 0 := Ev.back 1 (fun n => rfl) H
      obtain ⟨z1, z2⟩ := Ev.retz rfl rfl H
      subst eN2
      exact Or.inr (Or.inl ⟨h4, h6, z1, z2⟩)
    · rw [if_neg h6] at H
      have H : Ev none (e1 + 1) 232 36 [some (.ref 633), some (.int ws), some (.int t), some (.int (-1)), some (.int 0), some (.int 1), none] [] N2 v M' 0 0 := Ev.back 6 (fun n => rfl) H
      have HF := H
      subst eN2
      exact Or.inr (Or.inr (⟨h4, h6, HF⟩))
theorem rwt_36 {e : Nat} {M M' : Mem} {v : Option Value} {ws t be le w : Int32} {c6 : Option Value} (hS : SQ M) (H : Ev none e 232 36 [some (.ref 633), some (.int ws), some (.int t), some (.int be), some (.int le), some (.int w), c6] [] M v M' 0 0) : (ws < w ∧ v = some (.int be) ∧ M' = M) ∨ (¬ (ws < w) ∧ (∃ e1 v1 M1, e = e1 + 1 ∧ Ev none e1 230 0 [some (.ref 633), some (.int w), some (.int ws), some (.int t), none] [] M v1 M1 0 0 ∧ Ev none e 232 50 [some (.ref 633), some (.int ws), some (.int t), some (.int be), some (.int le), some (.int w), c6] (v1.toList ++ []) M1 v M' 0 0)) := by
  have H : Ev none e 232 (if ws < w then 91 else 42) [some (.ref 633), some (.int ws), some (.int t), some (.int be), some (.int le), some (.int w), c6] [] M v M' 0 0 := Ev.back 3 (fun n => rfl) H
  by_cases h1 : ws < w
  · rw [if_pos h1] at H
    have H : Ev none e 232 92 [some (.ref 633), some (.int ws), some (.int t), some (.int be), some (.int le), some (.int w), c6] [.int be] M v M' 0 0 := Ev.back 1 (fun n => rfl) H
    obtain ⟨z1, z2⟩ := Ev.retz rfl rfl H
    exact Or.inl ⟨h1, z1, z2⟩
  · rw [if_neg h1] at H
    have H : Ev none e 232 47 [some (.ref 633), some (.int ws), some (.int t), some (.int be), some (.int le), some (.int w), c6] [.int t, .int ws, .int w, .ref 633] M v M' 0 0 := Ev.back 4 (fun n => rfl) H
    obtain ⟨e1, rfl⟩ := Ev.dpos rfl rfl H
    obtain ⟨vK2, MK2, K2, H⟩ := Ev.callb (fun n_ => gs_7 rfl rfl (show gCal (.invokevirtual 482) 11 (.int t :: .int ws :: .int w :: .ref 633 :: []) M = some (.inr (230, [some (.ref 633), some (.int w), some (.int ws), some (.int t), none], [])) from by show @cond (Option ((List Value × Mem) ⊕ (Nat × Lo × List Value))) (true && gRecv M (.ref 633) 11 && gRoom [] && true) (some (.inr (230, [some (.ref 633), some (.int w), some (.int ws), some (.int t), none], []))) none = _; rw [recv_s hS.1 qa_633 qo_61]; rfl)) H
    have K2 : Ev none e1 230 0 [some (.ref 633), some (.int w), some (.int ws), some (.int t), none] [] M vK2 MK2 0 0 := K2
    have HF := H
    exact Or.inr (⟨h1, ⟨e1, vK2, MK2, rfl, K2, HF⟩⟩)
theorem rwt_50 {e : Nat} {M M' : Mem} {v : Option Value} {ws t be le w : Int32} {c6 : Option Value} (hS : SQ M) (H : Ev none e 232 50 [some (.ref 633), some (.int ws), some (.int t), some (.int be), some (.int le), some (.int w), c6] [] M v M' 0 0) : (be < 0 ∧ Ev none e 232 36 [some (.ref 633), some (.int ws), some (.int t), some (.int w), some (.int (((zI M 633 50) + (zI M 633 51)) + w)), some (.int (w + 1)), some (.int (((zI M 633 50) + (zI M 633 51)) + w))] [] M v M' 0 0) ∨ (¬ (be < 0) ∧ (((zI M 633 50) + (zI M 633 51)) + w) < le ∧ Ev none e 232 36 [some (.ref 633), some (.int ws), some (.int t), some (.int w), some (.int (((zI M 633 50) + (zI M 633 51)) + w)), some (.int (w + 1)), some (.int (((zI M 633 50) + (zI M 633 51)) + w))] [] M v M' 0 0) ∨ (¬ (be < 0) ∧ ¬ ((((zI M 633 50) + (zI M 633 51)) + w) < le) ∧ Ev none e 232 36 [some (.ref 633), some (.int ws), some (.int t), some (.int be), some (.int le), some (.int (w + 1)), some (.int (((zI M 633 50) + (zI M 633 51)) + w))] [] M v M' 0 0) := by
  have H : Ev none e 232 51 [some (.ref 633), some (.int ws), some (.int t), some (.int be), some (.int le), some (.int w), c6] [.ref 633] M v M' 0 0 := Ev.back 1 (fun n => rfl) H
  have H : Ev none e 232 54 [some (.ref 633), some (.int ws), some (.int t), some (.int be), some (.int le), some (.int w), c6] [.int (zI M 633 50)] M v M' 0 0 := Ev.back 1 (gs_3 rfl rfl (gf_i hS.1 qa_633 qi_61_50 rfl)) H
  have H : Ev none e 232 55 [some (.ref 633), some (.int ws), some (.int t), some (.int be), some (.int le), some (.int w), c6] [.ref 633, .int (zI M 633 50)] M v M' 0 0 := Ev.back 1 (fun n => rfl) H
  have H : Ev none e 232 58 [some (.ref 633), some (.int ws), some (.int t), some (.int be), some (.int le), some (.int w), c6] [.int (zI M 633 51), .int (zI M 633 50)] M v M' 0 0 := Ev.back 1 (gs_3 rfl rfl (gf_i hS.1 qa_633 qi_61_51 rfl)) H
  have H : Ev none e 232 (if be < 0 then 78 else 68) [some (.ref 633), some (.int ws), some (.int t), some (.int be), some (.int le), some (.int w), some (.int (((zI M 633 50) + (zI M 633 51)) + w))] [] M v M' 0 0 := Ev.back 6 (fun n => rfl) H
  by_cases h1 : be < 0
  · rw [if_pos h1] at H
    have H : Ev none e 232 36 [some (.ref 633), some (.int ws), some (.int t), some (.int w), some (.int (((zI M 633 50) + (zI M 633 51)) + w)), some (.int (w + 1)), some (.int (((zI M 633 50) + (zI M 633 51)) + w))] [] M v M' 0 0 := Ev.back 6 (fun n => rfl) H
    have HF := H
    exact Or.inl ⟨h1, HF⟩
  · rw [if_neg h1] at H
    have H : Ev none e 232 (if (((zI M 633 50) + (zI M 633 51)) + w) < le then 78 else 75) [some (.ref 633), some (.int ws), some (.int t), some (.int be), some (.int le), some (.int w), some (.int (((zI M 633 50) + (zI M 633 51)) + w))] [] M v M' 0 0 := Ev.back 3 (fun n => rfl) H
    by_cases h2 : (((zI M 633 50) + (zI M 633 51)) + w) < le
    · rw [if_pos h2] at H
      have H : Ev none e 232 36 [some (.ref 633), some (.int ws), some (.int t), some (.int w), some (.int (((zI M 633 50) + (zI M 633 51)) + w)), some (.int (w + 1)), some (.int (((zI M 633 50) + (zI M 633 51)) + w))] [] M v M' 0 0 := Ev.back 6 (fun n => rfl) H
      have HF := H
      exact Or.inr (Or.inl ⟨h1, h2, HF⟩)
    · rw [if_neg h2] at H
      have H : Ev none e 232 36 [some (.ref 633), some (.int ws), some (.int t), some (.int be), some (.int le), some (.int (w + 1)), some (.int (((zI M 633 50) + (zI M 633 51)) + w))] [] M v M' 0 0 := Ev.back 3 (fun n => rfl) H
      have HF := H
      exact Or.inr (Or.inr (⟨h1, h2, HF⟩))
theorem rit_0 {e : Nat} {M M' : Mem} {v : Option Value} {a b t : Int32} (hS : SQ M) (H : Ev none e 233 0 [some (.ref 633), some (.int a), some (.int b), some (.int t), none] [] M v M' 0 0) : (∃ e1 v1 M1, e = e1 + 1 ∧ Ev none e1 153 0 [some (.ref 633), none] [] M v1 M1 0 0 ∧ Ev none e 233 4 [some (.ref 633), some (.int a), some (.int b), some (.int t), none] (v1.toList ++ []) M1 v M' 0 0) := by
  have H : Ev none e 233 1 [some (.ref 633), some (.int a), some (.int b), some (.int t), none] [.ref 633] M v M' 0 0 := Ev.back 1 (fun n => rfl) H
  obtain ⟨e1, rfl⟩ := Ev.dpos rfl rfl H
  obtain ⟨vK1, MK1, K1, H⟩ := Ev.callb (fun n_ => gs_7 rfl rfl (show gCal (.invokevirtual 445) 11 (.ref 633 :: []) M = some (.inr (153, [some (.ref 633), none], [])) from by show @cond (Option ((List Value × Mem) ⊕ (Nat × Lo × List Value))) (true && gRecv M (.ref 633) 11 && gRoom [] && true) (some (.inr (153, [some (.ref 633), none], []))) none = _; rw [recv_s hS.1 qa_633 qo_61]; rfl)) H
  have K1 : Ev none e1 153 0 [some (.ref 633), none] [] M vK1 MK1 0 0 := K1
  have HF := H
  exact ⟨e1, vK1, MK1, rfl, K1, HF⟩
theorem rit_4 {e : Nat} {M M' : Mem} {v : Option Value} {a b t : Int32} (hS : SQ M) (H : Ev none e 233 4 [some (.ref 633), some (.int a), some (.int b), some (.int t), none] [] M v M' 0 0) : (a < 0 ∧ Ev none e 233 15 [some (.ref 633), some (.int a), some (.int b), some (.int t), none] [] M v M' 0 0) ∨ (¬ (a < 0) ∧ (∃ e1 v1 M1, e = e1 + 1 ∧ Ev none e1 213 0 [some (.ref 633), some (.int a), some (.int 6)] [] M v1 M1 0 0 ∧ Ev none e 233 15 [some (.ref 633), some (.int a), some (.int b), some (.int t), none] (v1.toList ++ []) M1 v M' 0 0)) := by
  have H : Ev none e 233 (if a < 0 then 15 else 8) [some (.ref 633), some (.int a), some (.int b), some (.int t), none] [] M v M' 0 0 := Ev.back 2 (fun n => rfl) H
  by_cases h1 : a < 0
  · rw [if_pos h1] at H
    have HF := H
    exact Or.inl ⟨h1, HF⟩
  · rw [if_neg h1] at H
    have H : Ev none e 233 12 [some (.ref 633), some (.int a), some (.int b), some (.int t), none] [.int 6, .int a, .ref 633] M v M' 0 0 := Ev.back 3 (fun n => rfl) H
    obtain ⟨e1, rfl⟩ := Ev.dpos rfl rfl H
    obtain ⟨vK2, MK2, K2, H⟩ := Ev.callb (fun n_ => gs_7 rfl rfl (show gCal (.invokevirtual 435) 11 (.int 6 :: .int a :: .ref 633 :: []) M = some (.inr (213, [some (.ref 633), some (.int a), some (.int 6)], [])) from by show @cond (Option ((List Value × Mem) ⊕ (Nat × Lo × List Value))) (true && gRecv M (.ref 633) 11 && gRoom [] && true) (some (.inr (213, [some (.ref 633), some (.int a), some (.int 6)], []))) none = _; rw [recv_s hS.1 qa_633 qo_61]; rfl)) H
    have K2 : Ev none e1 213 0 [some (.ref 633), some (.int a), some (.int 6)] [] M vK2 MK2 0 0 := K2
    have HF := H
    exact Or.inr (⟨h1, ⟨e1, vK2, MK2, rfl, K2, HF⟩⟩)
theorem rit_15 {e : Nat} {M M' : Mem} {v : Option Value} {a b t : Int32} (hS : SQ M) (H : Ev none e 233 15 [some (.ref 633), some (.int a), some (.int b), some (.int t), none] [] M v M' 0 0) : (b < 0 ∧ Ev none e 233 26 [some (.ref 633), some (.int a), some (.int b), some (.int t), none] [] M v M' 0 0) ∨ (¬ (b < 0) ∧ (∃ e1 v1 M1, e = e1 + 1 ∧ Ev none e1 213 0 [some (.ref 633), some (.int b), some (.int 6)] [] M v1 M1 0 0 ∧ Ev none e 233 26 [some (.ref 633), some (.int a), some (.int b), some (.int t), none] (v1.toList ++ []) M1 v M' 0 0)) := by
  have H : Ev none e 233 (if b < 0 then 26 else 19) [some (.ref 633), some (.int a), some (.int b), some (.int t), none] [] M v M' 0 0 := Ev.back 2 (fun n => rfl) H
  by_cases h1 : b < 0
  · rw [if_pos h1] at H
    have HF := H
    exact Or.inl ⟨h1, HF⟩
  · rw [if_neg h1] at H
    have H : Ev none e 233 23 [some (.ref 633), some (.int a), some (.int b), some (.int t), none] [.int 6, .int b, .ref 633] M v M' 0 0 := Ev.back 3 (fun n => rfl) H
    obtain ⟨e1, rfl⟩ := Ev.dpos rfl rfl H
    obtain ⟨vK2, MK2, K2, H⟩ := Ev.callb (fun n_ => gs_7 rfl rfl (show gCal (.invokevirtual 435) 11 (.int 6 :: .int b :: .ref 633 :: []) M = some (.inr (213, [some (.ref 633), some (.int b), some (.int 6)], [])) from by show @cond (Option ((List Value × Mem) ⊕ (Nat × Lo × List Value))) (true && gRecv M (.ref 633) 11 && gRoom [] && true) (some (.inr (213, [some (.ref 633), some (.int b), some (.int 6)], []))) none = _; rw [recv_s hS.1 qa_633 qo_61]; rfl)) H
    have K2 : Ev none e1 213 0 [some (.ref 633), some (.int b), some (.int 6)] [] M vK2 MK2 0 0 := K2
    have HF := H
    exact Or.inr (⟨h1, ⟨e1, vK2, MK2, rfl, K2, HF⟩⟩)
theorem rit_26 {e : Nat} {M M' : Mem} {v : Option Value} {a b t : Int32} (hS : SQ M) (H : Ev none e 233 26 [some (.ref 633), some (.int a), some (.int b), some (.int t), none] [] M v M' 0 0) : Ev none e 233 34 [some (.ref 633), some (.int a), some (.int b), some (.int t), some (.int 0)] [] (wF M 633 42 0) v M' 0 0 := by
  have H : Ev none e 233 28 [some (.ref 633), some (.int a), some (.int b), some (.int t), none] [.int 0, .ref 633] M v M' 0 0 := Ev.back 2 (fun n => rfl) H
  obtain ⟨N2, eN2⟩ : ∃ N, N = (wF M 633 42 0) := ⟨_, rfl⟩
  have hN2 : SQ N2 := by rw [eN2]; exact hS.kf
  have H : Ev none e 233 31 [some (.ref 633), some (.int a), some (.int b), some (.int t), none] [] N2 v M' 0 0 := by rw [eN2]; exact Ev.pfi rfl rfl rfl hS.1 qa_633 qi_61_42 H
  have H : Ev none e 233 34 [some (.ref 633), some (.int a), some (.int b), some (.int t), some (.int 0)] [] N2 v M' 0 0 := Ev.back 2 (fun n => rfl) H
  have HF := H
  subst eN2
  exact HF
theorem rit_34 {e : Nat} {M M' : Mem} {v : Option Value} {a b t k : Int32} (hS : SQ M) (H : Ev none e 233 34 [some (.ref 633), some (.int a), some (.int b), some (.int t), some (.int k)] [] M v M' 0 0) : (t ≤ k ∧ (∃ e1 v1 M1, e = e1 + 1 ∧ Ev none e1 154 0 [some (.ref 633), none] [] M v1 M1 0 0 ∧ Ev none e 233 61 [some (.ref 633), some (.int a), some (.int b), some (.int t), some (.int k)] (v1.toList ++ []) M1 v M' 0 0)) ∨ (¬ (t ≤ k) ∧ (zI M 633 42) = 0 ∧ (∃ e1 v1 M1, e = e1 + 1 ∧ Ev none e1 204 0 [some (.ref 633), none, none, none] [] M v1 M1 0 0 ∧ Ev none e 233 51 [some (.ref 633), some (.int a), some (.int b), some (.int t), some (.int k)] (v1.toList ++ []) M1 v M' 0 0)) ∨ (¬ (t ≤ k) ∧ ¬ ((zI M 633 42) = 0) ∧ (∃ e1 v1 M1, e = e1 + 1 ∧ Ev none e1 154 0 [some (.ref 633), none] [] M v1 M1 0 0 ∧ Ev none e 233 61 [some (.ref 633), some (.int a), some (.int b), some (.int t), some (.int k)] (v1.toList ++ []) M1 v M' 0 0)) := by
  have H : Ev none e 233 (if t ≤ k then 57 else 40) [some (.ref 633), some (.int a), some (.int b), some (.int t), some (.int k)] [] M v M' 0 0 := Ev.back 3 (fun n => rfl) H
  by_cases h1 : t ≤ k
  · rw [if_pos h1] at H
    have H : Ev none e 233 58 [some (.ref 633), some (.int a), some (.int b), some (.int t), some (.int k)] [.ref 633] M v M' 0 0 := Ev.back 1 (fun n => rfl) H
    obtain ⟨e1, rfl⟩ := Ev.dpos rfl rfl H
    obtain ⟨vK2, MK2, K2, H⟩ := Ev.callb (fun n_ => gs_7 rfl rfl (show gCal (.invokevirtual 459) 11 (.ref 633 :: []) M = some (.inr (154, [some (.ref 633), none], [])) from by show @cond (Option ((List Value × Mem) ⊕ (Nat × Lo × List Value))) (true && gRecv M (.ref 633) 11 && gRoom [] && true) (some (.inr (154, [some (.ref 633), none], []))) none = _; rw [recv_s hS.1 qa_633 qo_61]; rfl)) H
    have K2 : Ev none e1 154 0 [some (.ref 633), none] [] M vK2 MK2 0 0 := K2
    have HF := H
    exact Or.inl ⟨h1, ⟨e1, vK2, MK2, rfl, K2, HF⟩⟩
  · rw [if_neg h1] at H
    have H : Ev none e 233 41 [some (.ref 633), some (.int a), some (.int b), some (.int t), some (.int k)] [.ref 633] M v M' 0 0 := Ev.back 1 (fun n => rfl) H
    have H : Ev none e 233 44 [some (.ref 633), some (.int a), some (.int b), some (.int t), some (.int k)] [.int (zI M 633 42)] M v M' 0 0 := Ev.back 1 (gs_3 rfl rfl (gf_i hS.1 qa_633 qi_61_42 rfl)) H
    have H : Ev none e 233 (if (zI M 633 42) = 0 then 47 else 57) [some (.ref 633), some (.int a), some (.int b), some (.int t), some (.int k)] [] M v M' 0 0 := Ev.back 1 (fun n => rfl) H
    by_cases h3 : (zI M 633 42) = 0
    · rw [if_pos h3] at H
      have H : Ev none e 233 48 [some (.ref 633), some (.int a), some (.int b), some (.int t), some (.int k)] [.ref 633] M v M' 0 0 := Ev.back 1 (fun n => rfl) H
      obtain ⟨e1, rfl⟩ := Ev.dpos rfl rfl H
      obtain ⟨vK4, MK4, K4, H⟩ := Ev.callb (fun n_ => gs_7 rfl rfl (show gCal (.invokevirtual 423) 11 (.ref 633 :: []) M = some (.inr (204, [some (.ref 633), none, none, none], [])) from by show @cond (Option ((List Value × Mem) ⊕ (Nat × Lo × List Value))) (true && gRecv M (.ref 633) 11 && gRoom [] && true) (some (.inr (204, [some (.ref 633), none, none, none], []))) none = _; rw [recv_s hS.1 qa_633 qo_61]; rfl)) H
      have K4 : Ev none e1 204 0 [some (.ref 633), none, none, none] [] M vK4 MK4 0 0 := K4
      have HF := H
      exact Or.inr (Or.inl ⟨h1, h3, ⟨e1, vK4, MK4, rfl, K4, HF⟩⟩)
    · rw [if_neg h3] at H
      have H : Ev none e 233 58 [some (.ref 633), some (.int a), some (.int b), some (.int t), some (.int k)] [.ref 633] M v M' 0 0 := Ev.back 1 (fun n => rfl) H
      obtain ⟨e1, rfl⟩ := Ev.dpos rfl rfl H
      obtain ⟨vK5, MK5, K5, H⟩ := Ev.callb (fun n_ => gs_7 rfl rfl (show gCal (.invokevirtual 459) 11 (.ref 633 :: []) M = some (.inr (154, [some (.ref 633), none], [])) from by show @cond (Option ((List Value × Mem) ⊕ (Nat × Lo × List Value))) (true && gRecv M (.ref 633) 11 && gRoom [] && true) (some (.inr (154, [some (.ref 633), none], []))) none = _; rw [recv_s hS.1 qa_633 qo_61]; rfl)) H
      have K5 : Ev none e1 154 0 [some (.ref 633), none] [] M vK5 MK5 0 0 := K5
      have HF := H
      exact Or.inr (Or.inr (⟨h1, h3, ⟨e1, vK5, MK5, rfl, K5, HF⟩⟩))
theorem rit_51 {e : Nat} {M M' : Mem} {v : Option Value} {a b t k : Int32} (hS : SQ M) (H : Ev none e 233 51 [some (.ref 633), some (.int a), some (.int b), some (.int t), some (.int k)] [] M v M' 0 0) : Ev none e 233 34 [some (.ref 633), some (.int a), some (.int b), some (.int t), some (.int (k + 1))] [] M v M' 0 0 := by
  have H : Ev none e 233 34 [some (.ref 633), some (.int a), some (.int b), some (.int t), some (.int (k + 1))] [] M v M' 0 0 := Ev.back 2 (fun n => rfl) H
  have HF := H
  exact HF
theorem rit_61 {e : Nat} {M M' : Mem} {v : Option Value} {a b t k : Int32} (hS : SQ M) (H : Ev none e 233 61 [some (.ref 633), some (.int a), some (.int b), some (.int t), some (.int k)] [] M v M' 0 0) : v = some (.int (zI M 633 42)) ∧ M' = M := by
  have H : Ev none e 233 62 [some (.ref 633), some (.int a), some (.int b), some (.int t), some (.int k)] [.ref 633] M v M' 0 0 := Ev.back 1 (fun n => rfl) H
  have H : Ev none e 233 65 [some (.ref 633), some (.int a), some (.int b), some (.int t), some (.int k)] [.int (zI M 633 42)] M v M' 0 0 := Ev.back 1 (gs_3 rfl rfl (gf_i hS.1 qa_633 qi_61_42 rfl)) H
  obtain ⟨z1, z2⟩ := Ev.retz rfl rfl H
  exact ⟨z1, z2⟩
noncomputable def A_234 (M : Mem) (n : Int32) (a : Int32) (b : Int32) : Int32 := n
noncomputable def X_234 (M : Mem) (n : Int32) (a : Int32) (b : Int32) : Mem := (wI (wI (wF M 633 53 n) 656 ((0 : Int32).toNatClampNeg) a) 656 ((1 : Int32).toNatClampNeg) b)
theorem g_234 {e : Nat} {M M' : Mem} {v : Option Value} {n a b : Int32} (hS : SQ M) (H : Ev none e 234 0 [some (.ref 633), some (.int n), some (.int a), some (.int b)] [] M v M' 0 0) : v = some (.int (A_234 M n a b)) ∧ M' = X_234 M n a b := by
  unfold A_234 X_234
  have H : Ev none e 234 2 [some (.ref 633), some (.int n), some (.int a), some (.int b)] [.int n, .ref 633] M v M' 0 0 := Ev.back 2 (fun n => rfl) H
  obtain ⟨N2, eN2⟩ : ∃ N, N = (wF M 633 53 n) := ⟨_, rfl⟩
  have hN2 : SQ N2 := by rw [eN2]; exact hS.kf
  have H : Ev none e 234 5 [some (.ref 633), some (.int n), some (.int a), some (.int b)] [] N2 v M' 0 0 := by rw [eN2]; exact Ev.pfi rfl rfl rfl hS.1 qa_633 qi_61_53 H
  have H : Ev none e 234 6 [some (.ref 633), some (.int n), some (.int a), some (.int b)] [.ref 633] N2 v M' 0 0 := Ev.back 1 (fun n => rfl) H
  have H : Ev none e 234 9 [some (.ref 633), some (.int n), some (.int a), some (.int b)] [.ref 656] N2 v M' 0 0 := Ev.back 1 (gs_3 rfl rfl (gf_u hN2.1 qa_633 qr_61_52 qu_84 rfl)) H
  have H : Ev none e 234 11 [some (.ref 633), some (.int n), some (.int a), some (.int b)] [.int a, .int 0, .ref 656] N2 v M' 0 0 := Ev.back 2 (fun n => rfl) H
  obtain ⟨b3, H⟩ := Ev.ias rfl rfl hN2.1 qa_656 qw_84 H
  obtain ⟨N4, eN4⟩ : ∃ N, N = (wI N2 656 ((0 : Int32).toNatClampNeg) a) := ⟨_, rfl⟩
  have hN4 : SQ N4 := by rw [eN4]; exact hN2.ki
  have H : Ev none e 234 12 [some (.ref 633), some (.int n), some (.int a), some (.int b)] [] N4 v M' 0 0 := by rw [eN4]; exact H
  have H : Ev none e 234 13 [some (.ref 633), some (.int n), some (.int a), some (.int b)] [.ref 633] N4 v M' 0 0 := Ev.back 1 (fun n => rfl) H
  have H : Ev none e 234 16 [some (.ref 633), some (.int n), some (.int a), some (.int b)] [.ref 656] N4 v M' 0 0 := Ev.back 1 (gs_3 rfl rfl (gf_u hN4.1 qa_633 qr_61_52 qu_84 rfl)) H
  have H : Ev none e 234 18 [some (.ref 633), some (.int n), some (.int a), some (.int b)] [.int b, .int 1, .ref 656] N4 v M' 0 0 := Ev.back 2 (fun n => rfl) H
  obtain ⟨b5, H⟩ := Ev.ias rfl rfl hN4.1 qa_656 qw_84 H
  obtain ⟨N6, eN6⟩ : ∃ N, N = (wI N4 656 ((1 : Int32).toNatClampNeg) b) := ⟨_, rfl⟩
  have hN6 : SQ N6 := by rw [eN6]; exact hN4.ki
  have H : Ev none e 234 19 [some (.ref 633), some (.int n), some (.int a), some (.int b)] [] N6 v M' 0 0 := by rw [eN6]; exact H
  have H : Ev none e 234 20 [some (.ref 633), some (.int n), some (.int a), some (.int b)] [.int n] N6 v M' 0 0 := Ev.back 1 (fun n => rfl) H
  obtain ⟨p1, p2⟩ := Ev.retz rfl rfl H
  subst eN2 eN4 eN6
  exact ⟨p1, p2⟩
theorem X_234_sx {M : Mem} {n a b : Int32} (hS : SQ M) : SQ (X_234 M n a b) := by
  unfold X_234
  exact ((hS.kf).ki).ki
theorem rfn_0 {e : Nat} {M M' : Mem} {v : Option Value} {c t : Int32} (hS : SQ M) (H : Ev none e 235 0 [some (.ref 633), some (.int c), some (.int t), none, none, none] [] M v M' 0 0) : ((G_145 (X_139 (wF M 633 0 0)) c) = 0 ∧ v = some (.int (-2)) ∧ M' = (X_139 (wF M 633 0 0))) ∨ (¬ ((G_145 (X_139 (wF M 633 0 0)) c) = 0) ∧ (G_140 (X_139 (wF M 633 0 0)) t 1 100) = 0 ∧ v = some (.int (-2)) ∧ M' = (X_139 (wF M 633 0 0))) ∨ (¬ ((G_145 (X_139 (wF M 633 0 0)) c) = 0) ∧ ¬ ((G_140 (X_139 (wF M 633 0 0)) t 1 100) = 0) ∧ (G_140 (X_139 (wF M 633 0 0)) (zI (X_139 (wF M 633 0 0)) 633 3) 1 12) = 0 ∧ v = some (.int (-2)) ∧ M' = (X_139 (wF M 633 0 0))) ∨ (¬ ((G_145 (X_139 (wF M 633 0 0)) c) = 0) ∧ ¬ ((G_140 (X_139 (wF M 633 0 0)) t 1 100) = 0) ∧ ¬ ((G_140 (X_139 (wF M 633 0 0)) (zI (X_139 (wF M 633 0 0)) 633 3) 1 12) = 0) ∧ Ev none e 235 45 [some (.ref 633), some (.int c), some (.int t), some (.int 0), none, none] [] (X_139 (wF M 633 0 0)) v M' 0 0) := by
  have H : Ev none e 235 2 [some (.ref 633), some (.int c), some (.int t), none, none, none] [.int 0, .ref 633] M v M' 0 0 := Ev.back 2 (fun n => rfl) H
  obtain ⟨N2, eN2⟩ : ∃ N, N = (wF M 633 0 0) := ⟨_, rfl⟩
  have hN2 : SQ N2 := by rw [eN2]; exact hS.kf
  have H : Ev none e 235 5 [some (.ref 633), some (.int c), some (.int t), none, none, none] [] N2 v M' 0 0 := by rw [eN2]; exact Ev.pfi rfl rfl rfl hS.1 qa_633 qi_61_0 H
  have H : Ev none e 235 6 [some (.ref 633), some (.int c), some (.int t), none, none, none] [.ref 633] N2 v M' 0 0 := Ev.back 1 (fun n => rfl) H
  obtain ⟨e1, rfl⟩ := Ev.dpos rfl rfl H
  obtain ⟨vK3, MK3, K3, H⟩ := Ev.callb (fun n_ => gs_7 rfl rfl (show gCal (.invokevirtual 144) 11 (.ref 633 :: []) N2 = some (.inr (139, [some (.ref 633)], [])) from by show @cond (Option ((List Value × Mem) ⊕ (Nat × Lo × List Value))) (true && gRecv N2 (.ref 633) 11 && gRoom [] && true) (some (.inr (139, [some (.ref 633)], []))) none = _; rw [recv_s hN2.1 qa_633 qo_61]; rfl)) H
  obtain ⟨pK3, qK3⟩ := g_139 hN2 K3
  rw [pK3, qK3] at H
  obtain ⟨N4, eN4⟩ : ∃ N, N = (X_139 N2) := ⟨_, rfl⟩
  have hN4 : SQ N4 := by rw [eN4]; exact X_139_sx hN2
  rw [← eN4] at H
  have H : Ev none (e1 + 1) 235 9 [some (.ref 633), some (.int c), some (.int t), none, none, none] [] N4 v M' 0 0 := H
  have H : Ev none (e1 + 1) 235 11 [some (.ref 633), some (.int c), some (.int t), none, none, none] [.int c, .ref 633] N4 v M' 0 0 := Ev.back 2 (fun n => rfl) H
  obtain ⟨vK5, MK5, K5, H⟩ := Ev.callb (fun n_ => gs_7 rfl rfl (show gCal (.invokevirtual 155) 11 (.int c :: .ref 633 :: []) N4 = some (.inr (145, [some (.ref 633), some (.int c)], [])) from by show @cond (Option ((List Value × Mem) ⊕ (Nat × Lo × List Value))) (true && gRecv N4 (.ref 633) 11 && gRoom [] && true) (some (.inr (145, [some (.ref 633), some (.int c)], []))) none = _; rw [recv_s hN4.1 qa_633 qo_61]; rfl)) H
  obtain ⟨pK5, qK5⟩ := g_145 hN4 K5
  rw [pK5, qK5] at H
  have H : Ev none (e1 + 1) 235 14 [some (.ref 633), some (.int c), some (.int t), none, none, none] [.int (G_145 N4 c)] N4 v M' 0 0 := H
  have H : Ev none (e1 + 1) 235 (if (G_145 N4 c) = 0 then 40 else 17) [some (.ref 633), some (.int c), some (.int t), none, none, none] [] N4 v M' 0 0 := Ev.back 1 (fun n => rfl) H
  by_cases h6 : (G_145 N4 c) = 0
  · rw [if_pos h6] at H
    have H : Ev none (e1 + 1) 235 42 [some (.ref 633), some (.int c), some (.int t), none, none, none] [.int (-2)] N4 v M' 0 0 := Ev.back 1 (fun n => rfl) H
    obtain ⟨z1, z2⟩ := Ev.retz rfl rfl H
    subst eN2 eN4
    exact Or.inl ⟨h6, z1, z2⟩
  · rw [if_neg h6] at H
    have H : Ev none (e1 + 1) 235 21 [some (.ref 633), some (.int c), some (.int t), none, none, none] [.int 100, .int 1, .int t] N4 v M' 0 0 := Ev.back 3 (fun n => rfl) H
    obtain ⟨vK7, MK7, K7, H⟩ := Ev.callb (fun n => rfl) H
    obtain ⟨pK7, qK7⟩ := g_140 hN4 K7
    rw [pK7, qK7] at H
    have H : Ev none (e1 + 1) 235 24 [some (.ref 633), some (.int c), some (.int t), none, none, none] [.int (G_140 N4 t 1 100)] N4 v M' 0 0 := H
    have H : Ev none (e1 + 1) 235 (if (G_140 N4 t 1 100) = 0 then 40 else 27) [some (.ref 633), some (.int c), some (.int t), none, none, none] [] N4 v M' 0 0 := Ev.back 1 (fun n => rfl) H
    by_cases h8 : (G_140 N4 t 1 100) = 0
    · rw [if_pos h8] at H
      have H : Ev none (e1 + 1) 235 42 [some (.ref 633), some (.int c), some (.int t), none, none, none] [.int (-2)] N4 v M' 0 0 := Ev.back 1 (fun n => rfl) H
      obtain ⟨z1, z2⟩ := Ev.retz rfl rfl H
      subst eN2 eN4
      exact Or.inr (Or.inl ⟨h6, h8, z1, z2⟩)
    · rw [if_neg h8] at H
      have H : Ev none (e1 + 1) 235 28 [some (.ref 633), some (.int c), some (.int t), none, none, none] [.ref 633] N4 v M' 0 0 := Ev.back 1 (fun n => rfl) H
      have H : Ev none (e1 + 1) 235 31 [some (.ref 633), some (.int c), some (.int t), none, none, none] [.int (zI N4 633 3)] N4 v M' 0 0 := Ev.back 1 (gs_3 rfl rfl (gf_i hN4.1 qa_633 qi_61_3 rfl)) H
      have H : Ev none (e1 + 1) 235 34 [some (.ref 633), some (.int c), some (.int t), none, none, none] [.int 12, .int 1, .int (zI N4 633 3)] N4 v M' 0 0 := Ev.back 2 (fun n => rfl) H
      obtain ⟨vK9, MK9, K9, H⟩ := Ev.callb (fun n => rfl) H
      obtain ⟨pK9, qK9⟩ := g_140 hN4 K9
      rw [pK9, qK9] at H
      have H : Ev none (e1 + 1) 235 37 [some (.ref 633), some (.int c), some (.int t), none, none, none] [.int (G_140 N4 (zI N4 633 3) 1 12)] N4 v M' 0 0 := H
      have H : Ev none (e1 + 1) 235 (if (G_140 N4 (zI N4 633 3) 1 12) = 0 then 40 else 43) [some (.ref 633), some (.int c), some (.int t), none, none, none] [] N4 v M' 0 0 := Ev.back 1 (fun n => rfl) H
      by_cases h10 : (G_140 N4 (zI N4 633 3) 1 12) = 0
      · rw [if_pos h10] at H
        have H : Ev none (e1 + 1) 235 42 [some (.ref 633), some (.int c), some (.int t), none, none, none] [.int (-2)] N4 v M' 0 0 := Ev.back 1 (fun n => rfl) H
        obtain ⟨z1, z2⟩ := Ev.retz rfl rfl H
        subst eN2 eN4
        exact Or.inr (Or.inr (Or.inl ⟨h6, h8, h10, z1, z2⟩))
      · rw [if_neg h10] at H
        have H : Ev none (e1 + 1) 235 45 [some (.ref 633), some (.int c), some (.int t), some (.int 0), none, none] [] N4 v M' 0 0 := Ev.back 2 (fun n => rfl) H
        have HF := H
        subst eN2 eN4
        exact Or.inr (Or.inr (Or.inr (⟨h6, h8, h10, HF⟩)))
theorem rfn_45 {e : Nat} {M M' : Mem} {v : Option Value} {c t i : Int32} (hS : SQ M) (H : Ev none e 235 45 [some (.ref 633), some (.int c), some (.int t), some (.int i), none, none] [] M v M' 0 0) : ((zI M 633 3) ≤ i ∧ Ev none e 235 110 [some (.ref 633), some (.int c), some (.int t), some (.int i), none, none] [] M v M' 0 0) ∨ (¬ ((zI M 633 3) ≤ i) ∧ (G_145 M (G_142 M i)) = 0 ∧ v = some (.int (-2)) ∧ M' = M) ∨ (¬ ((zI M 633 3) ≤ i) ∧ ¬ ((G_145 M (G_142 M i)) = 0) ∧ (G_148 M (G_142 M i)) = 0 ∧ v = some (.int (-2)) ∧ M' = M) ∨ (¬ ((zI M 633 3) ≤ i) ∧ ¬ ((G_145 M (G_142 M i)) = 0) ∧ ¬ ((G_148 M (G_142 M i)) = 0) ∧ (∃ e1 v1 M1, e = e1 + 1 ∧ Ev none e1 157 0 [some (.ref 633), some (.int (G_142 M i)), none] [] M v1 M1 0 0 ∧ Ev none e 235 86 [some (.ref 633), some (.int c), some (.int t), some (.int i), none, none] (v1.toList ++ []) M1 v M' 0 0)) := by
  have H : Ev none e 235 47 [some (.ref 633), some (.int c), some (.int t), some (.int i), none, none] [.ref 633, .int i] M v M' 0 0 := Ev.back 2 (fun n => rfl) H
  have H : Ev none e 235 50 [some (.ref 633), some (.int c), some (.int t), some (.int i), none, none] [.int (zI M 633 3), .int i] M v M' 0 0 := Ev.back 1 (gs_3 rfl rfl (gf_i hS.1 qa_633 qi_61_3 rfl)) H
  have H : Ev none e 235 (if (zI M 633 3) ≤ i then 110 else 53) [some (.ref 633), some (.int c), some (.int t), some (.int i), none, none] [] M v M' 0 0 := Ev.back 1 (fun n => rfl) H
  by_cases h1 : (zI M 633 3) ≤ i
  · rw [if_pos h1] at H
    have HF := H
    exact Or.inl ⟨h1, HF⟩
  · rw [if_neg h1] at H
    have H : Ev none e 235 56 [some (.ref 633), some (.int c), some (.int t), some (.int i), none, none] [.int i, .ref 633, .ref 633] M v M' 0 0 := Ev.back 3 (fun n => rfl) H
    obtain ⟨e1, rfl⟩ := Ev.dpos rfl rfl H
    obtain ⟨vK2, MK2, K2, H⟩ := Ev.callb (fun n_ => gs_7 rfl rfl (show gCal (.invokevirtual 147) 11 (.int i :: .ref 633 :: [.ref 633]) M = some (.inr (142, [some (.ref 633), some (.int i)], [.ref 633])) from by show @cond (Option ((List Value × Mem) ⊕ (Nat × Lo × List Value))) (true && gRecv M (.ref 633) 11 && gRoom [.ref 633] && true) (some (.inr (142, [some (.ref 633), some (.int i)], [.ref 633]))) none = _; rw [recv_s hS.1 qa_633 qo_61]; rfl)) H
    obtain ⟨pK2, qK2⟩ := g_142 hS K2
    rw [pK2, qK2] at H
    have H : Ev none (e1 + 1) 235 59 [some (.ref 633), some (.int c), some (.int t), some (.int i), none, none] [.int (G_142 M i), .ref 633] M v M' 0 0 := H
    obtain ⟨vK3, MK3, K3, H⟩ := Ev.callb (fun n_ => gs_7 rfl rfl (show gCal (.invokevirtual 155) 11 (.int (G_142 M i) :: .ref 633 :: []) M = some (.inr (145, [some (.ref 633), some (.int (G_142 M i))], [])) from by show @cond (Option ((List Value × Mem) ⊕ (Nat × Lo × List Value))) (true && gRecv M (.ref 633) 11 && gRoom [] && true) (some (.inr (145, [some (.ref 633), some (.int (G_142 M i))], []))) none = _; rw [recv_s hS.1 qa_633 qo_61]; rfl)) H
    obtain ⟨pK3, qK3⟩ := g_145 hS K3
    rw [pK3, qK3] at H
    have H : Ev none (e1 + 1) 235 62 [some (.ref 633), some (.int c), some (.int t), some (.int i), none, none] [.int (G_145 M (G_142 M i))] M v M' 0 0 := H
    have H : Ev none (e1 + 1) 235 (if (G_145 M (G_142 M i)) = 0 then 101 else 65) [some (.ref 633), some (.int c), some (.int t), some (.int i), none, none] [] M v M' 0 0 := Ev.back 1 (fun n => rfl) H
    by_cases h4 : (G_145 M (G_142 M i)) = 0
    · rw [if_pos h4] at H
      have H : Ev none (e1 + 1) 235 103 [some (.ref 633), some (.int c), some (.int t), some (.int i), none, none] [.int (-2)] M v M' 0 0 := Ev.back 1 (fun n => rfl) H
      obtain ⟨z1, z2⟩ := Ev.retz rfl rfl H
      exact Or.inr (Or.inl ⟨h1, h4, z1, z2⟩)
    · rw [if_neg h4] at H
      have H : Ev none (e1 + 1) 235 68 [some (.ref 633), some (.int c), some (.int t), some (.int i), none, none] [.int i, .ref 633, .ref 633] M v M' 0 0 := Ev.back 3 (fun n => rfl) H
      obtain ⟨vK5, MK5, K5, H⟩ := Ev.callb (fun n_ => gs_7 rfl rfl (show gCal (.invokevirtual 147) 11 (.int i :: .ref 633 :: [.ref 633]) M = some (.inr (142, [some (.ref 633), some (.int i)], [.ref 633])) from by show @cond (Option ((List Value × Mem) ⊕ (Nat × Lo × List Value))) (true && gRecv M (.ref 633) 11 && gRoom [.ref 633] && true) (some (.inr (142, [some (.ref 633), some (.int i)], [.ref 633]))) none = _; rw [recv_s hS.1 qa_633 qo_61]; rfl)) H
      obtain ⟨pK5, qK5⟩ := g_142 hS K5
      rw [pK5, qK5] at H
      have H : Ev none (e1 + 1) 235 71 [some (.ref 633), some (.int c), some (.int t), some (.int i), none, none] [.int (G_142 M i), .ref 633] M v M' 0 0 := H
      obtain ⟨vK6, MK6, K6, H⟩ := Ev.callb (fun n_ => gs_7 rfl rfl (show gCal (.invokevirtual 158) 11 (.int (G_142 M i) :: .ref 633 :: []) M = some (.inr (148, [some (.ref 633), some (.int (G_142 M i))], [])) from by show @cond (Option ((List Value × Mem) ⊕ (Nat × Lo × List Value))) (true && gRecv M (.ref 633) 11 && gRoom [] && true) (some (.inr (148, [some (.ref 633), some (.int (G_142 M i))], []))) none = _; rw [recv_s hS.1 qa_633 qo_61]; rfl)) H
      obtain ⟨pK6, qK6⟩ := g_148 hS K6
      rw [pK6, qK6] at H
      have H : Ev none (e1 + 1) 235 74 [some (.ref 633), some (.int c), some (.int t), some (.int i), none, none] [.int (G_148 M (G_142 M i))] M v M' 0 0 := H
      have H : Ev none (e1 + 1) 235 (if (G_148 M (G_142 M i)) = 0 then 101 else 77) [some (.ref 633), some (.int c), some (.int t), some (.int i), none, none] [] M v M' 0 0 := Ev.back 1 (fun n => rfl) H
      by_cases h7 : (G_148 M (G_142 M i)) = 0
      · rw [if_pos h7] at H
        have H : Ev none (e1 + 1) 235 103 [some (.ref 633), some (.int c), some (.int t), some (.int i), none, none] [.int (-2)] M v M' 0 0 := Ev.back 1 (fun n => rfl) H
        obtain ⟨z1, z2⟩ := Ev.retz rfl rfl H
        exact Or.inr (Or.inr (Or.inl ⟨h1, h4, h7, z1, z2⟩))
      · rw [if_neg h7] at H
        have H : Ev none (e1 + 1) 235 80 [some (.ref 633), some (.int c), some (.int t), some (.int i), none, none] [.int i, .ref 633, .ref 633] M v M' 0 0 := Ev.back 3 (fun n => rfl) H
        obtain ⟨vK8, MK8, K8, H⟩ := Ev.callb (fun n_ => gs_7 rfl rfl (show gCal (.invokevirtual 147) 11 (.int i :: .ref 633 :: [.ref 633]) M = some (.inr (142, [some (.ref 633), some (.int i)], [.ref 633])) from by show @cond (Option ((List Value × Mem) ⊕ (Nat × Lo × List Value))) (true && gRecv M (.ref 633) 11 && gRoom [.ref 633] && true) (some (.inr (142, [some (.ref 633), some (.int i)], [.ref 633]))) none = _; rw [recv_s hS.1 qa_633 qo_61]; rfl)) H
        obtain ⟨pK8, qK8⟩ := g_142 hS K8
        rw [pK8, qK8] at H
        have H : Ev none (e1 + 1) 235 83 [some (.ref 633), some (.int c), some (.int t), some (.int i), none, none] [.int (G_142 M i), .ref 633] M v M' 0 0 := H
        obtain ⟨vK9, MK9, K9, H⟩ := Ev.callb (fun n_ => gs_7 rfl rfl (show gCal (.invokevirtual 161) 11 (.int (G_142 M i) :: .ref 633 :: []) M = some (.inr (157, [some (.ref 633), some (.int (G_142 M i)), none], [])) from by show @cond (Option ((List Value × Mem) ⊕ (Nat × Lo × List Value))) (true && gRecv M (.ref 633) 11 && gRoom [] && true) (some (.inr (157, [some (.ref 633), some (.int (G_142 M i)), none], []))) none = _; rw [recv_s hS.1 qa_633 qo_61]; rfl)) H
        have K9 : Ev none e1 157 0 [some (.ref 633), some (.int (G_142 M i)), none] [] M vK9 MK9 0 0 := K9
        have HF := H
        exact Or.inr (Or.inr (Or.inr (⟨h1, h4, h7, ⟨e1, vK9, MK9, rfl, K9, HF⟩⟩)))
theorem rfn_86 {e : Nat} {M M' : Mem} {v : Option Value} {c t i r : Int32} (hS : SQ M) (H : Ev none e 235 86 [some (.ref 633), some (.int c), some (.int t), some (.int i), none, none] [.int r] M v M' 0 0) : (r = 0 ∧ (∃ e1 v1 M1, e = e1 + 1 ∧ Ev none e1 158 0 [some (.ref 633), some (.int (G_142 M i)), none] [] M v1 M1 0 0 ∧ Ev none e 235 98 [some (.ref 633), some (.int c), some (.int t), some (.int i), none, none] (v1.toList ++ []) M1 v M' 0 0)) ∨ (¬ (r = 0) ∧ v = some (.int (-2)) ∧ M' = M) := by
  have H : Ev none e 235 (if r = 0 then 89 else 101) [some (.ref 633), some (.int c), some (.int t), some (.int i), none, none] [] M v M' 0 0 := Ev.back 1 (fun n => rfl) H
  by_cases h1 : r = 0
  · rw [if_pos h1] at H
    have H : Ev none e 235 92 [some (.ref 633), some (.int c), some (.int t), some (.int i), none, none] [.int i, .ref 633, .ref 633] M v M' 0 0 := Ev.back 3 (fun n => rfl) H
    obtain ⟨e1, rfl⟩ := Ev.dpos rfl rfl H
    obtain ⟨vK2, MK2, K2, H⟩ := Ev.callb (fun n_ => gs_7 rfl rfl (show gCal (.invokevirtual 147) 11 (.int i :: .ref 633 :: [.ref 633]) M = some (.inr (142, [some (.ref 633), some (.int i)], [.ref 633])) from by show @cond (Option ((List Value × Mem) ⊕ (Nat × Lo × List Value))) (true && gRecv M (.ref 633) 11 && gRoom [.ref 633] && true) (some (.inr (142, [some (.ref 633), some (.int i)], [.ref 633]))) none = _; rw [recv_s hS.1 qa_633 qo_61]; rfl)) H
    obtain ⟨pK2, qK2⟩ := g_142 hS K2
    rw [pK2, qK2] at H
    have H : Ev none (e1 + 1) 235 95 [some (.ref 633), some (.int c), some (.int t), some (.int i), none, none] [.int (G_142 M i), .ref 633] M v M' 0 0 := H
    obtain ⟨vK3, MK3, K3, H⟩ := Ev.callb (fun n_ => gs_7 rfl rfl (show gCal (.invokevirtual 432) 11 (.int (G_142 M i) :: .ref 633 :: []) M = some (.inr (158, [some (.ref 633), some (.int (G_142 M i)), none], [])) from by show @cond (Option ((List Value × Mem) ⊕ (Nat × Lo × List Value))) (true && gRecv M (.ref 633) 11 && gRoom [] && true) (some (.inr (158, [some (.ref 633), some (.int (G_142 M i)), none], []))) none = _; rw [recv_s hS.1 qa_633 qo_61]; rfl)) H
    have K3 : Ev none e1 158 0 [some (.ref 633), some (.int (G_142 M i)), none] [] M vK3 MK3 0 0 := K3
    have HF := H
    exact Or.inl ⟨h1, ⟨e1, vK3, MK3, rfl, K3, HF⟩⟩
  · rw [if_neg h1] at H
    have H : Ev none e 235 103 [some (.ref 633), some (.int c), some (.int t), some (.int i), none, none] [.int (-2)] M v M' 0 0 := Ev.back 1 (fun n => rfl) H
    obtain ⟨z1, z2⟩ := Ev.retz rfl rfl H
    exact Or.inr (⟨h1, z1, z2⟩)
theorem rfn_98 {e : Nat} {M M' : Mem} {v : Option Value} {c t i r : Int32} (hS : SQ M) (H : Ev none e 235 98 [some (.ref 633), some (.int c), some (.int t), some (.int i), none, none] [.int r] M v M' 0 0) : (r = 0 ∧ Ev none e 235 45 [some (.ref 633), some (.int c), some (.int t), some (.int (i + 1)), none, none] [] M v M' 0 0) ∨ (¬ (r = 0) ∧ v = some (.int (-2)) ∧ M' = M) := by
  have H : Ev none e 235 (if r = 0 then 104 else 101) [some (.ref 633), some (.int c), some (.int t), some (.int i), none, none] [] M v M' 0 0 := Ev.back 1 (fun n => rfl) H
  by_cases h1 : r = 0
  · rw [if_pos h1] at H
    have H : Ev none e 235 45 [some (.ref 633), some (.int c), some (.int t), some (.int (i + 1)), none, none] [] M v M' 0 0 := Ev.back 2 (fun n => rfl) H
    have HF := H
    exact Or.inl ⟨h1, HF⟩
  · rw [if_neg h1] at H
    have H : Ev none e 235 103 [some (.ref 633), some (.int c), some (.int t), some (.int i), none, none] [.int (-2)] M v M' 0 0 := Ev.back 1 (fun n => rfl) H
    obtain ⟨z1, z2⟩ := Ev.retz rfl rfl H
    exact Or.inr (⟨h1, z1, z2⟩)
theorem rfn_110 {e : Nat} {M M' : Mem} {v : Option Value} {c t i : Int32} (hS : SQ M) (H : Ev none e 235 110 [some (.ref 633), some (.int c), some (.int t), some (.int i), none, none] [] M v M' 0 0) : (∃ e1 v1 M1, e = e1 + 1 ∧ Ev none e1 233 0 [some (.ref 633), some (.int (-1)), some (.int (-1)), some (.int t), none] [] (wF M 633 40 c) v1 M1 0 0 ∧ Ev none e 235 122 [some (.ref 633), some (.int c), some (.int t), some (.int i), none, none] (v1.toList ++ []) M1 v M' 0 0) := by
  have H : Ev none e 235 112 [some (.ref 633), some (.int c), some (.int t), some (.int i), none, none] [.int c, .ref 633] M v M' 0 0 := Ev.back 2 (fun n => rfl) H
  obtain ⟨N2, eN2⟩ : ∃ N, N = (wF M 633 40 c) := ⟨_, rfl⟩
  have hN2 : SQ N2 := by rw [eN2]; exact hS.kf
  have H : Ev none e 235 115 [some (.ref 633), some (.int c), some (.int t), some (.int i), none, none] [] N2 v M' 0 0 := by rw [eN2]; exact Ev.pfi rfl rfl rfl hS.1 qa_633 qi_61_40 H
  have H : Ev none e 235 119 [some (.ref 633), some (.int c), some (.int t), some (.int i), none, none] [.int t, .int (-1), .int (-1), .ref 633] N2 v M' 0 0 := Ev.back 4 (fun n => rfl) H
  obtain ⟨e1, rfl⟩ := Ev.dpos rfl rfl H
  obtain ⟨vK3, MK3, K3, H⟩ := Ev.callb (fun n_ => gs_7 rfl rfl (show gCal (.invokevirtual 488) 11 (.int t :: .int (-1) :: .int (-1) :: .ref 633 :: []) N2 = some (.inr (233, [some (.ref 633), some (.int (-1)), some (.int (-1)), some (.int t), none], [])) from by show @cond (Option ((List Value × Mem) ⊕ (Nat × Lo × List Value))) (true && gRecv N2 (.ref 633) 11 && gRoom [] && true) (some (.inr (233, [some (.ref 633), some (.int (-1)), some (.int (-1)), some (.int t), none], []))) none = _; rw [recv_s hN2.1 qa_633 qo_61]; rfl)) H
  have K3 : Ev none e1 233 0 [some (.ref 633), some (.int (-1)), some (.int (-1)), some (.int t), none] [] N2 vK3 MK3 0 0 := K3
  have HF := H
  subst eN2
  exact ⟨e1, vK3, MK3, rfl, K3, HF⟩
theorem rfn_122 {e : Nat} {M M' : Mem} {v : Option Value} {c t i r : Int32} (hS : SQ M) (H : Ev none e 235 122 [some (.ref 633), some (.int c), some (.int t), some (.int i), none, none] [.int r] M v M' 0 0) : (r = 0 ∧ Ev none e 235 140 [some (.ref 633), some (.int c), some (.int t), some (.int (A_234 M 0 (-1) (-1))), some (.int 0), none] [] (X_234 M 0 (-1) (-1)) v M' 0 0) ∨ (¬ (r = 0) ∧ Ev none e 235 140 [some (.ref 633), some (.int c), some (.int t), some (.int (-1)), some (.int 0), none] [] M v M' 0 0) := by
  have H : Ev none e 235 (if r = 0 then 129 else 125) [some (.ref 633), some (.int c), some (.int t), some (.int i), none, none] [] M v M' 0 0 := Ev.back 1 (fun n => rfl) H
  by_cases h1 : r = 0
  · rw [if_pos h1] at H
    have H : Ev none e 235 133 [some (.ref 633), some (.int c), some (.int t), some (.int i), none, none] [.int (-1), .int (-1), .int 0, .ref 633] M v M' 0 0 := Ev.back 4 (fun n => rfl) H
    obtain ⟨e1, rfl⟩ := Ev.dpos rfl rfl H
    obtain ⟨vK2, MK2, K2, H⟩ := Ev.callb (fun n_ => gs_7 rfl rfl (show gCal (.invokevirtual 491) 11 (.int (-1) :: .int (-1) :: .int 0 :: .ref 633 :: []) M = some (.inr (234, [some (.ref 633), some (.int 0), some (.int (-1)), some (.int (-1))], [])) from by show @cond (Option ((List Value × Mem) ⊕ (Nat × Lo × List Value))) (true && gRecv M (.ref 633) 11 && gRoom [] && true) (some (.inr (234, [some (.ref 633), some (.int 0), some (.int (-1)), some (.int (-1))], []))) none = _; rw [recv_s hS.1 qa_633 qo_61]; rfl)) H
    obtain ⟨pK2, qK2⟩ := g_234 hS K2
    rw [pK2, qK2] at H
    obtain ⟨N3, eN3⟩ : ∃ N, N = (X_234 M 0 (-1) (-1)) := ⟨_, rfl⟩
    have hN3 : SQ N3 := by rw [eN3]; exact X_234_sx hS
    rw [← eN3] at H
    have H : Ev none (e1 + 1) 235 136 [some (.ref 633), some (.int c), some (.int t), some (.int i), none, none] [.int (A_234 M 0 (-1) (-1))] N3 v M' 0 0 := H
    have H : Ev none (e1 + 1) 235 140 [some (.ref 633), some (.int c), some (.int t), some (.int (A_234 M 0 (-1) (-1))), some (.int 0), none] [] N3 v M' 0 0 := Ev.back 3 (fun n => rfl) H
    have HF := H
    subst eN3
    exact Or.inl ⟨h1, HF⟩
  · rw [if_neg h1] at H
    have H : Ev none e 235 140 [some (.ref 633), some (.int c), some (.int t), some (.int (-1)), some (.int 0), none] [] M v M' 0 0 := Ev.back 5 (fun n => rfl) H
    have HF := H
    exact Or.inr (⟨h1, HF⟩)
theorem rfn_140 {e : Nat} {M M' : Mem} {v : Option Value} {c t f i : Int32} {c5 : Option Value} (hS : SQ M) (H : Ev none e 235 140 [some (.ref 633), some (.int c), some (.int t), some (.int f), some (.int i), c5] [] M v M' 0 0) : ((zI M 633 3) ≤ i ∧ Ev none e 235 190 [some (.ref 633), some (.int c), some (.int t), some (.int f), some (.int 0), c5] [] M v M' 0 0) ∨ (¬ ((zI M 633 3) ≤ i) ∧ 0 ≤ f ∧ Ev none e 235 190 [some (.ref 633), some (.int c), some (.int t), some (.int f), some (.int 0), c5] [] M v M' 0 0) ∨ (¬ ((zI M 633 3) ≤ i) ∧ ¬ (0 ≤ f) ∧ (∃ e1 v1 M1, e = e1 + 1 ∧ Ev none e1 233 0 [some (.ref 633), some (.int (G_142 M i)), some (.int (-1)), some (.int t), none] [] M v1 M1 0 0 ∧ Ev none e 235 165 [some (.ref 633), some (.int c), some (.int t), some (.int f), some (.int i), c5] (v1.toList ++ []) M1 v M' 0 0)) := by
  have H : Ev none e 235 143 [some (.ref 633), some (.int c), some (.int t), some (.int f), some (.int i), c5] [.ref 633, .int i] M v M' 0 0 := Ev.back 2 (fun n => rfl) H
  have H : Ev none e 235 146 [some (.ref 633), some (.int c), some (.int t), some (.int f), some (.int i), c5] [.int (zI M 633 3), .int i] M v M' 0 0 := Ev.back 1 (gs_3 rfl rfl (gf_i hS.1 qa_633 qi_61_3 rfl)) H
  have H : Ev none e 235 (if (zI M 633 3) ≤ i then 187 else 149) [some (.ref 633), some (.int c), some (.int t), some (.int f), some (.int i), c5] [] M v M' 0 0 := Ev.back 1 (fun n => rfl) H
  by_cases h1 : (zI M 633 3) ≤ i
  · rw [if_pos h1] at H
    have H : Ev none e 235 190 [some (.ref 633), some (.int c), some (.int t), some (.int f), some (.int 0), c5] [] M v M' 0 0 := Ev.back 2 (fun n => rfl) H
    have HF := H
    exact Or.inl ⟨h1, HF⟩
  · rw [if_neg h1] at H
    have H : Ev none e 235 (if 0 ≤ f then 187 else 153) [some (.ref 633), some (.int c), some (.int t), some (.int f), some (.int i), c5] [] M v M' 0 0 := Ev.back 2 (fun n => rfl) H
    by_cases h2 : 0 ≤ f
    · rw [if_pos h2] at H
      have H : Ev none e 235 190 [some (.ref 633), some (.int c), some (.int t), some (.int f), some (.int 0), c5] [] M v M' 0 0 := Ev.back 2 (fun n => rfl) H
      have HF := H
      exact Or.inr (Or.inl ⟨h1, h2, HF⟩)
    · rw [if_neg h2] at H
      have H : Ev none e 235 157 [some (.ref 633), some (.int c), some (.int t), some (.int f), some (.int i), c5] [.int i, .ref 633, .ref 633] M v M' 0 0 := Ev.back 3 (fun n => rfl) H
      obtain ⟨e1, rfl⟩ := Ev.dpos rfl rfl H
      obtain ⟨vK3, MK3, K3, H⟩ := Ev.callb (fun n_ => gs_7 rfl rfl (show gCal (.invokevirtual 147) 11 (.int i :: .ref 633 :: [.ref 633]) M = some (.inr (142, [some (.ref 633), some (.int i)], [.ref 633])) from by show @cond (Option ((List Value × Mem) ⊕ (Nat × Lo × List Value))) (true && gRecv M (.ref 633) 11 && gRoom [.ref 633] && true) (some (.inr (142, [some (.ref 633), some (.int i)], [.ref 633]))) none = _; rw [recv_s hS.1 qa_633 qo_61]; rfl)) H
      obtain ⟨pK3, qK3⟩ := g_142 hS K3
      rw [pK3, qK3] at H
      have H : Ev none (e1 + 1) 235 160 [some (.ref 633), some (.int c), some (.int t), some (.int f), some (.int i), c5] [.int (G_142 M i), .ref 633] M v M' 0 0 := H
      have H : Ev none (e1 + 1) 235 162 [some (.ref 633), some (.int c), some (.int t), some (.int f), some (.int i), c5] [.int t, .int (-1), .int (G_142 M i), .ref 633] M v M' 0 0 := Ev.back 2 (fun n => rfl) H
      obtain ⟨vK4, MK4, K4, H⟩ := Ev.callb (fun n_ => gs_7 rfl rfl (show gCal (.invokevirtual 488) 11 (.int t :: .int (-1) :: .int (G_142 M i) :: .ref 633 :: []) M = some (.inr (233, [some (.ref 633), some (.int (G_142 M i)), some (.int (-1)), some (.int t), none], [])) from by show @cond (Option ((List Value × Mem) ⊕ (Nat × Lo × List Value))) (true && gRecv M (.ref 633) 11 && gRoom [] && true) (some (.inr (233, [some (.ref 633), some (.int (G_142 M i)), some (.int (-1)), some (.int t), none], []))) none = _; rw [recv_s hS.1 qa_633 qo_61]; rfl)) H
      have K4 : Ev none e1 233 0 [some (.ref 633), some (.int (G_142 M i)), some (.int (-1)), some (.int t), none] [] M vK4 MK4 0 0 := K4
      have HF := H
      exact Or.inr (Or.inr (⟨h1, h2, ⟨e1, vK4, MK4, rfl, K4, HF⟩⟩))
theorem rfn_165 {e : Nat} {M M' : Mem} {v : Option Value} {c t f i r : Int32} {c5 : Option Value} (hS : SQ M) (H : Ev none e 235 165 [some (.ref 633), some (.int c), some (.int t), some (.int f), some (.int i), c5] [.int r] M v M' 0 0) : (r = 0 ∧ Ev none e 235 140 [some (.ref 633), some (.int c), some (.int t), some (.int (A_234 M 1 (G_142 M i) (-1))), some (.int (i + 1)), c5] [] (X_234 M 1 (G_142 M i) (-1)) v M' 0 0) ∨ (¬ (r = 0) ∧ Ev none e 235 140 [some (.ref 633), some (.int c), some (.int t), some (.int f), some (.int (i + 1)), c5] [] M v M' 0 0) := by
  have H : Ev none e 235 (if r = 0 then 168 else 181) [some (.ref 633), some (.int c), some (.int t), some (.int f), some (.int i), c5] [] M v M' 0 0 := Ev.back 1 (fun n => rfl) H
  by_cases h1 : r = 0
  · rw [if_pos h1] at H
    have H : Ev none e 235 173 [some (.ref 633), some (.int c), some (.int t), some (.int f), some (.int i), c5] [.int i, .ref 633, .int 1, .ref 633] M v M' 0 0 := Ev.back 4 (fun n => rfl) H
    obtain ⟨e1, rfl⟩ := Ev.dpos rfl rfl H
    obtain ⟨vK2, MK2, K2, H⟩ := Ev.callb (fun n_ => gs_7 rfl rfl (show gCal (.invokevirtual 147) 11 (.int i :: .ref 633 :: [.int 1, .ref 633]) M = some (.inr (142, [some (.ref 633), some (.int i)], [.int 1, .ref 633])) from by show @cond (Option ((List Value × Mem) ⊕ (Nat × Lo × List Value))) (true && gRecv M (.ref 633) 11 && gRoom [.int 1, .ref 633] && true) (some (.inr (142, [some (.ref 633), some (.int i)], [.int 1, .ref 633]))) none = _; rw [recv_s hS.1 qa_633 qo_61]; rfl)) H
    obtain ⟨pK2, qK2⟩ := g_142 hS K2
    rw [pK2, qK2] at H
    have H : Ev none (e1 + 1) 235 176 [some (.ref 633), some (.int c), some (.int t), some (.int f), some (.int i), c5] [.int (G_142 M i), .int 1, .ref 633] M v M' 0 0 := H
    have H : Ev none (e1 + 1) 235 177 [some (.ref 633), some (.int c), some (.int t), some (.int f), some (.int i), c5] [.int (-1), .int (G_142 M i), .int 1, .ref 633] M v M' 0 0 := Ev.back 1 (fun n => rfl) H
    obtain ⟨vK3, MK3, K3, H⟩ := Ev.callb (fun n_ => gs_7 rfl rfl (show gCal (.invokevirtual 491) 11 (.int (-1) :: .int (G_142 M i) :: .int 1 :: .ref 633 :: []) M = some (.inr (234, [some (.ref 633), some (.int 1), some (.int (G_142 M i)), some (.int (-1))], [])) from by show @cond (Option ((List Value × Mem) ⊕ (Nat × Lo × List Value))) (true && gRecv M (.ref 633) 11 && gRoom [] && true) (some (.inr (234, [some (.ref 633), some (.int 1), some (.int (G_142 M i)), some (.int (-1))], []))) none = _; rw [recv_s hS.1 qa_633 qo_61]; rfl)) H
    obtain ⟨pK3, qK3⟩ := g_234 hS K3
    rw [pK3, qK3] at H
    obtain ⟨N4, eN4⟩ : ∃ N, N = (X_234 M 1 (G_142 M i) (-1)) := ⟨_, rfl⟩
    have hN4 : SQ N4 := by rw [eN4]; exact X_234_sx hS
    rw [← eN4] at H
    have H : Ev none (e1 + 1) 235 180 [some (.ref 633), some (.int c), some (.int t), some (.int f), some (.int i), c5] [.int (A_234 M 1 (G_142 M i) (-1))] N4 v M' 0 0 := H
    have H : Ev none (e1 + 1) 235 140 [some (.ref 633), some (.int c), some (.int t), some (.int (A_234 M 1 (G_142 M i) (-1))), some (.int (i + 1)), c5] [] N4 v M' 0 0 := Ev.back 3 (fun n => rfl) H
    have HF := H
    subst eN4
    exact Or.inl ⟨h1, HF⟩
  · rw [if_neg h1] at H
    have H : Ev none e 235 140 [some (.ref 633), some (.int c), some (.int t), some (.int f), some (.int (i + 1)), c5] [] M v M' 0 0 := Ev.back 2 (fun n => rfl) H
    have HF := H
    exact Or.inr (⟨h1, HF⟩)
theorem rfn_190 {e : Nat} {M M' : Mem} {v : Option Value} {c t f i : Int32} {c5 : Option Value} (hS : SQ M) (H : Ev none e 235 190 [some (.ref 633), some (.int c), some (.int t), some (.int f), some (.int i), c5] [] M v M' 0 0) : ((zI M 633 3) ≤ i ∧ v = some (.int f) ∧ M' = (wF M 633 40 (-1))) ∨ (¬ ((zI M 633 3) ≤ i) ∧ 0 ≤ f ∧ v = some (.int f) ∧ M' = (wF M 633 40 (-1))) ∨ (¬ ((zI M 633 3) ≤ i) ∧ ¬ (0 ≤ f) ∧ Ev none e 235 209 [some (.ref 633), some (.int c), some (.int t), some (.int f), some (.int i), some (.int (i + 1))] [] M v M' 0 0) := by
  have H : Ev none e 235 193 [some (.ref 633), some (.int c), some (.int t), some (.int f), some (.int i), c5] [.ref 633, .int i] M v M' 0 0 := Ev.back 2 (fun n => rfl) H
  have H : Ev none e 235 196 [some (.ref 633), some (.int c), some (.int t), some (.int f), some (.int i), c5] [.int (zI M 633 3), .int i] M v M' 0 0 := Ev.back 1 (gs_3 rfl rfl (gf_i hS.1 qa_633 qi_61_3 rfl)) H
  have H : Ev none e 235 (if (zI M 633 3) ≤ i then 272 else 199) [some (.ref 633), some (.int c), some (.int t), some (.int f), some (.int i), c5] [] M v M' 0 0 := Ev.back 1 (fun n => rfl) H
  by_cases h1 : (zI M 633 3) ≤ i
  · rw [if_pos h1] at H
    have H : Ev none e 235 274 [some (.ref 633), some (.int c), some (.int t), some (.int f), some (.int i), c5] [.int (-1), .ref 633] M v M' 0 0 := Ev.back 2 (fun n => rfl) H
    obtain ⟨N3, eN3⟩ : ∃ N, N = (wF M 633 40 (-1)) := ⟨_, rfl⟩
    have hN3 : SQ N3 := by rw [eN3]; exact hS.kf
    have H : Ev none e 235 277 [some (.ref 633), some (.int c), some (.int t), some (.int f), some (.int i), c5] [] N3 v M' 0 0 := by rw [eN3]; exact Ev.pfi rfl rfl rfl hS.1 qa_633 qi_61_40 H
    have H : Ev none e 235 278 [some (.ref 633), some (.int c), some (.int t), some (.int f), some (.int i), c5] [.int f] N3 v M' 0 0 := Ev.back 1 (fun n => rfl) H
    obtain ⟨z1, z2⟩ := Ev.retz rfl rfl H
    subst eN3
    exact Or.inl ⟨h1, z1, z2⟩
  · rw [if_neg h1] at H
    have H : Ev none e 235 (if 0 ≤ f then 272 else 203) [some (.ref 633), some (.int c), some (.int t), some (.int f), some (.int i), c5] [] M v M' 0 0 := Ev.back 2 (fun n => rfl) H
    by_cases h4 : 0 ≤ f
    · rw [if_pos h4] at H
      have H : Ev none e 235 274 [some (.ref 633), some (.int c), some (.int t), some (.int f), some (.int i), c5] [.int (-1), .ref 633] M v M' 0 0 := Ev.back 2 (fun n => rfl) H
      obtain ⟨N6, eN6⟩ : ∃ N, N = (wF M 633 40 (-1)) := ⟨_, rfl⟩
      have hN6 : SQ N6 := by rw [eN6]; exact hS.kf
      have H : Ev none e 235 277 [some (.ref 633), some (.int c), some (.int t), some (.int f), some (.int i), c5] [] N6 v M' 0 0 := by rw [eN6]; exact Ev.pfi rfl rfl rfl hS.1 qa_633 qi_61_40 H
      have H : Ev none e 235 278 [some (.ref 633), some (.int c), some (.int t), some (.int f), some (.int i), c5] [.int f] N6 v M' 0 0 := Ev.back 1 (fun n => rfl) H
      obtain ⟨z1, z2⟩ := Ev.retz rfl rfl H
      subst eN6
      exact Or.inr (Or.inl ⟨h1, h4, z1, z2⟩)
    · rw [if_neg h4] at H
      have H : Ev none e 235 209 [some (.ref 633), some (.int c), some (.int t), some (.int f), some (.int i), some (.int (i + 1))] [] M v M' 0 0 := Ev.back 4 (fun n => rfl) H
      have HF := H
      exact Or.inr (Or.inr (⟨h1, h4, HF⟩))
theorem rfn_209 {e : Nat} {M M' : Mem} {v : Option Value} {c t f i j : Int32} (hS : SQ M) (H : Ev none e 235 209 [some (.ref 633), some (.int c), some (.int t), some (.int f), some (.int i), some (.int j)] [] M v M' 0 0) : ((zI M 633 3) ≤ j ∧ Ev none e 235 190 [some (.ref 633), some (.int c), some (.int t), some (.int f), some (.int (i + 1)), some (.int j)] [] M v M' 0 0) ∨ (¬ ((zI M 633 3) ≤ j) ∧ 0 ≤ f ∧ Ev none e 235 190 [some (.ref 633), some (.int c), some (.int t), some (.int f), some (.int (i + 1)), some (.int j)] [] M v M' 0 0) ∨ (¬ ((zI M 633 3) ≤ j) ∧ ¬ (0 ≤ f) ∧ (∃ e1 v1 M1, e = e1 + 1 ∧ Ev none e1 233 0 [some (.ref 633), some (.int (G_142 M i)), some (.int (G_142 M j)), some (.int t), none] [] M v1 M1 0 0 ∧ Ev none e 235 239 [some (.ref 633), some (.int c), some (.int t), some (.int f), some (.int i), some (.int j)] (v1.toList ++ []) M1 v M' 0 0)) := by
  have H : Ev none e 235 212 [some (.ref 633), some (.int c), some (.int t), some (.int f), some (.int i), some (.int j)] [.ref 633, .int j] M v M' 0 0 := Ev.back 2 (fun n => rfl) H
  have H : Ev none e 235 215 [some (.ref 633), some (.int c), some (.int t), some (.int f), some (.int i), some (.int j)] [.int (zI M 633 3), .int j] M v M' 0 0 := Ev.back 1 (gs_3 rfl rfl (gf_i hS.1 qa_633 qi_61_3 rfl)) H
  have H : Ev none e 235 (if (zI M 633 3) ≤ j then 266 else 218) [some (.ref 633), some (.int c), some (.int t), some (.int f), some (.int i), some (.int j)] [] M v M' 0 0 := Ev.back 1 (fun n => rfl) H
  by_cases h1 : (zI M 633 3) ≤ j
  · rw [if_pos h1] at H
    have H : Ev none e 235 190 [some (.ref 633), some (.int c), some (.int t), some (.int f), some (.int (i + 1)), some (.int j)] [] M v M' 0 0 := Ev.back 2 (fun n => rfl) H
    have HF := H
    exact Or.inl ⟨h1, HF⟩
  · rw [if_neg h1] at H
    have H : Ev none e 235 (if 0 ≤ f then 266 else 222) [some (.ref 633), some (.int c), some (.int t), some (.int f), some (.int i), some (.int j)] [] M v M' 0 0 := Ev.back 2 (fun n => rfl) H
    by_cases h2 : 0 ≤ f
    · rw [if_pos h2] at H
      have H : Ev none e 235 190 [some (.ref 633), some (.int c), some (.int t), some (.int f), some (.int (i + 1)), some (.int j)] [] M v M' 0 0 := Ev.back 2 (fun n => rfl) H
      have HF := H
      exact Or.inr (Or.inl ⟨h1, h2, HF⟩)
    · rw [if_neg h2] at H
      have H : Ev none e 235 226 [some (.ref 633), some (.int c), some (.int t), some (.int f), some (.int i), some (.int j)] [.int i, .ref 633, .ref 633] M v M' 0 0 := Ev.back 3 (fun n => rfl) H
      obtain ⟨e1, rfl⟩ := Ev.dpos rfl rfl H
      obtain ⟨vK3, MK3, K3, H⟩ := Ev.callb (fun n_ => gs_7 rfl rfl (show gCal (.invokevirtual 147) 11 (.int i :: .ref 633 :: [.ref 633]) M = some (.inr (142, [some (.ref 633), some (.int i)], [.ref 633])) from by show @cond (Option ((List Value × Mem) ⊕ (Nat × Lo × List Value))) (true && gRecv M (.ref 633) 11 && gRoom [.ref 633] && true) (some (.inr (142, [some (.ref 633), some (.int i)], [.ref 633]))) none = _; rw [recv_s hS.1 qa_633 qo_61]; rfl)) H
      obtain ⟨pK3, qK3⟩ := g_142 hS K3
      rw [pK3, qK3] at H
      have H : Ev none (e1 + 1) 235 229 [some (.ref 633), some (.int c), some (.int t), some (.int f), some (.int i), some (.int j)] [.int (G_142 M i), .ref 633] M v M' 0 0 := H
      have H : Ev none (e1 + 1) 235 232 [some (.ref 633), some (.int c), some (.int t), some (.int f), some (.int i), some (.int j)] [.int j, .ref 633, .int (G_142 M i), .ref 633] M v M' 0 0 := Ev.back 2 (fun n => rfl) H
      obtain ⟨vK4, MK4, K4, H⟩ := Ev.callb (fun n_ => gs_7 rfl rfl (show gCal (.invokevirtual 147) 11 (.int j :: .ref 633 :: [.int (G_142 M i), .ref 633]) M = some (.inr (142, [some (.ref 633), some (.int j)], [.int (G_142 M i), .ref 633])) from by show @cond (Option ((List Value × Mem) ⊕ (Nat × Lo × List Value))) (true && gRecv M (.ref 633) 11 && gRoom [.int (G_142 M i), .ref 633] && true) (some (.inr (142, [some (.ref 633), some (.int j)], [.int (G_142 M i), .ref 633]))) none = _; rw [recv_s hS.1 qa_633 qo_61]; rfl)) H
      obtain ⟨pK4, qK4⟩ := g_142 hS K4
      rw [pK4, qK4] at H
      have H : Ev none (e1 + 1) 235 235 [some (.ref 633), some (.int c), some (.int t), some (.int f), some (.int i), some (.int j)] [.int (G_142 M j), .int (G_142 M i), .ref 633] M v M' 0 0 := H
      have H : Ev none (e1 + 1) 235 236 [some (.ref 633), some (.int c), some (.int t), some (.int f), some (.int i), some (.int j)] [.int t, .int (G_142 M j), .int (G_142 M i), .ref 633] M v M' 0 0 := Ev.back 1 (fun n => rfl) H
      obtain ⟨vK5, MK5, K5, H⟩ := Ev.callb (fun n_ => gs_7 rfl rfl (show gCal (.invokevirtual 488) 11 (.int t :: .int (G_142 M j) :: .int (G_142 M i) :: .ref 633 :: []) M = some (.inr (233, [some (.ref 633), some (.int (G_142 M i)), some (.int (G_142 M j)), some (.int t), none], [])) from by show @cond (Option ((List Value × Mem) ⊕ (Nat × Lo × List Value))) (true && gRecv M (.ref 633) 11 && gRoom [] && true) (some (.inr (233, [some (.ref 633), some (.int (G_142 M i)), some (.int (G_142 M j)), some (.int t), none], []))) none = _; rw [recv_s hS.1 qa_633 qo_61]; rfl)) H
      have K5 : Ev none e1 233 0 [some (.ref 633), some (.int (G_142 M i)), some (.int (G_142 M j)), some (.int t), none] [] M vK5 MK5 0 0 := K5
      have HF := H
      exact Or.inr (Or.inr (⟨h1, h2, ⟨e1, vK5, MK5, rfl, K5, HF⟩⟩))
theorem rfn_239 {e : Nat} {M M' : Mem} {v : Option Value} {c t f i j r : Int32} (hS : SQ M) (H : Ev none e 235 239 [some (.ref 633), some (.int c), some (.int t), some (.int f), some (.int i), some (.int j)] [.int r] M v M' 0 0) : (r = 0 ∧ Ev none e 235 209 [some (.ref 633), some (.int c), some (.int t), some (.int (A_234 M 2 (G_142 M i) (G_142 M j))), some (.int i), some (.int (j + 1))] [] (X_234 M 2 (G_142 M i) (G_142 M j)) v M' 0 0) ∨ (¬ (r = 0) ∧ Ev none e 235 209 [some (.ref 633), some (.int c), some (.int t), some (.int f), some (.int i), some (.int (j + 1))] [] M v M' 0 0) := by
  have H : Ev none e 235 (if r = 0 then 242 else 260) [some (.ref 633), some (.int c), some (.int t), some (.int f), some (.int i), some (.int j)] [] M v M' 0 0 := Ev.back 1 (fun n => rfl) H
  by_cases h1 : r = 0
  · rw [if_pos h1] at H
    have H : Ev none e 235 247 [some (.ref 633), some (.int c), some (.int t), some (.int f), some (.int i), some (.int j)] [.int i, .ref 633, .int 2, .ref 633] M v M' 0 0 := Ev.back 4 (fun n => rfl) H
    obtain ⟨e1, rfl⟩ := Ev.dpos rfl rfl H
    obtain ⟨vK2, MK2, K2, H⟩ := Ev.callb (fun n_ => gs_7 rfl rfl (show gCal (.invokevirtual 147) 11 (.int i :: .ref 633 :: [.int 2, .ref 633]) M = some (.inr (142, [some (.ref 633), some (.int i)], [.int 2, .ref 633])) from by show @cond (Option ((List Value × Mem) ⊕ (Nat × Lo × List Value))) (true && gRecv M (.ref 633) 11 && gRoom [.int 2, .ref 633] && true) (some (.inr (142, [some (.ref 633), some (.int i)], [.int 2, .ref 633]))) none = _; rw [recv_s hS.1 qa_633 qo_61]; rfl)) H
    obtain ⟨pK2, qK2⟩ := g_142 hS K2
    rw [pK2, qK2] at H
    have H : Ev none (e1 + 1) 235 250 [some (.ref 633), some (.int c), some (.int t), some (.int f), some (.int i), some (.int j)] [.int (G_142 M i), .int 2, .ref 633] M v M' 0 0 := H
    have H : Ev none (e1 + 1) 235 253 [some (.ref 633), some (.int c), some (.int t), some (.int f), some (.int i), some (.int j)] [.int j, .ref 633, .int (G_142 M i), .int 2, .ref 633] M v M' 0 0 := Ev.back 2 (fun n => rfl) H
    obtain ⟨vK3, MK3, K3, H⟩ := Ev.callb (fun n_ => gs_7 rfl rfl (show gCal (.invokevirtual 147) 11 (.int j :: .ref 633 :: [.int (G_142 M i), .int 2, .ref 633]) M = some (.inr (142, [some (.ref 633), some (.int j)], [.int (G_142 M i), .int 2, .ref 633])) from by show @cond (Option ((List Value × Mem) ⊕ (Nat × Lo × List Value))) (true && gRecv M (.ref 633) 11 && gRoom [.int (G_142 M i), .int 2, .ref 633] && true) (some (.inr (142, [some (.ref 633), some (.int j)], [.int (G_142 M i), .int 2, .ref 633]))) none = _; rw [recv_s hS.1 qa_633 qo_61]; rfl)) H
    obtain ⟨pK3, qK3⟩ := g_142 hS K3
    rw [pK3, qK3] at H
    have H : Ev none (e1 + 1) 235 256 [some (.ref 633), some (.int c), some (.int t), some (.int f), some (.int i), some (.int j)] [.int (G_142 M j), .int (G_142 M i), .int 2, .ref 633] M v M' 0 0 := H
    obtain ⟨vK4, MK4, K4, H⟩ := Ev.callb (fun n_ => gs_7 rfl rfl (show gCal (.invokevirtual 491) 11 (.int (G_142 M j) :: .int (G_142 M i) :: .int 2 :: .ref 633 :: []) M = some (.inr (234, [some (.ref 633), some (.int 2), some (.int (G_142 M i)), some (.int (G_142 M j))], [])) from by show @cond (Option ((List Value × Mem) ⊕ (Nat × Lo × List Value))) (true && gRecv M (.ref 633) 11 && gRoom [] && true) (some (.inr (234, [some (.ref 633), some (.int 2), some (.int (G_142 M i)), some (.int (G_142 M j))], []))) none = _; rw [recv_s hS.1 qa_633 qo_61]; rfl)) H
    obtain ⟨pK4, qK4⟩ := g_234 hS K4
    rw [pK4, qK4] at H
    obtain ⟨N5, eN5⟩ : ∃ N, N = (X_234 M 2 (G_142 M i) (G_142 M j)) := ⟨_, rfl⟩
    have hN5 : SQ N5 := by rw [eN5]; exact X_234_sx hS
    rw [← eN5] at H
    have H : Ev none (e1 + 1) 235 259 [some (.ref 633), some (.int c), some (.int t), some (.int f), some (.int i), some (.int j)] [.int (A_234 M 2 (G_142 M i) (G_142 M j))] N5 v M' 0 0 := H
    have H : Ev none (e1 + 1) 235 209 [some (.ref 633), some (.int c), some (.int t), some (.int (A_234 M 2 (G_142 M i) (G_142 M j))), some (.int i), some (.int (j + 1))] [] N5 v M' 0 0 := Ev.back 3 (fun n => rfl) H
    have HF := H
    subst eN5
    exact Or.inl ⟨h1, HF⟩
  · rw [if_neg h1] at H
    have H : Ev none e 235 209 [some (.ref 633), some (.int c), some (.int t), some (.int f), some (.int i), some (.int (j + 1))] [] M v M' 0 0 := Ev.back 2 (fun n => rfl) H
    have HF := H
    exact Or.inr (⟨h1, HF⟩)
theorem rls_0 {e : Nat} {M M' : Mem} {v : Option Value} {k c ws t : Int32} (hS : SQ M) (H : Ev none e 237 0 [some (.ref 633), some (.int k), some (.int c), some (.int ws), some (.int t), none, none] [] M v M' 0 0) : ((G_189 (wF M 633 0 0) k) = 0 ∧ v = some (.int (-2)) ∧ M' = (wF M 633 0 0)) ∨ (¬ ((G_189 (wF M 633 0 0) k) = 0) ∧ (G_145 (wF M 633 0 0) c) = 0 ∧ v = some (.int (-2)) ∧ M' = (wF M 633 0 0)) ∨ (¬ ((G_189 (wF M 633 0 0) k) = 0) ∧ ¬ ((G_145 (wF M 633 0 0) c) = 0) ∧ (G_140 (wF M 633 0 0) ws 1 40) = 0 ∧ v = some (.int (-2)) ∧ M' = (wF M 633 0 0)) ∨ (¬ ((G_189 (wF M 633 0 0) k) = 0) ∧ ¬ ((G_145 (wF M 633 0 0) c) = 0) ∧ ¬ ((G_140 (wF M 633 0 0) ws 1 40) = 0) ∧ (G_140 (wF M 633 0 0) t 1 200) = 0 ∧ v = some (.int (-2)) ∧ M' = (wF M 633 0 0)) ∨ (¬ ((G_189 (wF M 633 0 0) k) = 0) ∧ ¬ ((G_145 (wF M 633 0 0) c) = 0) ∧ ¬ ((G_140 (wF M 633 0 0) ws 1 40) = 0) ∧ ¬ ((G_140 (wF M 633 0 0) t 1 200) = 0) ∧ (G_150 (wF M 633 0 0) c) = 0 ∧ v = some (.int 0) ∧ M' = (wF M 633 0 0)) ∨ (¬ ((G_189 (wF M 633 0 0) k) = 0) ∧ ¬ ((G_145 (wF M 633 0 0) c) = 0) ∧ ¬ ((G_140 (wF M 633 0 0) ws 1 40) = 0) ∧ ¬ ((G_140 (wF M 633 0 0) t 1 200) = 0) ∧ ¬ ((G_150 (wF M 633 0 0) c) = 0) ∧ (∃ e1 v1 M1, e = e1 + 1 ∧ Ev none e1 153 0 [some (.ref 633), none] [] (wF M 633 0 0) v1 M1 0 0 ∧ Ev none e 237 60 [some (.ref 633), some (.int k), some (.int c), some (.int ws), some (.int t), none, none] (v1.toList ++ []) M1 v M' 0 0)) := by
  have H : Ev none e 237 2 [some (.ref 633), some (.int k), some (.int c), some (.int ws), some (.int t), none, none] [.int 0, .ref 633] M v M' 0 0 := Ev.back 2 (fun n => rfl) H
  obtain ⟨N2, eN2⟩ : ∃ N, N = (wF M 633 0 0) := ⟨_, rfl⟩
  have hN2 : SQ N2 := by rw [eN2]; exact hS.kf
  have H : Ev none e 237 5 [some (.ref 633), some (.int k), some (.int c), some (.int ws), some (.int t), none, none] [] N2 v M' 0 0 := by rw [eN2]; exact Ev.pfi rfl rfl rfl hS.1 qa_633 qi_61_0 H
  have H : Ev none e 237 7 [some (.ref 633), some (.int k), some (.int c), some (.int ws), some (.int t), none, none] [.int k, .ref 633] N2 v M' 0 0 := Ev.back 2 (fun n => rfl) H
  obtain ⟨e1, rfl⟩ := Ev.dpos rfl rfl H
  obtain ⟨vK3, MK3, K3, H⟩ := Ev.callb (fun n_ => gs_7 rfl rfl (show gCal (.invokevirtual 344) 11 (.int k :: .ref 633 :: []) N2 = some (.inr (189, [some (.ref 633), some (.int k)], [])) from by show @cond (Option ((List Value × Mem) ⊕ (Nat × Lo × List Value))) (true && gRecv N2 (.ref 633) 11 && gRoom [] && true) (some (.inr (189, [some (.ref 633), some (.int k)], []))) none = _; rw [recv_s hN2.1 qa_633 qo_61]; rfl)) H
  obtain ⟨pK3, qK3⟩ := g_189 hN2 K3
  rw [pK3, qK3] at H
  have H : Ev none (e1 + 1) 237 10 [some (.ref 633), some (.int k), some (.int c), some (.int ws), some (.int t), none, none] [.int (G_189 N2 k)] N2 v M' 0 0 := H
  have H : Ev none (e1 + 1) 237 (if (G_189 N2 k) = 0 then 43 else 13) [some (.ref 633), some (.int k), some (.int c), some (.int ws), some (.int t), none, none] [] N2 v M' 0 0 := Ev.back 1 (fun n => rfl) H
  by_cases h4 : (G_189 N2 k) = 0
  · rw [if_pos h4] at H
    have H : Ev none (e1 + 1) 237 45 [some (.ref 633), some (.int k), some (.int c), some (.int ws), some (.int t), none, none] [.int (-2)] N2 v M' 0 0 := Ev.back 1 (fun n => rfl) H
    obtain ⟨z1, z2⟩ := Ev.retz rfl rfl H
    subst eN2
    exact Or.inl ⟨h4, z1, z2⟩
  · rw [if_neg h4] at H
    have H : Ev none (e1 + 1) 237 15 [some (.ref 633), some (.int k), some (.int c), some (.int ws), some (.int t), none, none] [.int c, .ref 633] N2 v M' 0 0 := Ev.back 2 (fun n => rfl) H
    obtain ⟨vK5, MK5, K5, H⟩ := Ev.callb (fun n_ => gs_7 rfl rfl (show gCal (.invokevirtual 155) 11 (.int c :: .ref 633 :: []) N2 = some (.inr (145, [some (.ref 633), some (.int c)], [])) from by show @cond (Option ((List Value × Mem) ⊕ (Nat × Lo × List Value))) (true && gRecv N2 (.ref 633) 11 && gRoom [] && true) (some (.inr (145, [some (.ref 633), some (.int c)], []))) none = _; rw [recv_s hN2.1 qa_633 qo_61]; rfl)) H
    obtain ⟨pK5, qK5⟩ := g_145 hN2 K5
    rw [pK5, qK5] at H
    have H : Ev none (e1 + 1) 237 18 [some (.ref 633), some (.int k), some (.int c), some (.int ws), some (.int t), none, none] [.int (G_145 N2 c)] N2 v M' 0 0 := H
    have H : Ev none (e1 + 1) 237 (if (G_145 N2 c) = 0 then 43 else 21) [some (.ref 633), some (.int k), some (.int c), some (.int ws), some (.int t), none, none] [] N2 v M' 0 0 := Ev.back 1 (fun n => rfl) H
    by_cases h6 : (G_145 N2 c) = 0
    · rw [if_pos h6] at H
      have H : Ev none (e1 + 1) 237 45 [some (.ref 633), some (.int k), some (.int c), some (.int ws), some (.int t), none, none] [.int (-2)] N2 v M' 0 0 := Ev.back 1 (fun n => rfl) H
      obtain ⟨z1, z2⟩ := Ev.retz rfl rfl H
      subst eN2
      exact Or.inr (Or.inl ⟨h4, h6, z1, z2⟩)
    · rw [if_neg h6] at H
      have H : Ev none (e1 + 1) 237 25 [some (.ref 633), some (.int k), some (.int c), some (.int ws), some (.int t), none, none] [.int 40, .int 1, .int ws] N2 v M' 0 0 := Ev.back 3 (fun n => rfl) H
      obtain ⟨vK7, MK7, K7, H⟩ := Ev.callb (fun n => rfl) H
      obtain ⟨pK7, qK7⟩ := g_140 hN2 K7
      rw [pK7, qK7] at H
      have H : Ev none (e1 + 1) 237 28 [some (.ref 633), some (.int k), some (.int c), some (.int ws), some (.int t), none, none] [.int (G_140 N2 ws 1 40)] N2 v M' 0 0 := H
      have H : Ev none (e1 + 1) 237 (if (G_140 N2 ws 1 40) = 0 then 43 else 31) [some (.ref 633), some (.int k), some (.int c), some (.int ws), some (.int t), none, none] [] N2 v M' 0 0 := Ev.back 1 (fun n => rfl) H
      by_cases h8 : (G_140 N2 ws 1 40) = 0
      · rw [if_pos h8] at H
        have H : Ev none (e1 + 1) 237 45 [some (.ref 633), some (.int k), some (.int c), some (.int ws), some (.int t), none, none] [.int (-2)] N2 v M' 0 0 := Ev.back 1 (fun n => rfl) H
        obtain ⟨z1, z2⟩ := Ev.retz rfl rfl H
        subst eN2
        exact Or.inr (Or.inr (Or.inl ⟨h4, h6, h8, z1, z2⟩))
      · rw [if_neg h8] at H
        have H : Ev none (e1 + 1) 237 37 [some (.ref 633), some (.int k), some (.int c), some (.int ws), some (.int t), none, none] [.int 200, .int 1, .int t] N2 v M' 0 0 := Ev.back 3 (fun n => rfl) H
        obtain ⟨vK9, MK9, K9, H⟩ := Ev.callb (fun n => rfl) H
        obtain ⟨pK9, qK9⟩ := g_140 hN2 K9
        rw [pK9, qK9] at H
        have H : Ev none (e1 + 1) 237 40 [some (.ref 633), some (.int k), some (.int c), some (.int ws), some (.int t), none, none] [.int (G_140 N2 t 1 200)] N2 v M' 0 0 := H
        have H : Ev none (e1 + 1) 237 (if (G_140 N2 t 1 200) = 0 then 43 else 46) [some (.ref 633), some (.int k), some (.int c), some (.int ws), some (.int t), none, none] [] N2 v M' 0 0 := Ev.back 1 (fun n => rfl) H
        by_cases h10 : (G_140 N2 t 1 200) = 0
        · rw [if_pos h10] at H
          have H : Ev none (e1 + 1) 237 45 [some (.ref 633), some (.int k), some (.int c), some (.int ws), some (.int t), none, none] [.int (-2)] N2 v M' 0 0 := Ev.back 1 (fun n => rfl) H
          obtain ⟨z1, z2⟩ := Ev.retz rfl rfl H
          subst eN2
          exact Or.inr (Or.inr (Or.inr (Or.inl ⟨h4, h6, h8, h10, z1, z2⟩)))
        · rw [if_neg h10] at H
          have H : Ev none (e1 + 1) 237 48 [some (.ref 633), some (.int k), some (.int c), some (.int ws), some (.int t), none, none] [.int c, .ref 633] N2 v M' 0 0 := Ev.back 2 (fun n => rfl) H
          obtain ⟨vK11, MK11, K11, H⟩ := Ev.callb (fun n_ => gs_7 rfl rfl (show gCal (.invokevirtual 140) 11 (.int c :: .ref 633 :: []) N2 = some (.inr (150, [some (.ref 633), some (.int c)], [])) from by show @cond (Option ((List Value × Mem) ⊕ (Nat × Lo × List Value))) (true && gRecv N2 (.ref 633) 11 && gRoom [] && true) (some (.inr (150, [some (.ref 633), some (.int c)], []))) none = _; rw [recv_s hN2.1 qa_633 qo_61]; rfl)) H
          obtain ⟨pK11, qK11⟩ := g_150 hN2 K11
          rw [pK11, qK11] at H
          have H : Ev none (e1 + 1) 237 51 [some (.ref 633), some (.int k), some (.int c), some (.int ws), some (.int t), none, none] [.int (G_150 N2 c)] N2 v M' 0 0 := H
          have H : Ev none (e1 + 1) 237 (if (G_150 N2 c) = 0 then 54 else 56) [some (.ref 633), some (.int k), some (.int c), some (.int ws), some (.int t), none, none] [] N2 v M' 0 0 := Ev.back 1 (fun n => rfl) H
          by_cases h12 : (G_150 N2 c) = 0
          · rw [if_pos h12] at H
            have H : Ev none (e1 + 1) 237 55 [some (.ref 633), some (.int k), some (.int c), some (.int ws), some (.int t), none, none] [.int 0] N2 v M' 0 0 := Ev.back 1 (fun n => rfl) H
            obtain ⟨z1, z2⟩ := Ev.retz rfl rfl H
            subst eN2
            exact Or.inr (Or.inr (Or.inr (Or.inr (Or.inl ⟨h4, h6, h8, h10, h12, z1, z2⟩))))
          · rw [if_neg h12] at H
            have H : Ev none (e1 + 1) 237 57 [some (.ref 633), some (.int k), some (.int c), some (.int ws), some (.int t), none, none] [.ref 633] N2 v M' 0 0 := Ev.back 1 (fun n => rfl) H
            obtain ⟨vK13, MK13, K13, H⟩ := Ev.callb (fun n_ => gs_7 rfl rfl (show gCal (.invokevirtual 445) 11 (.ref 633 :: []) N2 = some (.inr (153, [some (.ref 633), none], [])) from by show @cond (Option ((List Value × Mem) ⊕ (Nat × Lo × List Value))) (true && gRecv N2 (.ref 633) 11 && gRoom [] && true) (some (.inr (153, [some (.ref 633), none], []))) none = _; rw [recv_s hN2.1 qa_633 qo_61]; rfl)) H
            have K13 : Ev none e1 153 0 [some (.ref 633), none] [] N2 vK13 MK13 0 0 := K13
            have HF := H
            subst eN2
            exact Or.inr (Or.inr (Or.inr (Or.inr (Or.inr (⟨h4, h6, h8, h10, h12, ⟨e1, vK13, MK13, rfl, K13, HF⟩⟩)))))
theorem rls_60 {e : Nat} {M M' : Mem} {v : Option Value} {k c ws t : Int32} (hS : SQ M) (H : Ev none e 237 60 [some (.ref 633), some (.int k), some (.int c), some (.int ws), some (.int t), none, none] [] M v M' 0 0) : (0 ≤ ((13 + (6 * k)) + 5).toInt ∧ ((13 + (6 * k)) + 5).toInt < 2314) ∧ Ev none e 237 81 [some (.ref 633), some (.int k), some (.int c), some (.int ws), some (.int t), some (.int (-1)), some (.int 1)] [] (wI M 635 (((13 + (6 * k)) + 5).toNatClampNeg) 0) v M' 0 0 := by
  have H : Ev none e 237 61 [some (.ref 633), some (.int k), some (.int c), some (.int ws), some (.int t), none, none] [.ref 633] M v M' 0 0 := Ev.back 1 (fun n => rfl) H
  have H : Ev none e 237 64 [some (.ref 633), some (.int k), some (.int c), some (.int ws), some (.int t), none, none] [.ref 635] M v M' 0 0 := Ev.back 1 (gs_3 rfl rfl (gf_u hS.1 qa_633 qr_61_5 qu_63 rfl)) H
  have H : Ev none e 237 74 [some (.ref 633), some (.int k), some (.int c), some (.int ws), some (.int t), none, none] [.int 0, .int ((13 + (6 * k)) + 5), .ref 635] M v M' 0 0 := Ev.back 8 (fun n => rfl) H
  obtain ⟨b1, H⟩ := Ev.ias rfl rfl hS.1 qa_635 qw_63 H
  obtain ⟨N2, eN2⟩ : ∃ N, N = (wI M 635 (((13 + (6 * k)) + 5).toNatClampNeg) 0) := ⟨_, rfl⟩
  have hN2 : SQ N2 := by rw [eN2]; exact hS.ki
  have H : Ev none e 237 75 [some (.ref 633), some (.int k), some (.int c), some (.int ws), some (.int t), none, none] [] N2 v M' 0 0 := by rw [eN2]; exact H
  have H : Ev none e 237 81 [some (.ref 633), some (.int k), some (.int c), some (.int ws), some (.int t), some (.int (-1)), some (.int 1)] [] N2 v M' 0 0 := Ev.back 4 (fun n => rfl) H
  have HF := H
  subst eN2
  exact ⟨b1, HF⟩
theorem rls_81 {e : Nat} {M M' : Mem} {v : Option Value} {k c ws t f n : Int32} (hS : SQ M) (H : Ev none e 237 81 [some (.ref 633), some (.int k), some (.int c), some (.int ws), some (.int t), some (.int f), some (.int n)] [] M v M' 0 0) : (ws < n ∧ (∃ e1 v1 M1, e = e1 + 1 ∧ Ev none e1 154 0 [some (.ref 633), none] [] M v1 M1 0 0 ∧ Ev none e 237 120 [some (.ref 633), some (.int k), some (.int c), some (.int ws), some (.int t), some (.int f), some (.int n)] (v1.toList ++ []) M1 v M' 0 0)) ∨ (¬ (ws < n) ∧ 0 ≤ f ∧ (∃ e1 v1 M1, e = e1 + 1 ∧ Ev none e1 154 0 [some (.ref 633), none] [] M v1 M1 0 0 ∧ Ev none e 237 120 [some (.ref 633), some (.int k), some (.int c), some (.int ws), some (.int t), some (.int f), some (.int n)] (v1.toList ++ []) M1 v M' 0 0)) ∨ (¬ (ws < n) ∧ ¬ (0 ≤ f) ∧ (∃ e1 v1 M1, e = e1 + 1 ∧ Ev none e1 222 0 [some (.ref 633), some (.int t), none] [] M v1 M1 0 0 ∧ Ev none e 237 98 [some (.ref 633), some (.int k), some (.int c), some (.int ws), some (.int t), some (.int f), some (.int n)] (v1.toList ++ []) M1 v M' 0 0)) := by
  have H : Ev none e 237 (if ws < n then 116 else 87) [some (.ref 633), some (.int k), some (.int c), some (.int ws), some (.int t), some (.int f), some (.int n)] [] M v M' 0 0 := Ev.back 3 (fun n => rfl) H
  by_cases h1 : ws < n
  · rw [if_pos h1] at H
    have H : Ev none e 237 117 [some (.ref 633), some (.int k), some (.int c), some (.int ws), some (.int t), some (.int f), some (.int n)] [.ref 633] M v M' 0 0 := Ev.back 1 (fun n => rfl) H
    obtain ⟨e1, rfl⟩ := Ev.dpos rfl rfl H
    obtain ⟨vK2, MK2, K2, H⟩ := Ev.callb (fun n_ => gs_7 rfl rfl (show gCal (.invokevirtual 459) 11 (.ref 633 :: []) M = some (.inr (154, [some (.ref 633), none], [])) from by show @cond (Option ((List Value × Mem) ⊕ (Nat × Lo × List Value))) (true && gRecv M (.ref 633) 11 && gRoom [] && true) (some (.inr (154, [some (.ref 633), none], []))) none = _; rw [recv_s hS.1 qa_633 qo_61]; rfl)) H
    have K2 : Ev none e1 154 0 [some (.ref 633), none] [] M vK2 MK2 0 0 := K2
    have HF := H
    exact Or.inl ⟨h1, ⟨e1, vK2, MK2, rfl, K2, HF⟩⟩
  · rw [if_neg h1] at H
    have H : Ev none e 237 (if 0 ≤ f then 116 else 92) [some (.ref 633), some (.int k), some (.int c), some (.int ws), some (.int t), some (.int f), some (.int n)] [] M v M' 0 0 := Ev.back 2 (fun n => rfl) H
    by_cases h3 : 0 ≤ f
    · rw [if_pos h3] at H
      have H : Ev none e 237 117 [some (.ref 633), some (.int k), some (.int c), some (.int ws), some (.int t), some (.int f), some (.int n)] [.ref 633] M v M' 0 0 := Ev.back 1 (fun n => rfl) H
      obtain ⟨e1, rfl⟩ := Ev.dpos rfl rfl H
      obtain ⟨vK4, MK4, K4, H⟩ := Ev.callb (fun n_ => gs_7 rfl rfl (show gCal (.invokevirtual 459) 11 (.ref 633 :: []) M = some (.inr (154, [some (.ref 633), none], [])) from by show @cond (Option ((List Value × Mem) ⊕ (Nat × Lo × List Value))) (true && gRecv M (.ref 633) 11 && gRoom [] && true) (some (.inr (154, [some (.ref 633), none], []))) none = _; rw [recv_s hS.1 qa_633 qo_61]; rfl)) H
      have K4 : Ev none e1 154 0 [some (.ref 633), none] [] M vK4 MK4 0 0 := K4
      have HF := H
      exact Or.inr (Or.inl ⟨h1, h3, ⟨e1, vK4, MK4, rfl, K4, HF⟩⟩)
    · rw [if_neg h3] at H
      have H : Ev none e 237 95 [some (.ref 633), some (.int k), some (.int c), some (.int ws), some (.int t), some (.int f), some (.int n)] [.int t, .ref 633] M v M' 0 0 := Ev.back 2 (fun n => rfl) H
      obtain ⟨e1, rfl⟩ := Ev.dpos rfl rfl H
      obtain ⟨vK5, MK5, K5, H⟩ := Ev.callb (fun n_ => gs_7 rfl rfl (show gCal (.invokevirtual 452) 11 (.int t :: .ref 633 :: []) M = some (.inr (222, [some (.ref 633), some (.int t), none], [])) from by show @cond (Option ((List Value × Mem) ⊕ (Nat × Lo × List Value))) (true && gRecv M (.ref 633) 11 && gRoom [] && true) (some (.inr (222, [some (.ref 633), some (.int t), none], []))) none = _; rw [recv_s hS.1 qa_633 qo_61]; rfl)) H
      have K5 : Ev none e1 222 0 [some (.ref 633), some (.int t), none] [] M vK5 MK5 0 0 := K5
      have HF := H
      exact Or.inr (Or.inr (⟨h1, h3, ⟨e1, vK5, MK5, rfl, K5, HF⟩⟩))
theorem rls_98 {e : Nat} {M M' : Mem} {v : Option Value} {k c ws t f n : Int32} (hS : SQ M) (H : Ev none e 237 98 [some (.ref 633), some (.int k), some (.int c), some (.int ws), some (.int t), some (.int f), some (.int n)] [] M v M' 0 0) : ((G_150 M c) = 0 ∧ Ev none e 237 81 [some (.ref 633), some (.int k), some (.int c), some (.int ws), some (.int t), some (.int n), some (.int (n + 1))] [] M v M' 0 0) ∨ (¬ ((G_150 M c) = 0) ∧ Ev none e 237 81 [some (.ref 633), some (.int k), some (.int c), some (.int ws), some (.int t), some (.int f), some (.int (n + 1))] [] M v M' 0 0) := by
  have H : Ev none e 237 100 [some (.ref 633), some (.int k), some (.int c), some (.int ws), some (.int t), some (.int f), some (.int n)] [.int c, .ref 633] M v M' 0 0 := Ev.back 2 (fun n => rfl) H
  obtain ⟨e1, rfl⟩ := Ev.dpos rfl rfl H
  obtain ⟨vK1, MK1, K1, H⟩ := Ev.callb (fun n_ => gs_7 rfl rfl (show gCal (.invokevirtual 140) 11 (.int c :: .ref 633 :: []) M = some (.inr (150, [some (.ref 633), some (.int c)], [])) from by show @cond (Option ((List Value × Mem) ⊕ (Nat × Lo × List Value))) (true && gRecv M (.ref 633) 11 && gRoom [] && true) (some (.inr (150, [some (.ref 633), some (.int c)], []))) none = _; rw [recv_s hS.1 qa_633 qo_61]; rfl)) H
  obtain ⟨pK1, qK1⟩ := g_150 hS K1
  rw [pK1, qK1] at H
  have H : Ev none (e1 + 1) 237 103 [some (.ref 633), some (.int k), some (.int c), some (.int ws), some (.int t), some (.int f), some (.int n)] [.int (G_150 M c)] M v M' 0 0 := H
  have H : Ev none (e1 + 1) 237 (if (G_150 M c) = 0 then 106 else 110) [some (.ref 633), some (.int k), some (.int c), some (.int ws), some (.int t), some (.int f), some (.int n)] [] M v M' 0 0 := Ev.back 1 (fun n => rfl) H
  by_cases h2 : (G_150 M c) = 0
  · rw [if_pos h2] at H
    have H : Ev none (e1 + 1) 237 81 [some (.ref 633), some (.int k), some (.int c), some (.int ws), some (.int t), some (.int n), some (.int (n + 1))] [] M v M' 0 0 := Ev.back 4 (fun n => rfl) H
    have HF := H
    exact Or.inl ⟨h2, HF⟩
  · rw [if_neg h2] at H
    have H : Ev none (e1 + 1) 237 81 [some (.ref 633), some (.int k), some (.int c), some (.int ws), some (.int t), some (.int f), some (.int (n + 1))] [] M v M' 0 0 := Ev.back 2 (fun n => rfl) H
    have HF := H
    exact Or.inr (⟨h2, HF⟩)
theorem rls_120 {e : Nat} {M M' : Mem} {v : Option Value} {k c ws t f n : Int32} (hS : SQ M) (H : Ev none e 237 120 [some (.ref 633), some (.int k), some (.int c), some (.int ws), some (.int t), some (.int f), some (.int n)] [] M v M' 0 0) : v = some (.int f) ∧ M' = M := by
  have H : Ev none e 237 122 [some (.ref 633), some (.int k), some (.int c), some (.int ws), some (.int t), some (.int f), some (.int n)] [.int f] M v M' 0 0 := Ev.back 1 (fun n => rfl) H
  obtain ⟨z1, z2⟩ := Ev.retz rfl rfl H
  exact ⟨z1, z2⟩
/-! THE CASES, in themselves; the reference's weeks -/
noncomputable def samB (g : TQ) (P Q : PK) : Nat → Int32 → Bool
  | 0, _ => true
  | k + 1, c => if wrnB g P c = wrnB g Q c then samB g P Q k (c + 1) else false
/-- the NETS are alike -/
noncomputable def samN (g : TQ) (P Q : PK) : Bool := samB g P Q (clsP P) 0
noncomputable def restL (T : TS) (t : Nat) : Nat → Int32 → PK → Int32
  | 0, _, _ => -1
  | n + 1, w, P => if samN (T 0) P (wksP T t P) = true then w else restL T t n (w + 1) (wksP T t P)
noncomputable def wkN (T : TS) (t : Nat) : Nat → PK → PK
  | 0, P => P
  | n + 1, P => wkN T t n (wksP T t P)
noncomputable def lasL (T : TS) (t : Nat) (c : Int32) : Nat → Int32 → PK → Int32
  | 0, n, P => if wrnB (T 0) P c = true then -1 else n
  | k + 1, n, P => if wrnB (T 0) P c = true then lasL T t c k (n + 1) (wksP T t P) else n
/-- n in the place of a line's NUMBER -/
noncomputable def lnN (q : TQ) (i : Nat) (n : Int32) : TQ := (q.1, q.2.modify i (fun l => (l.1, l.2.1, n, l.2.2.2.1, l.2.2.2.2)))
noncomputable def setT (T : TS) (h i : Nat) (n : Int32) : TS := fun j => if j = h then lnN (T h) i n else T j
noncomputable def turL (T : TS) (h i t w : Nat) (m : Int32) (P : PK) : Nat → Int32 → Int32
  | 0, _ => -1
  | k + 1, n => if nwP (T 0) (wkN (setT T h i n) t w P) ≤ m then n else turL T h i t w m P k (n + 1)
noncomputable def fen1 (P : PK) (a : Int32) : PK := if 0 ≤ a then layP P a 6 else P
noncomputable def fenP (P : PK) (a b : Int32) : PK := fen1 (fen1 P a) b
/-- somebody steps on it -/
noncomputable def trodB (T : TS) (P : PK) (c : Int32) (t : Nat) (a b : Int32) : Bool := decide (c ∈ (gofP T c t (fenP P a b, [])).2)
/-- how many CELLS the one NET has that the other has not -/
noncomputable def aloP2 (g : TQ) (P Q : PK) : Nat → Int32 → Int32 → Int32
  | 0, _, n => n
  | k + 1, c, n => aloP2 g P Q k (c + 1) (n + (if wrnB g P c = true ∧ wrnB g Q c = false then 1 else 0))
section RTRI
variable {e B : Nat} {T : TS} {P P' Q : PK} {M M0 M1 M' : Mem} {v : Option Value} {c k d x a b t y : Int32} {w dd : Int32} {f0 : Bool} {n i j : Nat}
theorem wek_K {g : TQ} (hD : okD P) (hK : okK P) : okD (wekP g P) ∧ okK (wekP g P) := by
  have lo := wek_lo (g := g) hD.1
  have hs : hiS P (wekP g P) := lo
  exact ⟨hs.D hD, hs.K hK⟩
theorem tks_K : ∀ (r : Nat) (p : PS), okD p.1 → okK p.1 → okD (tksP T r p).1 ∧ okK (tksP T r p).1 := by
  intro r
  induction r with
  | zero => intro p h1 h2; exact ⟨h1, h2⟩
  | succ r ih =>
    intro p h1 h2
    obtain ⟨d1, k1⟩ := tck_keep (T := T) h1 h2
    exact ih (tckP T p) d1 k1
theorem wks_K {t : Nat} (hD : okD P) (hK : okK P) : okD (wksP T t P) ∧ okK (wksP T t P) := by
  obtain ⟨d1, k1⟩ := tks_K (T := T) t (P, []) hD hK
  exact wek_K d1 k1
/-- the size stays -/
theorem tks_0 : ∀ (r : Nat) (p : PS), okD p.1 → okK p.1 → ∀ j, j < 157 → (tksP T r p).1 j = p.1 j := by
  intro r
  induction r with
  | zero => intro p _ _ j _; rfl
  | succ r ih =>
    intro p h1 h2 j hj
    obtain ⟨d1, k1⟩ := tck_keep (T := T) h1 h2
    refine (ih (tckP T p) d1 k1 j hj).trans ?_
    obtain ⟨P, ss⟩ := p
    have h1 : okD P := h1
    have h2 : okK P := h2
    have h12 := h1.2.2.1
    have bk := beg_keep (P 12).toInt.toNat 0 P h2.1 h2.2.1
    have hK1 : okK (bg0P P) := beg_K (P 12).toInt.toNat 0 P h1 h2 (by omega)
    have hD1 : okD (bg0P P) := h1.sb (fun j hj => bk j (Or.inl hj))
    obtain ⟨_, _, q3⟩ := wlk_518 (T := T) (bg0P P 157).toInt.toNat 0 (bg0P P) ss hD1 hK1 (by have := hK1.1; omega)
    unfold tckP
    dsimp only
    rw [up_ne (by omega), q3 j hj]
    exact bk j (Or.inl hj)
theorem wks_0 {t : Nat} (hD : okD P) (hK : okK P) : ∀ j, j < 157 → wksP T t P j = P j := fun j hj => by
  obtain ⟨d1, k1⟩ := tks_K (T := T) t (P, []) hD hK
  exact (wek_lo d1.1 j (by omega)).trans (tks_0 t (P, []) hD hK j hj)
theorem wks_cls {t : Nat} (hD : okD P) (hK : okK P) : clsP (wksP T t P) = clsP P := cls_eq (wks_0 hD hK 0 (by decide)) (wks_0 hD hK 1 (by decide))
theorem rgo_l : ∀ (r k : Nat) (iz : Int32) (P : PK) (ss : List Int32) (M : Mem), RST T P M → okD P → okK P → WFr w f0 ss M → ARn dd P M → iz.toInt = (k : Int) → t.toInt = (k : Int) + (r : Int) → Ev none e 222 2 [some (.ref 633), some (.int t), some (.int iz)] [] M v M' 0 0 → v = none ∧ RST T (wekP (T 0) (tksP T r (P, ss)).1) M' ∧ FZ rkF rkW noO M M' ∧ WFr w f0 (tksP T r (P, ss)).2 M' := by
  intro r
  induction r with
  | zero =>
    intro k iz P ss M hR hD hK hf ha hk hn H
    rcases rgq_2 hR.1 H with ⟨_, e1, v1, M1, _, H1, H⟩ | ⟨a1, _⟩
    · obtain ⟨rv, q2, q3, q4⟩ := rwek_ok hR hD.1 H1
      rw [rv] at H
      obtain ⟨r1, r2⟩ := rgq_21 q2.1 H
      rw [r2]
      exact ⟨r1, q2, q3, ⟨(q4 40).trans hf.1, (q4 42).trans hf.2⟩⟩
    · exact absurd (Int32.le_iff_toInt_le.mpr (by omega)) a1
  | succ r ih =>
    intro k iz P ss M hR hD hK hf ha hk hn H
    have ub := i32_any t
    rcases rgq_2 hR.1 H with ⟨a1, _⟩ | ⟨_, e1, v1, M1, _, H1, H⟩
    · have := Int32.le_iff_toInt_le.mp a1
      omega
    · obtain ⟨rv, q2, q3, q4, q5, q6, q7, q8⟩ := rtick_ok hR hD hK hf ha H1
      rw [rv] at H
      have H := rgq_11 q2.1 H
      obtain ⟨s1, s2, s3, s4⟩ := ih (k + 1) (iz + 1) (tckP T (P, ss)).1 (tckP T (P, ss)).2 M1 q2 q3 q4 q6 q7 (by rw [i32_p1 (by omega)]; omega) (by omega) H
      exact ⟨s1, s2, q5.trans s3, s4⟩
/-- a trial's state -/
def RTR (T : TS) (P P0 : PK) (M : Mem) : Prop := RST T P M ∧ okD P ∧ okK P ∧ (∃ b, zI M 633 42 = bI b) ∧ ∀ j, j < 2314 → rN M 637 j = P0 j
theorem rgo_ok {P0 : PK} (h : RTR T P P0 M) (ht : t.toInt = (n : Int)) (H : Ev none e 222 0 [some (.ref 633), some (.int t), none] [] M v M' 0 0) : v = none ∧ RTR T (wksP T n P) P0 M' ∧ FZ rkF rkW noO M M' := by
  obtain ⟨hR, hD, hK, ⟨b, hb⟩, h9⟩ := h
  have hf : WFr (zI M 633 40) b [] M := ⟨rfl, by rw [hb, decide_eq_false (by simp), Bool.or_false]⟩
  have ha : ARn (zI M 633 41 - P 519) P M := by unfold ARn; grind
  obtain ⟨s1, s2, s3, s4⟩ := rgo_l n 0 0 P [] M hR hD hK hf ha rfl (by omega) (rgq_0 hR.1 H)
  obtain ⟨d1, k1⟩ := wks_K (T := T) (t := n) hD hK
  exact ⟨s1, ⟨s2, d1, k1, ⟨_, s4.2⟩, fun j hj => by rw [s3.rn (by unfold rkW; decide)]; exact h9 j hj⟩, s3⟩
theorem RTR.nt {P0 : PK} {r : Nat} (h : RTR T P P0 M) (hS : SQ M') (hF : FZ noF (fun a => a = r) noO M M') (hr : 650 ≤ r) : RTR T P P0 M' := ⟨h.1.fz hS hF (fun _ _ _ q => q) (fun a ha q => by omega), h.2.1, h.2.2.1, by obtain ⟨b, hb⟩ := h.2.2.2.1; exact ⟨b, (hF.fi (fun q => q)).trans hb⟩, fun j hj => (hF.rn (by omega)).trans (h.2.2.2.2 j hj)⟩
theorem RTR.mk0 (hR : RST T P M) (hD : okD P) (hK : okK P) (hb : ∃ b, zI M 633 42 = bI b) (H : Ev none e 153 0 [some (.ref 633), none] [] M v M' 0 0) : v = none ∧ RTR T P P M' ∧ FZ noF (fun a => a = 637) noO M M' := by
  obtain ⟨r1, r2, r3, r4⟩ := las_ok hR H
  obtain ⟨b, hb⟩ := hb
  exact ⟨r1, ⟨r2, hD, hK, ⟨b, (r4.fi (fun q => q)).trans hb⟩, r3⟩, r4⟩
theorem RTR.bk {P0 : PK} (h : RTR T P P0 M) (H : Ev none e 154 0 [some (.ref 633), none] [] M v M' 0 0) : v = none ∧ RST T P0 M' ∧ FZ noF (fun a => a = 635) noO M M' := lbk_ok h.1 h.2.2.2.2 H
theorem nar_bI (b : Bool) : vp_nar .boolean (bI b) = bI b := by cases b <;> decide
theorem ntb_l (hw : wh4 P) : ∀ (n : Nat) (c : Int32) (M : Mem), RST T P M → 0 ≤ c.toInt → c.toInt + (n : Int) = (clsP P : Int) → Ev none e 220 2 [some (.ref 633), some (.ref 651), some (.int c)] [] M v M' 0 0 → v = none ∧ SQ M' ∧ FZ noF (fun a => a = 651) noO M M' ∧ (∀ x : Int32, c.toInt ≤ x.toInt → x.toInt < (clsP P : Int) → rI M' 651 x = bI (wrnB (T 0) P x)) ∧ ∀ x : Int32, 0 ≤ x.toInt → x.toInt < c.toInt → rI M' 651 x = rI M 651 x := by
  obtain ⟨_, c256, _⟩ := cls_int hw
  intro n
  induction n with
  | zero =>
    intro c M hR hc hn H
    have hg := g144_ok hR hw
    rcases ntb_2 hR.1 H with ⟨_, r1, r2⟩ | ⟨a1, _⟩
    · subst r2
      exact ⟨r1, hR.1, FZ.refl _, fun x h1 h2 => by omega, fun _ _ _ => rfl⟩
    · exact absurd (Int32.le_iff_toInt_le.mpr (by omega)) a1
  | succ n ih =>
    intro c M hR hc hn H
    have hg := g144_ok hR hw
    have hcin : inC P c := ⟨hc, by omega⟩
    have e1 : (c + 1).toInt = c.toInt + 1 := i32_p1 (by omega)
    rcases ntb_2 hR.1 H with ⟨a1, _⟩ | ⟨_, _, H⟩
    · have := Int32.le_iff_toInt_le.mp a1
      omega
    · rw [g150_ok hR hw hcin, nar_bI] at H
      have hF : FZ noF (fun a => a = 651) noO M (wI M 651 c.toNatClampNeg (bI (wrnB (T 0) P c))) := FZ.wI (W := fun a => a = 651) rfl
      have len : (zrw M 651).length = 256 := (hR.1.1.row qa_651 qw_79).2
      have ec : c.toNatClampNeg = c.toInt.toNat := cl_n (by omega)
      obtain ⟨r1, r2, r3, r4, r5⟩ := ih (c + 1) _ (hR.fz hR.1.ki hF (fun _ _ _ q => q) (fun a ha q => by omega)) (by omega) (by omega) H
      refine ⟨r1, r2, hF.trans r3, fun x h1 h2 => ?_, fun x h1 h2 => ?_⟩
      · by_cases hx : x = c
        · rw [hx, r5 c hc (by omega)]
          exact rN_wI_eq (by rw [ec]; omega)
        · have hne : x.toInt ≠ c.toInt := fun q => hx (Int32.toInt_inj.mp q)
          exact r4 x (by omega) h2
      · rw [r5 x h1 (by omega)]
        have ex : x.toNatClampNeg = x.toInt.toNat := cl_n (by omega)
        exact rN_wI_ne (fun q => by rw [ex, ec] at q; omega)
theorem ntb_ok {P0 : PK} (h : RTR T P P0 M) (H : Ev none e 220 0 [some (.ref 633), some (.ref 651), none] [] M v M' 0 0) : v = none ∧ RTR T P P0 M' ∧ FZ noF (fun a => a = 651) noO M M' ∧ ∀ x, inC P x → rI M' 651 x = bI (wrnB (T 0) P x) := by
  have z0 : (0 : Int32).toInt = 0 := rfl
  obtain ⟨r1, r2, r3, r4, _⟩ := ntb_l h.2.1.1 (clsP P) 0 M h.1 (by decide) (by omega) (ntb_0 h.1.1 H)
  exact ⟨r1, h.nt r2 r3 (by decide), r3, fun x hx => r4 x (by have := hx.1; omega) (by have := hx.1; have := hx.2; omega)⟩
theorem ntd_l (hw : wh4 P) : ∀ (n : Nat) (c : Int32) (M : Mem), RST T P M → 0 ≤ c.toInt → c.toInt + (n : Int) = (clsP P : Int) → Ev none e 220 2 [some (.ref 633), some (.ref 652), some (.int c)] [] M v M' 0 0 → v = none ∧ SQ M' ∧ FZ noF (fun a => a = 652) noO M M' ∧ (∀ x : Int32, c.toInt ≤ x.toInt → x.toInt < (clsP P : Int) → rI M' 652 x = bI (wrnB (T 0) P x)) ∧ ∀ x : Int32, 0 ≤ x.toInt → x.toInt < c.toInt → rI M' 652 x = rI M 652 x := by
  obtain ⟨_, c256, _⟩ := cls_int hw
  intro n
  induction n with
  | zero =>
    intro c M hR hc hn H
    have hg := g144_ok hR hw
    rcases ntd_2 hR.1 H with ⟨_, r1, r2⟩ | ⟨a1, _⟩
    · subst r2
      exact ⟨r1, hR.1, FZ.refl _, fun x h1 h2 => by omega, fun _ _ _ => rfl⟩
    · exact absurd (Int32.le_iff_toInt_le.mpr (by omega)) a1
  | succ n ih =>
    intro c M hR hc hn H
    have hg := g144_ok hR hw
    have hcin : inC P c := ⟨hc, by omega⟩
    have e1 : (c + 1).toInt = c.toInt + 1 := i32_p1 (by omega)
    rcases ntd_2 hR.1 H with ⟨a1, _⟩ | ⟨_, _, H⟩
    · have := Int32.le_iff_toInt_le.mp a1
      omega
    · rw [g150_ok hR hw hcin, nar_bI] at H
      have hF : FZ noF (fun a => a = 652) noO M (wI M 652 c.toNatClampNeg (bI (wrnB (T 0) P c))) := FZ.wI (W := fun a => a = 652) rfl
      have len : (zrw M 652).length = 256 := (hR.1.1.row qa_652 qw_80).2
      have ec : c.toNatClampNeg = c.toInt.toNat := cl_n (by omega)
      obtain ⟨r1, r2, r3, r4, r5⟩ := ih (c + 1) _ (hR.fz hR.1.ki hF (fun _ _ _ q => q) (fun a ha q => by omega)) (by omega) (by omega) H
      refine ⟨r1, r2, hF.trans r3, fun x h1 h2 => ?_, fun x h1 h2 => ?_⟩
      · by_cases hx : x = c
        · rw [hx, r5 c hc (by omega)]
          exact rN_wI_eq (by rw [ec]; omega)
        · have hne : x.toInt ≠ c.toInt := fun q => hx (Int32.toInt_inj.mp q)
          exact r4 x (by omega) h2
      · rw [r5 x h1 (by omega)]
        have ex : x.toNatClampNeg = x.toInt.toNat := cl_n (by omega)
        exact rN_wI_ne (fun q => by rw [ex, ec] at q; omega)
theorem ntd_ok {P0 : PK} (h : RTR T P P0 M) (H : Ev none e 220 0 [some (.ref 633), some (.ref 652), none] [] M v M' 0 0) : v = none ∧ RTR T P P0 M' ∧ FZ noF (fun a => a = 652) noO M M' ∧ ∀ x, inC P x → rI M' 652 x = bI (wrnB (T 0) P x) := by
  have z0 : (0 : Int32).toInt = 0 := rfl
  obtain ⟨r1, r2, r3, r4, _⟩ := ntd_l h.2.1.1 (clsP P) 0 M h.1 (by decide) (by omega) (ntd_0 h.1.1 H)
  exact ⟨r1, h.nt r2 r3 (by decide), r3, fun x hx => r4 x (by have := hx.1; omega) (by have := hx.1; have := hx.2; omega)⟩
theorem nte_l (hw : wh4 P) : ∀ (n : Nat) (c : Int32) (M : Mem), RST T P M → 0 ≤ c.toInt → c.toInt + (n : Int) = (clsP P : Int) → Ev none e 220 2 [some (.ref 633), some (.ref 653), some (.int c)] [] M v M' 0 0 → v = none ∧ SQ M' ∧ FZ noF (fun a => a = 653) noO M M' ∧ (∀ x : Int32, c.toInt ≤ x.toInt → x.toInt < (clsP P : Int) → rI M' 653 x = bI (wrnB (T 0) P x)) ∧ ∀ x : Int32, 0 ≤ x.toInt → x.toInt < c.toInt → rI M' 653 x = rI M 653 x := by
  obtain ⟨_, c256, _⟩ := cls_int hw
  intro n
  induction n with
  | zero =>
    intro c M hR hc hn H
    have hg := g144_ok hR hw
    rcases nte_2 hR.1 H with ⟨_, r1, r2⟩ | ⟨a1, _⟩
    · subst r2
      exact ⟨r1, hR.1, FZ.refl _, fun x h1 h2 => by omega, fun _ _ _ => rfl⟩
    · exact absurd (Int32.le_iff_toInt_le.mpr (by omega)) a1
  | succ n ih =>
    intro c M hR hc hn H
    have hg := g144_ok hR hw
    have hcin : inC P c := ⟨hc, by omega⟩
    have e1 : (c + 1).toInt = c.toInt + 1 := i32_p1 (by omega)
    rcases nte_2 hR.1 H with ⟨a1, _⟩ | ⟨_, _, H⟩
    · have := Int32.le_iff_toInt_le.mp a1
      omega
    · rw [g150_ok hR hw hcin, nar_bI] at H
      have hF : FZ noF (fun a => a = 653) noO M (wI M 653 c.toNatClampNeg (bI (wrnB (T 0) P c))) := FZ.wI (W := fun a => a = 653) rfl
      have len : (zrw M 653).length = 256 := (hR.1.1.row qa_653 qw_81).2
      have ec : c.toNatClampNeg = c.toInt.toNat := cl_n (by omega)
      obtain ⟨r1, r2, r3, r4, r5⟩ := ih (c + 1) _ (hR.fz hR.1.ki hF (fun _ _ _ q => q) (fun a ha q => by omega)) (by omega) (by omega) H
      refine ⟨r1, r2, hF.trans r3, fun x h1 h2 => ?_, fun x h1 h2 => ?_⟩
      · by_cases hx : x = c
        · rw [hx, r5 c hc (by omega)]
          exact rN_wI_eq (by rw [ec]; omega)
        · have hne : x.toInt ≠ c.toInt := fun q => hx (Int32.toInt_inj.mp q)
          exact r4 x (by omega) h2
      · rw [r5 x h1 (by omega)]
        have ex : x.toNatClampNeg = x.toInt.toNat := cl_n (by omega)
        exact rN_wI_ne (fun q => by rw [ex, ec] at q; omega)
theorem nte_ok {P0 : PK} (h : RTR T P P0 M) (H : Ev none e 220 0 [some (.ref 633), some (.ref 653), none] [] M v M' 0 0) : v = none ∧ RTR T P P0 M' ∧ FZ noF (fun a => a = 653) noO M M' ∧ ∀ x, inC P x → rI M' 653 x = bI (wrnB (T 0) P x) := by
  have z0 : (0 : Int32).toInt = 0 := rfl
  obtain ⟨r1, r2, r3, r4, _⟩ := nte_l h.2.1.1 (clsP P) 0 M h.1 (by decide) (by omega) (nte_0 h.1.1 H)
  exact ⟨r1, h.nt r2 r3 (by decide), r3, fun x hx => r4 x (by have := hx.1; omega) (by have := hx.1; have := hx.2; omega)⟩
theorem inq_l {R : PK} (hR : RST T P M) (hw : wh4 P) (hb : ∀ x, inC P x → rI M 651 x = bI (wrnB (T 0) R x)) : ∀ (n : Nat) (c : Int32), 0 ≤ c.toInt → c.toInt + (n : Int) = (clsP P : Int) → Ev none e 221 2 [some (.ref 633), some (.ref 651), some (.int c)] [] M v M' 0 0 → M' = M ∧ v = some (.int (bI (samB (T 0) R P n c))) := by
  obtain ⟨_, c256, _⟩ := cls_int hw
  have hg := g144_ok hR hw
  intro n
  induction n with
  | zero =>
    intro c hc hn H
    rcases inq_2 hR.1 H with ⟨_, r1, r2⟩ | ⟨a1, _⟩ | ⟨a1, _⟩
    · exact ⟨r2, r1⟩
    all_goals exact absurd (Int32.le_iff_toInt_le.mpr (by omega)) a1
  | succ n ih =>
    intro c hc hn H
    have hcin : inC P c := ⟨hc, by omega⟩
    have e1 : (c + 1).toInt = c.toInt + 1 := i32_p1 (by omega)
    have inj : ∀ x y : Bool, bI x = bI y ↔ x = y := by decide
    unfold samB
    rcases inq_2 hR.1 H with ⟨a1, _⟩ | ⟨_, a2, _, H⟩ | ⟨_, a2, _, r1, r2⟩
    · have := Int32.le_iff_toInt_le.mp a1
      omega
    · rw [hb c hcin, g150_ok hR hw hcin, inj] at a2
      rw [if_pos a2]
      exact ih (c + 1) (by omega) (by omega) H
    · rw [hb c hcin, g150_ok hR hw hcin, inj] at a2
      rw [if_neg a2]
      exact ⟨r2, r1⟩
/-- rests -/
theorem rrs_l {P0 : PK} (hn : t.toInt = (n : Int)) (k40 : k.toInt ≤ 40) : ∀ (r : Nat) (wz f : Int32) (P : PK) (M : Mem), RTR T P P0 M → wz.toInt + (r : Int) = k.toInt + 1 → 1 ≤ wz.toInt → Ev none e 223 38 [some (.ref 633), some (.int k), some (.int t), some (.int (-1)), some (.int wz)] [] M v M' 0 0 → v = some (.int (restL T n r wz P)) ∧ RST T P0 M' := by
  have uk := i32_any k
  have tm : (-1 : Int32).toInt = -1 := rfl
  have z0 : (0 : Int32).toInt = 0 := rfl
  intro r
  induction r with
  | zero =>
    intro wz f P M h hw h1 H
    rcases rrs_38 h.1.1 H with ⟨_, e1, v1, M1, _, H1, H⟩ | ⟨a1, _⟩ | ⟨a1, _⟩
    · obtain ⟨rv, q1, _⟩ := h.bk H1
      rw [rv] at H
      obtain ⟨r1, r2⟩ := rrs_85 q1.1 H
      exact ⟨r1, r2 ▸ q1⟩
    all_goals exact absurd (Int32.lt_iff_toInt_lt.mpr (by omega)) a1
  | succ r ih =>
    intro wz f P M h hw h1 H
    rcases rrs_38 h.1.1 H with ⟨a1, _⟩ | ⟨_, a1, _⟩ | ⟨_, _, e1, v1, M1, _, H1, H⟩
    · have := Int32.lt_iff_toInt_lt.mp a1
      omega
    · have := Int32.le_iff_toInt_le.mp a1
      omega
    · obtain ⟨rv, q1, q2, q3⟩ := ntb_ok h H1
      rw [rv] at H
      obtain ⟨e2, v2, M2, _, H2, H⟩ := rrs_56 q1.1.1 H
      obtain ⟨rv2, s1, s2⟩ := rgo_ok q1 hn H2
      rw [rv2] at H
      obtain ⟨e3, v3, M3, _, H3, H⟩ := rrs_61 s1.1.1 H
      have hcl := wks_cls (T := T) (t := n) h.2.1 h.2.2.1
      have hw2 := s1.2.1.1
      have hb : ∀ x, inC (wksP T n P) x → rI M2 651 x = bI (wrnB (T 0) P x) := fun x hx => by
        have hx2 : inC P x := ⟨hx.1, by rw [← hcl]; exact hx.2⟩
        have : rI M2 651 x = rI M1 651 x := s2.rn (by unfold rkW; decide)
        rw [this]
        exact q3 x hx2
      obtain ⟨rm, rv3⟩ := inq_l s1.1 hw2 hb (clsP (wksP T n P)) 0 (by decide) (by omega) (inq_0 s1.1.1 H3)
      rw [rv3, rm] at H
      have e1' : (wz + 1).toInt = wz.toInt + 1 := i32_p1 (by omega)
      have es : samB (T 0) P (wksP T n P) (clsP (wksP T n P)) 0 = samN (T 0) P (wksP T n P) := by unfold samN; rw [hcl]
      rw [es] at H
      unfold restL
      rcases rrs_69 s1.1.1 H with ⟨a1, H⟩ | ⟨a1, H⟩
      · rw [bI_0] at a1
        rw [if_neg (by rw [a1]; decide)]
        exact ih (wz + 1) f _ M2 s1 (by omega) (by omega) H
      · rw [bI_0, Bool.not_eq_false] at a1
        rw [if_pos a1]
        have hg : ∀ (cc : Prop), (∃ e1 v1 M1, e = e1 + 1 ∧ Ev none e1 154 0 [some (.ref 633), none] [] M2 v1 M1 0 0 ∧ Ev none e 223 85 [some (.ref 633), some (.int k), some (.int t), some (.int wz), some (.int (wz + 1))] (v1.toList ++ []) M1 v M' 0 0) → v = some (.int wz) ∧ RST T P0 M' := fun _ ⟨e4, v4, M4, _, H4, H⟩ => by
          obtain ⟨rv4, u1, _⟩ := s1.bk H4
          rw [rv4] at H
          obtain ⟨r1, r2⟩ := rrs_85 u1.1 H
          exact ⟨r1, r2 ▸ u1⟩
        rcases rrs_38 s1.1.1 H with ⟨_, H⟩ | ⟨_, _, H⟩ | ⟨_, a2, _⟩
        · exact hg True H
        · exact hg True H
        · exact absurd (Int32.le_iff_toInt_le.mpr (by omega)) a2
def rstN (k t : Int32) : Prop := ¬ inX k 1 40 ∨ ¬ inX t 1 200
theorem rrests_ok (hR : RST T P M) (hD : okD P) (hK : okK P) (hb : ∃ b, zI M 633 42 = bI b) (H : Ev none e 223 0 [some (.ref 633), some (.int k), some (.int t), none, none] [] M v M' 0 0) : (rstN k t ∧ v = some (.int (-2)) ∧ RST T P M') ∨ (¬ rstN k t ∧ v = some (.int (restL T t.toInt.toNat k.toInt.toNat 1 P)) ∧ RST T P M') := by
  have h0 := hR.w0 0 (by decide) 0
  have hb0 : ∃ b, zI (wF M 633 0 0) 633 42 = bI b := by
    obtain ⟨b, hb⟩ := hb
    exact ⟨b, by rw [fI_wF_ne (by decide)]; exact hb⟩
  unfold rstN
  rcases rrs_0 hR.1 H with ⟨a1, r1, r2⟩ | ⟨_, a1, r1, r2⟩ | ⟨a1, a2, e1, v1, M1, _, H1, H⟩
  · rw [g140_R] at a1
    exact Or.inl ⟨Or.inl a1, r1, r2 ▸ h0⟩
  · rw [g140_R] at a1
    exact Or.inl ⟨Or.inr a1, r1, r2 ▸ h0⟩
  · rw [g140_R, Classical.not_not] at a1 a2
    obtain ⟨rv, q1, _⟩ := RTR.mk0 h0 hD hK hb0 H1
    rw [rv] at H
    have t1 : (1 : Int32).toInt = 1 := rfl
    unfold inX at a1 a2
    obtain ⟨r1, r2⟩ := rrs_l (n := t.toInt.toNat) (k := k) (by omega) a1.2 k.toInt.toNat 1 0 P M1 q1 (by omega) (by decide) (rrs_33 q1.1.1 H)
    refine Or.inr ⟨fun q => ?_, r1, r2⟩
    unfold inX at q
    omega
end RTRI
/-! THE REFERENCE'S lasts, isTrod -/
section RTRJ
variable {e B : Nat} {T : TS} {P P' P0 Q : PK} {M M0 M1 M' : Mem} {v : Option Value} {c k d x a b t y : Int32} {w dd : Int32} {f0 : Bool} {n i j : Nat}
theorem g189_0 (h : RST T P M) (hD : okD P) : G_189 M k = 0 ↔ ¬ isW P k := by
  rw [← g189_ok h hD]
  unfold G_189
  split
  · exact ⟨fun _ q => absurd q (by decide), fun _ => rfl⟩
  · split
    · exact ⟨fun q => absurd q (by decide), fun q => absurd rfl q⟩
    · exact ⟨fun _ q => absurd q (by decide), fun _ => rfl⟩
theorem RTR.d0 {P0 : PK} (h : RTR T P P0 M) (hQ : okD Q) (hK : okK Q) (hR : RST T Q M') (hF : FZ noF (fun a => a = 635) noO M M') : RTR T Q P0 M' := ⟨hR, hQ, hK, by obtain ⟨b, hb⟩ := h.2.2.2.1; exact ⟨b, (hF.fi (fun q => q)).trans hb⟩, fun j hj => (hF.rn (by decide)).trans (h.2.2.2.2 j hj)⟩
theorem rls_l {P0 : PK} (hn : t.toInt = (n : Int)) (hc0 : inC P0 c) (k40 : y.toInt ≤ 40) : ∀ (r : Nat) (wz : Int32) (P : PK) (M : Mem), RTR T P P0 M → P 0 = P0 0 → P 1 = P0 1 → wrnB (T 0) P c = true → wz.toInt + (r : Int) = y.toInt + 1 → 1 ≤ wz.toInt → Ev none e 237 81 [some (.ref 633), some (.int k), some (.int c), some (.int y), some (.int t), some (.int (-1)), some (.int wz)] [] M v M' 0 0 → v = some (.int (lasL T n c r (wz - 1) P)) ∧ RST T P0 M' := by
  have uk := i32_any y
  have tm : (-1 : Int32).toInt = -1 := rfl
  have z0 : (0 : Int32).toInt = 0 := rfl
  intro r
  induction r with
  | zero =>
    intro wz P M h p0 p1 hwn hw h1 H
    rcases rls_81 h.1.1 H with ⟨_, e1, v1, M1, _, H1, H⟩ | ⟨a1, _⟩ | ⟨a1, _⟩
    · obtain ⟨rv, q1, _⟩ := h.bk H1
      rw [rv] at H
      obtain ⟨r1, r2⟩ := rls_120 q1.1 H
      unfold lasL
      rw [if_pos hwn]
      exact ⟨r1, r2 ▸ q1⟩
    all_goals exact absurd (Int32.lt_iff_toInt_lt.mpr (by omega)) a1
  | succ r ih =>
    intro wz P M h p0 p1 hwn hw h1 H
    rcases rls_81 h.1.1 H with ⟨a1, _⟩ | ⟨_, a1, _⟩ | ⟨_, _, e1, v1, M1, _, H1, H⟩
    · have := Int32.lt_iff_toInt_lt.mp a1
      omega
    · have := Int32.le_iff_toInt_le.mp a1
      omega
    · obtain ⟨rv2, s1, s2⟩ := rgo_ok h hn H1
      rw [rv2] at H
      have w0 := wks_0 (T := T) (t := n) h.2.1 h.2.2.1
      have q0 := (w0 0 (by decide)).trans p0
      have q1 := (w0 1 (by decide)).trans p1
      have hcP : inC (wksP T n P) c := (inC.eq q0 q1).mpr hc0
      have e1' : (wz + 1).toInt = wz.toInt + 1 := i32_p1 (by omega)
      have em : wz - 1 + 1 = wz := by grind
      have ep : wz + 1 - 1 = wz := by grind
      unfold lasL
      rw [if_pos hwn, em]
      rcases rls_98 s1.1.1 H with ⟨a1, H⟩ | ⟨a1, H⟩
      · rw [g150_ok s1.1 s1.2.1.1 hcP, bI_0] at a1
        have hl : lasL T n c r wz (wksP T n P) = wz := by
          cases r with
          | zero => unfold lasL; rw [if_neg (by rw [a1]; decide)]
          | succ r => unfold lasL; rw [if_neg (by rw [a1]; decide)]
        rw [hl]
        have hg : (∃ e1 v1 M2, e = e1 + 1 ∧ Ev none e1 154 0 [some (.ref 633), none] [] M1 v1 M2 0 0 ∧ Ev none e 237 120 [some (.ref 633), some (.int k), some (.int c), some (.int y), some (.int t), some (.int wz), some (.int (wz + 1))] (v1.toList ++ []) M2 v M' 0 0) → v = some (.int wz) ∧ RST T P0 M' := fun ⟨e4, v4, M4, _, H4, H⟩ => by
          obtain ⟨rv4, u1, _⟩ := s1.bk H4
          rw [rv4] at H
          obtain ⟨r1, r2⟩ := rls_120 u1.1 H
          exact ⟨r1, r2 ▸ u1⟩
        rcases rls_81 s1.1.1 H with ⟨_, H⟩ | ⟨_, _, H⟩ | ⟨_, a2, _⟩
        · exact hg H
        · exact hg H
        · exact absurd (Int32.le_iff_toInt_le.mpr (by omega)) a2
      · rw [g150_ok s1.1 s1.2.1.1 hcP, bI_0, Bool.not_eq_false] at a1
        have q := ih (wz + 1) _ M1 s1 q0 q1 a1 (by omega) (by omega) H
        rw [ep] at q
        exact q
def lasN (P : PK) (k c y t : Int32) : Prop := ¬ isW P k ∨ ¬ inC P c ∨ ¬ inX y 1 40 ∨ ¬ inX t 1 200
theorem drp_wrn {g : TQ} (hk : 0 ≤ k.toInt ∧ k.toInt < 24) : wrnB g (drpP P k) c = wrnB g P c := by
  unfold wrnB drpP
  rw [cE_lo (by omega)]
theorem rlasts_ok (hR : RST T P M) (hD : okD P) (hK : okK P) (hb : ∃ b, zI M 633 42 = bI b) (H : Ev none e 237 0 [some (.ref 633), some (.int k), some (.int c), some (.int y), some (.int t), none, none] [] M v M' 0 0) : (lasN P k c y t ∧ v = some (.int (-2)) ∧ RST T P M') ∨ (¬ lasN P k c y t ∧ v = some (.int (lasL T t.toInt.toNat c y.toInt.toNat 0 (drpP P k))) ∧ RST T P M') := by
  have h0 := hR.w0 0 (by decide) 0
  have hb0 : ∃ b, zI (wF M 633 0 0) 633 42 = bI b := by
    obtain ⟨b, hb⟩ := hb
    exact ⟨b, by rw [fI_wF_ne (by decide)]; exact hb⟩
  have b24 := hD.2.2.2.1
  unfold lasN
  rcases rls_0 hR.1 H with ⟨a1, r1, r2⟩ | ⟨_, a1, r1, r2⟩ | ⟨_, _, a1, r1, r2⟩ | ⟨_, _, _, a1, r1, r2⟩ | ⟨a1, a2, a3, a4, a5, r1, r2⟩ | ⟨a1, a2, a3, a4, a5, e1, v1, M1, _, H1, H⟩
  · rw [g189_0 h0 hD] at a1
    exact Or.inl ⟨Or.inl a1, r1, r2 ▸ h0⟩
  · rw [g145_ok h0 hD.1] at a1
    exact Or.inl ⟨Or.inr (Or.inl a1), r1, r2 ▸ h0⟩
  · rw [g140_R] at a1
    exact Or.inl ⟨Or.inr (Or.inr (Or.inl a1)), r1, r2 ▸ h0⟩
  · rw [g140_R] at a1
    exact Or.inl ⟨Or.inr (Or.inr (Or.inr a1)), r1, r2 ▸ h0⟩
  all_goals
    rw [g189_0 h0 hD, Classical.not_not] at a1
    rw [g145_ok h0 hD.1, Classical.not_not] at a2
    rw [g140_R, Classical.not_not] at a3 a4
    rw [g150_ok h0 hD.1 a2, bI_0] at a5
    have hk := a1.1
    have hk24 : 0 ≤ k.toInt ∧ k.toInt < 24 := ⟨hk.1, by omega⟩
    have nl : ¬ (¬ isW P k ∨ ¬ inC P c ∨ ¬ inX y 1 40 ∨ ¬ inX t 1 200) := fun q => by
      rcases q with q | q | q | q
      · exact q a1
      · exact q a2
      · exact q a3
      · exact q a4
    have y1 : 1 ≤ y.toInt := a3.1
    have y40 : y.toInt ≤ 40 := a3.2
    have t1 : 1 ≤ t.toInt := a4.1
  · refine Or.inr ⟨nl, ?_, r2 ▸ h0⟩
    rw [r1]
    have hy : y.toInt.toNat = (y.toInt.toNat - 1) + 1 := by omega
    rw [hy]
    unfold lasL
    rw [if_neg (by rw [drp_wrn hk24, a5]; decide)]
  · rw [Bool.not_eq_false] at a5
    obtain ⟨rv, q1, _⟩ := RTR.mk0 h0 hD hK hb0 H1
    rw [rv] at H
    obtain ⟨_, H⟩ := rls_60 q1.1.1 H
    have t6 : (6 : Int32).toInt = 6 := rfl
    have t13 : (13 : Int32).toInt = 13 := rfl
    have t5 : (5 : Int32).toInt = 5 := rfl
    have m6 : (6 * k).toInt = 6 * k.toInt := i32_mul (by rw [t6]; omega) (by rw [t6]; omega)
    have m13 : (13 + 6 * k).toInt = 13 + 6 * k.toInt := by rw [i32_add (by omega) (by omega), m6]; omega
    have ix : (13 + 6 * k + 5).toNatClampNeg = 13 + 6 * k.toInt.toNat + 5 := cl_n (by rw [i32_add (by omega) (by omega), m13]; omega)
    rw [ix] at H
    obtain ⟨dD, dO⟩ := hD.drp hk
    have q2 : RTR T (drpP P k) P (wI M1 635 (13 + 6 * k.toInt.toNat + 5) 0) := q1.d0 dD (hK.wis (dO 0 (by omega)) (dO 1 (by omega)) (by rw [dO 12 (by omega)]; exact Int.le_refl _) (fun j hj => dO j (by omega))) (q1.1.up (by omega)) (FZ.wI rfl)
    obtain ⟨r1, r2⟩ := rls_l (n := t.toInt.toNat) (y := y) (k := k) (by omega) a2 y40 y.toInt.toNat 1 (drpP P k) _ q2 (dO 0 (by omega)) (dO 1 (by omega)) (by rw [drp_wrn hk24]; exact a5) (by have o : (1 : Int32).toInt = 1 := rfl; omega) (by decide) H
    exact Or.inr ⟨nl, r1, r2⟩
/-! isTrod -/
def ritW (a : Nat) : Prop := a = 635 ∨ a = 637 ∨ a = 649
theorem lay6_lo {P : PK} : ∀ j, j < 522 → layP P c 6 j = P j := lay_hi
theorem fen1_lo {P : PK} : ∀ j, j < 522 → fen1 P a j = P j := fun j hj => by
  unfold fen1
  split
  · exact lay_hi j hj
  · rfl
theorem rit_l {P0 : PK} (hn : t.toInt = (n : Int)) : ∀ (r i : Nat) (iz : Int32) (P : PK) (ss : List Int32) (M : Mem), RST T P M → okD P → okK P → WFr w false ss M → ARn dd P M → (∀ j, j < 2314 → rN M 637 j = P0 j) → iz.toInt = (i : Int) → i + r = n → Ev none e 233 34 [some (.ref 633), some (.int a), some (.int b), some (.int t), some (.int iz)] [] M v M' 0 0 → v = some (.int (bI (decide (w ∈ (gofP T w r (P, ss)).2)))) ∧ RST T P0 M' ∧ zI M' 633 40 = w ∧ zI M' 633 42 = bI (decide (w ∈ (gofP T w r (P, ss)).2)) ∧ FZ rkF ritW noO M M' := by
  intro r
  induction r with
  | zero =>
    intro i iz P ss M hR hD hK hf ha h9 hi hin H
    have hf42 : zI M 633 42 = bI (decide (w ∈ ss)) := hf.2
    have hg : (∃ e1 v1 M1, e = e1 + 1 ∧ Ev none e1 154 0 [some (.ref 633), none] [] M v1 M1 0 0 ∧ Ev none e 233 61 [some (.ref 633), some (.int a), some (.int b), some (.int t), some (.int iz)] (v1.toList ++ []) M1 v M' 0 0) → v = some (.int (bI (decide (w ∈ ss)))) ∧ RST T P0 M' ∧ zI M' 633 40 = w ∧ zI M' 633 42 = bI (decide (w ∈ ss)) ∧ FZ rkF ritW noO M M' := fun ⟨e4, v4, M4, _, H4, H⟩ => by
      obtain ⟨rv4, u1, u2⟩ := lbk_ok hR h9 H4
      rw [rv4] at H
      obtain ⟨r1, r2⟩ := rit_61 u1.1 H
      have e42 : zI M4 633 42 = zI M 633 42 := u2.fi (fun q => q)
      rw [e42, hf42] at r1
      exact ⟨r1, r2 ▸ u1, by rw [r2]; exact (u2.fi (fun q => q)).trans hf.1, by rw [r2, e42, hf42], by rw [r2]; exact u2.more (fun _ _ q => q.elim) (fun a q => Or.inl q) (fun _ q => q)⟩
    rcases rit_34 hR.1 H with ⟨_, H⟩ | ⟨a1, _⟩ | ⟨a1, _⟩
    · exact hg H
    all_goals exact absurd (Int32.le_iff_toInt_le.mpr (by omega)) a1
  | succ r ih =>
    intro i iz P ss M hR hD hK hf ha h9 hi hin H
    have hf42 : zI M 633 42 = bI (decide (w ∈ ss)) := hf.2
    by_cases hw : w ∈ ss
    · have e : gofP T w (r + 1) (P, ss) = (P, ss) := if_pos hw
      rw [e]
      show v = some (.int (bI (decide (w ∈ ss)))) ∧ RST T P0 M' ∧ zI M' 633 40 = w ∧ zI M' 633 42 = bI (decide (w ∈ ss)) ∧ FZ rkF ritW noO M M'
      rcases rit_34 hR.1 H with ⟨a1, _⟩ | ⟨_, a1, _⟩ | ⟨_, _, e4, v4, M4, _, H4, H⟩
      · have := Int32.le_iff_toInt_le.mp a1
        omega
      · rw [hf42, decide_eq_true hw] at a1
        exact absurd a1 (by decide)
      · obtain ⟨rv4, u1, u2⟩ := lbk_ok hR h9 H4
        rw [rv4] at H
        obtain ⟨r1, r2⟩ := rit_61 u1.1 H
        have e42 : zI M4 633 42 = zI M 633 42 := u2.fi (fun q => q)
        rw [e42, hf42] at r1
        exact ⟨r1, r2 ▸ u1, by rw [r2]; exact (u2.fi (fun q => q)).trans hf.1, by rw [r2, e42, hf42], by rw [r2]; exact u2.more (fun _ _ q => q.elim) (fun a q => Or.inl q) (fun _ q => q)⟩
    · have e : gofP T w (r + 1) (P, ss) = gofP T w r (tckP T (P, ss)) := if_neg hw
      rw [e]
      rcases rit_34 hR.1 H with ⟨a1, _⟩ | ⟨_, _, e1, v1, M1, _, H1, H⟩ | ⟨_, a1, _⟩
      · have := Int32.le_iff_toInt_le.mp a1
        omega
      · obtain ⟨rv, q2, q3, q4, q5, q6, q7, q8⟩ := rtick_ok hR hD hK hf ha H1
        rw [rv] at H
        have H := rit_51 q2.1 H
        obtain ⟨w1, w2, w3, w4, w5⟩ := ih (i + 1) (iz + 1) (tckP T (P, ss)).1 (tckP T (P, ss)).2 M1 q2 q3 q4 q6 q7 (fun j hj => (q5.rn (by unfold rkW; decide)).trans (h9 j hj)) (by rw [i32_p1 (by have := i32_any t; omega)]; omega) (by omega) H
        exact ⟨w1, w2, w3, w4, (q5.more (fun _ _ q => q) (fun a q => by unfold rkW at q; unfold ritW; omega) (fun _ q => q)).trans w5⟩
      · rw [hf42, decide_eq_false hw] at a1
        exact absurd rfl a1
theorem put_ok (hR : RST T P M) (hw : wh4 P) (hc : inC P c) (H : Ev none e 213 0 [some (.ref 633), some (.int c), some (.int 6)] [] M v M' 0 0) : v = none ∧ RST T (layP P c 6) M' ∧ FZ noF (fun a => a = 635) noO M M' := by
  obtain ⟨rv, rm⟩ := g_213 hR.1 H
  refine ⟨rv, rm ▸ x213_ok hR hw hc, ?_⟩
  rw [rm]
  unfold X_213 X_147
  split
  · exact (FZ.wI (W := fun a => a = 635) rfl).trans (FZ.wI rfl)
  · exact FZ.wI rfl
/-- isTrod; the fences on CELLS where no DOOR and no WALKER is keep the PARK good: nothing below the CELLS changes -/
theorem ritro_ok (hR : RST T P M) (hD : okD P) (hK : okK P) (hb : ∃ b, zI M 633 42 = bI b) (ha : a = -1 ∨ inC P a) (hbb : b = -1 ∨ inC P b) (hn : t.toInt = (n : Int)) (H : Ev none e 233 0 [some (.ref 633), some (.int a), some (.int b), some (.int t), none] [] M v M' 0 0) : v = some (.int (bI (trodB T P (zI M 633 40) n a b))) ∧ RST T P M' ∧ zI M' 633 40 = zI M 633 40 ∧ (∃ b, zI M' 633 42 = bI b) ∧ FZ rkF ritW noO M M' := by
  obtain ⟨e1, v1, M1, _, H1, H⟩ := rit_0 hR.1 H
  obtain ⟨r1, r2, r3, r4⟩ := las_ok hR H1
  rw [r1] at H
  have neg : ∀ z : Int32, z = -1 → z < 0 := fun z hz => by rw [hz]; decide
  have nng : ∀ z : Int32, z < 0 ↔ ¬ (0 : Int32) ≤ z := fun z => by
    rw [Int32.lt_iff_toInt_lt, Int32.le_iff_toInt_le]
    omega
  have s1 : ∃ M2, RST T (fen1 P a) M2 ∧ FZ noF (fun a => a = 635) noO M1 M2 ∧ Ev none e 233 15 [some (.ref 633), some (.int a), some (.int b), some (.int t), none] [] M2 v M' 0 0 := by
    rcases rit_4 r2.1 H with ⟨a1, H⟩ | ⟨a1, e2, v2, M2, _, H2, H⟩
    · refine ⟨M1, ?_, FZ.refl _, H⟩
      unfold fen1
      rw [if_neg ((nng a).mp a1)]
      exact r2
    · have ic : inC P a := ha.resolve_left (fun q => a1 (neg a q))
      obtain ⟨u1, u2, u3⟩ := put_ok r2 hD.1 ic H2
      rw [u1] at H
      refine ⟨M2, ?_, u3, H⟩
      unfold fen1
      rw [if_pos (Classical.not_not.mp (fun q => a1 ((nng a).mpr q)))]
      exact u2
  obtain ⟨M2, s1, s2, H⟩ := s1
  have lo1 : hiS P (fen1 P a) := fen1_lo
  have hD1 := lo1.D hD
  have s3 : ∃ M3, RST T (fenP P a b) M3 ∧ FZ noF (fun a => a = 635) noO M2 M3 ∧ Ev none e 233 26 [some (.ref 633), some (.int a), some (.int b), some (.int t), none] [] M3 v M' 0 0 := by
    rcases rit_15 s1.1 H with ⟨a1, H⟩ | ⟨a1, e2, v2, M3, _, H2, H⟩
    · refine ⟨M2, ?_, FZ.refl _, H⟩
      unfold fenP
      rw [show fen1 (fen1 P a) b = fen1 P a from if_neg ((nng b).mp a1)]
      exact s1
    · have ic : inC P b := hbb.resolve_left (fun q => a1 (neg b q))
      obtain ⟨u1, u2, u3⟩ := put_ok s1 hD1.1 ((inC.hi lo1).mpr ic) H2
      rw [u1] at H
      refine ⟨M3, ?_, u3, H⟩
      unfold fenP
      rw [show fen1 (fen1 P a) b = layP (fen1 P a) b 6 from if_pos (Classical.not_not.mp (fun q => a1 ((nng b).mpr q)))]
      exact u2
  obtain ⟨M3, s3, s4, H⟩ := s3
  have lo2 : hiS P (fenP P a b) := fun j hj => (fen1_lo j hj).trans (fen1_lo j hj)
  have H := rit_26 s3.1 H
  have u0 : RST T (fenP P a b) (wF M3 633 42 0) := s3.w0 42 (by decide) 0
  have F4 : FZ (fun a k => a = 633 ∧ k = 42) noO noO M3 (wF M3 633 42 0) := FZ.wF (F := fun a k => a = 633 ∧ k = 42) ⟨rfl, rfl⟩
  have e40 : zI (wF M3 633 42 0) 633 40 = zI M 633 40 := (F4.fi (by decide)).trans ((s4.fi (fun q => q)).trans ((s2.fi (fun q => q)).trans (r4.fi (fun q => q))))
  have e42 : zI (wF M3 633 42 0) 633 42 = 0 := fI_wF_eq s3.1.1 qa_633 qi_61_42
  have hf : WFr (zI M 633 40) false [] (wF M3 633 42 0) := ⟨e40, by rw [e42, decide_eq_false (by simp)]; rfl⟩
  have ha2 : ARn (zI (wF M3 633 42 0) 633 41 - fenP P a b 519) (fenP P a b) (wF M3 633 42 0) := by unfold ARn; grind
  obtain ⟨v1, v2, v3, v4, v5⟩ := rit_l (w := zI M 633 40) hn n 0 0 (fenP P a b) [] _ u0 (lo2.D hD) (lo2.K hK) hf ha2 (fun j hj => (rN_wF).trans ((s4.rn (by decide)).trans ((s2.rn (by decide)).trans (r3 j hj)))) rfl (by omega) H
  have g1 : ∀ {A B : Mem}, FZ noF (fun a => a = 635) noO A B → FZ rkF ritW noO A B := fun h => h.more (fun _ _ q => q.elim) (fun a q => Or.inl q) (fun _ q => q)
  exact ⟨v1, v2, v3, ⟨_, v4⟩, ((((r4.more (fun _ _ q => q.elim) (fun a q => Or.inr (Or.inl q)) (fun _ q => q)).trans (g1 s2)).trans (g1 s4)).trans (F4.more (fun a k q => ⟨q.1, Or.inr (Or.inr q.2)⟩) (fun _ q => q.elim) (fun _ q => q))).trans v5⟩
end RTRJ
/-! THE CLASS'S trials: weeks on the other land -/
/-- what a trial touches -/
def triF (a k : Nat) : Prop := (243 ≤ a ∧ a < 339) ∨ (a = 104 ∧ 7 ≤ k) ∨ a = 105
def triW (a : Nat) : Prop := (244 ≤ a ∧ a ≤ 252) ∨ (106 ≤ a ∧ a ≤ 108) ∨ a = 128 ∨ (130 ≤ a ∧ a ≤ 136)
def triO (a : Nat) : Prop := a = 254
section CTRI
variable {e B L : Nat} {T T' : TS} {P P' P0 Q : PK} {PI : Nat → PK} {M M0 M1 M' : Mem} {v : Option Value} {c k d x a b t y ws : Int32} {n i j : Nat} {ss : List Int32} {F : Nat → Nat → Prop} {W O : Nat → Prop}
/-- a land changed, nothing looked at yet -/
theorem STA.new (h : STA L T P M) (hS : SQ M') (hF : FZ (cpF L) (cpW L) noO M M') (hA : LAN L Q M') (h0 : Q 0 = P 0) (h1 : Q 1 = P 1) (hn : ∀ c, inC Q c → nnC Q c) (hv : ∀ j, j < 1536 → rN M' 128 j = -1) : STA L T Q M' ∧ LST L Q M' := by
  have hl := ld_cases h.ld
  obtain ⟨a1, a2, a3, a4, a5, a6, a7⟩ := h
  have ok : okF L (cpF L) (cpW L) noO := by
    refine ⟨⟨by unfold cpF; omega, by unfold cpF; omega⟩, fun t ht => ?_, ⟨fun q => q, fun q => q⟩, by unfold cpW; omega, by unfold cpW; omega, by unfold cpW; omega⟩
    have := tx_cases ht
    exact ⟨fun k => by unfold cpF; omega, fun k k1 k8 => by unfold cpW; omega⟩
  exact ⟨⟨a1.mv hS hF ok hA.2.2.1 h0 h1 hn hA.2.2.2.2, vc_new hv (a1.2.1.eq h0 h1), hA.1, hA.2.1, fun k hk => (hF.on (fun q => q)).trans (a5 k hk), a6.on (fun j => hF.on (fun q => q)), (hF.fi (by unfold cpF; omega)).trans a7⟩, hA.2.2.2.1⟩
/-- the state of the live land and of the images, through what happens on the other land -/
theorem CST.tri (h : CST T P PI M) (hF : FZ triF triW triO M M') (hG : GRI M') (hX : STA 243 T' Q M') : CST T P PI M' := by
  obtain ⟨a1, ⟨a2, a3, a4⟩, a5, a6, a7, a8, ⟨a9, a10⟩, a11⟩ := h
  have nf : ∀ a k, ¬ ((243 ≤ a ∧ a < 339) ∨ (a = 104 ∧ 7 ≤ k) ∨ a = 105) → ¬ triF a k := fun a k ha q => ha q
  have nw : ∀ a, ¬ ((244 ≤ a ∧ a ≤ 252) ∨ (106 ≤ a ∧ a ≤ 108) ∨ a = 128 ∨ (130 ≤ a ∧ a ≤ 136)) → ¬ triW a := fun a ha q => ha q
  have no : ∀ a, a ≠ 254 → ¬ triO a := fun a ha q => ha q
  refine ⟨hX.sq, ⟨(hF.fr (nf _ _ (by omega))).trans a2, (hF.fr (nf _ _ (by omega))).trans a3, fun k hk => (hF.on (no _ (by decide))).trans (a4 k hk)⟩, a5.fz a1.1 hF (nf _ _ (by omega)) (fun t ht => ?_) (no _ (by decide)), fun m hm => (hF.on (no _ (by decide))).trans (a6 m hm), hG, fun L hL => ?_, ⟨a9, a10.fz hF (fun a k h1 h2 => nf _ _ (by omega)) (fun a h1 h2 => nw _ (by omega)) (no _ (by decide)) (a8 8 lnd_8).2 a9.n24 a9.k60⟩, fun k hk hr => ?_⟩
  · have := tx_cases ht
    exact ⟨fun k => nf _ _ (by omega), fun k k1 k8 => nw _ (by omega)⟩
  · by_cases hL8 : L = 243
    · subst hL8
      exact ⟨hX.2.2.2.2.1, hX.2.2.2.2.2.1⟩
    · have hc := ld_cases hL
      exact ⟨fun k hk => (hF.on (no _ (by omega))).trans ((a8 L hL).1 k hk), (a8 L hL).2.on (fun j => hF.on (no _ (by omega)))⟩
  · have er : rN M' 340 k = rN M 340 k := hF.rn (nw _ (by decide))
    rw [er] at hr
    obtain ⟨b1, b2⟩ := a11 k hk hr
    have hi := lnd_im k hk
    exact ⟨b1, b2.fz hF (fun a k q1 q2 => nf _ _ (by unfold imgA at q1 q2; omega)) (fun a q1 q2 => nw _ (by unfold imgA at q1 q2; omega)) (no _ (by unfold imgA; omega)) (a8 _ hi).2 b1.n24 b1.k60⟩
/-- a trial: B bounds what was trod -/
def TRI (T : TS) (P0 : PK) (PI : Nat → PK) (B : Nat) (w : Int32) (ss : List Int32) (P : PK) (M : Mem) : Prop := CST T P0 PI M ∧ STA 243 T P M ∧ LST 243 P M ∧ okD P ∧ okK P ∧ okE B P ∧ WFl w ss M
/-- the verdicts are forgotten by enter -/
theorem ent_v (hS : SQ M) (hL : gNth sT L = some 8) (hA : LAN L P M) (hw : wh4 P) (hG : GRI M) (H : Ev none e 54 0 [some (.ref 104), some (.ref L)] [] M v M' 0 0) : ∀ j, j < 1536 → rN M' 128 j = -1 := by
  obtain ⟨e1, v1, M1, rfl, H1, H⟩ := ent_0 hS hL H
  have S0 : SQ (wR M 104 7 L) := hS.kr_22_7 hL
  have F0 : FZ (fun a k => a = 104 ∧ k = 7) noO noO M (wR M 104 7 L) := FZ.wR ⟨rfl, rfl⟩
  rw [hA.1.1, hA.1.2.1] at H1
  obtain ⟨hv1, S1, _⟩ := shape_ok S0 ⟨hw.1, hw.2.1⟩ ⟨hw.2.2.1, hw.2.2.2⟩ (hG.fz F0 (by omega) (by omega) (fun _ _ _ q => q)) H1
  rw [hv1] at H
  obtain ⟨_, eM⟩ := ent_26 S1 hL H
  have eM2 : M' = wA (wF (wF (wF M1 104 8 0) 104 9 (-1)) 104 10 0) 128 (-1) := eM
  intro j hj
  rw [eM2]
  exact rN_wA_eq S1.kf.kf.kf.1 qa_128 qw_37 hj
theorem opcT_ok (h : CST T P PI M) (H : Ev none e 133 0 [some (.ref 0)] [] M v M' 0 0) : v = none ∧ TRI T P PI (60 * (P 518).toInt.toNat) (-1) [] P M' ∧ (∀ j, j < 1536 → rN M' 128 j = -1) ∧ FZ triF triW triO M M' := by
  have h9 := h
  obtain ⟨r1, r2, r3, r4, r5⟩ := openC_ok h H
  refine ⟨r1, ⟨r2, r3, r4, h.ok.1, h.ok.2.1, h.ok.2.2.2, r5⟩, ?_⟩
  have hS := h.sq
  have hD := h.ok.1
  obtain ⟨e1, v1, M1, _, H1, H⟩ := opc_0 hS h.ld h.2.1.2.1 H
  obtain ⟨_, _, _, _, hG, hXs, _, _⟩ := id h
  obtain ⟨rv, s1, s2, s3⟩ := copy_ok hS lnd_tr lnd_8 (by decide) hD h.ok.2.1 (hXs _ lnd_tr).1 h.wx (hXs _ lnd_tr).2 h.wk h.lan H1
  rw [rv] at H
  have h1 : CST T P PI M1 := h.cop lnd_tr (by decide) s1 s2 (fun k hk _ => by unfold imgA; omega)
  obtain ⟨e2, v2, M2, _, H2, H⟩ := opc_11 s1 h1.ld h1.2.1.2.1 H
  have q := ent_v s1 lnd_tr s3 hD.1 h1.2.2.2.2.1 H2
  obtain ⟨rv2, q2, _, q4, _⟩ := enter_ok s1 lnd_tr hD.1 h1.ok.2.2.2.nn h1.2.2.2.2.1 h1.2.2.2.1 h1.2.2.1 s3 (h1.2.2.2.2.2.1 _ lnd_tr).1 (h1.2.2.2.2.2.1 _ lnd_tr).2 h1.ok.n24 h1.ok.k60 H2
  rw [rv2] at H
  obtain ⟨_, u2⟩ := opc_22 q2.sq H
  rw [u2]
  refine ⟨q, (s2.more (fun a k q => ?_) (fun a q => ?_) (fun _ q => q.elim)).trans (q4.more (fun a k q => ?_) (fun a q => ?_) (fun _ q => q.elim))⟩
  · unfold cpF at q
    unfold triF
    omega
  · unfold cpW at q
    unfold triW
    omega
  · unfold enF shgF at q
    unfold triF
    omega
  · unfold enW shgW at q
    unfold triW
    omega
theorem gw_tri (h : FZ (gwF 243) (gwW 243) (gwO 243) M M') : FZ triF triW triO M M' := h.more (fun a k q => by unfold gwF at q; unfold triF; omega) (fun a q => by unfold gwW lkW at q; unfold triW; omega) (fun a q => by unfold gwO at q; unfold triO; omega)
theorem tri_F (h : FZ (gwF 243) (gwW 243) (gwO 243) M M') (hC : CST T P0 PI M) (hX : STA 243 T' Q M') : CST T P0 PI M' := by
  refine hC.tri (gw_tri h) (hC.2.2.2.2.1.fz h ?_ ?_ ?_) hX
  · unfold gwF; omega
  · unfold gwF; omega
  · intro a h1 h2
    unfold gwW lkW
    omega
theorem gof_K {w : Int32} : ∀ (r : Nat) (p : PS), okD p.1 → okK p.1 → okD (gofP T w r p).1 ∧ okK (gofP T w r p).1 := by
  intro r
  induction r with
  | zero => intro p h1 h2; exact ⟨h1, h2⟩
  | succ r ih =>
    intro p h1 h2
    unfold gofP
    split
    · exact ⟨h1, h2⟩
    · obtain ⟨d1, k1⟩ := tck_keep (T := T) h1 h2
      exact ih (tckP T p) d1 k1
/-- one week of a trial, nobody watched -/
theorem onk_ok (h : TRI T P0 PI B (-1) [] P M) (hB : B + 60 * n ≤ 100000000) (ht : t.toInt = (n : Int)) (H : Ev none e 134 0 [some (.ref 0), some (.int t)] [] M v M' 0 0) : v = none ∧ TRI T P0 PI (B + 60 * n) (-1) [] (wksP T n P) M' ∧ FZ triF triW triO M M' := by
  obtain ⟨hC, hX, hl, hD, hK, hE, hf⟩ := h
  obtain ⟨e1, v1, M1, _, H1, H⟩ := onk_0 hX.sq H
  obtain ⟨P6, ss6, g1, rv, s1, s2, s3, s4, s5, s6, s7, s8, s9⟩ := gow_ok hX hD hK hE hB hl hf ht H1
  rw [rv] at H
  obtain ⟨e2, v2, M2, _, H2, H⟩ := onk_8 s1.sq H
  have hn : ¬ (-1 : Int32) ∈ ss6 := fun q => by
    rcases s9 _ q with q | q
    · cases q
    · exact absurd q.1 (by decide)
  have hr : (tksP T n (P, [])).1 = P6 := by
    rw [← gof_tks (w := -1) n (P, []) (by rw [g1]; exact hn), g1]
  obtain ⟨rv2, q1, q2, q3, q4, q5, q6, q7, q8⟩ := ewk_ok s1 s2 s3 s4 s5 H2
  rw [rv2] at H
  obtain ⟨u1, u2⟩ := onk_16 q1.sq H
  have ew : wksP T n P = wekP (T 0) P6 := by unfold wksP; rw [hr]
  rw [ew, u2]
  have c1 := tri_F s7 hC s1
  refine ⟨u1, ⟨tri_F q6 c1 q1, q1, q5, q2, q3, q4, ⟨(q7 9).trans s6.1, (q7 10).trans (s6.2.trans ?_)⟩⟩, (gw_tri s7).trans (gw_tri q6)⟩
  rw [decide_eq_false hn]
  rfl
theorem tri_worn {w : Int32} (h : TRI T P0 PI B w ss P M) (hc : inC P c) : G_56 M c = bI (wrnB (T 0) P c) := g56_ok h.2.1.1.1 hc
end CTRI
/-! THE CLASS'S net, lasts, nobodySteps, fences -/
section CFEN
variable {e B L : Nat} {T T' : TS} {P P' P0 Q : PK} {PI : Nat → PK} {M M0 M1 M' : Mem} {v : Option Value} {c k d x a b t y ws z : Int32} {n i j : Nat} {ss : List Int32} {F : Nat → Nat → Prop} {W O : Nat → Prop}
theorem cnet_ok (h : CST T P PI M) (H : Ev none e 97 0 [some (.ref 0)] [] M v M' 0 0) : v = some (.int (nwP (T 0) P)) ∧ CST T P PI M' := by
  obtain ⟨e1, v1, M1, _, H1, H⟩ := net_0 h.sq h.ld H
  obtain ⟨rv1, b2, b3, b4, b5, b6⟩ := centr_ok h H1
  rw [rv1] at H
  obtain ⟨e3, v3, M3, _, H3, H⟩ := net_11 b2.sq H
  obtain ⟨rm, rv3⟩ := wcl_ok b2.1 b2.2.2.1.1 b2.2.2.1.2.1 H3
  rw [rv3, rm] at H
  obtain ⟨u1, u2⟩ := net_18 b2.sq H
  refine ⟨u1, ?_⟩
  rw [u2]
  refine h.wlk b4 (fun a k q => ?_) (fun a q => ?_) (fun a q => q.elim) b5 b2 b3 h.ok
  · unfold enF shgF at q
    omega
  · unfold enW shgW at q
    omega
/-- a land whose k-th wish is dropped -/
theorem LAN.drp (hS : SQ M) (hL : gNth sT L = some 8) (hA : LAN L P M) (hx : WXr L M) (hk : WKs L M) (hD : okD P) (k60 : (P 157).toInt ≤ 60) (w1 : 0 ≤ k.toInt ∧ k.toInt < (P 12).toInt) : LAN L (drpP P k) (wF M (L + 12 + k.toInt.toNat) 5 0) := by
  obtain ⟨m, em⟩ : ∃ m, m = k.toInt.toNat := ⟨_, rfl⟩
  have b24 := hD.2.2.2.1
  rw [← em]
  obtain ⟨b1, b2⟩ := hD.drp (k := k) w1
  rw [← em] at b2
  have hF : FZ (fun a f => a = L + 12 + m ∧ f = 5) noO noO M (wF M (L + 12 + m) 5 0) := FZ.wF (F := fun a f => a = L + 12 + m ∧ f = 5) ⟨rfl, rfl⟩
  have b3 := b2 0 (by omega)
  have b4 := b2 1 (by omega)
  refine hA.lo hF b3 b4 (fun j hj => b2 j (by omega)) (fun a k _ _ q => Or.inr (by omega)) (fun a q => q.elim) (fun q => q) hk k60 ⟨?_, fun d hd => ?_⟩ ⟨?_, fun i hi f hf => ?_⟩
  · rw [b2 2 (by omega), hF.fi (by omega)]
    exact hA.1.2.2.1.1
  · rw [b2 2 (by omega)] at hd
    have := hD.2.1.2.1
    rw [b2 _ (by omega)]
    exact (hF.rn (fun q => q)).trans (hA.1.2.2.1.2 d hd)
  · rw [b2 12 (by omega), hF.fi (by omega)]
    exact hA.1.2.2.2.1
  · rw [b2 12 (by omega)] at hi
    by_cases hif : i = m ∧ f = 5
    · rw [hif.1, hif.2]
      have e5 : drpP P k (13 + 6 * m + 5) = 0 := by rw [em]; exact up_eq
      rw [e5]
      exact fI_wF_eq hS.1 (wi_t hS.1 hL hx (by omega)) qi_20_5
    · rw [b2 _ (by omega), hF.fi (by omega)]
      exact hA.1.2.2.2.2 i hi f hf
theorem lsv_l {tt : Nat} (ht : t.toInt = (tt : Int)) (hc0 : inC P0 c) : ∀ (r : Nat) (nz : Int32) (B : Nat) (P : PK) (M : Mem), TRI T P0 PI B (-1) [] P M → P 0 = P0 0 → P 1 = P0 1 → nz.toInt + (r : Int) = ws.toInt → 0 ≤ nz.toInt → r ≤ 40 → tt ≤ 200 → B + 60 * tt * r ≤ 100000000 → Ev none e 114 64 [some (.ref 0), some (.int k), some (.int c), some (.int ws), some (.int t), some (.int nz)] [] M v M' 0 0 → v = some (.int (lasL T tt c r nz P)) ∧ CST T P0 PI M' := by
  have uw := i32_any ws
  intro r
  induction r with
  | zero =>
    intro nz B P M h p0 p1 hw h1 _ _ hB H
    have hcP : inC P c := (inC.eq p0 p1).mpr hc0
    have hg := tri_worn h hcP
    have en : ws = nz := Int32.toInt_inj.mp (by omega)
    unfold lasL
    rcases lsv_64 h.2.1.sq H with ⟨_, a2, r1, r2⟩ | ⟨_, a2, r1, r2⟩ | ⟨a1, _⟩ | ⟨a1, _⟩
    · rw [hg, bI_0] at a2
      rw [if_neg (by rw [a2]; decide), r2]
      exact ⟨by rw [r1, en], h.1⟩
    · rw [hg, bI_0, Bool.not_eq_false] at a2
      rw [if_pos a2, r2]
      exact ⟨r1, h.1⟩
    all_goals exact absurd (Int32.le_iff_toInt_le.mpr (by omega)) a1
  | succ r ih =>
    intro nz B P M h p0 p1 hw h1 r40 t200 hB H
    have hcP : inC P c := (inC.eq p0 p1).mpr hc0
    have hg := tri_worn h hcP
    unfold lasL
    rcases lsv_64 h.2.1.sq H with ⟨a1, _⟩ | ⟨a1, _⟩ | ⟨_, a2, r1, r2⟩ | ⟨_, a2, e1, v1, M1, _, H1, H⟩
    · have := Int32.le_iff_toInt_le.mp a1
      omega
    · have := Int32.le_iff_toInt_le.mp a1
      omega
    · rw [hg, bI_0] at a2
      rw [if_neg (by rw [a2]; decide), r2]
      exact ⟨r1, h.1⟩
    · rw [hg, bI_0, Bool.not_eq_false] at a2
      rw [if_pos a2]
      have hm : 60 * tt * (r + 1) = 60 * tt * r + 60 * tt := by rw [Nat.mul_add, Nat.mul_one]
      obtain ⟨rv, q1, _⟩ := onk_ok h (n := tt) (by omega) ht H1
      rw [rv] at H
      have H := lsv_90 q1.2.1.sq H
      have w0 := wks_0 (T := T) (t := tt) h.2.2.2.1 h.2.2.2.2.1
      exact ih (nz + 1) (B + 60 * tt) _ M1 q1 ((w0 0 (by decide)).trans p0) ((w0 1 (by decide)).trans p1) (by rw [i32_p1 (by omega)]; omega) (by rw [i32_p1 (by omega)]; omega) (by omega) t200 (by omega) H
/-- the budget of what can be trod -/
theorem okA.bud (h : okA P) : 60 * (P 518).toInt.toNat ≤ 3600000 := by
  have := h.2.2.1
  omega
theorem lasts_ok (h : CST T P PI M) (H : Ev none e 114 0 [some (.ref 0), some (.int k), some (.int c), some (.int ws), some (.int t), none] [] M v M' 0 0) : (lasN P k c ws t ∧ v = some (.int (-2)) ∧ CST T P PI M') ∨ (¬ lasN P k c ws t ∧ v = some (.int (lasL T t.toInt.toNat c ws.toInt.toNat 0 (drpP P k))) ∧ CST T P PI M') := by
  have hS := h.sq
  have hD := h.ok.1
  have o1 : ¬ ((1 : Int32) = 0) := by decide
  obtain ⟨e1, v1, M1, _, H1, H⟩ := lsv_0 hS H
  obtain ⟨rm, rv⟩ := isw_ok h H1
  rw [rm] at H
  unfold lasN
  rcases rv with ⟨hW, rv⟩ | ⟨hW, rv⟩
  · rw [rv] at H
    rcases lsv_5 hS H with ⟨a1, _⟩ | ⟨_, e2, v2, M2, _, H2, H⟩
    · exact absurd a1 o1
    · obtain ⟨rv2, rm2⟩ := isc_0 hS h.ld H2
      rw [rv2, rm2] at H
      rcases lsv_13 hS H with ⟨a2, r1, r2⟩ | ⟨_, a2, r1, r2⟩ | ⟨_, _, a2, r1, r2⟩ | ⟨a2, a3, a4, e3, v3, M3, _, H3, H⟩
      · rw [isc_ok h.lan hD.1] at a2
        exact Or.inl ⟨Or.inr (Or.inl a2), r1, r2 ▸ h⟩
      · rw [g126_R] at a2
        exact Or.inl ⟨Or.inr (Or.inr (Or.inl a2)), r1, r2 ▸ h⟩
      · rw [g126_R] at a2
        exact Or.inl ⟨Or.inr (Or.inr (Or.inr a2)), r1, r2 ▸ h⟩
      · rw [isc_ok h.lan hD.1, Classical.not_not] at a2
        rw [g126_R, Classical.not_not] at a3 a4
        have nl : ¬ (¬ isW P k ∨ ¬ inC P c ∨ ¬ inX ws 1 40 ∨ ¬ inX t 1 200) := fun q => by
          rcases q with q | q | q | q
          · exact q hW
          · exact q a2
          · exact q a3
          · exact q a4
        have y1 : 1 ≤ ws.toInt := a3.1
        have y40 : ws.toInt ≤ 40 := a3.2
        have t1 : 1 ≤ t.toInt := a4.1
        have t200 : t.toInt ≤ 200 := a4.2
        obtain ⟨rv3, q1, qv, _⟩ := opcT_ok h H3
        rw [rv3] at H
        have w1 := hW.1
        have b24 := hD.2.2.2.1
        obtain ⟨_, H⟩ := lsv_48 q1.2.1.sq q1.1.2.1.2.1 H
        rw [wx_oI q1.2.1.2.2.2.2.1 (by omega) (by omega)] at H
        have hcl := q1.2.1.2.2.2.2.2.1
        have lan : LAN 243 (drpP P k) (wF M3 (243 + 12 + k.toInt.toNat) 5 0) := LAN.drp q1.2.1.sq lnd_tr (q1.2.1.lan q1.2.2.1) q1.2.1.2.2.2.2.1 hcl hD h.ok.k60 w1
        obtain ⟨dD, dO⟩ := hD.drp w1
        have d0 := dO 0 (by omega)
        have d1 := dO 1 (by omega)
        have hE : okE (60 * (P 518).toInt.toNat) (drpP P k) := h.ok.2.2.2.sb d0 d1 (fun j hj => dO j (by omega))
        have hF : FZ (fun a f => a = 243 + 12 + k.toInt.toNat ∧ f = 5) noO noO M3 (wF M3 (243 + 12 + k.toInt.toNat) 5 0) := FZ.wF (F := fun a f => a = 243 + 12 + k.toInt.toNat ∧ f = 5) ⟨rfl, rfl⟩
        obtain ⟨x1, x2⟩ := q1.2.1.new q1.2.1.sq.kf (hF.more (fun a k q => by unfold cpF; omega) (fun _ q => q.elim) (fun _ q => q)) lan d0 d1 hE.nn (fun j hj => rN_wF.trans (qv j hj))
        have c1 := q1.1.tri (hF.more (fun a k q => by unfold triF; omega) (fun _ q => q.elim) (fun _ q => q.elim)) (q1.1.2.2.2.2.1.fz hF (by omega) (by omega) (fun _ _ _ q => q)) x1
        have hK : okK (drpP P k) := h.ok.2.1.wis d0 d1 (by rw [dO 12 (by omega)]; exact Int.le_refl _) (fun j hj => dO j (by omega))
        have tr : TRI T P PI (60 * (P 518).toInt.toNat) (-1) [] (drpP P k) (wF M3 (243 + 12 + k.toInt.toNat) 5 0) := ⟨c1, x1, x2, dD, hK, hE, ⟨(hF.fi (by omega)).trans q1.2.2.2.2.2.2.1, (hF.fi (by omega)).trans q1.2.2.2.2.2.2.2⟩⟩
        have H := lsv_61 tr.2.1.sq H
        have hb := h.ok.bud
        have hm : 60 * t.toInt.toNat * ws.toInt.toNat ≤ 60 * 200 * 40 := Nat.mul_le_mul (Nat.mul_le_mul_left _ (by omega)) (by omega)
        obtain ⟨r1, r2⟩ := lsv_l (tt := t.toInt.toNat) (ws := ws) (by omega) a2 ws.toInt.toNat 0 _ _ _ tr d0 d1 (by have z0 : (0 : Int32).toInt = 0 := rfl; omega) (by decide) (by omega) (by omega) (by omega) H
        exact Or.inr ⟨nl, r1, r2⟩
  · rw [rv] at H
    rcases lsv_5 hS H with ⟨_, r1, r2⟩ | ⟨a1, _⟩
    · exact Or.inl ⟨Or.inl hW, r1, r2 ▸ h⟩
    · exact absurd rfl a1
/-! nobodySteps -/
theorem TRI.fen (h : TRI T P0 PI B (-1) [] P M) (hv : ∀ j, j < 1536 → rN M 128 j = -1) (hc : inC P c) : TRI T P0 PI B (-1) [] (layP P c 6) (X_10 M 243 c 6) ∧ (∀ j, j < 1536 → rN (X_10 M 243 c 6) 128 j = -1) ∧ FZ triF triW triO M (X_10 M 243 c 6) := by
  obtain ⟨hC, hX, hl, hD, hK, hE, hf⟩ := h
  obtain ⟨x1, x2, x3⟩ := x10_ok (k := 6) hX.sq hX.ld hX.cel hX.wh hc
  have hs : hiS P (layP P c 6) := lay_hi
  have e0 := hs 0 (by decide)
  have e1 := hs 1 (by decide)
  have hE2 : okE B (layP P c 6) := hE.lay hc (by unfold inX; decide)
  have lan : LAN 243 (layP P c 6) (X_10 M 243 c 6) := (hX.lan hl).hi x3 hs (fun a q => by omega) x2 hD hK.2.1
  have hv2 : ∀ j, j < 1536 → rN (X_10 M 243 c 6) 128 j = -1 := fun j hj => (x3.rn (by omega)).trans (hv j hj)
  obtain ⟨s1, s2⟩ := hX.new x1 (x3.more (fun _ _ q => q.elim) (fun a q => by unfold cpW; omega) (fun _ q => q)) lan e0 e1 hE2.nn hv2
  have f2 : FZ triF triW triO M (X_10 M 243 c 6) := x3.more (fun _ _ q => q.elim) (fun a q => by unfold triW; omega) (fun _ q => q.elim)
  exact ⟨⟨hC.tri f2 (hC.2.2.2.2.1.fz x3 (fun q => q) (fun q => q) (fun a _ _ => by omega)) s1, s1, s2, hs.D hD, hs.K hK, hE2, ⟨(x3.fi (fun q => q)).trans hf.1, (x3.fi (fun q => q)).trans hf.2⟩⟩, hv2, f2⟩
theorem STA.f9 (h : STA L T P M) (hD : okD P) : STA L T P (wF M 104 9 x) := by
  have hF : FZ (fun a k => a = 104 ∧ k = 9) noO noO M (wF M 104 9 x) := FZ.wF (F := fun a k => a = 104 ∧ k = 9) ⟨rfl, rfl⟩
  have hl := ld_cases h.ld
  obtain ⟨a1, a2, a3, a4, a5, a6, a7⟩ := h
  have ok : okF L (fun a k => a = 104 ∧ k = 9) noO noO := ⟨⟨by omega, by omega⟩, fun t ht => ⟨fun k q => by have := tx_cases ht; omega, fun _ _ _ q => q⟩, ⟨fun q => q, fun q => q⟩, fun q => q, fun q => q, fun q => q⟩
  have cr : ∀ c, inC P c → rI (wF M 104 9 x) (L + 8) c = crdP P c (P 157).toInt.toNat := fun c hc => (hF.rn (fun q => q)).trans (a1.2.2.2.2.2.2.2 c hc)
  have lc : LCel L P (wF M 104 9 x) := fun k f hk hf => rN_wF.trans (a1.1.2.2.2.2.2.2 k f hk hf)
  exact ⟨a1.mv a1.1.1.kf hF ok lc rfl rfl a1.2.2.1 cr, a2.mv rfl rfl (fun _ _ => rfl) (fun b j _ => rN_wF), a3.mv hF (by omega) (by omega) (by omega) (by omega) (fun k f _ => by omega) (fun q => q) (fun _ _ => rfl) hD.2.1.2.1 hD.2.2.2.1, ⟨(hF.fi (by omega)).trans a4.1, (hF.fi (by omega)).trans a4.2.1, (hF.fi (by omega)).trans a4.2.2.1, (hF.fi (by omega)).trans a4.2.2.2⟩, fun k hk => (hF.on (fun q => q)).trans (a5 k hk), a6.on (fun j => hF.on (fun q => q)), (hF.fi (by omega)).trans a7⟩
theorem nbs_ok (h : CST T P PI M) (ha : a = -1 ∨ inC P a) (hb : b = -1 ∨ inC P b) (ht : t.toInt = (n : Int)) (hn : n ≤ 100) (H : Ev none e 111 0 [some (.ref 0), some (.int c), some (.int t), some (.int a), some (.int b)] [] M v M' 0 0) : v = some (.int (bI (!trodB T P c n a b))) ∧ CST T P PI M' ∧ FZ triF triW triO M M' := by
  obtain ⟨e1, v1, M1, _, H1, H⟩ := nbs_0 h.sq H
  obtain ⟨rv1, q1, qv, qF⟩ := opcT_ok h H1
  rw [rv1] at H
  have hm1 : ∀ (R : PK) (z : Int32), z = -1 → ¬ inC R z := fun R z hz q => by
    have := q.1
    rw [hz] at this
    exact absurd this (by decide)
  have nn : ∀ (R : PK) (z : Int32), (z = -1 ∨ inC R z) → (inC R z ↔ (0 : Int32) ≤ z) := fun R z hz => by
    have z0 : (0 : Int32).toInt = 0 := rfl
    have zm : (-1 : Int32).toInt = -1 := rfl
    rw [Int32.le_iff_toInt_le]
    constructor
    · intro q
      have := q.1
      omega
    · intro q
      exact hz.resolve_left (fun r => by rw [r] at q; omega)
  have ic : ∀ {N : Mem} {z : Int32} {ee : Nat} {vv : Option Value} {MM : Mem}, CST T P PI N → Ev none ee 127 0 [some (.ref 0), some (.int z)] [] N vv MM 0 0 → MM = N ∧ ∃ r, vv = some (.int r) ∧ (r = 0 ↔ ¬ inC P z) := fun {N z ee vv MM} hN HH => by
    obtain ⟨rv, rm⟩ := isc_0 hN.sq hN.ld HH
    exact ⟨rm, _, rv, isc_ok hN.lan hN.ok.1.1⟩
  obtain ⟨e2, v2, M2, _, H2, H⟩ := nbs_4 q1.2.1.sq H
  obtain ⟨rm2, r2, rv2, hr2⟩ := ic q1.1 H2
  rw [rv2, rm2] at H
  have s1 : ∃ M3, TRI T P PI (60 * (P 518).toInt.toNat) (-1) [] (fen1 P a) M3 ∧ (∀ j, j < 1536 → rN M3 128 j = -1) ∧ FZ triF triW triO M1 M3 ∧ Ev none e 111 22 [some (.ref 0), some (.int c), some (.int t), some (.int a), some (.int b)] [] M3 v M' 0 0 := by
    unfold fen1
    rcases nbs_9 q1.2.1.sq q1.1.2.1.2.1 H with ⟨a1, H⟩ | ⟨a1, H⟩
    · rw [hr2, nn P a ha] at a1
      rw [if_neg a1]
      exact ⟨M1, q1, qv, FZ.refl _, H⟩
    · rw [hr2, Classical.not_not] at a1
      rw [if_pos ((nn P a ha).mp a1)]
      obtain ⟨u1, u2, u3⟩ := q1.fen qv a1
      exact ⟨_, u1, u2, u3, H⟩
  obtain ⟨M3, s1, sv, sF, H⟩ := s1
  obtain ⟨e4, v4, M4, _, H4, H⟩ := nbs_22 s1.2.1.sq H
  obtain ⟨rm4, r4, rv4, hr4⟩ := ic s1.1 H4
  rw [rv4, rm4] at H
  have lo1 : hiS P (fen1 P a) := fen1_lo
  have s5 : ∃ M5, TRI T P PI (60 * (P 518).toInt.toNat) (-1) [] (fenP P a b) M5 ∧ FZ triF triW triO M3 M5 ∧ Ev none e 111 42 [some (.ref 0), some (.int c), some (.int t), some (.int a), some (.int b)] [] M5 v M' 0 0 := by
    unfold fenP
    rcases nbs_28 s1.2.1.sq s1.1.2.1.2.1 H with ⟨a1, H⟩ | ⟨a1, H⟩
    · rw [hr4, nn P b hb] at a1
      rw [show fen1 (fen1 P a) b = fen1 P a from if_neg a1]
      exact ⟨M3, s1, FZ.refl _, H⟩
    · rw [hr4, Classical.not_not] at a1
      rw [show fen1 (fen1 P a) b = layP (fen1 P a) b 6 from if_pos ((nn P b hb).mp a1)]
      obtain ⟨u1, u2, u3⟩ := s1.fen sv ((inC.hi lo1).mpr a1)
      exact ⟨_, u1, u3, H⟩
  obtain ⟨M5, s5, sF5, H⟩ := s5
  obtain ⟨e6, v6, M6, _, H6, H⟩ := nbs_42 s5.2.1.sq H
  obtain ⟨hC5, hX5, hl5, hD5, hK5, hE5, hf5⟩ := s5
  have F9 : FZ (fun a k => a = 104 ∧ k = 9) noO noO M5 (wF M5 104 9 c) := FZ.wF (F := fun a k => a = 104 ∧ k = 9) ⟨rfl, rfl⟩
  have hX6 := hX5.f9 (x := c) hD5
  have lan6 : LAN 243 (fenP P a b) (wF M5 104 9 c) := (hX5.lan hl5).fz F9 (fun a k h1 h2 => by omega) (fun _ _ _ q => q) (fun q => q) hX5.2.2.2.2.2.1 hD5.2.2.2.1 hK5.2.1
  have hf6 : WFl c [] (wF M5 104 9 c) := ⟨fI_wF_eq hX5.sq.1 qa_104 qi_22_9, by rw [fI_wF_ne (by omega), hf5.2, decide_eq_false (by simp), decide_eq_false (by simp)]⟩
  have hbud := h.ok.bud
  obtain ⟨P6, ss6, g1, rv6, w1, w2, w3, w4, w5, w6, w7, w8, w9⟩ := gow_ok hX6 hD5 hK5 hE5 (r := n) (by omega) lan6.2.2.2.1 hf6 ht H6
  rw [rv6] at H
  have c5 : CST T P PI (wF M5 104 9 c) := hC5.tri (F9.more (fun a k q => by unfold triF; omega) (fun _ q => q.elim) (fun _ q => q.elim)) (hC5.2.2.2.2.1.fz F9 (by omega) (by omega) (fun _ _ _ q => q)) hX6
  have c6 := tri_F w7 c5 w1
  have FF : FZ triF triW triO M M6 := (((qF.trans sF).trans sF5).trans (F9.more (fun a k q => by unfold triF; omega) (fun _ q => q.elim) (fun _ q => q.elim))).trans (gw_tri w7)
  have et : trodB T P c n a b = decide (c ∈ ss6) := by unfold trodB; rw [g1]
  rw [et]
  have z10 : zI M6 104 10 = bI (decide (c ∈ ss6)) := w6.2
  rcases nbs_58 w1.sq H with ⟨a1, u1, u2⟩ | ⟨a1, u1, u2⟩
  · rw [z10, bI_0] at a1
    rw [u1, u2, a1]
    exact ⟨rfl, c6, FF⟩
  · rw [z10, bI_0, Bool.not_eq_false] at a1
    rw [u1, u2, a1]
    exact ⟨rfl, c6, FF⟩
end CFEN
/-! FENCES: both sides -/
noncomputable def fe1 (T : TS) (P : PK) (c : Int32) (t : Nat) (o : Nat → Int32) : Nat → Nat → Option (Int32 × Int32 × Int32)
  | 0, _ => none
  | r + 1, i => if trodB T P c t (o i) (-1) = false then some (1, o i, -1) else fe1 T P c t o r (i + 1)
noncomputable def fe2j (T : TS) (P : PK) (c : Int32) (t : Nat) (o : Nat → Int32) (i : Nat) : Nat → Nat → Option (Int32 × Int32 × Int32)
  | 0, _ => none
  | r + 1, j => if trodB T P c t (o i) (o j) = false then some (2, o i, o j) else fe2j T P c t o i r (j + 1)
noncomputable def orE (a b : Option (Int32 × Int32 × Int32)) : Option (Int32 × Int32 × Int32) := match a with
  | some q => some q
  | none => b
noncomputable def fe2 (T : TS) (P : PK) (c : Int32) (t : Nat) (o : Nat → Int32) : Nat → Nat → Option (Int32 × Int32 × Int32)
  | 0, _ => none
  | r + 1, i => orE (fe2j T P c t o i r (i + 1)) (fe2 T P c t o r (i + 1))
noncomputable def fenA (T : TS) (P : PK) (c : Int32) (t : Nat) (o : Nat → Int32) (n : Nat) : Option (Int32 × Int32 × Int32) :=
  if trodB T P c t (-1) (-1) = false then some (0, -1, -1) else orE (fe1 T P c t o n 0) (fe2 T P c t o n 0)
noncomputable def fenR (a : Option (Int32 × Int32 × Int32)) : Int32 := match a with
  | some q => q.1
  | none => -1
def fok (P : PK) (x : Int32) : Prop := inC P x ∧ opnB P x = true ∧ hasP P x = false ∧ wthP P x = false
def fenN (P : PK) (c t z : Int32) (o : Nat → Int32) (n : Nat) : Prop := ¬ inC P c ∨ ¬ inX t 1 100 ∨ ¬ inX z 1 12 ∨ ∃ i, i < n ∧ ¬ fok P (o i)
/-- what the latest fences told, on the class's side and on the reference's -/
def FNc (q : Int32 × Int32 × Int32) (M : Mem) : Prop := zI M 0 14 = q.1 ∧ rN M 343 0 = q.2.1 ∧ rN M 343 1 = q.2.2
def FNr (q : Int32 × Int32 × Int32) (M : Mem) : Prop := zI M 633 53 = q.1 ∧ rN M 656 0 = q.2.1 ∧ rN M 656 1 = q.2.2
section FENC
variable {e B L : Nat} {T T' : TS} {P P' P0 Q : PK} {PI : Nat → PK} {M M0 M1 M' : Mem} {v : Option Value} {c k d x a b t y ws z : Int32} {n i j tt : Nat} {o : Nat → Int32}
theorem fto_l (h : CST T P PI M) (hz : (zI M 1 1).toInt = (n : Int)) (ho : ∀ i, i < n → rN M 2 i = o i) : ∀ (r i : Nat) (iz : Int32) (c4 : Option Value), iz.toInt = (i : Int) → i + r = n → (∀ j, j < i → fok P (o j)) → Ev none e 109 38 [some (.ref 0), some (.int c), some (.int t), some (.int iz), c4] [] M v M' 0 0 → M' = M ∧ ((v = some (.int 1) ∧ ∀ j, j < n → fok P (o j)) ∨ (v = some (.int 0) ∧ ∃ j, j < n ∧ ¬ fok P (o j))) := by
  have ub := i32_any (zI M 1 1)
  have hD := h.ok.1
  intro r
  induction r with
  | zero =>
    intro i iz c4 hi hn hg H
    rcases fto_38 h.sq H with ⟨_, r1, r2⟩ | ⟨a1, _⟩
    · exact ⟨r2, Or.inl ⟨r1, fun j hj => hg j (by omega)⟩⟩
    · exact absurd (Int32.le_iff_toInt_le.mpr (by omega)) a1
  | succ r ih =>
    intro i iz c4 hi hn hg H
    have er : rI M 2 iz = o i := (rI_n hi).trans (ho i (by omega))
    have z0 : (0 : Int32).toInt = 0 := rfl
    rcases fto_38 h.sq H with ⟨a1, _⟩ | ⟨_, _, e1, v1, M1, _, H1, H⟩
    · have := Int32.le_iff_toInt_le.mp a1
      omega
    · rw [er] at H1 H
      obtain ⟨rv1, rm1⟩ := isc_0 h.sq h.ld H1
      rw [rv1, rm1] at H
      rcases fto_66 h.sq h.ld H with ⟨a1, r1, r2⟩ | ⟨a1, a2, r1, r2⟩ | ⟨a1, a2, e2, v2, M2, _, H2, H⟩
      · rw [isc_ok h.lan hD.1] at a1
        exact ⟨r2, Or.inr ⟨r1, i, by omega, fun q => a1 q.1⟩⟩
      · rw [isc_ok h.lan hD.1, Classical.not_not] at a1
        rw [g7L h.lan.2.2.1 a1, bI_0] at a2
        exact ⟨r2, Or.inr ⟨r1, i, by omega, fun q => by have zq := q.2.1; rw [a2] at zq; cases zq⟩⟩
      · rw [isc_ok h.lan hD.1, Classical.not_not] at a1
        rw [g7L h.lan.2.2.1 a1, bI_0, Bool.not_eq_false] at a2
        obtain ⟨rm2, rv2⟩ := hsd_ok h.sq lnd_8 h.lan hD H2
        rw [rv2, rm2] at H
        have hcr : rI M (8 + 8) (o i) = crdP P (o i) (P 157).toInt.toNat := h.lan.2.2.2.2 _ a1
        rcases fto_90 h.sq h.ld H with ⟨b1, b2, _, H⟩ | ⟨b1, b2, _, r1, r2⟩ | ⟨b1, r1, r2⟩
        · rw [bI_0] at b1
          rw [hcr] at b2
          have b2 := Int32.le_iff_toInt_le.mp b2
          have hw : wthP P (o i) = false := by
            rw [Bool.eq_false_iff]
            intro q
            rw [← wth_crd h.ok.k60] at q
            have := Int32.lt_iff_toInt_lt.mp q
            omega
          refine ih (i + 1) (iz + 1) _ (by rw [i32_p1 (by omega)]; omega) (by omega) (fun j hj => ?_) H
          by_cases hji : j = i
          · rw [hji]
            exact ⟨a1, a2, b1, hw⟩
          · exact hg j (by omega)
        · rw [hcr] at b2
          have b2' : ¬ (crdP P (o i) (P 157).toInt.toNat).toInt ≤ (0 : Int32).toInt := fun s => b2 (Int32.le_iff_toInt_le.mpr s)
          have hp : 0 < crdP P (o i) (P 157).toInt.toNat := Int32.lt_iff_toInt_lt.mpr (by omega)
          exact ⟨r2, Or.inr ⟨r1, i, by omega, fun q => by have zq := q.2.2.2; rw [(wth_crd h.ok.k60).mp hp] at zq; cases zq⟩⟩
        · rw [bI_0, Bool.not_eq_false] at b1
          exact ⟨r2, Or.inr ⟨r1, i, by omega, fun q => by have zq := q.2.2.1; rw [b1] at zq; cases zq⟩⟩
theorem fto_ok (h : CST T P PI M) (hz : (zI M 1 1).toInt = (n : Int)) (ho : ∀ i, i < n → rN M 2 i = o i) (H : Ev none e 109 0 [some (.ref 0), some (.int c), some (.int t), none, none] [] M v M' 0 0) : M' = M ∧ ((¬ fenN P c t (zI M 1 1) o n ∧ v = some (.int 1)) ∨ (fenN P c t (zI M 1 1) o n ∧ v = some (.int 0))) := by
  have hD := h.ok.1
  unfold fenN
  obtain ⟨e1, v1, M1, _, H1, H⟩ := fto_0 h.sq H
  obtain ⟨rv1, rm1⟩ := isc_0 h.sq h.ld H1
  rw [rv1, rm1] at H
  rcases fto_5 h.sq H with ⟨a1, r1, r2⟩ | ⟨_, a1, r1, r2⟩ | ⟨_, _, a1, r1, r2⟩ | ⟨a1, a2, a3, H⟩
  · rw [isc_ok h.lan hD.1] at a1
    exact ⟨r2, Or.inr ⟨Or.inl a1, r1⟩⟩
  · rw [g126_R] at a1
    exact ⟨r2, Or.inr ⟨Or.inr (Or.inl a1), r1⟩⟩
  · rw [g126_R] at a1
    exact ⟨r2, Or.inr ⟨Or.inr (Or.inr (Or.inl a1)), r1⟩⟩
  · rw [isc_ok h.lan hD.1, Classical.not_not] at a1
    rw [g126_R, Classical.not_not] at a2 a3
    obtain ⟨rm, rv⟩ := fto_l h hz ho n 0 0 none rfl (by omega) (fun j hj => absurd hj (Nat.not_lt_zero _)) H
    rcases rv with ⟨rv, g⟩ | ⟨rv, i, i1, i2⟩
    · refine ⟨rm, Or.inl ⟨fun q => ?_, rv⟩⟩
      rcases q with q | q | q | ⟨i, i1, i2⟩
      · exact q a1
      · exact q a2
      · exact q a3
      · exact i2 (g i i1)
    · exact ⟨rm, Or.inr ⟨Or.inr (Or.inr (Or.inr ⟨i, i1, i2⟩)), rv⟩⟩
/-- between the trials of fences -/
def FIV (T : TS) (P : PK) (PI : Nat → PK) (z : Int32) (n : Nat) (o : Nat → Int32) (M0 M : Mem) : Prop := CST T P PI M ∧ zI M 1 1 = z ∧ (∀ i, i < n → rN M 2 i = o i) ∧ zI M 0 14 = zI M0 0 14 ∧ ∀ j, rN M 343 j = rN M0 343 j
theorem FIV.tri (h : FIV T P PI z n o M0 M) (hC : CST T P PI M') (hF : FZ triF triW triO M M') : FIV T P PI z n o M0 M' := ⟨hC, (hF.fi (by unfold triF; omega)).trans h.2.1, fun i hi => (hF.rn (by unfold triW; omega)).trans (h.2.2.1 i hi), (hF.fi (by unfold triF; omega)).trans h.2.2.2.1, fun j => (hF.rn (by unfold triW; omega)).trans (h.2.2.2.2 j)⟩
theorem x112_ok {n9 : Int32} (h : CST T P PI M) : CST T P PI (X_112 M n9 a b) ∧ FNc (n9, a, b) (X_112 M n9 a b) := by
  have i0 : (0 : Int32).toNatClampNeg = 0 := rfl
  have i1 : (1 : Int32).toNatClampNeg = 1 := rfl
  unfold X_112
  rw [i0, i1]
  have hF : FZ (fun a k => a = 0 ∧ k = 14) (fun a => a = 343) noO M (wI (wI (wF M 0 14 n9) 343 0 a) 343 1 b) := ((FZ.wF (F := fun a k => a = 0 ∧ k = 14) ⟨rfl, rfl⟩).trans (FZ.wI (W := fun a => a = 343) rfl)).trans (FZ.wI rfl)
  have l1 : (zrw (wF M 0 14 n9) 343).length = 2 := (h.sq.kf.1.row qa_343 qw_59).2
  have l2 : (zrw (wI (wF M 0 14 n9) 343 0 a) 343).length = 2 := (h.sq.kf.ki.1.row qa_343 qw_59).2
  refine ⟨h.scr h.sq.kf.ki.ki hF ⟨by omega, by omega, by omega⟩ (fun L hL _ => ⟨fun a k q1 q2 q => ?_, fun a q1 q2 => ?_⟩) (fun t ht => ⟨fun k q => ?_, fun k k1 k8 => ?_⟩) ⟨fun q => q, fun q => q, fun q => q⟩ (fun _ _ _ q => q) (fun L hL => ⟨fun k hk => (hF.on (fun q => q)).trans ((h.2.2.2.2.2.1 L hL).1 k hk), (h.2.2.2.2.2.1 L hL).2.on (fun j => hF.on (fun q => q))⟩) (h.2.2.2.2.1.fz hF (by omega) (by omega) (fun a _ _ => by omega)) (by omega), ?_, ?_, ?_⟩
  · have := ld_cases hL
    have := q.1
    omega
  · have := ld_cases hL
    omega
  · have := tx_cases ht
    have := q.1
    omega
  · have := tx_cases ht
    omega
  · rw [fI_wI, fI_wI]
    exact fI_wF_eq h.sq.1 qa_0 qi_0_14
  · rw [rN_wI_ne (by omega)]
    exact rN_wI_eq (by omega)
  · exact rN_wI_eq (by omega)
theorem ffe1_l (ht : t.toInt = (tt : Int)) (ht1 : tt ≤ 100) (hz : z.toInt = (n : Int)) (hok : ∀ i, i < n → fok P (o i)) : ∀ (r i : Nat) (iz : Int32) (c4 : Option Value) (M : Mem), FIV T P PI z n o M0 M → iz.toInt = (i : Int) → i + r = n → Ev none e 110 21 [some (.ref 0), some (.int c), some (.int t), some (.int iz), c4] [] M v M' 0 0 → (∃ q, fe1 T P c tt o r i = some q ∧ v = some (.int q.1) ∧ CST T P PI M' ∧ FNc q M') ∨ (fe1 T P c tt o r i = none ∧ ∃ M1, FIV T P PI z n o M0 M1 ∧ ∃ c4, Ev none e 110 75 [some (.ref 0), some (.int c), some (.int t), some (.int 0), c4] [] M1 v M' 0 0) := by
  have ub := i32_any z
  intro r
  induction r with
  | zero =>
    intro i iz c4 M h hi hn H
    rcases ffe_21 h.1.sq H with ⟨_, H⟩ | ⟨a1, _⟩
    · exact Or.inr ⟨rfl, M, h, _, H⟩
    · exact absurd (Int32.le_iff_toInt_le.mpr (by rw [h.2.1]; omega)) a1
  | succ r ih =>
    intro i iz c4 M h hi hn H
    rcases ffe_21 h.1.sq H with ⟨a1, _⟩ | ⟨_, _, e1, v1, M1, _, H1, H⟩
    · rw [h.2.1] at a1
      have := Int32.le_iff_toInt_le.mp a1
      omega
    · have er : rI M 2 iz = o i := (rI_n hi).trans (h.2.2.1 i (by omega))
      rw [er] at H1
      obtain ⟨rv, q1, q2⟩ := nbs_ok h.1 (Or.inr (hok i (by omega)).1) (Or.inl rfl) ht ht1 H1
      rw [rv] at H
      have h1 := h.tri q1 q2
      unfold fe1
      rcases ffe_48 q1.sq H with ⟨a1, H⟩ | ⟨a1, _, r1, r2⟩
      · rw [bI_0, Bool.not_eq_false'] at a1
        rw [if_neg (by rw [a1]; decide)]
        exact ih (i + 1) (iz + 1) c4 M1 h1 (by rw [i32_p1 (by omega)]; omega) (by omega) H
      · rw [bI_0, Bool.not_eq_false'] at a1
        rw [Bool.not_eq_true] at a1
        have er1 : rI M1 2 iz = o i := (rI_n hi).trans (h1.2.2.1 i (by omega))
        rw [er1] at r1 r2
        obtain ⟨u1, u2⟩ := x112_ok (n9 := 1) (a := o i) (b := -1) q1
        rw [if_pos a1]
        exact Or.inl ⟨_, rfl, r1, r2 ▸ u1, r2 ▸ u2⟩
theorem ffe2j_l (ht : t.toInt = (tt : Int)) (ht1 : tt ≤ 100) (hz : z.toInt = (n : Int)) (hok : ∀ i, i < n → fok P (o i)) {i : Nat} {iz : Int32} (hi : iz.toInt = (i : Int)) (hin : i < n) : ∀ (r j : Nat) (jz : Int32) (M : Mem), FIV T P PI z n o M0 M → jz.toInt = (j : Int) → j + r = n → Ev none e 110 91 [some (.ref 0), some (.int c), some (.int t), some (.int iz), some (.int jz)] [] M v M' 0 0 → (∃ q, fe2j T P c tt o i r j = some q ∧ v = some (.int q.1) ∧ CST T P PI M' ∧ FNc q M') ∨ (fe2j T P c tt o i r j = none ∧ ∃ M1, FIV T P PI z n o M0 M1 ∧ ∃ c4, Ev none e 110 75 [some (.ref 0), some (.int c), some (.int t), some (.int (iz + 1)), c4] [] M1 v M' 0 0) := by
  have ub := i32_any z
  intro r
  induction r with
  | zero =>
    intro j jz M h hj hn H
    rcases ffe_91 h.1.sq H with ⟨_, H⟩ | ⟨a1, _⟩
    · exact Or.inr ⟨rfl, M, h, _, H⟩
    · exact absurd (Int32.le_iff_toInt_le.mpr (by rw [h.2.1]; omega)) a1
  | succ r ih =>
    intro j jz M h hj hn H
    rcases ffe_91 h.1.sq H with ⟨a1, _⟩ | ⟨_, _, _, e1, v1, M1, _, H1, H⟩
    · rw [h.2.1] at a1
      have := Int32.le_iff_toInt_le.mp a1
      omega
    · have er : rI M 2 iz = o i := (rI_n hi).trans (h.2.2.1 i hin)
      have es : rI M 2 jz = o j := (rI_n hj).trans (h.2.2.1 j (by omega))
      rw [er, es] at H1
      obtain ⟨rv, q1, q2⟩ := nbs_ok h.1 (Or.inr (hok i hin).1) (Or.inr (hok j (by omega)).1) ht ht1 H1
      rw [rv] at H
      have h1 := h.tri q1 q2
      unfold fe2j
      rcases ffe_128 q1.sq H with ⟨a1, H⟩ | ⟨a1, _, _, r1, r2⟩
      · rw [bI_0, Bool.not_eq_false'] at a1
        rw [if_neg (by rw [a1]; decide)]
        exact ih (j + 1) (jz + 1) M1 h1 (by rw [i32_p1 (by omega)]; omega) (by omega) H
      · rw [bI_0, Bool.not_eq_false'] at a1
        rw [Bool.not_eq_true] at a1
        have er1 : rI M1 2 iz = o i := (rI_n hi).trans (h1.2.2.1 i hin)
        have es1 : rI M1 2 jz = o j := (rI_n hj).trans (h1.2.2.1 j (by omega))
        rw [er1, es1] at r1 r2
        obtain ⟨u1, u2⟩ := x112_ok (n9 := 2) (a := o i) (b := o j) q1
        rw [if_pos a1]
        exact Or.inl ⟨_, rfl, r1, r2 ▸ u1, r2 ▸ u2⟩
theorem ffe2_l (ht : t.toInt = (tt : Int)) (ht1 : tt ≤ 100) (hz : z.toInt = (n : Int)) (hok : ∀ i, i < n → fok P (o i)) : ∀ (r i : Nat) (iz : Int32) (c4 : Option Value) (M : Mem), FIV T P PI z n o M0 M → iz.toInt = (i : Int) → i + r = n → Ev none e 110 75 [some (.ref 0), some (.int c), some (.int t), some (.int iz), c4] [] M v M' 0 0 → (∃ q, fe2 T P c tt o r i = some q ∧ v = some (.int q.1) ∧ CST T P PI M' ∧ FNc q M') ∨ (fe2 T P c tt o r i = none ∧ v = some (.int (-1)) ∧ FIV T P PI z n o M0 M') := by
  have ub := i32_any z
  intro r
  induction r with
  | zero =>
    intro i iz c4 M h hi hn H
    rcases ffe_75 h.1.sq H with ⟨_, r1, r2⟩ | ⟨a1, _⟩
    · exact Or.inr ⟨rfl, r1, r2 ▸ h⟩
    · exact absurd (Int32.le_iff_toInt_le.mpr (by rw [h.2.1]; omega)) a1
  | succ r ih =>
    intro i iz c4 M h hi hn H
    rcases ffe_75 h.1.sq H with ⟨a1, _⟩ | ⟨_, H⟩
    · rw [h.2.1] at a1
      have := Int32.le_iff_toInt_le.mp a1
      omega
    · have e1 : (iz + 1).toInt = ((i + 1 : Nat) : Int) := by rw [i32_p1 (by omega)]; omega
      unfold fe2
      rcases ffe2j_l ht ht1 hz hok hi (by omega) r (i + 1) (iz + 1) M h e1 (by omega) H with ⟨q, q1, q2, q3, q4⟩ | ⟨q1, M1, q2, c5, H⟩
      · rw [q1]
        exact Or.inl ⟨q, rfl, q2, q3, q4⟩
      · rw [q1]
        exact ih (i + 1) (iz + 1) c5 M1 q2 e1 (by omega) H
theorem fences_ok (h : CST T P PI M) (hz : (zI M 1 1).toInt = (n : Int)) (ho : ∀ i, i < n → rN M 2 i = o i) (H : Ev none e 108 0 [some (.ref 0), some (.int c), some (.int t), none] [] M v M' 0 0) : CST T P PI M' ∧ ((fenN P c t (zI M 1 1) o n ∧ v = some (.int (-2)) ∧ M' = wF M 1 1 0) ∨ (¬ fenN P c t (zI M 1 1) o n ∧ v = some (.int (fenR (fenA T P c t.toInt.toNat o n))) ∧ (∀ q, fenA T P c t.toInt.toNat o n = some q → FNc q M') ∧ (fenA T P c t.toInt.toNat o n = none → zI M' 0 14 = zI M 0 14 ∧ ∀ j, rN M' 343 j = rN M 343 j))) := by
  obtain ⟨e1, v1, M1, _, H1, H⟩ := fnc_0 h.sq H
  obtain ⟨rm, rv⟩ := fto_ok h hz ho H1
  rw [rm] at H
  have o1 : ¬ ((1 : Int32) = 0) := by decide
  rcases rv with ⟨hN, rv⟩ | ⟨hN, rv⟩
  · rw [rv] at H
    rcases fnc_6 h.sq H with ⟨q, _⟩ | ⟨_, e2, v2, M2, _, H2, H⟩
    · exact absurd q o1
    · have hok : ∀ i, i < n → fok P (o i) := fun i hi => Classical.not_not.mp (fun q => hN (Or.inr (Or.inr (Or.inr ⟨i, hi, q⟩))))
      have ht : inX t 1 100 := Classical.not_not.mp (fun q => hN (Or.inr (Or.inl q)))
      have t1 : 1 ≤ t.toInt := ht.1
      have t100 : t.toInt ≤ 100 := ht.2
      have ht2 : t.toInt = (t.toInt.toNat : Int) := by omega
      have iv0 : FIV T P PI (zI M 1 1) n o M M := ⟨h, rfl, ho, rfl, fun _ => rfl⟩
      have fin : (∃ q, fenA T P c t.toInt.toNat o n = some q ∧ v2 = some (.int q.1) ∧ CST T P PI M2 ∧ FNc q M2) ∨ (fenA T P c t.toInt.toNat o n = none ∧ v2 = some (.int (-1)) ∧ FIV T P PI (zI M 1 1) n o M M2) := by
        obtain ⟨e3, v3, M3, _, H3, H2⟩ := ffe_0 h.sq H2
        obtain ⟨rv3, q1, q2⟩ := nbs_ok h (Or.inl rfl) (Or.inl rfl) ht2 (by omega) H3
        rw [rv3] at H2
        have h1 := iv0.tri q1 q2
        unfold fenA
        rcases ffe_8 q1.sq H2 with ⟨a1, H2⟩ | ⟨a1, r1, r2⟩
        · rw [bI_0, Bool.not_eq_false'] at a1
          rw [if_neg (by rw [a1]; decide)]
          rcases ffe1_l ht2 (by omega) hz hok n 0 0 none M3 h1 rfl (by omega) H2 with ⟨q, s1, s2, s3, s4⟩ | ⟨s1, M4, s2, c5, H2⟩
          · rw [s1]
            exact Or.inl ⟨q, rfl, s2, s3, s4⟩
          · rw [s1]
            exact ffe2_l ht2 (by omega) hz hok n 0 0 c5 M4 s2 rfl (by omega) H2
        · rw [bI_0, Bool.not_eq_false'] at a1
          rw [Bool.not_eq_true] at a1
          obtain ⟨u1, u2⟩ := x112_ok (n9 := 0) (a := -1) (b := -1) q1
          rw [if_pos a1]
          exact Or.inl ⟨_, rfl, r1, r2 ▸ u1, r2 ▸ u2⟩
      have f14 : ∀ N : Mem, zI (wF N 1 1 0) 0 14 = zI N 0 14 := fun N => fI_wF_ne (by decide)
      rcases fin with ⟨q, s1, s2, s3, s4⟩ | ⟨s1, s2, s3⟩
      · rw [s2] at H
        obtain ⟨r1, r2⟩ := fnc_15 s3.sq H
        rw [s1]
        refine ⟨r2 ▸ s3.tp, Or.inr ⟨hN, r1, fun q' hq => ?_, fun hq => by cases hq⟩⟩
        cases hq
        rw [r2]
        exact ⟨(f14 _).trans s4.1, rN_wF.trans s4.2.1, rN_wF.trans s4.2.2⟩
      · rw [s2] at H
        obtain ⟨r1, r2⟩ := fnc_15 s3.1.sq H
        rw [s1]
        refine ⟨r2 ▸ s3.1.tp, Or.inr ⟨hN, r1, (fun q' hq => by cases hq), fun _ => ?_⟩⟩
        rw [r2]
        exact ⟨(f14 _).trans s3.2.2.2.1, fun j => rN_wF.trans (s3.2.2.2.2 j)⟩
  · rw [rv] at H
    rcases fnc_6 h.sq H with ⟨_, r1, r2⟩ | ⟨a1, _⟩
    · exact ⟨r2 ▸ h.tp, Or.inl ⟨hN, r1, r2⟩⟩
    · exact absurd rfl a1
end FENC
/-! FENCES: the reference's -/
section RFEN
variable {e B L : Nat} {T T' : TS} {P P' P0 Q : PK} {M M0 M1 M' : Mem} {v : Option Value} {c k d x a b t y ws z f : Int32} {n i j tt : Nat} {o : Nat → Int32}
theorem rfn_t (h : RST T P M) (hD : okD P) (hK : okK P) (hz : (zI M 633 3).toInt = (n : Int)) (ho : ∀ i, i < n → rN M 634 i &&& 255 = o i) : ∀ (r i : Nat) (iz : Int32), iz.toInt = (i : Int) → i + r = n → (∀ j, j < i → fok P (o j)) → Ev none e 235 45 [some (.ref 633), some (.int c), some (.int t), some (.int iz), none, none] [] M v M' 0 0 → (v = some (.int (-2)) ∧ M' = M ∧ ∃ j, j < n ∧ ¬ fok P (o j)) ∨ ((∀ j, j < n → fok P (o j)) ∧ ∃ jz, Ev none e 235 110 [some (.ref 633), some (.int c), some (.int t), some (.int jz), none, none] [] M v M' 0 0) := by
  have ub := i32_any (zI M 633 3)
  intro r
  induction r with
  | zero =>
    intro i iz hi hn hg H
    rcases rfn_45 h.1 H with ⟨_, H⟩ | ⟨a1, _⟩ | ⟨a1, _⟩ | ⟨a1, _⟩
    · exact Or.inr ⟨fun j hj => hg j (by omega), _, H⟩
    all_goals exact absurd (Int32.le_iff_toInt_le.mpr (by omega)) a1
  | succ r ih =>
    intro i iz hi hn hg H
    have er : G_142 M iz = o i := by
      unfold G_142
      rw [rI_n hi]
      exact ho i (by omega)
    rcases rfn_45 h.1 H with ⟨a1, _⟩ | ⟨_, a1, r1, r2⟩ | ⟨_, a1, a2, r1, r2⟩ | ⟨_, a1, a2, e1, v1, M1, _, H1, H⟩
    · have := Int32.le_iff_toInt_le.mp a1
      omega
    · rw [er, g145_ok h hD.1] at a1
      exact Or.inl ⟨r1, r2, i, by omega, fun q => a1 q.1⟩
    · rw [er, g145_ok h hD.1, Classical.not_not] at a1
      rw [er, g148_ok h hD.1 a1, bI_0] at a2
      exact Or.inl ⟨r1, r2, i, by omega, fun q => by have zq := q.2.1; rw [a2] at zq; cases zq⟩
    · rw [er, g145_ok h hD.1, Classical.not_not] at a1
      rw [er, g148_ok h hD.1 a1, bI_0, Bool.not_eq_false] at a2
      rw [er] at H1
      obtain ⟨rm, rv⟩ := rda_ok h hD H1
      rw [rv, rm] at H
      rcases rfn_86 h.1 H with ⟨b1, e2, v2, M2, _, H2, H⟩ | ⟨b1, r1, r2⟩
      · rw [bI_0] at b1
        rw [er] at H2
        obtain ⟨rm2, rv2⟩ := rwa_ok h hK H2
        rw [rv2, rm2] at H
        rcases rfn_98 h.1 H with ⟨b2, H⟩ | ⟨b2, r1, r2⟩
        · rw [bI_0] at b2
          refine ih (i + 1) (iz + 1) (by rw [i32_p1 (by omega)]; omega) (by omega) (fun j hj => ?_) H
          by_cases hji : j = i
          · rw [hji]
            exact ⟨a1, a2, b1, b2⟩
          · exact hg j (by omega)
        · rw [bI_0, Bool.not_eq_false] at b2
          exact Or.inl ⟨r1, r2, i, by omega, fun q => by have zq := q.2.2.2; rw [b2] at zq; cases zq⟩
      · rw [bI_0, Bool.not_eq_false] at b1
        exact Or.inl ⟨r1, r2, i, by omega, fun q => by have zq := q.2.2.1; rw [b1] at zq; cases zq⟩
def RIV (T : TS) (P : PK) (c z : Int32) (n : Nat) (o : Nat → Int32) (M0 M : Mem) : Prop := RST T P M ∧ (∃ b, zI M 633 42 = bI b) ∧ zI M 633 40 = c ∧ zI M 633 3 = z ∧ (∀ i, i < n → rN M 634 i &&& 255 = o i) ∧ zI M 633 53 = zI M0 633 53 ∧ ∀ j, rN M 656 j = rN M0 656 j
theorem RIV.it (h : RIV T P c z n o M0 M) (hR : RST T P M') (hb : ∃ b, zI M' 633 42 = bI b) (h40 : zI M' 633 40 = zI M 633 40) (hF : FZ rkF ritW noO M M') : RIV T P c z n o M0 M' := ⟨hR, hb, h40.trans h.2.2.1, (hF.fi (by unfold rkF; omega)).trans h.2.2.2.1, fun i hi => by rw [hF.rn (by unfold ritW; decide)]; exact h.2.2.2.2.1 i hi, (hF.fi (by unfold rkF; omega)).trans h.2.2.2.2.2.1, fun j => (hF.rn (by unfold ritW; decide)).trans (h.2.2.2.2.2.2 j)⟩
theorem RIV.oc (h : RIV T P c z n o M0 M) {iz : Int32} (hi : iz.toInt = (i : Int)) (hin : i < n) : G_142 M iz = o i := by
  unfold G_142
  rw [rI_n hi]
  exact h.2.2.2.2.1 i hin
/-- what fences tells in the end -/
def FRE (T : TS) (P : PK) (z : Int32) (M0 : Mem) (r : Option (Int32 × Int32 × Int32)) (v : Option Value) (M' : Mem) : Prop := v = some (.int (fenR r)) ∧ RST T P M' ∧ (∀ q, r = some q → FNr q M') ∧ (r = none → zI M' 633 53 = zI M0 633 53 ∧ ∀ j, rN M' 656 j = rN M0 656 j)
theorem x234_ok {n9 : Int32} (h : RST T P M) : RST T P (X_234 M n9 a b) ∧ FNr (n9, a, b) (X_234 M n9 a b) ∧ zI (X_234 M n9 a b) 633 3 = zI M 633 3 := by
  have i0 : (0 : Int32).toNatClampNeg = 0 := rfl
  have i1 : (1 : Int32).toNatClampNeg = 1 := rfl
  unfold X_234
  rw [i0, i1]
  have hF : FZ (fun a k => a = 633 ∧ k = 53) (fun a => a = 656) noO M (wI (wI (wF M 633 53 n9) 656 0 a) 656 1 b) := ((FZ.wF (F := fun a k => a = 633 ∧ k = 53) ⟨rfl, rfl⟩).trans (FZ.wI (W := fun a => a = 656) rfl)).trans (FZ.wI rfl)
  have l1 : (zrw (wF M 633 53 n9) 656).length = 2 := (h.1.kf.1.row qa_656 qw_84).2
  have l2 : (zrw (wI (wF M 633 53 n9) 656 0 a) 656).length = 2 := (h.1.kf.ki.1.row qa_656 qw_84).2
  refine ⟨h.fz h.1.kf.ki.ki hF (fun k h1 h2 q => by omega) (fun a ha q => by omega), ⟨?_, ?_, ?_⟩, hF.fi (by omega)⟩
  · rw [fI_wI, fI_wI]
    exact fI_wF_eq h.1.1 qa_633 qi_61_53
  · rw [rN_wI_ne (by omega)]
    exact rN_wI_eq (by omega)
  · exact rN_wI_eq (by omega)
/-- found: nothing more is tried -/
theorem rfn_o190 {i5 : Int32} {c5 : Option Value} (h : RST T P M) (hf : 0 ≤ f) (hq : FNr (f, a, b) M) (H : Ev none e 235 190 [some (.ref 633), some (.int c), some (.int t), some (.int f), some (.int i5), c5] [] M v M' 0 0) : FRE T P z M0 (some (f, a, b)) v M' := by
  have g : ∀ r2 : M' = wF M 633 40 (-1), v = some (.int f) → FRE T P z M0 (some (f, a, b)) v M' := fun r2 r1 => by
    refine ⟨r1, r2 ▸ h.w0 40 (by decide) _, fun q hq' => ?_, fun q => by cases q⟩
    cases hq'
    rw [r2]
    exact ⟨(fI_wF_ne (by decide)).trans hq.1, rN_wF.trans hq.2.1, rN_wF.trans hq.2.2⟩
  rcases rfn_190 h.1 H with ⟨_, r1, r2⟩ | ⟨_, _, r1, r2⟩ | ⟨_, a1, _⟩
  · exact g r2 r1
  · exact g r2 r1
  · exact absurd hf a1
theorem rfn_o140 {i5 : Int32} {c5 : Option Value} (h : RST T P M) (hf : 0 ≤ f) (hq : FNr (f, a, b) M) (H : Ev none e 235 140 [some (.ref 633), some (.int c), some (.int t), some (.int f), some (.int i5), c5] [] M v M' 0 0) : FRE T P z M0 (some (f, a, b)) v M' := by
  rcases rfn_140 h.1 H with ⟨_, H⟩ | ⟨_, _, H⟩ | ⟨_, a1, _⟩
  · exact rfn_o190 h hf hq H
  · exact rfn_o190 h hf hq H
  · exact absurd hf a1
theorem rfn_o209 {i5 j5 : Int32} (h : RST T P M) (hf : 0 ≤ f) (hq : FNr (f, a, b) M) (H : Ev none e 235 209 [some (.ref 633), some (.int c), some (.int t), some (.int f), some (.int i5), some (.int j5)] [] M v M' 0 0) : FRE T P z M0 (some (f, a, b)) v M' := by
  rcases rfn_209 h.1 H with ⟨_, H⟩ | ⟨_, _, H⟩ | ⟨_, a1, _⟩
  · exact rfn_o190 h hf hq H
  · exact rfn_o190 h hf hq H
  · exact absurd hf a1
theorem nf1 : ¬ (0 : Int32) ≤ -1 := by decide
theorem rfn2j_l (hD : okD P) (hK : okK P) (ht : t.toInt = (tt : Int)) (hz : z.toInt = (n : Int)) (hok : ∀ i, i < n → fok P (o i)) {i : Nat} {iz : Int32} (hi : iz.toInt = (i : Int)) (hin : i < n) : ∀ (r j : Nat) (jz : Int32) (M : Mem), RIV T P c z n o M0 M → jz.toInt = (j : Int) → j + r = n → Ev none e 235 209 [some (.ref 633), some (.int c), some (.int t), some (.int (-1)), some (.int iz), some (.int jz)] [] M v M' 0 0 → (∃ q, fe2j T P c tt o i r j = some q ∧ FRE T P z M0 (some q) v M') ∨ (fe2j T P c tt o i r j = none ∧ ∃ M1, RIV T P c z n o M0 M1 ∧ ∃ c5, Ev none e 235 190 [some (.ref 633), some (.int c), some (.int t), some (.int (-1)), some (.int (iz + 1)), c5] [] M1 v M' 0 0) := by
  have ub := i32_any z
  intro r
  induction r with
  | zero =>
    intro j jz M h hj hn H
    rcases rfn_209 h.1.1 H with ⟨_, H⟩ | ⟨a1, _⟩ | ⟨a1, _⟩
    · exact Or.inr ⟨rfl, M, h, _, H⟩
    all_goals exact absurd (Int32.le_iff_toInt_le.mpr (by rw [h.2.2.2.1]; omega)) a1
  | succ r ih =>
    intro j jz M h hj hn H
    rcases rfn_209 h.1.1 H with ⟨a1, _⟩ | ⟨_, a1, _⟩ | ⟨_, _, e1, v1, M1, _, H1, H⟩
    · rw [h.2.2.2.1] at a1
      have := Int32.le_iff_toInt_le.mp a1
      omega
    · exact absurd a1 nf1
    · rw [h.oc hi hin, h.oc hj (by omega)] at H1
      obtain ⟨rv, q1, q2, q3, q4⟩ := ritro_ok h.1 hD hK h.2.1 (Or.inr (hok i hin).1) (Or.inr (hok j (by omega)).1) ht H1
      rw [h.2.2.1] at rv
      rw [rv] at H
      have h1 := h.it q1 q3 q2 q4
      unfold fe2j
      rcases rfn_239 h1.1.1 H with ⟨a1, H⟩ | ⟨a1, H⟩
      · rw [bI_0] at a1
        rw [if_pos a1]
        rw [h1.oc hi hin, h1.oc hj (by omega)] at H
        obtain ⟨u1, u2, _⟩ := x234_ok (n9 := 2) (a := o i) (b := o j) h1.1
        exact Or.inl ⟨_, rfl, rfn_o209 u1 (by decide) u2 H⟩
      · rw [bI_0, Bool.not_eq_false] at a1
        rw [if_neg (by rw [a1]; decide)]
        exact ih (j + 1) (jz + 1) M1 h1 (by rw [i32_p1 (by omega)]; omega) (by omega) H
theorem rfn2_l (hD : okD P) (hK : okK P) (ht : t.toInt = (tt : Int)) (hz : z.toInt = (n : Int)) (hok : ∀ i, i < n → fok P (o i)) : ∀ (r i : Nat) (iz : Int32) (c5 : Option Value) (M : Mem), RIV T P c z n o M0 M → iz.toInt = (i : Int) → i + r = n → Ev none e 235 190 [some (.ref 633), some (.int c), some (.int t), some (.int (-1)), some (.int iz), c5] [] M v M' 0 0 → FRE T P z M0 (fe2 T P c tt o r i) v M' := by
  have ub := i32_any z
  intro r
  induction r with
  | zero =>
    intro i iz c5 M h hi hn H
    rcases rfn_190 h.1.1 H with ⟨_, r1, r2⟩ | ⟨a1, _⟩ | ⟨a1, _⟩
    · refine ⟨r1, r2 ▸ h.1.w0 40 (by decide) _, (fun q hq => by cases hq), fun _ => ?_⟩
      rw [r2]
      exact ⟨(fI_wF_ne (by decide)).trans h.2.2.2.2.2.1, fun j => rN_wF.trans (h.2.2.2.2.2.2 j)⟩
    all_goals exact absurd (Int32.le_iff_toInt_le.mpr (by rw [h.2.2.2.1]; omega)) a1
  | succ r ih =>
    intro i iz c5 M h hi hn H
    rcases rfn_190 h.1.1 H with ⟨a1, _⟩ | ⟨_, a1, _⟩ | ⟨_, _, H⟩
    · rw [h.2.2.2.1] at a1
      have := Int32.le_iff_toInt_le.mp a1
      omega
    · exact absurd a1 nf1
    · have e1 : (iz + 1).toInt = ((i + 1 : Nat) : Int) := by rw [i32_p1 (by omega)]; omega
      unfold fe2
      rcases rfn2j_l hD hK ht hz hok hi (by omega) r (i + 1) (iz + 1) M h e1 (by omega) H with ⟨q, q1, q2⟩ | ⟨q1, M1, q2, c6, H⟩
      · rw [q1]
        exact q2
      · rw [q1]
        exact ih (i + 1) (iz + 1) c6 M1 q2 e1 (by omega) H
theorem rfn1_l (hD : okD P) (hK : okK P) (ht : t.toInt = (tt : Int)) (hz : z.toInt = (n : Int)) (hok : ∀ i, i < n → fok P (o i)) : ∀ (r i : Nat) (iz : Int32) (c5 : Option Value) (M : Mem), RIV T P c z n o M0 M → iz.toInt = (i : Int) → i + r = n → Ev none e 235 140 [some (.ref 633), some (.int c), some (.int t), some (.int (-1)), some (.int iz), c5] [] M v M' 0 0 → FRE T P z M0 (orE (fe1 T P c tt o r i) (fe2 T P c tt o n 0)) v M' := by
  have ub := i32_any z
  intro r
  induction r with
  | zero =>
    intro i iz c5 M h hi hn H
    rcases rfn_140 h.1.1 H with ⟨_, H⟩ | ⟨a1, _⟩ | ⟨a1, _⟩
    · exact rfn2_l hD hK ht hz hok n 0 0 c5 M h rfl (by omega) H
    all_goals exact absurd (Int32.le_iff_toInt_le.mpr (by rw [h.2.2.2.1]; omega)) a1
  | succ r ih =>
    intro i iz c5 M h hi hn H
    rcases rfn_140 h.1.1 H with ⟨a1, _⟩ | ⟨_, a1, _⟩ | ⟨_, _, e1, v1, M1, _, H1, H⟩
    · rw [h.2.2.2.1] at a1
      have := Int32.le_iff_toInt_le.mp a1
      omega
    · exact absurd a1 nf1
    · rw [h.oc hi (by omega)] at H1
      obtain ⟨rv, q1, q2, q3, q4⟩ := ritro_ok h.1 hD hK h.2.1 (Or.inr (hok i (by omega)).1) (Or.inl rfl) ht H1
      rw [h.2.2.1] at rv
      rw [rv] at H
      have h1 := h.it q1 q3 q2 q4
      unfold fe1
      rcases rfn_165 h1.1.1 H with ⟨a1, H⟩ | ⟨a1, H⟩
      · rw [bI_0] at a1
        rw [if_pos a1]
        rw [h1.oc hi (by omega)] at H
        obtain ⟨u1, u2, _⟩ := x234_ok (n9 := 1) (a := o i) (b := -1) h1.1
        exact rfn_o140 u1 (by decide) u2 H
      · rw [bI_0, Bool.not_eq_false] at a1
        rw [if_neg (by rw [a1]; decide)]
        exact ih (i + 1) (iz + 1) c5 M1 h1 (by rw [i32_p1 (by omega)]; omega) (by omega) H
theorem rfences_ok (hR : RST T P M) (hD : okD P) (hK : okK P) (hb : ∃ b, zI M 633 42 = bI b) (hz : (zI M 633 2).toInt = (n : Int)) (ho : ∀ k, k < n → rN M 634 k &&& 255 = o k) (H : Ev none e 235 0 [some (.ref 633), some (.int c), some (.int t), none, none, none] [] M v M' 0 0) : (fenN P c t (zI M 633 2) o n ∧ v = some (.int (-2)) ∧ RST T P M' ∧ zI M' 633 53 = zI M 633 53 ∧ ∀ j, rN M' 656 j = rN M 656 j) ∨ (¬ fenN P c t (zI M 633 2) o n ∧ FRE T P (zI M 633 2) M (fenA T P c t.toInt.toNat o n) v M') := by
  have h0 : RST T P (X_139 (wF M 633 0 0)) := by
    unfold X_139
    exact (((hR.w0 0 (by decide) 0).w0 3 (by decide) _).w0 2 (by decide) 0).w0 4 (by decide) 0
  have z3 : zI (X_139 (wF M 633 0 0)) 633 3 = zI M 633 2 := by
    unfold X_139
    rw [fI_wF_ne (by decide), fI_wF_ne (by decide), fI_wF_eq hR.1.kf.1 qa_633 qi_61_3, fI_wF_ne (by decide)]
  have zo : ∀ k, k ≠ 0 → k ≠ 2 → k ≠ 3 → k ≠ 4 → zI (X_139 (wF M 633 0 0)) 633 k = zI M 633 k := fun k h1 h2 h3 h4 => by
    unfold X_139
    rw [fI_wF_ne (by omega), fI_wF_ne (by omega), fI_wF_ne (by omega), fI_wF_ne (by omega)]
  have rr : ∀ a j, rN (X_139 (wF M 633 0 0)) a j = rN M a j := fun a j => by
    unfold X_139
    rw [rN_wF, rN_wF, rN_wF, rN_wF]
  obtain ⟨N, eN⟩ : ∃ N, N = X_139 (wF M 633 0 0) := ⟨_, rfl⟩
  have H9 := rfn_0 hR.1 H
  rw [← eN] at h0 z3 zo rr H9
  have no : RST T P N ∧ zI N 633 53 = zI M 633 53 ∧ ∀ j, rN N 656 j = rN M 656 j := ⟨h0, zo 53 (by decide) (by decide) (by decide) (by decide), fun j => rr 656 j⟩
  unfold fenN
  rcases H9 with ⟨a1, r1, r2⟩ | ⟨_, a1, r1, r2⟩ | ⟨_, _, a1, r1, r2⟩ | ⟨a1, a2, a3, H⟩
  · rw [g145_ok h0 hD.1] at a1
    exact Or.inl ⟨Or.inl a1, r1, r2 ▸ no⟩
  · rw [g140_R] at a1
    exact Or.inl ⟨Or.inr (Or.inl a1), r1, r2 ▸ no⟩
  · rw [g140_R, z3] at a1
    exact Or.inl ⟨Or.inr (Or.inr (Or.inl a1)), r1, r2 ▸ no⟩
  · rw [g145_ok h0 hD.1, Classical.not_not] at a1
    rw [g140_R, Classical.not_not] at a2 a3
    rw [z3] at a3
    have t1 : 1 ≤ t.toInt := a2.1
    rcases rfn_t (o := o) h0 hD hK (by rw [z3]; exact hz) (fun i hi => by rw [rr]; exact ho i hi) n 0 0 rfl (by omega) (fun j hj => absurd hj (Nat.not_lt_zero _)) H with ⟨r1, r2, i, i1, i2⟩ | ⟨hok, jz, H⟩
    · exact Or.inl ⟨Or.inr (Or.inr (Or.inr ⟨i, i1, i2⟩)), r1, r2 ▸ no⟩
    · refine Or.inr ⟨fun q => ?_, ?_⟩
      · rcases q with q | q | q | ⟨i, i1, i2⟩
        · exact q a1
        · exact q a2
        · exact q a3
        · exact i2 (hok i i1)
      · obtain ⟨e1, v1, M1, _, H1, H⟩ := rfn_110 h0.1 H
        have ht2 : t.toInt = (t.toInt.toNat : Int) := by omega
        have u0 := h0.w0 40 (by decide) c
        have iv : RIV T P c (zI M 633 2) n o M (wF N 633 40 c) := ⟨u0, by obtain ⟨b, hb⟩ := hb; exact ⟨b, by rw [fI_wF_ne (by decide), zo 42 (by decide) (by decide) (by decide) (by decide)]; exact hb⟩, fI_wF_eq h0.1.1 qa_633 qi_61_40, by rw [fI_wF_ne (by decide)]; exact z3, fun i hi => by rw [rN_wF, rr]; exact ho i hi, by rw [fI_wF_ne (by decide)]; exact no.2.1, fun j => rN_wF.trans (no.2.2 j)⟩
        obtain ⟨rv, q1, q2, q3, q4⟩ := ritro_ok u0 hD hK iv.2.1 (Or.inl rfl) (Or.inl rfl) ht2 H1
        rw [iv.2.2.1] at rv
        rw [rv] at H
        have h1 := iv.it q1 q3 q2 q4
        unfold fenA
        rcases rfn_122 h1.1.1 H with ⟨b1, H⟩ | ⟨b1, H⟩
        · rw [bI_0] at b1
          rw [if_pos b1]
          obtain ⟨w1, w2, _⟩ := x234_ok (n9 := 0) (a := -1) (b := -1) h1.1
          exact rfn_o140 w1 (by decide) w2 H
        · rw [bI_0, Bool.not_eq_false] at b1
          rw [if_neg (by rw [b1]; decide)]
          exact rfn1_l hD hK ht2 hz hok n 0 0 none M1 h1 rfl (by omega) H
end RFEN
/-! THE CLASS'S calls that keep the state: rests, paved, wait, pieces, least, longer -/
set_option maxRecDepth 200000 in
theorem mx_all : (gNth mRs 15).map (fun q => q.2.2.2.1) = some 3 ∧ (gNth mRs 16).map (fun q => q.2.2.2.1) = some 4 ∧ (gNth mRs 17).map (fun q => q.2.2.2.1) = some 5 ∧ (gNth mRs 18).map (fun q => q.2.2.2.1) = some 4 ∧ (gNth mRs 19).map (fun q => q.2.2.2.1) = some 7 ∧ (gNth mRs 21).map (fun q => q.2.2.2.1) = some 7 ∧ (gNth mRs 133).map (fun q => q.2.2.2.1) = some 1 ∧ (gNth mRs 134).map (fun q => q.2.2.2.1) = some 2 := by refine ⟨?_, ?_, ?_, ?_, ?_, ?_, ?_, ?_⟩ <;> decide +kernel
set_option maxRecDepth 200000 in
theorem cls_small : (sG.all (fun t => match t with
  | .inl (ci, _) => Nat.blt ci 12
  | .inr _ => true)) = true := by decide +kernel
set_option maxRecDepth 200000 in
theorem gr_net : ((List.range 664).all (fun a => match gNth sT a with
  | some g => !([42, 43, 44, 47, 48, 49, 50, 51, 52, 53, 54, 55].any (fun c => Nat.beq c g)) || Nat.ble 193 a && Nat.blt a 243
  | none => false)) = true := by decide +kernel
set_option maxRecDepth 200000 in
theorem gr_snow : ((List.range 664).all (fun a => match gNth sT a with
  | some g => (match gNth sG g with
    | some (.inl (ci, _)) => !(Nat.beq ci 4) || Nat.beq a 229
    | _ => true)
  | none => false)) = true := by decide +kernel
def netF (a _k : Nat) : Prop := a = 229 ∨ 664 ≤ a
def netW (a : Nat) : Prop := (193 ≤ a ∧ a < 243) ∨ 664 ≤ a
def netM (md : Md) : Bool := md.all (fun q => [4, 1042, 1043, 1044, 1047, 1048, 1049, 1050, 1051, 1052, 1053, 1054, 1055].any (fun c => Nat.beq c q.1))
section CCAS
variable {e B L a0 k0 : Nat} {wsv : List Value} {T T' : TS} {P P' P0 Q : PK} {PI : Nat → PK} {md : Md} {M M0 M1 M' : Mem} {v : Option Value} {c k d x a b t y ws w : Int32} {n i j tt : Nat} {ss : List Int32} {F : Nat → Nat → Prop} {W O : Nat → Prop}
theorem net_g (ha : a0 < 664) : ∃ g, gNth sT a0 = some g ∧ (g ∈ [42, 43, 44, 47, 48, 49, 50, 51, 52, 53, 54, 55] → 193 ≤ a0 ∧ a0 < 243) := by
  have q := List.all_eq_true.mp gr_net a0 (List.mem_range.mpr ha)
  cases hT : gNth sT a0 with
  | none => rw [hT] at q; cases q
  | some g =>
    rw [hT] at q
    refine ⟨g, rfl, fun hg => ?_⟩
    have q : (!([42, 43, 44, 47, 48, 49, 50, 51, 52, 53, 54, 55].any (fun c => Nat.beq c g)) || Nat.ble 193 a0 && Nat.blt a0 243) = true := q
    have h1 : [42, 43, 44, 47, 48, 49, 50, 51, 52, 53, 54, 55].any (fun c => Nat.beq c g) = true := List.any_eq_true.mpr ⟨g, hg, Nat.beq_refl g⟩
    rw [h1] at q
    have q : (Nat.ble 193 a0 && Nat.blt a0 243) = true := q
    obtain ⟨q1, q2⟩ := and_t q
    exact ⟨Nat.le_of_ble_eq_true q1, Nat.le_of_ble_eq_true q2⟩
theorem net_md (hm : netM md = true) {q : Nat × Nat} (hq : q ∈ md) : q.1 ∈ [4, 1042, 1043, 1044, 1047, 1048, 1049, 1050, 1051, 1052, 1053, 1054, 1055] := any_beq (List.all_eq_true.mp hm q hq)
theorem net_mF (hm : netM md = true) (h : mF md a0 k0) : netF a0 k0 := by
  unfold netF
  rcases Nat.lt_or_ge a0 664 with ha | ha
  · obtain ⟨g, h1, _⟩ := net_g ha
    rcases h with h | ⟨g2, ci, fs, h2, h3, h4⟩
    · rw [h1] at h; cases h
    · have hmem : (.inl (ci, fs) : CT) ∈ sG := by
        rw [nth_eq] at h3
        exact List.mem_of_getElem? h3
      have q : Nat.blt ci 12 = true := List.all_eq_true.mp cls_small _ hmem
      have q : ci < 12 := Nat.le_of_ble_eq_true q
      have r : ci ∈ [4, 1042, 1043, 1044, 1047, 1048, 1049, 1050, 1051, 1052, 1053, 1054, 1055] := net_md hm h4
      simp only [List.mem_cons, List.not_mem_nil, or_false] at r
      have r4 : ci = 4 := by omega
      subst r4
      have s := List.all_eq_true.mp gr_snow a0 (List.mem_range.mpr ha)
      rw [h2] at s
      dsimp only at s
      rw [h3] at s
      have s : (!(Nat.beq 4 4) || Nat.beq a0 229) = true := s
      have s : Nat.beq a0 229 = true := s
      exact Or.inl (Nat.eq_of_beq_eq_true s)
  · exact Or.inr ha
theorem net_mW (hm : netM md = true) (h : mW md a0) : netW a0 := by
  unfold netW
  rcases Nat.lt_or_ge a0 664 with ha | ha
  · obtain ⟨g, h1, h5⟩ := net_g ha
    rcases h with h | ⟨g2, h2, h4⟩
    · rw [h1] at h; cases h
    · rw [h1] at h2
      cases h2
      have r : 1000 + g ∈ [4, 1042, 1043, 1044, 1047, 1048, 1049, 1050, 1051, 1052, 1053, 1054, 1055] := net_md hm h4
      simp only [List.mem_cons, List.not_mem_nil, or_false] at r
      exact Or.inl (h5 (by simp only [List.mem_cons, List.not_mem_nil, or_false]; omega))
  · exact Or.inr ha
/-- rows of the net alone change -/
theorem net_fz (hS : SH M) (hF : Frm sT md M M') (hm : netM md = true) : FZ netF netW netW M M' := (frm_fz hS hF).more (fun _ _ q => net_mF hm q) (fun _ q => net_mW hm q) (fun _ q => net_mW hm q)
theorem STA.nt (h : STA L T P M) (hD : okD P) (hS : SQ M') (hF : FZ netF netW netW M M') : STA L T P M' := by
  have hl := ld_cases h.ld
  obtain ⟨a1, a2, a3, a4, a5, a6, a7⟩ := h
  have fw : ∀ a, a < 193 ∨ (243 ≤ a ∧ a < 664) → ¬ netW a := fun a ha q => by unfold netW at q; omega
  have ff : ∀ a k, a < 193 ∨ (243 ≤ a ∧ a < 664) → ¬ netF a k := fun a k ha q => by unfold netF at q; omega
  have ok : okF L netF netW netW := ⟨⟨ff _ _ (by decide), ff _ _ (by decide)⟩, fun t ht => by
    have := tx_cases ht
    exact ⟨fun k => ff _ _ (by omega), fun k k1 k8 => fw _ (by omega)⟩, ⟨fw _ (by decide), fw _ (by decide)⟩, fw _ (by decide), fw _ (by decide), fw _ (by decide)⟩
  have cr : ∀ c, inC P c → rI M' (L + 8) c = crdP P c (P 157).toInt.toNat := fun c hc => (hF.rn (fw _ (by omega))).trans (a1.2.2.2.2.2.2.2 c hc)
  have lc : LCel L P M' := fun k f hk hf => (hF.rn (fw _ (by omega))).trans (a1.1.2.2.2.2.2.2 k f hk hf)
  exact ⟨a1.mv hS hF ok lc rfl rfl a1.2.2.1 cr, a2.mv rfl rfl (fun _ _ => rfl) (fun b j hb => hF.rn (fw _ (by unfold lkW at hb; omega))), a3.mv hF (ff _ _ (by omega)) (ff _ _ (by omega)) (ff _ _ (by omega)) (ff _ _ (by omega)) (fun k f _ => ff _ _ (by omega)) (fw _ (by omega)) (fun _ _ => rfl) hD.2.1.2.1 hD.2.2.2.1, ⟨(hF.fi (ff _ _ (by omega))).trans a4.1, (hF.fi (ff _ _ (by omega))).trans a4.2.1, (hF.fi (ff _ _ (by omega))).trans a4.2.2.1, (hF.fi (ff _ _ (by omega))).trans a4.2.2.2⟩, fun k hk => (hF.on (fw _ (by omega))).trans (a5 k hk), a6.on (fun j => hF.on (fw _ (by omega))), (hF.fi (ff _ _ (by decide))).trans a7⟩
theorem LST.nt (h : LST L P M) (hL : gNth sT L = some 8) (hk : WKs L M) (k60 : (P 157).toInt ≤ 60) (hF : FZ netF netW netW M M') : LST L P M' := by
  have hl := ld_cases hL
  refine ⟨(hF.fi (by unfold netF; omega)).trans h.1, fun k hkk => ?_⟩
  have bq := hk.2 k (by omega)
  rw [hF.on (by unfold netW; omega)]
  exact (h.2 k hkk).eq (fun f _ => hF.fi (by unfold netF; omega)) (fun j _ => rfl)
theorem CST.nt (h : CST T P PI M) (hS : SQ M') (hF : FZ netF netW netW M M') : CST T P PI M' := by
  have fw : ∀ a, a < 193 ∨ (243 ≤ a ∧ a < 664) → ¬ netW a := fun a ha q => by unfold netW at q; omega
  have ff : ∀ a k, a < 193 ∨ (243 ≤ a ∧ a < 664) → ¬ netF a k := fun a k ha q => by unfold netF at q; omega
  refine h.scr hS hF ⟨ff _ _ (by decide), ff _ _ (by decide), ff _ _ (by decide)⟩ (fun L hL _ => ⟨fun a k q1 q2 => ?_, fun a q1 q2 => ?_⟩) (fun t ht => ⟨fun k => ?_, fun k k1 k8 => ?_⟩) ⟨fw _ (by decide), fw _ (by decide), fw _ (by decide)⟩ (fun L hL _ => ?_) (fun L hL => ⟨fun k hk => ?_, ?_⟩) (h.2.2.2.2.1.fz hF (ff _ _ (by decide)) (ff _ _ (by decide)) (fun a h1 h2 => fw _ (by omega))) (fw _ (by decide))
  · have := ld_cases hL
    exact ff _ _ (by omega)
  · have := ld_cases hL
    exact fw _ (by omega)
  · have := tx_cases ht
    exact ff _ _ (by omega)
  · have := tx_cases ht
    exact fw _ (by omega)
  · have := ld_cases hL
    exact fw _ (by omega)
  · have := ld_cases hL
    exact (hF.on (fw _ (by omega))).trans ((h.2.2.2.2.2.1 L hL).1 k hk)
  · have := ld_cases hL
    exact (h.2.2.2.2.2.1 L hL).2.on (fun j => hF.on (fw _ (by omega)))
theorem TRI.nt (h : TRI T P0 PI B w ss P M) (hS : SQ M') (hF : FZ netF netW netW M M') : TRI T P0 PI B w ss P M' := by
  obtain ⟨hC, hX, hl, hD, hK, hE, hf⟩ := h
  exact ⟨hC.nt hS hF, hX.nt hD hS hF, hl.nt hX.ld hX.2.2.2.2.2.1 hK.2.1 hF, hD, hK, hE, ⟨(hF.fi (by unfold netF; decide)).trans hf.1, (hF.fi (by unfold netF; decide)).trans hf.2⟩⟩
/-- a call of the net's that changes its rows alone -/
theorem net_call {cn : CN} {mx : Nat} {wsv : List Value} (hc : cnOK sT sG FL0 cn) (hB : (invC cn && (fxM cn.2.2.2.2.2.1 && netM cn.2.2.2.2.2.1)) = true) (hm : (gNth mRs cn.1).map (fun q => q.2.2.2.1) = some mx) (hd : cn.2.1 ≤ e) (ha : Two (taOK sT) cn.2.2.1 wsv) (hI : INV M) (hX : FX M) (H : Ev none e cn.1 0 (gPad mx (gArgs wsv)) [] M v M' 0 0) : INV M' ∧ SQ M' ∧ FZ netF netW netW M M' ∧ ∃ s ∈ cn.2.2.2.2.2.2, csOK sT FL0 wsv v M' s := by
  obtain ⟨b1, hB⟩ := and_t hB
  obtain ⟨b2, b3⟩ := and_t hB
  obtain ⟨q1, q2, q3⟩ := inv_d hc b1 hm hd ha hI H
  exact ⟨q1, ⟨q1.1.sh, hX.frm hI.1.sh q2 b2⟩, net_fz hI.1.sh q2 b3, q3⟩
theorem ret_n {cs : List CS} (h : (cs.all (fun s => match s.1 with | none => true | some _ => false)) = true) (hs : ∃ s ∈ cs, csOK sT FL0 wsv v M' s) : v = none := by
  obtain ⟨s, hs, hcs, _⟩ := hs
  have q := List.all_eq_true.mp h s hs
  cases hv : s.1 with
  | some t => rw [hv] at q; cases q
  | none =>
    rw [hv] at hcs
    cases v with
    | none => rfl
    | some w => exact hcs.elim
theorem ret_i {cs : List CS} (h : (cs.all (fun s => match s.1 with | some (.inl _) => true | _ => false)) = true) (hs : ∃ s ∈ cs, csOK sT FL0 wsv v M' s) : ∃ r, v = some (.int r) := by
  obtain ⟨s, hs, hcs, _⟩ := hs
  have q := List.all_eq_true.mp h s hs
  cases hv : s.1 with
  | none => rw [hv] at q; cases q
  | some t =>
    rw [hv] at hcs q
    cases v with
    | none => exact hcs.elim
    | some w =>
      rcases t with ⟨lo, hi⟩ | n
      · obtain ⟨x, rfl, _⟩ := hcs
        exact ⟨x, rfl⟩
      · cases q
theorem keepC (hI : INV M) (hX : FX M) (he : 1 ≤ e) (H : Ev none e 15 0 [some (.ref 192), some (.int x), none] [] M v M' 0 0) : v = none ∧ INV M' ∧ SQ M' ∧ FZ netF netW netW M M' := by
  obtain ⟨q1, q2, q3, q4⟩ := net_call (cn := kX2_keep) (mx := 3) (wsv := [.ref 192, .int x]) kX2_keep_ok (by decide +kernel) mx_all.1 he (Two.mk rfl (Two.mk ⟨x, rfl, i32_any x⟩ trivial)) hI hX H
  exact ⟨ret_n (by decide) q4, q1, q2, q3⟩
theorem aloneC (hI : INV M) (hX : FX M) (he : 1 ≤ e) (hx : 0 ≤ x.toInt ∧ x.toInt ≤ 20) (hy : 0 ≤ y.toInt ∧ y.toInt ≤ 20) (H : Ev none e 17 0 [some (.ref 192), some (.int x), some (.int y), none, none] [] M v M' 0 0) : (∃ r, v = some (.int r)) ∧ INV M' ∧ SQ M' ∧ FZ netF netW netW M M' := by
  obtain ⟨q1, q2, q3, q4⟩ := net_call (cn := kX2_alone) (mx := 5) (wsv := [.ref 192, .int x, .int y]) kX2_alone_ok (by decide +kernel) mx_all.2.2.1 he (Two.mk rfl (Two.mk ⟨x, rfl, hx⟩ (Two.mk ⟨y, rfl, hy⟩ trivial))) hI hX H
  obtain ⟨r, hr⟩ := ret_i (by decide) q4
  exact ⟨⟨r, hr⟩, q1, q2, q3⟩
theorem sizeC (hI : INV M) (hX : FX M) (he : 1 ≤ e) (hx : 0 ≤ x.toInt ∧ x.toInt ≤ 20) (H : Ev none e 16 0 [some (.ref 192), some (.int x), none, none] [] M v M' 0 0) : (∃ r, v = some (.int r)) ∧ INV M' ∧ SQ M' ∧ FZ netF netW netW M M' := by
  obtain ⟨q1, q2, q3, q4⟩ := net_call (cn := kX2_size) (mx := 4) (wsv := [.ref 192, .int x]) kX2_size_ok (by decide +kernel) mx_all.2.1 he (Two.mk rfl (Two.mk ⟨x, rfl, hx⟩ trivial)) hI hX H
  obtain ⟨r, hr⟩ := ret_i (by decide) q4
  exact ⟨⟨r, hr⟩, q1, q2, q3⟩
theorem opcI (hI : INV M) (he : 4 ≤ e) (H : Ev none e 133 0 [some (.ref 0)] [] M v M' 0 0) : INV M' := (inv_d (c := kX10_openCase) (k := 1) (ws := [.ref 0]) kX10_openCase_ok (by decide +kernel) mx_all.2.2.2.2.2.2.1 he (Two.mk rfl trivial) hI H).1
theorem onkI (hI : INV M) (he : 7 ≤ e) (H : Ev none e 134 0 [some (.ref 0), some (.int t)] [] M v M' 0 0) : INV M' := (inv_d (c := kX10_oneWeek) (k := 2) (ws := [.ref 0, .int t]) kX10_oneWeek_ok (by decide +kernel) mx_all.2.2.2.2.2.2.2 he (Two.mk rfl (Two.mk ⟨t, rfl, i32_any t⟩ trivial)) hI H).1
theorem rsc_l (ht : t.toInt = (tt : Int)) (t200 : tt ≤ 200) (he : 8 ≤ e) : ∀ (r : Nat) (nz : Int32) (B : Nat) (P : PK) (M : Mem), TRI T P0 PI B (-1) [] P M → INV M → nz.toInt + (r : Int) = w.toInt + 1 → 1 ≤ nz.toInt → w.toInt ≤ 40 → B + 60 * tt * r ≤ 100000000 → Ev none e 99 38 [some (.ref 0), some (.int w), some (.int t), some (.int nz)] [] M v M' 0 0 → CST T P0 PI M' := by
  intro r
  induction r with
  | zero =>
    intro nz B P M h hI hw h1 w40 hB H
    rcases rsc_38 h.2.1.sq H with ⟨_, _, r2⟩ | ⟨a1, _⟩
    · rw [r2]; exact h.1
    · exact absurd (Int32.lt_iff_toInt_lt.mpr (by omega)) a1
  | succ r ih =>
    intro nz B P M h hI hw h1 w40 hB H
    rcases rsc_38 h.2.1.sq H with ⟨_, _, r2⟩ | ⟨_, e1, v1, M1, he1, H1, H⟩
    · rw [r2]; exact h.1
    · have hm : 60 * tt * (r + 1) = 60 * tt * r + 60 * tt := by rw [Nat.mul_add, Nat.mul_one]
      have I1 := onkI hI (by omega) H1
      obtain ⟨rv, q1, _⟩ := onk_ok h (n := tt) (by omega) ht H1
      rw [rv] at H
      obtain ⟨e2, v2, M2, he2, H2, H⟩ := rsc_48 q1.2.1.sq H
      obtain ⟨rv2, I2, S2, F2⟩ := keepC I1 q1.2.1.sq.2 (by omega) H2
      rw [rv2] at H
      have q2 := q1.nt S2 F2
      obtain ⟨e3, v3, M3, he3, H3, H⟩ := rsc_58 q2.2.1.sq H
      obtain ⟨⟨p, rv3⟩, I3, S3, F3⟩ := aloneC I2 S2.2 (by omega) (by decide) (by decide) H3
      rw [rv3] at H
      have q3 := q2.nt S3 F3
      obtain ⟨e4, v4, M4, he4, H4, H⟩ := rsc_67 q3.2.1.sq H
      obtain ⟨⟨p4, rv4⟩, I4, S4, F4⟩ := aloneC I3 S3.2 (by omega) (by decide) (by decide) H4
      rw [rv4] at H
      have q4 := q3.nt S4 F4
      rcases rsc_76 q4.2.1.sq H with ⟨_, _, r2⟩ | ⟨_, H⟩
      · rw [r2]; exact q4.1
      · exact ih (nz + 1) (B + 60 * tt) _ M4 q4 I4 (by rw [i32_p1 (by omega)]; omega) (by rw [i32_p1 (by omega)]; omega) w40 (by omega) H
theorem restsS_ok (h : CST T P PI M) (hI : INV M) (he : 9 ≤ e) (H : Ev none e 99 0 [some (.ref 0), some (.int w), some (.int t), none] [] M v M' 0 0) : CST T P PI M' := by
  rcases rsc_0 h.sq H with ⟨_, _, r2⟩ | ⟨_, _, _, r2⟩ | ⟨a1, a2, e1, v1, M1, he1, H1, H⟩
  · rw [r2]; exact h
  · rw [r2]; exact h
  · rw [g126_R, Classical.not_not] at a1 a2
    have w1 : 1 ≤ w.toInt := a1.1
    have w40 : w.toInt ≤ 40 := a1.2
    have t1 : 1 ≤ t.toInt := a2.1
    have t200 : t.toInt ≤ 200 := a2.2
    obtain ⟨rv, q1, _⟩ := opcT_ok h H1
    rw [rv] at H
    have I1 := opcI hI (by omega) H1
    obtain ⟨e2, v2, M2, he2, H2, H⟩ := rsc_28 q1.2.1.sq H
    obtain ⟨rv2, I2, S2, F2⟩ := keepC I1 q1.2.1.sq.2 (by omega) H2
    rw [rv2] at H
    have q2 := q1.nt S2 F2
    have hb := h.ok.bud
    have hm : 60 * t.toInt.toNat * w.toInt.toNat ≤ 60 * 200 * 40 := Nat.mul_le_mul (Nat.mul_le_mul_left _ (by omega)) (by omega)
    exact rsc_l (tt := t.toInt.toNat) (by omega) (by omega) (by omega) w.toInt.toNat 1 _ _ M2 q2 I2 (by have z1 : (1 : Int32).toInt = 1 := rfl; omega) (by decide) w40 (by omega) (rsc_36 q2.2.1.sq H)
theorem kwk_l (ht : t.toInt = (tt : Int)) (t200 : tt ≤ 200) (he : 8 ≤ e) : ∀ (r : Nat) (nz : Int32) (B : Nat) (P : PK) (M : Mem), TRI T P0 PI B (-1) [] P M → INV M → nz.toInt + (r : Int) = w.toInt + 1 → 1 ≤ nz.toInt → w.toInt ≤ 20 → B + 60 * tt * r ≤ 100000000 → Ev none e 107 6 [some (.ref 0), some (.int w), some (.int t), some (.int nz)] [] M v M' 0 0 → v = none ∧ CST T P0 PI M' ∧ INV M' := by
  intro r
  induction r with
  | zero =>
    intro nz B P M h hI hw h1 w40 hB H
    rcases kwk_6 h.2.1.sq H with ⟨_, r1, r2⟩ | ⟨a1, _⟩
    · rw [r2]; exact ⟨r1, h.1, hI⟩
    · exact absurd (Int32.lt_iff_toInt_lt.mpr (by omega)) a1
  | succ r ih =>
    intro nz B P M h hI hw h1 w40 hB H
    rcases kwk_6 h.2.1.sq H with ⟨_, r1, r2⟩ | ⟨_, e1, v1, M1, he1, H1, H⟩
    · rw [r2]; exact ⟨r1, h.1, hI⟩
    · have hm : 60 * tt * (r + 1) = 60 * tt * r + 60 * tt := by rw [Nat.mul_add, Nat.mul_one]
      have I1 := onkI hI (by omega) H1
      obtain ⟨rv, q1, _⟩ := onk_ok h (n := tt) (by omega) ht H1
      rw [rv] at H
      obtain ⟨e2, v2, M2, he2, H2, H⟩ := kwk_16 q1.2.1.sq H
      obtain ⟨rv2, I2, S2, F2⟩ := keepC I1 q1.2.1.sq.2 (by omega) H2
      rw [rv2] at H
      have q2 := q1.nt S2 F2
      exact ih (nz + 1) (B + 60 * tt) _ M2 q2 I2 (by rw [i32_p1 (by omega)]; omega) (by rw [i32_p1 (by omega)]; omega) w40 (by omega) (kwk_24 q2.2.1.sq H)
theorem kwkS_ok (h : CST T P PI M) (hI : INV M) (he : 9 ≤ e) (w1 : 1 ≤ w.toInt ∧ w.toInt ≤ 20) (t1 : 1 ≤ t.toInt ∧ t.toInt ≤ 200) (H : Ev none e 107 0 [some (.ref 0), some (.int w), some (.int t), none] [] M v M' 0 0) : v = none ∧ CST T P PI M' ∧ INV M' := by
  obtain ⟨e1, v1, M1, he1, H1, H⟩ := kwk_0 h.sq H
  obtain ⟨rv, q1, _⟩ := opcT_ok h H1
  rw [rv] at H
  have I1 := opcI hI (by omega) H1
  have hb := h.ok.bud
  have hm : 60 * t.toInt.toNat * w.toInt.toNat ≤ 60 * 200 * 20 := Nat.mul_le_mul (Nat.mul_le_mul_left _ (by omega)) (by omega)
  exact kwk_l (tt := t.toInt.toNat) (by omega) (by omega) (by omega) w.toInt.toNat 1 _ _ M1 q1 I1 (by have z1 : (1 : Int32).toInt = 1 := rfl; omega) (by decide) w1.2 (by omega) (kwk_4 q1.2.1.sq H)
theorem g106_R : G_106 M ws t = 0 ↔ ¬ (inX ws 1 20 ∧ inX t 1 200) := by
  unfold G_106
  by_cases h1 : G_126 M ws 1 20 = 0
  · rw [if_pos h1]
    rw [g126_R] at h1
    exact ⟨fun _ q => h1 q.1, fun _ => rfl⟩
  · rw [if_neg h1]
    rw [g126_R, Classical.not_not] at h1
    by_cases h2 : G_126 M t 1 200 = 0
    · rw [if_pos h2]
      rw [g126_R] at h2
      exact ⟨fun _ q => h2 q.2, fun _ => rfl⟩
    · rw [if_neg h2]
      rw [g126_R, Classical.not_not] at h2
      exact ⟨fun q => absurd q (by decide), fun q => absurd ⟨h1, h2⟩ q⟩
theorem pavedS_ok (h : CST T P PI M) (hI : INV M) (he : 10 ≤ e) (H : Ev none e 104 0 [some (.ref 0), some (.int w), some (.int ws), some (.int t), some (.int x)] [] M v M' 0 0) : CST T P PI M' := by
  rcases pvd_0 h.sq H with ⟨_, _, r2⟩ | ⟨_, _, _, r2⟩ | ⟨_, _, _, _, r2⟩ | ⟨a1, a2, a3, e1, v1, M1, he1, H1, H⟩
  · rw [r2]; exact h
  · rw [r2]; exact h
  · rw [r2]; exact h
  · rw [g106_R, Classical.not_not] at a1
    rw [g126_R, Classical.not_not] at a2
    have w1 : 1 ≤ ws.toInt := a1.1.1
    have w20 : ws.toInt ≤ 20 := a1.1.2
    have b1 : 1 ≤ w.toInt := a2.1
    have b2 : w.toInt ≤ ws.toInt := a2.2
    obtain ⟨rv, q1, I1⟩ := kwkS_ok h hI (by omega) ⟨w1, w20⟩ a1.2 H1
    rw [rv] at H
    rcases pvd_36 q1.sq H with ⟨_, e2, v2, M2, he2, H2, H⟩ | ⟨_, _, e2, v2, M2, he2, H2, H⟩ | ⟨_, _, e2, v2, M2, he2, H2, H⟩
    · obtain ⟨⟨p, rv2⟩, I2, S2, F2⟩ := sizeC I1 q1.sq.2 (by omega) ⟨by omega, by omega⟩ H2
      rw [rv2] at H
      obtain ⟨_, r2⟩ := pvd_72 S2 H
      rw [r2]
      exact q1.nt S2 F2
    · obtain ⟨⟨p, rv2⟩, I2, S2, F2⟩ := aloneC I1 q1.sq.2 (by omega) ⟨by omega, by omega⟩ ⟨by omega, by omega⟩ H2
      rw [rv2] at H
      obtain ⟨_, r2⟩ := pvd_82 S2 H
      rw [r2]
      exact q1.nt S2 F2
    · obtain ⟨⟨p, rv2⟩, I2, S2, F2⟩ := aloneC I1 q1.sq.2 (by omega) ⟨by omega, by omega⟩ ⟨by omega, by omega⟩ H2
      rw [rv2] at H
      obtain ⟨_, r2⟩ := pvd_92 S2 H
      rw [r2]
      exact q1.nt S2 F2
theorem wai_l (hws : ws.toInt ≤ 20) (he : 2 ≤ e) : ∀ (r : Nat) (wz be le : Int32) (c6 : Option Value) (M : Mem), CST T P PI M → INV M → wz.toInt + (r : Int) = ws.toInt + 1 → 1 ≤ wz.toInt → Ev none e 105 27 [some (.ref 0), some (.int ws), some (.int t), some (.int be), some (.int le), some (.int wz), c6] [] M v M' 0 0 → CST T P PI M' := by
  intro r
  induction r with
  | zero =>
    intro wz be le c6 M h hI hw h1 H
    rcases wai_27 h.sq H with ⟨_, _, r2⟩ | ⟨a1, _⟩
    · rw [r2]; exact h
    · exact absurd (Int32.lt_iff_toInt_lt.mpr (by omega)) a1
  | succ r ih =>
    intro wz be le c6 M h hI hw h1 H
    rcases wai_27 h.sq H with ⟨_, _, r2⟩ | ⟨_, e2, v2, M2, he2, H2, H⟩
    · rw [r2]; exact h
    · obtain ⟨⟨p, rv2⟩, I2, S2, F2⟩ := aloneC hI h.sq.2 (by omega) ⟨by omega, by omega⟩ ⟨by omega, by omega⟩ H2
      rw [rv2] at H
      have c2 := h.nt S2 F2
      obtain ⟨e3, v3, M3, he3, H3, H⟩ := wai_43 S2 H
      obtain ⟨⟨p3, rv3⟩, I3, S3, F3⟩ := aloneC I2 S2.2 (by omega) ⟨by omega, by omega⟩ ⟨by omega, by omega⟩ H3
      rw [rv3] at H
      have c3 := c2.nt S3 F3
      rcases wai_53 S3 H with ⟨_, H⟩ | ⟨_, H⟩
      · exact ih (wz + 1) _ _ _ M3 c3 I3 (by rw [i32_p1 (by omega)]; omega) (by rw [i32_p1 (by omega)]; omega) H
      · exact ih (wz + 1) _ _ _ M3 c3 I3 (by rw [i32_p1 (by omega)]; omega) (by rw [i32_p1 (by omega)]; omega) H
theorem waitS_ok (h : CST T P PI M) (hI : INV M) (he : 10 ≤ e) (H : Ev none e 105 0 [some (.ref 0), some (.int ws), some (.int t), none, none, none, none] [] M v M' 0 0) : CST T P PI M' := by
  rcases wai_0 h.sq H with ⟨_, _, r2⟩ | ⟨a1, e1, v1, M1, he1, H1, H⟩
  · rw [r2]; exact h
  · rw [g106_R, Classical.not_not] at a1
    have w1 : 1 ≤ ws.toInt := a1.1.1
    have w20 : ws.toInt ≤ 20 := a1.1.2
    obtain ⟨rv, q1, I1⟩ := kwkS_ok h hI (by omega) ⟨w1, w20⟩ a1.2 H1
    rw [rv] at H
    exact wai_l w20 (by omega) ws.toInt.toNat 1 1 276 none M1 q1 I1 (by have z1 : (1 : Int32).toInt = 1 := rfl; omega) (by decide) (wai_17 q1.sq H)
/-! pieces, least, longer -/
theorem CST.ent (h : CST T P PI M) (hI : INV M) (he : 4 ≤ e) (H : Ev none e 54 0 [some (.ref 104), some (.ref 8)] [] M v M' 0 0) : v = none ∧ CST T P PI M' ∧ STA 8 T P M' ∧ INV M' ∧ FZ enF enW noO M M' := by
  obtain ⟨rv1, b2, b3, b4, b5, b6⟩ := centr_ok h H
  refine ⟨rv1, h.wlk b4 (fun a k q => ?_) (fun a q => ?_) (fun a q => q.elim) b5 b2 b3 h.ok, b2, enter_inv hI h.sq.2 lnd_8 he H, b4⟩
  · unfold enF shgF at q
    omega
  · unfold enW shgW at q
    omega
theorem piecesS_ok (h : CST T P PI M) (hI : INV M) (he : 5 ≤ e) (H : Ev none e 98 0 [some (.ref 0)] [] M v M' 0 0) : CST T P PI M' := by
  obtain ⟨e1, v1, M1, he1, H1, H⟩ := pcs_0 h.sq h.ld H
  obtain ⟨rv1, c1, _, I1, _⟩ := h.ent hI (by omega) H1
  rw [rv1] at H
  obtain ⟨e2, v2, M2, he2, H2, H⟩ := pcs_11 c1.sq H
  obtain ⟨I2, S2, F2, q4⟩ := net_call (cn := kX2_parts) (mx := 4) (wsv := [.ref 192]) kX2_parts_ok (by decide +kernel) mx_all.2.2.2.1 (by show 3 ≤ e2; omega) (Two.mk rfl trivial) I1 c1.sq.2 H2
  obtain ⟨r, hr⟩ := ret_i (by decide) q4
  rw [hr] at H
  obtain ⟨_, r2⟩ := pcs_18 S2 H
  rw [r2]
  exact c1.nt S2 F2
theorem longerS_ok (h : CST T P PI M) (hI : INV M) (he : 6 ≤ e) (H : Ev none e 102 0 [some (.ref 0), some (.int a), some (.int b)] [] M v M' 0 0) : CST T P PI M' := by
  obtain ⟨e1, v1, M1, he1, H1, H⟩ := lon_0 h.sq H
  obtain ⟨rm, rv⟩ := twd_ok h H1
  rw [rm] at H
  rcases rv with ⟨ia, ib, nab, rv⟩ | ⟨_, rv⟩
  · rw [rv] at H
    rcases lon_6 h.sq h.ld H with ⟨q, _⟩ | ⟨_, e2, v2, M2, he2, H2, H⟩
    · exact absurd q (by decide)
    · obtain ⟨rv2, c2, _, I2, _⟩ := h.ent hI (by omega) H2
      rw [rv2] at H
      obtain ⟨_, _, e3, v3, M3, he3, H3, H⟩ := lon_23 c2.sq c2.ld H
      have dr : ∀ z : Int32, inD P z → 0 ≤ (rI M2 (8 + 9) z).toInt ∧ (rI M2 (8 + 9) z).toInt ≤ 255 := fun z hz => by
        have hz0 := hz.1
        have hz1 := hz.2
        have e : rI M2 (8 + 9) z = P (3 + z.toInt.toNat) := (rI_n (p := z.toInt.toNat) (by omega)).trans (c2.lan.1.2.2.1.2 z.toInt.toNat (by omega))
        have hc := (c2.ok.1.2.1.2.2 z.toInt.toNat (by omega)).lt c2.ok.1.1
        rw [e]
        omega
      obtain ⟨I4, S4, F4, q4⟩ := net_call (cn := kX2_hundredths) (mx := 7) (wsv := [.ref 192, .int (rI M2 (8 + 9) a), .int (rI M2 (8 + 9) b)]) kX2_hundredths_ok (by decide +kernel) mx_all.2.2.2.2.1 (by show 4 ≤ e3; omega) (Two.mk rfl (Two.mk ⟨_, rfl, dr a ia⟩ (Two.mk ⟨_, rfl, dr b ib⟩ trivial))) I2 c2.sq.2 H3
      obtain ⟨r, hr⟩ := ret_i (by decide) q4
      rw [hr] at H
      obtain ⟨_, r2⟩ := lon_48 S4 H
      rw [r2]
      exact c2.nt S4 F4
  · rw [rv] at H
    rcases lon_6 h.sq h.ld H with ⟨_, _, r2⟩ | ⟨a1, _⟩
    · rw [r2]; exact h
    · exact absurd rfl a1
end CCAS
/-! THE CLASS'S WAY: pieces (made by gwal6.py) -/
noncomputable def X_73s (M : Mem) (av : Int32) (ow : Int32) : Mem := (wF (wF (wF (wF (wF M 137 0 av) 137 1 ow) 137 2 0) 137 3 (-1)) 137 4 (-1))
theorem g_73s {e : Nat} {M M' : Mem} {v : Option Value} {av ow : Int32} (hS : SQ M) (H : Ev none e 73 0 [some (.ref 137), some (.int av), some (.int ow)] [] M v M' 0 0) : v = none ∧ M' = X_73s M av ow := by
  unfold X_73s
  have H : Ev none e 73 2 [some (.ref 137), some (.int av), some (.int ow)] [.int av, .ref 137] M v M' 0 0 := Ev.back 2 (fun n => rfl) H
  obtain ⟨N2, eN2⟩ : ∃ N, N = (wF M 137 0 av) := ⟨_, rfl⟩
  have hN2 : SQ N2 := by rw [eN2]; exact hS.kf
  have H : Ev none e 73 5 [some (.ref 137), some (.int av), some (.int ow)] [] N2 v M' 0 0 := by rw [eN2]; exact Ev.pfi rfl rfl rfl hS.1 qa_137 qi_40_0 H
  have H : Ev none e 73 7 [some (.ref 137), some (.int av), some (.int ow)] [.int ow, .ref 137] N2 v M' 0 0 := Ev.back 2 (fun n => rfl) H
  obtain ⟨N4, eN4⟩ : ∃ N, N = (wF N2 137 1 ow) := ⟨_, rfl⟩
  have hN4 : SQ N4 := by rw [eN4]; exact hN2.kf
  have H : Ev none e 73 10 [some (.ref 137), some (.int av), some (.int ow)] [] N4 v M' 0 0 := by rw [eN4]; exact Ev.pfi rfl rfl rfl hN2.1 qa_137 qi_40_1 H
  have H : Ev none e 73 12 [some (.ref 137), some (.int av), some (.int ow)] [.int 0, .ref 137] N4 v M' 0 0 := Ev.back 2 (fun n => rfl) H
  obtain ⟨N6, eN6⟩ : ∃ N, N = (wF N4 137 2 0) := ⟨_, rfl⟩
  have hN6 : SQ N6 := by rw [eN6]; exact hN4.kf
  have H : Ev none e 73 15 [some (.ref 137), some (.int av), some (.int ow)] [] N6 v M' 0 0 := by rw [eN6]; exact Ev.pfi rfl rfl rfl hN4.1 qa_137 qi_40_2 H
  have H : Ev none e 73 17 [some (.ref 137), some (.int av), some (.int ow)] [.int (-1), .ref 137] N6 v M' 0 0 := Ev.back 2 (fun n => rfl) H
  obtain ⟨N8, eN8⟩ : ∃ N, N = (wF N6 137 3 (-1)) := ⟨_, rfl⟩
  have hN8 : SQ N8 := by rw [eN8]; exact hN6.kf
  have H : Ev none e 73 20 [some (.ref 137), some (.int av), some (.int ow)] [] N8 v M' 0 0 := by rw [eN8]; exact Ev.pfi rfl rfl rfl hN6.1 qa_137 qi_40_3 H
  have H : Ev none e 73 22 [some (.ref 137), some (.int av), some (.int ow)] [.int (-1), .ref 137] N8 v M' 0 0 := Ev.back 2 (fun n => rfl) H
  obtain ⟨N10, eN10⟩ : ∃ N, N = (wF N8 137 4 (-1)) := ⟨_, rfl⟩
  have hN10 : SQ N10 := by rw [eN10]; exact hN8.kf
  have H : Ev none e 73 25 [some (.ref 137), some (.int av), some (.int ow)] [] N10 v M' 0 0 := by rw [eN10]; exact Ev.pfi rfl rfl rfl hN8.1 qa_137 qi_40_4 H
  obtain ⟨p1, p2⟩ := Ev.retb (fun n => rfl) H
  subst eN2 eN4 eN6 eN8 eN10
  exact ⟨p1, p2⟩
theorem X_73s_sx {M : Mem} {av ow : Int32} (hS : SQ M) : SQ (X_73s M av ow) := by
  unfold X_73s
  exact ((((hS.kf).kf).kf).kf).kf
noncomputable def X_74s (M : Mem) (to : Int32) (bw : Int32) : Mem := (wF (wF (wF M 137 3 (zI M 137 0)) 137 0 to) 137 4 bw)
theorem g_74s {e : Nat} {M M' : Mem} {v : Option Value} {to bw : Int32} (hS : SQ M) (H : Ev none e 74 0 [some (.ref 137), some (.int to), some (.int bw)] [] M v M' 0 0) : v = none ∧ M' = X_74s M to bw := by
  unfold X_74s
  have H : Ev none e 74 2 [some (.ref 137), some (.int to), some (.int bw)] [.ref 137, .ref 137] M v M' 0 0 := Ev.back 2 (fun n => rfl) H
  have H : Ev none e 74 5 [some (.ref 137), some (.int to), some (.int bw)] [.int (zI M 137 0), .ref 137] M v M' 0 0 := Ev.back 1 (gs_3 rfl rfl (gf_i hS.1 qa_137 qi_40_0 rfl)) H
  obtain ⟨N2, eN2⟩ : ∃ N, N = (wF M 137 3 (zI M 137 0)) := ⟨_, rfl⟩
  have hN2 : SQ N2 := by rw [eN2]; exact hS.kf
  have H : Ev none e 74 8 [some (.ref 137), some (.int to), some (.int bw)] [] N2 v M' 0 0 := by rw [eN2]; exact Ev.pfi rfl rfl rfl hS.1 qa_137 qi_40_3 H
  have H : Ev none e 74 10 [some (.ref 137), some (.int to), some (.int bw)] [.int to, .ref 137] N2 v M' 0 0 := Ev.back 2 (fun n => rfl) H
  obtain ⟨N4, eN4⟩ : ∃ N, N = (wF N2 137 0 to) := ⟨_, rfl⟩
  have hN4 : SQ N4 := by rw [eN4]; exact hN2.kf
  have H : Ev none e 74 13 [some (.ref 137), some (.int to), some (.int bw)] [] N4 v M' 0 0 := by rw [eN4]; exact Ev.pfi rfl rfl rfl hN2.1 qa_137 qi_40_0 H
  have H : Ev none e 74 15 [some (.ref 137), some (.int to), some (.int bw)] [.int bw, .ref 137] N4 v M' 0 0 := Ev.back 2 (fun n => rfl) H
  obtain ⟨N6, eN6⟩ : ∃ N, N = (wF N4 137 4 bw) := ⟨_, rfl⟩
  have hN6 : SQ N6 := by rw [eN6]; exact hN4.kf
  have H : Ev none e 74 18 [some (.ref 137), some (.int to), some (.int bw)] [] N6 v M' 0 0 := by rw [eN6]; exact Ev.pfi rfl rfl rfl hN4.1 qa_137 qi_40_4 H
  obtain ⟨p1, p2⟩ := Ev.retb (fun n => rfl) H
  subst eN2 eN4 eN6
  exact ⟨p1, p2⟩
theorem X_74s_sx {M : Mem} {to bw : Int32} (hS : SQ M) : SQ (X_74s M to bw) := by
  unfold X_74s
  exact ((hS.kf).kf).kf
theorem arv_0 {e : Nat} {M M' : Mem} {v : Option Value} {fr to hb : Int32} {rw : Nat} (hS : SQ M) (a_rw : gNth sT rw = some 58) (hL7 : fR M 104 7 = 8) (H : Ev none e 65 0 [some (.ref 104), some (.int fr), some (.int to), some (.int hb), some (.ref rw), none, none, none] [] M v M' 0 0) : (0 ≤ to.toInt ∧ to.toInt < 9) ∧ (0 ≤ fr.toInt ∧ fr.toInt < 9) ∧ (0 ≤ (0 : Int32).toInt ∧ (0 : Int32).toInt < 201) ∧ Ev none e 65 52 [some (.ref 104), some (.int fr), some (.int to), some (.int hb), some (.ref rw), some (.int (rI M (8 + 9) to)), some (.int 0), none] [] (wI (X_73s (wF (wF M 104 8 1) 104 11 0) (rI M (8 + 9) fr) (-1)) rw ((0 : Int32).toNatClampNeg) (zI (X_73s (wF (wF M 104 8 1) 104 11 0) (rI M (8 + 9) fr) (-1)) 137 0)) v M' 0 0 := by
  have H : Ev none e 65 1 [some (.ref 104), some (.int fr), some (.int to), some (.int hb), some (.ref rw), none, none, none] [.ref 104] M v M' 0 0 := Ev.back 1 (fun n => rfl) H
  have H : Ev none e 65 4 [some (.ref 104), some (.int fr), some (.int to), some (.int hb), some (.ref rw), none, none, none] [.ref (fR M 104 7)] M v M' 0 0 := Ev.back 1 (gs_3 rfl rfl (gf_r hS.1 qa_104 qr_22_7 rfl)) H
  rw [hL7] at H
  have H : Ev none e 65 7 [some (.ref 104), some (.int fr), some (.int to), some (.int hb), some (.ref rw), none, none, none] [.ref (8 + 9)] M v M' 0 0 := Ev.back 1 (gs_3 rfl rfl (gf_x hS.1 qa_8 qo_8 (fx_l10 hS qa_8) rfl)) H
  have H : Ev none e 65 8 [some (.ref 104), some (.int fr), some (.int to), some (.int hb), some (.ref rw), none, none, none] [.int to, .ref (8 + 9)] M v M' 0 0 := Ev.back 1 (fun n => rfl) H
  obtain ⟨b1, H⟩ := Ev.ial rfl rfl hS.1 (fx_h10 qa_8) qw_17 H
  have H : Ev none e 65 9 [some (.ref 104), some (.int fr), some (.int to), some (.int hb), some (.ref rw), none, none, none] [.int (rI M (8 + 9) to)] M v M' 0 0 := H
  have H : Ev none e 65 13 [some (.ref 104), some (.int fr), some (.int to), some (.int hb), some (.ref rw), some (.int (rI M (8 + 9) to)), none, none] [.int 1, .ref 104] M v M' 0 0 := Ev.back 3 (fun n => rfl) H
  obtain ⟨N3, eN3⟩ : ∃ N, N = (wF M 104 8 1) := ⟨_, rfl⟩
  have hN3 : SQ N3 := by rw [eN3]; exact hS.kf
  have H : Ev none e 65 16 [some (.ref 104), some (.int fr), some (.int to), some (.int hb), some (.ref rw), some (.int (rI M (8 + 9) to)), none, none] [] N3 v M' 0 0 := by rw [eN3]; exact Ev.pfi rfl rfl rfl hS.1 qa_104 qi_22_8 H
  have H : Ev none e 65 18 [some (.ref 104), some (.int fr), some (.int to), some (.int hb), some (.ref rw), some (.int (rI M (8 + 9) to)), none, none] [.int 0, .ref 104] N3 v M' 0 0 := Ev.back 2 (fun n => rfl) H
  obtain ⟨N5, eN5⟩ : ∃ N, N = (wF N3 104 11 0) := ⟨_, rfl⟩
  have hN5 : SQ N5 := by rw [eN5]; exact hN3.kf
  have H : Ev none e 65 21 [some (.ref 104), some (.int fr), some (.int to), some (.int hb), some (.ref rw), some (.int (rI M (8 + 9) to)), none, none] [] N5 v M' 0 0 := by rw [eN5]; exact Ev.pfi rfl rfl rfl hN3.1 qa_104 qi_22_11 H
  have H : Ev none e 65 22 [some (.ref 104), some (.int fr), some (.int to), some (.int hb), some (.ref rw), some (.int (rI M (8 + 9) to)), none, none] [.ref 104] N5 v M' 0 0 := Ev.back 1 (fun n => rfl) H
  have H : Ev none e 65 25 [some (.ref 104), some (.int fr), some (.int to), some (.int hb), some (.ref rw), some (.int (rI M (8 + 9) to)), none, none] [.ref 137] N5 v M' 0 0 := Ev.back 1 (gs_3 rfl rfl (gf_u hN5.1 qa_104 qr_22_6 qu_40 rfl)) H
  have H : Ev none e 65 26 [some (.ref 104), some (.int fr), some (.int to), some (.int hb), some (.ref rw), some (.int (rI M (8 + 9) to)), none, none] [.ref 104, .ref 137] N5 v M' 0 0 := Ev.back 1 (fun n => rfl) H
  have H : Ev none e 65 29 [some (.ref 104), some (.int fr), some (.int to), some (.int hb), some (.ref rw), some (.int (rI M (8 + 9) to)), none, none] [.ref (fR N5 104 7), .ref 137] N5 v M' 0 0 := Ev.back 1 (gs_3 rfl rfl (gf_r hN5.1 qa_104 qr_22_7 rfl)) H
  rw [(show fR N5 104 7 = fR N3 104 7 from by rw [eN5]; exact fR_wF).trans (show fR N3 104 7 = fR M 104 7 from by rw [eN3]; exact fR_wF)] at H
  rw [hL7] at H
  have H : Ev none e 65 32 [some (.ref 104), some (.int fr), some (.int to), some (.int hb), some (.ref rw), some (.int (rI M (8 + 9) to)), none, none] [.ref (8 + 9), .ref 137] N5 v M' 0 0 := Ev.back 1 (gs_3 rfl rfl (gf_x hN5.1 qa_8 qo_8 (fx_l10 hN5 qa_8) rfl)) H
  have H : Ev none e 65 33 [some (.ref 104), some (.int fr), some (.int to), some (.int hb), some (.ref rw), some (.int (rI M (8 + 9) to)), none, none] [.int fr, .ref (8 + 9), .ref 137] N5 v M' 0 0 := Ev.back 1 (fun n => rfl) H
  obtain ⟨b6, H⟩ := Ev.ial rfl rfl hN5.1 (fx_h10 qa_8) qw_17 H
  have H : Ev none e 65 34 [some (.ref 104), some (.int fr), some (.int to), some (.int hb), some (.ref rw), some (.int (rI M (8 + 9) to)), none, none] [.int (rI N5 (8 + 9) fr), .ref 137] N5 v M' 0 0 := H
  rw [(show rI N5 (8 + 9) fr = rI N3 (8 + 9) fr from by rw [eN5]; exact rN_wF).trans (show rI N3 (8 + 9) fr = rI M (8 + 9) fr from by rw [eN3]; exact rN_wF)] at H
  have H : Ev none e 65 35 [some (.ref 104), some (.int fr), some (.int to), some (.int hb), some (.ref rw), some (.int (rI M (8 + 9) to)), none, none] [.int (-1), .int (rI M (8 + 9) fr), .ref 137] N5 v M' 0 0 := Ev.back 1 (fun n => rfl) H
  obtain ⟨e1, rfl⟩ := Ev.dpos rfl rfl H
  obtain ⟨vK7, MK7, K7, H⟩ := Ev.callb (fun n_ => gs_7 rfl rfl (show gCal (.invokevirtual 173) 7 (.int (-1) :: .int (rI M (8 + 9) fr) :: .ref 137 :: []) N5 = some (.inr (73, [some (.ref 137), some (.int (rI M (8 + 9) fr)), some (.int (-1))], [])) from by show @cond (Option ((List Value × Mem) ⊕ (Nat × Lo × List Value))) (true && gRecv N5 (.ref 137) 8 && gRoom [] && true) (some (.inr (73, [some (.ref 137), some (.int (rI M (8 + 9) fr)), some (.int (-1))], []))) none = _; rw [recv_s hN5.1 qa_137 qo_40]; rfl)) H
  obtain ⟨pK7, qK7⟩ := g_73s hN5 K7
  rw [pK7, qK7] at H
  obtain ⟨N8, eN8⟩ : ∃ N, N = (X_73s N5 (rI M (8 + 9) fr) (-1)) := ⟨_, rfl⟩
  have hN8 : SQ N8 := by rw [eN8]; exact X_73s_sx hN5
  rw [← eN8] at H
  have H : Ev none (e1 + 1) 65 38 [some (.ref 104), some (.int fr), some (.int to), some (.int hb), some (.ref rw), some (.int (rI M (8 + 9) to)), none, none] [] N8 v M' 0 0 := H
  have H : Ev none (e1 + 1) 65 42 [some (.ref 104), some (.int fr), some (.int to), some (.int hb), some (.ref rw), some (.int (rI M (8 + 9) to)), none, none] [.ref 104, .int 0, .ref rw] N8 v M' 0 0 := Ev.back 3 (fun n => rfl) H
  have H : Ev none (e1 + 1) 65 45 [some (.ref 104), some (.int fr), some (.int to), some (.int hb), some (.ref rw), some (.int (rI M (8 + 9) to)), none, none] [.ref 137, .int 0, .ref rw] N8 v M' 0 0 := Ev.back 1 (gs_3 rfl rfl (gf_u hN8.1 qa_104 qr_22_6 qu_40 rfl)) H
  have H : Ev none (e1 + 1) 65 48 [some (.ref 104), some (.int fr), some (.int to), some (.int hb), some (.ref rw), some (.int (rI M (8 + 9) to)), none, none] [.int (zI N8 137 0), .int 0, .ref rw] N8 v M' 0 0 := Ev.back 1 (gs_3 rfl rfl (gf_i hN8.1 qa_137 qi_40_0 rfl)) H
  obtain ⟨b9, H⟩ := Ev.ias rfl rfl hN8.1 a_rw qw_58 H
  obtain ⟨N10, eN10⟩ : ∃ N, N = (wI N8 rw ((0 : Int32).toNatClampNeg) (zI N8 137 0)) := ⟨_, rfl⟩
  have hN10 : SQ N10 := by rw [eN10]; exact hN8.ki
  have H : Ev none (e1 + 1) 65 49 [some (.ref 104), some (.int fr), some (.int to), some (.int hb), some (.ref rw), some (.int (rI M (8 + 9) to)), none, none] [] N10 v M' 0 0 := by rw [eN10]; exact H
  have H : Ev none (e1 + 1) 65 52 [some (.ref 104), some (.int fr), some (.int to), some (.int hb), some (.ref rw), some (.int (rI M (8 + 9) to)), some (.int 0), none] [] N10 v M' 0 0 := Ev.back 2 (fun n => rfl) H
  have HF := H
  subst eN3 eN5 eN8 eN10
  exact ⟨b1, b6, b9, HF⟩
theorem arv_52 {e : Nat} {M M' : Mem} {v : Option Value} {fr to hb go n : Int32} {rw : Nat} {c7 : Option Value} (hS : SQ M) (a_rw : gNth sT rw = some 58) (H : Ev none e 65 52 [some (.ref 104), some (.int fr), some (.int to), some (.int hb), some (.ref rw), some (.int go), some (.int n), c7] [] M v M' 0 0) : (200 ≤ n ∧ Ev none e 65 154 [some (.ref 104), some (.int fr), some (.int to), some (.int hb), some (.ref rw), some (.int go), some (.int n), c7] [] M v M' 0 0) ∨ (¬ (200 ≤ n) ∧ (zI M 137 0) = go ∧ Ev none e 65 154 [some (.ref 104), some (.int fr), some (.int to), some (.int hb), some (.ref rw), some (.int go), some (.int n), c7] [] M v M' 0 0) ∨ (¬ (200 ≤ n) ∧ ¬ ((zI M 137 0) = go) ∧ (∃ e1 v1 M1, e = e1 + 1 ∧ Ev none e1 66 0 [some (.ref 104), some (.ref 137), some (.int go), some (.int hb), none, none, none, none, none, none] [] M v1 M1 0 0 ∧ Ev none e 65 83 [some (.ref 104), some (.int fr), some (.int to), some (.int hb), some (.ref rw), some (.int go), some (.int n), c7] (v1.toList ++ []) M1 v M' 0 0)) := by
  have H : Ev none e 65 (if 200 ≤ n then 154 else 60) [some (.ref 104), some (.int fr), some (.int to), some (.int hb), some (.ref rw), some (.int go), some (.int n), c7] [] M v M' 0 0 := Ev.back 3 (fun n => rfl) H
  by_cases h1 : 200 ≤ n
  · rw [if_pos h1] at H
    have HF := H
    exact Or.inl ⟨h1, HF⟩
  · rw [if_neg h1] at H
    have H : Ev none e 65 61 [some (.ref 104), some (.int fr), some (.int to), some (.int hb), some (.ref rw), some (.int go), some (.int n), c7] [.ref 104] M v M' 0 0 := Ev.back 1 (fun n => rfl) H
    have H : Ev none e 65 64 [some (.ref 104), some (.int fr), some (.int to), some (.int hb), some (.ref rw), some (.int go), some (.int n), c7] [.ref 137] M v M' 0 0 := Ev.back 1 (gs_3 rfl rfl (gf_u hS.1 qa_104 qr_22_6 qu_40 rfl)) H
    have H : Ev none e 65 67 [some (.ref 104), some (.int fr), some (.int to), some (.int hb), some (.ref rw), some (.int go), some (.int n), c7] [.int (zI M 137 0)] M v M' 0 0 := Ev.back 1 (gs_3 rfl rfl (gf_i hS.1 qa_137 qi_40_0 rfl)) H
    have H : Ev none e 65 (if (zI M 137 0) = go then 154 else 72) [some (.ref 104), some (.int fr), some (.int to), some (.int hb), some (.ref rw), some (.int go), some (.int n), c7] [] M v M' 0 0 := Ev.back 2 (fun n => rfl) H
    by_cases h2 : (zI M 137 0) = go
    · rw [if_pos h2] at H
      have HF := H
      exact Or.inr (Or.inl ⟨h1, h2, HF⟩)
    · rw [if_neg h2] at H
      have H : Ev none e 65 74 [some (.ref 104), some (.int fr), some (.int to), some (.int hb), some (.ref rw), some (.int go), some (.int n), c7] [.ref 104, .ref 104] M v M' 0 0 := Ev.back 2 (fun n => rfl) H
      have H : Ev none e 65 77 [some (.ref 104), some (.int fr), some (.int to), some (.int hb), some (.ref rw), some (.int go), some (.int n), c7] [.ref 137, .ref 104] M v M' 0 0 := Ev.back 1 (gs_3 rfl rfl (gf_u hS.1 qa_104 qr_22_6 qu_40 rfl)) H
      have H : Ev none e 65 80 [some (.ref 104), some (.int fr), some (.int to), some (.int hb), some (.ref rw), some (.int go), some (.int n), c7] [.int hb, .int go, .ref 137, .ref 104] M v M' 0 0 := Ev.back 2 (fun n => rfl) H
      obtain ⟨e1, rfl⟩ := Ev.dpos rfl rfl H
      obtain ⟨vK3, MK3, K3, H⟩ := Ev.callb (fun n_ => gs_7 rfl rfl (show gCal (.invokevirtual 128) 7 (.int hb :: .int go :: .ref 137 :: .ref 104 :: []) M = some (.inr (66, [some (.ref 104), some (.ref 137), some (.int go), some (.int hb), none, none, none, none, none, none], [])) from by show @cond (Option ((List Value × Mem) ⊕ (Nat × Lo × List Value))) (true && gRecv M (.ref 104) 7 && gRoom [] && true) (some (.inr (66, [some (.ref 104), some (.ref 137), some (.int go), some (.int hb), none, none, none, none, none, none], []))) none = _; rw [recv_s hS.1 qa_104 qo_22]; rfl)) H
      have K3 : Ev none e1 66 0 [some (.ref 104), some (.ref 137), some (.int go), some (.int hb), none, none, none, none, none, none] [] M vK3 MK3 0 0 := K3
      have HF := H
      exact Or.inr (Or.inr (⟨h1, h2, ⟨e1, vK3, MK3, rfl, K3, HF⟩⟩))
theorem arv_83 {e : Nat} {M M' : Mem} {v : Option Value} {fr to hb go n y : Int32} {rw : Nat} {c7 : Option Value} (hS : SQ M) (a_rw : gNth sT rw = some 58) (H : Ev none e 65 83 [some (.ref 104), some (.int fr), some (.int to), some (.int hb), some (.ref rw), some (.int go), some (.int n), c7] [.int y] M v M' 0 0) : (y = (-1) ∧ Ev none e 65 154 [some (.ref 104), some (.int fr), some (.int to), some (.int hb), some (.ref rw), some (.int go), some (.int n), some (.int y)] [] M v M' 0 0) ∨ (¬ (y = (-1)) ∧ (0 ≤ ((8 * (zI M 137 0)) + y).toInt ∧ ((8 * (zI M 137 0)) + y).toInt < 2048) ∧ (0 ≤ ((zI (X_74s M (rI M 108 ((8 * (zI M 137 0)) + y)) y) 104 11) + 1).toInt ∧ ((zI (X_74s M (rI M 108 ((8 * (zI M 137 0)) + y)) y) 104 11) + 1).toInt < 201) ∧ Ev none e 65 52 [some (.ref 104), some (.int fr), some (.int to), some (.int hb), some (.ref rw), some (.int go), some (.int (n + 1)), some (.int y)] [] (wI (wF (X_74s M (rI M 108 ((8 * (zI M 137 0)) + y)) y) 104 11 ((zI (X_74s M (rI M 108 ((8 * (zI M 137 0)) + y)) y) 104 11) + 1)) rw (((zI (X_74s M (rI M 108 ((8 * (zI M 137 0)) + y)) y) 104 11) + 1).toNatClampNeg) (zI (X_74s M (rI M 108 ((8 * (zI M 137 0)) + y)) y) 137 0)) v M' 0 0) := by
  have H : Ev none e 65 (if y = (-1) then 91 else 94) [some (.ref 104), some (.int fr), some (.int to), some (.int hb), some (.ref rw), some (.int go), some (.int n), some (.int y)] [] M v M' 0 0 := Ev.back 4 (fun n => rfl) H
  by_cases h1 : y = (-1)
  · rw [if_pos h1] at H
    have H : Ev none e 65 154 [some (.ref 104), some (.int fr), some (.int to), some (.int hb), some (.ref rw), some (.int go), some (.int n), some (.int y)] [] M v M' 0 0 := Ev.back 1 (fun n => rfl) H
    have HF := H
    exact Or.inl ⟨h1, HF⟩
  · rw [if_neg h1] at H
    have H : Ev none e 65 95 [some (.ref 104), some (.int fr), some (.int to), some (.int hb), some (.ref rw), some (.int go), some (.int n), some (.int y)] [.ref 104] M v M' 0 0 := Ev.back 1 (fun n => rfl) H
    have H : Ev none e 65 98 [some (.ref 104), some (.int fr), some (.int to), some (.int hb), some (.ref rw), some (.int go), some (.int n), some (.int y)] [.ref 137] M v M' 0 0 := Ev.back 1 (gs_3 rfl rfl (gf_u hS.1 qa_104 qr_22_6 qu_40 rfl)) H
    have H : Ev none e 65 99 [some (.ref 104), some (.int fr), some (.int to), some (.int hb), some (.ref rw), some (.int go), some (.int n), some (.int y)] [.ref 104, .ref 137] M v M' 0 0 := Ev.back 1 (fun n => rfl) H
    have H : Ev none e 65 102 [some (.ref 104), some (.int fr), some (.int to), some (.int hb), some (.ref rw), some (.int go), some (.int n), some (.int y)] [.ref 105, .ref 137] M v M' 0 0 := Ev.back 1 (gs_3 rfl rfl (gf_u hS.1 qa_104 qr_22_0 qu_23 rfl)) H
    have H : Ev none e 65 105 [some (.ref 104), some (.int fr), some (.int to), some (.int hb), some (.ref rw), some (.int go), some (.int n), some (.int y)] [.ref 108, .ref 137] M v M' 0 0 := Ev.back 1 (gs_3 rfl rfl (gf_u hS.1 qa_105 qr_23_2 qu_26 rfl)) H
    have H : Ev none e 65 108 [some (.ref 104), some (.int fr), some (.int to), some (.int hb), some (.ref rw), some (.int go), some (.int n), some (.int y)] [.ref 104, .int 8, .ref 108, .ref 137] M v M' 0 0 := Ev.back 2 (fun n => rfl) H
    have H : Ev none e 65 111 [some (.ref 104), some (.int fr), some (.int to), some (.int hb), some (.ref rw), some (.int go), some (.int n), some (.int y)] [.ref 137, .int 8, .ref 108, .ref 137] M v M' 0 0 := Ev.back 1 (gs_3 rfl rfl (gf_u hS.1 qa_104 qr_22_6 qu_40 rfl)) H
    have H : Ev none e 65 114 [some (.ref 104), some (.int fr), some (.int to), some (.int hb), some (.ref rw), some (.int go), some (.int n), some (.int y)] [.int (zI M 137 0), .int 8, .ref 108, .ref 137] M v M' 0 0 := Ev.back 1 (gs_3 rfl rfl (gf_i hS.1 qa_137 qi_40_0 rfl)) H
    have H : Ev none e 65 118 [some (.ref 104), some (.int fr), some (.int to), some (.int hb), some (.ref rw), some (.int go), some (.int n), some (.int y)] [.int ((8 * (zI M 137 0)) + y), .ref 108, .ref 137] M v M' 0 0 := Ev.back 3 (fun n => rfl) H
    obtain ⟨b2, H⟩ := Ev.ial rfl rfl hS.1 qa_108 qw_26 H
    have H : Ev none e 65 119 [some (.ref 104), some (.int fr), some (.int to), some (.int hb), some (.ref rw), some (.int go), some (.int n), some (.int y)] [.int (rI M 108 ((8 * (zI M 137 0)) + y)), .ref 137] M v M' 0 0 := H
    have H : Ev none e 65 121 [some (.ref 104), some (.int fr), some (.int to), some (.int hb), some (.ref rw), some (.int go), some (.int n), some (.int y)] [.int y, .int (rI M 108 ((8 * (zI M 137 0)) + y)), .ref 137] M v M' 0 0 := Ev.back 1 (fun n => rfl) H
    obtain ⟨e1, rfl⟩ := Ev.dpos rfl rfl H
    obtain ⟨vK3, MK3, K3, H⟩ := Ev.callb (fun n_ => gs_7 rfl rfl (show gCal (.invokevirtual 141) 7 (.int y :: .int (rI M 108 ((8 * (zI M 137 0)) + y)) :: .ref 137 :: []) M = some (.inr (74, [some (.ref 137), some (.int (rI M 108 ((8 * (zI M 137 0)) + y))), some (.int y)], [])) from by show @cond (Option ((List Value × Mem) ⊕ (Nat × Lo × List Value))) (true && gRecv M (.ref 137) 8 && gRoom [] && true) (some (.inr (74, [some (.ref 137), some (.int (rI M 108 ((8 * (zI M 137 0)) + y))), some (.int y)], []))) none = _; rw [recv_s hS.1 qa_137 qo_40]; rfl)) H
    obtain ⟨pK3, qK3⟩ := g_74s hS K3
    rw [pK3, qK3] at H
    obtain ⟨N4, eN4⟩ : ∃ N, N = (X_74s M (rI M 108 ((8 * (zI M 137 0)) + y)) y) := ⟨_, rfl⟩
    have hN4 : SQ N4 := by rw [eN4]; exact X_74s_sx hS
    rw [← eN4] at H
    have H : Ev none (e1 + 1) 65 124 [some (.ref 104), some (.int fr), some (.int to), some (.int hb), some (.ref rw), some (.int go), some (.int n), some (.int y)] [] N4 v M' 0 0 := H
    have H : Ev none (e1 + 1) 65 126 [some (.ref 104), some (.int fr), some (.int to), some (.int hb), some (.ref rw), some (.int go), some (.int n), some (.int y)] [.ref 104, .ref 104] N4 v M' 0 0 := Ev.back 2 (fun n => rfl) H
    have H : Ev none (e1 + 1) 65 129 [some (.ref 104), some (.int fr), some (.int to), some (.int hb), some (.ref rw), some (.int go), some (.int n), some (.int y)] [.int (zI N4 104 11), .ref 104] N4 v M' 0 0 := Ev.back 1 (gs_3 rfl rfl (gf_i hN4.1 qa_104 qi_22_11 rfl)) H
    have H : Ev none (e1 + 1) 65 131 [some (.ref 104), some (.int fr), some (.int to), some (.int hb), some (.ref rw), some (.int go), some (.int n), some (.int y)] [.int ((zI N4 104 11) + 1), .ref 104] N4 v M' 0 0 := Ev.back 2 (fun n => rfl) H
    obtain ⟨N6, eN6⟩ : ∃ N, N = (wF N4 104 11 ((zI N4 104 11) + 1)) := ⟨_, rfl⟩
    have hN6 : SQ N6 := by rw [eN6]; exact hN4.kf
    have H : Ev none (e1 + 1) 65 134 [some (.ref 104), some (.int fr), some (.int to), some (.int hb), some (.ref rw), some (.int go), some (.int n), some (.int y)] [] N6 v M' 0 0 := by rw [eN6]; exact Ev.pfi rfl rfl rfl hN4.1 qa_104 qi_22_11 H
    have H : Ev none (e1 + 1) 65 137 [some (.ref 104), some (.int fr), some (.int to), some (.int hb), some (.ref rw), some (.int go), some (.int n), some (.int y)] [.ref 104, .ref rw] N6 v M' 0 0 := Ev.back 2 (fun n => rfl) H
    have H : Ev none (e1 + 1) 65 140 [some (.ref 104), some (.int fr), some (.int to), some (.int hb), some (.ref rw), some (.int go), some (.int n), some (.int y)] [.int (zI N6 104 11), .ref rw] N6 v M' 0 0 := Ev.back 1 (gs_3 rfl rfl (gf_i hN6.1 qa_104 qi_22_11 rfl)) H
    rw [show zI N6 104 11 = (zI N4 104 11) + 1 from by rw [eN6]; exact fI_wF_eq hN4.1 qa_104 qi_22_11] at H
    have H : Ev none (e1 + 1) 65 141 [some (.ref 104), some (.int fr), some (.int to), some (.int hb), some (.ref rw), some (.int go), some (.int n), some (.int y)] [.ref 104, .int ((zI N4 104 11) + 1), .ref rw] N6 v M' 0 0 := Ev.back 1 (fun n => rfl) H
    have H : Ev none (e1 + 1) 65 144 [some (.ref 104), some (.int fr), some (.int to), some (.int hb), some (.ref rw), some (.int go), some (.int n), some (.int y)] [.ref 137, .int ((zI N4 104 11) + 1), .ref rw] N6 v M' 0 0 := Ev.back 1 (gs_3 rfl rfl (gf_u hN6.1 qa_104 qr_22_6 qu_40 rfl)) H
    have H : Ev none (e1 + 1) 65 147 [some (.ref 104), some (.int fr), some (.int to), some (.int hb), some (.ref rw), some (.int go), some (.int n), some (.int y)] [.int (zI N6 137 0), .int ((zI N4 104 11) + 1), .ref rw] N6 v M' 0 0 := Ev.back 1 (gs_3 rfl rfl (gf_i hN6.1 qa_137 qi_40_0 rfl)) H
    rw [show zI N6 137 0 = zI N4 137 0 from by rw [eN6]; exact fI_wF_ne (fun q => absurd q.2 (by decide))] at H
    obtain ⟨b7, H⟩ := Ev.ias rfl rfl hN6.1 a_rw qw_58 H
    obtain ⟨N8, eN8⟩ : ∃ N, N = (wI N6 rw (((zI N4 104 11) + 1).toNatClampNeg) (zI N4 137 0)) := ⟨_, rfl⟩
    have hN8 : SQ N8 := by rw [eN8]; exact hN6.ki
    have H : Ev none (e1 + 1) 65 148 [some (.ref 104), some (.int fr), some (.int to), some (.int hb), some (.ref rw), some (.int go), some (.int n), some (.int y)] [] N8 v M' 0 0 := by rw [eN8]; exact H
    have H : Ev none (e1 + 1) 65 52 [some (.ref 104), some (.int fr), some (.int to), some (.int hb), some (.ref rw), some (.int go), some (.int (n + 1)), some (.int y)] [] N8 v M' 0 0 := Ev.back 2 (fun n => rfl) H
    have HF := H
    subst eN4 eN6 eN8
    exact Or.inr (⟨h1, b2, b7, HF⟩)
theorem arv_154 {e : Nat} {M M' : Mem} {v : Option Value} {fr to hb go n : Int32} {rw : Nat} {c7 : Option Value} (hS : SQ M) (a_rw : gNth sT rw = some 58) (H : Ev none e 65 154 [some (.ref 104), some (.int fr), some (.int to), some (.int hb), some (.ref rw), some (.int go), some (.int n), c7] [] M v M' 0 0) : ((zI M 137 0) = go ∧ v = some (.int 1) ∧ M' = (wF M 104 8 0)) ∨ (¬ ((zI M 137 0) = go) ∧ v = some (.int 0) ∧ M' = (wF M 104 8 0)) := by
  have H : Ev none e 65 156 [some (.ref 104), some (.int fr), some (.int to), some (.int hb), some (.ref rw), some (.int go), some (.int n), c7] [.int 0, .ref 104] M v M' 0 0 := Ev.back 2 (fun n => rfl) H
  obtain ⟨N2, eN2⟩ : ∃ N, N = (wF M 104 8 0) := ⟨_, rfl⟩
  have hN2 : SQ N2 := by rw [eN2]; exact hS.kf
  have H : Ev none e 65 159 [some (.ref 104), some (.int fr), some (.int to), some (.int hb), some (.ref rw), some (.int go), some (.int n), c7] [] N2 v M' 0 0 := by rw [eN2]; exact Ev.pfi rfl rfl rfl hS.1 qa_104 qi_22_8 H
  have H : Ev none e 65 160 [some (.ref 104), some (.int fr), some (.int to), some (.int hb), some (.ref rw), some (.int go), some (.int n), c7] [.ref 104] N2 v M' 0 0 := Ev.back 1 (fun n => rfl) H
  have H : Ev none e 65 163 [some (.ref 104), some (.int fr), some (.int to), some (.int hb), some (.ref rw), some (.int go), some (.int n), c7] [.ref 137] N2 v M' 0 0 := Ev.back 1 (gs_3 rfl rfl (gf_u hN2.1 qa_104 qr_22_6 qu_40 rfl)) H
  have H : Ev none e 65 166 [some (.ref 104), some (.int fr), some (.int to), some (.int hb), some (.ref rw), some (.int go), some (.int n), c7] [.int (zI N2 137 0)] N2 v M' 0 0 := Ev.back 1 (gs_3 rfl rfl (gf_i hN2.1 qa_137 qi_40_0 rfl)) H
  rw [show zI N2 137 0 = zI M 137 0 from by rw [eN2]; exact fI_wF_ne (fun q => absurd q.2 (by decide))] at H
  have H : Ev none e 65 (if (zI M 137 0) = go then 171 else 175) [some (.ref 104), some (.int fr), some (.int to), some (.int hb), some (.ref rw), some (.int go), some (.int n), c7] [] N2 v M' 0 0 := Ev.back 2 (fun n => rfl) H
  by_cases h3 : (zI M 137 0) = go
  · rw [if_pos h3] at H
    have H : Ev none e 65 176 [some (.ref 104), some (.int fr), some (.int to), some (.int hb), some (.ref rw), some (.int go), some (.int n), c7] [.int 1] N2 v M' 0 0 := Ev.back 2 (fun n => rfl) H
    obtain ⟨z1, z2⟩ := Ev.retz rfl rfl H
    subst eN2
    exact Or.inl ⟨h3, z1, z2⟩
  · rw [if_neg h3] at H
    have H : Ev none e 65 176 [some (.ref 104), some (.int fr), some (.int to), some (.int hb), some (.ref rw), some (.int go), some (.int n), c7] [.int 0] N2 v M' 0 0 := Ev.back 1 (fun n => rfl) H
    obtain ⟨z1, z2⟩ := Ev.retz rfl rfl H
    subst eN2
    exact Or.inr (⟨h3, z1, z2⟩)
/-! A WAY: the class's -/
/-- a WALKER alone: how its way goes on from a place, the CELLS so far; and where it ends -/
noncomputable def wlS (T : TS) (P : PK) (hb : Nat) (goal : Int32) : Nat → Int32 × Int32 × Int32 → List Int32 → List Int32 × Int32
  | 0, s, l => (l, s.1)
  | n + 1, s, l => if s.1 = goal then (l, s.1) else if choP (T 0) P (T hb) (s.1, goal, s.2.1, s.2.2, true) < 0 then (l, s.1) else wlS T P hb goal n (besP P s.1 (choP (T 0) P (T hb) (s.1, goal, s.2.1, s.2.2, true)), choP (T 0) P (T hb) (s.1, goal, s.2.1, s.2.2, true), s.1) (l ++ [besP P s.1 (choP (T 0) P (T hb) (s.1, goal, s.2.1, s.2.2, true))])
/-- the way from a DOOR to another one by a HABIT -/
noncomputable def wayL (T : TS) (P : PK) (a b h : Int32) : List Int32 × Int32 := wlS T P (h.toInt.toNat + 1) (P (3 + b.toInt.toNat)) 200 (P (3 + a.toInt.toNat), -1, -1) [P (3 + a.toInt.toNat)]
noncomputable def wayB (T : TS) (P : PK) (a b h : Int32) : Bool := decide ((wayL T P a b h).2 = P (3 + b.toInt.toNat))
def wyF (a k : Nat) : Prop := a = 137 ∨ (a = 104 ∧ (k = 8 ∨ k = 11))
def wyW (r a : Nat) : Prop := lkW a ∨ a = r
section CWAY
variable {e B L rw : Nat} {T T' : TS} {P P' P0 Q : PK} {PI : Nat → PK} {M M0 M1 M' : Mem} {v : Option Value} {c k d x a b h t y fr to hb go : Int32} {n i j hn : Nat} {l : List Int32} {F : Nat → Nat → Prop} {W O : Nat → Prop}
set_option maxRecDepth 200000 in
theorem rw_all : ((List.range 664).all (fun a => match gNth sT a with
  | some g => !(Nat.beq g 58) || (Nat.beq a 341 || Nat.beq a 342)
  | none => false)) = true := by decide +kernel
theorem rw_c (h : gNth sT rw = some 58) : rw = 341 ∨ rw = 342 := by
  have hl : rw < 664 := by
    have := gNth_lt _ _ _ h
    have e : sT.length = 664 := by decide +kernel
    omega
  have q := List.all_eq_true.mp rw_all rw (List.mem_range.mpr hl)
  rw [h] at q
  have q : (!(Nat.beq 58 58) || (Nat.beq rw 341 || Nat.beq rw 342)) = true := q
  have q : (Nat.beq rw 341 || Nat.beq rw 342) = true := q
  rw [Bool.or_eq_true] at q
  rcases q with q | q
  · exact Or.inl (Nat.eq_of_beq_eq_true q)
  · exact Or.inr (Nat.eq_of_beq_eq_true q)
theorem okF.wy (hr : gNth sT rw = some 58) : okF 8 wyF (wyW rw) noO := by
  have hc := rw_c hr
  refine ⟨⟨by unfold wyF; omega, by unfold wyF; omega⟩, fun t ht => ?_, ⟨fun q => q, fun q => q⟩, by unfold wyW lkW; omega, by unfold wyW lkW; omega, by unfold wyW lkW; omega⟩
  have := tx_cases ht
  refine ⟨fun k => by unfold wyF; omega, fun k k1 k8 q => ?_⟩
  rcases q with q | q
  · exact lk_tx ht k k1 k8 q
  · omega
/-- what stands while one goes alone -/
def AST (T : TS) (P : PK) (M : Mem) : Prop := CTX 8 T P M ∧ VC T P M ∧ zI M 104 8 = 1
theorem CTX.wy (h : CTX 8 T P M) (hr : gNth sT rw = some 58) (hS : SQ M') (hF : FZ wyF (wyW rw) noO M M') : CTX 8 T P M' := by
  have hc := rw_c hr
  refine h.mv hS hF (okF.wy hr) (fun k f hk hf => ?_) rfl rfl h.2.2.1 (fun c hc2 => ?_)
  · exact (hF.rn (by unfold wyW lkW; omega)).trans (h.1.2.2.2.2.2.2 k f hk hf)
  · have q : rI M' (8 + 8) c = rI M (8 + 8) c := hF.rn (by unfold wyW lkW; omega)
    exact q.trans (h.2.2.2.2.2.2.2 c hc2)
theorem CST.wy (h : CST T P PI M) (hr : gNth sT rw = some 58) (hS : SQ M') (hF : FZ wyF (wyW rw) noO M M') : CST T P PI M' := by
  have hc := rw_c hr
  refine h.scr hS hF ⟨by unfold wyF; omega, by unfold wyF; omega, by unfold wyF; omega⟩ (fun L hL _ => ⟨fun a k q1 q2 => ?_, fun a q1 q2 => ?_⟩) (fun t ht => ⟨fun k => ?_, fun k k1 k8 q => ?_⟩) ⟨fun q => q, fun q => q, fun q => q⟩ (fun _ _ _ q => q) (fun L hL => ⟨fun k hk => (hF.on (fun q => q)).trans ((h.2.2.2.2.2.1 L hL).1 k hk), (h.2.2.2.2.2.1 L hL).2.on (fun j => hF.on (fun q => q))⟩) (h.2.2.2.2.1.fz hF (by unfold wyF; omega) (by unfold wyF; omega) (fun a _ _ => by unfold wyW lkW; omega)) (by unfold wyW lkW; omega)
  · have := ld_cases hL
    unfold wyF
    omega
  · have := ld_cases hL
    unfold wyW lkW
    omega
  · have := tx_cases ht
    unfold wyF
    omega
  · have := tx_cases ht
    rcases q with q | q
    · exact lk_tx ht k k1 k8 q
    · omega
theorem arv_e (hr : gNth sT rw = some 58) {g0 : Bool} (hA : CTX 8 T P M) (hV : VC T P M) {c7 : Option Value} {here : Int32} (h0 : zI M 137 0 = here) (H : Ev none e 65 154 [some (.ref 104), some (.int fr), some (.int to), some (.int hb), some (.ref rw), some (.int go), some (.int t), c7] [] M v M' 0 0) : v = some (.int (bI (decide (here = go)))) ∧ M' = wF M 104 8 0 := by
  rcases arv_154 hA.1.1 hr H with ⟨a1, r1, r2⟩ | ⟨a1, r1, r2⟩
  · rw [h0] at a1
    rw [decide_eq_true a1]
    exact ⟨r1, r2⟩
  · rw [h0] at a1
    rw [decide_eq_false a1]
    exact ⟨r1, r2⟩
theorem arv_l (hr : gNth sT rw = some 58) (hh : hb.toInt = (hn : Int)) (h6 : hn < 6) (hgo : inC P go) : ∀ (r k : Nat) (nz : Int32) (here w cf : Int32) (l : List Int32) (c7 : Option Value) (M : Mem), CTX 8 T P M → VC T P M → zI M 104 8 = 1 → inC P here → -1 ≤ w.toInt → zI M 137 0 = here → zI M 137 4 = w → zI M 137 3 = cf → nz.toInt = (k : Int) → k + r = 200 → (zI M 104 11).toInt = (k : Int) → l.length = k + 1 → (∀ j y, l[j]? = some y → rN M rw j = y) → Ev none e 65 52 [some (.ref 104), some (.int fr), some (.int to), some (.int hb), some (.ref rw), some (.int go), some (.int nz), c7] [] M v M' 0 0 → v = some (.int (bI (decide ((wlS T P (hn + 1) go r (here, w, cf) l).2 = go)))) ∧ SQ M' ∧ FZ wyF (wyW rw) noO M M' ∧ CTX 8 T P M' ∧ VC T P M' ∧ zI M' 104 8 = 0 ∧ (zI M' 104 11).toInt + 1 = ((wlS T P (hn + 1) go r (here, w, cf) l).1.length : Int) ∧ (∀ j y, (wlS T P (hn + 1) go r (here, w, cf) l).1[j]? = some y → rN M' rw j = y) := by
  have hrc := rw_c hr
  have z200 : (200 : Int32).toInt = 200 := rfl
  have fin : ∀ (M : Mem) (here : Int32) (l : List Int32) (nz : Int32) (c7 : Option Value) (k : Nat), CTX 8 T P M → VC T P M → zI M 137 0 = here → (zI M 104 11).toInt = (k : Int) → l.length = k + 1 → (∀ j y, l[j]? = some y → rN M rw j = y) → Ev none e 65 154 [some (.ref 104), some (.int fr), some (.int to), some (.int hb), some (.ref rw), some (.int go), some (.int nz), c7] [] M v M' 0 0 → v = some (.int (bI (decide (here = go)))) ∧ SQ M' ∧ FZ wyF (wyW rw) noO M M' ∧ CTX 8 T P M' ∧ VC T P M' ∧ zI M' 104 8 = 0 ∧ (zI M' 104 11).toInt + 1 = (l.length : Int) ∧ (∀ j y, l[j]? = some y → rN M' rw j = y) := fun M here l nz c7 k hX hV h0 hs hl hrow H => by
    obtain ⟨r1, r2⟩ := arv_e (g0 := true) hr hX hV h0 H
    have hF : FZ wyF (wyW rw) noO M M' := by rw [r2]; exact FZ.wF (Or.inr ⟨rfl, Or.inl rfl⟩)
    have hS : SQ M' := by rw [r2]; exact hX.1.1.kf
    refine ⟨r1, hS, hF, hX.wy hr hS hF, ?_, by rw [r2]; exact fI_wF_eq hX.1.1.1 qa_104 qi_22_8, ?_, fun j y hj => ?_⟩
    · rw [r2]
      exact hV.mv rfl rfl (fun _ _ => rfl) (fun b j _ => rN_wF)
    · rw [r2, fI_wF_ne (by decide)]
      omega
    · rw [r2, rN_wF]
      exact hrow j y hj
  intro r
  induction r with
  | zero =>
    intro k nz here w cf l c7 M hX hV ha hin hw h0 h4 h3 hk hkr hs hl hrow H
    rcases arv_52 hX.1.1 hr H with ⟨_, H⟩ | ⟨a1, _⟩ | ⟨a1, _⟩
    · exact fin M here l nz c7 k hX hV h0 hs hl hrow H
    all_goals exact absurd (Int32.le_iff_toInt_le.mpr (by omega)) a1
  | succ r ih =>
    intro k nz here w cf l c7 M hX hV ha hin hw h0 h4 h3 hk hkr hs hl hrow H
    unfold wlS
    rcases arv_52 hX.1.1 hr H with ⟨a1, _⟩ | ⟨_, a1, H⟩ | ⟨_, a1, e1, v1, M1, _, H1, H⟩
    · have := Int32.le_iff_toInt_le.mp a1
      omega
    · rw [h0] at a1
      rw [if_pos a1]
      exact fin M here l nz c7 k hX hV h0 hs hl hrow H
    · rw [h0] at a1
      dsimp only
      rw [if_neg a1]
      obtain ⟨rv, S1, F1, V1⟩ := chos_ok (al := true) hX hV hh h6 hgo (by rw [h0]; exact hin) ha (by rw [h4]; exact hw) H1
      rw [h0, h4, h3] at rv
      obtain ⟨dd, edd⟩ : ∃ dd, dd = choP (T 0) P (T (hn + 1)) (here, go, w, cf, true) := ⟨_, rfl⟩
      rw [← edd] at rv ⊢
      rw [rv] at H
      have X1 : CTX 8 T P M1 := hX.lk S1 F1
      have lk : ∀ b, ¬ lkW b → ∀ j, rN M1 b j = rN M b j := fun b hb j => F1.rn hb
      have zs : ∀ a k, zI M1 a k = zI M a k := fun a k => F1.fi (fun q => q)
      have nrw : ¬ lkW rw := by unfold lkW; omega
      have tm : (-1 : Int32).toInt = -1 := rfl
      have z0 : (0 : Int32).toInt = 0 := rfl
      have hcr := cho_rng (g := T 0) (P := P) (q := T (hn + 1)) (w := (here, go, w, cf, true)) hgo.1
      rw [← edd] at hcr
      have F1w : FZ wyF (wyW rw) noO M M1 := F1.more (fun _ _ q => q.elim) (fun _ q => Or.inl q) (fun _ q => q)
      rcases arv_83 S1 hr H with ⟨b1, H⟩ | ⟨b1, _, _, H⟩
      · have hlt : dd < 0 := by rw [b1]; decide
        rw [if_pos hlt]
        obtain ⟨u1, u2, u3, u4, u5, u6, u7, u8⟩ := fin M1 here l nz _ k X1 V1 ((zs _ _).trans h0) (by rw [zs]; exact hs) hl (fun j y hj => (lk rw nrw j).trans (hrow j y hj)) H
        exact ⟨u1, u2, F1w.trans u3, u4, u5, u6, u7, u8⟩
      · have hd : 0 ≤ dd.toInt ∧ dd.toInt < 8 ∧ ¬ besP P here dd < 0 := hcr.resolve_left b1
        have hnl : ¬ dd < 0 := fun q => by
          have := Int32.lt_iff_toInt_lt.mp q
          omega
        rw [if_neg hnl]
        have hbe : inC P (besP P here dd) := (besP_in hX.2.1 hin).resolve_left (fun q => hd.2.2 (by rw [q]; decide))
        have er : rI M1 108 (8 * zI M1 137 0 + dd) = besP P here dd := by
          rw [zs, h0]
          exact (X1.2.2.2.2.1 here hin).2.2 dd hd.1 hd.2.1
        rw [er] at H
        obtain ⟨N, eN⟩ : ∃ N, N = X_74s M1 (besP P here dd) dd := ⟨_, rfl⟩
        rw [← eN] at H
        have SN : SQ N := by rw [eN]; exact X_74s_sx S1
        have q137 : gNth sT 137 = some 40 := qa_137
        have n0 : zI N 137 0 = besP P here dd := by
          rw [eN]
          unfold X_74s
          rw [fI_wF_ne (by decide)]
          exact fI_wF_eq S1.kf.1 q137 qi_40_0
        have n4 : zI N 137 4 = dd := by
          rw [eN]
          unfold X_74s
          exact fI_wF_eq S1.kf.kf.1 q137 qi_40_4
        have n3 : zI N 137 3 = here := by
          rw [eN]
          unfold X_74s
          rw [fI_wF_ne (by decide), fI_wF_ne (by decide), fI_wF_eq S1.1 q137 qi_40_3, zs, h0]
        have FN : FZ wyF (wyW rw) noO M1 N := by
          rw [eN]
          unfold X_74s
          exact ((FZ.wF (F := wyF) (Or.inl rfl)).trans (FZ.wF (Or.inl rfl))).trans (FZ.wF (Or.inl rfl))
        have n11 : zI N 104 11 = zI M 104 11 := by
          rw [eN]
          unfold X_74s
          rw [fI_wF_ne (by decide), fI_wF_ne (by decide), fI_wF_ne (by decide), zs]
        have n8 : zI N 104 8 = 1 := by
          rw [eN]
          unfold X_74s
          rw [fI_wF_ne (by decide), fI_wF_ne (by decide), fI_wF_ne (by decide), zs]
          exact ha
        rw [n0, n11] at H
        have k1 : (zI M 104 11 + 1).toInt = ((k + 1 : Nat) : Int) := by rw [i32_p1 (by omega)]; omega
        rw [cl_n k1] at H
        obtain ⟨N2, eN2⟩ : ∃ N2, N2 = wI (wF N 104 11 (zI M 104 11 + 1)) rw (k + 1) (besP P here dd) := ⟨_, rfl⟩
        rw [← eN2] at H
        have S2 : SQ N2 := by rw [eN2]; exact SN.kf.ki
        have F2 : FZ wyF (wyW rw) noO N N2 := by
          rw [eN2]
          exact (FZ.wF (F := wyF) (Or.inr ⟨rfl, Or.inr rfl⟩)).trans (FZ.wI (Or.inr rfl))
        have FF : FZ wyF (wyW rw) noO M N2 := (F1w.trans FN).trans F2
        have z2 : ∀ k, k ≠ 11 → zI N2 104 k = zI N 104 k := fun k hk => by rw [eN2, fI_wI, fI_wF_ne (fun q => hk q.2)]
        have z3 : ∀ k, zI N2 137 k = zI N 137 k := fun k => by rw [eN2, fI_wI, fI_wF_ne (fun q => absurd q.1 (by decide))]
        have rN2 : ∀ b j, ¬ (b = rw ∧ j = k + 1) → rN N2 b j = rN M1 b j := fun b j hb => by
          rw [eN2, rN_wI_ne hb, rN_wF, eN]
          unfold X_74s
          rw [rN_wF, rN_wF, rN_wF]
        have len : (zrw (wF N 104 11 (zI M 104 11 + 1)) rw).length = 201 := (SN.kf.1.row hr qw_58).2
        have V2 : VC T P N2 := V1.mv rfl rfl (fun _ _ => rfl) (fun b j hb => rN2 b j (fun q => nrw (q.1 ▸ hb)))
        obtain ⟨u1, u2, u3, u4, u5, u6, u7, u8⟩ := ih (k + 1) (nz + 1) (besP P here dd) dd here (l ++ [besP P here dd]) _ N2 (hX.wy hr S2 FF) V2 ((z2 8 (by decide)).trans n8) hbe (by omega) ((z3 0).trans n0) ((z3 4).trans n4) ((z3 3).trans n3) (by rw [i32_p1 (by omega)]; omega) (by omega) (by rw [eN2, fI_wI, fI_wF_eq SN.1 qa_104 qi_22_11]; exact k1) (by rw [List.length_append]; simp; omega) (fun j y hj => by
          rcases Nat.lt_or_ge j l.length with hlt | hge
          · rw [List.getElem?_append_left hlt] at hj
            rw [rN2 rw j (fun q => by omega), lk rw nrw]
            exact hrow j y hj
          · rw [List.getElem?_append_right hge] at hj
            have hj0 : j - l.length = 0 := by
              rcases Nat.eq_zero_or_pos (j - l.length) with q | q
              · exact q
              · rw [List.getElem?_eq_none (by simp; omega)] at hj
                cases hj
            have ejk : j = k + 1 := by omega
            rw [hj0] at hj
            cases hj
            rw [ejk, eN2]
            exact rN_wI_eq (by omega)) H
        exact ⟨u1, u2, FF.trans u3, u4, u5, u6, u7, u8⟩
/-- a way, from DOOR to DOOR -/
theorem arv_ok (hC : CST T P PI M) (hX : STA 8 T P M) (hr : gNth sT rw = some 58) (hh : inX hb 0 5) (ha : inD P fr) (hb2 : inD P to) (H : Ev none e 65 0 [some (.ref 104), some (.int fr), some (.int to), some (.int hb), some (.ref rw), none, none, none] [] M v M' 0 0) : v = some (.int (bI (wayB T P fr to hb))) ∧ CST T P PI M' ∧ STA 8 T P M' ∧ FZ wyF (wyW rw) noO M M' ∧ (zI M' 104 11).toInt + 1 = ((wayL T P fr to hb).1.length : Int) ∧ ∀ j y, (wayL T P fr to hb).1[j]? = some y → rN M' rw j = y := by
  have hrc := rw_c hr
  have hD := hC.ok.1
  have hA := hC.lan
  have f0 := ha.1
  have f1 := ha.2
  have t0 := hb2.1
  have t1 := hb2.2
  have hb0 : 0 ≤ hb.toInt := hh.1
  have hb5 : hb.toInt ≤ 5 := hh.2
  obtain ⟨_, _, _, H⟩ := arv_0 hX.sq hr hX.lw H
  have dr : ∀ z : Int32, inD P z → rI M (8 + 9) z = P (3 + z.toInt.toNat) ∧ inC P (P (3 + z.toInt.toNat)) := fun z hz => by
    have h1 := hz.1
    have h2 := hz.2
    exact ⟨(rI_n (p := z.toInt.toNat) (by omega)).trans (hA.1.2.2.1.2 z.toInt.toNat (by omega)), hD.2.1.2.2 z.toInt.toNat (by omega)⟩
  obtain ⟨er, ir⟩ := dr fr ha
  obtain ⟨et, it⟩ := dr to hb2
  rw [er, et] at H
  obtain ⟨N, eN⟩ : ∃ N, N = X_73s (wF (wF M 104 8 1) 104 11 0) (P (3 + fr.toInt.toNat)) (-1) := ⟨_, rfl⟩
  rw [← eN] at H
  have SN : SQ N := by rw [eN]; exact X_73s_sx hX.sq.kf.kf
  have S0 := hX.sq.kf (a := 104) (k := 8) (x := 1)
  have S1 := S0.kf (a := 104) (k := 11) (x := 0)
  have q137 : gNth sT 137 = some 40 := qa_137
  have n0 : zI N 137 0 = P (3 + fr.toInt.toNat) := by
    rw [eN]
    unfold X_73s
    rw [fI_wF_ne (by decide), fI_wF_ne (by decide), fI_wF_ne (by decide), fI_wF_ne (by decide)]
    exact fI_wF_eq S1.1 q137 qi_40_0
  have n3 : zI N 137 3 = -1 := by
    rw [eN]
    unfold X_73s
    rw [fI_wF_ne (by decide)]
    exact fI_wF_eq S1.kf.kf.kf.1 q137 qi_40_3
  have n4 : zI N 137 4 = -1 := by
    rw [eN]
    unfold X_73s
    exact fI_wF_eq S1.kf.kf.kf.kf.1 q137 qi_40_4
  have n11 : zI N 104 11 = 0 := by
    rw [eN]
    unfold X_73s
    rw [fI_wF_ne (by decide), fI_wF_ne (by decide), fI_wF_ne (by decide), fI_wF_ne (by decide), fI_wF_ne (by decide)]
    exact fI_wF_eq S0.1 qa_104 qi_22_11
  have n8 : zI N 104 8 = 1 := by
    rw [eN]
    unfold X_73s
    rw [fI_wF_ne (by decide), fI_wF_ne (by decide), fI_wF_ne (by decide), fI_wF_ne (by decide), fI_wF_ne (by decide), fI_wF_ne (by decide)]
    exact fI_wF_eq hX.sq.1 qa_104 qi_22_8
  have FN : FZ wyF (wyW rw) noO M N := by
    rw [eN]
    unfold X_73s
    exact ((((((FZ.wF (F := wyF) (Or.inr ⟨rfl, Or.inl rfl⟩)).trans (FZ.wF (Or.inr ⟨rfl, Or.inr rfl⟩))).trans (FZ.wF (Or.inl rfl))).trans (FZ.wF (Or.inl rfl))).trans (FZ.wF (Or.inl rfl))).trans (FZ.wF (Or.inl rfl))).trans (FZ.wF (Or.inl rfl))
  rw [n0] at H
  have i0 : (0 : Int32).toNatClampNeg = 0 := rfl
  rw [i0] at H
  obtain ⟨N2, eN2⟩ : ∃ N2, N2 = wI N rw 0 (P (3 + fr.toInt.toNat)) := ⟨_, rfl⟩
  rw [← eN2] at H
  have S2 : SQ N2 := by rw [eN2]; exact SN.ki
  have F2 : FZ wyF (wyW rw) noO N N2 := by rw [eN2]; exact FZ.wI (Or.inr rfl)
  have FF := FN.trans F2
  have z2 : ∀ a k, zI N2 a k = zI N a k := fun a k => by rw [eN2, fI_wI]
  have rN2 : ∀ b j, b ≠ rw → rN N2 b j = rN M b j := fun b j hb => by
    rw [eN2, rN_wI_ne (fun q => hb q.1), eN]
    unfold X_73s
    rw [rN_wF, rN_wF, rN_wF, rN_wF, rN_wF, rN_wF, rN_wF]
  have len : (zrw N rw).length = 201 := (SN.1.row hr qw_58).2
  have nrw : ¬ lkW rw := by unfold lkW; omega
  have X2 := hX.1.wy hr S2 FF
  have V2 : VC T P N2 := hX.2.1.mv rfl rfl (fun _ _ => rfl) (fun b j hb => rN2 b j (fun q => nrw (q ▸ hb)))
  obtain ⟨u1, u2, u3, u4, u5, u6, u7, u8⟩ := arv_l hr (hn := hb.toInt.toNat) (by omega) (by omega) it 200 0 0 (P (3 + fr.toInt.toNat)) (-1) (-1) [P (3 + fr.toInt.toNat)] none N2 X2 V2 ((z2 _ _).trans n8) ir (by decide) ((z2 _ _).trans n0) ((z2 _ _).trans n4) ((z2 _ _).trans n3) rfl rfl (by rw [z2, n11]; rfl) rfl (fun j y hj => by
    cases j with
    | zero =>
      cases hj
      rw [eN2]
      exact rN_wI_eq (by omega)
    | succ j => cases hj) H
  have F9 := FF.trans u3
  have hl := ld_cases hX.ld
  refine ⟨u1, hC.wy hr u2 F9, ⟨u4, u5, ?_, ?_, fun k hk => (F9.on (fun q => q)).trans (hX.2.2.2.2.1 k hk), hX.2.2.2.2.2.1.on (fun j => F9.on (fun q => q)), u6⟩, F9, u7, u8⟩
  · exact hX.2.2.1.mv F9 (by unfold wyF; omega) (by unfold wyF; omega) (by unfold wyF; omega) (by unfold wyF; omega) (fun k f _ => by unfold wyF; omega) (by unfold wyW lkW; omega) (fun _ _ => rfl) hD.2.1.2.1 hD.2.2.2.1
  · have q := hX.2.2.2.1
    exact ⟨(F9.fi (by unfold wyF; omega)).trans q.1, (F9.fi (by unfold wyF; omega)).trans q.2.1, (F9.fi (by unfold wyF; omega)).trans q.2.2.1, (F9.fi (by unfold wyF; omega)).trans q.2.2.2⟩
end CWAY
/-! THE CLASS'S ways, readings, fits, least: the state is kept -/
def wayN (P : PK) (a b h : Int32) : Prop := ¬ inD P a ∨ ¬ inD P b ∨ a = b ∨ ¬ inX h 0 5
set_option maxRecDepth 200000 in
theorem my_all : (gNth mRs 65).map (fun q => q.2.2.2.1) = some 8 ∧ (gNth mRs 42).map (fun q => q.2.2.2.1) = some 5 ∧ (gNth mRs 43).map (fun q => q.2.2.2.1) = some 3 ∧ (gNth mRs 21).map (fun q => q.2.2.2.1) = some 7 ∧ (gNth mRs 122).map (fun q => q.2.2.2.1) = some 2 := by refine ⟨?_, ?_, ?_, ?_, ?_⟩ <;> decide +kernel
set_option maxRecDepth 200000 in
theorem tm_h : fiB 46 4 2 0 5 = true ∧ irB 60 6 0 255 = true ∧ fiB 22 7 11 0 200 = true := by refine ⟨?_, ?_, ?_⟩ <;> decide +kernel
section CWYS
variable {e B L rw g ci k0 : Nat} {lo hi : Int} {T T' : TS} {P P' P0 Q : PK} {PI : Nat → PK} {M M0 M1 M' : Mem} {v : Option Value} {c k d x a b h t y fr to hb go : Int32} {n i j hn : Nat} {l : List Int32} {F : Nat → Nat → Prop} {W O : Nat → Prop}
theorem TM.wIx (hT : TM sT sG M) (ha : gNth sT k0 = some g) (hB : irB g n lo hi = true) (h0 : lo ≤ x.toInt) (h1 : x.toInt ≤ hi) : TM sT sG (wI M k0 i x) ∧ Frm sT [(1000 + g, 0)] M (wI M k0 i x) := by
  obtain ⟨l, e1, _, _, e4⟩ := hT.irow ha hB
  have e : wI M k0 i x = gPut M k0 (.inl (1, .inl (gPut l i x))) := by
    unfold wI
    rw [e1]
  rw [e]
  exact ⟨e4 i x h0 h1, Frm.row e1 ha (by simp)⟩
theorem TM.zIn (hT : TM sT sG M) (ha : gNth sT k0 = some g) (hB : fiB g ci i lo hi = true) : lo ≤ (zI M k0 i).toInt ∧ (zI M k0 i).toInt ≤ hi := by
  obtain ⟨vs, y, g1, g2, _, h0, h1, _⟩ := hT.fnum ha hB
  have e0 : zI M k0 i = y := by
    unfold zI fV
    rw [g1]
    dsimp only
    rw [g2]
  rw [e0]
  exact ⟨h0, h1⟩
theorem CST.msc (h : CST T P PI M) (hS : SQ M') (hF : FZ F W noO M M') (f : ∀ a k, F a k → (a = 0 ∧ k ≠ 2 ∧ k ≠ 6) ∨ a = 229) (w : ∀ a, W a → a = 344) : CST T P PI M' := by
  refine h.scr hS hF ⟨fun q => by have := f _ _ q; omega, fun q => by have := f _ _ q; omega, fun q => by have := f _ _ q; omega⟩ (fun L hL _ => ⟨fun a k q1 q2 q => ?_, fun a q1 q2 q => ?_⟩) (fun t ht => ⟨fun k q => ?_, fun k k1 k8 q => ?_⟩) ⟨fun q => q, fun q => q, fun q => q⟩ (fun _ _ _ q => q) (fun L hL => ⟨fun k hk => (hF.on (fun q => q)).trans ((h.2.2.2.2.2.1 L hL).1 k hk), (h.2.2.2.2.2.1 L hL).2.on (fun j => hF.on (fun q => q))⟩) (h.2.2.2.2.1.fz hF (fun q => by have := f _ _ q; omega) (fun q => by have := f _ _ q; omega) (fun a _ _ q => by have := w _ q; omega)) (fun q => by have := w _ q; omega)
  · have := ld_cases hL
    have := f _ _ q
    omega
  · have := ld_cases hL
    have := w _ q
    omega
  · have := tx_cases ht
    have := f _ _ q
    omega
  · have := tx_cases ht
    have := w _ q
    omega
theorem CST.w0 (h : CST T P PI M) (h2 : i ≠ 2) (h6 : i ≠ 6) : CST T P PI (wF M 0 i y) := h.msc (W := noO) h.sq.kf (FZ.wF (F := fun a k => a = 0 ∧ k = i) ⟨rfl, rfl⟩) (fun a k q => by have := q.1; have := q.2; omega) (fun _ q => q.elim)
/-- the way that is told stays -/
def KP1 (M M' : Mem) : Prop := (∀ j, rN M' 341 j = rN M 341 j) ∧ fR M' 0 10 = fR M 0 10
theorem KP1.refl : KP1 M M := ⟨fun _ => rfl, rfl⟩
theorem KP1.trans (h : KP1 M M1) (g : KP1 M1 M') : KP1 M M' := ⟨fun j => (g.1 j).trans (h.1 j), g.2.trans h.2⟩
theorem KP1.fz {O : Nat → Prop} (hF : FZ F W O M M') (w : ¬ W 341) (f : ¬ F 0 10) : KP1 M M' := ⟨fun j => hF.rn w, hF.fr f⟩
theorem KP1.nt (hF : FZ netF netW netW M M') : KP1 M M' := KP1.fz hF (by unfold netW; omega) (by unfold netF; omega)
theorem KP1.wy (hF : FZ wyF (wyW rw) noO M M') (h : rw = 342) : KP1 M M' := KP1.fz hF (by rw [h]; unfold wyW lkW; omega) (by unfold wyF; omega)
theorem KP1.en (hF : FZ enF enW noO M M') : KP1 M M' := KP1.fz hF (by unfold enW shgW; omega) (by unfold enF shgF; omega)
theorem KP1.wf {a0 : Nat} : KP1 M (wF M a0 i x) := ⟨fun j => rN_wF, fR_wF⟩
/-- two DOORS and a HABIT -/
theorem wat_ok (hC : CST T P PI M) (H : Ev none e 132 0 [some (.ref 0), some (.int a), some (.int b), some (.int h)] [] M v M' 0 0) : M' = M ∧ ((¬ wayN P a b h ∧ inD P a ∧ inD P b ∧ inX h 0 5 ∧ v = some (.int 1)) ∨ (wayN P a b h ∧ v = some (.int 0))) := by
  obtain ⟨e1, v1, M1, _, H1, H⟩ := wat_0 hC.sq H
  obtain ⟨rm, rv⟩ := twd_ok hC H1
  rw [rm] at H
  rcases rv with ⟨ia, ib, nab, rv⟩ | ⟨q, rv⟩
  · rw [rv] at H
    rcases wat_6 hC.sq H with ⟨q, _⟩ | ⟨_, q, r1, r2⟩ | ⟨_, q, r1, r2⟩
    · exact absurd q (by decide)
    · rw [g126_R] at q
      exact ⟨r2, Or.inr ⟨Or.inr (Or.inr (Or.inr q)), r1⟩⟩
    · rw [g126_R, Classical.not_not] at q
      refine ⟨r2, Or.inl ⟨fun m => ?_, ia, ib, q, r1⟩⟩
      rcases m with m | m | m | m
      · exact m ia
      · exact m ib
      · exact nab m
      · exact m q
  · rw [rv] at H
    rcases wat_6 hC.sq H with ⟨_, r1, r2⟩ | ⟨q2, _⟩ | ⟨q2, _⟩
    · refine ⟨r2, Or.inr ⟨?_, r1⟩⟩
      rcases q with q | q | q
      · exact Or.inl q
      · exact Or.inr (Or.inl q)
      · exact Or.inr (Or.inr (Or.inl q))
    all_goals exact absurd rfl q2
theorem arvI (hI : INV M) (he : 4 ≤ e) (hr : gNth sT rw = some 58) (h1 : 0 ≤ fr.toInt ∧ fr.toInt ≤ 8) (h2 : 0 ≤ to.toInt ∧ to.toInt ≤ 8) (h3 : 0 ≤ hb.toInt ∧ hb.toInt ≤ 5) (H : Ev none e 65 0 [some (.ref 104), some (.int fr), some (.int to), some (.int hb), some (.ref rw), none, none, none] [] M v M' 0 0) : INV M' := (inv_d (c := kX7_arrives) (k := 8) (ws := [.ref 104, .int fr, .int to, .int hb, .ref rw]) kX7_arrives_ok (by decide +kernel) my_all.1 he (Two.mk rfl (Two.mk ⟨_, rfl, h1⟩ (Two.mk ⟨_, rfl, h2⟩ (Two.mk ⟨_, rfl, h3⟩ (Two.mk ⟨rw, rfl, hr⟩ trivial))))) hI H).1
theorem CST.d8 (h : CST T P PI M) (ha : inD P a) : 0 ≤ a.toInt ∧ a.toInt ≤ 8 := by
  have q := h.ok.1.2.1.2.1
  have h1 := ha.1
  have h2 := ha.2
  omega
/-- the way between two DOORS -/
theorem way_ok (h9 : CST T P PI M) (hI : INV M) (he : 6 ≤ e) (H : Ev none e 115 0 [some (.ref 0), some (.int a), some (.int b), some (.int h), none] [] M v M' 0 0) : CST T P PI M' ∧ ((wayN P a b h ∧ v = some (.int (-2)) ∧ M' = M) ∨ (¬ wayN P a b h ∧ (zI M' 0 13).toInt + 1 = ((wayL T P a b h).1.length : Int) ∧ (∀ j y, (wayL T P a b h).1[j]? = some y → rN M' (fR M' 0 9) j = y) ∧ ((wayB T P a b h = true ∧ v = some (.int (zI M' 0 13))) ∨ (wayB T P a b h = false ∧ v = some (.int (-1)))))) := by
  obtain ⟨e1, v1, M1, he1, H1, H⟩ := way_0 h9.sq H
  obtain ⟨rm, rv⟩ := wat_ok h9 H1
  rw [rm] at H
  rcases rv with ⟨nw, ia, ib, ih, rv⟩ | ⟨nw, rv⟩
  · rw [rv] at H
    rcases way_7 h9.sq h9.ld H with ⟨q, _⟩ | ⟨_, e2, v2, M2, he2, H2, H⟩
    · exact absurd q (by decide)
    · obtain ⟨rv2, c2, x2, I2, _⟩ := h9.ent hI (by omega) H2
      rw [rv2] at H
      obtain ⟨e3, v3, M3, he3, H3, H⟩ := way_24 c2.sq H
      have hr : gNth sT (fR M2 0 9) = some 58 := (c2.sq.1.fr qa_0 qr_0_9).2
      obtain ⟨rv3, c3, x3, F3, t3, r3⟩ := arv_ok c2 x2 hr ih ia ib H3
      rw [rv3] at H
      have e9 : fR M3 0 9 = fR M2 0 9 := F3.fr (by unfold wyF; omega)
      have fin : M' = wF M3 0 13 (zI M3 104 11) → CST T P PI M' ∧ (zI M' 0 13).toInt + 1 = ((wayL T P a b h).1.length : Int) ∧ (∀ j y, (wayL T P a b h).1[j]? = some y → rN M' (fR M' 0 9) j = y) ∧ zI M' 0 13 = zI M3 104 11 := fun eM => by
        have e13 : zI M' 0 13 = zI M3 104 11 := by rw [eM]; exact fI_wF_eq c3.sq.1 qa_0 qi_0_13
        refine ⟨by rw [eM]; exact c3.w0 (by decide) (by decide), by rw [e13]; exact t3, fun j y hj => ?_, e13⟩
        rw [eM, fR_wF, rN_wF, e9]
        exact r3 j y hj
      rcases way_38 c3.sq H with ⟨q, r1, r2⟩ | ⟨q, r1, r2⟩
      · obtain ⟨f1, f2, f3, f4⟩ := fin r2
        refine ⟨f1, Or.inr ⟨nw, f2, f3, Or.inr ⟨?_, r1⟩⟩⟩
        cases hw : wayB T P a b h with
        | false => rfl
        | true => rw [hw] at q; exact absurd q (by decide)
      · obtain ⟨f1, f2, f3, f4⟩ := fin r2
        refine ⟨f1, Or.inr ⟨nw, f2, f3, Or.inl ⟨?_, by rw [f4]; exact r1⟩⟩⟩
        cases hw : wayB T P a b h with
        | true => rfl
        | false => rw [hw] at q; exact absurd rfl q
  · rw [rv] at H
    rcases way_7 h9.sq h9.ld H with ⟨_, r1, r2⟩ | ⟨q, _⟩
    · exact ⟨by rw [r2]; exact h9, Or.inl ⟨nw, r1, r2⟩⟩
    · exact absurd rfl q
theorem twy_l (hn5 : n ≤ 5) (he : 5 ≤ e) : ∀ (r : Nat) (iz nz : Int32) (c3 c4 c5 : Option Value) (M : Mem), CST T P PI M → STA 8 T P M → INV M → nz.toInt = (n : Int) → iz.toInt + (r : Int) = nz.toInt → 0 ≤ iz.toInt → Ev none e 118 55 [some (.ref 0), some (.int nz), some (.int iz), c3, c4, c5] [] M v M' 0 0 → CST T P PI M' ∧ INV M' ∧ (fR M 0 10 = 342 → KP1 M M') ∧ ∃ r, v = some (.int r) := by
  intro r
  induction r with
  | zero =>
    intro iz nz c3 c4 c5 M hC hX hI hn hi h0 H
    rcases twy_55 hC.sq H with ⟨_, r1, r2⟩ | ⟨a1, _⟩
    · rw [r2]; exact ⟨hC, hI, fun _ => KP1.refl, _, r1⟩
    · exact absurd (Int32.le_iff_toInt_le.mpr (by omega)) a1
  | succ r ih =>
    intro iz nz c3 c4 c5 M hC hX hI hn hi h0 H
    rcases twy_55 hC.sq H with ⟨_, r1, r2⟩ | ⟨_, _, _, _, e1, v1, M1, he1, H1, H⟩
    · rw [r2]; exact ⟨hC, hI, fun _ => KP1.refl, _, r1⟩
    · obtain ⟨rm, rv⟩ := wat_ok hC H1
      rw [rm] at H
      rcases rv with ⟨nw, ia, ib, ih9, rv⟩ | ⟨nw, rv⟩
      · rw [rv] at H
        rcases twy_111 hC.sq H with ⟨q, _⟩ | ⟨_, e3, v3, M3, he3, H3, H⟩
        · exact absurd q (by decide)
        · have hr : gNth sT (fR M 0 10) = some 58 := (hC.sq.1.fr qa_0 qr_0_10).2
          have I3 := arvI hI (by omega) hr (hC.d8 ia) (hC.d8 ib) ih9 H3
          obtain ⟨rv3, c3, x3, F3, t3, r3⟩ := arv_ok hC hX hr ih9 ia ib H3
          rw [rv3] at H
          rcases twy_130 c3.sq H with ⟨_, r1, r2⟩ | ⟨_, e4, v4, M4, he4, H4, H⟩
          · rw [r2]; exact ⟨c3, I3, fun h => KP1.wy F3 h, _, r1⟩
          · have hr3 : gNth sT (fR M3 0 10) = some 58 := (c3.sq.1.fr qa_0 qr_0_10).2
            obtain ⟨I4, S4, F4, q4⟩ := net_call (cn := kX4_setWay) (mx := 5) (wsv := [.ref 229, .int iz, .ref (fR M3 0 10), .int (zI M3 104 11)]) kX4_setWay_ok (by decide +kernel) my_all.2.1 (by show 1 ≤ e4; omega) (Two.mk rfl (Two.mk ⟨_, rfl, by omega, by show iz.toInt ≤ 4; omega⟩ (Two.mk ⟨_, rfl, hr3⟩ (Two.mk ⟨_, rfl, I3.1.zIn qa_104 tm_h.2.2⟩ trivial)))) I3 c3.sq.2 H4
            rw [ret_n (by decide) q4] at H
            obtain ⟨u1, u2, u3, u4⟩ := ih (iz + 1) nz _ _ _ M4 (c3.nt S4 F4) (x3.nt hC.ok.1 S4 F4) I4 hn (by rw [i32_p1 (by omega)]; omega) (by rw [i32_p1 (by omega)]; omega) (twy_154 S4 H)
            exact ⟨u1, u2, fun h => ((KP1.wy F3 h).trans (KP1.nt F4)).trans (u3 (((KP1.wy F3 h).trans (KP1.nt F4)).2.trans h)), u4⟩
      · rw [rv] at H
        rcases twy_111 hC.sq H with ⟨_, r1, r2⟩ | ⟨q, _⟩
        · rw [r2]; exact ⟨hC, hI, fun _ => KP1.refl, _, r1⟩
        · exact absurd rfl q
theorem STA.f229 (h : STA 8 T P M) (hD : okD P) (hS : SQ M') (hF : FZ (fun a k => a = 229 ∧ k = 2) noO noO M M') : STA 8 T P M' := h.nt hD hS (hF.more (fun a k q => Or.inl q.1) (fun _ q => q.elim) (fun _ q => q.elim))
theorem readS_ok (h9 : CST T P PI M) (hI : INV M) (he : 10 ≤ e) (H : Ev none e 117 0 [some (.ref 0), none] [] M v M' 0 0) : CST T P PI M' ∧ (fR M 0 10 = 342 → KP1 M M') := by
  obtain ⟨e1, v1, M1, he1, H1, H⟩ := rea_0 h9.sq H
  have q1 : CST T P PI M1 ∧ INV M1 ∧ (fR M 0 10 = 342 → KP1 M M1) ∧ ∃ r, v1 = some (.int r) := by
    rcases twy_0 h9.sq h9.ld H1 with ⟨_, r1, r2⟩ | ⟨a1, _, e2, v2, M2, he2, H2, H1⟩ | ⟨_, _, r1, r2⟩
    · rw [r2]; exact ⟨h9, hI, fun _ => KP1.refl, _, r1⟩
    · rw [g126_R, Classical.not_not] at a1
      have n1 : 1 ≤ (zI M 1 1 / 3).toInt := a1.1
      have n5 : (zI M 1 1 / 3).toInt ≤ 5 := a1.2
      obtain ⟨rv2, c2, x2, I2, F2⟩ := h9.ent hI (by omega) H2
      rw [rv2] at H1
      have H1 := twy_45 c2.sq H1
      have F3 : FZ (fun a k => a = 229 ∧ k = 2) noO noO M2 (wF M2 229 2 (zI M 1 1 / 3)) := FZ.wF ⟨rfl, rfl⟩
      have S3 : SQ (wF M2 229 2 (zI M 1 1 / 3)) := c2.sq.kf
      obtain ⟨w1, w2⟩ := I2.1.wFi (x := zI M 1 1 / 3) qa_229 tm_h.1 (by omega) (by omega)
      obtain ⟨u1, u2, u3, u4⟩ := twy_l (n := (zI M 1 1 / 3).toInt.toNat) (by omega) (by omega) (zI M 1 1 / 3).toInt.toNat 0 _ _ _ _ _ (c2.msc S3 F3 (fun a k q => Or.inr q.1) (fun _ q => q.elim)) (x2.f229 h9.ok.1 S3 F3) (I2.frmT w1 w2 (by decide +kernel)) (by omega) (by have z0 : (0 : Int32).toInt = 0 := rfl; omega) (by decide) H1
      have k2 : KP1 M (wF M2 229 2 (zI M 1 1 / 3)) := (KP1.en F2).trans KP1.wf
      exact ⟨u1, u2, fun h => k2.trans (u3 (k2.2.trans h)), u4⟩
    · rw [r2]; exact ⟨h9, hI, fun _ => KP1.refl, _, r1⟩
  obtain ⟨c1, I1, k1, r, hr⟩ := q1
  rw [hr] at H
  rcases rea_4 c1.sq c1.ld H with ⟨_, _, r2⟩ | ⟨_, e4, v4, M4, he4, H4, H⟩
  · rw [r2]; exact ⟨c1.tp, fun h => (k1 h).trans KP1.wf⟩
  · obtain ⟨I4, S4, F4, q4⟩ := net_call (cn := kX4_tellings) (mx := 3) (wsv := [.ref 229, .ref 8]) kX4_tellings_ok (by decide +kernel) my_all.2.2.1 (by show 8 ≤ e4; omega) (Two.mk rfl (Two.mk ⟨8, rfl, lnd_8⟩ trivial)) I1 c1.sq.2 H4
    obtain ⟨r2, hr2⟩ := ret_i (by decide) q4
    rw [hr2] at H
    obtain ⟨_, rm⟩ := rea_18 S4 H
    rw [rm]
    exact ⟨(c1.nt S4 F4).tp, fun h => ((k1 h).trans (KP1.nt F4)).trans KP1.wf⟩
theorem ftg_l (he : 5 ≤ e) (ia : inD P a) (ib : inD P b) : ∀ (r : Nat) (s h : Int32) (M : Mem), CST T P PI M → STA 8 T P M → INV M → h.toInt + (r : Int) = 6 → 0 ≤ h.toInt → Ev none e 121 16 [some (.ref 0), some (.int a), some (.int b), some (.int s), some (.int h)] [] M v M' 0 0 → CST T P PI M' ∧ (fR M 0 10 = 342 → KP1 M M') ∧ ∃ r, v = some (.int r) := by
  have z6 : (6 : Int32).toInt = 6 := rfl
  intro r
  induction r with
  | zero =>
    intro s h M hC hX hI hh h0 H
    rcases ftg_16 hC.sq H with ⟨_, r1, r2⟩ | ⟨a1, _⟩
    · rw [r2]; exact ⟨hC, fun _ => KP1.refl, _, r1⟩
    · exact absurd (Int32.le_iff_toInt_le.mpr (by omega)) a1
  | succ r ih =>
    intro s h M hC hX hI hh h0 H
    rcases ftg_16 hC.sq H with ⟨_, r1, r2⟩ | ⟨_, e3, v3, M3, he3, H3, H⟩
    · rw [r2]; exact ⟨hC, fun _ => KP1.refl, _, r1⟩
    · have hr : gNth sT (fR M 0 10) = some 58 := (hC.sq.1.fr qa_0 qr_0_10).2
      have i5 : inX h 0 5 := ⟨h0, by show h.toInt ≤ 5; omega⟩
      have I3 := arvI hI (by omega) hr (hC.d8 ia) (hC.d8 ib) i5 H3
      obtain ⟨rv3, c3, x3, F3, t3, r3⟩ := arv_ok hC hX hr i5 ia ib H3
      rw [rv3] at H
      rcases ftg_38 c3.sq H with ⟨_, e4, v4, M4, he4, H4, H⟩ | ⟨_, H⟩
      · obtain ⟨I4, S4, F4, q4⟩ := net_call (cn := kX10_tapeTellsTrail) (mx := 2) (wsv := [.ref 0]) kX10_tapeTellsTrail_ok (by decide +kernel) my_all.2.2.2.2 (Nat.zero_le _) (Two.mk rfl trivial) I3 c3.sq.2 H4
        obtain ⟨r4, hr4⟩ := ret_i (by decide) q4
        rw [hr4] at H
        have nx : ∀ s2, Ev none e 121 16 [some (.ref 0), some (.int a), some (.int b), some (.int s2), some (.int (h + 1))] [] M4 v M' 0 0 → CST T P PI M' ∧ (fR M 0 10 = 342 → KP1 M M') ∧ ∃ r, v = some (.int r) := fun s2 H => by
          obtain ⟨u1, u2, u3⟩ := ih s2 (h + 1) M4 (c3.nt S4 F4) (x3.nt hC.ok.1 S4 F4) I4 (by rw [i32_p1 (by omega)]; omega) (by rw [i32_p1 (by omega)]; omega) H
          exact ⟨u1, fun h => ((KP1.wy F3 h).trans (KP1.nt F4)).trans (u2 (((KP1.wy F3 h).trans (KP1.nt F4)).2.trans h)), u3⟩
        rcases ftg_60 S4 H with ⟨_, H⟩ | ⟨_, H⟩
        · exact nx _ H
        · exact nx _ H
      · obtain ⟨u1, u2, u3⟩ := ih s (h + 1) M3 c3 x3 I3 (by rw [i32_p1 (by omega)]; omega) (by rw [i32_p1 (by omega)]; omega) H
        exact ⟨u1, fun h => (KP1.wy F3 h).trans (u2 ((KP1.wy F3 h).2.trans h)), u3⟩
theorem fitsS_ok (h9 : CST T P PI M) (hI : INV M) (he : 8 ≤ e) (H : Ev none e 120 0 [some (.ref 0), some (.int a), some (.int b), none] [] M v M' 0 0) : CST T P PI M' ∧ (fR M 0 10 = 342 → KP1 M M') := by
  rcases fit_0 h9.sq H with ⟨_, _, r2⟩ | ⟨_, e1, v1, M1, he1, H1, H⟩
  · rw [r2]; exact ⟨h9.tp, fun _ => KP1.wf⟩
  · obtain ⟨rm, rv⟩ := twd_ok h9 H1
    rw [rm] at H
    rcases rv with ⟨ia, ib, nab, rv⟩ | ⟨_, rv⟩
    · rw [rv] at H
      rcases fit_25 h9.sq H with ⟨q, _⟩ | ⟨_, e2, v2, M2, he2, H2, H⟩
      · exact absurd q (by decide)
      · obtain ⟨e3, v3, M3, he3, H3, H2⟩ := ftg_0 h9.sq h9.ld H2
        obtain ⟨rv3, c3, x3, I3, F3⟩ := h9.ent hI (by omega) H3
        rw [rv3] at H2
        obtain ⟨c2, k2, r, hr⟩ := ftg_l (by omega) ia ib 6 0 0 M3 c3 x3 I3 rfl (by decide) (ftg_13 c3.sq H2)
        rw [hr] at H
        obtain ⟨_, r2⟩ := fit_34 c2.sq H
        rw [r2]
        exact ⟨c2.tp, fun h => ((KP1.en F3).trans (k2 ((KP1.en F3).2.trans h))).trans KP1.wf⟩
    · rw [rv] at H
      rcases fit_25 h9.sq H with ⟨_, _, r2⟩ | ⟨q, _⟩
      · rw [r2]; exact ⟨h9.tp, fun _ => KP1.wf⟩
      · exact absurd rfl q
theorem CST.e344 (h : CST T P PI M) : CST T P PI (wI M 344 i x) := h.msc (F := noF) h.sq.ki (FZ.wI (W := fun a => a = 344) rfl) (fun _ _ q => q.elim) (fun _ q => q)
theorem lot_l (n6 : n ≤ 6) (he : 6 ≤ e) : ∀ (r : Nat) (iz nz : Int32) (c3 c4 : Option Value) (M : Mem), CST T P PI M → INV M → nz.toInt = (n : Int) → iz.toInt + (r : Int) = nz.toInt → 0 ≤ iz.toInt → 2 ≤ n → Ev none e 101 23 [some (.ref 0), some (.int nz), some (.int iz), c3, c4] [] M v M' 0 0 → CST T P PI M' ∧ ∃ r, v = some (.int r) := by
  have en : ∀ (iz nz : Int32) (c3 c4 : Option Value) (M : Mem), CST T P PI M → INV M → nz.toInt = (n : Int) → 2 ≤ n → (∃ e1 v1 M1, e = e1 + 1 ∧ Ev none e1 54 0 [some (.ref 104), some (.ref 8)] [] M v1 M1 0 0 ∧ Ev none e 101 115 [some (.ref 0), some (.int nz), some (.int iz), c3, c4] (v1.toList ++ []) M1 v M' 0 0) → CST T P PI M' ∧ ∃ r, v = some (.int r) := fun iz nz c3 c4 M hC hI hn n2 H => by
    obtain ⟨e1, v1, M1, he1, H1, H⟩ := H
    obtain ⟨rv, c1, _, I1, _⟩ := hC.ent hI (by omega) H1
    rw [rv] at H
    obtain ⟨e2, v2, M2, he2, H2, H⟩ := lot_115 c1.sq H
    obtain ⟨I2, S2, F2, q4⟩ := net_call (cn := kX2_leastCost) (mx := 7) (wsv := [.ref 192, .ref 344, .int nz]) kX2_leastCost_ok (by decide +kernel) my_all.2.2.2.1 (by show 3 ≤ e2; omega) (Two.mk rfl (Two.mk rfl (Two.mk ⟨_, rfl, by show (2 : Int) ≤ nz.toInt; omega, by show nz.toInt ≤ (6 : Int); omega⟩ trivial))) I1 c1.sq.2 H2
    obtain ⟨r, hr⟩ := ret_i (by decide) q4
    rw [hr] at H
    obtain ⟨r1, r2⟩ := lot_127 S2 H
    rw [r2]
    exact ⟨c1.nt S2 F2, _, r1⟩
  intro r
  induction r with
  | zero =>
    intro iz nz c3 c4 M hC hI hn hi h0 n2 H
    rcases lot_23 hC.sq hC.ld H with ⟨_, H⟩ | ⟨a1, _⟩
    · exact en iz nz c3 c4 M hC hI hn n2 H
    · exact absurd (Int32.le_iff_toInt_le.mpr (by omega)) a1
  | succ r ih =>
    intro iz nz c3 c4 M hC hI hn hi h0 n2 H
    rcases lot_23 hC.sq hC.ld H with ⟨_, H⟩ | ⟨_, _, e1, v1, M1, he1, H1, H⟩
    · exact en iz nz c3 c4 M hC hI hn n2 H
    · obtain ⟨rv, rm⟩ := isd_0 hC.sq hC.ld H1
      rw [rm, rv] at H
      rcases lot_43 hC.sq hC.ld H with ⟨_, r1, r2⟩ | ⟨a1, d9, i6, H⟩
      · rw [r2]; exact ⟨hC, _, r1⟩
      · have ia : inD P (rI M 2 iz) := by
          by_cases q : inD P (rI M 2 iz)
          · exact q
          · exact absurd ((isd_ok hC).mpr q) a1
        have hz0 := ia.1
        have hz1 := ia.2
        have er : rI M (8 + 9) (rI M 2 iz) = P (3 + (rI M 2 iz).toInt.toNat) := (rI_n (p := (rI M 2 iz).toInt.toNat) (by omega)).trans (hC.lan.1.2.2.1.2 (rI M 2 iz).toInt.toNat (by omega))
        have hc := (hC.ok.1.2.1.2.2 (rI M 2 iz).toInt.toNat (by omega)).lt hC.ok.1.1
        rw [← er] at hc
        obtain ⟨w1, w2⟩ := hI.1.wIx (i := iz.toNatClampNeg) qa_344 tm_h.2.1 (x := rI M (8 + 9) (rI M 2 iz)) (by omega) (by omega)
        have C1 := hC.e344 (i := iz.toNatClampNeg) (x := rI M (8 + 9) (rI M 2 iz))
        have I1 := hI.frmT w1 w2 (by decide +kernel)
        obtain ⟨N, eN⟩ : ∃ N, N = wI M 344 iz.toNatClampNeg (rI M (8 + 9) (rI M 2 iz)) := ⟨_, rfl⟩
        rw [← eN] at C1 I1 H
        have lp : ∀ (s : Nat) (j : Int32), 0 ≤ j.toInt → j.toInt + (s : Int) = iz.toInt → Ev none e 101 67 [some (.ref 0), some (.int nz), some (.int iz), some (.int (rI M 2 iz)), some (.int j)] [] N v M' 0 0 → CST T P PI M' ∧ ∃ r, v = some (.int r) := by
          intro s
          induction s with
          | zero =>
            intro j j0 hj H
            rcases lot_67 C1.sq C1.ld H with ⟨_, H⟩ | ⟨a1, _⟩ | ⟨a1, _⟩
            · exact ih (iz + 1) nz _ _ N C1 I1 hn (by rw [i32_p1 (by omega)]; omega) (by rw [i32_p1 (by omega)]; omega) n2 H
            all_goals exact absurd (Int32.le_iff_toInt_le.mpr (by omega)) a1
          | succ s ihs =>
            intro j j0 hj H
            rcases lot_67 C1.sq C1.ld H with ⟨a1, _⟩ | ⟨_, _, _, _, r1, r2⟩ | ⟨_, _, _, _, H⟩
            · have := Int32.le_iff_toInt_le.mp a1
              omega
            · rw [r2]; exact ⟨C1, _, r1⟩
            · exact ihs (j + 1) (by rw [i32_p1 (by omega)]; omega) (by rw [i32_p1 (by omega)]; omega) H
        exact lp iz.toInt.toNat 0 (by decide) (by have z0 : (0 : Int32).toInt = 0 := rfl; omega) H
theorem leastS_ok (h9 : CST T P PI M) (hI : INV M) (he : 8 ≤ e) (H : Ev none e 100 0 [some (.ref 0), none] [] M v M' 0 0) : CST T P PI M' := by
  obtain ⟨e1, v1, M1, he1, H1, H⟩ := lea_0 h9.sq H
  have q1 : CST T P PI M1 ∧ ∃ r, v1 = some (.int r) := by
    rcases lot_0 h9.sq h9.ld H1 with ⟨_, r1, r2⟩ | ⟨a1, H1⟩
    · rw [r2]; exact ⟨h9, _, r1⟩
    · rw [g126_R, Classical.not_not] at a1
      have n1 : 2 ≤ (zI M 1 1).toInt := a1.1
      have n6 : (zI M 1 1).toInt ≤ 6 := a1.2
      exact lot_l (n := (zI M 1 1).toInt.toNat) (by omega) (by omega) (zI M 1 1).toInt.toNat 0 _ _ _ _ h9 hI (by omega) (by have z0 : (0 : Int32).toInt = 0 := rfl; omega) (by decide) (by omega) H1
  obtain ⟨c1, r, hr⟩ := q1
  rw [hr] at H
  obtain ⟨_, r2⟩ := lea_4 c1.sq H
  rw [r2]
  exact c1.tp
end CWYS
/-! THE CLASS'S first line of a weight: pieces (made by gwal7.py) -/
theorem fwl_0 {e : Nat} {M M' : Mem} {v : Option Value} {x : Nat} (hS : SQ M) (a_x : gNth sT x = some 28) (H : Ev none e 52 0 [some (.ref x), none] [] M v M' 0 0) : Ev none e 52 2 [some (.ref x), some (.int 0)] [] M v M' 0 0 := by
  have H : Ev none e 52 2 [some (.ref x), some (.int 0)] [] M v M' 0 0 := Ev.back 2 (fun n => rfl) H
  have HF := H
  exact HF
theorem fwl_2 {e : Nat} {M M' : Mem} {v : Option Value} {i : Int32} {x : Nat} (hS : SQ M) (a_x : gNth sT x = some 28) (H : Ev none e 52 2 [some (.ref x), some (.int i)] [] M v M' 0 0) : ((zI M x 8) ≤ i ∧ v = some (.int (-1)) ∧ M' = M) ∨ (¬ ((zI M x 8) ≤ i) ∧ (rI M (x + 1) i) = 5 ∧ (rI M (x + 2) i) = 6 ∧ (0 ≤ i.toInt ∧ i.toInt < 16) ∧ (0 ≤ i.toInt ∧ i.toInt < 16) ∧ v = some (.int i) ∧ M' = M) ∨ (¬ ((zI M x 8) ≤ i) ∧ (rI M (x + 1) i) = 5 ∧ ¬ ((rI M (x + 2) i) = 6) ∧ (0 ≤ i.toInt ∧ i.toInt < 16) ∧ (0 ≤ i.toInt ∧ i.toInt < 16) ∧ Ev none e 52 2 [some (.ref x), some (.int (i + 1))] [] M v M' 0 0) ∨ (¬ ((zI M x 8) ≤ i) ∧ ¬ ((rI M (x + 1) i) = 5) ∧ (0 ≤ i.toInt ∧ i.toInt < 16) ∧ Ev none e 52 2 [some (.ref x), some (.int (i + 1))] [] M v M' 0 0) := by
  have H : Ev none e 52 4 [some (.ref x), some (.int i)] [.ref x, .int i] M v M' 0 0 := Ev.back 2 (fun n => rfl) H
  have H : Ev none e 52 7 [some (.ref x), some (.int i)] [.int (zI M x 8), .int i] M v M' 0 0 := Ev.back 1 (gs_3 rfl rfl (gf_i hS.1 a_x qi_28_8 rfl)) H
  have H : Ev none e 52 (if (zI M x 8) ≤ i then 39 else 10) [some (.ref x), some (.int i)] [] M v M' 0 0 := Ev.back 1 (fun n => rfl) H
  by_cases h1 : (zI M x 8) ≤ i
  · rw [if_pos h1] at H
    have H : Ev none e 52 40 [some (.ref x), some (.int i)] [.int (-1)] M v M' 0 0 := Ev.back 1 (fun n => rfl) H
    obtain ⟨z1, z2⟩ := Ev.retz rfl rfl H
    exact Or.inl ⟨h1, z1, z2⟩
  · rw [if_neg h1] at H
    have H : Ev none e 52 11 [some (.ref x), some (.int i)] [.ref x] M v M' 0 0 := Ev.back 1 (fun n => rfl) H
    have H : Ev none e 52 14 [some (.ref x), some (.int i)] [.ref (x + 1)] M v M' 0 0 := Ev.back 1 (gs_3 rfl rfl (gf_x hS.1 a_x qo_28 (fx_t0 hS a_x) rfl)) H
    have H : Ev none e 52 15 [some (.ref x), some (.int i)] [.int i, .ref (x + 1)] M v M' 0 0 := Ev.back 1 (fun n => rfl) H
    obtain ⟨b2, H⟩ := Ev.ial rfl rfl hS.1 (fx_g0 a_x) qw_29 H
    have H : Ev none e 52 16 [some (.ref x), some (.int i)] [.int (rI M (x + 1) i)] M v M' 0 0 := H
    have H : Ev none e 52 (if (rI M (x + 1) i) = 5 then 20 else 33) [some (.ref x), some (.int i)] [] M v M' 0 0 := Ev.back 2 (fun n => rfl) H
    by_cases h3 : (rI M (x + 1) i) = 5
    · rw [if_pos h3] at H
      have H : Ev none e 52 21 [some (.ref x), some (.int i)] [.ref x] M v M' 0 0 := Ev.back 1 (fun n => rfl) H
      have H : Ev none e 52 24 [some (.ref x), some (.int i)] [.ref (x + 2)] M v M' 0 0 := Ev.back 1 (gs_3 rfl rfl (gf_x hS.1 a_x qo_28 (fx_t1 hS a_x) rfl)) H
      have H : Ev none e 52 25 [some (.ref x), some (.int i)] [.int i, .ref (x + 2)] M v M' 0 0 := Ev.back 1 (fun n => rfl) H
      obtain ⟨b4, H⟩ := Ev.ial rfl rfl hS.1 (fx_g1 a_x) qw_30 H
      have H : Ev none e 52 26 [some (.ref x), some (.int i)] [.int (rI M (x + 2) i)] M v M' 0 0 := H
      have H : Ev none e 52 (if (rI M (x + 2) i) = 6 then 31 else 33) [some (.ref x), some (.int i)] [] M v M' 0 0 := Ev.back 2 (fun n => rfl) H
      by_cases h5 : (rI M (x + 2) i) = 6
      · rw [if_pos h5] at H
        have H : Ev none e 52 32 [some (.ref x), some (.int i)] [.int i] M v M' 0 0 := Ev.back 1 (fun n => rfl) H
        obtain ⟨z1, z2⟩ := Ev.retz rfl rfl H
        exact Or.inr (Or.inl ⟨h1, h3, h5, b2, b4, z1, z2⟩)
      · rw [if_neg h5] at H
        have H : Ev none e 52 2 [some (.ref x), some (.int (i + 1))] [] M v M' 0 0 := Ev.back 2 (fun n => rfl) H
        have HF := H
        exact Or.inr (Or.inr (Or.inl ⟨h1, h3, h5, b2, b4, HF⟩))
    · rw [if_neg h3] at H
      have H : Ev none e 52 2 [some (.ref x), some (.int (i + 1))] [] M v M' 0 0 := Ev.back 2 (fun n => rfl) H
      have HF := H
      exact Or.inr (Or.inr (Or.inr (⟨h1, h3, b2, HF⟩)))
/-! THE CASE turns, of both sides -/
noncomputable def fwR (ls : List Lnq) : Nat → Nat → Option Nat
  | 0, _ => none
  | r + 1, k => match ls[k]? with
    | none => none
    | some l => if l.1 = 5 then (if l.2.1 = 6 then some k else fwR ls r (k + 1)) else fwR ls r (k + 1)
/-- the first line that weighs what it must -/
noncomputable def fwK (ls : List Lnq) : Option Nat := fwR ls ls.length 0
def turN (h w t : Int32) : Prop := ¬ inX h 0 5 ∨ ¬ inX w 1 4 ∨ ¬ inX t 1 100
noncomputable def turA (T : TS) (P : PK) (h w t m : Int32) : Int32 := match fwK (T (h.toInt.toNat + 1)).2 with
  | none => -1
  | some i => turL T (h.toInt.toNat + 1) i t.toInt.toNat w.toInt.toNat m P 10 0
section TURN
variable {e B L i j n tn wn hn : Nat} {T T' : TS} {P P' P0 Q : PK} {PI : Nat → PK} {M M0 M1 M' : Mem} {v : Option Value} {x y k d h w t m : Int32} {q : TQ} {l : Lnq} {ls : List Lnq} {tx : Nat}
theorem fwR_is : ∀ (r k : Nat), fwR ls r k = some j → ∃ l, ls[j]? = some l ∧ l.1 = 5 := by
  intro r
  induction r with
  | zero => intro k h; cases h
  | succ r ih =>
    intro k h
    unfold fwR at h
    cases hk : ls[k]? with
    | none => rw [hk] at h; cases h
    | some l =>
      rw [hk] at h
      dsimp only at h
      by_cases h1 : l.1 = 5
      · rw [if_pos h1] at h
        by_cases h2 : l.2.1 = 6
        · rw [if_pos h2] at h
          cases h
          exact ⟨l, hk, h1⟩
        · rw [if_neg h2] at h
          exact ih (k + 1) h
      · rw [if_neg h1] at h
        exact ih (k + 1) h
theorem lnN_at (hj : q.2[j]? = some l) : (lnN q i x).2[j]? = some (if i = j then (l.1, l.2.1, x, l.2.2.2.1, l.2.2.2.2) else l) := by
  unfold lnN
  dsimp only
  rw [List.getElem?_modify, hj]
  by_cases h : i = j
  · rw [if_pos h]
    simp [h]
  · rw [if_neg h]
    simp [h]
theorem lnN_len : (lnN q i x).2.length = q.2.length := by
  unfold lnN
  exact List.length_modify _ _ _
theorem lnN_of (hj : (lnN q i x).2[j]? = some l) : ∃ l0, q.2[j]? = some l0 ∧ l = if i = j then (l0.1, l0.2.1, x, l0.2.2.2.1, l0.2.2.2.2) else l0 := by
  cases h0 : q.2[j]? with
  | none =>
    have h1 : (lnN q i x).2.length ≤ j := by rw [lnN_len]; exact List.getElem?_eq_none_iff.mp h0
    rw [List.getElem?_eq_none_iff.mpr h1] at hj
    cases hj
  | some l0 =>
    rw [lnN_at h0] at hj
    exact ⟨l0, rfl, (Option.some.inj hj).symm⟩
theorem tv_mod {k d : Int32} : ∀ (ls : List Lnq) (i : Nat), (∀ l, ls[i]? = some l → l.1 ≠ k) → tvS (ls.modify i (fun l => (l.1, l.2.1, x, l.2.2.2.1, l.2.2.2.2))) k d = tvS ls k d := by
  intro ls
  induction ls with
  | nil => intro i _; cases i <;> rfl
  | cons a ls ih =>
    intro i h
    unfold tvS
    cases i with
    | zero =>
      have ha : a.1 ≠ k := h a rfl
      show (match (((a.1, a.2.1, x, a.2.2.2.1, a.2.2.2.2) :: ls) : List Lnq).find? (fun l => decide (l.1 = k)) with
        | some l => l.2.2.1
        | none => d) = _
      rw [List.find?_cons_of_neg (by simpa using ha), List.find?_cons_of_neg (by simpa using ha)]
      rfl
    | succ i =>
      show (match ((a :: ls.modify i (fun l => (l.1, l.2.1, x, l.2.2.2.1, l.2.2.2.2))) : List Lnq).find? (fun l => decide (l.1 = k)) with
        | some l => l.2.2.1
        | none => d) = _
      by_cases ha : a.1 = k
      · rw [List.find?_cons_of_pos (by simpa using ha), List.find?_cons_of_pos (by simpa using ha)]
      · rw [List.find?_cons_of_neg (by simpa using ha), List.find?_cons_of_neg (by simpa using ha)]
        have q := ih i (fun l hl => h l hl)
        unfold tvS at q
        exact q
theorem lnN_tv {k d : Int32} (hi : q.2[i]? = some l) (h5 : l.1 = 5) (hk : k ≠ 5) : tvS (lnN q i x).2 k d = tvS q.2 k d := tv_mod q.2 i (fun l2 h2 => by
  rw [hi] at h2
  cases h2
  exact fun r => hk (r.symm.trans h5))
theorem lnN_lw (h : LW q) (hi : q.2[i]? = some l) (h5 : l.1 = 5) (h0 : 0 ≤ x.toInt) (h9 : x.toInt ≤ 99) : LW (lnN q i x) := by
  intro a ha
  obtain ⟨j, hj⟩ := List.mem_iff_getElem?.mp ha
  obtain ⟨l0, e0, e1⟩ := lnN_of hj
  obtain ⟨b1, b2, b3, b4⟩ := h l0 (List.mem_of_getElem? e0)
  rw [e1]
  by_cases hij : i = j
  · rw [if_pos hij]
    subst hij
    rw [hi] at e0
    cases e0
    obtain ⟨c1, c2, c3, c4, c5⟩ := b1
    refine ⟨⟨h0, by show x.toInt ≤ 999; omega, fun q5 => ⟨h9, (c3 q5).2⟩, fun q2 => ?_, fun q7 => ?_⟩, b2, b3, b4⟩
    · have q2 : l.1 = 2 := q2
      rw [h5] at q2
      cases q2
    · have q7 : l.1 = 7 := q7
      rw [h5] at q7
      cases q7
  · rw [if_neg hij]
    exact ⟨b1, b2, b3, b4⟩
theorem lnN_2 : lnN (lnN q i x) i y = lnN q i y := by
  have e : (lnN (lnN q i x) i y).2 = (lnN q i y).2 := by
    apply List.ext_getElem?
    intro j
    cases h0 : q.2[j]? with
    | none =>
      have h1 := List.getElem?_eq_none_iff.mp h0
      rw [List.getElem?_eq_none_iff.mpr (by rw [lnN_len, lnN_len]; exact h1), List.getElem?_eq_none_iff.mpr (by rw [lnN_len]; exact h1)]
    | some l =>
      rw [lnN_at h0, lnN_at (lnN_at h0)]
      by_cases hij : i = j
      · rw [if_pos hij, if_pos hij, if_pos hij]
      · rw [if_neg hij, if_neg hij, if_neg hij]
  exact Prod.ext rfl e
theorem lnN_self (hi : q.2[i]? = some l) : lnN q i l.2.2.1 = q := by
  have e : (lnN q i l.2.2.1).2 = q.2 := by
    apply List.ext_getElem?
    intro j
    cases h0 : q.2[j]? with
    | none => exact List.getElem?_eq_none_iff.mpr (by rw [lnN_len]; exact List.getElem?_eq_none_iff.mp h0)
    | some l0 =>
      rw [lnN_at h0]
      by_cases hij : i = j
      · rw [if_pos hij]
        subst hij
        rw [hi] at h0
        cases h0
        rfl
      · rw [if_neg hij]
  exact Prod.ext rfl e
theorem setT_h : setT T n i x n = lnN (T n) i x := if_pos rfl
theorem setT_o (h : j ≠ n) : setT T n i x j = T j := if_neg h
theorem setT_2 : setT (setT T n i x) n i y = setT T n i y := by
  funext j
  by_cases h : j = n
  · rw [h, setT_h, setT_h, setT_h, lnN_2]
  · rw [setT_o h, setT_o h, setT_o h]
theorem setT_self (hi : (T n).2[i]? = some l) : setT T n i l.2.2.1 = T := by
  funext j
  by_cases h : j = n
  · rw [h, setT_h, lnN_self hi]
  · rw [setT_o h]
/-! the class's -/
theorem TXT.num (h : TXT M tx q) (hS : SH M) (ht : gNth sT tx = some 28) (hi : q.2[i]? = some l) (h5 : l.1 = 5) : TXT (wI M (tx + 3) i x) tx (lnN q i x) := by
  obtain ⟨⟨a1, a2, a3⟩, a4, a5, a6, a7, a8⟩ := h
  have hF : FZ noF (fun a => a = tx + 3) noO M (wI M (tx + 3) i x) := FZ.wI rfl
  have hi16 : i < 16 := by
    have := (List.getElem?_eq_some_iff.mp hi).1
    omega
  have len : (zrw M (tx + 3)).length = 16 := (hS.row (fx_g2 ht) qw_31).2
  refine ⟨⟨by rw [fI_wI, lnN_len]; exact a1, by rw [lnN_len]; exact a2, fun j b hj => ?_⟩, a4.fz hF (fun q => q) (fun k k1 k2 q => by omega), ?_, ?_, ?_, ?_⟩
  · obtain ⟨l0, e0, e1⟩ := lnN_of hj
    obtain ⟨b1, b2, b3, b4, b5⟩ := a3 j l0 e0
    rw [rN_wI_ne (by omega), rN_wI_ne (by omega), rN_wI_ne (a := tx + 3) (b := tx + 4) (by omega), rN_wI_ne (a := tx + 3) (b := tx + 5) (by omega)]
    rw [e1]
    by_cases hij : i = j
    · rw [if_pos hij, ← hij, rN_wI_eq (by omega)]
      rw [← hij] at b1 b2 b4 b5
      exact ⟨b1, b2, rfl, b4, b5⟩
    · rw [if_neg hij, rN_wI_ne (by omega)]
      exact ⟨b1, b2, b3, b4, b5⟩
  · rw [fI_wI, lnN_tv hi h5 (by decide)]; exact a5
  · rw [fI_wI, lnN_tv hi h5 (by decide)]; exact a6
  · rw [fI_wI, lnN_tv hi h5 (by decide)]; exact a7
  · rw [fI_wI, lnN_tv hi h5 (by decide)]; exact a8
theorem CST.num (h : CST T P PI M) (hd : TXd M) (hh : hn < 6) (ht : oN M 109 hn = tx) (hi : (T (hn + 1)).2[i]? = some l) (h5 : l.1 = 5) (h0 : 0 ≤ x.toInt) (h9 : x.toInt ≤ 99) : CST (setT T (hn + 1) i x) P PI (wI M (tx + 3) i x) ∧ TXd (wI M (tx + 3) i x) := by
  have hg : gNth sT tx = some 28 := ht ▸ hab_t h.1.1 hh
  obtain ⟨⟨c1, c2⟩, c3⟩ := h.2.2.1
  have hF : FZ noF (fun a => a = tx + 3) noO M (wI M (tx + 3) i x) := FZ.wI rfl
  have on : ∀ j, oN (wI M (tx + 3) i x) 109 j = oN M 109 j := fun j => hF.on (fun q => q)
  have e2 : fR (wI M (tx + 3) i x) 104 2 = fR M 104 2 := fR_wI
  have ofar : ∀ t2 q, TXT M t2 q → gNth sT t2 = some 28 → t2 ≠ tx → TXT (wI M (tx + 3) i x) t2 q := fun t2 q hT2 hg2 hne => by
    have hf := tx_far hg2 hg hne
    exact hT2.fz hF (fun _ q => q) (fun k k1 k8 q => by omega)
  refine ⟨h.txt h.1.ki hF hg (fun _ _ q => q.elim) (fun a q => Or.inr (by omega)) (fun _ q => q.elim) ⟨⟨?_, ?_⟩, fun j hj => ?_⟩, hd.same e2 fR_wI on⟩
  · rw [e2, setT_o (by omega)]
    refine ofar _ _ c1 (law_t h.1.1) (fun q => ?_)
    have := hd 0 (hn + 1) (by decide) (by omega) (by
      show fR M 104 2 = txr M (hn + 1)
      unfold txr
      rw [if_neg (by omega), if_neg (by omega), q]
      exact ht.symm)
    omega
  · rw [setT_o (by omega)]; exact c2
  · rw [on]
    by_cases hj2 : j = hn
    · subst hj2
      rw [ht, setT_h]
      obtain ⟨d1, d2⟩ := c3 j hj
      rw [ht] at d1
      exact ⟨d1.num h.1.1 hg hi h5, lnN_lw d2 hi h5 h0 h9⟩
    · rw [setT_o (by omega)]
      refine ⟨ofar _ _ (c3 j hj).1 (hab_t h.1.1 hj) (fun q => ?_), (c3 j hj).2⟩
      have := hd (j + 1) (hn + 1) (by omega) (by omega) (by
        unfold txr
        rw [if_neg (by omega), if_neg (by omega), if_neg (by omega), if_neg (by omega)]
        exact q.trans ht.symm)
      omega
theorem TXd.tri (h : TXd M) (hF : FZ triF triW triO M M') : TXd M' ∧ ∀ j, oN M' 109 j = oN M 109 j := by
  have on : ∀ j, oN M' 109 j = oN M 109 j := fun j => hF.on (by unfold triO; decide)
  exact ⟨h.same (hF.fr (by unfold triF; omega)) (hF.fr (by unfold triF; omega)) on, on⟩
theorem fwl_l (hS : SQ M) (ht : gNth sT tx = some 28) (hT : TXT M tx q) : ∀ (r k : Nat) (z : Int32), z.toInt = (k : Int) → k + r = q.2.length → Ev none e 52 2 [some (.ref tx), some (.int z)] [] M v M' 0 0 → M' = M ∧ ((fwR q.2 r k = none ∧ v = some (.int (-1))) ∨ ∃ i, fwR q.2 r k = some i ∧ ∃ y : Int32, v = some (.int y) ∧ y.toInt = (i : Int)) := by
  obtain ⟨⟨a1, a2, a3⟩, _⟩ := hT
  intro r
  induction r with
  | zero =>
    intro k z hz hk H
    rcases fwl_2 hS ht H with ⟨_, r1, r2⟩ | ⟨b1, _⟩ | ⟨b1, _⟩ | ⟨b1, _⟩
    · exact ⟨r2, Or.inl ⟨rfl, r1⟩⟩
    all_goals exact absurd (Int32.le_iff_toInt_le.mpr (by omega)) b1
  | succ r ih =>
    intro k z hz hk H
    obtain ⟨l, hl⟩ : ∃ l, q.2[k]? = some l := ⟨_, List.getElem?_eq_getElem (by omega)⟩
    obtain ⟨b1, b2, _⟩ := a3 k l hl
    have e1 : rI M (tx + 1) z = l.1 := (rI_n hz).trans b1
    have e2 : rI M (tx + 2) z = l.2.1 := (rI_n hz).trans b2
    have z1 : (z + 1).toInt = ((k + 1 : Nat) : Int) := by rw [i32_p1 (by omega)]; omega
    unfold fwR
    rw [hl]
    dsimp only
    rcases fwl_2 hS ht H with ⟨c, _⟩ | ⟨_, c1, c2, _, _, r1, r2⟩ | ⟨_, c1, c2, _, _, H⟩ | ⟨_, c1, _, H⟩
    · have := Int32.le_iff_toInt_le.mp c
      omega
    · rw [e1] at c1
      rw [e2] at c2
      rw [if_pos c1, if_pos c2]
      exact ⟨r2, Or.inr ⟨k, rfl, z, r1, hz⟩⟩
    · rw [e1] at c1
      rw [e2] at c2
      rw [if_pos c1, if_neg c2]
      exact ih (k + 1) (z + 1) z1 (by omega) H
    · rw [e1] at c1
      rw [if_neg c1]
      exact ih (k + 1) (z + 1) z1 (by omega) H
theorem tuc_w (hw : w.toInt = (wn : Int)) (ht : t.toInt = (tn : Int)) (t100 : tn ≤ 100) {li told an nz : Int32} (hg : gNth sT tx = some 28) : ∀ (s : Nat) (kz : Int32) (B : Nat) (Q : PK) (M : Mem), TRI T' P PI B (-1) [] Q M → TXd M → 0 ≤ kz.toInt → kz.toInt + (s : Int) = (wn : Int) → B + 60 * tn * s ≤ 100000000 → Ev none e 103 103 [some (.ref 0), some (.int h), some (.int w), some (.int t), some (.int m), some (.ref tx), some (.int li), some (.int told), some (.int an), some (.int nz), some (.int kz)] [] M v M' 0 0 → ∃ M2 kz2, CST T' P PI M2 ∧ TXd M2 ∧ (∀ j, oN M2 109 j = oN M 109 j) ∧ Ev none e 103 127 [some (.ref 0), some (.int h), some (.int w), some (.int t), some (.int m), some (.ref tx), some (.int li), some (.int told), some (.int an), some (.int nz), some (.int kz2)] [.int (nwP (T' 0) (wkN T' tn s Q))] M2 v M' 0 0 := by
  intro s
  induction s with
  | zero =>
    intro kz B Q M hR hd h0 hk hB H
    rcases tuc_103 hR.2.1.sq hg H with ⟨_, e1, v1, M1, _, H1, H⟩ | ⟨a1, _⟩
    · obtain ⟨rm, rv⟩ := wcl_ok hR.2.1.1 hR.2.1.2.2.1.1 hR.2.1.2.2.1.2.1 H1
      rw [rm, rv] at H
      exact ⟨M, kz, hR.1, hd, fun _ => rfl, H⟩
    · exact absurd (Int32.le_iff_toInt_le.mpr (by omega)) a1
  | succ s ih =>
    intro kz B Q M hR hd h0 hk hB H
    rcases tuc_103 hR.2.1.sq hg H with ⟨a1, _⟩ | ⟨_, e1, v1, M1, _, H1, H⟩
    · have := Int32.le_iff_toInt_le.mp a1
      omega
    · have hm : 60 * tn * (s + 1) = 60 * tn * s + 60 * tn := by rw [Nat.mul_add, Nat.mul_one]
      have ub := i32_any w
      obtain ⟨rv, q1, F1⟩ := onk_ok hR (n := tn) (by omega) ht H1
      rw [rv] at H
      obtain ⟨d1, o1⟩ := hd.tri F1
      obtain ⟨M2, kz2, s1, s2, s3, s4⟩ := ih (kz + 1) _ _ M1 q1 d1 (by rw [i32_p1 (by omega)]; omega) (by rw [i32_p1 (by omega)]; omega) (by omega) (tuc_114 q1.2.1.sq hg H)
      exact ⟨M2, kz2, s1, s2, fun j => (s3 j).trans (o1 j), s4⟩
theorem tuc_l (hw : w.toInt = (wn : Int)) (ht : t.toInt = (tn : Int)) (w4 : wn ≤ 4) (t100 : tn ≤ 100) (hh : hn < 6) {li : Int32} (hi : (T (hn + 1)).2[i]? = some l) (h5 : l.1 = 5) (hli : li.toInt = (i : Int)) (hLW : LW (T (hn + 1))) (hg : gNth sT tx = some 28) : ∀ (r : Nat) (nz y : Int32) (c10 : Option Value) (M : Mem), CST (setT T (hn + 1) i y) P PI M → TXd M → oN M 109 hn = tx → 0 ≤ nz.toInt → nz.toInt + (r : Int) = 10 → Ev none e 103 73 [some (.ref 0), some (.int h), some (.int w), some (.int t), some (.int m), some (.ref tx), some (.int li), some (.int l.2.2.1), some (.int (-1)), some (.int nz), c10] [] M v M' 0 0 → v = some (.int (turL T (hn + 1) i tn wn m P r nz)) ∧ CST T P PI M' ∧ TXd M' := by
  have z9 : (9 : Int32).toInt = 9 := rfl
  have nl := (hLW l (List.mem_of_getElem? hi)).1
  have fin : ∀ (y : Int32) (M : Mem), CST (setT T (hn + 1) i y) P PI M → TXd M → oN M 109 hn = tx → M' = wI M (tx + 3) li.toNatClampNeg l.2.2.1 → CST T P PI M' ∧ TXd M' := fun y M hC hd ho eM => by
    have q := hC.num (x := l.2.2.1) hd hh ho (by rw [setT_h]; exact lnN_at hi) (by rw [if_pos rfl]; exact h5) nl.1 (nl.2.2.1 h5).1
    rw [setT_2, setT_self hi] at q
    rw [eM, cl_n hli]
    exact q
  intro r
  induction r with
  | zero =>
    intro nz y c10 M hC hd ho h0 hr H
    rcases tuc_73 hC.sq hg H with ⟨_, _, r1, r2⟩ | ⟨a1, _⟩ | ⟨a1, _⟩
    · exact ⟨r1, fin y M hC hd ho r2⟩
    all_goals exact absurd (Int32.lt_iff_toInt_lt.mpr (by omega)) a1
  | succ r ih =>
    intro nz y c10 M hC hd ho h0 hr H
    rcases tuc_73 hC.sq hg H with ⟨a1, _⟩ | ⟨_, _, _, e1, v1, M1, _, H1, H⟩ | ⟨_, a1, _⟩
    · have := Int32.lt_iff_toInt_lt.mp a1
      omega
    · rw [cl_n hli] at H1
      obtain ⟨C1, d1⟩ := hC.num (x := nz) hd hh ho (by rw [setT_h]; exact lnN_at hi) (by rw [if_pos rfl]; exact h5) h0 (by omega)
      rw [setT_2] at C1
      have o1 : oN (wI M (tx + 3) i nz) 109 hn = tx := ((show FZ noF (fun a => a = tx + 3) noO M (wI M (tx + 3) i nz) from FZ.wI rfl).on (fun q => q)).trans ho
      obtain ⟨rv, q1, _, F1⟩ := opcT_ok C1 H1
      rw [rv] at H
      obtain ⟨d2, o2⟩ := d1.tri F1
      have hb := C1.ok.bud
      have hm : 60 * tn * wn ≤ 60 * 100 * 4 := Nat.mul_le_mul (Nat.mul_le_mul_left _ t100) w4
      obtain ⟨M2, kz2, s1, s2, s3, s4⟩ := tuc_w (T' := setT T (hn + 1) i nz) hw ht t100 hg wn 0 _ P M1 q1 d2 (by decide) (by have z0 : (0 : Int32).toInt = 0 := rfl; omega) (by omega) (tuc_100 q1.2.1.sq hg H)
      rw [setT_o (by omega)] at s4
      have o3 : oN M2 109 hn = tx := (s3 hn).trans ((o2 hn).trans o1)
      unfold turL
      rcases tuc_127 s1.sq hg s4 with ⟨b1, H⟩ | ⟨b1, H⟩
      · rw [if_neg (fun q => by
          have := Int32.le_iff_toInt_le.mp q
          have := Int32.lt_iff_toInt_lt.mp b1
          omega)]
        exact ih (nz + 1) nz _ M2 s1 s2 o3 (by rw [i32_p1 (by omega)]; omega) (by rw [i32_p1 (by omega)]; omega) H
      · rw [if_pos (Int32.le_iff_toInt_le.mpr (by
          have : ¬ m.toInt < (nwP (T 0) (wkN (setT T (hn + 1) i nz) tn wn P)).toInt := fun q => b1 (Int32.lt_iff_toInt_lt.mpr q)
          omega))]
        have nm : ¬ nz = -1 := fun q => by
          rw [q] at h0
          exact absurd h0 (by decide)
        rcases tuc_73 s1.sq hg H with ⟨_, _, r1, r2⟩ | ⟨_, a1, _⟩ | ⟨_, _, _, r1, r2⟩
        · exact ⟨r1, fin nz M2 s1 s2 o3 r2⟩
        · exact absurd a1 nm
        · exact ⟨r1, fin nz M2 s1 s2 o3 r2⟩
    · exact absurd rfl a1
theorem turns_ok (h9 : CST T P PI M) (hd : TXd M) (H : Ev none e 103 0 [some (.ref 0), some (.int h), some (.int w), some (.int t), some (.int m), none, none, none, none, none, none] [] M v M' 0 0) : CST T P PI M' ∧ TXd M' ∧ ((turN h w t ∧ v = some (.int (-2))) ∨ (¬ turN h w t ∧ v = some (.int (turA T P h w t m)))) := by
  unfold turN
  rcases tuc_0 h9.sq H with ⟨a1, r1, r2⟩ | ⟨_, a1, r1, r2⟩ | ⟨_, _, a1, r1, r2⟩ | ⟨a1, a2, a3, h6, e1, v1, M1, _, H1, H⟩
  · rw [g126_R] at a1
    rw [r2]
    exact ⟨h9, hd, Or.inl ⟨Or.inl a1, r1⟩⟩
  · rw [g126_R] at a1
    rw [r2]
    exact ⟨h9, hd, Or.inl ⟨Or.inr (Or.inl a1), r1⟩⟩
  · rw [g126_R] at a1
    rw [r2]
    exact ⟨h9, hd, Or.inl ⟨Or.inr (Or.inr a1), r1⟩⟩
  · rw [g126_R, Classical.not_not] at a1 a2 a3
    obtain ⟨hn, eh⟩ : ∃ hn : Nat, h.toInt = (hn : Int) := ⟨h.toInt.toNat, by omega⟩
    have hn6 : hn < 6 := by omega
    have eo : oI M 109 h = oN M 109 hn := by
      unfold oI
      rw [cl_n eh]
    have hg : gNth sT (oN M 109 hn) = some 28 := hab_t h9.1.1 hn6
    rw [eo] at H1 H
    obtain ⟨hT, hLW⟩ := h9.2.2.1.2 hn hn6
    obtain ⟨rm, rv⟩ := fwl_l h9.sq hg hT (T (hn + 1)).2.length 0 0 rfl (by omega) (fwl_0 h9.sq hg H1)
    rw [rm] at H
    have w1 : 1 ≤ w.toInt := a2.1
    have w4 : w.toInt ≤ 4 := a2.2
    have t1 : 1 ≤ t.toInt := a3.1
    have t100 : t.toInt ≤ 100 := a3.2
    have ng : ¬ (¬ inX h 0 5 ∨ ¬ inX w 1 4 ∨ ¬ inX t 1 100) := fun q => by
      rcases q with q | q | q
      · exact q a1
      · exact q a2
      · exact q a3
    have eA : turA T P h w t m = match fwR (T (hn + 1)).2 (T (hn + 1)).2.length 0 with
        | none => -1
        | some i => turL T (hn + 1) i t.toInt.toNat w.toInt.toNat m P 10 0 := by
      unfold turA fwK
      rw [show h.toInt.toNat = hn by omega]
    rw [eA]
    rcases rv with ⟨b1, rv⟩ | ⟨i, b1, y, rv, hy⟩
    · rw [rv] at H
      rw [b1]
      rcases tuc_47 h9.sq hg H with ⟨_, r1, r2⟩ | ⟨q, _⟩
      · rw [r2]
        exact ⟨h9, hd, Or.inr ⟨ng, r1⟩⟩
      · exact absurd rfl q
    · rw [rv] at H
      rw [b1]
      obtain ⟨l, hl, h5⟩ := fwR_is _ 0 b1
      rcases tuc_47 h9.sq hg H with ⟨q, _⟩ | ⟨_, _, H⟩
      · rw [q] at hy
        have : (-1 : Int32).toInt = -1 := rfl
        omega
      · have et : rI M (oN M 109 hn + 3) y = l.2.2.1 := (rI_n hy).trans (hT.1.2.2 i l hl).2.2.1
        rw [et] at H
        obtain ⟨r1, r2, r3⟩ := tuc_l (T := T) (tn := t.toInt.toNat) (wn := w.toInt.toNat) (by omega) (by omega) (by omega) (by omega) hn6 hl h5 hy hLW hg 10 0 l.2.2.1 none M (by rw [setT_self hl]; exact h9) hd rfl (by decide) rfl H
        exact ⟨r2, r3, Or.inr ⟨ng, r1⟩⟩
end TURN
/-! THE REFERENCE'S turns, paved, wait -/
def pavN (w ws t wh : Int32) : Prop := ¬ inX ws 1 20 ∨ ¬ inX w 1 ws ∨ ¬ inX t 1 200 ∨ ¬ inX wh 0 2
noncomputable def pavA (T : TS) (P : PK) (w ws t wh : Int32) : Int32 := if wh = 0 then nwP (T 0) (wkN T t.toInt.toNat w.toInt.toNat P) else if wh = 1 then aloP2 (T 0) (wkN T t.toInt.toNat w.toInt.toNat P) (wkN T t.toInt.toNat ws.toInt.toNat P) (clsP P) 0 0 else aloP2 (T 0) (wkN T t.toInt.toNat ws.toInt.toNat P) (wkN T t.toInt.toNat w.toInt.toNat P) (clsP P) 0 0
def waiN (ws t : Int32) : Prop := ¬ inX ws 1 20 ∨ ¬ inX t 1 200
noncomputable def waiS (T : TS) (P : PK) (ws t w : Int32) : Int32 := pavA T P w ws t 1 + pavA T P w ws t 2 + w
noncomputable def waiL (T : TS) (P : PK) (ws t : Int32) : Nat → Int32 → Int32 → Int32 → Int32
  | 0, _, be, _ => be
  | r + 1, w, be, le => if be < 0 ∨ waiS T P ws t w < le then waiL T P ws t r (w + 1) w (waiS T P ws t w) else waiL T P ws t r (w + 1) be le
section RTUR
variable {e B L i j n tn wn hn : Nat} {T T' : TS} {P P' P0 Q A Z : PK} {PI : Nat → PK} {M M0 M1 M' : Mem} {v : Option Value} {x y k d h w ws t m wh : Int32} {q : TQ} {l : Lnq} {ls : List Lnq}
theorem RST.num (h : RST T P M) (n1 : 1 ≤ n) (n7 : n < 7) (hi : (T n).2[i]? = some l) (h5 : l.1 = 5) (h0 : 0 ≤ x.toInt) (h9 : x.toInt ≤ 99) : RST (setT T n i x) P (wI M 642 (16 * n + i) x) := by
  obtain ⟨a1, a2, a3, a4⟩ := h
  have len : (zrw M 642).length = 128 := (a1.1.row qa_642 qw_70).2
  refine ⟨a1.ki, fun j hj => (rN_wI_ne (by omega)).trans (a2 j hj), ?_, fun s hs => ?_⟩
  · rw [fI_wI, fI_wI, fI_wI, setT_o (by omega)]
    exact a3
  · obtain ⟨⟨⟨⟨b1, b2, b3⟩, b4⟩, b5⟩, b6⟩ := a4 s hs
    by_cases hsn : s = n
    · subst hsn
      rw [setT_h]
      have hi16 : i < 16 := by
        have := (List.getElem?_eq_some_iff.mp hi).1
        omega
      refine ⟨⟨⟨⟨by rw [rN_wI_ne (by omega), lnN_len]; exact b1, by rw [lnN_len]; exact b2, fun j b hj => ?_⟩, fun j c hj hc => ?_⟩, lnN_lw b5 hi h5 h0 h9⟩, b6⟩
      · obtain ⟨l0, e0, e1⟩ := lnN_of hj
        obtain ⟨d1, d2, d3, d4, d5⟩ := b3 j l0 e0
        rw [rN_wI_ne (by omega), rN_wI_ne (by omega), rN_wI_ne (a := 642) (b := 643) (by omega), rN_wI_ne (a := 642) (b := 644) (by omega)]
        rw [e1]
        by_cases hij : i = j
        · rw [if_pos hij, ← hij, rN_wI_eq (by omega)]
          rw [← hij] at d1 d2 d4 d5
          exact ⟨d1, d2, rfl, d4, d5⟩
        · rw [if_neg hij, rN_wI_ne (by omega)]
          exact ⟨d1, d2, d3, d4, d5⟩
      · rw [rN_wI_ne (by omega), rN_wI_ne (by omega), rN_wI_ne (by omega)]
        exact b4 j c hj hc
    · rw [setT_o hsn]
      have hi16 : i < 16 := by
        have h1 := (List.getElem?_eq_some_iff.mp hi).1
        have h2 := (a4 n n7).1.1.1.2.1
        omega
      refine ⟨⟨⟨⟨by rw [rN_wI_ne (by omega)]; exact b1, b2, fun j b hj => ?_⟩, fun j c hj hc => ?_⟩, b5⟩, b6⟩
      · have hj16 : j < 16 := by
          have := (List.getElem?_eq_some_iff.mp hj).1
          omega
        rw [rN_wI_ne (by omega), rN_wI_ne (by omega), rN_wI_ne (by omega), rN_wI_ne (by omega), rN_wI_ne (by omega)]
        exact b3 j b hj
      · rw [rN_wI_ne (by omega), rN_wI_ne (by omega), rN_wI_ne (by omega)]
        exact b4 j c hj hc
theorem trq_f (hR : RST T P M) (hh : h.toInt = (hn : Int)) (hn6 : hn < 6) : ∀ (r k : Nat) (kz : Int32), kz.toInt = ((16 * (hn + 1) + k : Nat) : Int) → k + r = (T (hn + 1)).2.length → Ev none e 229 47 [some (.ref 633), some (.int h), some (.int w), some (.int t), some (.int m), some (.int (-1)), some (.int kz), none, none, none] [] M v M' 0 0 → (fwR (T (hn + 1)).2 r k = none ∧ v = some (.int (-1)) ∧ M' = M) ∨ ∃ i, fwR (T (hn + 1)).2 r k = some i ∧ ∃ y : Int32, y.toInt = ((16 * (hn + 1) + i : Nat) : Int) ∧ Ev none e 229 127 [some (.ref 633), some (.int h), some (.int w), some (.int t), some (.int m), some (.int y), some (.int (rI M 642 y)), some (.int (-1)), some (.int 0), none] [] M v M' 0 0 := by
  obtain ⟨⟨⟨⟨b1, b2, b3⟩, b4⟩, b5⟩, b6⟩ := hR.2.2.2 (hn + 1) (by omega)
  have z1 : (1 : Int32).toInt = 1 := rfl
  have z16 : (16 : Int32).toInt = 16 := rfl
  have h1 : (1 + h).toInt = ((hn + 1 : Nat) : Int) := by rw [i32_add (by omega) (by omega)]; omega
  have m16 : (16 * (1 + h)).toInt = 16 * (1 + h).toInt := i32_mul (by rw [z16]; omega) (by rw [z16]; omega)
  have er : (rI M 639 (1 + h)).toInt = ((T (hn + 1)).2.length : Int) := by rw [rI_n h1]; exact b1
  have eb : (16 * (1 + h) + rI M 639 (1 + h)).toInt = 16 * (hn + 1 : Nat) + ((T (hn + 1)).2.length : Int) := by rw [i32_add (by omega) (by omega)]; omega
  have t1 : (-1 : Int32).toInt = -1 := rfl
  have no : ¬ (0 : Int32) ≤ -1 := by decide
  intro r
  induction r with
  | zero =>
    intro k kz hz hk H
    have nb : (16 * (1 + h) + rI M 639 (1 + h)) ≤ kz := Int32.le_iff_toInt_le.mpr (by omega)
    rcases trq_47 hR.1 H with ⟨_, _, H⟩ | ⟨a1, _⟩ | ⟨a1, _⟩ | ⟨a1, _⟩ | ⟨a1, _⟩
    · rcases trq_105 hR.1 H with ⟨q, _⟩ | ⟨_, r1, r2⟩
      · exact absurd q no
      · exact Or.inl ⟨rfl, r1, r2⟩
    all_goals exact absurd nb a1
  | succ r ih =>
    intro k kz hz hk H
    obtain ⟨l, hl⟩ : ∃ l, (T (hn + 1)).2[k]? = some l := ⟨_, List.getElem?_eq_getElem (by omega)⟩
    obtain ⟨d1, d2, _⟩ := b3 k l hl
    have e1 : rI M 640 kz = l.1 := (rI_n hz).trans d1
    have e2 : rI M 641 kz = l.2.1 := (rI_n hz).trans d2
    have zk : (kz + 1).toInt = ((16 * (hn + 1) + (k + 1) : Nat) : Int) := by rw [i32_p1 (by omega)]; omega
    unfold fwR
    rw [hl]
    dsimp only
    rcases trq_47 hR.1 H with ⟨c, _⟩ | ⟨_, c, _⟩ | ⟨_, _, c1, c2, _, _, _, H⟩ | ⟨_, _, c1, c2, _, _, _, H⟩ | ⟨_, _, c1, _, _, H⟩
    · have := Int32.le_iff_toInt_le.mp c
      omega
    · exact absurd c no
    · rw [e1] at c1
      rw [e2] at c2
      rw [if_pos c1, if_pos c2]
      have pos : (0 : Int32) ≤ kz := Int32.le_iff_toInt_le.mpr (by have z0 : (0 : Int32).toInt = 0 := rfl; omega)
      have fi : Ev none e 229 105 [some (.ref 633), some (.int h), some (.int w), some (.int t), some (.int m), some (.int kz), some (.int (kz + 1)), none, none, none] [] M v M' 0 0 → Ev none e 229 127 [some (.ref 633), some (.int h), some (.int w), some (.int t), some (.int m), some (.int kz), some (.int (rI M 642 kz)), some (.int (-1)), some (.int 0), none] [] M v M' 0 0 := fun H => by
        rcases trq_105 hR.1 H with ⟨_, _, H⟩ | ⟨q, _⟩
        · exact H
        · exact absurd pos q
      refine Or.inr ⟨k, rfl, kz, hz, ?_⟩
      rcases trq_47 hR.1 H with ⟨_, _, H⟩ | ⟨_, _, _, H⟩ | ⟨_, q, _⟩ | ⟨_, q, _⟩ | ⟨_, q, _⟩
      · exact fi H
      · exact fi H
      all_goals exact absurd pos q
    · rw [e1] at c1
      rw [e2] at c2
      rw [if_pos c1, if_neg c2]
      exact ih (k + 1) (kz + 1) zk (by omega) H
    · rw [e1] at c1
      rw [if_neg c1]
      exact ih (k + 1) (kz + 1) zk (by omega) H
theorem trq_w (hw : w.toInt = (wn : Int)) (ht : t.toInt = (tn : Int)) {xx was f nz : Int32} : ∀ (s : Nat) (jz : Int32) (Q : PK) (M : Mem), RTR T' Q P0 M → 0 ≤ jz.toInt → jz.toInt + (s : Int) = (wn : Int) → Ev none e 229 155 [some (.ref 633), some (.int h), some (.int w), some (.int t), some (.int m), some (.int xx), some (.int was), some (.int f), some (.int nz), some (.int jz)] [] M v M' 0 0 → ∃ M2 jz2, RTR T' (wkN T' tn s Q) P0 M2 ∧ Ev none e 229 176 [some (.ref 633), some (.int h), some (.int w), some (.int t), some (.int m), some (.int xx), some (.int was), some (.int f), some (.int nz), some (.int jz2)] [.int (nwP (T' 0) (wkN T' tn s Q))] M2 v M' 0 0 := by
  intro s
  induction s with
  | zero =>
    intro jz Q M hR h0 hk H
    rcases trq_155 hR.1.1 H with ⟨_, e1, v1, M1, _, H1, H⟩ | ⟨a1, _⟩
    · obtain ⟨rm, rv⟩ := rwmn_ok hR.1 hR.2.1.1 H1
      rw [rm, rv] at H
      exact ⟨M, jz, hR, H⟩
    · exact absurd (Int32.le_iff_toInt_le.mpr (by omega)) a1
  | succ s ih =>
    intro jz Q M hR h0 hk H
    have ub := i32_any w
    rcases trq_155 hR.1.1 H with ⟨a1, _⟩ | ⟨_, e1, v1, M1, _, H1, H⟩
    · have := Int32.le_iff_toInt_le.mp a1
      omega
    · obtain ⟨rv, q1, _⟩ := rgo_ok hR ht H1
      rw [rv] at H
      exact ih (jz + 1) _ M1 q1 (by rw [i32_p1 (by omega)]; omega) (by rw [i32_p1 (by omega)]; omega) (trq_166 q1.1.1 H)
theorem trq_l (hw : w.toInt = (wn : Int)) (ht : t.toInt = (tn : Int)) (hn6 : hn < 6) (hD : okD P) (hK : okK P) {xx : Int32} (hi : (T (hn + 1)).2[i]? = some l) (h5 : l.1 = 5) (hx : xx.toInt = ((16 * (hn + 1) + i : Nat) : Int)) (hLW : LW (T (hn + 1))) : ∀ (r : Nat) (nz y : Int32) (c9 : Option Value) (M : Mem), RST (setT T (hn + 1) i y) P M → (∃ b, zI M 633 42 = bI b) → 0 ≤ nz.toInt → nz.toInt + (r : Int) = 10 → Ev none e 229 127 [some (.ref 633), some (.int h), some (.int w), some (.int t), some (.int m), some (.int xx), some (.int l.2.2.1), some (.int (-1)), some (.int nz), c9] [] M v M' 0 0 → v = some (.int (turL T (hn + 1) i tn wn m P r nz)) ∧ RST T P M' := by
  have z10 : (10 : Int32).toInt = 10 := rfl
  have nl := (hLW l (List.mem_of_getElem? hi)).1
  have fin : ∀ (y : Int32) (M : Mem), RST (setT T (hn + 1) i y) P M → M' = wI M 642 xx.toNatClampNeg l.2.2.1 → RST T P M' := fun y M hC eM => by
    have q := hC.num (n := hn + 1) (x := l.2.2.1) (by omega) (by omega) (by rw [setT_h]; exact lnN_at hi) (by rw [if_pos rfl]; exact h5) nl.1 (nl.2.2.1 h5).1
    rw [setT_2, setT_self hi] at q
    rw [eM, cl_n hx]
    exact q
  intro r
  induction r with
  | zero =>
    intro nz y c9 M hC hb h0 hr H
    rcases trq_127 hC.1 H with ⟨_, _, r1, r2⟩ | ⟨a1, _⟩ | ⟨a1, _⟩
    · exact ⟨r1, fin y M hC r2⟩
    all_goals exact absurd (Int32.le_iff_toInt_le.mpr (by omega)) a1
  | succ r ih =>
    intro nz y c9 M hC hb h0 hr H
    rcases trq_127 hC.1 H with ⟨a1, _⟩ | ⟨_, a1, _⟩ | ⟨_, _, _, e1, v1, M1, _, H1, H⟩
    · have := Int32.le_iff_toInt_le.mp a1
      omega
    · exact absurd a1 (by decide)
    · rw [cl_n hx] at H1
      have C1 := hC.num (n := hn + 1) (x := nz) (by omega) (by omega) (by rw [setT_h]; exact lnN_at hi) (by rw [if_pos rfl]; exact h5) h0 (by omega)
      rw [setT_2] at C1
      obtain ⟨rv, q1, _⟩ := RTR.mk0 C1 hD hK (by obtain ⟨b, hb⟩ := hb; exact ⟨b, by rw [fI_wI]; exact hb⟩) H1
      rw [rv] at H
      obtain ⟨M2, jz2, q2, H⟩ := trq_w hw ht wn 0 P M1 q1 (by decide) (by have z0 : (0 : Int32).toInt = 0 := rfl; omega) (trq_152 q1.1.1 H)
      rw [setT_o (by omega)] at H
      obtain ⟨b2, hb2⟩ := q2.2.2.2.1
      unfold turL
      rcases trq_176 q2.1.1 H with ⟨b1, e3, v3, M3, _, H3, H⟩ | ⟨b1, e3, v3, M3, _, H3, H⟩
      · rw [if_neg (fun q => by
          have := Int32.le_iff_toInt_le.mp q
          have := Int32.lt_iff_toInt_lt.mp b1
          omega)]
        obtain ⟨rv3, q3, F3⟩ := q2.bk H3
        rw [rv3] at H
        exact ih (nz + 1) nz _ M3 q3 ⟨b2, (F3.fi (fun q => q)).trans hb2⟩ (by rw [i32_p1 (by omega)]; omega) (by rw [i32_p1 (by omega)]; omega) (trq_189 q3.1 H)
      · rw [if_pos (Int32.le_iff_toInt_le.mpr (by
          have : ¬ m.toInt < (nwP (T 0) (wkN (setT T (hn + 1) i nz) tn wn P)).toInt := fun q => b1 (Int32.lt_iff_toInt_lt.mpr q)
          omega))]
        obtain ⟨rv3, q3, F3⟩ := q2.bk H3
        rw [rv3] at H
        have pos : (0 : Int32) ≤ nz := Int32.le_iff_toInt_le.mpr (by have z0 : (0 : Int32).toInt = 0 := rfl; omega)
        rcases trq_127 q3.1 (trq_189 q3.1 H) with ⟨_, _, r1, r2⟩ | ⟨_, _, _, r1, r2⟩ | ⟨_, q, _⟩
        · exact ⟨r1, fin nz M3 q3 r2⟩
        · exact ⟨r1, fin nz M3 q3 r2⟩
        · exact absurd pos q
theorem rturns_ok (hR : RST T P M) (hD : okD P) (hK : okK P) (hb : ∃ b, zI M 633 42 = bI b) (H : Ev none e 229 0 [some (.ref 633), some (.int h), some (.int w), some (.int t), some (.int m), none, none, none, none, none] [] M v M' 0 0) : RST T P M' ∧ ((turN h w t ∧ v = some (.int (-2))) ∨ (¬ turN h w t ∧ v = some (.int (turA T P h w t m)))) := by
  have h0 := hR.w0 0 (by decide) 0
  have hb0 : ∃ b, zI (wF M 633 0 0) 633 42 = bI b := by
    obtain ⟨b, hb⟩ := hb
    exact ⟨b, by rw [fI_wF_ne (by decide)]; exact hb⟩
  unfold turN
  rcases trq_0 hR.1 H with ⟨a1, r1, r2⟩ | ⟨_, a1, r1, r2⟩ | ⟨_, _, a1, r1, r2⟩ | ⟨a1, a2, a3, H⟩
  · rw [g140_R] at a1
    exact ⟨r2 ▸ h0, Or.inl ⟨Or.inl a1, r1⟩⟩
  · rw [g140_R] at a1
    exact ⟨r2 ▸ h0, Or.inl ⟨Or.inr (Or.inl a1), r1⟩⟩
  · rw [g140_R] at a1
    exact ⟨r2 ▸ h0, Or.inl ⟨Or.inr (Or.inr a1), r1⟩⟩
  · rw [g140_R, Classical.not_not] at a1 a2 a3
    have g0 : 0 ≤ h.toInt := a1.1
    have g5 : h.toInt ≤ 5 := a1.2
    have w1 : 1 ≤ w.toInt := a2.1
    have t1 : 1 ≤ t.toInt := a3.1
    have ng : ¬ (¬ inX h 0 5 ∨ ¬ inX w 1 4 ∨ ¬ inX t 1 100) := fun q => by
      rcases q with q | q | q
      · exact q a1
      · exact q a2
      · exact q a3
    have z1 : (1 : Int32).toInt = 1 := rfl
    have z16 : (16 : Int32).toInt = 16 := rfl
    have h1 : (1 + h).toInt = 1 + h.toInt := i32_add (by omega) (by omega)
    have m16 : (16 * (1 + h)).toInt = 16 * (1 + h).toInt := i32_mul (by rw [z16]; omega) (by rw [z16]; omega)
    have hT := (h0.2.2.2 (h.toInt.toNat + 1) (by omega)).1
    unfold turA fwK
    rcases trq_f h0 (hn := h.toInt.toNat) (by omega) (by omega) (T (h.toInt.toNat + 1)).2.length 0 (16 * (1 + h)) (by omega) (by omega) H with ⟨b1, r1, r2⟩ | ⟨i, b1, y, hy, H⟩
    · rw [b1]
      exact ⟨r2 ▸ h0, Or.inr ⟨ng, r1⟩⟩
    · rw [b1]
      obtain ⟨l, hl, h5⟩ := fwR_is _ 0 b1
      have et : rI (wF M 633 0 0) 642 y = l.2.2.1 := (rI_n hy).trans (hT.1.1.2.2 i l hl).2.2.1
      rw [et] at H
      obtain ⟨r1, r2⟩ := trq_l (T := T) (tn := t.toInt.toNat) (wn := w.toInt.toNat) (by omega) (by omega) (by omega) hD hK hl h5 hy hT.2 10 0 l.2.2.1 none _ (by rw [setT_self hl]; exact h0) hb0 (by decide) rfl H
      exact ⟨r2, Or.inr ⟨ng, r1⟩⟩
/-! paved -/
theorem wkN_s : ∀ (r : Nat) (P : PK), wkN T n (r + 1) P = wksP T n (wkN T n r P) := by
  intro r
  induction r with
  | zero => intro P; rfl
  | succ r ih => intro P; exact ih (wksP T n P)
theorem RTR.w0 (h : RTR T Q P M) (j : Nat) (hj : 43 ≤ j) : RTR T Q P (wF M 633 j y) := ⟨h.1.w0 j (by omega) y, h.2.1, h.2.2.1, by obtain ⟨b, hb⟩ := h.2.2.2.1; exact ⟨b, by rw [fI_wF_ne (by omega)]; exact hb⟩, fun j hj => by rw [rN_wF]; exact h.2.2.2.2 j hj⟩
theorem wkN_0 : ∀ (r : Nat) (P : PK), okD P → okK P → (okD (wkN T n r P) ∧ okK (wkN T n r P)) ∧ ∀ j, j < 157 → wkN T n r P j = P j := by
  intro r
  induction r with
  | zero => intro P h1 h2; exact ⟨⟨h1, h2⟩, fun _ _ => rfl⟩
  | succ r ih =>
    intro P h1 h2
    obtain ⟨d1, k1⟩ := wks_K (T := T) (t := n) h1 h2
    obtain ⟨q1, q2⟩ := ih (wksP T n P) d1 k1
    exact ⟨q1, fun j hj => (q2 j hj).trans (wks_0 h1 h2 j hj)⟩
theorem rpv_c (hw : wh4 P) (hc : clsP Z = clsP P) (hi : ∀ x, inC P x → inC Z x) : ∀ (r : Nat) (c a b d : Int32) (M : Mem), RTR T Z P M → (∀ x, inC P x → rI M 653 x = bI (wrnB (T 0) A x)) → (∀ x, inC P x → rI M 652 x = bI (wrnB (T 0) Z x)) → zI M 633 49 = a → zI M 633 50 = b → zI M 633 51 = d → 0 ≤ c.toInt → c.toInt + (r : Int) = (clsP P : Int) → Ev none e 230 64 [some (.ref 633), some (.int w), some (.int ws), some (.int t), some (.int c)] [] M v M' 0 0 → v = none ∧ RST T P M' ∧ (∃ b, zI M' 633 42 = bI b) ∧ zI M' 633 49 = netP (T 0) A r c a ∧ zI M' 633 50 = aloP2 (T 0) A Z r c b ∧ zI M' 633 51 = aloP2 (T 0) Z A r c d := by
  obtain ⟨_, c256, _⟩ := cls_int hw
  intro r
  induction r with
  | zero =>
    intro c a b d M hR h3 h2 ea eb ed h0 hk H
    have hg := g144_ok hR.1 hR.2.1.1
    rw [hc] at hg
    rcases rpv_64 hR.1.1 H with ⟨_, e1, v1, M1, _, H1, H⟩ | ⟨a1, _⟩ | ⟨a1, _⟩ | ⟨a1, _⟩ | ⟨a1, _⟩
    · obtain ⟨rv, q1, F1⟩ := hR.bk H1
      rw [rv] at H
      obtain ⟨r1, r2⟩ := rpv_175 q1.1 H
      rw [r2]
      have zz : ∀ k, zI M1 633 k = zI M 633 k := fun k => F1.fi (fun q => q)
      obtain ⟨b4, hb4⟩ := hR.2.2.2.1
      exact ⟨r1, q1, ⟨b4, (zz 42).trans hb4⟩, (zz 49).trans ea, (zz 50).trans eb, (zz 51).trans ed⟩
    all_goals exact absurd (Int32.le_iff_toInt_le.mpr (by omega)) a1
  | succ r ih =>
    intro c a b d M hR h3 h2 ea eb ed h0 hk H
    have hg := g144_ok hR.1 hR.2.1.1
    rw [hc] at hg
    have ic : inC P c := ⟨h0, by omega⟩
    have e3 := h3 c ic
    have e2 := h2 c ic
    have z1 : (c + 1).toInt = c.toInt + 1 := i32_p1 (by omega)
    have q633 := qa_633
    have nx : ∀ a2 b2 d2, Ev none e 230 64 [some (.ref 633), some (.int w), some (.int ws), some (.int t), some (.int (c + 1))] [] (wF (wF (wF M 633 49 a2) 633 50 b2) 633 51 d2) v M' 0 0 → v = none ∧ RST T P M' ∧ (∃ b, zI M' 633 42 = bI b) ∧ zI M' 633 49 = netP (T 0) A r (c + 1) a2 ∧ zI M' 633 50 = aloP2 (T 0) A Z r (c + 1) b2 ∧ zI M' 633 51 = aloP2 (T 0) Z A r (c + 1) d2 := fun a2 b2 d2 H => by
      have S := hR.1.1
      refine ih (c + 1) a2 b2 d2 _ (((hR.w0 49 (by decide)).w0 50 (by decide)).w0 51 (by decide)) (fun x hx => ?_) (fun x hx => ?_) ?_ ?_ ?_ (by omega) (by omega) H
      · show rN _ 653 _ = _
        rw [rN_wF, rN_wF, rN_wF]
        exact h3 x hx
      · show rN _ 652 _ = _
        rw [rN_wF, rN_wF, rN_wF]
        exact h2 x hx
      · rw [fI_wF_ne (by decide), fI_wF_ne (by decide)]
        exact fI_wF_eq S.1 qa_633 qi_61_49
      · rw [fI_wF_ne (by decide)]
        exact fI_wF_eq S.kf.1 qa_633 qi_61_50
      · exact fI_wF_eq S.kf.kf.1 qa_633 qi_61_51
    unfold netP aloP2
    rcases rpv_64 hR.1.1 H with ⟨a1, _⟩ | ⟨_, b1, b2, _, _, _, H⟩ | ⟨_, b1, b2, _, _, _, _, H⟩ | ⟨_, b1, b2, _, _, _, _, H⟩ | ⟨_, b1, b2, _, _, _, _, _, H⟩
    · have := Int32.le_iff_toInt_le.mp a1
      omega
    all_goals
      rw [e3] at b1
      rw [e2] at b2
      rw [ea, eb, ed] at H
      have H := nx _ _ _ H
      cases hA : wrnB (T 0) A c <;> cases hZ : wrnB (T 0) Z c <;> rw [hA] at b1 <;> rw [hZ] at b2
    all_goals first
      | exact absurd b1 (by decide)
      | exact absurd b2 (by decide)
      | exact absurd rfl b1
      | exact absurd rfl b2
      | (simpa using H)
theorem rpv_l (hw : w.toInt = (wn : Int)) (ht : t.toInt = (tn : Int)) (w1 : 1 ≤ wn) (hws : ws.toInt = (n : Int)) (n20 : n ≤ 20) (wle : wn ≤ n) (hD : okD P) (hK : okK P) : ∀ (r k : Nat) (kz : Int32) (M : Mem), RTR T (wkN T tn k P) P M → (wn ≤ k → ∀ x, inC P x → rI M 653 x = bI (wrnB (T 0) (wkN T tn wn P) x)) → kz.toInt = ((k + 1 : Nat) : Int) → k + r = n → Ev none e 230 7 [some (.ref 633), some (.int w), some (.int ws), some (.int t), some (.int kz)] [] M v M' 0 0 → v = none ∧ RST T P M' ∧ (∃ b, zI M' 633 42 = bI b) ∧ zI M' 633 49 = netP (T 0) (wkN T tn wn P) (clsP P) 0 0 ∧ zI M' 633 50 = aloP2 (T 0) (wkN T tn wn P) (wkN T tn n P) (clsP P) 0 0 ∧ zI M' 633 51 = aloP2 (T 0) (wkN T tn n P) (wkN T tn wn P) (clsP P) 0 0 := by
  have iC : ∀ k x, inC P x ↔ inC (wkN T tn k P) x := fun k x => by
    have q := (wkN_0 (T := T) (n := tn) k P hD hK).2
    rw [inC.eq (q 0 (by decide)) (q 1 (by decide))]
  have cC : ∀ k, clsP (wkN T tn k P) = clsP P := fun k => by
    have q := (wkN_0 (T := T) (n := tn) k P hD hK).2
    exact cls_eq (q 0 (by decide)) (q 1 (by decide))
  intro r
  induction r with
  | zero =>
    intro k kz M hR h3 hz hk H
    rcases rpv_7 hR.1.1 H with ⟨_, e1, v1, M1, _, H1, H⟩ | ⟨a1, _⟩
    · obtain ⟨rv, q1, F1, h2⟩ := ntd_ok hR H1
      rw [rv] at H
      have ek : k = n := by omega
      subst ek
      have H := rpv_46 q1.1.1 H
      have S := q1.1.1
      refine rpv_c hD.1 (cC k) (fun x hx => (iC k x).mp hx) (clsP P) 0 0 0 0 _ (((q1.w0 49 (by decide)).w0 50 (by decide)).w0 51 (by decide)) (fun x hx => ?_) (fun x hx => ?_) ?_ ?_ ?_ (by decide) (by have z0 : (0 : Int32).toInt = 0 := rfl; omega) H
      · show rN _ 653 _ = _
        rw [rN_wF, rN_wF, rN_wF]
        exact (F1.rn (by decide)).trans (h3 wle x hx)
      · show rN _ 652 _ = _
        rw [rN_wF, rN_wF, rN_wF]
        exact h2 x ((iC k x).mp hx)
      · rw [fI_wF_ne (by decide), fI_wF_ne (by decide)]
        exact fI_wF_eq S.1 qa_633 qi_61_49
      · rw [fI_wF_ne (by decide)]
        exact fI_wF_eq S.kf.1 qa_633 qi_61_50
      · exact fI_wF_eq S.kf.kf.1 qa_633 qi_61_51
    · exact absurd (Int32.lt_iff_toInt_lt.mpr (by omega)) a1
  | succ r ih =>
    intro k kz M hR h3 hz hk H
    rcases rpv_7 hR.1.1 H with ⟨a1, _⟩ | ⟨_, e1, v1, M1, _, H1, H⟩
    · have := Int32.lt_iff_toInt_lt.mp a1
      omega
    · obtain ⟨rv, q1, F1⟩ := rgo_ok hR ht H1
      rw [rv] at H
      rw [← wkN_s] at q1
      have z1 : (kz + 1).toInt = ((k + 1 + 1 : Nat) : Int) := by rw [i32_p1 (by omega)]; omega
      rcases rpv_18 q1.1.1 H with ⟨b1, e2, v2, M2, _, H2, H⟩ | ⟨b1, H⟩
      · obtain ⟨rv2, q2, F2, h2⟩ := nte_ok q1 H2
        rw [rv2] at H
        have ek : k + 1 = wn := by rw [b1] at hz; omega
        refine ih (k + 1) (kz + 1) M2 q2 (fun _ x hx => ?_) z1 (by omega) (rpv_32 q2.1.1 H)
        rw [← ek]
        exact h2 x ((iC _ x).mp hx)
      · refine ih (k + 1) (kz + 1) M1 q1 (fun hle x hx => ?_) z1 (by omega) H
        have hne : k + 1 ≠ wn := fun q => b1 (Int32.toInt_inj.mp (by omega))
        exact (F1.rn (by unfold rkW; decide)).trans (h3 (by omega) x hx)
theorem rpv_ok (hR : RST T P M) (hD : okD P) (hK : okK P) (hb : ∃ b, zI M 633 42 = bI b) (iw : inX w 1 ws) (i20 : ws.toInt ≤ 20) (t1 : 1 ≤ t.toInt) (H : Ev none e 230 0 [some (.ref 633), some (.int w), some (.int ws), some (.int t), none] [] M v M' 0 0) : v = none ∧ RST T P M' ∧ (∃ b, zI M' 633 42 = bI b) ∧ zI M' 633 49 = pavA T P w ws t 0 ∧ zI M' 633 50 = pavA T P w ws t 1 ∧ zI M' 633 51 = pavA T P w ws t 2 := by
  obtain ⟨e1, v1, M1, _, H1, H⟩ := rpv_0 hR.1 H
  obtain ⟨rv, q1, _⟩ := RTR.mk0 hR hD hK hb H1
  rw [rv] at H
  have w1 : 1 ≤ w.toInt := iw.1
  have w2 : w.toInt ≤ ws.toInt := iw.2
  have q := rpv_l (T := T) (wn := w.toInt.toNat) (tn := t.toInt.toNat) (n := ws.toInt.toNat) (by omega) (by omega) (by omega) (by omega) (by omega) (by omega) hD hK ws.toInt.toNat 0 1 M1 q1 (fun h => by omega) rfl (by omega) (rpv_4 q1.1.1 H)
  have e1 : ¬ (1 : Int32) = 0 := by decide
  have e2 : ¬ (2 : Int32) = 0 := by decide
  have e3 : ¬ (2 : Int32) = 1 := by decide
  have cA : clsP (wkN T t.toInt.toNat w.toInt.toNat P) = clsP P := by
    have q := (wkN_0 (T := T) (n := t.toInt.toNat) w.toInt.toNat P hD hK).2
    exact cls_eq (q 0 (by decide)) (q 1 (by decide))
  unfold pavA nwP
  rw [if_pos rfl, if_neg e1, if_pos rfl, if_neg e2, if_neg e3, cA]
  exact q
theorem rpaved_ok (hR : RST T P M) (hD : okD P) (hK : okK P) (hb : ∃ b, zI M 633 42 = bI b) (H : Ev none e 231 0 [some (.ref 633), some (.int w), some (.int ws), some (.int t), some (.int wh)] [] M v M' 0 0) : RST T P M' ∧ ((pavN w ws t wh ∧ v = some (.int (-1))) ∨ (¬ pavN w ws t wh ∧ v = some (.int (pavA T P w ws t wh)))) := by
  have h0 := hR.w0 0 (by decide) 0
  have hb0 : ∃ b, zI (wF M 633 0 0) 633 42 = bI b := by
    obtain ⟨b, hb⟩ := hb
    exact ⟨b, by rw [fI_wF_ne (by decide)]; exact hb⟩
  unfold pavN
  rcases rpd_0 hR.1 H with ⟨a1, r1, r2⟩ | ⟨_, a1, r1, r2⟩ | ⟨_, _, a1, r1, r2⟩ | ⟨_, _, _, a1, r1, r2⟩ | ⟨a1, a2, a3, a4, e1, v1, M1, _, H1, H⟩
  · rw [g140_R] at a1
    exact ⟨r2 ▸ h0, Or.inl ⟨Or.inl a1, r1⟩⟩
  · rw [g140_R] at a1
    exact ⟨r2 ▸ h0, Or.inl ⟨Or.inr (Or.inl a1), r1⟩⟩
  · rw [g140_R] at a1
    exact ⟨r2 ▸ h0, Or.inl ⟨Or.inr (Or.inr (Or.inl a1)), r1⟩⟩
  · rw [g140_R] at a1
    exact ⟨r2 ▸ h0, Or.inl ⟨Or.inr (Or.inr (Or.inr a1)), r1⟩⟩
  · rw [g140_R, Classical.not_not] at a1 a2 a3 a4
    have ng : ¬ (¬ inX ws 1 20 ∨ ¬ inX w 1 ws ∨ ¬ inX t 1 200 ∨ ¬ inX wh 0 2) := fun q => by
      rcases q with q | q | q | q
      · exact q a1
      · exact q a2
      · exact q a3
      · exact q a4
    obtain ⟨rv, q1, _, f1, f2, f3⟩ := rpv_ok h0 hD hK hb0 a2 a1.2 a3.1 H1
    rw [rv] at H
    rcases rpd_54 q1.1 H with ⟨b1, r1, r2⟩ | ⟨b1, b2, r1, r2⟩ | ⟨b1, b2, r1, r2⟩
    · rw [r2, r1, f1, b1]
      exact ⟨q1, Or.inr ⟨by rw [b1] at ng; exact ng, rfl⟩⟩
    · rw [r2, r1, f2, b2]
      exact ⟨q1, Or.inr ⟨by rw [b2] at ng; exact ng, rfl⟩⟩
    · rw [r2, r1, f3]
      refine ⟨q1, Or.inr ⟨ng, ?_⟩⟩
      have e2 : ¬ (2 : Int32) = 0 := by decide
      have e3 : ¬ (2 : Int32) = 1 := by decide
      unfold pavA
      rw [if_neg e2, if_neg e3, if_neg b1, if_neg b2]
theorem rwt_l (hD : okD P) (hK : okK P) (i20 : ws.toInt ≤ 20) (t1 : 1 ≤ t.toInt) : ∀ (r : Nat) (wz be le : Int32) (c6 : Option Value) (M : Mem), RST T P M → (∃ b, zI M 633 42 = bI b) → wz.toInt + (r : Int) = ws.toInt + 1 → 1 ≤ wz.toInt → Ev none e 232 36 [some (.ref 633), some (.int ws), some (.int t), some (.int be), some (.int le), some (.int wz), c6] [] M v M' 0 0 → v = some (.int (waiL T P ws t r wz be le)) ∧ RST T P M' := by
  intro r
  induction r with
  | zero =>
    intro wz be le c6 M hR hb hw h1 H
    rcases rwt_36 hR.1 H with ⟨_, r1, r2⟩ | ⟨a1, _⟩
    · rw [r2]; exact ⟨r1, hR⟩
    · exact absurd (Int32.lt_iff_toInt_lt.mpr (by omega)) a1
  | succ r ih =>
    intro wz be le c6 M hR hb hw h1 H
    rcases rwt_36 hR.1 H with ⟨a1, _⟩ | ⟨_, e1, v1, M1, _, H1, H⟩
    · have := Int32.lt_iff_toInt_lt.mp a1
      omega
    · obtain ⟨rv, q1, hb1, f1, f2, f3⟩ := rpv_ok hR hD hK hb ⟨h1, by omega⟩ i20 t1 H1
      rw [rv] at H
      have z1 : (wz + 1).toInt = wz.toInt + 1 := i32_p1 (by omega)
      have H := rwt_50 q1.1 H
      rw [f2, f3] at H
      have es : pavA T P wz ws t 1 + pavA T P wz ws t 2 + wz = waiS T P ws t wz := rfl
      rw [es] at H
      unfold waiL
      rcases H with ⟨b1, H⟩ | ⟨b1, b2, H⟩ | ⟨b1, b2, H⟩
      · rw [if_pos (Or.inl b1)]
        exact ih _ _ _ _ M1 q1 hb1 (by omega) (by omega) H
      · rw [if_pos (Or.inr b2)]
        exact ih _ _ _ _ M1 q1 hb1 (by omega) (by omega) H
      · rw [if_neg (fun q => q.elim b1 b2)]
        exact ih _ _ _ _ M1 q1 hb1 (by omega) (by omega) H
theorem rwait_ok (hR : RST T P M) (hD : okD P) (hK : okK P) (hb : ∃ b, zI M 633 42 = bI b) (H : Ev none e 232 0 [some (.ref 633), some (.int ws), some (.int t), none, none, none, none] [] M v M' 0 0) : RST T P M' ∧ ((waiN ws t ∧ v = some (.int (-1))) ∨ (¬ waiN ws t ∧ v = some (.int (waiL T P ws t ws.toInt.toNat 1 (-1) 0)))) := by
  have h0 := hR.w0 0 (by decide) 0
  have hb0 : ∃ b, zI (wF M 633 0 0) 633 42 = bI b := by
    obtain ⟨b, hb⟩ := hb
    exact ⟨b, by rw [fI_wF_ne (by decide)]; exact hb⟩
  unfold waiN
  rcases rwt_0 hR.1 H with ⟨a1, r1, r2⟩ | ⟨_, a1, r1, r2⟩ | ⟨a1, a2, H⟩
  · rw [g140_R] at a1
    exact ⟨r2 ▸ h0, Or.inl ⟨Or.inl a1, r1⟩⟩
  · rw [g140_R] at a1
    exact ⟨r2 ▸ h0, Or.inl ⟨Or.inr a1, r1⟩⟩
  · rw [g140_R, Classical.not_not] at a1 a2
    have w1 : 1 ≤ ws.toInt := a1.1
    obtain ⟨r1, r2⟩ := rwt_l (T := T) hD hK a1.2 a2.1 ws.toInt.toNat 1 (-1) 0 none _ h0 hb0 (by have z1 : (1 : Int32).toInt = 1 := rfl; omega) (by decide) H
    exact ⟨r2, Or.inr ⟨fun q => q.elim (fun q => q a1) (fun q => q a2), r1⟩⟩
end RTUR
/-! WALKER, COUNT, FENCEAT, WAYAT of both sides: pieces (made by gwal8.py) -/
section ALEN
variable {d me pc c s a g n o np kf mx : Nat} {y : MethodName} {cc : ByteArray} {ret : Option FieldType} {tab : List (Nat × Nat × Instr)} {ls : Lo} {st : List Value} {M M' : Mem} {v : Option Value}
theorem Ev.alen (hrow : gNth mRs me = some (o, y, cc, mx, ret, np, kf, tab)) (hl : gLook tab pc = some (3, .arraylength)) (hS : SH M) (ha : gNth sT a = some g) (hB : wB g 1 n = true) (h : Ev none d me pc ls (.ref a :: st) M v M' c s) : Ev none d me (pc + 1) ls (.int (Int32.ofNat n) :: st) M v M' c s := by
  obtain ⟨st1, M1, e, h⟩ := Ev.get hrow hl h
  obtain ⟨h1, h2⟩ := hS.row ha hB
  have e : (match gNth M a with
    | some (.inl (1, .inl l)) => some (Value.int (Int32.ofNat (gLn l)) :: st, M)
    | some (.inl (3, .inl l)) => some (Value.int (Int32.ofNat (gLn l)) :: st, M)
    | _ => none) = some (st1, M1) := e
  rw [h1] at e
  have e : some (Value.int (Int32.ofNat (gLn (zrw M a))) :: st, M) = some (st1, M1) := e
  rw [ln_eq, h2] at e
  cases e
  exact h
end ALEN
theorem wkr_0 {e : Nat} {M M' : Mem} {v : Option Value} {k w : Int32} (hS : SQ M) (hLd : fR M 0 2 = 8) (H : Ev none e 96 0 [some (.ref 0), some (.int k), some (.int w), none] [] M v M' 0 0) : ((G_126 M k 0 ((zI M 8 15) - 1)) = 0 ∧ v = some (.int (-1)) ∧ M' = M) ∨ (¬ ((G_126 M k 0 ((zI M 8 15) - 1)) = 0) ∧ w = 0 ∧ (0 ≤ k.toInt ∧ k.toInt < 60) ∧ v = some (.int (zI M (oI M (8 + 11) k) 0)) ∧ M' = M) ∨ (¬ ((G_126 M k 0 ((zI M 8 15) - 1)) = 0) ∧ ¬ (w = 0) ∧ w = 1 ∧ (0 ≤ k.toInt ∧ k.toInt < 60) ∧ v = some (.int (zI M (oI M (8 + 11) k) 1)) ∧ M' = M) ∨ (¬ ((G_126 M k 0 ((zI M 8 15) - 1)) = 0) ∧ ¬ (w = 0) ∧ ¬ (w = 1) ∧ w = 2 ∧ (0 ≤ k.toInt ∧ k.toInt < 60) ∧ v = some (.int (zI M (oI M (8 + 11) k) 2)) ∧ M' = M) ∨ (¬ ((G_126 M k 0 ((zI M 8 15) - 1)) = 0) ∧ ¬ (w = 0) ∧ ¬ (w = 1) ∧ ¬ (w = 2) ∧ (0 ≤ k.toInt ∧ k.toInt < 60) ∧ v = some (.int (-1)) ∧ M' = M) := by
  have H : Ev none e 96 3 [some (.ref 0), some (.int k), some (.int w), none] [.ref 0, .int 0, .int k] M v M' 0 0 := Ev.back 3 (fun n => rfl) H
  have H : Ev none e 96 6 [some (.ref 0), some (.int k), some (.int w), none] [.ref (fR M 0 2), .int 0, .int k] M v M' 0 0 := Ev.back 1 (gs_3 rfl rfl (gf_r hS.1 qa_0 qr_0_2 rfl)) H
  rw [hLd] at H
  have H : Ev none e 96 9 [some (.ref 0), some (.int k), some (.int w), none] [.int (zI M 8 15), .int 0, .int k] M v M' 0 0 := Ev.back 1 (gs_3 rfl rfl (gf_i hS.1 qa_8 qi_8_15 rfl)) H
  have H : Ev none e 96 11 [some (.ref 0), some (.int k), some (.int w), none] [.int ((zI M 8 15) - 1), .int 0, .int k] M v M' 0 0 := Ev.back 2 (fun n => rfl) H
  obtain ⟨e1, rfl⟩ := Ev.dpos rfl rfl H
  obtain ⟨vK1, MK1, K1, H⟩ := Ev.callb (fun n => rfl) H
  obtain ⟨pK1, qK1⟩ := g_126 hS K1
  rw [pK1, qK1] at H
  have H : Ev none (e1 + 1) 96 14 [some (.ref 0), some (.int k), some (.int w), none] [.int (G_126 M k 0 ((zI M 8 15) - 1))] M v M' 0 0 := H
  have H : Ev none (e1 + 1) 96 (if (G_126 M k 0 ((zI M 8 15) - 1)) = 0 then 17 else 19) [some (.ref 0), some (.int k), some (.int w), none] [] M v M' 0 0 := Ev.back 1 (fun n => rfl) H
  by_cases h2 : (G_126 M k 0 ((zI M 8 15) - 1)) = 0
  · rw [if_pos h2] at H
    have H : Ev none (e1 + 1) 96 18 [some (.ref 0), some (.int k), some (.int w), none] [.int (-1)] M v M' 0 0 := Ev.back 1 (fun n => rfl) H
    obtain ⟨z1, z2⟩ := Ev.retz rfl rfl H
    exact Or.inl ⟨h2, z1, z2⟩
  · rw [if_neg h2] at H
    have H : Ev none (e1 + 1) 96 20 [some (.ref 0), some (.int k), some (.int w), none] [.ref 0] M v M' 0 0 := Ev.back 1 (fun n => rfl) H
    have H : Ev none (e1 + 1) 96 23 [some (.ref 0), some (.int k), some (.int w), none] [.ref (fR M 0 2)] M v M' 0 0 := Ev.back 1 (gs_3 rfl rfl (gf_r hS.1 qa_0 qr_0_2 rfl)) H
    rw [hLd] at H
    have H : Ev none (e1 + 1) 96 26 [some (.ref 0), some (.int k), some (.int w), none] [.ref (8 + 11)] M v M' 0 0 := Ev.back 1 (gs_3 rfl rfl (gf_x hS.1 qa_8 qo_8 (fx_l14 hS qa_8) rfl)) H
    have H : Ev none (e1 + 1) 96 27 [some (.ref 0), some (.int k), some (.int w), none] [.int k, .ref (8 + 11)] M v M' 0 0 := Ev.back 1 (fun n => rfl) H
    obtain ⟨b3, H⟩ := Ev.aal rfl rfl hS.1 (fx_h14 qa_8) qz_19 H
    have H : Ev none (e1 + 1) 96 28 [some (.ref 0), some (.int k), some (.int w), none] [.ref (oI M (8 + 11) k)] M v M' 0 0 := H
    have H : Ev none (e1 + 1) 96 30 [some (.ref 0), some (.int k), some (.int w), some (.ref (oI M (8 + 11) k))] [.int w] M v M' 0 0 := Ev.back 2 (fun n => rfl) H
    by_cases h4 : w = 0
    · have H : Ev none (e1 + 1) 96 56 [some (.ref 0), some (.int k), some (.int w), some (.ref (oI M (8 + 11) k))] [] M v M' 0 0 := Ev.back 1 (by rw [h4]; exact fun n => rfl) H
      have H : Ev none (e1 + 1) 96 57 [some (.ref 0), some (.int k), some (.int w), some (.ref (oI M (8 + 11) k))] [.ref (oI M (8 + 11) k)] M v M' 0 0 := Ev.back 1 (fun n => rfl) H
      have H : Ev none (e1 + 1) 96 60 [some (.ref 0), some (.int k), some (.int w), some (.ref (oI M (8 + 11) k))] [.int (zI M (oI M (8 + 11) k) 0)] M v M' 0 0 := Ev.back 1 (gs_3 rfl rfl (gf_i hS.1 b3.2 qi_21_0 rfl)) H
      obtain ⟨z1, z2⟩ := Ev.retz rfl rfl H
      exact Or.inr (Or.inl ⟨h2, h4, b3.1, z1, z2⟩)
    · by_cases h5 : w = 1
      · have H : Ev none (e1 + 1) 96 61 [some (.ref 0), some (.int k), some (.int w), some (.ref (oI M (8 + 11) k))] [] M v M' 0 0 := Ev.back 1 (by rw [h5]; exact fun n => rfl) H
        have H : Ev none (e1 + 1) 96 62 [some (.ref 0), some (.int k), some (.int w), some (.ref (oI M (8 + 11) k))] [.ref (oI M (8 + 11) k)] M v M' 0 0 := Ev.back 1 (fun n => rfl) H
        have H : Ev none (e1 + 1) 96 65 [some (.ref 0), some (.int k), some (.int w), some (.ref (oI M (8 + 11) k))] [.int (zI M (oI M (8 + 11) k) 1)] M v M' 0 0 := Ev.back 1 (gs_3 rfl rfl (gf_i hS.1 b3.2 qi_21_1 rfl)) H
        obtain ⟨z1, z2⟩ := Ev.retz rfl rfl H
        exact Or.inr (Or.inr (Or.inl ⟨h2, h4, h5, b3.1, z1, z2⟩))
      · by_cases h6 : w = 2
        · have H : Ev none (e1 + 1) 96 66 [some (.ref 0), some (.int k), some (.int w), some (.ref (oI M (8 + 11) k))] [] M v M' 0 0 := Ev.back 1 (by rw [h6]; exact fun n => rfl) H
          have H : Ev none (e1 + 1) 96 67 [some (.ref 0), some (.int k), some (.int w), some (.ref (oI M (8 + 11) k))] [.ref (oI M (8 + 11) k)] M v M' 0 0 := Ev.back 1 (fun n => rfl) H
          have H : Ev none (e1 + 1) 96 70 [some (.ref 0), some (.int k), some (.int w), some (.ref (oI M (8 + 11) k))] [.int (zI M (oI M (8 + 11) k) 2)] M v M' 0 0 := Ev.back 1 (gs_3 rfl rfl (gf_i hS.1 b3.2 qi_21_2 rfl)) H
          obtain ⟨z1, z2⟩ := Ev.retz rfl rfl H
          exact Or.inr (Or.inr (Or.inr (Or.inl ⟨h2, h4, h5, h6, b3.1, z1, z2⟩)))
        · have H : Ev none (e1 + 1) 96 (if w.toInt < 0 ∨ 2 < w.toInt then gT 30 41 else gT 30 (([26, 31, 36] : List Int).getD (w.toInt - 0).toNat 0)) [some (.ref 0), some (.int k), some (.int w), some (.ref (oI M (8 + 11) k))] [] M v M' 0 0 := Ev.back 1 (fun n => rfl) H
          have qh4 : w.toInt ≠ 0 := fun q => h4 (Int32.toInt_inj.mp q)
          have qh5 : w.toInt ≠ 1 := fun q => h5 (Int32.toInt_inj.mp q)
          have qh6 : w.toInt ≠ 2 := fun q => h6 (Int32.toInt_inj.mp q)
          rw [if_pos (show w.toInt < 0 ∨ 2 < w.toInt from by omega)] at H
          have H : Ev none (e1 + 1) 96 71 [some (.ref 0), some (.int k), some (.int w), some (.ref (oI M (8 + 11) k))] [] M v M' 0 0 := H
          have H : Ev none (e1 + 1) 96 72 [some (.ref 0), some (.int k), some (.int w), some (.ref (oI M (8 + 11) k))] [.int (-1)] M v M' 0 0 := Ev.back 1 (fun n => rfl) H
          obtain ⟨z1, z2⟩ := Ev.retz rfl rfl H
          exact Or.inr (Or.inr (Or.inr (Or.inr (⟨h2, h4, h5, h6, b3.1, z1, z2⟩))))
theorem wta_0 {e : Nat} {M M' : Mem} {v : Option Value} (hS : SQ M) (H : Ev none e 11 0 [some (.ref 8), none, none] [] M v M' 0 0) : Ev none e 11 4 [some (.ref 8), some (.int 0), some (.int 0)] [] M v M' 0 0 := by
  have H : Ev none e 11 4 [some (.ref 8), some (.int 0), some (.int 0)] [] M v M' 0 0 := Ev.back 4 (fun n => rfl) H
  have HF := H
  exact HF
theorem wta_4 {e : Nat} {M M' : Mem} {v : Option Value} {n i : Int32} (hS : SQ M) (H : Ev none e 11 4 [some (.ref 8), some (.int n), some (.int i)] [] M v M' 0 0) : ((zI M 8 13) ≤ i ∧ v = some (.int n) ∧ M' = M) ∨ (¬ ((zI M 8 13) ≤ i) ∧ (zI M (oI M (8 + 10) i) 5) = 0 ∧ (0 ≤ i.toInt ∧ i.toInt < 24) ∧ Ev none e 11 4 [some (.ref 8), some (.int (n + 0)), some (.int (i + 1))] [] M v M' 0 0) ∨ (¬ ((zI M 8 13) ≤ i) ∧ ¬ ((zI M (oI M (8 + 10) i) 5) = 0) ∧ (0 ≤ i.toInt ∧ i.toInt < 24) ∧ Ev none e 11 4 [some (.ref 8), some (.int (n + 1)), some (.int (i + 1))] [] M v M' 0 0) := by
  have H : Ev none e 11 6 [some (.ref 8), some (.int n), some (.int i)] [.ref 8, .int i] M v M' 0 0 := Ev.back 2 (fun n => rfl) H
  have H : Ev none e 11 9 [some (.ref 8), some (.int n), some (.int i)] [.int (zI M 8 13), .int i] M v M' 0 0 := Ev.back 1 (gs_3 rfl rfl (gf_i hS.1 qa_8 qi_8_13 rfl)) H
  have H : Ev none e 11 (if (zI M 8 13) ≤ i then 38 else 12) [some (.ref 8), some (.int n), some (.int i)] [] M v M' 0 0 := Ev.back 1 (fun n => rfl) H
  by_cases h1 : (zI M 8 13) ≤ i
  · rw [if_pos h1] at H
    have H : Ev none e 11 39 [some (.ref 8), some (.int n), some (.int i)] [.int n] M v M' 0 0 := Ev.back 1 (fun n => rfl) H
    obtain ⟨z1, z2⟩ := Ev.retz rfl rfl H
    exact Or.inl ⟨h1, z1, z2⟩
  · rw [if_neg h1] at H
    have H : Ev none e 11 14 [some (.ref 8), some (.int n), some (.int i)] [.ref 8, .int n] M v M' 0 0 := Ev.back 2 (fun n => rfl) H
    have H : Ev none e 11 17 [some (.ref 8), some (.int n), some (.int i)] [.ref (8 + 10), .int n] M v M' 0 0 := Ev.back 1 (gs_3 rfl rfl (gf_x hS.1 qa_8 qo_8 (fx_l12 hS qa_8) rfl)) H
    have H : Ev none e 11 18 [some (.ref 8), some (.int n), some (.int i)] [.int i, .ref (8 + 10), .int n] M v M' 0 0 := Ev.back 1 (fun n => rfl) H
    obtain ⟨b2, H⟩ := Ev.aal rfl rfl hS.1 (fx_h12 qa_8) qz_18 H
    have H : Ev none e 11 19 [some (.ref 8), some (.int n), some (.int i)] [.ref (oI M (8 + 10) i), .int n] M v M' 0 0 := H
    have H : Ev none e 11 22 [some (.ref 8), some (.int n), some (.int i)] [.int (zI M (oI M (8 + 10) i) 5), .int n] M v M' 0 0 := Ev.back 1 (gs_3 rfl rfl (gf_i hS.1 b2.2 qi_20_5 rfl)) H
    have H : Ev none e 11 (if (zI M (oI M (8 + 10) i) 5) = 0 then 29 else 25) [some (.ref 8), some (.int n), some (.int i)] [.int n] M v M' 0 0 := Ev.back 1 (fun n => rfl) H
    by_cases h3 : (zI M (oI M (8 + 10) i) 5) = 0
    · rw [if_pos h3] at H
      have H : Ev none e 11 4 [some (.ref 8), some (.int (n + 0)), some (.int (i + 1))] [] M v M' 0 0 := Ev.back 5 (fun n => rfl) H
      have HF := H
      exact Or.inr (Or.inl ⟨h1, h3, b2.1, HF⟩)
    · rw [if_neg h3] at H
      have H : Ev none e 11 4 [some (.ref 8), some (.int (n + 1)), some (.int (i + 1))] [] M v M' 0 0 := Ev.back 6 (fun n => rfl) H
      have HF := H
      exact Or.inr (Or.inr (⟨h1, h3, b2.1, HF⟩))
theorem cnt_0 {e : Nat} {M M' : Mem} {v : Option Value} {k : Int32} (hS : SQ M) (hLd : fR M 0 2 = 8) (H : Ev none e 125 0 [some (.ref 0), some (.int k)] [] M v M' 0 0) : (k = 0 ∧ v = some (.int (zI M 8 0)) ∧ M' = M) ∨ (¬ (k = 0) ∧ k = 1 ∧ v = some (.int (zI M 8 1)) ∧ M' = M) ∨ (¬ (k = 0) ∧ ¬ (k = 1) ∧ k = 2 ∧ v = some (.int (zI M 8 11)) ∧ M' = M) ∨ (¬ (k = 0) ∧ ¬ (k = 1) ∧ ¬ (k = 2) ∧ k = 3 ∧ (∃ e1 v1 M1, e = e1 + 1 ∧ Ev none e1 11 0 [some (.ref 8), none, none] [] M v1 M1 0 0 ∧ Ev none e 125 87 [some (.ref 0), some (.int k)] (v1.toList ++ []) M1 v M' 0 0)) ∨ (¬ (k = 0) ∧ ¬ (k = 1) ∧ ¬ (k = 2) ∧ ¬ (k = 3) ∧ k = 4 ∧ v = some (.int (zI M 8 15)) ∧ M' = M) ∨ (¬ (k = 0) ∧ ¬ (k = 1) ∧ ¬ (k = 2) ∧ ¬ (k = 3) ∧ ¬ (k = 4) ∧ k = 5 ∧ v = some (.int (zI M 8 16)) ∧ M' = M) ∨ (¬ (k = 0) ∧ ¬ (k = 1) ∧ ¬ (k = 2) ∧ ¬ (k = 3) ∧ ¬ (k = 4) ∧ ¬ (k = 5) ∧ k = 6 ∧ v = some (.int (zI M 8 17)) ∧ M' = M) ∨ (¬ (k = 0) ∧ ¬ (k = 1) ∧ ¬ (k = 2) ∧ ¬ (k = 3) ∧ ¬ (k = 4) ∧ ¬ (k = 5) ∧ ¬ (k = 6) ∧ k = 7 ∧ v = some (.int (zI M 8 18)) ∧ M' = M) ∨ (¬ (k = 0) ∧ ¬ (k = 1) ∧ ¬ (k = 2) ∧ ¬ (k = 3) ∧ ¬ (k = 4) ∧ ¬ (k = 5) ∧ ¬ (k = 6) ∧ ¬ (k = 7) ∧ k = 8 ∧ v = some (.int (zI M 8 19)) ∧ M' = M) ∨ (¬ (k = 0) ∧ ¬ (k = 1) ∧ ¬ (k = 2) ∧ ¬ (k = 3) ∧ ¬ (k = 4) ∧ ¬ (k = 5) ∧ ¬ (k = 6) ∧ ¬ (k = 7) ∧ ¬ (k = 8) ∧ k = 9 ∧ v = some (.int (zI M 1 1)) ∧ M' = M) ∨ (¬ (k = 0) ∧ ¬ (k = 1) ∧ ¬ (k = 2) ∧ ¬ (k = 3) ∧ ¬ (k = 4) ∧ ¬ (k = 5) ∧ ¬ (k = 6) ∧ ¬ (k = 7) ∧ ¬ (k = 8) ∧ ¬ (k = 9) ∧ v = some (.int (-1)) ∧ M' = M) := by
  have H : Ev none e 125 1 [some (.ref 0), some (.int k)] [.int k] M v M' 0 0 := Ev.back 1 (fun n => rfl) H
  by_cases h1 : k = 0
  · have H : Ev none e 125 56 [some (.ref 0), some (.int k)] [] M v M' 0 0 := Ev.back 1 (by rw [h1]; exact fun n => rfl) H
    have H : Ev none e 125 57 [some (.ref 0), some (.int k)] [.ref 0] M v M' 0 0 := Ev.back 1 (fun n => rfl) H
    have H : Ev none e 125 60 [some (.ref 0), some (.int k)] [.ref (fR M 0 2)] M v M' 0 0 := Ev.back 1 (gs_3 rfl rfl (gf_r hS.1 qa_0 qr_0_2 rfl)) H
    rw [hLd] at H
    have H : Ev none e 125 63 [some (.ref 0), some (.int k)] [.int (zI M 8 0)] M v M' 0 0 := Ev.back 1 (gs_3 rfl rfl (gf_i hS.1 qa_8 qi_8_0 rfl)) H
    obtain ⟨z1, z2⟩ := Ev.retz rfl rfl H
    exact Or.inl ⟨h1, z1, z2⟩
  · by_cases h2 : k = 1
    · have H : Ev none e 125 64 [some (.ref 0), some (.int k)] [] M v M' 0 0 := Ev.back 1 (by rw [h2]; exact fun n => rfl) H
      have H : Ev none e 125 65 [some (.ref 0), some (.int k)] [.ref 0] M v M' 0 0 := Ev.back 1 (fun n => rfl) H
      have H : Ev none e 125 68 [some (.ref 0), some (.int k)] [.ref (fR M 0 2)] M v M' 0 0 := Ev.back 1 (gs_3 rfl rfl (gf_r hS.1 qa_0 qr_0_2 rfl)) H
      rw [hLd] at H
      have H : Ev none e 125 71 [some (.ref 0), some (.int k)] [.int (zI M 8 1)] M v M' 0 0 := Ev.back 1 (gs_3 rfl rfl (gf_i hS.1 qa_8 qi_8_1 rfl)) H
      obtain ⟨z1, z2⟩ := Ev.retz rfl rfl H
      exact Or.inr (Or.inl ⟨h1, h2, z1, z2⟩)
    · by_cases h3 : k = 2
      · have H : Ev none e 125 72 [some (.ref 0), some (.int k)] [] M v M' 0 0 := Ev.back 1 (by rw [h3]; exact fun n => rfl) H
        have H : Ev none e 125 73 [some (.ref 0), some (.int k)] [.ref 0] M v M' 0 0 := Ev.back 1 (fun n => rfl) H
        have H : Ev none e 125 76 [some (.ref 0), some (.int k)] [.ref (fR M 0 2)] M v M' 0 0 := Ev.back 1 (gs_3 rfl rfl (gf_r hS.1 qa_0 qr_0_2 rfl)) H
        rw [hLd] at H
        have H : Ev none e 125 79 [some (.ref 0), some (.int k)] [.int (zI M 8 11)] M v M' 0 0 := Ev.back 1 (gs_3 rfl rfl (gf_i hS.1 qa_8 qi_8_11 rfl)) H
        obtain ⟨z1, z2⟩ := Ev.retz rfl rfl H
        exact Or.inr (Or.inr (Or.inl ⟨h1, h2, h3, z1, z2⟩))
      · by_cases h4 : k = 3
        · have H : Ev none e 125 80 [some (.ref 0), some (.int k)] [] M v M' 0 0 := Ev.back 1 (by rw [h4]; exact fun n => rfl) H
          have H : Ev none e 125 81 [some (.ref 0), some (.int k)] [.ref 0] M v M' 0 0 := Ev.back 1 (fun n => rfl) H
          have H : Ev none e 125 84 [some (.ref 0), some (.int k)] [.ref (fR M 0 2)] M v M' 0 0 := Ev.back 1 (gs_3 rfl rfl (gf_r hS.1 qa_0 qr_0_2 rfl)) H
          rw [hLd] at H
          obtain ⟨e1, rfl⟩ := Ev.dpos rfl rfl H
          obtain ⟨vK5, MK5, K5, H⟩ := Ev.callb (fun n_ => gs_7 rfl rfl (show gCal (.invokevirtual 399) 10 (.ref 8 :: []) M = some (.inr (11, [some (.ref 8), none, none], [])) from by show @cond (Option ((List Value × Mem) ⊕ (Nat × Lo × List Value))) (true && gRecv M (.ref 8) 1 && gRoom [] && true) (some (.inr (11, [some (.ref 8), none, none], []))) none = _; rw [recv_s hS.1 qa_8 qo_8]; rfl)) H
          have K5 : Ev none e1 11 0 [some (.ref 8), none, none] [] M vK5 MK5 0 0 := K5
          have HF := H
          exact Or.inr (Or.inr (Or.inr (Or.inl ⟨h1, h2, h3, h4, ⟨e1, vK5, MK5, rfl, K5, HF⟩⟩)))
        · by_cases h6 : k = 4
          · have H : Ev none e 125 88 [some (.ref 0), some (.int k)] [] M v M' 0 0 := Ev.back 1 (by rw [h6]; exact fun n => rfl) H
            have H : Ev none e 125 89 [some (.ref 0), some (.int k)] [.ref 0] M v M' 0 0 := Ev.back 1 (fun n => rfl) H
            have H : Ev none e 125 92 [some (.ref 0), some (.int k)] [.ref (fR M 0 2)] M v M' 0 0 := Ev.back 1 (gs_3 rfl rfl (gf_r hS.1 qa_0 qr_0_2 rfl)) H
            rw [hLd] at H
            have H : Ev none e 125 95 [some (.ref 0), some (.int k)] [.int (zI M 8 15)] M v M' 0 0 := Ev.back 1 (gs_3 rfl rfl (gf_i hS.1 qa_8 qi_8_15 rfl)) H
            obtain ⟨z1, z2⟩ := Ev.retz rfl rfl H
            exact Or.inr (Or.inr (Or.inr (Or.inr (Or.inl ⟨h1, h2, h3, h4, h6, z1, z2⟩))))
          · by_cases h7 : k = 5
            · have H : Ev none e 125 96 [some (.ref 0), some (.int k)] [] M v M' 0 0 := Ev.back 1 (by rw [h7]; exact fun n => rfl) H
              have H : Ev none e 125 97 [some (.ref 0), some (.int k)] [.ref 0] M v M' 0 0 := Ev.back 1 (fun n => rfl) H
              have H : Ev none e 125 100 [some (.ref 0), some (.int k)] [.ref (fR M 0 2)] M v M' 0 0 := Ev.back 1 (gs_3 rfl rfl (gf_r hS.1 qa_0 qr_0_2 rfl)) H
              rw [hLd] at H
              have H : Ev none e 125 103 [some (.ref 0), some (.int k)] [.int (zI M 8 16)] M v M' 0 0 := Ev.back 1 (gs_3 rfl rfl (gf_i hS.1 qa_8 qi_8_16 rfl)) H
              obtain ⟨z1, z2⟩ := Ev.retz rfl rfl H
              exact Or.inr (Or.inr (Or.inr (Or.inr (Or.inr (Or.inl ⟨h1, h2, h3, h4, h6, h7, z1, z2⟩)))))
            · by_cases h8 : k = 6
              · have H : Ev none e 125 104 [some (.ref 0), some (.int k)] [] M v M' 0 0 := Ev.back 1 (by rw [h8]; exact fun n => rfl) H
                have H : Ev none e 125 105 [some (.ref 0), some (.int k)] [.ref 0] M v M' 0 0 := Ev.back 1 (fun n => rfl) H
                have H : Ev none e 125 108 [some (.ref 0), some (.int k)] [.ref (fR M 0 2)] M v M' 0 0 := Ev.back 1 (gs_3 rfl rfl (gf_r hS.1 qa_0 qr_0_2 rfl)) H
                rw [hLd] at H
                have H : Ev none e 125 111 [some (.ref 0), some (.int k)] [.int (zI M 8 17)] M v M' 0 0 := Ev.back 1 (gs_3 rfl rfl (gf_i hS.1 qa_8 qi_8_17 rfl)) H
                obtain ⟨z1, z2⟩ := Ev.retz rfl rfl H
                exact Or.inr (Or.inr (Or.inr (Or.inr (Or.inr (Or.inr (Or.inl ⟨h1, h2, h3, h4, h6, h7, h8, z1, z2⟩))))))
              · by_cases h9 : k = 7
                · have H : Ev none e 125 112 [some (.ref 0), some (.int k)] [] M v M' 0 0 := Ev.back 1 (by rw [h9]; exact fun n => rfl) H
                  have H : Ev none e 125 113 [some (.ref 0), some (.int k)] [.ref 0] M v M' 0 0 := Ev.back 1 (fun n => rfl) H
                  have H : Ev none e 125 116 [some (.ref 0), some (.int k)] [.ref (fR M 0 2)] M v M' 0 0 := Ev.back 1 (gs_3 rfl rfl (gf_r hS.1 qa_0 qr_0_2 rfl)) H
                  rw [hLd] at H
                  have H : Ev none e 125 119 [some (.ref 0), some (.int k)] [.int (zI M 8 18)] M v M' 0 0 := Ev.back 1 (gs_3 rfl rfl (gf_i hS.1 qa_8 qi_8_18 rfl)) H
                  obtain ⟨z1, z2⟩ := Ev.retz rfl rfl H
                  exact Or.inr (Or.inr (Or.inr (Or.inr (Or.inr (Or.inr (Or.inr (Or.inl ⟨h1, h2, h3, h4, h6, h7, h8, h9, z1, z2⟩)))))))
                · by_cases h10 : k = 8
                  · have H : Ev none e 125 120 [some (.ref 0), some (.int k)] [] M v M' 0 0 := Ev.back 1 (by rw [h10]; exact fun n => rfl) H
                    have H : Ev none e 125 121 [some (.ref 0), some (.int k)] [.ref 0] M v M' 0 0 := Ev.back 1 (fun n => rfl) H
                    have H : Ev none e 125 124 [some (.ref 0), some (.int k)] [.ref (fR M 0 2)] M v M' 0 0 := Ev.back 1 (gs_3 rfl rfl (gf_r hS.1 qa_0 qr_0_2 rfl)) H
                    rw [hLd] at H
                    have H : Ev none e 125 127 [some (.ref 0), some (.int k)] [.int (zI M 8 19)] M v M' 0 0 := Ev.back 1 (gs_3 rfl rfl (gf_i hS.1 qa_8 qi_8_19 rfl)) H
                    obtain ⟨z1, z2⟩ := Ev.retz rfl rfl H
                    exact Or.inr (Or.inr (Or.inr (Or.inr (Or.inr (Or.inr (Or.inr (Or.inr (Or.inl ⟨h1, h2, h3, h4, h6, h7, h8, h9, h10, z1, z2⟩))))))))
                  · by_cases h11 : k = 9
                    · have H : Ev none e 125 128 [some (.ref 0), some (.int k)] [] M v M' 0 0 := Ev.back 1 (by rw [h11]; exact fun n => rfl) H
                      have H : Ev none e 125 129 [some (.ref 0), some (.int k)] [.ref 0] M v M' 0 0 := Ev.back 1 (fun n => rfl) H
                      have H : Ev none e 125 132 [some (.ref 0), some (.int k)] [.ref 1] M v M' 0 0 := Ev.back 1 (gs_3 rfl rfl (gf_u hS.1 qa_0 qr_0_0 qu_1 rfl)) H
                      have H : Ev none e 125 135 [some (.ref 0), some (.int k)] [.int (zI M 1 1)] M v M' 0 0 := Ev.back 1 (gs_3 rfl rfl (gf_i hS.1 qa_1 qi_1_1 rfl)) H
                      obtain ⟨z1, z2⟩ := Ev.retz rfl rfl H
                      exact Or.inr (Or.inr (Or.inr (Or.inr (Or.inr (Or.inr (Or.inr (Or.inr (Or.inr (Or.inl ⟨h1, h2, h3, h4, h6, h7, h8, h9, h10, h11, z1, z2⟩)))))))))
                    · have H : Ev none e 125 (if k.toInt < 0 ∨ 9 < k.toInt then gT 1 135 else gT 1 (([55, 63, 71, 79, 87, 95, 103, 111, 119, 127] : List Int).getD (k.toInt - 0).toNat 0)) [some (.ref 0), some (.int k)] [] M v M' 0 0 := Ev.back 1 (fun n => rfl) H
                      have qh1 : k.toInt ≠ 0 := fun q => h1 (Int32.toInt_inj.mp q)
                      have qh2 : k.toInt ≠ 1 := fun q => h2 (Int32.toInt_inj.mp q)
                      have qh3 : k.toInt ≠ 2 := fun q => h3 (Int32.toInt_inj.mp q)
                      have qh4 : k.toInt ≠ 3 := fun q => h4 (Int32.toInt_inj.mp q)
                      have qh6 : k.toInt ≠ 4 := fun q => h6 (Int32.toInt_inj.mp q)
                      have qh7 : k.toInt ≠ 5 := fun q => h7 (Int32.toInt_inj.mp q)
                      have qh8 : k.toInt ≠ 6 := fun q => h8 (Int32.toInt_inj.mp q)
                      have qh9 : k.toInt ≠ 7 := fun q => h9 (Int32.toInt_inj.mp q)
                      have qh10 : k.toInt ≠ 8 := fun q => h10 (Int32.toInt_inj.mp q)
                      have qh11 : k.toInt ≠ 9 := fun q => h11 (Int32.toInt_inj.mp q)
                      rw [if_pos (show k.toInt < 0 ∨ 9 < k.toInt from by omega)] at H
                      have H : Ev none e 125 136 [some (.ref 0), some (.int k)] [] M v M' 0 0 := H
                      have H : Ev none e 125 137 [some (.ref 0), some (.int k)] [.int (-1)] M v M' 0 0 := Ev.back 1 (fun n => rfl) H
                      obtain ⟨z1, z2⟩ := Ev.retz rfl rfl H
                      exact Or.inr (Or.inr (Or.inr (Or.inr (Or.inr (Or.inr (Or.inr (Or.inr (Or.inr (Or.inr (⟨h1, h2, h3, h4, h6, h7, h8, h9, h10, h11, z1, z2⟩))))))))))
theorem cnt_87 {e : Nat} {M M' : Mem} {v : Option Value} {k r : Int32} (hS : SQ M) (H : Ev none e 125 87 [some (.ref 0), some (.int k)] [.int r] M v M' 0 0) : v = some (.int r) ∧ M' = M := by
  obtain ⟨z1, z2⟩ := Ev.retz rfl rfl H
  exact ⟨z1, z2⟩
theorem fcA_0 {e : Nat} {M M' : Mem} {v : Option Value} {k : Int32} (hS : SQ M) (H : Ev none e 113 0 [some (.ref 0), some (.int k)] [] M v M' 0 0) : ((G_126 M k 0 ((if 2 < (zI M 0 14) then 2 else (zI M 0 14)) - 1)) = 0 ∧ v = some (.int (-1)) ∧ M' = M) ∨ (¬ ((G_126 M k 0 ((if 2 < (zI M 0 14) then 2 else (zI M 0 14)) - 1)) = 0) ∧ (0 ≤ k.toInt ∧ k.toInt < 2) ∧ v = some (.int (rI M 343 k)) ∧ M' = M) := by
  have H : Ev none e 113 3 [some (.ref 0), some (.int k)] [.ref 0, .int 0, .int k] M v M' 0 0 := Ev.back 3 (fun n => rfl) H
  have H : Ev none e 113 6 [some (.ref 0), some (.int k)] [.int (zI M 0 14), .int 0, .int k] M v M' 0 0 := Ev.back 1 (gs_3 rfl rfl (gf_i hS.1 qa_0 qi_0_14 rfl)) H
  have H : Ev none e 113 7 [some (.ref 0), some (.int k)] [.ref 0, .int (zI M 0 14), .int 0, .int k] M v M' 0 0 := Ev.back 1 (fun n => rfl) H
  have H : Ev none e 113 10 [some (.ref 0), some (.int k)] [.ref 343, .int (zI M 0 14), .int 0, .int k] M v M' 0 0 := Ev.back 1 (gs_3 rfl rfl (gf_u hS.1 qa_0 qr_0_11 qu_59 rfl)) H
  have H : Ev none e 113 11 [some (.ref 0), some (.int k)] [.int 2, .int (zI M 0 14), .int 0, .int k] M v M' 0 0 := Ev.alen rfl rfl hS.1 qa_343 qw_59 H
  obtain ⟨e1, rfl⟩ := Ev.dpos rfl rfl H
  have H : Ev none (e1 + 1) 113 16 [some (.ref 0), some (.int k)] [.int ((if 2 < (zI M 0 14) then 2 else (zI M 0 14)) - 1), .int 0, .int k] M v M' 0 0 := Ev.back 3 (fun n => rfl) H
  obtain ⟨vK1, MK1, K1, H⟩ := Ev.callb (fun n => rfl) H
  obtain ⟨pK1, qK1⟩ := g_126 hS K1
  rw [pK1, qK1] at H
  have H : Ev none (e1 + 1) 113 19 [some (.ref 0), some (.int k)] [.int (G_126 M k 0 ((if 2 < (zI M 0 14) then 2 else (zI M 0 14)) - 1))] M v M' 0 0 := H
  have H : Ev none (e1 + 1) 113 (if (G_126 M k 0 ((if 2 < (zI M 0 14) then 2 else (zI M 0 14)) - 1)) = 0 then 31 else 22) [some (.ref 0), some (.int k)] [] M v M' 0 0 := Ev.back 1 (fun n => rfl) H
  by_cases h2 : (G_126 M k 0 ((if 2 < (zI M 0 14) then 2 else (zI M 0 14)) - 1)) = 0
  · rw [if_pos h2] at H
    have H : Ev none (e1 + 1) 113 32 [some (.ref 0), some (.int k)] [.int (-1)] M v M' 0 0 := Ev.back 1 (fun n => rfl) H
    obtain ⟨z1, z2⟩ := Ev.retz rfl rfl H
    exact Or.inl ⟨h2, z1, z2⟩
  · rw [if_neg h2] at H
    have H : Ev none (e1 + 1) 113 23 [some (.ref 0), some (.int k)] [.ref 0] M v M' 0 0 := Ev.back 1 (fun n => rfl) H
    have H : Ev none (e1 + 1) 113 26 [some (.ref 0), some (.int k)] [.ref 343] M v M' 0 0 := Ev.back 1 (gs_3 rfl rfl (gf_u hS.1 qa_0 qr_0_11 qu_59 rfl)) H
    have H : Ev none (e1 + 1) 113 27 [some (.ref 0), some (.int k)] [.int k, .ref 343] M v M' 0 0 := Ev.back 1 (fun n => rfl) H
    obtain ⟨b3, H⟩ := Ev.ial rfl rfl hS.1 qa_343 qw_59 H
    have H : Ev none (e1 + 1) 113 28 [some (.ref 0), some (.int k)] [.int (rI M 343 k)] M v M' 0 0 := H
    have H : Ev none (e1 + 1) 113 32 [some (.ref 0), some (.int k)] [.int (rI M 343 k)] M v M' 0 0 := Ev.back 1 (fun n => rfl) H
    obtain ⟨z1, z2⟩ := Ev.retz rfl rfl H
    exact Or.inr (⟨h2, b3, z1, z2⟩)
theorem wyA_0 {e : Nat} {M M' : Mem} {v : Option Value} {k : Int32} (hS : SQ M) (H : Ev none e 116 0 [some (.ref 0), some (.int k)] [] M v M' 0 0) : ((G_126 M k 0 (if 200 < (zI M 0 13) then 200 else (zI M 0 13))) = 0 ∧ v = some (.int (-1)) ∧ M' = M) ∨ (¬ ((G_126 M k 0 (if 200 < (zI M 0 13) then 200 else (zI M 0 13))) = 0) ∧ (0 ≤ k.toInt ∧ k.toInt < 201) ∧ v = some (.int (rI M (fR M 0 9) k)) ∧ M' = M) := by
  have H : Ev none e 116 3 [some (.ref 0), some (.int k)] [.ref 0, .int 0, .int k] M v M' 0 0 := Ev.back 3 (fun n => rfl) H
  have H : Ev none e 116 6 [some (.ref 0), some (.int k)] [.int (zI M 0 13), .int 0, .int k] M v M' 0 0 := Ev.back 1 (gs_3 rfl rfl (gf_i hS.1 qa_0 qi_0_13 rfl)) H
  have H : Ev none e 116 9 [some (.ref 0), some (.int k)] [.int 200, .int (zI M 0 13), .int 0, .int k] M v M' 0 0 := Ev.back 1 (fun n => rfl) H
  obtain ⟨e1, rfl⟩ := Ev.dpos rfl rfl H
  have H : Ev none (e1 + 1) 116 12 [some (.ref 0), some (.int k)] [.int (if 200 < (zI M 0 13) then 200 else (zI M 0 13)), .int 0, .int k] M v M' 0 0 := Ev.back 1 (fun n => rfl) H
  obtain ⟨vK1, MK1, K1, H⟩ := Ev.callb (fun n => rfl) H
  obtain ⟨pK1, qK1⟩ := g_126 hS K1
  rw [pK1, qK1] at H
  have H : Ev none (e1 + 1) 116 15 [some (.ref 0), some (.int k)] [.int (G_126 M k 0 (if 200 < (zI M 0 13) then 200 else (zI M 0 13)))] M v M' 0 0 := H
  have H : Ev none (e1 + 1) 116 (if (G_126 M k 0 (if 200 < (zI M 0 13) then 200 else (zI M 0 13))) = 0 then 27 else 18) [some (.ref 0), some (.int k)] [] M v M' 0 0 := Ev.back 1 (fun n => rfl) H
  by_cases h2 : (G_126 M k 0 (if 200 < (zI M 0 13) then 200 else (zI M 0 13))) = 0
  · rw [if_pos h2] at H
    have H : Ev none (e1 + 1) 116 28 [some (.ref 0), some (.int k)] [.int (-1)] M v M' 0 0 := Ev.back 1 (fun n => rfl) H
    obtain ⟨z1, z2⟩ := Ev.retz rfl rfl H
    exact Or.inl ⟨h2, z1, z2⟩
  · rw [if_neg h2] at H
    have H : Ev none (e1 + 1) 116 19 [some (.ref 0), some (.int k)] [.ref 0] M v M' 0 0 := Ev.back 1 (fun n => rfl) H
    have H : Ev none (e1 + 1) 116 22 [some (.ref 0), some (.int k)] [.ref (fR M 0 9)] M v M' 0 0 := Ev.back 1 (gs_3 rfl rfl (gf_r hS.1 qa_0 qr_0_9 rfl)) H
    have H : Ev none (e1 + 1) 116 23 [some (.ref 0), some (.int k)] [.int k, .ref (fR M 0 9)] M v M' 0 0 := Ev.back 1 (fun n => rfl) H
    obtain ⟨b3, H⟩ := Ev.ial rfl rfl hS.1 (hS.1.fr qa_0 qr_0_9).2 qw_58 H
    have H : Ev none (e1 + 1) 116 24 [some (.ref 0), some (.int k)] [.int (rI M (fR M 0 9) k)] M v M' 0 0 := H
    have H : Ev none (e1 + 1) 116 28 [some (.ref 0), some (.int k)] [.int (rI M (fR M 0 9) k)] M v M' 0 0 := Ev.back 1 (fun n => rfl) H
    obtain ⟨z1, z2⟩ := Ev.retz rfl rfl H
    exact Or.inr (⟨h2, b3, z1, z2⟩)
theorem rwr_0 {e : Nat} {M M' : Mem} {v : Option Value} {k w : Int32} (hS : SQ M) (H : Ev none e 215 0 [some (.ref 633), some (.int k), some (.int w)] [] M v M' 0 0) : ((G_140 (wF M 633 0 0) k 0 ((rI M 635 157) - 1)) = 0 ∧ (0 ≤ (157 : Int32).toInt ∧ (157 : Int32).toInt < 2314) ∧ v = some (.int (-1)) ∧ M' = (wF M 633 0 0)) ∨ (¬ ((G_140 (wF M 633 0 0) k 0 ((rI M 635 157) - 1)) = 0) ∧ (G_140 (wF M 633 0 0) w 0 2) = 0 ∧ (0 ≤ (157 : Int32).toInt ∧ (157 : Int32).toInt < 2314) ∧ v = some (.int (-1)) ∧ M' = (wF M 633 0 0)) ∨ (¬ ((G_140 (wF M 633 0 0) k 0 ((rI M 635 157) - 1)) = 0) ∧ ¬ ((G_140 (wF M 633 0 0) w 0 2) = 0) ∧ (0 ≤ (157 : Int32).toInt ∧ (157 : Int32).toInt < 2314) ∧ (0 ≤ ((158 + (6 * k)) + w).toInt ∧ ((158 + (6 * k)) + w).toInt < 2314) ∧ v = some (.int (rI M 635 ((158 + (6 * k)) + w))) ∧ M' = (wF M 633 0 0)) := by
  have H : Ev none e 215 2 [some (.ref 633), some (.int k), some (.int w)] [.int 0, .ref 633] M v M' 0 0 := Ev.back 2 (fun n => rfl) H
  obtain ⟨N2, eN2⟩ : ∃ N, N = (wF M 633 0 0) := ⟨_, rfl⟩
  have hN2 : SQ N2 := by rw [eN2]; exact hS.kf
  have H : Ev none e 215 5 [some (.ref 633), some (.int k), some (.int w)] [] N2 v M' 0 0 := by rw [eN2]; exact Ev.pfi rfl rfl rfl hS.1 qa_633 qi_61_0 H
  have H : Ev none e 215 8 [some (.ref 633), some (.int k), some (.int w)] [.ref 633, .int 0, .int k] N2 v M' 0 0 := Ev.back 3 (fun n => rfl) H
  have H : Ev none e 215 11 [some (.ref 633), some (.int k), some (.int w)] [.ref 635, .int 0, .int k] N2 v M' 0 0 := Ev.back 1 (gs_3 rfl rfl (gf_u hN2.1 qa_633 qr_61_5 qu_63 rfl)) H
  have H : Ev none e 215 14 [some (.ref 633), some (.int k), some (.int w)] [.int 157, .ref 635, .int 0, .int k] N2 v M' 0 0 := Ev.back 1 (fun n => rfl) H
  obtain ⟨b3, H⟩ := Ev.ial rfl rfl hN2.1 qa_635 qw_63 H
  have H : Ev none e 215 15 [some (.ref 633), some (.int k), some (.int w)] [.int (rI N2 635 157), .int 0, .int k] N2 v M' 0 0 := H
  rw [show rI N2 635 157 = rI M 635 157 from by rw [eN2]; exact rN_wF] at H
  have H : Ev none e 215 17 [some (.ref 633), some (.int k), some (.int w)] [.int ((rI M 635 157) - 1), .int 0, .int k] N2 v M' 0 0 := Ev.back 2 (fun n => rfl) H
  obtain ⟨e1, rfl⟩ := Ev.dpos rfl rfl H
  obtain ⟨vK4, MK4, K4, H⟩ := Ev.callb (fun n => rfl) H
  obtain ⟨pK4, qK4⟩ := g_140 hN2 K4
  rw [pK4, qK4] at H
  have H : Ev none (e1 + 1) 215 20 [some (.ref 633), some (.int k), some (.int w)] [.int (G_140 N2 k 0 ((rI M 635 157) - 1))] N2 v M' 0 0 := H
  have H : Ev none (e1 + 1) 215 (if (G_140 N2 k 0 ((rI M 635 157) - 1)) = 0 then 50 else 23) [some (.ref 633), some (.int k), some (.int w)] [] N2 v M' 0 0 := Ev.back 1 (fun n => rfl) H
  by_cases h5 : (G_140 N2 k 0 ((rI M 635 157) - 1)) = 0
  · rw [if_pos h5] at H
    have H : Ev none (e1 + 1) 215 51 [some (.ref 633), some (.int k), some (.int w)] [.int (-1)] N2 v M' 0 0 := Ev.back 1 (fun n => rfl) H
    obtain ⟨z1, z2⟩ := Ev.retz rfl rfl H
    subst eN2
    exact Or.inl ⟨h5, b3, z1, z2⟩
  · rw [if_neg h5] at H
    have H : Ev none (e1 + 1) 215 26 [some (.ref 633), some (.int k), some (.int w)] [.int 2, .int 0, .int w] N2 v M' 0 0 := Ev.back 3 (fun n => rfl) H
    obtain ⟨vK6, MK6, K6, H⟩ := Ev.callb (fun n => rfl) H
    obtain ⟨pK6, qK6⟩ := g_140 hN2 K6
    rw [pK6, qK6] at H
    have H : Ev none (e1 + 1) 215 29 [some (.ref 633), some (.int k), some (.int w)] [.int (G_140 N2 w 0 2)] N2 v M' 0 0 := H
    have H : Ev none (e1 + 1) 215 (if (G_140 N2 w 0 2) = 0 then 50 else 32) [some (.ref 633), some (.int k), some (.int w)] [] N2 v M' 0 0 := Ev.back 1 (fun n => rfl) H
    by_cases h7 : (G_140 N2 w 0 2) = 0
    · rw [if_pos h7] at H
      have H : Ev none (e1 + 1) 215 51 [some (.ref 633), some (.int k), some (.int w)] [.int (-1)] N2 v M' 0 0 := Ev.back 1 (fun n => rfl) H
      obtain ⟨z1, z2⟩ := Ev.retz rfl rfl H
      subst eN2
      exact Or.inr (Or.inl ⟨h5, h7, b3, z1, z2⟩)
    · rw [if_neg h7] at H
      have H : Ev none (e1 + 1) 215 33 [some (.ref 633), some (.int k), some (.int w)] [.ref 633] N2 v M' 0 0 := Ev.back 1 (fun n => rfl) H
      have H : Ev none (e1 + 1) 215 36 [some (.ref 633), some (.int k), some (.int w)] [.ref 635] N2 v M' 0 0 := Ev.back 1 (gs_3 rfl rfl (gf_u hN2.1 qa_633 qr_61_5 qu_63 rfl)) H
      have H : Ev none (e1 + 1) 215 46 [some (.ref 633), some (.int k), some (.int w)] [.int ((158 + (6 * k)) + w), .ref 635] N2 v M' 0 0 := Ev.back 7 (fun n => rfl) H
      obtain ⟨b8, H⟩ := Ev.ial rfl rfl hN2.1 qa_635 qw_63 H
      have H : Ev none (e1 + 1) 215 47 [some (.ref 633), some (.int k), some (.int w)] [.int (rI N2 635 ((158 + (6 * k)) + w))] N2 v M' 0 0 := H
      rw [show rI N2 635 ((158 + (6 * k)) + w) = rI M 635 ((158 + (6 * k)) + w) from by rw [eN2]; exact rN_wF] at H
      have H : Ev none (e1 + 1) 215 51 [some (.ref 633), some (.int k), some (.int w)] [.int (rI M 635 ((158 + (6 * k)) + w))] N2 v M' 0 0 := Ev.back 1 (fun n => rfl) H
      obtain ⟨z1, z2⟩ := Ev.retz rfl rfl H
      subst eN2
      exact Or.inr (Or.inr (⟨h5, h7, b3, b8, z1, z2⟩))
theorem rcn_0 {e : Nat} {M M' : Mem} {v : Option Value} {k : Int32} (hS : SQ M) (H : Ev none e 248 0 [some (.ref 633), some (.int k), none, none] [] M v M' 0 0) : Ev none e 248 9 [some (.ref 633), some (.int k), some (.int 0), some (.int 0)] [] (wF M 633 0 0) v M' 0 0 := by
  have H : Ev none e 248 2 [some (.ref 633), some (.int k), none, none] [.int 0, .ref 633] M v M' 0 0 := Ev.back 2 (fun n => rfl) H
  obtain ⟨N2, eN2⟩ : ∃ N, N = (wF M 633 0 0) := ⟨_, rfl⟩
  have hN2 : SQ N2 := by rw [eN2]; exact hS.kf
  have H : Ev none e 248 5 [some (.ref 633), some (.int k), none, none] [] N2 v M' 0 0 := by rw [eN2]; exact Ev.pfi rfl rfl rfl hS.1 qa_633 qi_61_0 H
  have H : Ev none e 248 9 [some (.ref 633), some (.int k), some (.int 0), some (.int 0)] [] N2 v M' 0 0 := Ev.back 4 (fun n => rfl) H
  have HF := H
  subst eN2
  exact HF
theorem rcn_9 {e : Nat} {M M' : Mem} {v : Option Value} {k n i : Int32} (hS : SQ M) (H : Ev none e 248 9 [some (.ref 633), some (.int k), some (.int n), some (.int i)] [] M v M' 0 0) : ((rI M 635 12) ≤ i ∧ (0 ≤ (12 : Int32).toInt ∧ (12 : Int32).toInt < 2314) ∧ Ev none e 248 43 [some (.ref 633), some (.int k), some (.int n), some (.int i)] [] M v M' 0 0) ∨ (¬ ((rI M 635 12) ≤ i) ∧ (0 ≤ (12 : Int32).toInt ∧ (12 : Int32).toInt < 2314) ∧ (0 ≤ ((13 + (6 * i)) + 5).toInt ∧ ((13 + (6 * i)) + 5).toInt < 2314) ∧ Ev none e 248 9 [some (.ref 633), some (.int k), some (.int (n + (rI M 635 ((13 + (6 * i)) + 5)))), some (.int (i + 1))] [] M v M' 0 0) := by
  have H : Ev none e 248 11 [some (.ref 633), some (.int k), some (.int n), some (.int i)] [.ref 633, .int i] M v M' 0 0 := Ev.back 2 (fun n => rfl) H
  have H : Ev none e 248 14 [some (.ref 633), some (.int k), some (.int n), some (.int i)] [.ref 635, .int i] M v M' 0 0 := Ev.back 1 (gs_3 rfl rfl (gf_u hS.1 qa_633 qr_61_5 qu_63 rfl)) H
  have H : Ev none e 248 16 [some (.ref 633), some (.int k), some (.int n), some (.int i)] [.int 12, .ref 635, .int i] M v M' 0 0 := Ev.back 1 (fun n => rfl) H
  obtain ⟨b1, H⟩ := Ev.ial rfl rfl hS.1 qa_635 qw_63 H
  have H : Ev none e 248 17 [some (.ref 633), some (.int k), some (.int n), some (.int i)] [.int (rI M 635 12), .int i] M v M' 0 0 := H
  have H : Ev none e 248 (if (rI M 635 12) ≤ i then 43 else 20) [some (.ref 633), some (.int k), some (.int n), some (.int i)] [] M v M' 0 0 := Ev.back 1 (fun n => rfl) H
  by_cases h2 : (rI M 635 12) ≤ i
  · rw [if_pos h2] at H
    have HF := H
    exact Or.inl ⟨h2, b1, HF⟩
  · rw [if_neg h2] at H
    have H : Ev none e 248 22 [some (.ref 633), some (.int k), some (.int n), some (.int i)] [.ref 633, .int n] M v M' 0 0 := Ev.back 2 (fun n => rfl) H
    have H : Ev none e 248 25 [some (.ref 633), some (.int k), some (.int n), some (.int i)] [.ref 635, .int n] M v M' 0 0 := Ev.back 1 (gs_3 rfl rfl (gf_u hS.1 qa_633 qr_61_5 qu_63 rfl)) H
    have H : Ev none e 248 34 [some (.ref 633), some (.int k), some (.int n), some (.int i)] [.int ((13 + (6 * i)) + 5), .ref 635, .int n] M v M' 0 0 := Ev.back 7 (fun n => rfl) H
    obtain ⟨b3, H⟩ := Ev.ial rfl rfl hS.1 qa_635 qw_63 H
    have H : Ev none e 248 35 [some (.ref 633), some (.int k), some (.int n), some (.int i)] [.int (rI M 635 ((13 + (6 * i)) + 5)), .int n] M v M' 0 0 := H
    have H : Ev none e 248 9 [some (.ref 633), some (.int k), some (.int (n + (rI M 635 ((13 + (6 * i)) + 5)))), some (.int (i + 1))] [] M v M' 0 0 := Ev.back 4 (fun n => rfl) H
    have HF := H
    exact Or.inr (⟨h2, b1, b3, HF⟩)
theorem rcn_43 {e : Nat} {M M' : Mem} {v : Option Value} {k n i : Int32} (hS : SQ M) (H : Ev none e 248 43 [some (.ref 633), some (.int k), some (.int n), some (.int i)] [] M v M' 0 0) : (k = 0 ∧ (0 ≤ (0 : Int32).toInt ∧ (0 : Int32).toInt < 2314) ∧ v = some (.int (rI M 635 0)) ∧ M' = M) ∨ (¬ (k = 0) ∧ k = 1 ∧ (0 ≤ (1 : Int32).toInt ∧ (1 : Int32).toInt < 2314) ∧ v = some (.int (rI M 635 1)) ∧ M' = M) ∨ (¬ (k = 0) ∧ ¬ (k = 1) ∧ k = 2 ∧ (0 ≤ (2 : Int32).toInt ∧ (2 : Int32).toInt < 2314) ∧ v = some (.int (rI M 635 2)) ∧ M' = M) ∨ (¬ (k = 0) ∧ ¬ (k = 1) ∧ ¬ (k = 2) ∧ k = 3 ∧ v = some (.int n) ∧ M' = M) ∨ (¬ (k = 0) ∧ ¬ (k = 1) ∧ ¬ (k = 2) ∧ ¬ (k = 3) ∧ k = 4 ∧ (0 ≤ (157 : Int32).toInt ∧ (157 : Int32).toInt < 2314) ∧ v = some (.int (rI M 635 157)) ∧ M' = M) ∨ (¬ (k = 0) ∧ ¬ (k = 1) ∧ ¬ (k = 2) ∧ ¬ (k = 3) ∧ ¬ (k = 4) ∧ k = 5 ∧ (0 ≤ (518 : Int32).toInt ∧ (518 : Int32).toInt < 2314) ∧ v = some (.int (rI M 635 518)) ∧ M' = M) ∨ (¬ (k = 0) ∧ ¬ (k = 1) ∧ ¬ (k = 2) ∧ ¬ (k = 3) ∧ ¬ (k = 4) ∧ ¬ (k = 5) ∧ k = 6 ∧ (0 ≤ (519 : Int32).toInt ∧ (519 : Int32).toInt < 2314) ∧ v = some (.int (rI M 635 519)) ∧ M' = M) ∨ (¬ (k = 0) ∧ ¬ (k = 1) ∧ ¬ (k = 2) ∧ ¬ (k = 3) ∧ ¬ (k = 4) ∧ ¬ (k = 5) ∧ ¬ (k = 6) ∧ k = 7 ∧ (0 ≤ (520 : Int32).toInt ∧ (520 : Int32).toInt < 2314) ∧ v = some (.int (rI M 635 520)) ∧ M' = M) ∨ (¬ (k = 0) ∧ ¬ (k = 1) ∧ ¬ (k = 2) ∧ ¬ (k = 3) ∧ ¬ (k = 4) ∧ ¬ (k = 5) ∧ ¬ (k = 6) ∧ ¬ (k = 7) ∧ k = 8 ∧ (0 ≤ (521 : Int32).toInt ∧ (521 : Int32).toInt < 2314) ∧ v = some (.int (rI M 635 521)) ∧ M' = M) ∨ (¬ (k = 0) ∧ ¬ (k = 1) ∧ ¬ (k = 2) ∧ ¬ (k = 3) ∧ ¬ (k = 4) ∧ ¬ (k = 5) ∧ ¬ (k = 6) ∧ ¬ (k = 7) ∧ ¬ (k = 8) ∧ k = 9 ∧ v = some (.int (zI M 633 2)) ∧ M' = M) ∨ (¬ (k = 0) ∧ ¬ (k = 1) ∧ ¬ (k = 2) ∧ ¬ (k = 3) ∧ ¬ (k = 4) ∧ ¬ (k = 5) ∧ ¬ (k = 6) ∧ ¬ (k = 7) ∧ ¬ (k = 8) ∧ ¬ (k = 9) ∧ v = some (.int (-1)) ∧ M' = M) := by
  have H : Ev none e 248 44 [some (.ref 633), some (.int k), some (.int n), some (.int i)] [.int k] M v M' 0 0 := Ev.back 1 (fun n => rfl) H
  by_cases h1 : k = 0
  · have H : Ev none e 248 100 [some (.ref 633), some (.int k), some (.int n), some (.int i)] [] M v M' 0 0 := Ev.back 1 (by rw [h1]; exact fun n => rfl) H
    have H : Ev none e 248 101 [some (.ref 633), some (.int k), some (.int n), some (.int i)] [.ref 633] M v M' 0 0 := Ev.back 1 (fun n => rfl) H
    have H : Ev none e 248 104 [some (.ref 633), some (.int k), some (.int n), some (.int i)] [.ref 635] M v M' 0 0 := Ev.back 1 (gs_3 rfl rfl (gf_u hS.1 qa_633 qr_61_5 qu_63 rfl)) H
    have H : Ev none e 248 105 [some (.ref 633), some (.int k), some (.int n), some (.int i)] [.int 0, .ref 635] M v M' 0 0 := Ev.back 1 (fun n => rfl) H
    obtain ⟨b2, H⟩ := Ev.ial rfl rfl hS.1 qa_635 qw_63 H
    have H : Ev none e 248 106 [some (.ref 633), some (.int k), some (.int n), some (.int i)] [.int (rI M 635 0)] M v M' 0 0 := H
    obtain ⟨z1, z2⟩ := Ev.retz rfl rfl H
    exact Or.inl ⟨h1, b2, z1, z2⟩
  · by_cases h3 : k = 1
    · have H : Ev none e 248 107 [some (.ref 633), some (.int k), some (.int n), some (.int i)] [] M v M' 0 0 := Ev.back 1 (by rw [h3]; exact fun n => rfl) H
      have H : Ev none e 248 108 [some (.ref 633), some (.int k), some (.int n), some (.int i)] [.ref 633] M v M' 0 0 := Ev.back 1 (fun n => rfl) H
      have H : Ev none e 248 111 [some (.ref 633), some (.int k), some (.int n), some (.int i)] [.ref 635] M v M' 0 0 := Ev.back 1 (gs_3 rfl rfl (gf_u hS.1 qa_633 qr_61_5 qu_63 rfl)) H
      have H : Ev none e 248 112 [some (.ref 633), some (.int k), some (.int n), some (.int i)] [.int 1, .ref 635] M v M' 0 0 := Ev.back 1 (fun n => rfl) H
      obtain ⟨b4, H⟩ := Ev.ial rfl rfl hS.1 qa_635 qw_63 H
      have H : Ev none e 248 113 [some (.ref 633), some (.int k), some (.int n), some (.int i)] [.int (rI M 635 1)] M v M' 0 0 := H
      obtain ⟨z1, z2⟩ := Ev.retz rfl rfl H
      exact Or.inr (Or.inl ⟨h1, h3, b4, z1, z2⟩)
    · by_cases h5 : k = 2
      · have H : Ev none e 248 114 [some (.ref 633), some (.int k), some (.int n), some (.int i)] [] M v M' 0 0 := Ev.back 1 (by rw [h5]; exact fun n => rfl) H
        have H : Ev none e 248 115 [some (.ref 633), some (.int k), some (.int n), some (.int i)] [.ref 633] M v M' 0 0 := Ev.back 1 (fun n => rfl) H
        have H : Ev none e 248 118 [some (.ref 633), some (.int k), some (.int n), some (.int i)] [.ref 635] M v M' 0 0 := Ev.back 1 (gs_3 rfl rfl (gf_u hS.1 qa_633 qr_61_5 qu_63 rfl)) H
        have H : Ev none e 248 119 [some (.ref 633), some (.int k), some (.int n), some (.int i)] [.int 2, .ref 635] M v M' 0 0 := Ev.back 1 (fun n => rfl) H
        obtain ⟨b6, H⟩ := Ev.ial rfl rfl hS.1 qa_635 qw_63 H
        have H : Ev none e 248 120 [some (.ref 633), some (.int k), some (.int n), some (.int i)] [.int (rI M 635 2)] M v M' 0 0 := H
        obtain ⟨z1, z2⟩ := Ev.retz rfl rfl H
        exact Or.inr (Or.inr (Or.inl ⟨h1, h3, h5, b6, z1, z2⟩))
      · by_cases h7 : k = 3
        · have H : Ev none e 248 121 [some (.ref 633), some (.int k), some (.int n), some (.int i)] [] M v M' 0 0 := Ev.back 1 (by rw [h7]; exact fun n => rfl) H
          have H : Ev none e 248 122 [some (.ref 633), some (.int k), some (.int n), some (.int i)] [.int n] M v M' 0 0 := Ev.back 1 (fun n => rfl) H
          obtain ⟨z1, z2⟩ := Ev.retz rfl rfl H
          exact Or.inr (Or.inr (Or.inr (Or.inl ⟨h1, h3, h5, h7, z1, z2⟩)))
        · by_cases h8 : k = 4
          · have H : Ev none e 248 123 [some (.ref 633), some (.int k), some (.int n), some (.int i)] [] M v M' 0 0 := Ev.back 1 (by rw [h8]; exact fun n => rfl) H
            have H : Ev none e 248 124 [some (.ref 633), some (.int k), some (.int n), some (.int i)] [.ref 633] M v M' 0 0 := Ev.back 1 (fun n => rfl) H
            have H : Ev none e 248 127 [some (.ref 633), some (.int k), some (.int n), some (.int i)] [.ref 635] M v M' 0 0 := Ev.back 1 (gs_3 rfl rfl (gf_u hS.1 qa_633 qr_61_5 qu_63 rfl)) H
            have H : Ev none e 248 130 [some (.ref 633), some (.int k), some (.int n), some (.int i)] [.int 157, .ref 635] M v M' 0 0 := Ev.back 1 (fun n => rfl) H
            obtain ⟨b9, H⟩ := Ev.ial rfl rfl hS.1 qa_635 qw_63 H
            have H : Ev none e 248 131 [some (.ref 633), some (.int k), some (.int n), some (.int i)] [.int (rI M 635 157)] M v M' 0 0 := H
            obtain ⟨z1, z2⟩ := Ev.retz rfl rfl H
            exact Or.inr (Or.inr (Or.inr (Or.inr (Or.inl ⟨h1, h3, h5, h7, h8, b9, z1, z2⟩))))
          · by_cases h10 : k = 5
            · have H : Ev none e 248 132 [some (.ref 633), some (.int k), some (.int n), some (.int i)] [] M v M' 0 0 := Ev.back 1 (by rw [h10]; exact fun n => rfl) H
              have H : Ev none e 248 133 [some (.ref 633), some (.int k), some (.int n), some (.int i)] [.ref 633] M v M' 0 0 := Ev.back 1 (fun n => rfl) H
              have H : Ev none e 248 136 [some (.ref 633), some (.int k), some (.int n), some (.int i)] [.ref 635] M v M' 0 0 := Ev.back 1 (gs_3 rfl rfl (gf_u hS.1 qa_633 qr_61_5 qu_63 rfl)) H
              have H : Ev none e 248 139 [some (.ref 633), some (.int k), some (.int n), some (.int i)] [.int 518, .ref 635] M v M' 0 0 := Ev.back 1 (fun n => rfl) H
              obtain ⟨b11, H⟩ := Ev.ial rfl rfl hS.1 qa_635 qw_63 H
              have H : Ev none e 248 140 [some (.ref 633), some (.int k), some (.int n), some (.int i)] [.int (rI M 635 518)] M v M' 0 0 := H
              obtain ⟨z1, z2⟩ := Ev.retz rfl rfl H
              exact Or.inr (Or.inr (Or.inr (Or.inr (Or.inr (Or.inl ⟨h1, h3, h5, h7, h8, h10, b11, z1, z2⟩)))))
            · by_cases h12 : k = 6
              · have H : Ev none e 248 141 [some (.ref 633), some (.int k), some (.int n), some (.int i)] [] M v M' 0 0 := Ev.back 1 (by rw [h12]; exact fun n => rfl) H
                have H : Ev none e 248 142 [some (.ref 633), some (.int k), some (.int n), some (.int i)] [.ref 633] M v M' 0 0 := Ev.back 1 (fun n => rfl) H
                have H : Ev none e 248 145 [some (.ref 633), some (.int k), some (.int n), some (.int i)] [.ref 635] M v M' 0 0 := Ev.back 1 (gs_3 rfl rfl (gf_u hS.1 qa_633 qr_61_5 qu_63 rfl)) H
                have H : Ev none e 248 148 [some (.ref 633), some (.int k), some (.int n), some (.int i)] [.int 519, .ref 635] M v M' 0 0 := Ev.back 1 (fun n => rfl) H
                obtain ⟨b13, H⟩ := Ev.ial rfl rfl hS.1 qa_635 qw_63 H
                have H : Ev none e 248 149 [some (.ref 633), some (.int k), some (.int n), some (.int i)] [.int (rI M 635 519)] M v M' 0 0 := H
                obtain ⟨z1, z2⟩ := Ev.retz rfl rfl H
                exact Or.inr (Or.inr (Or.inr (Or.inr (Or.inr (Or.inr (Or.inl ⟨h1, h3, h5, h7, h8, h10, h12, b13, z1, z2⟩))))))
              · by_cases h14 : k = 7
                · have H : Ev none e 248 150 [some (.ref 633), some (.int k), some (.int n), some (.int i)] [] M v M' 0 0 := Ev.back 1 (by rw [h14]; exact fun n => rfl) H
                  have H : Ev none e 248 151 [some (.ref 633), some (.int k), some (.int n), some (.int i)] [.ref 633] M v M' 0 0 := Ev.back 1 (fun n => rfl) H
                  have H : Ev none e 248 154 [some (.ref 633), some (.int k), some (.int n), some (.int i)] [.ref 635] M v M' 0 0 := Ev.back 1 (gs_3 rfl rfl (gf_u hS.1 qa_633 qr_61_5 qu_63 rfl)) H
                  have H : Ev none e 248 157 [some (.ref 633), some (.int k), some (.int n), some (.int i)] [.int 520, .ref 635] M v M' 0 0 := Ev.back 1 (fun n => rfl) H
                  obtain ⟨b15, H⟩ := Ev.ial rfl rfl hS.1 qa_635 qw_63 H
                  have H : Ev none e 248 158 [some (.ref 633), some (.int k), some (.int n), some (.int i)] [.int (rI M 635 520)] M v M' 0 0 := H
                  obtain ⟨z1, z2⟩ := Ev.retz rfl rfl H
                  exact Or.inr (Or.inr (Or.inr (Or.inr (Or.inr (Or.inr (Or.inr (Or.inl ⟨h1, h3, h5, h7, h8, h10, h12, h14, b15, z1, z2⟩)))))))
                · by_cases h16 : k = 8
                  · have H : Ev none e 248 159 [some (.ref 633), some (.int k), some (.int n), some (.int i)] [] M v M' 0 0 := Ev.back 1 (by rw [h16]; exact fun n => rfl) H
                    have H : Ev none e 248 160 [some (.ref 633), some (.int k), some (.int n), some (.int i)] [.ref 633] M v M' 0 0 := Ev.back 1 (fun n => rfl) H
                    have H : Ev none e 248 163 [some (.ref 633), some (.int k), some (.int n), some (.int i)] [.ref 635] M v M' 0 0 := Ev.back 1 (gs_3 rfl rfl (gf_u hS.1 qa_633 qr_61_5 qu_63 rfl)) H
                    have H : Ev none e 248 166 [some (.ref 633), some (.int k), some (.int n), some (.int i)] [.int 521, .ref 635] M v M' 0 0 := Ev.back 1 (fun n => rfl) H
                    obtain ⟨b17, H⟩ := Ev.ial rfl rfl hS.1 qa_635 qw_63 H
                    have H : Ev none e 248 167 [some (.ref 633), some (.int k), some (.int n), some (.int i)] [.int (rI M 635 521)] M v M' 0 0 := H
                    obtain ⟨z1, z2⟩ := Ev.retz rfl rfl H
                    exact Or.inr (Or.inr (Or.inr (Or.inr (Or.inr (Or.inr (Or.inr (Or.inr (Or.inl ⟨h1, h3, h5, h7, h8, h10, h12, h14, h16, b17, z1, z2⟩))))))))
                  · by_cases h18 : k = 9
                    · have H : Ev none e 248 168 [some (.ref 633), some (.int k), some (.int n), some (.int i)] [] M v M' 0 0 := Ev.back 1 (by rw [h18]; exact fun n => rfl) H
                      have H : Ev none e 248 169 [some (.ref 633), some (.int k), some (.int n), some (.int i)] [.ref 633] M v M' 0 0 := Ev.back 1 (fun n => rfl) H
                      have H : Ev none e 248 172 [some (.ref 633), some (.int k), some (.int n), some (.int i)] [.int (zI M 633 2)] M v M' 0 0 := Ev.back 1 (gs_3 rfl rfl (gf_i hS.1 qa_633 qi_61_2 rfl)) H
                      obtain ⟨z1, z2⟩ := Ev.retz rfl rfl H
                      exact Or.inr (Or.inr (Or.inr (Or.inr (Or.inr (Or.inr (Or.inr (Or.inr (Or.inr (Or.inl ⟨h1, h3, h5, h7, h8, h10, h12, h14, h16, h18, z1, z2⟩)))))))))
                    · have H : Ev none e 248 (if k.toInt < 0 ∨ 9 < k.toInt then gT 44 129 else gT 44 (([56, 63, 70, 77, 79, 88, 97, 106, 115, 124] : List Int).getD (k.toInt - 0).toNat 0)) [some (.ref 633), some (.int k), some (.int n), some (.int i)] [] M v M' 0 0 := Ev.back 1 (fun n => rfl) H
                      have qh1 : k.toInt ≠ 0 := fun q => h1 (Int32.toInt_inj.mp q)
                      have qh3 : k.toInt ≠ 1 := fun q => h3 (Int32.toInt_inj.mp q)
                      have qh5 : k.toInt ≠ 2 := fun q => h5 (Int32.toInt_inj.mp q)
                      have qh7 : k.toInt ≠ 3 := fun q => h7 (Int32.toInt_inj.mp q)
                      have qh8 : k.toInt ≠ 4 := fun q => h8 (Int32.toInt_inj.mp q)
                      have qh10 : k.toInt ≠ 5 := fun q => h10 (Int32.toInt_inj.mp q)
                      have qh12 : k.toInt ≠ 6 := fun q => h12 (Int32.toInt_inj.mp q)
                      have qh14 : k.toInt ≠ 7 := fun q => h14 (Int32.toInt_inj.mp q)
                      have qh16 : k.toInt ≠ 8 := fun q => h16 (Int32.toInt_inj.mp q)
                      have qh18 : k.toInt ≠ 9 := fun q => h18 (Int32.toInt_inj.mp q)
                      rw [if_pos (show k.toInt < 0 ∨ 9 < k.toInt from by omega)] at H
                      have H : Ev none e 248 173 [some (.ref 633), some (.int k), some (.int n), some (.int i)] [] M v M' 0 0 := H
                      have H : Ev none e 248 174 [some (.ref 633), some (.int k), some (.int n), some (.int i)] [.int (-1)] M v M' 0 0 := Ev.back 1 (fun n => rfl) H
                      obtain ⟨z1, z2⟩ := Ev.retz rfl rfl H
                      exact Or.inr (Or.inr (Or.inr (Or.inr (Or.inr (Or.inr (Or.inr (Or.inr (Or.inr (Or.inr (⟨h1, h3, h5, h7, h8, h10, h12, h14, h16, h18, z1, z2⟩))))))))))
theorem rfA_0 {e : Nat} {M M' : Mem} {v : Option Value} {k : Int32} (hS : SQ M) (H : Ev none e 236 0 [some (.ref 633), some (.int k)] [] M v M' 0 0) : ((G_140 (wF M 633 0 0) k 0 ((zI M 633 53) - 1)) = 0 ∧ v = some (.int (-1)) ∧ M' = (wF M 633 0 0)) ∨ (¬ ((G_140 (wF M 633 0 0) k 0 ((zI M 633 53) - 1)) = 0) ∧ (0 ≤ k.toInt ∧ k.toInt < 2) ∧ v = some (.int (rI M 656 k)) ∧ M' = (wF M 633 0 0)) := by
  have H : Ev none e 236 2 [some (.ref 633), some (.int k)] [.int 0, .ref 633] M v M' 0 0 := Ev.back 2 (fun n => rfl) H
  obtain ⟨N2, eN2⟩ : ∃ N, N = (wF M 633 0 0) := ⟨_, rfl⟩
  have hN2 : SQ N2 := by rw [eN2]; exact hS.kf
  have H : Ev none e 236 5 [some (.ref 633), some (.int k)] [] N2 v M' 0 0 := by rw [eN2]; exact Ev.pfi rfl rfl rfl hS.1 qa_633 qi_61_0 H
  have H : Ev none e 236 8 [some (.ref 633), some (.int k)] [.ref 633, .int 0, .int k] N2 v M' 0 0 := Ev.back 3 (fun n => rfl) H
  have H : Ev none e 236 11 [some (.ref 633), some (.int k)] [.int (zI N2 633 53), .int 0, .int k] N2 v M' 0 0 := Ev.back 1 (gs_3 rfl rfl (gf_i hN2.1 qa_633 qi_61_53 rfl)) H
  rw [show zI N2 633 53 = zI M 633 53 from by rw [eN2]; exact fI_wF_ne (fun q => absurd q.2 (by decide))] at H
  have H : Ev none e 236 13 [some (.ref 633), some (.int k)] [.int ((zI M 633 53) - 1), .int 0, .int k] N2 v M' 0 0 := Ev.back 2 (fun n => rfl) H
  obtain ⟨e1, rfl⟩ := Ev.dpos rfl rfl H
  obtain ⟨vK3, MK3, K3, H⟩ := Ev.callb (fun n => rfl) H
  obtain ⟨pK3, qK3⟩ := g_140 hN2 K3
  rw [pK3, qK3] at H
  have H : Ev none (e1 + 1) 236 16 [some (.ref 633), some (.int k)] [.int (G_140 N2 k 0 ((zI M 633 53) - 1))] N2 v M' 0 0 := H
  have H : Ev none (e1 + 1) 236 (if (G_140 N2 k 0 ((zI M 633 53) - 1)) = 0 then 28 else 19) [some (.ref 633), some (.int k)] [] N2 v M' 0 0 := Ev.back 1 (fun n => rfl) H
  by_cases h4 : (G_140 N2 k 0 ((zI M 633 53) - 1)) = 0
  · rw [if_pos h4] at H
    have H : Ev none (e1 + 1) 236 29 [some (.ref 633), some (.int k)] [.int (-1)] N2 v M' 0 0 := Ev.back 1 (fun n => rfl) H
    obtain ⟨z1, z2⟩ := Ev.retz rfl rfl H
    subst eN2
    exact Or.inl ⟨h4, z1, z2⟩
  · rw [if_neg h4] at H
    have H : Ev none (e1 + 1) 236 20 [some (.ref 633), some (.int k)] [.ref 633] N2 v M' 0 0 := Ev.back 1 (fun n => rfl) H
    have H : Ev none (e1 + 1) 236 23 [some (.ref 633), some (.int k)] [.ref 656] N2 v M' 0 0 := Ev.back 1 (gs_3 rfl rfl (gf_u hN2.1 qa_633 qr_61_52 qu_84 rfl)) H
    have H : Ev none (e1 + 1) 236 24 [some (.ref 633), some (.int k)] [.int k, .ref 656] N2 v M' 0 0 := Ev.back 1 (fun n => rfl) H
    obtain ⟨b5, H⟩ := Ev.ial rfl rfl hN2.1 qa_656 qw_84 H
    have H : Ev none (e1 + 1) 236 25 [some (.ref 633), some (.int k)] [.int (rI N2 656 k)] N2 v M' 0 0 := H
    rw [show rI N2 656 k = rI M 656 k from by rw [eN2]; exact rN_wF] at H
    have H : Ev none (e1 + 1) 236 29 [some (.ref 633), some (.int k)] [.int (rI M 656 k)] N2 v M' 0 0 := Ev.back 1 (fun n => rfl) H
    obtain ⟨z1, z2⟩ := Ev.retz rfl rfl H
    subst eN2
    exact Or.inr (⟨h4, b5, z1, z2⟩)
theorem rwA_0 {e : Nat} {M M' : Mem} {v : Option Value} {k : Int32} (hS : SQ M) (H : Ev none e 241 0 [some (.ref 633), some (.int k)] [] M v M' 0 0) : ((G_140 (wF M 633 0 0) k 0 ((zI M 633 61) - 1)) = 0 ∧ v = some (.int (-1)) ∧ M' = (wF M 633 0 0)) ∨ (¬ ((G_140 (wF M 633 0 0) k 0 ((zI M 633 61) - 1)) = 0) ∧ (0 ≤ k.toInt ∧ k.toInt < 201) ∧ v = some (.int (rI M 658 k)) ∧ M' = (wF M 633 0 0)) := by
  have H : Ev none e 241 2 [some (.ref 633), some (.int k)] [.int 0, .ref 633] M v M' 0 0 := Ev.back 2 (fun n => rfl) H
  obtain ⟨N2, eN2⟩ : ∃ N, N = (wF M 633 0 0) := ⟨_, rfl⟩
  have hN2 : SQ N2 := by rw [eN2]; exact hS.kf
  have H : Ev none e 241 5 [some (.ref 633), some (.int k)] [] N2 v M' 0 0 := by rw [eN2]; exact Ev.pfi rfl rfl rfl hS.1 qa_633 qi_61_0 H
  have H : Ev none e 241 8 [some (.ref 633), some (.int k)] [.ref 633, .int 0, .int k] N2 v M' 0 0 := Ev.back 3 (fun n => rfl) H
  have H : Ev none e 241 11 [some (.ref 633), some (.int k)] [.int (zI N2 633 61), .int 0, .int k] N2 v M' 0 0 := Ev.back 1 (gs_3 rfl rfl (gf_i hN2.1 qa_633 qi_61_61 rfl)) H
  rw [show zI N2 633 61 = zI M 633 61 from by rw [eN2]; exact fI_wF_ne (fun q => absurd q.2 (by decide))] at H
  have H : Ev none e 241 13 [some (.ref 633), some (.int k)] [.int ((zI M 633 61) - 1), .int 0, .int k] N2 v M' 0 0 := Ev.back 2 (fun n => rfl) H
  obtain ⟨e1, rfl⟩ := Ev.dpos rfl rfl H
  obtain ⟨vK3, MK3, K3, H⟩ := Ev.callb (fun n => rfl) H
  obtain ⟨pK3, qK3⟩ := g_140 hN2 K3
  rw [pK3, qK3] at H
  have H : Ev none (e1 + 1) 241 16 [some (.ref 633), some (.int k)] [.int (G_140 N2 k 0 ((zI M 633 61) - 1))] N2 v M' 0 0 := H
  have H : Ev none (e1 + 1) 241 (if (G_140 N2 k 0 ((zI M 633 61) - 1)) = 0 then 28 else 19) [some (.ref 633), some (.int k)] [] N2 v M' 0 0 := Ev.back 1 (fun n => rfl) H
  by_cases h4 : (G_140 N2 k 0 ((zI M 633 61) - 1)) = 0
  · rw [if_pos h4] at H
    have H : Ev none (e1 + 1) 241 29 [some (.ref 633), some (.int k)] [.int (-1)] N2 v M' 0 0 := Ev.back 1 (fun n => rfl) H
    obtain ⟨z1, z2⟩ := Ev.retz rfl rfl H
    subst eN2
    exact Or.inl ⟨h4, z1, z2⟩
  · rw [if_neg h4] at H
    have H : Ev none (e1 + 1) 241 20 [some (.ref 633), some (.int k)] [.ref 633] N2 v M' 0 0 := Ev.back 1 (fun n => rfl) H
    have H : Ev none (e1 + 1) 241 23 [some (.ref 633), some (.int k)] [.ref 658] N2 v M' 0 0 := Ev.back 1 (gs_3 rfl rfl (gf_u hN2.1 qa_633 qr_61_55 qu_86 rfl)) H
    have H : Ev none (e1 + 1) 241 24 [some (.ref 633), some (.int k)] [.int k, .ref 658] N2 v M' 0 0 := Ev.back 1 (fun n => rfl) H
    obtain ⟨b5, H⟩ := Ev.ial rfl rfl hN2.1 qa_658 qw_86 H
    have H : Ev none (e1 + 1) 241 25 [some (.ref 633), some (.int k)] [.int (rI N2 658 k)] N2 v M' 0 0 := H
    rw [show rI N2 658 k = rI M 658 k from by rw [eN2]; exact rN_wF] at H
    have H : Ev none (e1 + 1) 241 29 [some (.ref 633), some (.int k)] [.int (rI M 658 k)] N2 v M' 0 0 := Ev.back 1 (fun n => rfl) H
    obtain ⟨z1, z2⟩ := Ev.retz rfl rfl H
    subst eN2
    exact Or.inr (⟨h4, b5, z1, z2⟩)
theorem rce_0 {e : Nat} {M M' : Mem} {v : Option Value} {c k : Int32} (hS : SQ M) (H : Ev none e 214 0 [some (.ref 633), some (.int c), some (.int k)] [] M v M' 0 0) : ((G_145 M c) = 0 ∧ (∃ e1 v1 M1, e = e1 + 1 ∧ Ev none e1 135 0 [some (.ref 633), some (.int 1)] [] M v1 M1 0 0 ∧ Ev none e 214 27 [some (.ref 633), some (.int c), some (.int k)] (v1.toList ++ []) M1 v M' 0 0)) ∨ (¬ ((G_145 M c) = 0) ∧ (G_140 M k 0 8) = 0 ∧ (∃ e1 v1 M1, e = e1 + 1 ∧ Ev none e1 135 0 [some (.ref 633), some (.int 1)] [] M v1 M1 0 0 ∧ Ev none e 214 27 [some (.ref 633), some (.int c), some (.int k)] (v1.toList ++ []) M1 v M' 0 0)) ∨ (¬ ((G_145 M c) = 0) ∧ ¬ ((G_140 M k 0 8) = 0) ∧ (∃ e1 v1 M1, e = e1 + 1 ∧ Ev none e1 135 0 [some (.ref 633), some (.int 0)] [] M v1 M1 0 0 ∧ Ev none e 214 27 [some (.ref 633), some (.int c), some (.int k)] (v1.toList ++ []) M1 v M' 0 0)) := by
  have H : Ev none e 214 3 [some (.ref 633), some (.int c), some (.int k)] [.int c, .ref 633, .ref 633] M v M' 0 0 := Ev.back 3 (fun n => rfl) H
  obtain ⟨e1, rfl⟩ := Ev.dpos rfl rfl H
  obtain ⟨vK1, MK1, K1, H⟩ := Ev.callb (fun n_ => gs_7 rfl rfl (show gCal (.invokevirtual 155) 11 (.int c :: .ref 633 :: [.ref 633]) M = some (.inr (145, [some (.ref 633), some (.int c)], [.ref 633])) from by show @cond (Option ((List Value × Mem) ⊕ (Nat × Lo × List Value))) (true && gRecv M (.ref 633) 11 && gRoom [.ref 633] && true) (some (.inr (145, [some (.ref 633), some (.int c)], [.ref 633]))) none = _; rw [recv_s hS.1 qa_633 qo_61]; rfl)) H
  obtain ⟨pK1, qK1⟩ := g_145 hS K1
  rw [pK1, qK1] at H
  have H : Ev none (e1 + 1) 214 6 [some (.ref 633), some (.int c), some (.int k)] [.int (G_145 M c), .ref 633] M v M' 0 0 := H
  have H : Ev none (e1 + 1) 214 (if (G_145 M c) = 0 then 19 else 9) [some (.ref 633), some (.int c), some (.int k)] [.ref 633] M v M' 0 0 := Ev.back 1 (fun n => rfl) H
  by_cases h2 : (G_145 M c) = 0
  · rw [if_pos h2] at H
    have H : Ev none (e1 + 1) 214 24 [some (.ref 633), some (.int c), some (.int k)] [.int 1, .ref 633] M v M' 0 0 := Ev.back 2 (fun n => rfl) H
    obtain ⟨vK3, MK3, K3, H⟩ := Ev.callb (fun n_ => gs_7 rfl rfl (show gCal (.invokevirtual 439) 11 (.int 1 :: .ref 633 :: []) M = some (.inr (135, [some (.ref 633), some (.int 1)], [])) from by show @cond (Option ((List Value × Mem) ⊕ (Nat × Lo × List Value))) (true && gRecv M (.ref 633) 11 && gRoom [] && true) (some (.inr (135, [some (.ref 633), some (.int 1)], []))) none = _; rw [recv_s hS.1 qa_633 qo_61]; rfl)) H
    have K3 : Ev none e1 135 0 [some (.ref 633), some (.int 1)] [] M vK3 MK3 0 0 := K3
    have HF := H
    exact Or.inl ⟨h2, ⟨e1, vK3, MK3, rfl, K3, HF⟩⟩
  · rw [if_neg h2] at H
    have H : Ev none (e1 + 1) 214 13 [some (.ref 633), some (.int c), some (.int k)] [.int 8, .int 0, .int k, .ref 633] M v M' 0 0 := Ev.back 3 (fun n => rfl) H
    obtain ⟨vK4, MK4, K4, H⟩ := Ev.callb (fun n => rfl) H
    obtain ⟨pK4, qK4⟩ := g_140 hS K4
    rw [pK4, qK4] at H
    have H : Ev none (e1 + 1) 214 16 [some (.ref 633), some (.int c), some (.int k)] [.int (G_140 M k 0 8), .ref 633] M v M' 0 0 := H
    have H : Ev none (e1 + 1) 214 (if (G_140 M k 0 8) = 0 then 19 else 23) [some (.ref 633), some (.int c), some (.int k)] [.ref 633] M v M' 0 0 := Ev.back 1 (fun n => rfl) H
    by_cases h5 : (G_140 M k 0 8) = 0
    · rw [if_pos h5] at H
      have H : Ev none (e1 + 1) 214 24 [some (.ref 633), some (.int c), some (.int k)] [.int 1, .ref 633] M v M' 0 0 := Ev.back 2 (fun n => rfl) H
      obtain ⟨vK6, MK6, K6, H⟩ := Ev.callb (fun n_ => gs_7 rfl rfl (show gCal (.invokevirtual 439) 11 (.int 1 :: .ref 633 :: []) M = some (.inr (135, [some (.ref 633), some (.int 1)], [])) from by show @cond (Option ((List Value × Mem) ⊕ (Nat × Lo × List Value))) (true && gRecv M (.ref 633) 11 && gRoom [] && true) (some (.inr (135, [some (.ref 633), some (.int 1)], []))) none = _; rw [recv_s hS.1 qa_633 qo_61]; rfl)) H
      have K6 : Ev none e1 135 0 [some (.ref 633), some (.int 1)] [] M vK6 MK6 0 0 := K6
      have HF := H
      exact Or.inr (Or.inl ⟨h2, h5, ⟨e1, vK6, MK6, rfl, K6, HF⟩⟩)
    · rw [if_neg h5] at H
      have H : Ev none (e1 + 1) 214 24 [some (.ref 633), some (.int c), some (.int k)] [.int 0, .ref 633] M v M' 0 0 := Ev.back 1 (fun n => rfl) H
      obtain ⟨vK7, MK7, K7, H⟩ := Ev.callb (fun n_ => gs_7 rfl rfl (show gCal (.invokevirtual 439) 11 (.int 0 :: .ref 633 :: []) M = some (.inr (135, [some (.ref 633), some (.int 0)], [])) from by show @cond (Option ((List Value × Mem) ⊕ (Nat × Lo × List Value))) (true && gRecv M (.ref 633) 11 && gRoom [] && true) (some (.inr (135, [some (.ref 633), some (.int 0)], []))) none = _; rw [recv_s hS.1 qa_633 qo_61]; rfl)) H
      have K7 : Ev none e1 135 0 [some (.ref 633), some (.int 0)] [] M vK7 MK7 0 0 := K7
      have HF := H
      exact Or.inr (Or.inr (⟨h2, h5, ⟨e1, vK7, MK7, rfl, K7, HF⟩⟩))
/-! WALKER and COUNT of both sides -/
noncomputable def walA (P : PK) (k w : Int32) : Int32 := if ((0 : Int32).toInt ≤ k.toInt ∧ k.toInt ≤ (P 157 - 1).toInt) ∧ ((0 : Int32).toInt ≤ w.toInt ∧ w.toInt ≤ (2 : Int32).toInt) then P (158 + 6 * k.toInt.toNat + w.toInt.toNat) else -1
noncomputable def isN (P : PK) : Nat → Nat → Int32 → Int32
  | 0, _, n => n
  | r + 1, i, n => isN P r (i + 1) (n + P (13 + 6 * i + 5))
noncomputable def couA (P : PK) (z k : Int32) : Int32 := if k = 0 then P 0 else if k = 1 then P 1 else if k = 2 then P 2 else if k = 3 then isN P (P 12).toInt.toNat 0 0 else if k = 4 then P 157 else if k = 5 then P 518 else if k = 6 then P 519 else if k = 7 then P 520 else if k = 8 then P 521 else if k = 9 then z else -1
section OBAN
variable {e n i j : Nat} {T : TS} {P : PK} {PI : Nat → PK} {M M1 M' : Mem} {v : Option Value} {k w x c nz iz : Int32}
theorem walk_ok (hC : CST T P PI M) (H : Ev none e 96 0 [some (.ref 0), some (.int k), some (.int w), none] [] M v M' 0 0) : v = some (.int (walA P k w)) ∧ CST T P PI M' := by
  have hA := hC.lan
  have e15 : zI M 8 15 = P 157 := hA.2.2.2.1.1
  have k60 := hC.ok.k60
  have k0 := hC.ok.2.1.1
  have m1 : (P 157 - 1).toInt = (P 157).toInt - 1 := i32_m1 (by omega)
  have t0 : (0 : Int32).toInt = 0 := rfl
  have wf : inX k 0 (P 157 - 1) → WFq (oI M (8 + 11) k) P k.toInt.toNat M := fun q => by
    have q0 := q.1
    have q1 := q.2
    have e : oI M (8 + 11) k = oN M (8 + 11) k.toInt.toNat := by
      unfold oI
      rw [cl_n (show k.toInt = ((k.toInt.toNat : Nat) : Int) by omega)]
    rw [e]
    exact hA.2.2.2.1.2 k.toInt.toNat (by omega)
  unfold walA
  rcases wkr_0 hC.sq hC.ld H with ⟨a1, r1, r2⟩ | ⟨a1, a2, _, r1, r2⟩ | ⟨a1, _, a2, _, r1, r2⟩ | ⟨a1, _, _, a2, _, r1, r2⟩ | ⟨a1, b0, b1, b2, _, r1, r2⟩
  · rw [g126_R, e15] at a1
    rw [r2]
    exact ⟨by rw [r1, if_neg (fun q => a1 q.1)], hC⟩
  · rw [g126_R, e15, Classical.not_not] at a1
    rw [r2]
    refine ⟨?_, hC⟩
    rw [r1, a2, if_pos ⟨a1, by decide⟩, (wf a1).1]
    rfl
  · rw [g126_R, e15, Classical.not_not] at a1
    rw [r2]
    refine ⟨?_, hC⟩
    rw [r1, a2, if_pos ⟨a1, by decide⟩, (wf a1).2.1]
    rfl
  · rw [g126_R, e15, Classical.not_not] at a1
    rw [r2]
    refine ⟨?_, hC⟩
    rw [r1, a2, if_pos ⟨a1, by decide⟩, (wf a1).2.2.1]
    rfl
  · rw [r2]
    refine ⟨?_, hC⟩
    rw [r1, if_neg (fun q => ?_)]
    have q0 : 0 ≤ w.toInt := q.2.1
    have q1 : w.toInt ≤ 2 := q.2.2
    have n0 : w.toInt ≠ 0 := fun h => b0 (Int32.toInt_inj.mp h)
    have n1 : w.toInt ≠ 1 := fun h => b1 (Int32.toInt_inj.mp h)
    have n2 : w.toInt ≠ 2 := fun h => b2 (Int32.toInt_inj.mp h)
    omega
theorem rwalk_ok (hR : RST T P M) (hK : okK P) (H : Ev none e 215 0 [some (.ref 633), some (.int k), some (.int w)] [] M v M' 0 0) : v = some (.int (walA P k w)) ∧ RST T P M' := by
  have h0 := hR.w0 0 (by decide) 0
  have k0 := hK.1
  have k60 := hK.2.1
  have m1 : (P 157 - 1).toInt = (P 157).toInt - 1 := i32_m1 (by omega)
  have e157 : rI M 635 157 = P 157 := (rI_n (p := 157) rfl).trans (hR.2.1 157 (by decide))
  have t0 : (0 : Int32).toInt = 0 := rfl
  unfold walA
  rcases rwr_0 hR.1 H with ⟨a1, _, r1, r2⟩ | ⟨_, a1, _, r1, r2⟩ | ⟨a1, a2, _, _, r1, r2⟩
  · rw [g140_R, e157] at a1
    rw [r2]
    exact ⟨by rw [r1, if_neg (fun q => a1 q.1)], h0⟩
  · rw [g140_R] at a1
    rw [r2]
    exact ⟨by rw [r1, if_neg (fun q => a1 q.2)], h0⟩
  · rw [g140_R, e157, Classical.not_not] at a1
    rw [g140_R, Classical.not_not] at a2
    rw [r2]
    refine ⟨?_, h0⟩
    have q0 : 0 ≤ k.toInt := a1.1
    have q1 := a1.2
    have w0 : 0 ≤ w.toInt := a2.1
    have w2 : w.toInt ≤ 2 := a2.2
    have t6 : (6 : Int32).toInt = 6 := rfl
    have t158 : (158 : Int32).toInt = 158 := rfl
    have m6 : (6 * k).toInt = 6 * k.toInt := i32_mul (by rw [t6]; omega) (by rw [t6]; omega)
    have s1 : (158 + 6 * k).toInt = 158 + 6 * k.toInt := by rw [i32_add (by omega) (by omega), m6]; omega
    have s2 : (158 + 6 * k + w).toInt = ((158 + 6 * k.toInt.toNat + w.toInt.toNat : Nat) : Int) := by rw [i32_add (by omega) (by omega), s1]; omega
    rw [r1, if_pos ⟨a1, a2⟩, rI_n s2, hR.2.1 _ (by omega)]
theorem wta_l (hC : CST T P PI M) : ∀ (r i : Nat) (iz nz : Int32), iz.toInt = (i : Int) → i + r = (P 12).toInt.toNat → Ev none e 11 4 [some (.ref 8), some (.int nz), some (.int iz)] [] M v M' 0 0 → M' = M ∧ v = some (.int (isN P r i nz)) := by
  have hA := hC.lan
  have e13 : zI M 8 13 = P 12 := hA.1.2.2.2.1
  have n24 := hC.ok.n24
  have n0 := hC.ok.1.2.2.1
  intro r
  induction r with
  | zero =>
    intro i iz nz hi hr H
    rcases wta_4 hC.sq H with ⟨_, r1, r2⟩ | ⟨a1, _⟩ | ⟨a1, _⟩
    · exact ⟨r2, r1⟩
    all_goals exact absurd (Int32.le_iff_toInt_le.mpr (by rw [e13]; omega)) a1
  | succ r ih =>
    intro i iz nz hi hr H
    have eo : oI M (8 + 10) iz = 8 + 12 + i := by
      unfold oI
      rw [cl_n hi]
      exact hC.wx i (by omega)
    have e5 : zI M (oI M (8 + 10) iz) 5 = P (13 + 6 * i + 5) := by
      rw [eo]
      exact hA.1.2.2.2.2 i (by omega) 5 (by decide)
    have hb := (hC.ok.1.2.2.2.2 i (by omega)).2.2.2.2
    have z1 : (iz + 1).toInt = ((i + 1 : Nat) : Int) := by rw [i32_p1 (by omega)]; omega
    unfold isN
    rcases wta_4 hC.sq H with ⟨a1, _⟩ | ⟨_, a1, _, H⟩ | ⟨_, a1, _, H⟩
    · have := Int32.le_iff_toInt_le.mp a1
      rw [e13] at this
      omega
    · rw [e5] at a1
      rw [a1]
      exact ih (i + 1) (iz + 1) _ z1 (by omega) H
    · rw [e5] at a1
      rw [hb.resolve_left a1]
      exact ih (i + 1) (iz + 1) _ z1 (by omega) H
theorem count_ok (hC : CST T P PI M) (H : Ev none e 125 0 [some (.ref 0), some (.int k)] [] M v M' 0 0) : v = some (.int (couA P (zI M 1 1) k)) ∧ CST T P PI M' := by
  have hA := hC.lan
  have n0 := hC.ok.1.2.2.1
  unfold couA
  rcases cnt_0 hC.sq hC.ld H with ⟨a0, r1, r2⟩ | ⟨a0, a1, r1, r2⟩ | ⟨a0, a1, a2, r1, r2⟩ | ⟨a0, a1, a2, a3, e1, v1, M1, _, H1, H⟩ | ⟨a0, a1, a2, a3, a4, r1, r2⟩ | ⟨a0, a1, a2, a3, a4, a5, r1, r2⟩ | ⟨a0, a1, a2, a3, a4, a5, a6, r1, r2⟩ | ⟨a0, a1, a2, a3, a4, a5, a6, a7, r1, r2⟩ | ⟨a0, a1, a2, a3, a4, a5, a6, a7, a8, r1, r2⟩ | ⟨a0, a1, a2, a3, a4, a5, a6, a7, a8, a9, r1, r2⟩ | ⟨a0, a1, a2, a3, a4, a5, a6, a7, a8, a9, r1, r2⟩
  · rw [r2, r1, if_pos a0, hA.1.1]
    exact ⟨rfl, hC⟩
  · rw [r2, r1, if_neg a0, if_pos a1, hA.1.2.1]
    exact ⟨rfl, hC⟩
  · rw [r2, r1, if_neg a0, if_neg a1, if_pos a2, hA.1.2.2.1.1]
    exact ⟨rfl, hC⟩
  · obtain ⟨rm, rv⟩ := wta_l hC (P 12).toInt.toNat 0 0 0 rfl (by omega) (wta_0 hC.sq H1)
    rw [rm, rv] at H
    obtain ⟨r1, r2⟩ := cnt_87 hC.sq H
    rw [r2, r1, if_neg a0, if_neg a1, if_neg a2, if_pos a3]
    exact ⟨rfl, hC⟩
  · rw [r2, r1, if_neg a0, if_neg a1, if_neg a2, if_neg a3, if_pos a4, hA.2.2.2.1.1]
    exact ⟨rfl, hC⟩
  · rw [r2, r1, if_neg a0, if_neg a1, if_neg a2, if_neg a3, if_neg a4, if_pos a5, hA.2.1.1]
    exact ⟨rfl, hC⟩
  · rw [r2, r1, if_neg a0, if_neg a1, if_neg a2, if_neg a3, if_neg a4, if_neg a5, if_pos a6, hA.2.1.2.1]
    exact ⟨rfl, hC⟩
  · rw [r2, r1, if_neg a0, if_neg a1, if_neg a2, if_neg a3, if_neg a4, if_neg a5, if_neg a6, if_pos a7, hA.2.1.2.2.1]
    exact ⟨rfl, hC⟩
  · rw [r2, r1, if_neg a0, if_neg a1, if_neg a2, if_neg a3, if_neg a4, if_neg a5, if_neg a6, if_neg a7, if_pos a8, hA.2.1.2.2.2]
    exact ⟨rfl, hC⟩
  · rw [r2, r1, if_neg a0, if_neg a1, if_neg a2, if_neg a3, if_neg a4, if_neg a5, if_neg a6, if_neg a7, if_neg a8, if_pos a9]
    exact ⟨rfl, hC⟩
  · rw [r2, r1, if_neg a0, if_neg a1, if_neg a2, if_neg a3, if_neg a4, if_neg a5, if_neg a6, if_neg a7, if_neg a8, if_neg a9]
    exact ⟨rfl, hC⟩
theorem rcn_l (hR : RST T P M) (hD : okD P) : ∀ (r i : Nat) (iz nz : Int32), iz.toInt = (i : Int) → i + r = (P 12).toInt.toNat → Ev none e 248 9 [some (.ref 633), some (.int k), some (.int nz), some (.int iz)] [] M v M' 0 0 → ∃ iz2, Ev none e 248 43 [some (.ref 633), some (.int k), some (.int (isN P r i nz)), some (.int iz2)] [] M v M' 0 0 := by
  have n0 := hD.2.2.1
  have n24 := hD.2.2.2.1
  have e12 : rI M 635 12 = P 12 := (rI_n (p := 12) rfl).trans (hR.2.1 12 (by decide))
  intro r
  induction r with
  | zero =>
    intro i iz nz hi hr H
    rcases rcn_9 hR.1 H with ⟨_, _, H⟩ | ⟨a1, _⟩
    · exact ⟨iz, H⟩
    · exact absurd (Int32.le_iff_toInt_le.mpr (by rw [e12]; omega)) a1
  | succ r ih =>
    intro i iz nz hi hr H
    have z1 : (iz + 1).toInt = ((i + 1 : Nat) : Int) := by rw [i32_p1 (by omega)]; omega
    have t6 : (6 : Int32).toInt = 6 := rfl
    have t13 : (13 : Int32).toInt = 13 := rfl
    have t5 : (5 : Int32).toInt = 5 := rfl
    have m6 : (6 * iz).toInt = 6 * iz.toInt := i32_mul (by rw [t6]; omega) (by rw [t6]; omega)
    have s1 : (13 + 6 * iz).toInt = 13 + 6 * iz.toInt := by rw [i32_add (by omega) (by omega), m6]; omega
    have s2 : (13 + 6 * iz + 5).toInt = ((13 + 6 * i + 5 : Nat) : Int) := by rw [i32_add (by omega) (by omega), s1]; omega
    unfold isN
    rcases rcn_9 hR.1 H with ⟨a1, _⟩ | ⟨_, _, _, H⟩
    · have := Int32.le_iff_toInt_le.mp a1
      rw [e12] at this
      omega
    · rw [rI_n s2, hR.2.1 _ (by omega)] at H
      exact ih (i + 1) (iz + 1) _ z1 (by omega) H
theorem rcount_ok (hR : RST T P M) (hD : okD P) (H : Ev none e 248 0 [some (.ref 633), some (.int k), none, none] [] M v M' 0 0) : v = some (.int (couA P (zI M 633 2) k)) ∧ RST T P M' := by
  have h0 := hR.w0 0 (by decide) 0
  have n0 := hD.2.2.1
  have g : ∀ (p : Nat) (q : Int32), q.toInt = (p : Int) → p < 2314 → rI (wF M 633 0 0) 635 q = P p := fun p q hq hp => (rI_n hq).trans (h0.2.1 p hp)
  have e2 : zI (wF M 633 0 0) 633 2 = zI M 633 2 := fI_wF_ne (by decide)
  unfold couA
  obtain ⟨iz2, H⟩ := rcn_l h0 hD (P 12).toInt.toNat 0 0 0 rfl (by omega) (rcn_0 hR.1 H)
  rcases rcn_43 h0.1 H with ⟨a0, _, r1, r2⟩ | ⟨a0, a1, _, r1, r2⟩ | ⟨a0, a1, a2, _, r1, r2⟩ | ⟨a0, a1, a2, a3, r1, r2⟩ | ⟨a0, a1, a2, a3, a4, _, r1, r2⟩ | ⟨a0, a1, a2, a3, a4, a5, _, r1, r2⟩ | ⟨a0, a1, a2, a3, a4, a5, a6, _, r1, r2⟩ | ⟨a0, a1, a2, a3, a4, a5, a6, a7, _, r1, r2⟩ | ⟨a0, a1, a2, a3, a4, a5, a6, a7, a8, _, r1, r2⟩ | ⟨a0, a1, a2, a3, a4, a5, a6, a7, a8, a9, r1, r2⟩ | ⟨a0, a1, a2, a3, a4, a5, a6, a7, a8, a9, r1, r2⟩
  · rw [r2, r1, if_pos a0, g 0 0 rfl (by decide)]
    exact ⟨rfl, h0⟩
  · rw [r2, r1, if_neg a0, if_pos a1, g 1 1 rfl (by decide)]
    exact ⟨rfl, h0⟩
  · rw [r2, r1, if_neg a0, if_neg a1, if_pos a2, g 2 2 rfl (by decide)]
    exact ⟨rfl, h0⟩
  · rw [r2, r1, if_neg a0, if_neg a1, if_neg a2, if_pos a3]
    exact ⟨rfl, h0⟩
  · rw [r2, r1, if_neg a0, if_neg a1, if_neg a2, if_neg a3, if_pos a4, g 157 157 rfl (by decide)]
    exact ⟨rfl, h0⟩
  · rw [r2, r1, if_neg a0, if_neg a1, if_neg a2, if_neg a3, if_neg a4, if_pos a5, g 518 518 rfl (by decide)]
    exact ⟨rfl, h0⟩
  · rw [r2, r1, if_neg a0, if_neg a1, if_neg a2, if_neg a3, if_neg a4, if_neg a5, if_pos a6, g 519 519 rfl (by decide)]
    exact ⟨rfl, h0⟩
  · rw [r2, r1, if_neg a0, if_neg a1, if_neg a2, if_neg a3, if_neg a4, if_neg a5, if_neg a6, if_pos a7, g 520 520 rfl (by decide)]
    exact ⟨rfl, h0⟩
  · rw [r2, r1, if_neg a0, if_neg a1, if_neg a2, if_neg a3, if_neg a4, if_neg a5, if_neg a6, if_neg a7, if_pos a8, g 521 521 rfl (by decide)]
    exact ⟨rfl, h0⟩
  · rw [r2, r1, if_neg a0, if_neg a1, if_neg a2, if_neg a3, if_neg a4, if_neg a5, if_neg a6, if_neg a7, if_neg a8, if_pos a9, e2]
    exact ⟨rfl, h0⟩
  · rw [r2, r1, if_neg a0, if_neg a1, if_neg a2, if_neg a3, if_neg a4, if_neg a5, if_neg a6, if_neg a7, if_neg a8, if_neg a9]
    exact ⟨rfl, h0⟩
end OBAN
/-! THE REFERENCE'S ways: pieces (made by gref8.py) -/
noncomputable def G_239 (M : Mem) (a : Int32) (b : Int32) (h : Int32) : Int32 := if (G_152 M a) = 0 then 0 else (if (G_152 M b) = 0 then 0 else (if a = b then 0 else (if (G_140 M h 0 5) = 0 then 0 else 1)))
theorem g_239 {e : Nat} {M M' : Mem} {v : Option Value} {a b h : Int32} (hS : SQ M) (H : Ev none e 239 0 [some (.ref 633), some (.int a), some (.int b), some (.int h)] [] M v M' 0 0) : v = some (.int (G_239 M a b h)) ∧ M' = M := by
  unfold G_239
  have H : Ev none e 239 2 [some (.ref 633), some (.int a), some (.int b), some (.int h)] [.int a, .ref 633] M v M' 0 0 := Ev.back 2 (fun n => rfl) H
  obtain ⟨e1, rfl⟩ := Ev.dpos rfl rfl H
  obtain ⟨vK1, MK1, K1, H⟩ := Ev.callb (fun n_ => gs_7 rfl rfl (show gCal (.invokevirtual 340) 11 (.int a :: .ref 633 :: []) M = some (.inr (152, [some (.ref 633), some (.int a)], [])) from by show @cond (Option ((List Value × Mem) ⊕ (Nat × Lo × List Value))) (true && gRecv M (.ref 633) 11 && gRoom [] && true) (some (.inr (152, [some (.ref 633), some (.int a)], []))) none = _; rw [recv_s hS.1 qa_633 qo_61]; rfl)) H
  obtain ⟨pK1, qK1⟩ := g_152 hS K1
  rw [pK1, qK1] at H
  have H : Ev none (e1 + 1) 239 5 [some (.ref 633), some (.int a), some (.int b), some (.int h)] [.int (G_152 M a)] M v M' 0 0 := H
  have H : Ev none (e1 + 1) 239 (if (G_152 M a) = 0 then 34 else 8) [some (.ref 633), some (.int a), some (.int b), some (.int h)] [] M v M' 0 0 := Ev.back 1 (fun n => rfl) H
  by_cases h2 : (G_152 M a) = 0
  · rw [if_pos h2] at H
    have H : Ev none (e1 + 1) 239 35 [some (.ref 633), some (.int a), some (.int b), some (.int h)] [.int 0] M v M' 0 0 := Ev.back 1 (fun n => rfl) H
    obtain ⟨p1, p2⟩ := Ev.retz rfl rfl H
    exact ⟨by rw [if_pos h2]; exact p1, p2⟩
  · rw [if_neg h2] at H
    have H : Ev none (e1 + 1) 239 10 [some (.ref 633), some (.int a), some (.int b), some (.int h)] [.int b, .ref 633] M v M' 0 0 := Ev.back 2 (fun n => rfl) H
    obtain ⟨vK3, MK3, K3, H⟩ := Ev.callb (fun n_ => gs_7 rfl rfl (show gCal (.invokevirtual 340) 11 (.int b :: .ref 633 :: []) M = some (.inr (152, [some (.ref 633), some (.int b)], [])) from by show @cond (Option ((List Value × Mem) ⊕ (Nat × Lo × List Value))) (true && gRecv M (.ref 633) 11 && gRoom [] && true) (some (.inr (152, [some (.ref 633), some (.int b)], []))) none = _; rw [recv_s hS.1 qa_633 qo_61]; rfl)) H
    obtain ⟨pK3, qK3⟩ := g_152 hS K3
    rw [pK3, qK3] at H
    have H : Ev none (e1 + 1) 239 13 [some (.ref 633), some (.int a), some (.int b), some (.int h)] [.int (G_152 M b)] M v M' 0 0 := H
    have H : Ev none (e1 + 1) 239 (if (G_152 M b) = 0 then 34 else 16) [some (.ref 633), some (.int a), some (.int b), some (.int h)] [] M v M' 0 0 := Ev.back 1 (fun n => rfl) H
    by_cases h4 : (G_152 M b) = 0
    · rw [if_pos h4] at H
      have H : Ev none (e1 + 1) 239 35 [some (.ref 633), some (.int a), some (.int b), some (.int h)] [.int 0] M v M' 0 0 := Ev.back 1 (fun n => rfl) H
      obtain ⟨p1, p2⟩ := Ev.retz rfl rfl H
      exact ⟨by rw [if_neg h2, if_pos h4]; exact p1, p2⟩
    · rw [if_neg h4] at H
      have H : Ev none (e1 + 1) 239 (if a = b then 34 else 21) [some (.ref 633), some (.int a), some (.int b), some (.int h)] [] M v M' 0 0 := Ev.back 3 (fun n => rfl) H
      by_cases h5 : a = b
      · rw [if_pos h5] at H
        have H : Ev none (e1 + 1) 239 35 [some (.ref 633), some (.int a), some (.int b), some (.int h)] [.int 0] M v M' 0 0 := Ev.back 1 (fun n => rfl) H
        obtain ⟨p1, p2⟩ := Ev.retz rfl rfl H
        exact ⟨by rw [if_neg h2, if_neg h4, if_pos h5]; exact p1, p2⟩
      · rw [if_neg h5] at H
        have H : Ev none (e1 + 1) 239 24 [some (.ref 633), some (.int a), some (.int b), some (.int h)] [.int 5, .int 0, .int h] M v M' 0 0 := Ev.back 3 (fun n => rfl) H
        obtain ⟨vK6, MK6, K6, H⟩ := Ev.callb (fun n => rfl) H
        obtain ⟨pK6, qK6⟩ := g_140 hS K6
        rw [pK6, qK6] at H
        have H : Ev none (e1 + 1) 239 27 [some (.ref 633), some (.int a), some (.int b), some (.int h)] [.int (G_140 M h 0 5)] M v M' 0 0 := H
        have H : Ev none (e1 + 1) 239 (if (G_140 M h 0 5) = 0 then 34 else 30) [some (.ref 633), some (.int a), some (.int b), some (.int h)] [] M v M' 0 0 := Ev.back 1 (fun n => rfl) H
        by_cases h7 : (G_140 M h 0 5) = 0
        · rw [if_pos h7] at H
          have H : Ev none (e1 + 1) 239 35 [some (.ref 633), some (.int a), some (.int b), some (.int h)] [.int 0] M v M' 0 0 := Ev.back 1 (fun n => rfl) H
          obtain ⟨p1, p2⟩ := Ev.retz rfl rfl H
          exact ⟨by rw [if_neg h2, if_neg h4, if_neg h5, if_pos h7]; exact p1, p2⟩
        · rw [if_neg h7] at H
          have H : Ev none (e1 + 1) 239 35 [some (.ref 633), some (.int a), some (.int b), some (.int h)] [.int 1] M v M' 0 0 := Ev.back 2 (fun n => rfl) H
          obtain ⟨p1, p2⟩ := Ev.retz rfl rfl H
          exact ⟨by rw [if_neg h2, if_neg h4, if_neg h5, if_neg h7]; exact p1, p2⟩
theorem rwk_0 {e : Nat} {M M' : Mem} {v : Option Value} {a b h : Int32} (hS : SQ M) (H : Ev none e 238 0 [some (.ref 633), some (.int a), some (.int b), some (.int h), none, none] [] M v M' 0 0) : (0 ≤ (3 + a).toInt ∧ (3 + a).toInt < 2314) ∧ (0 ≤ (3 + b).toInt ∧ (3 + b).toInt < 2314) ∧ (0 ≤ (0 : Int32).toInt ∧ (0 : Int32).toInt < 201) ∧ Ev none e 238 64 [some (.ref 633), some (.int a), some (.int b), some (.int h), some (.int 0), none] [] (wI (wF (wF (wF (wF (wF (wF (wF M 633 34 (rI M 635 (3 + a))) 633 35 (rI M 635 (3 + b))) 633 36 (1 + h)) 633 37 (-1)) 633 38 (-1)) 633 39 1) 633 60 1) 657 ((0 : Int32).toNatClampNeg) (rI M 635 (3 + a))) v M' 0 0 := by
  have H : Ev none e 238 2 [some (.ref 633), some (.int a), some (.int b), some (.int h), none, none] [.ref 633, .ref 633] M v M' 0 0 := Ev.back 2 (fun n => rfl) H
  have H : Ev none e 238 5 [some (.ref 633), some (.int a), some (.int b), some (.int h), none, none] [.ref 635, .ref 633] M v M' 0 0 := Ev.back 1 (gs_3 rfl rfl (gf_u hS.1 qa_633 qr_61_5 qu_63 rfl)) H
  have H : Ev none e 238 8 [some (.ref 633), some (.int a), some (.int b), some (.int h), none, none] [.int (3 + a), .ref 635, .ref 633] M v M' 0 0 := Ev.back 3 (fun n => rfl) H
  obtain ⟨b1, H⟩ := Ev.ial rfl rfl hS.1 qa_635 qw_63 H
  have H : Ev none e 238 9 [some (.ref 633), some (.int a), some (.int b), some (.int h), none, none] [.int (rI M 635 (3 + a)), .ref 633] M v M' 0 0 := H
  obtain ⟨N3, eN3⟩ : ∃ N, N = (wF M 633 34 (rI M 635 (3 + a))) := ⟨_, rfl⟩
  have hN3 : SQ N3 := by rw [eN3]; exact hS.kf
  have H : Ev none e 238 12 [some (.ref 633), some (.int a), some (.int b), some (.int h), none, none] [] N3 v M' 0 0 := by rw [eN3]; exact Ev.pfi rfl rfl rfl hS.1 qa_633 qi_61_34 H
  have H : Ev none e 238 14 [some (.ref 633), some (.int a), some (.int b), some (.int h), none, none] [.ref 633, .ref 633] N3 v M' 0 0 := Ev.back 2 (fun n => rfl) H
  have H : Ev none e 238 17 [some (.ref 633), some (.int a), some (.int b), some (.int h), none, none] [.ref 635, .ref 633] N3 v M' 0 0 := Ev.back 1 (gs_3 rfl rfl (gf_u hN3.1 qa_633 qr_61_5 qu_63 rfl)) H
  have H : Ev none e 238 20 [some (.ref 633), some (.int a), some (.int b), some (.int h), none, none] [.int (3 + b), .ref 635, .ref 633] N3 v M' 0 0 := Ev.back 3 (fun n => rfl) H
  obtain ⟨b4, H⟩ := Ev.ial rfl rfl hN3.1 qa_635 qw_63 H
  have H : Ev none e 238 21 [some (.ref 633), some (.int a), some (.int b), some (.int h), none, none] [.int (rI N3 635 (3 + b)), .ref 633] N3 v M' 0 0 := H
  rw [show rI N3 635 (3 + b) = rI M 635 (3 + b) from by rw [eN3]; exact rN_wF] at H
  obtain ⟨N6, eN6⟩ : ∃ N, N = (wF N3 633 35 (rI M 635 (3 + b))) := ⟨_, rfl⟩
  have hN6 : SQ N6 := by rw [eN6]; exact hN3.kf
  have H : Ev none e 238 24 [some (.ref 633), some (.int a), some (.int b), some (.int h), none, none] [] N6 v M' 0 0 := by rw [eN6]; exact Ev.pfi rfl rfl rfl hN3.1 qa_633 qi_61_35 H
  have H : Ev none e 238 28 [some (.ref 633), some (.int a), some (.int b), some (.int h), none, none] [.int (1 + h), .ref 633] N6 v M' 0 0 := Ev.back 4 (fun n => rfl) H
  obtain ⟨N8, eN8⟩ : ∃ N, N = (wF N6 633 36 (1 + h)) := ⟨_, rfl⟩
  have hN8 : SQ N8 := by rw [eN8]; exact hN6.kf
  have H : Ev none e 238 31 [some (.ref 633), some (.int a), some (.int b), some (.int h), none, none] [] N8 v M' 0 0 := by rw [eN8]; exact Ev.pfi rfl rfl rfl hN6.1 qa_633 qi_61_36 H
  have H : Ev none e 238 33 [some (.ref 633), some (.int a), some (.int b), some (.int h), none, none] [.int (-1), .ref 633] N8 v M' 0 0 := Ev.back 2 (fun n => rfl) H
  obtain ⟨N10, eN10⟩ : ∃ N, N = (wF N8 633 37 (-1)) := ⟨_, rfl⟩
  have hN10 : SQ N10 := by rw [eN10]; exact hN8.kf
  have H : Ev none e 238 36 [some (.ref 633), some (.int a), some (.int b), some (.int h), none, none] [] N10 v M' 0 0 := by rw [eN10]; exact Ev.pfi rfl rfl rfl hN8.1 qa_633 qi_61_37 H
  have H : Ev none e 238 38 [some (.ref 633), some (.int a), some (.int b), some (.int h), none, none] [.int (-1), .ref 633] N10 v M' 0 0 := Ev.back 2 (fun n => rfl) H
  obtain ⟨N12, eN12⟩ : ∃ N, N = (wF N10 633 38 (-1)) := ⟨_, rfl⟩
  have hN12 : SQ N12 := by rw [eN12]; exact hN10.kf
  have H : Ev none e 238 41 [some (.ref 633), some (.int a), some (.int b), some (.int h), none, none] [] N12 v M' 0 0 := by rw [eN12]; exact Ev.pfi rfl rfl rfl hN10.1 qa_633 qi_61_38 H
  have H : Ev none e 238 43 [some (.ref 633), some (.int a), some (.int b), some (.int h), none, none] [.int 1, .ref 633] N12 v M' 0 0 := Ev.back 2 (fun n => rfl) H
  obtain ⟨N14, eN14⟩ : ∃ N, N = (wF N12 633 39 1) := ⟨_, rfl⟩
  have hN14 : SQ N14 := by rw [eN14]; exact hN12.kf
  have H : Ev none e 238 46 [some (.ref 633), some (.int a), some (.int b), some (.int h), none, none] [] N14 v M' 0 0 := by rw [eN14]; exact Ev.pfi rfl rfl rfl hN12.1 qa_633 qi_61_39 H
  have H : Ev none e 238 48 [some (.ref 633), some (.int a), some (.int b), some (.int h), none, none] [.int 1, .ref 633] N14 v M' 0 0 := Ev.back 2 (fun n => rfl) H
  obtain ⟨N16, eN16⟩ : ∃ N, N = (wF N14 633 60 1) := ⟨_, rfl⟩
  have hN16 : SQ N16 := by rw [eN16]; exact hN14.kf
  have H : Ev none e 238 51 [some (.ref 633), some (.int a), some (.int b), some (.int h), none, none] [] N16 v M' 0 0 := by rw [eN16]; exact Ev.pfi rfl rfl rfl hN14.1 qa_633 qi_61_60 H
  have H : Ev none e 238 52 [some (.ref 633), some (.int a), some (.int b), some (.int h), none, none] [.ref 633] N16 v M' 0 0 := Ev.back 1 (fun n => rfl) H
  have H : Ev none e 238 55 [some (.ref 633), some (.int a), some (.int b), some (.int h), none, none] [.ref 657] N16 v M' 0 0 := Ev.back 1 (gs_3 rfl rfl (gf_u hN16.1 qa_633 qr_61_54 qu_85 rfl)) H
  have H : Ev none e 238 57 [some (.ref 633), some (.int a), some (.int b), some (.int h), none, none] [.ref 633, .int 0, .ref 657] N16 v M' 0 0 := Ev.back 2 (fun n => rfl) H
  have H : Ev none e 238 60 [some (.ref 633), some (.int a), some (.int b), some (.int h), none, none] [.int (zI N16 633 34), .int 0, .ref 657] N16 v M' 0 0 := Ev.back 1 (gs_3 rfl rfl (gf_i hN16.1 qa_633 qi_61_34 rfl)) H
  rw [((((((show zI N16 633 34 = zI N14 633 34 from by rw [eN16]; exact fI_wF_ne (fun q => absurd q.2 (by decide))).trans (show zI N14 633 34 = zI N12 633 34 from by rw [eN14]; exact fI_wF_ne (fun q => absurd q.2 (by decide)))).trans (show zI N12 633 34 = zI N10 633 34 from by rw [eN12]; exact fI_wF_ne (fun q => absurd q.2 (by decide)))).trans (show zI N10 633 34 = zI N8 633 34 from by rw [eN10]; exact fI_wF_ne (fun q => absurd q.2 (by decide)))).trans (show zI N8 633 34 = zI N6 633 34 from by rw [eN8]; exact fI_wF_ne (fun q => absurd q.2 (by decide)))).trans (show zI N6 633 34 = zI N3 633 34 from by rw [eN6]; exact fI_wF_ne (fun q => absurd q.2 (by decide)))).trans (show zI N3 633 34 = rI M 635 (3 + a) from by rw [eN3]; exact fI_wF_eq hS.1 qa_633 qi_61_34)] at H
  obtain ⟨b17, H⟩ := Ev.ias rfl rfl hN16.1 qa_657 qw_85 H
  obtain ⟨N18, eN18⟩ : ∃ N, N = (wI N16 657 ((0 : Int32).toNatClampNeg) (rI M 635 (3 + a))) := ⟨_, rfl⟩
  have hN18 : SQ N18 := by rw [eN18]; exact hN16.ki
  have H : Ev none e 238 61 [some (.ref 633), some (.int a), some (.int b), some (.int h), none, none] [] N18 v M' 0 0 := by rw [eN18]; exact H
  have H : Ev none e 238 64 [some (.ref 633), some (.int a), some (.int b), some (.int h), some (.int 0), none] [] N18 v M' 0 0 := Ev.back 2 (fun n => rfl) H
  have HF := H
  subst eN3 eN6 eN8 eN10 eN12 eN14 eN16 eN18
  exact ⟨b1, b4, b17, HF⟩
theorem rwk_64 {e : Nat} {M M' : Mem} {v : Option Value} {a b h n : Int32} {c5 : Option Value} (hS : SQ M) (H : Ev none e 238 64 [some (.ref 633), some (.int a), some (.int b), some (.int h), some (.int n), c5] [] M v M' 0 0) : (200 ≤ n ∧ v = some (.int (-1)) ∧ M' = M) ∨ (¬ (200 ≤ n) ∧ (∃ e1 v1 M1, e = e1 + 1 ∧ Ev none e1 202 0 [some (.ref 633), none, none, none, none, none] [] M v1 M1 0 0 ∧ Ev none e 238 76 [some (.ref 633), some (.int a), some (.int b), some (.int h), some (.int n), c5] (v1.toList ++ []) M1 v M' 0 0)) := by
  have H : Ev none e 238 (if 200 ≤ n then 160 else 72) [some (.ref 633), some (.int a), some (.int b), some (.int h), some (.int n), c5] [] M v M' 0 0 := Ev.back 3 (fun n => rfl) H
  by_cases h1 : 200 ≤ n
  · rw [if_pos h1] at H
    have H : Ev none e 238 161 [some (.ref 633), some (.int a), some (.int b), some (.int h), some (.int n), c5] [.int (-1)] M v M' 0 0 := Ev.back 1 (fun n => rfl) H
    obtain ⟨z1, z2⟩ := Ev.retz rfl rfl H
    exact Or.inl ⟨h1, z1, z2⟩
  · rw [if_neg h1] at H
    have H : Ev none e 238 73 [some (.ref 633), some (.int a), some (.int b), some (.int h), some (.int n), c5] [.ref 633] M v M' 0 0 := Ev.back 1 (fun n => rfl) H
    obtain ⟨e1, rfl⟩ := Ev.dpos rfl rfl H
    obtain ⟨vK2, MK2, K2, H⟩ := Ev.callb (fun n_ => gs_7 rfl rfl (show gCal (.invokevirtual 414) 11 (.ref 633 :: []) M = some (.inr (202, [some (.ref 633), none, none, none, none, none], [])) from by show @cond (Option ((List Value × Mem) ⊕ (Nat × Lo × List Value))) (true && gRecv M (.ref 633) 11 && gRoom [] && true) (some (.inr (202, [some (.ref 633), none, none, none, none, none], []))) none = _; rw [recv_s hS.1 qa_633 qo_61]; rfl)) H
    have K2 : Ev none e1 202 0 [some (.ref 633), none, none, none, none, none] [] M vK2 MK2 0 0 := K2
    have HF := H
    exact Or.inr (⟨h1, ⟨e1, vK2, MK2, rfl, K2, HF⟩⟩)
theorem rwk_76 {e : Nat} {M M' : Mem} {v : Option Value} {a b h n d : Int32} {c5 : Option Value} (hS : SQ M) (H : Ev none e 238 76 [some (.ref 633), some (.int a), some (.int b), some (.int h), some (.int n), c5] [.int d] M v M' 0 0) : (0 ≤ d ∧ (∃ e1 v1 M1, e = e1 + 1 ∧ Ev none e1 194 0 [some (.ref 633), some (.int (zI M 633 34)), some (.int d), none, none] [] (wF (wF M 633 37 d) 633 38 (zI M 633 34)) v1 M1 0 0 ∧ Ev none e 238 110 [some (.ref 633), some (.int a), some (.int b), some (.int h), some (.int n), some (.int d)] (v1.toList ++ [.ref 633]) M1 v M' 0 0)) ∨ (¬ (0 ≤ d) ∧ v = some (.int (-1)) ∧ M' = M) := by
  have H : Ev none e 238 (if 0 ≤ d then 85 else 83) [some (.ref 633), some (.int a), some (.int b), some (.int h), some (.int n), some (.int d)] [] M v M' 0 0 := Ev.back 3 (fun n => rfl) H
  by_cases h1 : 0 ≤ d
  · rw [if_pos h1] at H
    have H : Ev none e 238 88 [some (.ref 633), some (.int a), some (.int b), some (.int h), some (.int n), some (.int d)] [.int d, .ref 633] M v M' 0 0 := Ev.back 2 (fun n => rfl) H
    obtain ⟨N3, eN3⟩ : ∃ N, N = (wF M 633 37 d) := ⟨_, rfl⟩
    have hN3 : SQ N3 := by rw [eN3]; exact hS.kf
    have H : Ev none e 238 91 [some (.ref 633), some (.int a), some (.int b), some (.int h), some (.int n), some (.int d)] [] N3 v M' 0 0 := by rw [eN3]; exact Ev.pfi rfl rfl rfl hS.1 qa_633 qi_61_37 H
    have H : Ev none e 238 93 [some (.ref 633), some (.int a), some (.int b), some (.int h), some (.int n), some (.int d)] [.ref 633, .ref 633] N3 v M' 0 0 := Ev.back 2 (fun n => rfl) H
    have H : Ev none e 238 96 [some (.ref 633), some (.int a), some (.int b), some (.int h), some (.int n), some (.int d)] [.int (zI N3 633 34), .ref 633] N3 v M' 0 0 := Ev.back 1 (gs_3 rfl rfl (gf_i hN3.1 qa_633 qi_61_34 rfl)) H
    rw [show zI N3 633 34 = zI M 633 34 from by rw [eN3]; exact fI_wF_ne (fun q => absurd q.2 (by decide))] at H
    obtain ⟨N5, eN5⟩ : ∃ N, N = (wF N3 633 38 (zI M 633 34)) := ⟨_, rfl⟩
    have hN5 : SQ N5 := by rw [eN5]; exact hN3.kf
    have H : Ev none e 238 99 [some (.ref 633), some (.int a), some (.int b), some (.int h), some (.int n), some (.int d)] [] N5 v M' 0 0 := by rw [eN5]; exact Ev.pfi rfl rfl rfl hN3.1 qa_633 qi_61_38 H
    have H : Ev none e 238 102 [some (.ref 633), some (.int a), some (.int b), some (.int h), some (.int n), some (.int d)] [.ref 633, .ref 633, .ref 633] N5 v M' 0 0 := Ev.back 3 (fun n => rfl) H
    have H : Ev none e 238 105 [some (.ref 633), some (.int a), some (.int b), some (.int h), some (.int n), some (.int d)] [.int (zI N5 633 34), .ref 633, .ref 633] N5 v M' 0 0 := Ev.back 1 (gs_3 rfl rfl (gf_i hN5.1 qa_633 qi_61_34 rfl)) H
    rw [(show zI N5 633 34 = zI N3 633 34 from by rw [eN5]; exact fI_wF_ne (fun q => absurd q.2 (by decide))).trans (show zI N3 633 34 = zI M 633 34 from by rw [eN3]; exact fI_wF_ne (fun q => absurd q.2 (by decide)))] at H
    have H : Ev none e 238 107 [some (.ref 633), some (.int a), some (.int b), some (.int h), some (.int n), some (.int d)] [.int d, .int (zI M 633 34), .ref 633, .ref 633] N5 v M' 0 0 := Ev.back 1 (fun n => rfl) H
    obtain ⟨e1, rfl⟩ := Ev.dpos rfl rfl H
    obtain ⟨vK6, MK6, K6, H⟩ := Ev.callb (fun n_ => gs_7 rfl rfl (show gCal (.invokevirtual 380) 11 (.int d :: .int (zI M 633 34) :: .ref 633 :: [.ref 633]) N5 = some (.inr (194, [some (.ref 633), some (.int (zI M 633 34)), some (.int d), none, none], [.ref 633])) from by show @cond (Option ((List Value × Mem) ⊕ (Nat × Lo × List Value))) (true && gRecv N5 (.ref 633) 11 && gRoom [.ref 633] && true) (some (.inr (194, [some (.ref 633), some (.int (zI M 633 34)), some (.int d), none, none], [.ref 633]))) none = _; rw [recv_s hN5.1 qa_633 qo_61]; rfl)) H
    have K6 : Ev none e1 194 0 [some (.ref 633), some (.int (zI M 633 34)), some (.int d), none, none] [] N5 vK6 MK6 0 0 := K6
    have HF := H
    subst eN3 eN5
    exact Or.inl ⟨h1, ⟨e1, vK6, MK6, rfl, K6, HF⟩⟩
  · rw [if_neg h1] at H
    have H : Ev none e 238 84 [some (.ref 633), some (.int a), some (.int b), some (.int h), some (.int n), some (.int d)] [.int (-1)] M v M' 0 0 := Ev.back 1 (fun n => rfl) H
    obtain ⟨z1, z2⟩ := Ev.retz rfl rfl H
    exact Or.inr (⟨h1, z1, z2⟩)
theorem rwk_110 {e : Nat} {M M' : Mem} {v : Option Value} {a b h n d y : Int32} (hS : SQ M) (H : Ev none e 238 110 [some (.ref 633), some (.int a), some (.int b), some (.int h), some (.int n), some (.int d)] [.int y, .ref 633] M v M' 0 0) : (y = (zI M 633 35) ∧ (0 ≤ (zI M 633 60).toInt ∧ (zI M 633 60).toInt < 201) ∧ v = some (.int (((zI M 633 60) + 1) - 1)) ∧ M' = (wF (wI (wF M 633 34 y) 657 ((zI M 633 60).toNatClampNeg) y) 633 60 ((zI M 633 60) + 1))) ∨ (¬ (y = (zI M 633 35)) ∧ (0 ≤ (zI M 633 60).toInt ∧ (zI M 633 60).toInt < 201) ∧ Ev none e 238 64 [some (.ref 633), some (.int a), some (.int b), some (.int h), some (.int (n + 1)), some (.int d)] [] (wF (wI (wF M 633 34 y) 657 ((zI M 633 60).toNatClampNeg) y) 633 60 ((zI M 633 60) + 1)) v M' 0 0) := by
  obtain ⟨N2, eN2⟩ : ∃ N, N = (wF M 633 34 y) := ⟨_, rfl⟩
  have hN2 : SQ N2 := by rw [eN2]; exact hS.kf
  have H : Ev none e 238 113 [some (.ref 633), some (.int a), some (.int b), some (.int h), some (.int n), some (.int d)] [] N2 v M' 0 0 := by rw [eN2]; exact Ev.pfi rfl rfl rfl hS.1 qa_633 qi_61_34 H
  have H : Ev none e 238 114 [some (.ref 633), some (.int a), some (.int b), some (.int h), some (.int n), some (.int d)] [.ref 633] N2 v M' 0 0 := Ev.back 1 (fun n => rfl) H
  have H : Ev none e 238 117 [some (.ref 633), some (.int a), some (.int b), some (.int h), some (.int n), some (.int d)] [.ref 657] N2 v M' 0 0 := Ev.back 1 (gs_3 rfl rfl (gf_u hN2.1 qa_633 qr_61_54 qu_85 rfl)) H
  have H : Ev none e 238 118 [some (.ref 633), some (.int a), some (.int b), some (.int h), some (.int n), some (.int d)] [.ref 633, .ref 657] N2 v M' 0 0 := Ev.back 1 (fun n => rfl) H
  have H : Ev none e 238 121 [some (.ref 633), some (.int a), some (.int b), some (.int h), some (.int n), some (.int d)] [.int (zI N2 633 60), .ref 657] N2 v M' 0 0 := Ev.back 1 (gs_3 rfl rfl (gf_i hN2.1 qa_633 qi_61_60 rfl)) H
  rw [show zI N2 633 60 = zI M 633 60 from by rw [eN2]; exact fI_wF_ne (fun q => absurd q.2 (by decide))] at H
  have H : Ev none e 238 122 [some (.ref 633), some (.int a), some (.int b), some (.int h), some (.int n), some (.int d)] [.ref 633, .int (zI M 633 60), .ref 657] N2 v M' 0 0 := Ev.back 1 (fun n => rfl) H
  have H : Ev none e 238 125 [some (.ref 633), some (.int a), some (.int b), some (.int h), some (.int n), some (.int d)] [.int (zI N2 633 34), .int (zI M 633 60), .ref 657] N2 v M' 0 0 := Ev.back 1 (gs_3 rfl rfl (gf_i hN2.1 qa_633 qi_61_34 rfl)) H
  rw [show zI N2 633 34 = y from by rw [eN2]; exact fI_wF_eq hS.1 qa_633 qi_61_34] at H
  obtain ⟨b3, H⟩ := Ev.ias rfl rfl hN2.1 qa_657 qw_85 H
  obtain ⟨N4, eN4⟩ : ∃ N, N = (wI N2 657 ((zI M 633 60).toNatClampNeg) y) := ⟨_, rfl⟩
  have hN4 : SQ N4 := by rw [eN4]; exact hN2.ki
  have H : Ev none e 238 126 [some (.ref 633), some (.int a), some (.int b), some (.int h), some (.int n), some (.int d)] [] N4 v M' 0 0 := by rw [eN4]; exact H
  have H : Ev none e 238 128 [some (.ref 633), some (.int a), some (.int b), some (.int h), some (.int n), some (.int d)] [.ref 633, .ref 633] N4 v M' 0 0 := Ev.back 2 (fun n => rfl) H
  have H : Ev none e 238 131 [some (.ref 633), some (.int a), some (.int b), some (.int h), some (.int n), some (.int d)] [.int (zI N4 633 60), .ref 633] N4 v M' 0 0 := Ev.back 1 (gs_3 rfl rfl (gf_i hN4.1 qa_633 qi_61_60 rfl)) H
  rw [(show zI N4 633 60 = zI N2 633 60 from by rw [eN4]; exact fI_wI).trans (show zI N2 633 60 = zI M 633 60 from by rw [eN2]; exact fI_wF_ne (fun q => absurd q.2 (by decide)))] at H
  have H : Ev none e 238 133 [some (.ref 633), some (.int a), some (.int b), some (.int h), some (.int n), some (.int d)] [.int ((zI M 633 60) + 1), .ref 633] N4 v M' 0 0 := Ev.back 2 (fun n => rfl) H
  obtain ⟨N6, eN6⟩ : ∃ N, N = (wF N4 633 60 ((zI M 633 60) + 1)) := ⟨_, rfl⟩
  have hN6 : SQ N6 := by rw [eN6]; exact hN4.kf
  have H : Ev none e 238 136 [some (.ref 633), some (.int a), some (.int b), some (.int h), some (.int n), some (.int d)] [] N6 v M' 0 0 := by rw [eN6]; exact Ev.pfi rfl rfl rfl hN4.1 qa_633 qi_61_60 H
  have H : Ev none e 238 137 [some (.ref 633), some (.int a), some (.int b), some (.int h), some (.int n), some (.int d)] [.ref 633] N6 v M' 0 0 := Ev.back 1 (fun n => rfl) H
  have H : Ev none e 238 140 [some (.ref 633), some (.int a), some (.int b), some (.int h), some (.int n), some (.int d)] [.int (zI N6 633 34)] N6 v M' 0 0 := Ev.back 1 (gs_3 rfl rfl (gf_i hN6.1 qa_633 qi_61_34 rfl)) H
  rw [((show zI N6 633 34 = zI N4 633 34 from by rw [eN6]; exact fI_wF_ne (fun q => absurd q.2 (by decide))).trans (show zI N4 633 34 = zI N2 633 34 from by rw [eN4]; exact fI_wI)).trans (show zI N2 633 34 = y from by rw [eN2]; exact fI_wF_eq hS.1 qa_633 qi_61_34)] at H
  have H : Ev none e 238 141 [some (.ref 633), some (.int a), some (.int b), some (.int h), some (.int n), some (.int d)] [.ref 633, .int y] N6 v M' 0 0 := Ev.back 1 (fun n => rfl) H
  have H : Ev none e 238 144 [some (.ref 633), some (.int a), some (.int b), some (.int h), some (.int n), some (.int d)] [.int (zI N6 633 35), .int y] N6 v M' 0 0 := Ev.back 1 (gs_3 rfl rfl (gf_i hN6.1 qa_633 qi_61_35 rfl)) H
  rw [((show zI N6 633 35 = zI N4 633 35 from by rw [eN6]; exact fI_wF_ne (fun q => absurd q.2 (by decide))).trans (show zI N4 633 35 = zI N2 633 35 from by rw [eN4]; exact fI_wI)).trans (show zI N2 633 35 = zI M 633 35 from by rw [eN2]; exact fI_wF_ne (fun q => absurd q.2 (by decide)))] at H
  have H : Ev none e 238 (if y = (zI M 633 35) then 147 else 154) [some (.ref 633), some (.int a), some (.int b), some (.int h), some (.int n), some (.int d)] [] N6 v M' 0 0 := Ev.back 1 (fun n => rfl) H
  by_cases h7 : y = (zI M 633 35)
  · rw [if_pos h7] at H
    have H : Ev none e 238 148 [some (.ref 633), some (.int a), some (.int b), some (.int h), some (.int n), some (.int d)] [.ref 633] N6 v M' 0 0 := Ev.back 1 (fun n => rfl) H
    have H : Ev none e 238 151 [some (.ref 633), some (.int a), some (.int b), some (.int h), some (.int n), some (.int d)] [.int (zI N6 633 60)] N6 v M' 0 0 := Ev.back 1 (gs_3 rfl rfl (gf_i hN6.1 qa_633 qi_61_60 rfl)) H
    rw [show zI N6 633 60 = (zI M 633 60) + 1 from by rw [eN6]; exact fI_wF_eq hN4.1 qa_633 qi_61_60] at H
    have H : Ev none e 238 153 [some (.ref 633), some (.int a), some (.int b), some (.int h), some (.int n), some (.int d)] [.int (((zI M 633 60) + 1) - 1)] N6 v M' 0 0 := Ev.back 2 (fun n => rfl) H
    obtain ⟨z1, z2⟩ := Ev.retz rfl rfl H
    subst eN2 eN4 eN6
    exact Or.inl ⟨h7, b3, z1, z2⟩
  · rw [if_neg h7] at H
    have H : Ev none e 238 64 [some (.ref 633), some (.int a), some (.int b), some (.int h), some (.int (n + 1)), some (.int d)] [] N6 v M' 0 0 := Ev.back 2 (fun n => rfl) H
    have HF := H
    subst eN2 eN4 eN6
    exact Or.inr (⟨h7, b3, HF⟩)
theorem rwy_0 {e : Nat} {M M' : Mem} {v : Option Value} {a b h : Int32} (hS : SQ M) (H : Ev none e 240 0 [some (.ref 633), some (.int a), some (.int b), some (.int h), none, none] [] M v M' 0 0) : ((G_239 (wF M 633 0 0) a b h) = 0 ∧ v = some (.int (-2)) ∧ M' = (wF M 633 0 0)) ∨ (¬ ((G_239 (wF M 633 0 0) a b h) = 0) ∧ (∃ e1 v1 M1, e = e1 + 1 ∧ Ev none e1 238 0 [some (.ref 633), some (.int a), some (.int b), some (.int h), none, none] [] (wF M 633 0 0) v1 M1 0 0 ∧ Ev none e 240 25 [some (.ref 633), some (.int a), some (.int b), some (.int h), none, none] (v1.toList ++ []) M1 v M' 0 0)) := by
  have H : Ev none e 240 2 [some (.ref 633), some (.int a), some (.int b), some (.int h), none, none] [.int 0, .ref 633] M v M' 0 0 := Ev.back 2 (fun n => rfl) H
  obtain ⟨N2, eN2⟩ : ∃ N, N = (wF M 633 0 0) := ⟨_, rfl⟩
  have hN2 : SQ N2 := by rw [eN2]; exact hS.kf
  have H : Ev none e 240 5 [some (.ref 633), some (.int a), some (.int b), some (.int h), none, none] [] N2 v M' 0 0 := by rw [eN2]; exact Ev.pfi rfl rfl rfl hS.1 qa_633 qi_61_0 H
  have H : Ev none e 240 9 [some (.ref 633), some (.int a), some (.int b), some (.int h), none, none] [.int h, .int b, .int a, .ref 633] N2 v M' 0 0 := Ev.back 4 (fun n => rfl) H
  obtain ⟨e1, rfl⟩ := Ev.dpos rfl rfl H
  obtain ⟨vK3, MK3, K3, H⟩ := Ev.callb (fun n_ => gs_7 rfl rfl (show gCal (.invokevirtual 497) 11 (.int h :: .int b :: .int a :: .ref 633 :: []) N2 = some (.inr (239, [some (.ref 633), some (.int a), some (.int b), some (.int h)], [])) from by show @cond (Option ((List Value × Mem) ⊕ (Nat × Lo × List Value))) (true && gRecv N2 (.ref 633) 11 && gRoom [] && true) (some (.inr (239, [some (.ref 633), some (.int a), some (.int b), some (.int h)], []))) none = _; rw [recv_s hN2.1 qa_633 qo_61]; rfl)) H
  obtain ⟨pK3, qK3⟩ := g_239 hN2 K3
  rw [pK3, qK3] at H
  have H : Ev none (e1 + 1) 240 12 [some (.ref 633), some (.int a), some (.int b), some (.int h), none, none] [.int (G_239 N2 a b h)] N2 v M' 0 0 := H
  have H : Ev none (e1 + 1) 240 (if (G_239 N2 a b h) = 0 then 15 else 18) [some (.ref 633), some (.int a), some (.int b), some (.int h), none, none] [] N2 v M' 0 0 := Ev.back 1 (fun n => rfl) H
  by_cases h4 : (G_239 N2 a b h) = 0
  · rw [if_pos h4] at H
    have H : Ev none (e1 + 1) 240 17 [some (.ref 633), some (.int a), some (.int b), some (.int h), none, none] [.int (-2)] N2 v M' 0 0 := Ev.back 1 (fun n => rfl) H
    obtain ⟨z1, z2⟩ := Ev.retz rfl rfl H
    subst eN2
    exact Or.inl ⟨h4, z1, z2⟩
  · rw [if_neg h4] at H
    have H : Ev none (e1 + 1) 240 22 [some (.ref 633), some (.int a), some (.int b), some (.int h), none, none] [.int h, .int b, .int a, .ref 633] N2 v M' 0 0 := Ev.back 4 (fun n => rfl) H
    obtain ⟨vK5, MK5, K5, H⟩ := Ev.callb (fun n_ => gs_7 rfl rfl (show gCal (.invokevirtual 500) 11 (.int h :: .int b :: .int a :: .ref 633 :: []) N2 = some (.inr (238, [some (.ref 633), some (.int a), some (.int b), some (.int h), none, none], [])) from by show @cond (Option ((List Value × Mem) ⊕ (Nat × Lo × List Value))) (true && gRecv N2 (.ref 633) 11 && gRoom [] && true) (some (.inr (238, [some (.ref 633), some (.int a), some (.int b), some (.int h), none, none], []))) none = _; rw [recv_s hN2.1 qa_633 qo_61]; rfl)) H
    have K5 : Ev none e1 238 0 [some (.ref 633), some (.int a), some (.int b), some (.int h), none, none] [] N2 vK5 MK5 0 0 := K5
    have HF := H
    subst eN2
    exact Or.inr (⟨h4, ⟨e1, vK5, MK5, rfl, K5, HF⟩⟩)
theorem rwy_25 {e : Nat} {M M' : Mem} {v : Option Value} {a b h r : Int32} (hS : SQ M) (H : Ev none e 240 25 [some (.ref 633), some (.int a), some (.int b), some (.int h), none, none] [.int r] M v M' 0 0) : Ev none e 240 38 [some (.ref 633), some (.int a), some (.int b), some (.int h), some (.int r), some (.int 0)] [] (wF M 633 61 (zI M 633 60)) v M' 0 0 := by
  have H : Ev none e 240 29 [some (.ref 633), some (.int a), some (.int b), some (.int h), some (.int r), none] [.ref 633, .ref 633] M v M' 0 0 := Ev.back 3 (fun n => rfl) H
  have H : Ev none e 240 32 [some (.ref 633), some (.int a), some (.int b), some (.int h), some (.int r), none] [.int (zI M 633 60), .ref 633] M v M' 0 0 := Ev.back 1 (gs_3 rfl rfl (gf_i hS.1 qa_633 qi_61_60 rfl)) H
  obtain ⟨N2, eN2⟩ : ∃ N, N = (wF M 633 61 (zI M 633 60)) := ⟨_, rfl⟩
  have hN2 : SQ N2 := by rw [eN2]; exact hS.kf
  have H : Ev none e 240 35 [some (.ref 633), some (.int a), some (.int b), some (.int h), some (.int r), none] [] N2 v M' 0 0 := by rw [eN2]; exact Ev.pfi rfl rfl rfl hS.1 qa_633 qi_61_61 H
  have H : Ev none e 240 38 [some (.ref 633), some (.int a), some (.int b), some (.int h), some (.int r), some (.int 0)] [] N2 v M' 0 0 := Ev.back 2 (fun n => rfl) H
  have HF := H
  subst eN2
  exact HF
theorem rwy_38 {e : Nat} {M M' : Mem} {v : Option Value} {a b h r i : Int32} (hS : SQ M) (H : Ev none e 240 38 [some (.ref 633), some (.int a), some (.int b), some (.int h), some (.int r), some (.int i)] [] M v M' 0 0) : ((zI M 633 60) ≤ i ∧ v = some (.int r) ∧ M' = M) ∨ (¬ ((zI M 633 60) ≤ i) ∧ (0 ≤ i.toInt ∧ i.toInt < 201) ∧ (0 ≤ i.toInt ∧ i.toInt < 201) ∧ Ev none e 240 38 [some (.ref 633), some (.int a), some (.int b), some (.int h), some (.int r), some (.int (i + 1))] [] (wI M 658 i.toNatClampNeg (rI M 657 i)) v M' 0 0) := by
  have H : Ev none e 240 41 [some (.ref 633), some (.int a), some (.int b), some (.int h), some (.int r), some (.int i)] [.ref 633, .int i] M v M' 0 0 := Ev.back 2 (fun n => rfl) H
  have H : Ev none e 240 44 [some (.ref 633), some (.int a), some (.int b), some (.int h), some (.int r), some (.int i)] [.int (zI M 633 60), .int i] M v M' 0 0 := Ev.back 1 (gs_3 rfl rfl (gf_i hS.1 qa_633 qi_61_60 rfl)) H
  have H : Ev none e 240 (if (zI M 633 60) ≤ i then 67 else 47) [some (.ref 633), some (.int a), some (.int b), some (.int h), some (.int r), some (.int i)] [] M v M' 0 0 := Ev.back 1 (fun n => rfl) H
  by_cases h1 : (zI M 633 60) ≤ i
  · rw [if_pos h1] at H
    have H : Ev none e 240 69 [some (.ref 633), some (.int a), some (.int b), some (.int h), some (.int r), some (.int i)] [.int r] M v M' 0 0 := Ev.back 1 (fun n => rfl) H
    obtain ⟨z1, z2⟩ := Ev.retz rfl rfl H
    exact Or.inl ⟨h1, z1, z2⟩
  · rw [if_neg h1] at H
    have H : Ev none e 240 48 [some (.ref 633), some (.int a), some (.int b), some (.int h), some (.int r), some (.int i)] [.ref 633] M v M' 0 0 := Ev.back 1 (fun n => rfl) H
    have H : Ev none e 240 51 [some (.ref 633), some (.int a), some (.int b), some (.int h), some (.int r), some (.int i)] [.ref 658] M v M' 0 0 := Ev.back 1 (gs_3 rfl rfl (gf_u hS.1 qa_633 qr_61_55 qu_86 rfl)) H
    have H : Ev none e 240 54 [some (.ref 633), some (.int a), some (.int b), some (.int h), some (.int r), some (.int i)] [.ref 633, .int i, .ref 658] M v M' 0 0 := Ev.back 2 (fun n => rfl) H
    have H : Ev none e 240 57 [some (.ref 633), some (.int a), some (.int b), some (.int h), some (.int r), some (.int i)] [.ref 657, .int i, .ref 658] M v M' 0 0 := Ev.back 1 (gs_3 rfl rfl (gf_u hS.1 qa_633 qr_61_54 qu_85 rfl)) H
    have H : Ev none e 240 59 [some (.ref 633), some (.int a), some (.int b), some (.int h), some (.int r), some (.int i)] [.int i, .ref 657, .int i, .ref 658] M v M' 0 0 := Ev.back 1 (fun n => rfl) H
    obtain ⟨b2, H⟩ := Ev.ial rfl rfl hS.1 qa_657 qw_85 H
    have H : Ev none e 240 60 [some (.ref 633), some (.int a), some (.int b), some (.int h), some (.int r), some (.int i)] [.int (rI M 657 i), .int i, .ref 658] M v M' 0 0 := H
    obtain ⟨b3, H⟩ := Ev.ias rfl rfl hS.1 qa_658 qw_86 H
    obtain ⟨N4, eN4⟩ : ∃ N, N = (wI M 658 i.toNatClampNeg (rI M 657 i)) := ⟨_, rfl⟩
    have hN4 : SQ N4 := by rw [eN4]; exact hS.ki
    have H : Ev none e 240 61 [some (.ref 633), some (.int a), some (.int b), some (.int h), some (.int r), some (.int i)] [] N4 v M' 0 0 := by rw [eN4]; exact H
    have H : Ev none e 240 38 [some (.ref 633), some (.int a), some (.int b), some (.int h), some (.int r), some (.int (i + 1))] [] N4 v M' 0 0 := Ev.back 2 (fun n => rfl) H
    have HF := H
    subst eN4
    exact Or.inr (⟨h1, b2, b3, HF⟩)
/-! THE REFERENCE'S ways -/
def rwF (a k : Nat) : Prop := a = 633 ∧ ((34 ≤ k ∧ k ≤ 39) ∨ k = 60)
def rwW (a : Nat) : Prop := a = 649 ∨ a = 657
/-- DOORS are unlike -/
def unD (P : PK) : Prop := ∀ i j : Nat, (i : Int) < (P 2).toInt → (j : Int) < (P 2).toInt → P (3 + i) = P (3 + j) → i = j
section RWAY
variable {e i j n tn : Nat} {T : TS} {P : PK} {M M1 M' : Mem} {v : Option Value} {x y k d h a b t w goal : Int32} {l : List Int32}
theorem wlS_g {hb : Nat} {cf : Int32} : ∀ r, wlS T P hb goal r (goal, w, cf) l = (l, goal) := by
  intro r
  cases r with
  | zero => rfl
  | succ r =>
    unfold wlS
    dsimp only
    rw [if_pos rfl]
theorem rwk_l (hD : okD P) (hK : okK P) (ht : tn < 7) (hgo : inC P goal) : ∀ (r n : Nat) (nz here w cf : Int32) (l : List Int32) (c5 : Option Value) (M : Mem), RST T P M → inC P here → ¬ here = goal → RWC (here, goal, w, cf, true) tn M → nz.toInt = (n : Int) → n + r = 200 → (zI M 633 60).toInt = ((n + 1 : Nat) : Int) → l.length = n + 1 → (∀ j y, l[j]? = some y → rN M 657 j = y) → Ev none e 238 64 [some (.ref 633), some (.int a), some (.int b), some (.int h), some (.int nz), c5] [] M v M' 0 0 → (((wlS T P tn goal r (here, w, cf) l).2 = goal ∧ ∃ y : Int32, v = some (.int y) ∧ y.toInt + 1 = ((wlS T P tn goal r (here, w, cf) l).1.length : Int)) ∨ (¬ (wlS T P tn goal r (here, w, cf) l).2 = goal ∧ v = some (.int (-1)))) ∧ RST T P M' ∧ FZ rwF rwW noO M M' ∧ (zI M' 633 60).toInt = ((wlS T P tn goal r (here, w, cf) l).1.length : Int) ∧ ∀ j y, (wlS T P tn goal r (here, w, cf) l).1[j]? = some y → rN M' 657 j = y := by
  have z200 : (200 : Int32).toInt = 200 := rfl
  intro r
  induction r with
  | zero =>
    intro n nz here w cf l c5 M hR hin hne hW hn hr h60 hl hrow H
    rcases rwk_64 hR.1 H with ⟨_, r1, r2⟩ | ⟨a1, _⟩
    · rw [r2]
      exact ⟨Or.inr ⟨hne, r1⟩, hR, FZ.refl _, by show _ = ((l.length : Nat) : Int); rw [hl]; exact h60, hrow⟩
    · exact absurd (Int32.le_iff_toInt_le.mpr (by omega)) a1
  | succ r ih =>
    intro n nz here w cf l c5 M hR hin hne hW hn hr h60 hl hrow H
    unfold wlS
    dsimp only
    rw [if_neg hne]
    rcases rwk_64 hR.1 H with ⟨a1, _⟩ | ⟨_, e1, v1, M1, _, H1, H⟩
    · have := Int32.le_iff_toInt_le.mp a1
      omega
    · obtain ⟨rv, S1, F1⟩ := rcho_ok (w := (here, goal, w, cf, true)) hR hD.1 hK ht hW hin hgo.1 H1
      have hcr := cho_rng (g := T 0) (P := P) (q := T tn) (w := (here, goal, w, cf, true)) hgo.1
      obtain ⟨dd, edd⟩ : ∃ dd, dd = choP (T 0) P (T tn) (here, goal, w, cf, true) := ⟨_, rfl⟩
      rw [← edd] at rv hcr ⊢
      rw [rv] at H
      have R1 : RST T P M1 := hR.tu S1 F1
      have W1 : RWC (here, goal, w, cf, true) tn M1 := hW.tu F1
      obtain ⟨w1, w2, w3, w4, w5, w6⟩ := W1
      have w1 : zI M1 633 34 = here := w1
      have w2 : zI M1 633 35 = goal := w2
      have f60 : zI M1 633 60 = zI M 633 60 := F1.fi (fun q => q)
      have FF : FZ rwF rwW noO M M1 := F1.more (fun _ _ q => q.elim) (fun a q => Or.inl q) (fun _ q => q)
      have tm : (-1 : Int32).toInt = -1 := rfl
      have z0 : (0 : Int32).toInt = 0 := rfl
      rcases rwk_76 S1 H with ⟨b1, e2, v2, M2, _, H2, H⟩ | ⟨b1, r1, r2⟩
      · have hd := hcr.resolve_left (fun q => by
          rw [q] at b1
          exact absurd b1 (by decide))
        have hnl : ¬ dd < 0 := fun q => by
          have := Int32.lt_iff_toInt_lt.mp q
          omega
        rw [if_neg hnl]
        have hbe : inC P (besP P here dd) := (besP_in hD.1 hin).resolve_left (fun q => hd.2.2 (by rw [q]; decide))
        rw [w1] at H2
        obtain ⟨N, eN⟩ : ∃ N, N = wF (wF M1 633 37 dd) 633 38 here := ⟨_, rfl⟩
        rw [← eN] at H2
        have RN : RST T P N := by rw [eN]; exact (R1.w0 37 (by decide) dd).w0 38 (by decide) here
        obtain ⟨rv2, rm2⟩ := g_194 RN.1 H2
        rw [g194_ok RN] at rv2
        rw [rv2, rm2] at H
        obtain ⟨y, ey⟩ : ∃ y, y = besP P here dd := ⟨_, rfl⟩
        rw [← ey] at H hbe ⊢
        have n35 : zI N 633 35 = goal := by rw [eN, fI_wF_ne (by decide), fI_wF_ne (by decide)]; exact w2
        have n60 : zI N 633 60 = zI M 633 60 := by rw [eN, fI_wF_ne (by decide), fI_wF_ne (by decide)]; exact f60
        have n36 : zI N 633 36 = zI M1 633 36 := by rw [eN, fI_wF_ne (by decide), fI_wF_ne (by decide)]
        have n39 : zI N 633 39 = zI M1 633 39 := by rw [eN, fI_wF_ne (by decide), fI_wF_ne (by decide)]
        have n37 : zI N 633 37 = dd := by rw [eN, fI_wF_ne (by decide)]; exact fI_wF_eq S1.1 qa_633 qi_61_37
        have n38 : zI N 633 38 = here := by rw [eN]; exact fI_wF_eq S1.kf.1 qa_633 qi_61_38
        have FN : FZ rwF rwW noO M1 N := by
          rw [eN]
          exact (FZ.wF (F := rwF) ⟨rfl, Or.inl (by decide)⟩).trans (FZ.wF ⟨rfl, Or.inl (by decide)⟩)
        have rN0 : ∀ j, rN N 657 j = rN M 657 j := fun j => by
          rw [eN, rN_wF, rN_wF]
          exact F1.rn (by unfold tuW; decide)
        have H := rwk_110 RN.1 H
        rw [n35, n60, cl_n h60] at H
        obtain ⟨N3, eN3⟩ : ∃ N3, N3 = wF (wI (wF N 633 34 y) 657 (n + 1) y) 633 60 (zI M 633 60 + 1) := ⟨_, rfl⟩
        rw [← eN3] at H
        have S3 : SQ N3 := by rw [eN3]; exact RN.1.kf.ki.kf
        have F3 : FZ rwF rwW noO N N3 := by
          rw [eN3]
          exact ((FZ.wF (F := rwF) ⟨rfl, Or.inl (by decide)⟩).trans (FZ.wI (Or.inr rfl))).trans (FZ.wF ⟨rfl, Or.inr rfl⟩)
        have F9 := (FF.trans FN).trans F3
        have R3 : RST T P N3 := hR.fz S3 F9 (fun k k1 k2 q => by unfold rwF at q; omega) (fun a ha q => by unfold rwW at q; omega)
        have p1 : (zI M 633 60 + 1).toInt = ((n + 1 + 1 : Nat) : Int) := by rw [i32_p1 (by omega)]; omega
        have z60 : zI N3 633 60 = zI M 633 60 + 1 := by rw [eN3]; exact fI_wF_eq RN.1.kf.ki.1 qa_633 qi_61_60
        have zo : ∀ k, k ≠ 34 → k ≠ 60 → zI N3 633 k = zI N 633 k := fun k k1 k2 => by rw [eN3, fI_wF_ne (by omega), fI_wI, fI_wF_ne (by omega)]
        have z34 : zI N3 633 34 = y := by rw [eN3, fI_wF_ne (by decide), fI_wI]; exact fI_wF_eq RN.1.1 qa_633 qi_61_34
        have len : (zrw (wF N 633 34 y) 657).length = 201 := (RN.1.kf.1.row qa_657 qw_85).2
        have lrow : ∀ j z, (l ++ [y])[j]? = some z → rN N3 657 j = z := fun j z hj => by
          rcases Nat.lt_or_ge j l.length with hlt | hge
          · rw [List.getElem?_append_left hlt] at hj
            rw [eN3, rN_wF, rN_wI_ne (fun q => by omega), rN_wF, rN0]
            exact hrow j z hj
          · rw [List.getElem?_append_right hge] at hj
            have hj0 : j - l.length = 0 := by
              rcases Nat.eq_zero_or_pos (j - l.length) with q | q
              · exact q
              · rw [List.getElem?_eq_none (by simp; omega)] at hj
                cases hj
            have ejk : j = n + 1 := by omega
            rw [hj0] at hj
            cases hj
            rw [ejk, eN3, rN_wF]
            exact rN_wI_eq (by omega)
        have ll : (l ++ [y]).length = n + 1 + 1 := by rw [List.length_append]; simp; omega
        rcases H with ⟨c1, _, r1, r2⟩ | ⟨c1, _, H⟩
        · have wg : wlS T P tn goal r (y, dd, here) (l ++ [y]) = (l ++ [y], goal) := by
            rw [c1]
            exact wlS_g r
          rw [wg]
          dsimp only
          rw [r2]
          refine ⟨Or.inl ⟨rfl, _, r1, ?_⟩, R3, F9, ?_, lrow⟩
          · rw [ll]
            have : (zI M 633 60 + 1 - 1).toInt = (zI M 633 60 + 1).toInt - 1 := i32_m1 (by omega)
            omega
          · rw [z60, ll]
            exact p1
        · have W3 : RWC (y, goal, dd, here, true) tn N3 := ⟨z34, (zo 35 (by decide) (by decide)).trans n35, by rw [zo 36 (by decide) (by decide), n36]; exact w3, (zo 37 (by decide) (by decide)).trans n37, (zo 38 (by decide) (by decide)).trans n38, by rw [zo 39 (by decide) (by decide), n39]; exact w6⟩
          obtain ⟨u1, u2, u3, u4, u5⟩ := ih (n + 1) (nz + 1) y dd here (l ++ [y]) _ N3 R3 hbe c1 W3 (by rw [i32_p1 (by omega)]; omega) (by omega) (by rw [z60]; exact p1) ll lrow H
          exact ⟨u1, u2, F9.trans u3, u4, u5⟩
      · have hlt : dd < 0 := by
          rcases hcr with q | q
          · rw [q]; decide
          · exact absurd (Int32.le_iff_toInt_le.mpr (by omega)) b1
        rw [if_pos hlt]
        rw [r2]
        exact ⟨Or.inr ⟨hne, r1⟩, R1, FF, by show _ = ((l.length : Nat) : Int); rw [f60, hl]; exact h60, fun j z hj => (F1.rn (by unfold tuW; decide)).trans (hrow j z hj)⟩
theorem g239_ok (hR : RST T P M) (hD : okD P) : G_239 M a b h = 0 ↔ wayN P a b h := by
  unfold G_239 wayN
  by_cases h1 : G_152 M a = 0
  · rw [if_pos h1]
    rw [g152_ok hR hD] at h1
    exact ⟨fun _ => Or.inl h1, fun _ => rfl⟩
  · rw [if_neg h1]
    rw [g152_ok hR hD, Classical.not_not] at h1
    by_cases h2 : G_152 M b = 0
    · rw [if_pos h2]
      rw [g152_ok hR hD] at h2
      exact ⟨fun _ => Or.inr (Or.inl h2), fun _ => rfl⟩
    · rw [if_neg h2]
      rw [g152_ok hR hD, Classical.not_not] at h2
      by_cases h3 : a = b
      · rw [if_pos h3]
        exact ⟨fun _ => Or.inr (Or.inr (Or.inl h3)), fun _ => rfl⟩
      · rw [if_neg h3]
        by_cases h4 : G_140 M h 0 5 = 0
        · rw [if_pos h4]
          rw [g140_R] at h4
          exact ⟨fun _ => Or.inr (Or.inr (Or.inr h4)), fun _ => rfl⟩
        · rw [if_neg h4]
          rw [g140_R, Classical.not_not] at h4
          refine ⟨fun q => absurd q (by decide), fun q => ?_⟩
          rcases q with q | q | q | q
          · exact absurd h1 q
          · exact absurd h2 q
          · exact absurd q h3
          · exact absurd h4 q
/-- from DOOR to DOOR, one alone -/
theorem rwk_ok (hR : RST T P M) (hD : okD P) (hK : okK P) (hu : unD P) (ia : inD P a) (ib : inD P b) (hab : ¬ a = b) (ih : inX h 0 5) (H : Ev none e 238 0 [some (.ref 633), some (.int a), some (.int b), some (.int h), none, none] [] M v M' 0 0) : ((wayB T P a b h = true ∧ ∃ y : Int32, v = some (.int y) ∧ y.toInt + 1 = ((wayL T P a b h).1.length : Int)) ∨ (wayB T P a b h = false ∧ v = some (.int (-1)))) ∧ RST T P M' ∧ FZ rwF rwW noO M M' ∧ (zI M' 633 60).toInt = ((wayL T P a b h).1.length : Int) ∧ ∀ j y, (wayL T P a b h).1[j]? = some y → rN M' 657 j = y := by
  have a0 := ia.1
  have a1 := ia.2
  have b0 := ib.1
  have b1 := ib.2
  have n9 := hD.2.1.2.1
  have t3 : (3 : Int32).toInt = 3 := rfl
  have t1 : (1 : Int32).toInt = 1 := rfl
  have h0 : 0 ≤ h.toInt := ih.1
  have h5 : h.toInt ≤ 5 := ih.2
  have ea : (3 + a).toInt = ((3 + a.toInt.toNat : Nat) : Int) := by rw [i32_add (by omega) (by omega)]; omega
  have eb : (3 + b).toInt = ((3 + b.toInt.toNat : Nat) : Int) := by rw [i32_add (by omega) (by omega)]; omega
  have eh : (1 + h).toInt = ((h.toInt.toNat + 1 : Nat) : Int) := by rw [i32_add (by omega) (by omega)]; omega
  obtain ⟨_, _, _, H⟩ := rwk_0 hR.1 H
  have ra : rI M 635 (3 + a) = P (3 + a.toInt.toNat) := (rI_n ea).trans (hR.2.1 _ (by omega))
  have rb : rI M 635 (3 + b) = P (3 + b.toInt.toNat) := (rI_n eb).trans (hR.2.1 _ (by omega))
  have i0 : (0 : Int32).toNatClampNeg = 0 := rfl
  rw [ra, rb, i0] at H
  obtain ⟨A, eA⟩ : ∃ A, A = P (3 + a.toInt.toNat) := ⟨_, rfl⟩
  obtain ⟨G, eG⟩ : ∃ G, G = P (3 + b.toInt.toNat) := ⟨_, rfl⟩
  have iA : inC P A := by rw [eA]; exact hD.2.1.2.2 _ (by omega)
  have iG : inC P G := by rw [eG]; exact hD.2.1.2.2 _ (by omega)
  have hne : ¬ A = G := fun q => by
    rw [eA, eG] at q
    have := hu a.toInt.toNat b.toInt.toNat (by omega) (by omega) q
    exact hab (Int32.toInt_inj.mp (by omega))
  rw [← eA, ← eG] at H
  obtain ⟨N, eN⟩ : ∃ N, N = wI (wF (wF (wF (wF (wF (wF (wF M 633 34 A) 633 35 G) 633 36 (1 + h)) 633 37 (-1)) 633 38 (-1)) 633 39 1) 633 60 1) 657 0 A := ⟨_, rfl⟩
  rw [← eN] at H
  have S := hR.1
  have FN : FZ rwF rwW noO M N := by
    rw [eN]
    exact (((((((FZ.wF (F := rwF) ⟨rfl, Or.inl (by decide)⟩).trans (FZ.wF ⟨rfl, Or.inl (by decide)⟩)).trans (FZ.wF ⟨rfl, Or.inl (by decide)⟩)).trans (FZ.wF ⟨rfl, Or.inl (by decide)⟩)).trans (FZ.wF ⟨rfl, Or.inl (by decide)⟩)).trans (FZ.wF ⟨rfl, Or.inl (by decide)⟩)).trans (FZ.wF ⟨rfl, Or.inr rfl⟩)).trans (FZ.wI (Or.inr rfl))
  have SN : SQ N := by rw [eN]; exact S.kf.kf.kf.kf.kf.kf.kf.ki
  have RN : RST T P N := hR.fz SN FN (fun k k1 k2 q => by unfold rwF at q; omega) (fun a ha q => by unfold rwW at q; omega)
  have WN : RWC (A, G, -1, -1, true) (h.toInt.toNat + 1) N := by
    rw [eN]
    refine ⟨?_, ?_, ?_, ?_, ?_, ?_⟩
    · rw [fI_wI, fI_wF_ne (by decide), fI_wF_ne (by decide), fI_wF_ne (by decide), fI_wF_ne (by decide), fI_wF_ne (by decide), fI_wF_ne (by decide)]
      exact fI_wF_eq S.1 qa_633 qi_61_34
    · rw [fI_wI, fI_wF_ne (by decide), fI_wF_ne (by decide), fI_wF_ne (by decide), fI_wF_ne (by decide), fI_wF_ne (by decide)]
      exact fI_wF_eq S.kf.1 qa_633 qi_61_35
    · rw [fI_wI, fI_wF_ne (by decide), fI_wF_ne (by decide), fI_wF_ne (by decide), fI_wF_ne (by decide), fI_wF_eq S.kf.kf.1 qa_633 qi_61_36]
      exact eh
    · rw [fI_wI, fI_wF_ne (by decide), fI_wF_ne (by decide), fI_wF_ne (by decide)]
      exact fI_wF_eq S.kf.kf.kf.1 qa_633 qi_61_37
    · rw [fI_wI, fI_wF_ne (by decide), fI_wF_ne (by decide)]
      exact fI_wF_eq S.kf.kf.kf.kf.1 qa_633 qi_61_38
    · rw [fI_wI, fI_wF_ne (by decide)]
      exact fI_wF_eq S.kf.kf.kf.kf.kf.1 qa_633 qi_61_39
  have z60 : zI N 633 60 = 1 := by rw [eN, fI_wI]; exact fI_wF_eq S.kf.kf.kf.kf.kf.kf.1 qa_633 qi_61_60
  have len : (zrw (wF (wF (wF (wF (wF (wF (wF M 633 34 A) 633 35 G) 633 36 (1 + h)) 633 37 (-1)) 633 38 (-1)) 633 39 1) 633 60 1) 657).length = 201 := (S.kf.kf.kf.kf.kf.kf.kf.1.row qa_657 qw_85).2
  have q := rwk_l (T := T) (tn := h.toInt.toNat + 1) hD hK (by omega) iG 200 0 0 A (-1) (-1) [A] none N RN iA hne WN rfl rfl (by rw [z60]; rfl) rfl (fun j y hj => by
    cases j with
    | zero =>
      cases hj
      rw [eN]
      exact rN_wI_eq (by omega)
    | succ j => cases hj) H
  unfold wayB wayL
  rw [← eA, ← eG]
  obtain ⟨u1, u2, u3, u4, u5⟩ := q
  refine ⟨?_, u2, FN.trans u3, u4, u5⟩
  rcases u1 with ⟨c1, c2⟩ | ⟨c1, c2⟩
  · exact Or.inl ⟨decide_eq_true c1, c2⟩
  · exact Or.inr ⟨decide_eq_false c1, c2⟩
theorem rwy_l {r : Int32} (hn : n ≤ 201) : ∀ (s i : Nat) (iz : Int32) (M : Mem), RST T P M → iz.toInt = (i : Int) → i + s = n → (zI M 633 60).toInt = (n : Int) → (∀ j, j < i → rN M 658 j = rN M 657 j) → Ev none e 240 38 [some (.ref 633), some (.int a), some (.int b), some (.int h), some (.int r), some (.int iz)] [] M v M' 0 0 → v = some (.int r) ∧ RST T P M' ∧ FZ noF (fun a => a = 658) noO M M' ∧ ∀ j, j < n → rN M' 658 j = rN M' 657 j := by
  intro s
  induction s with
  | zero =>
    intro i iz M hR hi hs h60 hrow H
    rcases rwy_38 hR.1 H with ⟨_, r1, r2⟩ | ⟨a1, _⟩
    · rw [r2]
      exact ⟨r1, hR, FZ.refl _, fun j hj => hrow j (by omega)⟩
    · exact absurd (Int32.le_iff_toInt_le.mpr (by omega)) a1
  | succ s ih =>
    intro i iz M hR hi hs h60 hrow H
    rcases rwy_38 hR.1 H with ⟨a1, _⟩ | ⟨_, _, _, H⟩
    · have := Int32.le_iff_toInt_le.mp a1
      omega
    · rw [cl_n hi, rI_n hi] at H
      have F1 : FZ noF (fun a => a = 658) noO M (wI M 658 i (rN M 657 i)) := FZ.wI rfl
      have len : (zrw M 658).length = 201 := (hR.1.1.row qa_658 qw_86).2
      obtain ⟨u1, u2, u3, u4⟩ := ih (i + 1) (iz + 1) _ (hR.fz hR.1.ki F1 (fun _ _ _ q => q) (fun a ha q => by omega)) (by rw [i32_p1 (by omega)]; omega) (by omega) (by rw [fI_wI]; exact h60) (fun j hj => by
        rw [rN_wI_ne (a := 658) (b := 657) (by omega)]
        by_cases q : j = i
        · rw [q]
          exact rN_wI_eq (by omega)
        · rw [rN_wI_ne (by omega)]
          exact hrow j (by omega)) H
      exact ⟨u1, u2, F1.trans u3, u4⟩
theorem rway_ok (hR : RST T P M) (hD : okD P) (hK : okK P) (hu : unD P) (hl : (wayL T P a b h).1.length ≤ 201) (H : Ev none e 240 0 [some (.ref 633), some (.int a), some (.int b), some (.int h), none, none] [] M v M' 0 0) : RST T P M' ∧ ((wayN P a b h ∧ v = some (.int (-2)) ∧ zI M' 633 61 = zI M 633 61 ∧ ∀ j, rN M' 658 j = rN M 658 j) ∨ (¬ wayN P a b h ∧ (zI M' 633 61).toInt = ((wayL T P a b h).1.length : Int) ∧ (∀ j y, (wayL T P a b h).1[j]? = some y → rN M' 658 j = y) ∧ ((wayB T P a b h = true ∧ ∃ y : Int32, v = some (.int y) ∧ y.toInt + 1 = ((wayL T P a b h).1.length : Int)) ∨ (wayB T P a b h = false ∧ v = some (.int (-1)))))) := by
  have h0 := hR.w0 0 (by decide) 0
  rcases rwy_0 hR.1 H with ⟨a1, r1, r2⟩ | ⟨a1, e1, v1, M1, _, H1, H⟩
  · rw [g239_ok h0 hD] at a1
    rw [r2]
    exact ⟨h0, Or.inl ⟨a1, r1, fI_wF_ne (by decide), fun j => rN_wF⟩⟩
  · rw [g239_ok h0 hD] at a1
    have ia : inD P a := Classical.not_not.mp (fun q => a1 (Or.inl q))
    have ib : inD P b := Classical.not_not.mp (fun q => a1 (Or.inr (Or.inl q)))
    have nab : ¬ a = b := fun q => a1 (Or.inr (Or.inr (Or.inl q)))
    have ix : inX h 0 5 := Classical.not_not.mp (fun q => a1 (Or.inr (Or.inr (Or.inr q))))
    obtain ⟨u1, u2, u3, u4, u5⟩ := rwk_ok h0 hD hK hu ia ib nab ix H1
    have fin : ∀ r, Ev none e 240 25 [some (.ref 633), some (.int a), some (.int b), some (.int h), none, none] [.int r] M1 v M' 0 0 → v = some (.int r) ∧ RST T P M' ∧ (zI M' 633 61).toInt = ((wayL T P a b h).1.length : Int) ∧ ∀ j y, (wayL T P a b h).1[j]? = some y → rN M' 658 j = y := fun r H => by
      have H := rwy_25 u2.1 H
      have R2 := u2.w0 61 (by decide) (zI M1 633 60)
      obtain ⟨s1, s2, s3, s4⟩ := rwy_l (n := (wayL T P a b h).1.length) hl (wayL T P a b h).1.length 0 0 _ R2 rfl (by omega) (by rw [fI_wF_ne (by decide)]; exact u4) (fun j hj => absurd hj (Nat.not_lt_zero j)) H
      refine ⟨s1, s2, by rw [s3.fi (fun q => q), fI_wF_eq u2.1.1 qa_633 qi_61_61]; exact u4, fun j y hj => ?_⟩
      rw [s4 j (List.getElem?_eq_some_iff.mp hj).1, s3.rn (by decide), rN_wF]
      exact u5 j y hj
    rcases u1 with ⟨c1, y, c2, c3⟩ | ⟨c1, c2⟩
    · rw [c2] at H
      obtain ⟨s1, s2, s3, s4⟩ := fin y H
      exact ⟨s2, Or.inr ⟨a1, s3, s4, Or.inl ⟨c1, y, s1, c3⟩⟩⟩
    · rw [c2] at H
      obtain ⟨s1, s2, s3, s4⟩ := fin (-1) H
      exact ⟨s2, Or.inr ⟨a1, s3, s4, Or.inr ⟨c1, s1⟩⟩⟩
end RWAY
/-! HOW MANY BITS: the library's bitCount in plain numbers -/
def p1 : Nat → Nat → Nat
  | 0, _ => 0
  | k + 1, n => n % 2 + n / 2 % 2 + 4 * p1 k (n / 4)
def p2 : Nat → Nat → Nat
  | 0, _ => 0
  | k + 1, n => n % 4 + n / 4 % 4 + 16 * p2 k (n / 16)
def p4 : Nat → Nat → Nat
  | 0, _ => 0
  | k + 1, n => n % 16 + n / 16 % 16 + 256 * p4 k (n / 256)
def sb1 : Nat → Nat → Nat
  | 0, _ => 0
  | k + 1, n => n % 2 + sb1 k (n / 2)
def sb2 : Nat → Nat → Nat
  | 0, _ => 0
  | k + 1, n => n % 4 + sb2 k (n / 4)
def sb4 : Nat → Nat → Nat
  | 0, _ => 0
  | k + 1, n => n % 16 + sb4 k (n / 16)
def sb8 : Nat → Nat → Nat
  | 0, _ => 0
  | k + 1, n => n % 256 + sb8 k (n / 256)
def o1 : Nat → Nat → Nat
  | 0, _ => 0
  | k + 1, n => n / 2 % 2 + 4 * o1 k (n / 4)
def e2 : Nat → Nat → Nat
  | 0, _ => 0
  | k + 1, n => n % 4 + 16 * e2 k (n / 16)
def e4 : Nat → Nat → Nat
  | 0, _ => 0
  | k + 1, n => n % 16 + 256 * e4 k (n / 256)
def mk1 : Nat → Nat
  | 0 => 0
  | k + 1 => 1 + 4 * mk1 k
def mk2 : Nat → Nat
  | 0 => 0
  | k + 1 => 3 + 16 * mk2 k
def mk4 : Nat → Nat
  | 0 => 0
  | k + 1 => 15 + 256 * mk4 k
def nb6 : Nat → Nat → Prop
  | 0, n => n = 0
  | k + 1, n => n % 16 ≤ 6 ∧ n / 16 % 16 ≤ 6 ∧ nb6 k (n / 256)
section POPC
variable {n k s : Nat}
theorem sb2_p1 : ∀ k n, sb2 k (p1 k n) = sb1 (2 * k) n := by
  intro k
  induction k with
  | zero => intro n; rfl
  | succ k ih =>
    intro n
    have e : sb1 (2 * (k + 1)) n = n % 2 + (n / 2 % 2 + sb1 (2 * k) (n / 2 / 2)) := rfl
    have d : n / 2 / 2 = n / 4 := by omega
    rw [e, d]
    unfold p1 sb2
    have h1 : (n % 2 + n / 2 % 2 + 4 * p1 k (n / 4)) % 4 = n % 2 + n / 2 % 2 := by omega
    have h2 : (n % 2 + n / 2 % 2 + 4 * p1 k (n / 4)) / 4 = p1 k (n / 4) := by omega
    rw [h1, h2, ih]
    omega
theorem sb4_p2 : ∀ k n, sb4 k (p2 k n) = sb2 (2 * k) n := by
  intro k
  induction k with
  | zero => intro n; rfl
  | succ k ih =>
    intro n
    have e : sb2 (2 * (k + 1)) n = n % 4 + (n / 4 % 4 + sb2 (2 * k) (n / 4 / 4)) := rfl
    have d : n / 4 / 4 = n / 16 := by omega
    rw [e, d]
    unfold p2 sb4
    have h1 : (n % 4 + n / 4 % 4 + 16 * p2 k (n / 16)) % 16 = n % 4 + n / 4 % 4 := by omega
    have h2 : (n % 4 + n / 4 % 4 + 16 * p2 k (n / 16)) / 16 = p2 k (n / 16) := by omega
    rw [h1, h2, ih]
    omega
theorem sb8_p4 : ∀ k n, sb8 k (p4 k n) = sb4 (2 * k) n := by
  intro k
  induction k with
  | zero => intro n; rfl
  | succ k ih =>
    intro n
    have e : sb4 (2 * (k + 1)) n = n % 16 + (n / 16 % 16 + sb4 (2 * k) (n / 16 / 16)) := rfl
    have d : n / 16 / 16 = n / 256 := by omega
    rw [e, d]
    unfold p4 sb8
    have h1 : (n % 16 + n / 16 % 16 + 256 * p4 k (n / 256)) % 256 = n % 16 + n / 16 % 16 := by omega
    have h2 : (n % 16 + n / 16 % 16 + 256 * p4 k (n / 256)) / 256 = p4 k (n / 256) := by omega
    rw [h1, h2, ih]
    omega
theorem o1_le : ∀ k n, o1 k n ≤ n := by
  intro k
  induction k with
  | zero => intro n; exact Nat.zero_le _
  | succ k ih =>
    intro n
    have q := ih (n / 4)
    unfold o1
    omega
theorem o1_p1 : ∀ k n, n < 4 ^ k → n - o1 k n = p1 k n := by
  intro k
  induction k with
  | zero =>
    intro n h
    have h : n < 1 := h
    have e : n = 0 := by omega
    rw [e]
    rfl
  | succ k ih =>
    intro n h
    rw [Nat.pow_succ] at h
    have q := ih (n / 4) (by omega)
    have r := o1_le k (n / 4)
    unfold o1 p1
    omega
theorem and_sp {a b c d : Nat} (ha : a < 2 ^ s) (hc : c < 2 ^ s) : (a + 2 ^ s * b) &&& (c + 2 ^ s * d) = (a &&& c) + 2 ^ s * (b &&& d) := by
  have hac : a &&& c < 2 ^ s := Nat.lt_of_le_of_lt Nat.and_le_left ha
  apply Nat.eq_of_testBit_eq
  intro i
  rw [Nat.testBit_and, Nat.add_comm a, Nat.add_comm c, Nat.add_comm (a &&& c), Nat.testBit_two_pow_mul_add _ ha, Nat.testBit_two_pow_mul_add _ hc, Nat.testBit_two_pow_mul_add _ hac]
  by_cases h : i < s
  · rw [if_pos h, if_pos h, if_pos h, Nat.testBit_and]
  · rw [if_neg h, if_neg h, if_neg h, Nat.testBit_and]
theorem and_m1 : ∀ k n, (n / 2) &&& mk1 k = o1 k n := by
  intro k
  induction k with
  | zero => intro n; exact Nat.and_zero _
  | succ k ih =>
    intro n
    have q := ih (n / 4)
    have e : n / 2 = n / 2 % 4 + 2 ^ 2 * (n / 4 / 2) := by omega
    unfold mk1 o1
    rw [e, show 4 * mk1 k = 2 ^ 2 * mk1 k from rfl, and_sp (by omega) (by decide), q]
    have f : ∀ a, a < 4 → a &&& 1 = a % 2 := by decide
    rw [f _ (by omega)]
    omega
theorem and_m2 : ∀ k n, n &&& mk2 k = e2 k n := by
  intro k
  induction k with
  | zero => intro n; exact Nat.and_zero _
  | succ k ih =>
    intro n
    have q := ih (n / 16)
    have e : n = n % 16 + 2 ^ 4 * (n / 16) := by omega
    have f : ∀ a, a < 16 → a &&& 3 = a % 4 := by decide
    unfold mk2 e2
    have r : n &&& (3 + 16 * mk2 k) = (n % 16 + 2 ^ 4 * (n / 16)) &&& (3 + 2 ^ 4 * mk2 k) := by rw [← e]
    rw [r, and_sp (by omega) (by decide), q, f _ (by omega)]
    omega
theorem and_m4 : ∀ k n, n &&& mk4 k = e4 k n := by
  intro k
  induction k with
  | zero => intro n; exact Nat.and_zero _
  | succ k ih =>
    intro n
    have q := ih (n / 256)
    have e : n = n % 256 + 2 ^ 8 * (n / 256) := by omega
    have f : ∀ a, a < 256 → a &&& 15 = a % 16 := by decide +kernel
    unfold mk4 e4
    have r : n &&& (15 + 256 * mk4 k) = (n % 256 + 2 ^ 8 * (n / 256)) &&& (15 + 2 ^ 8 * mk4 k) := by rw [← e]
    rw [r, and_sp (by omega) (by decide), q, f _ (by omega)]
    omega
theorem e2_p2 : ∀ k n, e2 k n + e2 k (n / 4) = p2 k n := by
  intro k
  induction k with
  | zero => intro n; rfl
  | succ k ih =>
    intro n
    have q := ih (n / 16)
    have d : n / 4 / 16 = n / 16 / 4 := by omega
    unfold e2 p2
    rw [d]
    omega
theorem nb6_p2 : ∀ k n, nb6 k (p2 (2 * k) n) := by
  intro k
  induction k with
  | zero => intro n; rfl
  | succ k ih =>
    intro n
    have e : p2 (2 * (k + 1)) n = n % 4 + n / 4 % 4 + 16 * (n / 16 % 4 + n / 16 / 4 % 4 + 16 * p2 (2 * k) (n / 16 / 16)) := rfl
    have ha : n % 4 + n / 4 % 4 ≤ 6 := by omega
    have hb : n / 16 % 4 + n / 16 / 4 % 4 ≤ 6 := by omega
    have q := ih (n / 16 / 16)
    unfold nb6
    rw [e]
    revert ha hb q
    generalize n % 4 + n / 4 % 4 = a
    generalize n / 16 % 4 + n / 16 / 4 % 4 = b
    generalize p2 (2 * k) (n / 16 / 16) = x
    intro ha hb q
    have h : (a + 16 * (b + 16 * x)) / 256 = x := by omega
    rw [h]
    exact ⟨by omega, by omega, q⟩
theorem nb6_lo : ∀ k n, nb6 k n → n % 16 ≤ 6 := by
  intro k n h
  cases k with
  | zero =>
    have h : n = 0 := h
    rw [h]
    decide
  | succ k => exact h.1
theorem e4_p4 : ∀ k n, nb6 k n → e4 k (n + n / 16) = p4 k n := by
  intro k
  induction k with
  | zero => intro n _; rfl
  | succ k ih =>
    intro n h
    obtain ⟨h1, h2, h3⟩ := h
    have h4 := nb6_lo k _ h3
    have q := ih (n / 256) h3
    have d : (n + n / 16) / 256 = n / 256 + n / 256 / 16 ∧ (n + n / 16) % 16 = n % 16 + n / 16 % 16 := by
      have e1 : n = n % 16 + 16 * (n / 16 % 16) + 256 * (n / 256) := by omega
      have e2 : n / 16 = n / 16 % 16 + 16 * (n / 256) := by omega
      have e3 : n / 256 = n / 256 % 16 + 16 * (n / 256 / 16) := by omega
      revert h1 h2 h4 e1 e2 e3
      generalize n / 256 / 16 = q
      generalize n / 256 % 16 = r
      generalize n / 256 = m
      generalize n / 16 % 16 = c1
      generalize n / 16 = u
      generalize n % 16 = c0
      intro h1 h2 h4 e1 e2 e3
      subst e1 e2
      constructor <;> omega
    unfold e4 p4
    rw [d.1, d.2, q]
/-- its last three steps -/
def t8 (n : Nat) : Nat := n + n / 256
theorem t8_div {c0 c1 m : Nat} (h0 : c0 ≤ 30) (h1 : c1 ≤ 30) (h2 : m % 256 ≤ 30) : ∃ C, t8 (c0 + 256 * c1 + 65536 * m) = C + 65536 * t8 m ∧ C % 256 = c0 + c1 ∧ C ≤ 15420 := by
  refine ⟨c0 + c1 + 256 * (c1 + m % 256), ?_, by omega, by omega⟩
  unfold t8
  have e : (c0 + 256 * c1 + 65536 * m) / 256 = c1 + 256 * m := by omega
  rw [e]
  omega
theorem t8_all {d0 d1 d2 d3 d4 d5 d6 d7 : Nat} (h0 : d0 ≤ 30) (h1 : d1 ≤ 30) (h2 : d2 ≤ 30) (h3 : d3 ≤ 30) (h4 : d4 ≤ 30) (h5 : d5 ≤ 30) (h6 : d6 ≤ 30) (h7 : d7 ≤ 30) : ∀ n, n = d0 + 256 * d1 + 65536 * (d2 + 256 * d3 + 65536 * (d4 + 256 * d5 + 65536 * (d6 + 256 * d7 + 65536 * 0))) → (n + n / 256 + (n + n / 256) / 65536 + (n + n / 256 + (n + n / 256) / 65536) / 4294967296) % 256 = d0 + (d1 + (d2 + (d3 + (d4 + (d5 + (d6 + d7)))))) := by
  intro n hn
  obtain ⟨C0, a0, b0, c0⟩ := t8_div (m := d2 + 256 * d3 + 65536 * (d4 + 256 * d5 + 65536 * (d6 + 256 * d7 + 65536 * 0))) h0 h1 (by omega)
  obtain ⟨C1, a1, b1, c1⟩ := t8_div (m := d4 + 256 * d5 + 65536 * (d6 + 256 * d7 + 65536 * 0)) h2 h3 (by omega)
  obtain ⟨C2, a2, b2, c2⟩ := t8_div (m := d6 + 256 * d7 + 65536 * 0) h4 h5 (by omega)
  obtain ⟨C3, a3, b3, c3⟩ := t8_div (m := 0) h6 h7 (by decide)
  rw [← hn] at a0
  have e0 : n + n / 256 = t8 n := rfl
  have z : t8 0 = 0 := rfl
  rw [e0]
  rw [z] at a3
  revert a0 a1 a2 a3
  generalize t8 n = A
  generalize t8 (d2 + 256 * d3 + 65536 * (d4 + 256 * d5 + 65536 * (d6 + 256 * d7 + 65536 * 0))) = B
  generalize t8 (d4 + 256 * d5 + 65536 * (d6 + 256 * d7 + 65536 * 0)) = C
  generalize t8 (d6 + 256 * d7 + 65536 * 0) = D
  intro a0 a1 a2 a3
  clear hn e0
  have f1 : A / 65536 = B := by omega
  rw [f1]
  have f2 : (A + B) / 4294967296 = C + D := by
    have g : A + B = C0 + C1 + 65536 * (C1 + C2) + 4294967296 * (C + D) := by omega
    rw [g]
    omega
  rw [f2]
  have f3 : A + B + (C + D) = C0 + C1 + C2 + C3 + 65536 * (B + C + D) := by omega
  rw [f3]
  omega
theorem sb8_end {n : Nat} (h : n < 18446744073709551616) (hd : ∀ i, i < 8 → n / 256 ^ i % 256 ≤ 30) : (n + n / 256 + (n + n / 256) / 65536 + (n + n / 256 + (n + n / 256) / 65536) / 4294967296) % 256 = sb8 8 n := by
  have sp : ∀ m, m = m % 256 + 256 * (m / 256 % 256) + 65536 * (m / 256 / 256) := fun m => by omega
  have dd : ∀ i, n / 256 ^ (i + 1) = n / 256 ^ i / 256 := fun i => by rw [Nat.pow_succ, Nat.div_div_eq_div_mul]
  have g0 := hd 0 (by decide)
  have g1 := hd 1 (by decide)
  have g2 := hd 2 (by decide)
  have g3 := hd 3 (by decide)
  have g4 := hd 4 (by decide)
  have g5 := hd 5 (by decide)
  have g6 := hd 6 (by decide)
  have g7 := hd 7 (by decide)
  have p0 : n / 256 ^ 0 = n := by rw [Nat.pow_zero, Nat.div_one]
  have p1 : n / 256 ^ 1 = n / 256 := by rw [dd 0, p0]
  have p2 : n / 256 ^ 2 = n / 256 / 256 := by rw [dd 1, p1]
  have p3 : n / 256 ^ 3 = n / 256 / 256 / 256 := by rw [dd 2, p2]
  have p4 : n / 256 ^ 4 = n / 256 / 256 / 256 / 256 := by rw [dd 3, p3]
  have p5 : n / 256 ^ 5 = n / 256 / 256 / 256 / 256 / 256 := by rw [dd 4, p4]
  have p6 : n / 256 ^ 6 = n / 256 / 256 / 256 / 256 / 256 / 256 := by rw [dd 5, p5]
  have p7 : n / 256 ^ 7 = n / 256 / 256 / 256 / 256 / 256 / 256 / 256 := by rw [dd 6, p6]
  have p8 : n / 256 / 256 / 256 / 256 / 256 / 256 / 256 / 256 = 0 := by
    have q : n / 256 ^ 8 = 0 := Nat.div_eq_of_lt h
    rw [dd 7, p7] at q
    exact q
  rw [p0] at g0
  rw [p1] at g1
  rw [p2] at g2
  rw [p3] at g3
  rw [p4] at g4
  rw [p5] at g5
  rw [p6] at g6
  rw [p7] at g7
  have e : sb8 8 n = n % 256 + (n / 256 % 256 + (n / 256 / 256 % 256 + (n / 256 / 256 / 256 % 256 + (n / 256 / 256 / 256 / 256 % 256 + (n / 256 / 256 / 256 / 256 / 256 % 256 + (n / 256 / 256 / 256 / 256 / 256 / 256 % 256 + (n / 256 / 256 / 256 / 256 / 256 / 256 / 256 % 256 + 0))))))) := rfl
  rw [e, Nat.add_zero]
  refine t8_all g0 g1 g2 g3 g4 g5 g6 g7 n ?_
  have s0 := sp n
  have s1 := sp (n / 256 / 256)
  have s2 := sp (n / 256 / 256 / 256 / 256)
  have s3 := sp (n / 256 / 256 / 256 / 256 / 256 / 256)
  rw [p8] at s3
  rw [← s3, ← s2, ← s1]
  exact s0
end POPC
/-! ROWS OF LONGS -/
noncomputable def lrw (M : Mem) (a : Nat) : List Int64 := match gNth M a with
  | some (.inl (_, .inr (.inl l))) => l
  | _ => []
noncomputable def lJ (M : Mem) (a j : Nat) : Int64 := (gNth (lrw M a) j).getD 0
noncomputable def wJ (M : Mem) (a j : Nat) (x : Int64) : Mem := match gNth M a with
  | some (.inl (t, .inr (.inl l))) => gPut M a (.inl (t, .inr (.inl (gPut l j x))))
  | _ => M
noncomputable def lgB (g n : Nat) : Bool := match gNth sG g with
  | some (.inr (2, m, _)) => Nat.beq m n
  | _ => false
section LROW
variable {d me pc o np kf mx a b g n k i jn : Nat} {y : MethodName} {cc : ByteArray} {ret : Option FieldType} {tab : List (Nat × Nat × Instr)} {ls : Lo} {st : List Value} {M M' : Mem} {v : Option Value} {c s : Nat} {j : Int32} {x : Int64} {F : Nat → Nat → Prop} {W O : Nat → Prop}
theorem SH.lrow (hS : SH M) (ha : gNth sT a = some g) (hB : lgB g n = true) : gNth M a = some (.inl (2, .inr (.inl (lrw M a)))) ∧ (lrw M a).length = n := by
  unfold lgB at hB
  split at hB
  rotate_left
  · cases hB
  rename_i m q e
  cases Nat.eq_of_beq_eq_true hB
  obtain ⟨e1, h1, h2⟩ := hS.2 a g _ ha e
  obtain ⟨l, rfl, h4⟩ := h2
  have el : lrw M a = l := by
    unfold lrw
    rw [h1]
  rw [el]
  exact ⟨h1, h4⟩
theorem gatl_in {α : Type} {l : List α} {z : α} (h : gAt l j = some z) : 0 ≤ j.toInt ∧ j.toInt < (l.length : Int) ∧ gNth l j.toNatClampNeg = some z := by
  unfold gAt at h
  cases hd : decide (j < 0) with
  | true => rw [hd] at h; cases h
  | false =>
    rw [hd] at h
    have h : gNth l j.toNatClampNeg = some z := h
    have nl : ¬ j < 0 := of_decide_eq_false hd
    have j0 : 0 ≤ j.toInt := by
      have t0 : (0 : Int32).toInt = 0 := rfl
      have q : ¬ j.toInt < (0 : Int32).toInt := fun q => nl (Int32.lt_iff_toInt_lt.mpr q)
      omega
    have hl := gNth_lt _ _ _ h
    rw [cl_n (show j.toInt = ((j.toInt.toNat : Nat) : Int) by omega)] at hl
    exact ⟨j0, by omega, h⟩
theorem Ev.lal (hrow : gNth mRs me = some (o, y, cc, mx, ret, np, kf, tab)) (hl : gLook tab pc = some (3, .laload)) (hS : SH M) (ha : gNth sT a = some g) (hB : lgB g n = true) (h : Ev none d me pc ls (.int j :: .ref a :: st) M v M' c s) : (0 ≤ j.toInt ∧ j.toInt < (n : Int)) ∧ Ev none d me (pc + 1) ls (.long (lJ M a j.toNatClampNeg) :: st) M v M' c s := by
  obtain ⟨st1, M1, e, h⟩ := Ev.get hrow hl h
  obtain ⟨h1, h2⟩ := hS.lrow ha hB
  have e : (match gNth M a with
    | some (.inl (2, .inr (.inl l))) => match gAt l j with
      | some x => some (Value.long x :: st, M)
      | none => none
    | _ => none) = some (st1, M1) := e
  rw [h1] at e
  have e : (match gAt (lrw M a) j with
      | some x => some (Value.long x :: st, M)
      | none => none) = some (st1, M1) := e
  cases hg : gAt (lrw M a) j with
  | none => rw [hg] at e; cases e
  | some x =>
    rw [hg] at e
    cases e
    obtain ⟨q1, q2, q3⟩ := gatl_in hg
    rw [h2] at q2
    refine ⟨⟨q1, q2⟩, ?_⟩
    have el : lJ M a j.toNatClampNeg = x := by
      unfold lJ
      have q4 := q3
      rw [q4]
      rfl
    rw [el]
    exact h
theorem wJ_eq (h : gNth M a = some (.inl (2, .inr (.inl (lrw M a))))) : wJ M a jn x = gPut M a (.inl (2, .inr (.inl (gPut (lrw M a) jn x)))) := by
  unfold wJ
  rw [h]
theorem Ev.las (hrow : gNth mRs me = some (o, y, cc, mx, ret, np, kf, tab)) (hl : gLook tab pc = some (4, .lastore)) (hS : SH M) (ha : gNth sT a = some g) (hB : lgB g n = true) (h : Ev none d me pc ls (.long x :: .int j :: .ref a :: st) M v M' c s) : (0 ≤ j.toInt ∧ j.toInt < (n : Int)) ∧ Ev none d me (pc + 1) ls st (wJ M a j.toNatClampNeg x) v M' c s := by
  obtain ⟨st1, M1, e, h⟩ := Ev.put hrow hl h
  obtain ⟨h1, h2⟩ := hS.lrow ha hB
  have e : (match gNth M a with
    | some (.inl (2, .inr (.inl l))) => match gAt l j with
      | some _ => some (st, gPut M a (.inl (2, .inr (.inl (gPut l j.toNatClampNeg x)))))
      | none => none
    | _ => none) = some (st1, M1) := e
  rw [h1] at e
  have e : (match gAt (lrw M a) j with
      | some _ => some (st, gPut M a (.inl (2, .inr (.inl (gPut (lrw M a) j.toNatClampNeg x)))))
      | none => none) = some (st1, M1) := e
  cases hg : gAt (lrw M a) j with
  | none => rw [hg] at e; cases e
  | some x2 =>
    rw [hg] at e
    cases e
    obtain ⟨q1, q2, q3⟩ := gatl_in hg
    rw [h2] at q2
    rw [wJ_eq h1]
    exact ⟨⟨q1, q2⟩, h⟩
theorem fV_wJ : fV (wJ M a jn x) b k = fV M b k := by
  unfold wJ
  split
  · rename_i kd l hM
    exact fV_put (fun c vs q => by cases q) (fun c vs q => by rw [hM] at q; cases q)
  · rfl
theorem fI_wJ : zI (wJ M a jn x) b k = zI M b k := by unfold zI; rw [fV_wJ]
theorem fR_wJ : fR (wJ M a jn x) b k = fR M b k := by unfold fR; rw [fV_wJ]
theorem rwL_wJ : zrw (wJ M a jn x) b = zrw M b := by
  unfold wJ
  split
  · rename_i t l hM
    unfold zrw
    rw [nth_put]
    by_cases hb : b = a ∧ a < M.length
    · rw [if_pos hb, hb.1, hM]
    · rw [if_neg hb]
  · rfl
theorem roL_wJ : roL (wJ M a jn x) b = roL M b := by
  unfold wJ
  split
  · rename_i t l hM
    unfold roL
    rw [nth_put]
    by_cases hb : b = a ∧ a < M.length
    · rw [if_pos hb, hb.1, hM]
    · rw [if_neg hb]
  · rfl
theorem rN_wJ : rN (wJ M a jn x) b i = rN M b i := by unfold rN; rw [rwL_wJ]
theorem FZ.wJ : FZ F W O M (wJ M a jn x) := ⟨fun _ _ _ => fV_wJ, fun _ _ => rwL_wJ, fun _ _ => roL_wJ⟩
theorem lrw_eq (h : gNth M a = some (.inl (2, .inr (.inl (lrw M a))))) : lrw (wJ M a jn x) a = gPut (lrw M a) jn x := by
  rw [wJ_eq h]
  have e : gNth (gPut M a (.inl (2, .inr (.inl (gPut (lrw M a) jn x))))) a = some (.inl (2, .inr (.inl (gPut (lrw M a) jn x)))) := by rw [nth_put, if_pos ⟨rfl, gNth_lt _ _ _ h⟩]
  show (match gNth (gPut M a (.inl (2, .inr (.inl (gPut (lrw M a) jn x))))) a with
    | some (.inl (_, .inr (.inl l))) => l
    | _ => []) = _
  rw [e]
theorem lJ_eq (hS : SH M) (ha : gNth sT a = some g) (hB : lgB g n = true) (hj : jn < n) : lJ (wJ M a jn x) a jn = x := by
  obtain ⟨h1, h2⟩ := hS.lrow ha hB
  unfold lJ
  rw [lrw_eq h1, nth_put, if_pos ⟨rfl, by omega⟩]
  rfl
theorem lJ_ne (hS : SH M) (ha : gNth sT a = some g) (hB : lgB g n = true) (hi : i ≠ jn) : lJ (wJ M a jn x) a i = lJ M a i := by
  obtain ⟨h1, h2⟩ := hS.lrow ha hB
  unfold lJ
  rw [lrw_eq h1, nth_put, if_neg (fun q => hi q.1)]
theorem SH.kj (hS : SH M) : SH (wJ M a jn x) := by
  unfold wJ
  split
  · rename_i kd l hM
    refine hS.put (fun g t h1 h2 => ?_)
    obtain ⟨e, e1, e2⟩ := hS.2 a g t h1 h2
    cases hM.symm.trans e1
    rcases t with ⟨ci, fs⟩ | ⟨q, n, u⟩
    · obtain ⟨vs, h3, _⟩ := e2
      cases h3
    · match q, u, e2 with
      | 2, u, e2 =>
        obtain ⟨l2, h3, h4⟩ := e2
        cases h3
        exact ⟨_, rfl, by rw [put_len]; exact h4⟩
      | 0, .inl _, e2 => obtain ⟨l2, h3, h4⟩ := e2; cases h3
      | 0, .inr _, e2 => obtain ⟨l2, h3, h4⟩ := e2; cases h3
      | 1, .inl _, e2 => obtain ⟨l2, h3, h4⟩ := e2; cases h3
      | 1, .inr _, e2 => obtain ⟨l2, h3, h4⟩ := e2; cases h3
      | q + 3, .inl _, e2 => obtain ⟨l2, h3, h4⟩ := e2; cases h3
      | q + 3, .inr _, e2 => obtain ⟨l2, h3, h4⟩ := e2; cases h3
  · exact hS
theorem SQ.kj (h : SQ M) : SQ (wJ M a jn x) := ⟨h.1.kj, h.2.mv (fun b i r q => by rw [fV_wJ]; exact q)⟩
end LROW
