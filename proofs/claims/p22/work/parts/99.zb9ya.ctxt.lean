/-! THE CLASS'S READER: pieces of readText, law, habit (made by gcl.py) -/
noncomputable def X_51 (M : Mem) (t : Nat) : Mem := (wF (wF (wF (wF (wF (wF M t 8 0) t 9 0) t 10 40) t 11 50) t 12 10) t 13 3)
theorem g_51 {e : Nat} {M M' : Mem} {v : Option Value} {t : Nat} (hS : SQ M) (a_t : gNth sT t = some 28) (H : Ev none e 51 0 [some (.ref t)] [] M v M' 0 0) : v = none ∧ M' = X_51 M t := by
  unfold X_51
  have H : Ev none e 51 2 [some (.ref t)] [.int 0, .ref t] M v M' 0 0 := Ev.back 2 (fun n => rfl) H
  obtain ⟨N2, eN2⟩ : ∃ N, N = (wF M t 8 0) := ⟨_, rfl⟩
  have hN2 : SQ N2 := by rw [eN2]; exact hS.kf
  have H : Ev none e 51 5 [some (.ref t)] [] N2 v M' 0 0 := by rw [eN2]; exact Ev.pfi rfl rfl rfl hS.1 a_t qi_28_8 H
  have H : Ev none e 51 7 [some (.ref t)] [.int 0, .ref t] N2 v M' 0 0 := Ev.back 2 (fun n => rfl) H
  obtain ⟨N4, eN4⟩ : ∃ N, N = (wF N2 t 9 0) := ⟨_, rfl⟩
  have hN4 : SQ N4 := by rw [eN4]; exact hN2.kf
  have H : Ev none e 51 10 [some (.ref t)] [] N4 v M' 0 0 := by rw [eN4]; exact Ev.pfi rfl rfl rfl hN2.1 a_t qi_28_9 H
  have H : Ev none e 51 13 [some (.ref t)] [.int 40, .ref t] N4 v M' 0 0 := Ev.back 2 (fun n => rfl) H
  obtain ⟨N6, eN6⟩ : ∃ N, N = (wF N4 t 10 40) := ⟨_, rfl⟩
  have hN6 : SQ N6 := by rw [eN6]; exact hN4.kf
  have H : Ev none e 51 16 [some (.ref t)] [] N6 v M' 0 0 := by rw [eN6]; exact Ev.pfi rfl rfl rfl hN4.1 a_t qi_28_10 H
  have H : Ev none e 51 19 [some (.ref t)] [.int 50, .ref t] N6 v M' 0 0 := Ev.back 2 (fun n => rfl) H
  obtain ⟨N8, eN8⟩ : ∃ N, N = (wF N6 t 11 50) := ⟨_, rfl⟩
  have hN8 : SQ N8 := by rw [eN8]; exact hN6.kf
  have H : Ev none e 51 22 [some (.ref t)] [] N8 v M' 0 0 := by rw [eN8]; exact Ev.pfi rfl rfl rfl hN6.1 a_t qi_28_11 H
  have H : Ev none e 51 25 [some (.ref t)] [.int 10, .ref t] N8 v M' 0 0 := Ev.back 2 (fun n => rfl) H
  obtain ⟨N10, eN10⟩ : ∃ N, N = (wF N8 t 12 10) := ⟨_, rfl⟩
  have hN10 : SQ N10 := by rw [eN10]; exact hN8.kf
  have H : Ev none e 51 28 [some (.ref t)] [] N10 v M' 0 0 := by rw [eN10]; exact Ev.pfi rfl rfl rfl hN8.1 a_t qi_28_12 H
  have H : Ev none e 51 30 [some (.ref t)] [.int 3, .ref t] N10 v M' 0 0 := Ev.back 2 (fun n => rfl) H
  obtain ⟨N12, eN12⟩ : ∃ N, N = (wF N10 t 13 3) := ⟨_, rfl⟩
  have hN12 : SQ N12 := by rw [eN12]; exact hN10.kf
  have H : Ev none e 51 33 [some (.ref t)] [] N12 v M' 0 0 := by rw [eN12]; exact Ev.pfi rfl rfl rfl hN10.1 a_t qi_28_13 H
  obtain ⟨p1, p2⟩ := Ev.retb (fun n => rfl) H
  subst eN2 eN4 eN6 eN8 eN10 eN12
  exact ⟨p1, p2⟩
theorem X_51_sx {M : Mem} {t : Nat} (hS : SQ M) (a_t : gNth sT t = some 28) : SQ (X_51 M t) := by
  unfold X_51
  exact (((((hS.kf).kf).kf).kf).kf).kf
theorem rt_0 {e : Nat} {M M' : Mem} {v : Option Value} {lw : Int32} {t : Nat} (hS : SQ M) (a_t : gNth sT t = some 28) (H : Ev none e 26 0 [some (.ref 3), some (.ref t), some (.int lw), none] [] M v M' 0 0) : (∃ e1 v1 M1, e = e1 + 1 ∧ Ev none e1 28 0 [some (.ref 3), none, none, none, none] [] (wF (wF (wF (wF (X_51 (wF (wR M 3 8 t) 3 9 lw) t) 3 10 0) 3 11 0) 3 12 0) 3 13 0) v1 M1 0 0 ∧ Ev none e 26 41 [some (.ref 3), some (.ref t), some (.int lw), none] (v1.toList ++ []) M1 v M' 0 0) := by
  have H : Ev none e 26 2 [some (.ref 3), some (.ref t), some (.int lw), none] [.ref t, .ref 3] M v M' 0 0 := Ev.back 2 (fun n => rfl) H
  obtain ⟨N2, eN2⟩ : ∃ N, N = (wR M 3 8 t) := ⟨_, rfl⟩
  have hN2 : SQ N2 := by rw [eN2]; exact hS.kr_3_8 a_t
  have H : Ev none e 26 5 [some (.ref 3), some (.ref t), some (.int lw), none] [] N2 v M' 0 0 := by rw [eN2]; exact Ev.pfr rfl rfl rfl hS.1 qa_3 qo_3 H
  have H : Ev none e 26 7 [some (.ref 3), some (.ref t), some (.int lw), none] [.int lw, .ref 3] N2 v M' 0 0 := Ev.back 2 (fun n => rfl) H
  obtain ⟨N4, eN4⟩ : ∃ N, N = (wF N2 3 9 lw) := ⟨_, rfl⟩
  have hN4 : SQ N4 := by rw [eN4]; exact hN2.kf
  have H : Ev none e 26 10 [some (.ref 3), some (.ref t), some (.int lw), none] [] N4 v M' 0 0 := by rw [eN4]; exact Ev.pfi rfl rfl rfl hN2.1 qa_3 qi_3_9 H
  have H : Ev none e 26 11 [some (.ref 3), some (.ref t), some (.int lw), none] [.ref 3] N4 v M' 0 0 := Ev.back 1 (fun n => rfl) H
  have H : Ev none e 26 14 [some (.ref 3), some (.ref t), some (.int lw), none] [.ref (fR N4 3 8)] N4 v M' 0 0 := Ev.back 1 (gs_3 rfl rfl (gf_n hN4.1 qa_3 qn_3_8 (by decide) (by rw [(show fR N4 3 8 = fR N2 3 8 from by rw [eN4]; exact fR_wF).trans (show fR N2 3 8 = t from by rw [eN2]; exact fR_wR_eq hS.1 qa_3 qk_3_8)]; exact a_t) rfl)) H
  rw [(show fR N4 3 8 = fR N2 3 8 from by rw [eN4]; exact fR_wF).trans (show fR N2 3 8 = t from by rw [eN2]; exact fR_wR_eq hS.1 qa_3 qk_3_8)] at H
  obtain ⟨e1, rfl⟩ := Ev.dpos rfl rfl H
  obtain ⟨vK5, MK5, K5, H⟩ := Ev.callb (fun n => gs_7 rfl rfl (show gCal (.invokevirtual 36) 3 (.ref t :: []) N4 = some (.inr (51, [some (.ref t)], [])) from by show @cond (Option ((List Value × Mem) ⊕ (Nat × Lo × List Value))) (true && gRecv N4 (.ref t) 6 && gRoom [] && true) (some (.inr (51, [some (.ref t)], []))) none = _; rw [recv_s hN4.1 a_t qo_28]; rfl)) H
  obtain ⟨pK5, qK5⟩ := g_51 hN4 a_t K5
  rw [pK5, qK5] at H
  obtain ⟨N6, eN6⟩ : ∃ N, N = (X_51 N4 t) := ⟨_, rfl⟩
  have hN6 : SQ N6 := by rw [eN6]; exact X_51_sx hN4 a_t
  rw [← eN6] at H
  have H : Ev none (e1 + 1) 26 17 [some (.ref 3), some (.ref t), some (.int lw), none] [] N6 v M' 0 0 := H
  have H : Ev none (e1 + 1) 26 19 [some (.ref 3), some (.ref t), some (.int lw), none] [.int 0, .ref 3] N6 v M' 0 0 := Ev.back 2 (fun n => rfl) H
  obtain ⟨N8, eN8⟩ : ∃ N, N = (wF N6 3 10 0) := ⟨_, rfl⟩
  have hN8 : SQ N8 := by rw [eN8]; exact hN6.kf
  have H : Ev none (e1 + 1) 26 22 [some (.ref 3), some (.ref t), some (.int lw), none] [] N8 v M' 0 0 := by rw [eN8]; exact Ev.pfi rfl rfl rfl hN6.1 qa_3 qi_3_10 H
  have H : Ev none (e1 + 1) 26 24 [some (.ref 3), some (.ref t), some (.int lw), none] [.int 0, .ref 3] N8 v M' 0 0 := Ev.back 2 (fun n => rfl) H
  obtain ⟨N10, eN10⟩ : ∃ N, N = (wF N8 3 11 0) := ⟨_, rfl⟩
  have hN10 : SQ N10 := by rw [eN10]; exact hN8.kf
  have H : Ev none (e1 + 1) 26 27 [some (.ref 3), some (.ref t), some (.int lw), none] [] N10 v M' 0 0 := by rw [eN10]; exact Ev.pfi rfl rfl rfl hN8.1 qa_3 qi_3_11 H
  have H : Ev none (e1 + 1) 26 29 [some (.ref 3), some (.ref t), some (.int lw), none] [.int 0, .ref 3] N10 v M' 0 0 := Ev.back 2 (fun n => rfl) H
  obtain ⟨N12, eN12⟩ : ∃ N, N = (wF N10 3 12 0) := ⟨_, rfl⟩
  have hN12 : SQ N12 := by rw [eN12]; exact hN10.kf
  have H : Ev none (e1 + 1) 26 32 [some (.ref 3), some (.ref t), some (.int lw), none] [] N12 v M' 0 0 := by rw [eN12]; exact Ev.pfi rfl rfl rfl hN10.1 qa_3 qi_3_12 H
  have H : Ev none (e1 + 1) 26 34 [some (.ref 3), some (.ref t), some (.int lw), none] [.int 0, .ref 3] N12 v M' 0 0 := Ev.back 2 (fun n => rfl) H
  obtain ⟨N14, eN14⟩ : ∃ N, N = (wF N12 3 13 0) := ⟨_, rfl⟩
  have hN14 : SQ N14 := by rw [eN14]; exact hN12.kf
  have H : Ev none (e1 + 1) 26 37 [some (.ref 3), some (.ref t), some (.int lw), none] [] N14 v M' 0 0 := by rw [eN14]; exact Ev.pfi rfl rfl rfl hN12.1 qa_3 qi_3_13 H
  have H : Ev none (e1 + 1) 26 38 [some (.ref 3), some (.ref t), some (.int lw), none] [.ref 3] N14 v M' 0 0 := Ev.back 1 (fun n => rfl) H
  obtain ⟨vK15, MK15, K15, H⟩ := Ev.callb (fun n => gs_7 rfl rfl (show gCal (.invokevirtual 54) 3 (.ref 3 :: []) N14 = some (.inr (28, [some (.ref 3), none, none, none, none], [])) from by show @cond (Option ((List Value × Mem) ⊕ (Nat × Lo × List Value))) (true && gRecv N14 (.ref 3) 3 && gRoom [] && true) (some (.inr (28, [some (.ref 3), none, none, none, none], []))) none = _; rw [recv_s hN14.1 qa_3 qo_3]; rfl)) H
  have K15 : Ev none e1 28 0 [some (.ref 3), none, none, none, none] [] N14 vK15 MK15 0 0 := K15
  have HF := H
  subst eN2 eN4 eN6 eN8 eN10 eN12 eN14
  exact ⟨e1, vK15, MK15, rfl, K15, HF⟩
theorem rt_41 {e : Nat} {M M' : Mem} {v : Option Value} {lw : Int32} {c1 : Option Value} (hS : SQ M) (H : Ev none e 26 41 [some (.ref 3), c1, some (.int lw), none] [] M v M' 0 0) : Ev none e 26 58 [some (.ref 3), c1, some (.int lw), some (.int 0)] [] (wF (wF M 3 6 0) 3 7 (rI M 4 0)) v M' 0 0 := by
  have H : Ev none e 26 43 [some (.ref 3), c1, some (.int lw), none] [.int 0, .ref 3] M v M' 0 0 := Ev.back 2 (fun n => rfl) H
  obtain ⟨N2, eN2⟩ : ∃ N, N = (wF M 3 6 0) := ⟨_, rfl⟩
  have hN2 : SQ N2 := by rw [eN2]; exact hS.kf
  have H : Ev none e 26 46 [some (.ref 3), c1, some (.int lw), none] [] N2 v M' 0 0 := by rw [eN2]; exact Ev.pfi rfl rfl rfl hS.1 qa_3 qi_3_6 H
  have H : Ev none e 26 48 [some (.ref 3), c1, some (.int lw), none] [.ref 3, .ref 3] N2 v M' 0 0 := Ev.back 2 (fun n => rfl) H
  have H : Ev none e 26 51 [some (.ref 3), c1, some (.int lw), none] [.ref 4, .ref 3] N2 v M' 0 0 := Ev.back 1 (gs_3 rfl rfl (gf_u hN2.1 qa_3 qr_3_1 qu_4 rfl)) H
  have H : Ev none e 26 52 [some (.ref 3), c1, some (.int lw), none] [.int 0, .ref 4, .ref 3] N2 v M' 0 0 := Ev.back 1 (fun n => rfl) H
  obtain ⟨b3, H⟩ := Ev.ial rfl rfl hN2.1 qa_4 qw_4 H
  have H : Ev none e 26 53 [some (.ref 3), c1, some (.int lw), none] [.int (rI N2 4 0), .ref 3] N2 v M' 0 0 := H
  rw [show rI N2 4 0 = rI M 4 0 from by rw [eN2]; exact rN_wF] at H
  obtain ⟨N5, eN5⟩ : ∃ N, N = (wF N2 3 7 (rI M 4 0)) := ⟨_, rfl⟩
  have hN5 : SQ N5 := by rw [eN5]; exact hN2.kf
  have H : Ev none e 26 56 [some (.ref 3), c1, some (.int lw), none] [] N5 v M' 0 0 := by rw [eN5]; exact Ev.pfi rfl rfl rfl hN2.1 qa_3 qi_3_7 H
  have H : Ev none e 26 58 [some (.ref 3), c1, some (.int lw), some (.int 0)] [] N5 v M' 0 0 := Ev.back 2 (fun n => rfl) H
  have HF := H
  subst eN2 eN5
  exact HF
theorem rt_58 {e : Nat} {M M' : Mem} {v : Option Value} {lw nn : Int32} {c1 : Option Value} (hS : SQ M) (H : Ev none e 26 58 [some (.ref 3), c1, some (.int lw), some (.int nn)] [] M v M' 0 0) : (16 < nn ∧ v = some (.int 0) ∧ M' = M) ∨ (¬ (16 < nn) ∧ (zI M 3 7) = 0 ∧ (zI M 1 1) ≤ 400 ∧ v = some (.int 1) ∧ M' = M) ∨ (¬ (16 < nn) ∧ (zI M 3 7) = 0 ∧ ¬ ((zI M 1 1) ≤ 400) ∧ (∃ e1 v1 M1, e = e1 + 1 ∧ Ev none e1 27 0 [some (.ref 3), some (.int 1)] [] M v1 M1 0 0 ∧ Ev none e 26 89 [some (.ref 3), c1, some (.int lw), some (.int nn)] (v1.toList ++ []) M1 v M' 0 0)) ∨ (¬ (16 < nn) ∧ ¬ ((zI M 3 7) = 0) ∧ (∃ e1 v1 M1, e = e1 + 1 ∧ Ev none e1 33 0 [some (.ref 3), none, none, none, none, none, none] [] M v1 M1 0 0 ∧ Ev none e 26 102 [some (.ref 3), c1, some (.int lw), some (.int nn)] (v1.toList ++ []) M1 v M' 0 0)) := by
  have H : Ev none e 26 (if 16 < nn then 113 else 64) [some (.ref 3), c1, some (.int lw), some (.int nn)] [] M v M' 0 0 := Ev.back 3 (fun n => rfl) H
  by_cases h1 : 16 < nn
  · rw [if_pos h1] at H
    have H : Ev none e 26 114 [some (.ref 3), c1, some (.int lw), some (.int nn)] [.int 0] M v M' 0 0 := Ev.back 1 (fun n => rfl) H
    obtain ⟨z1, z2⟩ := Ev.retz rfl rfl H
    exact Or.inl ⟨h1, z1, z2⟩
  · rw [if_neg h1] at H
    have H : Ev none e 26 65 [some (.ref 3), c1, some (.int lw), some (.int nn)] [.ref 3] M v M' 0 0 := Ev.back 1 (fun n => rfl) H
    have H : Ev none e 26 68 [some (.ref 3), c1, some (.int lw), some (.int nn)] [.int (zI M 3 7)] M v M' 0 0 := Ev.back 1 (gs_3 rfl rfl (gf_i hS.1 qa_3 qi_3_7 rfl)) H
    have H : Ev none e 26 (if (zI M 3 7) = 0 then 71 else 98) [some (.ref 3), c1, some (.int lw), some (.int nn)] [] M v M' 0 0 := Ev.back 1 (fun n => rfl) H
    by_cases h2 : (zI M 3 7) = 0
    · rw [if_pos h2] at H
      have H : Ev none e 26 72 [some (.ref 3), c1, some (.int lw), some (.int nn)] [.ref 3] M v M' 0 0 := Ev.back 1 (fun n => rfl) H
      have H : Ev none e 26 75 [some (.ref 3), c1, some (.int lw), some (.int nn)] [.ref 1] M v M' 0 0 := Ev.back 1 (gs_3 rfl rfl (gf_u hS.1 qa_3 qr_3_0 qu_1 rfl)) H
      have H : Ev none e 26 78 [some (.ref 3), c1, some (.int lw), some (.int nn)] [.int (zI M 1 1)] M v M' 0 0 := Ev.back 1 (gs_3 rfl rfl (gf_i hS.1 qa_1 qi_1_1 rfl)) H
      have H : Ev none e 26 (if (zI M 1 1) ≤ 400 then 92 else 84) [some (.ref 3), c1, some (.int lw), some (.int nn)] [] M v M' 0 0 := Ev.back 2 (fun n => rfl) H
      by_cases h3 : (zI M 1 1) ≤ 400
      · rw [if_pos h3] at H
        have H : Ev none e 26 97 [some (.ref 3), c1, some (.int lw), some (.int nn)] [.int 1] M v M' 0 0 := Ev.back 2 (fun n => rfl) H
        obtain ⟨z1, z2⟩ := Ev.retz rfl rfl H
        exact Or.inr (Or.inl ⟨h1, h2, h3, z1, z2⟩)
      · rw [if_neg h3] at H
        have H : Ev none e 26 86 [some (.ref 3), c1, some (.int lw), some (.int nn)] [.int 1, .ref 3] M v M' 0 0 := Ev.back 2 (fun n => rfl) H
        obtain ⟨e1, rfl⟩ := Ev.dpos rfl rfl H
        obtain ⟨vK4, MK4, K4, H⟩ := Ev.callb (fun n => gs_7 rfl rfl (show gCal (.invokevirtual 68) 3 (.int 1 :: .ref 3 :: []) M = some (.inr (27, [some (.ref 3), some (.int 1)], [])) from by show @cond (Option ((List Value × Mem) ⊕ (Nat × Lo × List Value))) (true && gRecv M (.ref 3) 3 && gRoom [] && true) (some (.inr (27, [some (.ref 3), some (.int 1)], []))) none = _; rw [recv_s hS.1 qa_3 qo_3]; rfl)) H
        have K4 : Ev none e1 27 0 [some (.ref 3), some (.int 1)] [] M vK4 MK4 0 0 := K4
        have HF := H
        exact Or.inr (Or.inr (Or.inl ⟨h1, h2, h3, ⟨e1, vK4, MK4, rfl, K4, HF⟩⟩))
    · rw [if_neg h2] at H
      have H : Ev none e 26 99 [some (.ref 3), c1, some (.int lw), some (.int nn)] [.ref 3] M v M' 0 0 := Ev.back 1 (fun n => rfl) H
      obtain ⟨e1, rfl⟩ := Ev.dpos rfl rfl H
      obtain ⟨vK5, MK5, K5, H⟩ := Ev.callb (fun n => gs_7 rfl rfl (show gCal (.invokevirtual 72) 3 (.ref 3 :: []) M = some (.inr (33, [some (.ref 3), none, none, none, none, none, none], [])) from by show @cond (Option ((List Value × Mem) ⊕ (Nat × Lo × List Value))) (true && gRecv M (.ref 3) 3 && gRoom [] && true) (some (.inr (33, [some (.ref 3), none, none, none, none, none, none], []))) none = _; rw [recv_s hS.1 qa_3 qo_3]; rfl)) H
      have K5 : Ev none e1 33 0 [some (.ref 3), none, none, none, none, none, none] [] M vK5 MK5 0 0 := K5
      have HF := H
      exact Or.inr (Or.inr (Or.inr (⟨h1, h2, ⟨e1, vK5, MK5, rfl, K5, HF⟩⟩)))
theorem rt_89 {e : Nat} {M M' : Mem} {v : Option Value} {lw nn y : Int32} {c1 : Option Value} (hS : SQ M) (H : Ev none e 26 89 [some (.ref 3), c1, some (.int lw), some (.int nn)] [.int y] M v M' 0 0) : (y = 0 ∧ v = some (.int 0) ∧ M' = M) ∨ (¬ (y = 0) ∧ v = some (.int 1) ∧ M' = M) := by
  have H : Ev none e 26 (if y = 0 then 96 else 92) [some (.ref 3), c1, some (.int lw), some (.int nn)] [] M v M' 0 0 := Ev.back 1 (fun n => rfl) H
  by_cases h1 : y = 0
  · rw [if_pos h1] at H
    have H : Ev none e 26 97 [some (.ref 3), c1, some (.int lw), some (.int nn)] [.int 0] M v M' 0 0 := Ev.back 1 (fun n => rfl) H
    obtain ⟨z1, z2⟩ := Ev.retz rfl rfl H
    exact Or.inl ⟨h1, z1, z2⟩
  · rw [if_neg h1] at H
    have H : Ev none e 26 97 [some (.ref 3), c1, some (.int lw), some (.int nn)] [.int 1] M v M' 0 0 := Ev.back 2 (fun n => rfl) H
    obtain ⟨z1, z2⟩ := Ev.retz rfl rfl H
    exact Or.inr (⟨h1, z1, z2⟩)
theorem rt_102 {e : Nat} {M M' : Mem} {v : Option Value} {lw nn y : Int32} {c1 : Option Value} (hS : SQ M) (H : Ev none e 26 102 [some (.ref 3), c1, some (.int lw), some (.int nn)] [.int y] M v M' 0 0) : (y = 0 ∧ v = some (.int 0) ∧ M' = M) ∨ (¬ (y = 0) ∧ Ev none e 26 58 [some (.ref 3), c1, some (.int lw), some (.int (nn + 1))] [] M v M' 0 0) := by
  have H : Ev none e 26 (if y = 0 then 105 else 107) [some (.ref 3), c1, some (.int lw), some (.int nn)] [] M v M' 0 0 := Ev.back 1 (fun n => rfl) H
  by_cases h1 : y = 0
  · rw [if_pos h1] at H
    have H : Ev none e 26 106 [some (.ref 3), c1, some (.int lw), some (.int nn)] [.int 0] M v M' 0 0 := Ev.back 1 (fun n => rfl) H
    obtain ⟨z1, z2⟩ := Ev.retz rfl rfl H
    exact Or.inl ⟨h1, z1, z2⟩
  · rw [if_neg h1] at H
    have H : Ev none e 26 58 [some (.ref 3), c1, some (.int lw), some (.int (nn + 1))] [] M v M' 0 0 := Ev.back 2 (fun n => rfl) H
    have HF := H
    exact Or.inr (⟨h1, HF⟩)
theorem lw_0 {e : Nat} {M M' : Mem} {v : Option Value} (hS : SQ M) (H : Ev none e 85 0 [some (.ref 0), none, none] [] M v M' 0 0) : (∃ e1 v1 M1, e = e1 + 1 ∧ Ev none e1 26 0 [some (.ref 3), some (.ref (fR M 104 3)), some (.int 1), none] [] M v1 M1 0 0 ∧ Ev none e 85 15 [some (.ref 0), none, none] (v1.toList ++ []) M1 v M' 0 0) := by
  have H : Ev none e 85 1 [some (.ref 0), none, none] [.ref 0] M v M' 0 0 := Ev.back 1 (fun n => rfl) H
  have H : Ev none e 85 4 [some (.ref 0), none, none] [.ref 3] M v M' 0 0 := Ev.back 1 (gs_3 rfl rfl (gf_u hS.1 qa_0 qr_0_1 qu_3 rfl)) H
  have H : Ev none e 85 5 [some (.ref 0), none, none] [.ref 0, .ref 3] M v M' 0 0 := Ev.back 1 (fun n => rfl) H
  have H : Ev none e 85 8 [some (.ref 0), none, none] [.ref 104, .ref 3] M v M' 0 0 := Ev.back 1 (gs_3 rfl rfl (gf_u hS.1 qa_0 qr_0_3 qu_22 rfl)) H
  have H : Ev none e 85 11 [some (.ref 0), none, none] [.ref (fR M 104 3), .ref 3] M v M' 0 0 := Ev.back 1 (gs_3 rfl rfl (gf_r hS.1 qa_104 qr_22_3 rfl)) H
  have H : Ev none e 85 12 [some (.ref 0), none, none] [.int 1, .ref (fR M 104 3), .ref 3] M v M' 0 0 := Ev.back 1 (fun n => rfl) H
  obtain ⟨e1, rfl⟩ := Ev.dpos rfl rfl H
  obtain ⟨vK1, MK1, K1, H⟩ := Ev.callb (fun n => gs_7 rfl rfl (show gCal (.invokevirtual 130) 10 (.int 1 :: .ref (fR M 104 3) :: .ref 3 :: []) M = some (.inr (26, [some (.ref 3), some (.ref (fR M 104 3)), some (.int 1), none], [])) from by show @cond (Option ((List Value × Mem) ⊕ (Nat × Lo × List Value))) (true && gRecv M (.ref 3) 3 && gRoom [] && true) (some (.inr (26, [some (.ref 3), some (.ref (fR M 104 3)), some (.int 1), none], []))) none = _; rw [recv_s hS.1 qa_3 qo_3]; rfl)) H
  have K1 : Ev none e1 26 0 [some (.ref 3), some (.ref (fR M 104 3)), some (.int 1), none] [] M vK1 MK1 0 0 := K1
  have HF := H
  exact ⟨e1, vK1, MK1, rfl, K1, HF⟩
theorem lw_15 {e : Nat} {M M' : Mem} {v : Option Value} {y : Int32} (hS : SQ M) (H : Ev none e 85 15 [some (.ref 0), none, none] [.int y] M v M' 0 0) : (y = 0 ∧ (∃ e1 v1 M1, e = e1 + 1 ∧ Ev none e1 87 0 [some (.ref 0), some (.int y), some (.ref (fR M 104 2))] [] M v1 M1 0 0 ∧ Ev none e 85 62 [some (.ref 0), some (.int y), none] (v1.toList ++ []) M1 v M' 0 0)) ∨ (¬ (y = 0) ∧ (∃ e1 v1 M1, e = e1 + 1 ∧ Ev none e1 87 0 [some (.ref 0), some (.int y), some (.ref (fR (wR (wR M 104 2 (fR M 104 3)) 104 3 (fR M 104 2)) 104 2))] [] (wR (wR M 104 2 (fR M 104 3)) 104 3 (fR M 104 2)) v1 M1 0 0 ∧ Ev none e 85 62 [some (.ref 0), some (.int y), some (.ref (fR M 104 2))] (v1.toList ++ []) M1 v M' 0 0)) := by
  have H : Ev none e 85 (if y = 0 then 50 else 20) [some (.ref 0), some (.int y), none] [] M v M' 0 0 := Ev.back 3 (fun n => rfl) H
  by_cases h1 : y = 0
  · rw [if_pos h1] at H
    have H : Ev none e 85 53 [some (.ref 0), some (.int y), none] [.ref 0, .int y, .ref 0] M v M' 0 0 := Ev.back 3 (fun n => rfl) H
    have H : Ev none e 85 56 [some (.ref 0), some (.int y), none] [.ref 104, .int y, .ref 0] M v M' 0 0 := Ev.back 1 (gs_3 rfl rfl (gf_u hS.1 qa_0 qr_0_3 qu_22 rfl)) H
    have H : Ev none e 85 59 [some (.ref 0), some (.int y), none] [.ref (fR M 104 2), .int y, .ref 0] M v M' 0 0 := Ev.back 1 (gs_3 rfl rfl (gf_r hS.1 qa_104 qr_22_2 rfl)) H
    obtain ⟨e1, rfl⟩ := Ev.dpos rfl rfl H
    obtain ⟨vK2, MK2, K2, H⟩ := Ev.callb (fun n => gs_7 rfl rfl (show gCal (.invokevirtual 137) 10 (.ref (fR M 104 2) :: .int y :: .ref 0 :: []) M = some (.inr (87, [some (.ref 0), some (.int y), some (.ref (fR M 104 2))], [])) from by show @cond (Option ((List Value × Mem) ⊕ (Nat × Lo × List Value))) (true && gRecv M (.ref 0) 10 && gRoom [] && true) (some (.inr (87, [some (.ref 0), some (.int y), some (.ref (fR M 104 2))], []))) none = _; rw [recv_s hS.1 qa_0 qo_0]; rfl)) H
    have K2 : Ev none e1 87 0 [some (.ref 0), some (.int y), some (.ref (fR M 104 2))] [] M vK2 MK2 0 0 := K2
    have HF := H
    exact Or.inl ⟨h1, ⟨e1, vK2, MK2, rfl, K2, HF⟩⟩
  · rw [if_neg h1] at H
    have H : Ev none e 85 21 [some (.ref 0), some (.int y), none] [.ref 0] M v M' 0 0 := Ev.back 1 (fun n => rfl) H
    have H : Ev none e 85 24 [some (.ref 0), some (.int y), none] [.ref 104] M v M' 0 0 := Ev.back 1 (gs_3 rfl rfl (gf_u hS.1 qa_0 qr_0_3 qu_22 rfl)) H
    have H : Ev none e 85 27 [some (.ref 0), some (.int y), none] [.ref (fR M 104 2)] M v M' 0 0 := Ev.back 1 (gs_3 rfl rfl (gf_r hS.1 qa_104 qr_22_2 rfl)) H
    have H : Ev none e 85 29 [some (.ref 0), some (.int y), some (.ref (fR M 104 2))] [.ref 0] M v M' 0 0 := Ev.back 2 (fun n => rfl) H
    have H : Ev none e 85 32 [some (.ref 0), some (.int y), some (.ref (fR M 104 2))] [.ref 104] M v M' 0 0 := Ev.back 1 (gs_3 rfl rfl (gf_u hS.1 qa_0 qr_0_3 qu_22 rfl)) H
    have H : Ev none e 85 33 [some (.ref 0), some (.int y), some (.ref (fR M 104 2))] [.ref 0, .ref 104] M v M' 0 0 := Ev.back 1 (fun n => rfl) H
    have H : Ev none e 85 36 [some (.ref 0), some (.int y), some (.ref (fR M 104 2))] [.ref 104, .ref 104] M v M' 0 0 := Ev.back 1 (gs_3 rfl rfl (gf_u hS.1 qa_0 qr_0_3 qu_22 rfl)) H
    have H : Ev none e 85 39 [some (.ref 0), some (.int y), some (.ref (fR M 104 2))] [.ref (fR M 104 3), .ref 104] M v M' 0 0 := Ev.back 1 (gs_3 rfl rfl (gf_r hS.1 qa_104 qr_22_3 rfl)) H
    obtain ⟨N4, eN4⟩ : ∃ N, N = (wR M 104 2 (fR M 104 3)) := ⟨_, rfl⟩
    have hN4 : SQ N4 := by rw [eN4]; exact hS.kr_22_2 (hS.1.fr qa_104 qr_22_3).2
    have H : Ev none e 85 42 [some (.ref 0), some (.int y), some (.ref (fR M 104 2))] [] N4 v M' 0 0 := by rw [eN4]; exact Ev.pfr rfl rfl rfl hS.1 qa_104 qo_22 H
    have H : Ev none e 85 43 [some (.ref 0), some (.int y), some (.ref (fR M 104 2))] [.ref 0] N4 v M' 0 0 := Ev.back 1 (fun n => rfl) H
    have H : Ev none e 85 46 [some (.ref 0), some (.int y), some (.ref (fR M 104 2))] [.ref 104] N4 v M' 0 0 := Ev.back 1 (gs_3 rfl rfl (gf_u hN4.1 qa_0 qr_0_3 qu_22 rfl)) H
    have H : Ev none e 85 47 [some (.ref 0), some (.int y), some (.ref (fR M 104 2))] [.ref (fR M 104 2), .ref 104] N4 v M' 0 0 := Ev.back 1 (fun n => rfl) H
    obtain ⟨N6, eN6⟩ : ∃ N, N = (wR N4 104 3 (fR M 104 2)) := ⟨_, rfl⟩
    have hN6 : SQ N6 := by rw [eN6]; exact hN4.kr_22_3 (hS.1.fr qa_104 qr_22_2).2
    have H : Ev none e 85 50 [some (.ref 0), some (.int y), some (.ref (fR M 104 2))] [] N6 v M' 0 0 := by rw [eN6]; exact Ev.pfr rfl rfl rfl hN4.1 qa_104 qo_22 H
    have H : Ev none e 85 53 [some (.ref 0), some (.int y), some (.ref (fR M 104 2))] [.ref 0, .int y, .ref 0] N6 v M' 0 0 := Ev.back 3 (fun n => rfl) H
    have H : Ev none e 85 56 [some (.ref 0), some (.int y), some (.ref (fR M 104 2))] [.ref 104, .int y, .ref 0] N6 v M' 0 0 := Ev.back 1 (gs_3 rfl rfl (gf_u hN6.1 qa_0 qr_0_3 qu_22 rfl)) H
    have H : Ev none e 85 59 [some (.ref 0), some (.int y), some (.ref (fR M 104 2))] [.ref (fR N6 104 2), .int y, .ref 0] N6 v M' 0 0 := Ev.back 1 (gs_3 rfl rfl (gf_r hN6.1 qa_104 qr_22_2 rfl)) H
    obtain ⟨e1, rfl⟩ := Ev.dpos rfl rfl H
    obtain ⟨vK7, MK7, K7, H⟩ := Ev.callb (fun n => gs_7 rfl rfl (show gCal (.invokevirtual 137) 10 (.ref (fR N6 104 2) :: .int y :: .ref 0 :: []) N6 = some (.inr (87, [some (.ref 0), some (.int y), some (.ref (fR N6 104 2))], [])) from by show @cond (Option ((List Value × Mem) ⊕ (Nat × Lo × List Value))) (true && gRecv N6 (.ref 0) 10 && gRoom [] && true) (some (.inr (87, [some (.ref 0), some (.int y), some (.ref (fR N6 104 2))], []))) none = _; rw [recv_s hN6.1 qa_0 qo_0]; rfl)) H
    have K7 : Ev none e1 87 0 [some (.ref 0), some (.int y), some (.ref (fR N6 104 2))] [] N6 vK7 MK7 0 0 := K7
    have HF := H
    subst eN4 eN6
    exact Or.inr (⟨h1, ⟨e1, vK7, MK7, rfl, K7, HF⟩⟩)
theorem lw_62 {e : Nat} {M M' : Mem} {v : Option Value} {y z : Int32} {c2 : Option Value} (hS : SQ M) (H : Ev none e 85 62 [some (.ref 0), some (.int y), c2] [.int z] M v M' 0 0) : v = some (.int z) ∧ M' = M := by
  obtain ⟨z1, z2⟩ := Ev.retz rfl rfl H
  exact ⟨z1, z2⟩
theorem rends_0 {e : Nat} {M M' : Mem} {v : Option Value} {y : Int32} {t : Nat} (hS : SQ M) (a_t : gNth sT t = some 28) (H : Ev none e 87 0 [some (.ref 0), some (.int y), some (.ref t)] [] M v M' 0 0) : (y = 0 ∧ v = some (.int ((-1) - (zI M 3 13))) ∧ M' = (wF (wF M 1 1 0) 0 15 (zI M 3 12))) ∨ (¬ (y = 0) ∧ v = some (.int (zI M t 8)) ∧ M' = (wF (wF M 1 1 0) 0 15 (zI M 3 12))) := by
  have H : Ev none e 87 1 [some (.ref 0), some (.int y), some (.ref t)] [.ref 0] M v M' 0 0 := Ev.back 1 (fun n => rfl) H
  have H : Ev none e 87 4 [some (.ref 0), some (.int y), some (.ref t)] [.ref 1] M v M' 0 0 := Ev.back 1 (gs_3 rfl rfl (gf_u hS.1 qa_0 qr_0_0 qu_1 rfl)) H
  have H : Ev none e 87 5 [some (.ref 0), some (.int y), some (.ref t)] [.int 0, .ref 1] M v M' 0 0 := Ev.back 1 (fun n => rfl) H
  obtain ⟨N2, eN2⟩ : ∃ N, N = (wF M 1 1 0) := ⟨_, rfl⟩
  have hN2 : SQ N2 := by rw [eN2]; exact hS.kf
  have H : Ev none e 87 8 [some (.ref 0), some (.int y), some (.ref t)] [] N2 v M' 0 0 := by rw [eN2]; exact Ev.pfi rfl rfl rfl hS.1 qa_1 qi_1_1 H
  have H : Ev none e 87 10 [some (.ref 0), some (.int y), some (.ref t)] [.ref 0, .ref 0] N2 v M' 0 0 := Ev.back 2 (fun n => rfl) H
  have H : Ev none e 87 13 [some (.ref 0), some (.int y), some (.ref t)] [.ref 3, .ref 0] N2 v M' 0 0 := Ev.back 1 (gs_3 rfl rfl (gf_u hN2.1 qa_0 qr_0_1 qu_3 rfl)) H
  have H : Ev none e 87 16 [some (.ref 0), some (.int y), some (.ref t)] [.int (zI N2 3 12), .ref 0] N2 v M' 0 0 := Ev.back 1 (gs_3 rfl rfl (gf_i hN2.1 qa_3 qi_3_12 rfl)) H
  rw [show zI N2 3 12 = zI M 3 12 from by rw [eN2]; exact fI_wF_ne (fun q => absurd q.2 (by decide))] at H
  obtain ⟨N4, eN4⟩ : ∃ N, N = (wF N2 0 15 (zI M 3 12)) := ⟨_, rfl⟩
  have hN4 : SQ N4 := by rw [eN4]; exact hN2.kf
  have H : Ev none e 87 19 [some (.ref 0), some (.int y), some (.ref t)] [] N4 v M' 0 0 := by rw [eN4]; exact Ev.pfi rfl rfl rfl hN2.1 qa_0 qi_0_15 H
  have H : Ev none e 87 (if y = 0 then 30 else 23) [some (.ref 0), some (.int y), some (.ref t)] [] N4 v M' 0 0 := Ev.back 2 (fun n => rfl) H
  by_cases h5 : y = 0
  · rw [if_pos h5] at H
    have H : Ev none e 87 32 [some (.ref 0), some (.int y), some (.ref t)] [.ref 0, .int (-1)] N4 v M' 0 0 := Ev.back 2 (fun n => rfl) H
    have H : Ev none e 87 35 [some (.ref 0), some (.int y), some (.ref t)] [.ref 3, .int (-1)] N4 v M' 0 0 := Ev.back 1 (gs_3 rfl rfl (gf_u hN4.1 qa_0 qr_0_1 qu_3 rfl)) H
    have H : Ev none e 87 38 [some (.ref 0), some (.int y), some (.ref t)] [.int (zI N4 3 13), .int (-1)] N4 v M' 0 0 := Ev.back 1 (gs_3 rfl rfl (gf_i hN4.1 qa_3 qi_3_13 rfl)) H
    rw [(show zI N4 3 13 = zI N2 3 13 from by rw [eN4]; exact fI_wF_ne (fun q => absurd q.2 (by decide))).trans (show zI N2 3 13 = zI M 3 13 from by rw [eN2]; exact fI_wF_ne (fun q => absurd q.2 (by decide)))] at H
    obtain ⟨m6, em6⟩ : ∃ m : Int32, m = (-1) := ⟨_, rfl⟩
    have H : Ev none e 87 38 [some (.ref 0), some (.int y), some (.ref t)] [.int (zI M 3 13), .int m6] N4 v M' 0 0 := by rw [em6]; exact H
    have H : Ev none e 87 39 [some (.ref 0), some (.int y), some (.ref t)] [.int (m6 - (zI M 3 13))] N4 v M' 0 0 := Ev.back 1 (fun n => rfl) H
    rw [em6] at H
    obtain ⟨z1, z2⟩ := Ev.retz rfl rfl H
    subst eN2 eN4
    exact Or.inl ⟨h5, z1, z2⟩
  · rw [if_neg h5] at H
    have H : Ev none e 87 24 [some (.ref 0), some (.int y), some (.ref t)] [.ref t] N4 v M' 0 0 := Ev.back 1 (fun n => rfl) H
    have H : Ev none e 87 27 [some (.ref 0), some (.int y), some (.ref t)] [.int (zI N4 t 8)] N4 v M' 0 0 := Ev.back 1 (gs_3 rfl rfl (gf_i hN4.1 a_t qi_28_8 rfl)) H
    rw [(show zI N4 t 8 = zI N2 t 8 from by rw [eN4]; exact fI_wF_ne (fun q => absurd q.2 (by decide))).trans (show zI N2 t 8 = zI M t 8 from by rw [eN2]; exact fI_wF_ne (fun q => absurd q.2 (by decide)))] at H
    have H : Ev none e 87 39 [some (.ref 0), some (.int y), some (.ref t)] [.int (zI M t 8)] N4 v M' 0 0 := Ev.back 1 (fun n => rfl) H
    obtain ⟨z1, z2⟩ := Ev.retz rfl rfl H
    subst eN2 eN4
    exact Or.inr (⟨h5, z1, z2⟩)
