/-! THE CLASS'S READER: pieces of line (made by gcl.py) -/
theorem nb0_0 {e : Nat} {M M' : Mem} {v : Option Value} {i : Int32} (hS : SQ M) (a_t : gNth sT (fR M 3 8) = some 28) (H : Ev none e 35 0 [some (.ref 3), some (.int i), some (.int 0), none, none, none] [] M v M' 0 0) : ((zI M 3 7) = 3 ∧ 999 < (rI M 7 (zI M 3 6)) ∧ (0 ≤ (zI M 3 6).toInt ∧ (zI M 3 6).toInt < 401) ∧ (∃ e1 v1 M1, e = e1 + 1 ∧ Ev none e1 27 0 [some (.ref 3), some (.int 2)] [] M v1 M1 0 0 ∧ Ev none e 35 71 [some (.ref 3), some (.int i), some (.int 0), some (.int (rI M 7 (zI M 3 6))), some (.int 999), none] (v1.toList ++ []) M1 v M' 0 0)) ∨ ((zI M 3 7) = 3 ∧ ¬ (999 < (rI M 7 (zI M 3 6))) ∧ (0 ≤ (zI M 3 6).toInt ∧ (zI M 3 6).toInt < 401) ∧ (0 ≤ i.toInt ∧ i.toInt < 16) ∧ (∃ e1 v1 M1, e = e1 + 1 ∧ Ev none e1 31 0 [some (.ref 3)] [] (wF (wI M (fR M 3 8 + 3) i.toNatClampNeg (rI M 7 (zI M 3 6))) 3 10 ((zI M 3 10) ||| 0)) v1 M1 0 0 ∧ Ev none e 35 217 [some (.ref 3), some (.int i), some (.int 0), some (.int (rI M 7 (zI M 3 6))), some (.int 999), some (.int 0)] (v1.toList ++ []) M1 v M' 0 0)) ∨ (¬ ((zI M 3 7) = 3) ∧ (∃ e1 v1 M1, e = e1 + 1 ∧ Ev none e1 27 0 [some (.ref 3), some (.int 1)] [] M v1 M1 0 0 ∧ Ev none e 35 13 [some (.ref 3), some (.int i), some (.int 0), none, none, none] (v1.toList ++ []) M1 v M' 0 0)) := by
  have H : Ev none e 35 1 [some (.ref 3), some (.int i), some (.int 0), none, none, none] [.ref 3] M v M' 0 0 := Ev.back 1 (fun n => rfl) H
  have H : Ev none e 35 4 [some (.ref 3), some (.int i), some (.int 0), none, none, none] [.int (zI M 3 7)] M v M' 0 0 := Ev.back 1 (gs_3 rfl rfl (gf_i hS.1 qa_3 qi_3_7 rfl)) H
  have H : Ev none e 35 (if (zI M 3 7) = 3 then 14 else 8) [some (.ref 3), some (.int i), some (.int 0), none, none, none] [] M v M' 0 0 := Ev.back 2 (fun n => rfl) H
  by_cases h1 : (zI M 3 7) = 3
  · rw [if_pos h1] at H
    have H : Ev none e 35 15 [some (.ref 3), some (.int i), some (.int 0), none, none, none] [.ref 3] M v M' 0 0 := Ev.back 1 (fun n => rfl) H
    have H : Ev none e 35 18 [some (.ref 3), some (.int i), some (.int 0), none, none, none] [.ref 7] M v M' 0 0 := Ev.back 1 (gs_3 rfl rfl (gf_u hS.1 qa_3 qr_3_4 qu_7 rfl)) H
    have H : Ev none e 35 19 [some (.ref 3), some (.int i), some (.int 0), none, none, none] [.ref 3, .ref 7] M v M' 0 0 := Ev.back 1 (fun n => rfl) H
    have H : Ev none e 35 22 [some (.ref 3), some (.int i), some (.int 0), none, none, none] [.int (zI M 3 6), .ref 7] M v M' 0 0 := Ev.back 1 (gs_3 rfl rfl (gf_i hS.1 qa_3 qi_3_6 rfl)) H
    obtain ⟨b2, H⟩ := Ev.ial rfl rfl hS.1 qa_7 qw_7 H
    have H : Ev none e 35 23 [some (.ref 3), some (.int i), some (.int 0), none, none, none] [.int (rI M 7 (zI M 3 6))] M v M' 0 0 := H
    have H : Ev none e 35 (if 0 = 5 then 29 else 34) [some (.ref 3), some (.int i), some (.int 0), some (.int (rI M 7 (zI M 3 6))), none, none] [] M v M' 0 0 := Ev.back 4 (fun n => rfl) H
    rw [if_neg (by decide)] at H
    have H : Ev none e 35 (if 0 = 7 then 40 else 45) [some (.ref 3), some (.int i), some (.int 0), some (.int (rI M 7 (zI M 3 6))), none, none] [] M v M' 0 0 := Ev.back 3 (fun n => rfl) H
    rw [if_neg (by decide)] at H
    have H : Ev none e 35 (if 999 < (rI M 7 (zI M 3 6)) then 66 else 56) [some (.ref 3), some (.int i), some (.int 0), some (.int (rI M 7 (zI M 3 6))), some (.int 999), none] [] M v M' 0 0 := Ev.back 5 (fun n => rfl) H
    by_cases h3 : 999 < (rI M 7 (zI M 3 6))
    · rw [if_pos h3] at H
      have H : Ev none e 35 68 [some (.ref 3), some (.int i), some (.int 0), some (.int (rI M 7 (zI M 3 6))), some (.int 999), none] [.int 2, .ref 3] M v M' 0 0 := Ev.back 2 (fun n => rfl) H
      obtain ⟨e1, rfl⟩ := Ev.dpos rfl rfl H
      obtain ⟨vK4, MK4, K4, H⟩ := Ev.callb (fun n => gs_7 rfl rfl (show gCal (.invokevirtual 68) 3 (.int 2 :: .ref 3 :: []) M = some (.inr (27, [some (.ref 3), some (.int 2)], [])) from by show @cond (Option ((List Value × Mem) ⊕ (Nat × Lo × List Value))) (true && gRecv M (.ref 3) 3 && gRoom [] && true) (some (.inr (27, [some (.ref 3), some (.int 2)], []))) none = _; rw [recv_s hS.1 qa_3 qo_3]; rfl)) H
      have K4 : Ev none e1 27 0 [some (.ref 3), some (.int 2)] [] M vK4 MK4 0 0 := K4
      have HF := H
      exact Or.inl ⟨h1, h3, b2, ⟨e1, vK4, MK4, rfl, K4, HF⟩⟩
    · rw [if_neg h3] at H
      have H : Ev none e 35 (if 0 = 2 then 61 else 72) [some (.ref 3), some (.int i), some (.int 0), some (.int (rI M 7 (zI M 3 6))), some (.int 999), none] [] M v M' 0 0 := Ev.back 3 (fun n => rfl) H
      rw [if_neg (by decide)] at H
      have H : Ev none e 35 73 [some (.ref 3), some (.int i), some (.int 0), some (.int (rI M 7 (zI M 3 6))), some (.int 999), none] [.ref 3] M v M' 0 0 := Ev.back 1 (fun n => rfl) H
      have H : Ev none e 35 76 [some (.ref 3), some (.int i), some (.int 0), some (.int (rI M 7 (zI M 3 6))), some (.int 999), none] [.ref (fR M 3 8)] M v M' 0 0 := Ev.back 1 (gs_3 rfl rfl (gf_n hS.1 qa_3 qn_3_8 (by decide) a_t rfl)) H
      have H : Ev none e 35 79 [some (.ref 3), some (.int i), some (.int 0), some (.int (rI M 7 (zI M 3 6))), some (.int 999), none] [.ref (fR M 3 8 + 3)] M v M' 0 0 := Ev.back 1 (gs_3 rfl rfl (gf_x hS.1 a_t qo_28 (fx_t2 hS a_t) rfl)) H
      have H : Ev none e 35 81 [some (.ref 3), some (.int i), some (.int 0), some (.int (rI M 7 (zI M 3 6))), some (.int 999), none] [.int (rI M 7 (zI M 3 6)), .int i, .ref (fR M 3 8 + 3)] M v M' 0 0 := Ev.back 2 (fun n => rfl) H
      obtain ⟨b5, H⟩ := Ev.ias rfl rfl hS.1 (fx_g2 a_t) qw_31 H
      obtain ⟨N6, eN6⟩ : ∃ N, N = (wI M (fR M 3 8 + 3) i.toNatClampNeg (rI M 7 (zI M 3 6))) := ⟨_, rfl⟩
      have hN6 : SQ N6 := by rw [eN6]; exact hS.ki
      have H : Ev none e 35 82 [some (.ref 3), some (.int i), some (.int 0), some (.int (rI M 7 (zI M 3 6))), some (.int 999), none] [] N6 v M' 0 0 := by rw [eN6]; exact H
      have H : Ev none e 35 (if 0 = 2 then 185 else 169) [some (.ref 3), some (.int i), some (.int 0), some (.int (rI M 7 (zI M 3 6))), some (.int 999), none] [] N6 v M' 0 0 := Ev.back 5 (fun n => rfl) H
      rw [if_neg (by decide)] at H
      have H : Ev none e 35 (if 0 = 3 then 185 else 174) [some (.ref 3), some (.int i), some (.int 0), some (.int (rI M 7 (zI M 3 6))), some (.int 999), none] [] N6 v M' 0 0 := Ev.back 3 (fun n => rfl) H
      rw [if_neg (by decide)] at H
      have H : Ev none e 35 (if 0 = 4 then 185 else 179) [some (.ref 3), some (.int i), some (.int 0), some (.int (rI M 7 (zI M 3 6))), some (.int 999), none] [] N6 v M' 0 0 := Ev.back 3 (fun n => rfl) H
      rw [if_neg (by decide)] at H
      have H : Ev none e 35 (if 0 = 7 then 185 else 189) [some (.ref 3), some (.int i), some (.int 0), some (.int (rI M 7 (zI M 3 6))), some (.int 999), none] [] N6 v M' 0 0 := Ev.back 3 (fun n => rfl) H
      rw [if_neg (by decide)] at H
      have H : Ev none e 35 194 [some (.ref 3), some (.int i), some (.int 0), some (.int (rI M 7 (zI M 3 6))), some (.int 999), some (.int 0)] [.ref 3, .ref 3] N6 v M' 0 0 := Ev.back 4 (fun n => rfl) H
      have H : Ev none e 35 197 [some (.ref 3), some (.int i), some (.int 0), some (.int (rI M 7 (zI M 3 6))), some (.int 999), some (.int 0)] [.int (zI N6 3 10), .ref 3] N6 v M' 0 0 := Ev.back 1 (gs_3 rfl rfl (gf_i hN6.1 qa_3 qi_3_10 rfl)) H
      rw [show zI N6 3 10 = zI M 3 10 from by rw [eN6]; exact fI_wI] at H
      have H : Ev none e 35 (if 0 = 0 then 208 else 202) [some (.ref 3), some (.int i), some (.int 0), some (.int (rI M 7 (zI M 3 6))), some (.int 999), some (.int 0)] [.int (zI M 3 10), .ref 3] N6 v M' 0 0 := Ev.back 2 (fun n => rfl) H
      rw [if_pos (by decide)] at H
      have H : Ev none e 35 210 [some (.ref 3), some (.int i), some (.int 0), some (.int (rI M 7 (zI M 3 6))), some (.int 999), some (.int 0)] [.int ((zI M 3 10) ||| 0), .ref 3] N6 v M' 0 0 := Ev.back 2 (fun n => rfl) H
      obtain ⟨N8, eN8⟩ : ∃ N, N = (wF N6 3 10 ((zI M 3 10) ||| 0)) := ⟨_, rfl⟩
      have hN8 : SQ N8 := by rw [eN8]; exact hN6.kf
      have H : Ev none e 35 213 [some (.ref 3), some (.int i), some (.int 0), some (.int (rI M 7 (zI M 3 6))), some (.int 999), some (.int 0)] [] N8 v M' 0 0 := by rw [eN8]; exact Ev.pfi rfl rfl rfl hN6.1 qa_3 qi_3_10 H
      have H : Ev none e 35 214 [some (.ref 3), some (.int i), some (.int 0), some (.int (rI M 7 (zI M 3 6))), some (.int 999), some (.int 0)] [.ref 3] N8 v M' 0 0 := Ev.back 1 (fun n => rfl) H
      obtain ⟨e1, rfl⟩ := Ev.dpos rfl rfl H
      obtain ⟨vK9, MK9, K9, H⟩ := Ev.callb (fun n => gs_7 rfl rfl (show gCal (.invokevirtual 140) 3 (.ref 3 :: []) N8 = some (.inr (31, [some (.ref 3)], [])) from by show @cond (Option ((List Value × Mem) ⊕ (Nat × Lo × List Value))) (true && gRecv N8 (.ref 3) 3 && gRoom [] && true) (some (.inr (31, [some (.ref 3)], []))) none = _; rw [recv_s hN8.1 qa_3 qo_3]; rfl)) H
      have K9 : Ev none e1 31 0 [some (.ref 3)] [] N8 vK9 MK9 0 0 := K9
      have HF := H
      subst eN6 eN8
      exact Or.inr (Or.inl ⟨h1, h3, b2, b5, ⟨e1, vK9, MK9, rfl, K9, HF⟩⟩)
  · rw [if_neg h1] at H
    have H : Ev none e 35 10 [some (.ref 3), some (.int i), some (.int 0), none, none, none] [.int 1, .ref 3] M v M' 0 0 := Ev.back 2 (fun n => rfl) H
    obtain ⟨e1, rfl⟩ := Ev.dpos rfl rfl H
    obtain ⟨vK10, MK10, K10, H⟩ := Ev.callb (fun n => gs_7 rfl rfl (show gCal (.invokevirtual 68) 3 (.int 1 :: .ref 3 :: []) M = some (.inr (27, [some (.ref 3), some (.int 1)], [])) from by show @cond (Option ((List Value × Mem) ⊕ (Nat × Lo × List Value))) (true && gRecv M (.ref 3) 3 && gRoom [] && true) (some (.inr (27, [some (.ref 3), some (.int 1)], []))) none = _; rw [recv_s hS.1 qa_3 qo_3]; rfl)) H
    have K10 : Ev none e1 27 0 [some (.ref 3), some (.int 1)] [] M vK10 MK10 0 0 := K10
    have HF := H
    exact Or.inr (Or.inr (⟨h1, ⟨e1, vK10, MK10, rfl, K10, HF⟩⟩))
theorem nb0_217 {e : Nat} {M M' : Mem} {v : Option Value} {i nn mo oc : Int32} (hS : SQ M) (a_t : gNth sT (fR M 3 8) = some 28) (H : Ev none e 35 217 [some (.ref 3), some (.int i), some (.int 0), some (.int nn), some (.int mo), some (.int oc)] [] M v M' 0 0) : v = some (.int 1) ∧ M' = M := by
  have H : Ev none e 35 218 [some (.ref 3), some (.int i), some (.int 0), some (.int nn), some (.int mo), some (.int oc)] [.int 1] M v M' 0 0 := Ev.back 1 (fun n => rfl) H
  obtain ⟨z1, z2⟩ := Ev.retz rfl rfl H
  exact ⟨z1, z2⟩
theorem nb0_13 {e : Nat} {M M' : Mem} {v : Option Value} {i y : Int32} (hS : SQ M) (a_t : gNth sT (fR M 3 8) = some 28) (H : Ev none e 35 13 [some (.ref 3), some (.int i), some (.int 0), none, none, none] [.int y] M v M' 0 0) : v = some (.int y) ∧ M' = M := by
  obtain ⟨z1, z2⟩ := Ev.retz rfl rfl H
  exact ⟨z1, z2⟩
theorem nb0_71 {e : Nat} {M M' : Mem} {v : Option Value} {i nn mo y : Int32} (hS : SQ M) (a_t : gNth sT (fR M 3 8) = some 28) (H : Ev none e 35 71 [some (.ref 3), some (.int i), some (.int 0), some (.int nn), some (.int mo), none] [.int y] M v M' 0 0) : v = some (.int y) ∧ M' = M := by
  obtain ⟨z1, z2⟩ := Ev.retz rfl rfl H
  exact ⟨z1, z2⟩
theorem nb1_0 {e : Nat} {M M' : Mem} {v : Option Value} {i : Int32} (hS : SQ M) (a_t : gNth sT (fR M 3 8) = some 28) (H : Ev none e 35 0 [some (.ref 3), some (.int i), some (.int 1), none, none, none] [] M v M' 0 0) : ((zI M 3 7) = 3 ∧ 999 < (rI M 7 (zI M 3 6)) ∧ (0 ≤ (zI M 3 6).toInt ∧ (zI M 3 6).toInt < 401) ∧ (∃ e1 v1 M1, e = e1 + 1 ∧ Ev none e1 27 0 [some (.ref 3), some (.int 2)] [] M v1 M1 0 0 ∧ Ev none e 35 71 [some (.ref 3), some (.int i), some (.int 1), some (.int (rI M 7 (zI M 3 6))), some (.int 999), none] (v1.toList ++ []) M1 v M' 0 0)) ∨ ((zI M 3 7) = 3 ∧ ¬ (999 < (rI M 7 (zI M 3 6))) ∧ (0 ≤ (zI M 3 6).toInt ∧ (zI M 3 6).toInt < 401) ∧ (0 ≤ i.toInt ∧ i.toInt < 16) ∧ (∃ e1 v1 M1, e = e1 + 1 ∧ Ev none e1 31 0 [some (.ref 3)] [] (wF (wI M (fR M 3 8 + 3) i.toNatClampNeg (rI M 7 (zI M 3 6))) 3 10 ((zI M 3 10) ||| 0)) v1 M1 0 0 ∧ Ev none e 35 217 [some (.ref 3), some (.int i), some (.int 1), some (.int (rI M 7 (zI M 3 6))), some (.int 999), some (.int 0)] (v1.toList ++ []) M1 v M' 0 0)) ∨ (¬ ((zI M 3 7) = 3) ∧ (∃ e1 v1 M1, e = e1 + 1 ∧ Ev none e1 27 0 [some (.ref 3), some (.int 1)] [] M v1 M1 0 0 ∧ Ev none e 35 13 [some (.ref 3), some (.int i), some (.int 1), none, none, none] (v1.toList ++ []) M1 v M' 0 0)) := by
  have H : Ev none e 35 1 [some (.ref 3), some (.int i), some (.int 1), none, none, none] [.ref 3] M v M' 0 0 := Ev.back 1 (fun n => rfl) H
  have H : Ev none e 35 4 [some (.ref 3), some (.int i), some (.int 1), none, none, none] [.int (zI M 3 7)] M v M' 0 0 := Ev.back 1 (gs_3 rfl rfl (gf_i hS.1 qa_3 qi_3_7 rfl)) H
  have H : Ev none e 35 (if (zI M 3 7) = 3 then 14 else 8) [some (.ref 3), some (.int i), some (.int 1), none, none, none] [] M v M' 0 0 := Ev.back 2 (fun n => rfl) H
  by_cases h1 : (zI M 3 7) = 3
  · rw [if_pos h1] at H
    have H : Ev none e 35 15 [some (.ref 3), some (.int i), some (.int 1), none, none, none] [.ref 3] M v M' 0 0 := Ev.back 1 (fun n => rfl) H
    have H : Ev none e 35 18 [some (.ref 3), some (.int i), some (.int 1), none, none, none] [.ref 7] M v M' 0 0 := Ev.back 1 (gs_3 rfl rfl (gf_u hS.1 qa_3 qr_3_4 qu_7 rfl)) H
    have H : Ev none e 35 19 [some (.ref 3), some (.int i), some (.int 1), none, none, none] [.ref 3, .ref 7] M v M' 0 0 := Ev.back 1 (fun n => rfl) H
    have H : Ev none e 35 22 [some (.ref 3), some (.int i), some (.int 1), none, none, none] [.int (zI M 3 6), .ref 7] M v M' 0 0 := Ev.back 1 (gs_3 rfl rfl (gf_i hS.1 qa_3 qi_3_6 rfl)) H
    obtain ⟨b2, H⟩ := Ev.ial rfl rfl hS.1 qa_7 qw_7 H
    have H : Ev none e 35 23 [some (.ref 3), some (.int i), some (.int 1), none, none, none] [.int (rI M 7 (zI M 3 6))] M v M' 0 0 := H
    have H : Ev none e 35 (if 1 = 5 then 29 else 34) [some (.ref 3), some (.int i), some (.int 1), some (.int (rI M 7 (zI M 3 6))), none, none] [] M v M' 0 0 := Ev.back 4 (fun n => rfl) H
    rw [if_neg (by decide)] at H
    have H : Ev none e 35 (if 1 = 7 then 40 else 45) [some (.ref 3), some (.int i), some (.int 1), some (.int (rI M 7 (zI M 3 6))), none, none] [] M v M' 0 0 := Ev.back 3 (fun n => rfl) H
    rw [if_neg (by decide)] at H
    have H : Ev none e 35 (if 999 < (rI M 7 (zI M 3 6)) then 66 else 56) [some (.ref 3), some (.int i), some (.int 1), some (.int (rI M 7 (zI M 3 6))), some (.int 999), none] [] M v M' 0 0 := Ev.back 5 (fun n => rfl) H
    by_cases h3 : 999 < (rI M 7 (zI M 3 6))
    · rw [if_pos h3] at H
      have H : Ev none e 35 68 [some (.ref 3), some (.int i), some (.int 1), some (.int (rI M 7 (zI M 3 6))), some (.int 999), none] [.int 2, .ref 3] M v M' 0 0 := Ev.back 2 (fun n => rfl) H
      obtain ⟨e1, rfl⟩ := Ev.dpos rfl rfl H
      obtain ⟨vK4, MK4, K4, H⟩ := Ev.callb (fun n => gs_7 rfl rfl (show gCal (.invokevirtual 68) 3 (.int 2 :: .ref 3 :: []) M = some (.inr (27, [some (.ref 3), some (.int 2)], [])) from by show @cond (Option ((List Value × Mem) ⊕ (Nat × Lo × List Value))) (true && gRecv M (.ref 3) 3 && gRoom [] && true) (some (.inr (27, [some (.ref 3), some (.int 2)], []))) none = _; rw [recv_s hS.1 qa_3 qo_3]; rfl)) H
      have K4 : Ev none e1 27 0 [some (.ref 3), some (.int 2)] [] M vK4 MK4 0 0 := K4
      have HF := H
      exact Or.inl ⟨h1, h3, b2, ⟨e1, vK4, MK4, rfl, K4, HF⟩⟩
    · rw [if_neg h3] at H
      have H : Ev none e 35 (if 1 = 2 then 61 else 72) [some (.ref 3), some (.int i), some (.int 1), some (.int (rI M 7 (zI M 3 6))), some (.int 999), none] [] M v M' 0 0 := Ev.back 3 (fun n => rfl) H
      rw [if_neg (by decide)] at H
      have H : Ev none e 35 73 [some (.ref 3), some (.int i), some (.int 1), some (.int (rI M 7 (zI M 3 6))), some (.int 999), none] [.ref 3] M v M' 0 0 := Ev.back 1 (fun n => rfl) H
      have H : Ev none e 35 76 [some (.ref 3), some (.int i), some (.int 1), some (.int (rI M 7 (zI M 3 6))), some (.int 999), none] [.ref (fR M 3 8)] M v M' 0 0 := Ev.back 1 (gs_3 rfl rfl (gf_n hS.1 qa_3 qn_3_8 (by decide) a_t rfl)) H
      have H : Ev none e 35 79 [some (.ref 3), some (.int i), some (.int 1), some (.int (rI M 7 (zI M 3 6))), some (.int 999), none] [.ref (fR M 3 8 + 3)] M v M' 0 0 := Ev.back 1 (gs_3 rfl rfl (gf_x hS.1 a_t qo_28 (fx_t2 hS a_t) rfl)) H
      have H : Ev none e 35 81 [some (.ref 3), some (.int i), some (.int 1), some (.int (rI M 7 (zI M 3 6))), some (.int 999), none] [.int (rI M 7 (zI M 3 6)), .int i, .ref (fR M 3 8 + 3)] M v M' 0 0 := Ev.back 2 (fun n => rfl) H
      obtain ⟨b5, H⟩ := Ev.ias rfl rfl hS.1 (fx_g2 a_t) qw_31 H
      obtain ⟨N6, eN6⟩ : ∃ N, N = (wI M (fR M 3 8 + 3) i.toNatClampNeg (rI M 7 (zI M 3 6))) := ⟨_, rfl⟩
      have hN6 : SQ N6 := by rw [eN6]; exact hS.ki
      have H : Ev none e 35 82 [some (.ref 3), some (.int i), some (.int 1), some (.int (rI M 7 (zI M 3 6))), some (.int 999), none] [] N6 v M' 0 0 := by rw [eN6]; exact H
      have H : Ev none e 35 (if 1 = 2 then 185 else 169) [some (.ref 3), some (.int i), some (.int 1), some (.int (rI M 7 (zI M 3 6))), some (.int 999), none] [] N6 v M' 0 0 := Ev.back 5 (fun n => rfl) H
      rw [if_neg (by decide)] at H
      have H : Ev none e 35 (if 1 = 3 then 185 else 174) [some (.ref 3), some (.int i), some (.int 1), some (.int (rI M 7 (zI M 3 6))), some (.int 999), none] [] N6 v M' 0 0 := Ev.back 3 (fun n => rfl) H
      rw [if_neg (by decide)] at H
      have H : Ev none e 35 (if 1 = 4 then 185 else 179) [some (.ref 3), some (.int i), some (.int 1), some (.int (rI M 7 (zI M 3 6))), some (.int 999), none] [] N6 v M' 0 0 := Ev.back 3 (fun n => rfl) H
      rw [if_neg (by decide)] at H
      have H : Ev none e 35 (if 1 = 7 then 185 else 189) [some (.ref 3), some (.int i), some (.int 1), some (.int (rI M 7 (zI M 3 6))), some (.int 999), none] [] N6 v M' 0 0 := Ev.back 3 (fun n => rfl) H
      rw [if_neg (by decide)] at H
      have H : Ev none e 35 194 [some (.ref 3), some (.int i), some (.int 1), some (.int (rI M 7 (zI M 3 6))), some (.int 999), some (.int 0)] [.ref 3, .ref 3] N6 v M' 0 0 := Ev.back 4 (fun n => rfl) H
      have H : Ev none e 35 197 [some (.ref 3), some (.int i), some (.int 1), some (.int (rI M 7 (zI M 3 6))), some (.int 999), some (.int 0)] [.int (zI N6 3 10), .ref 3] N6 v M' 0 0 := Ev.back 1 (gs_3 rfl rfl (gf_i hN6.1 qa_3 qi_3_10 rfl)) H
      rw [show zI N6 3 10 = zI M 3 10 from by rw [eN6]; exact fI_wI] at H
      have H : Ev none e 35 (if 0 = 0 then 208 else 202) [some (.ref 3), some (.int i), some (.int 1), some (.int (rI M 7 (zI M 3 6))), some (.int 999), some (.int 0)] [.int (zI M 3 10), .ref 3] N6 v M' 0 0 := Ev.back 2 (fun n => rfl) H
      rw [if_pos (by decide)] at H
      have H : Ev none e 35 210 [some (.ref 3), some (.int i), some (.int 1), some (.int (rI M 7 (zI M 3 6))), some (.int 999), some (.int 0)] [.int ((zI M 3 10) ||| 0), .ref 3] N6 v M' 0 0 := Ev.back 2 (fun n => rfl) H
      obtain ⟨N8, eN8⟩ : ∃ N, N = (wF N6 3 10 ((zI M 3 10) ||| 0)) := ⟨_, rfl⟩
      have hN8 : SQ N8 := by rw [eN8]; exact hN6.kf
      have H : Ev none e 35 213 [some (.ref 3), some (.int i), some (.int 1), some (.int (rI M 7 (zI M 3 6))), some (.int 999), some (.int 0)] [] N8 v M' 0 0 := by rw [eN8]; exact Ev.pfi rfl rfl rfl hN6.1 qa_3 qi_3_10 H
      have H : Ev none e 35 214 [some (.ref 3), some (.int i), some (.int 1), some (.int (rI M 7 (zI M 3 6))), some (.int 999), some (.int 0)] [.ref 3] N8 v M' 0 0 := Ev.back 1 (fun n => rfl) H
      obtain ⟨e1, rfl⟩ := Ev.dpos rfl rfl H
      obtain ⟨vK9, MK9, K9, H⟩ := Ev.callb (fun n => gs_7 rfl rfl (show gCal (.invokevirtual 140) 3 (.ref 3 :: []) N8 = some (.inr (31, [some (.ref 3)], [])) from by show @cond (Option ((List Value × Mem) ⊕ (Nat × Lo × List Value))) (true && gRecv N8 (.ref 3) 3 && gRoom [] && true) (some (.inr (31, [some (.ref 3)], []))) none = _; rw [recv_s hN8.1 qa_3 qo_3]; rfl)) H
      have K9 : Ev none e1 31 0 [some (.ref 3)] [] N8 vK9 MK9 0 0 := K9
      have HF := H
      subst eN6 eN8
      exact Or.inr (Or.inl ⟨h1, h3, b2, b5, ⟨e1, vK9, MK9, rfl, K9, HF⟩⟩)
  · rw [if_neg h1] at H
    have H : Ev none e 35 10 [some (.ref 3), some (.int i), some (.int 1), none, none, none] [.int 1, .ref 3] M v M' 0 0 := Ev.back 2 (fun n => rfl) H
    obtain ⟨e1, rfl⟩ := Ev.dpos rfl rfl H
    obtain ⟨vK10, MK10, K10, H⟩ := Ev.callb (fun n => gs_7 rfl rfl (show gCal (.invokevirtual 68) 3 (.int 1 :: .ref 3 :: []) M = some (.inr (27, [some (.ref 3), some (.int 1)], [])) from by show @cond (Option ((List Value × Mem) ⊕ (Nat × Lo × List Value))) (true && gRecv M (.ref 3) 3 && gRoom [] && true) (some (.inr (27, [some (.ref 3), some (.int 1)], []))) none = _; rw [recv_s hS.1 qa_3 qo_3]; rfl)) H
    have K10 : Ev none e1 27 0 [some (.ref 3), some (.int 1)] [] M vK10 MK10 0 0 := K10
    have HF := H
    exact Or.inr (Or.inr (⟨h1, ⟨e1, vK10, MK10, rfl, K10, HF⟩⟩))
theorem nb1_217 {e : Nat} {M M' : Mem} {v : Option Value} {i nn mo oc : Int32} (hS : SQ M) (a_t : gNth sT (fR M 3 8) = some 28) (H : Ev none e 35 217 [some (.ref 3), some (.int i), some (.int 1), some (.int nn), some (.int mo), some (.int oc)] [] M v M' 0 0) : v = some (.int 1) ∧ M' = M := by
  have H : Ev none e 35 218 [some (.ref 3), some (.int i), some (.int 1), some (.int nn), some (.int mo), some (.int oc)] [.int 1] M v M' 0 0 := Ev.back 1 (fun n => rfl) H
  obtain ⟨z1, z2⟩ := Ev.retz rfl rfl H
  exact ⟨z1, z2⟩
theorem nb1_13 {e : Nat} {M M' : Mem} {v : Option Value} {i y : Int32} (hS : SQ M) (a_t : gNth sT (fR M 3 8) = some 28) (H : Ev none e 35 13 [some (.ref 3), some (.int i), some (.int 1), none, none, none] [.int y] M v M' 0 0) : v = some (.int y) ∧ M' = M := by
  obtain ⟨z1, z2⟩ := Ev.retz rfl rfl H
  exact ⟨z1, z2⟩
theorem nb1_71 {e : Nat} {M M' : Mem} {v : Option Value} {i nn mo y : Int32} (hS : SQ M) (a_t : gNth sT (fR M 3 8) = some 28) (H : Ev none e 35 71 [some (.ref 3), some (.int i), some (.int 1), some (.int nn), some (.int mo), none] [.int y] M v M' 0 0) : v = some (.int y) ∧ M' = M := by
  obtain ⟨z1, z2⟩ := Ev.retz rfl rfl H
  exact ⟨z1, z2⟩
theorem nb2_0 {e : Nat} {M M' : Mem} {v : Option Value} {i : Int32} (hS : SQ M) (a_t : gNth sT (fR M 3 8) = some 28) (H : Ev none e 35 0 [some (.ref 3), some (.int i), some (.int 2), none, none, none] [] M v M' 0 0) : ((zI M 3 7) = 3 ∧ 999 < (rI M 7 (zI M 3 6)) ∧ (0 ≤ (zI M 3 6).toInt ∧ (zI M 3 6).toInt < 401) ∧ (∃ e1 v1 M1, e = e1 + 1 ∧ Ev none e1 27 0 [some (.ref 3), some (.int 2)] [] M v1 M1 0 0 ∧ Ev none e 35 71 [some (.ref 3), some (.int i), some (.int 2), some (.int (rI M 7 (zI M 3 6))), some (.int 999), none] (v1.toList ++ []) M1 v M' 0 0)) ∨ ((zI M 3 7) = 3 ∧ ¬ (999 < (rI M 7 (zI M 3 6))) ∧ 1 ≤ (rI M 7 (zI M 3 6)) ∧ (0 ≤ (zI M 3 6).toInt ∧ (zI M 3 6).toInt < 401) ∧ (0 ≤ i.toInt ∧ i.toInt < 16) ∧ (∃ e1 v1 M1, e = e1 + 1 ∧ Ev none e1 31 0 [some (.ref 3)] [] (wF (wF (wI M (fR M 3 8 + 3) i.toNatClampNeg (rI M 7 (zI M 3 6))) (fR M 3 8) 10 (rI M 7 (zI M 3 6))) 3 10 ((zI (wF (wI M (fR M 3 8 + 3) i.toNatClampNeg (rI M 7 (zI M 3 6))) (fR M 3 8) 10 (rI M 7 (zI M 3 6))) 3 10) ||| ((1 : Int32) <<< ((2 : Int32) &&& 31)))) v1 M1 0 0 ∧ Ev none e 35 217 [some (.ref 3), some (.int i), some (.int 2), some (.int (rI M 7 (zI M 3 6))), some (.int 999), some (.int 1)] (v1.toList ++ []) M1 v M' 0 0)) ∨ ((zI M 3 7) = 3 ∧ ¬ (999 < (rI M 7 (zI M 3 6))) ∧ ¬ (1 ≤ (rI M 7 (zI M 3 6))) ∧ (0 ≤ (zI M 3 6).toInt ∧ (zI M 3 6).toInt < 401) ∧ (∃ e1 v1 M1, e = e1 + 1 ∧ Ev none e1 27 0 [some (.ref 3), some (.int 2)] [] M v1 M1 0 0 ∧ Ev none e 35 71 [some (.ref 3), some (.int i), some (.int 2), some (.int (rI M 7 (zI M 3 6))), some (.int 999), none] (v1.toList ++ []) M1 v M' 0 0)) ∨ (¬ ((zI M 3 7) = 3) ∧ (∃ e1 v1 M1, e = e1 + 1 ∧ Ev none e1 27 0 [some (.ref 3), some (.int 1)] [] M v1 M1 0 0 ∧ Ev none e 35 13 [some (.ref 3), some (.int i), some (.int 2), none, none, none] (v1.toList ++ []) M1 v M' 0 0)) := by
  have H : Ev none e 35 1 [some (.ref 3), some (.int i), some (.int 2), none, none, none] [.ref 3] M v M' 0 0 := Ev.back 1 (fun n => rfl) H
  have H : Ev none e 35 4 [some (.ref 3), some (.int i), some (.int 2), none, none, none] [.int (zI M 3 7)] M v M' 0 0 := Ev.back 1 (gs_3 rfl rfl (gf_i hS.1 qa_3 qi_3_7 rfl)) H
  have H : Ev none e 35 (if (zI M 3 7) = 3 then 14 else 8) [some (.ref 3), some (.int i), some (.int 2), none, none, none] [] M v M' 0 0 := Ev.back 2 (fun n => rfl) H
  by_cases h1 : (zI M 3 7) = 3
  · rw [if_pos h1] at H
    have H : Ev none e 35 15 [some (.ref 3), some (.int i), some (.int 2), none, none, none] [.ref 3] M v M' 0 0 := Ev.back 1 (fun n => rfl) H
    have H : Ev none e 35 18 [some (.ref 3), some (.int i), some (.int 2), none, none, none] [.ref 7] M v M' 0 0 := Ev.back 1 (gs_3 rfl rfl (gf_u hS.1 qa_3 qr_3_4 qu_7 rfl)) H
    have H : Ev none e 35 19 [some (.ref 3), some (.int i), some (.int 2), none, none, none] [.ref 3, .ref 7] M v M' 0 0 := Ev.back 1 (fun n => rfl) H
    have H : Ev none e 35 22 [some (.ref 3), some (.int i), some (.int 2), none, none, none] [.int (zI M 3 6), .ref 7] M v M' 0 0 := Ev.back 1 (gs_3 rfl rfl (gf_i hS.1 qa_3 qi_3_6 rfl)) H
    obtain ⟨b2, H⟩ := Ev.ial rfl rfl hS.1 qa_7 qw_7 H
    have H : Ev none e 35 23 [some (.ref 3), some (.int i), some (.int 2), none, none, none] [.int (rI M 7 (zI M 3 6))] M v M' 0 0 := H
    have H : Ev none e 35 (if 2 = 5 then 29 else 34) [some (.ref 3), some (.int i), some (.int 2), some (.int (rI M 7 (zI M 3 6))), none, none] [] M v M' 0 0 := Ev.back 4 (fun n => rfl) H
    rw [if_neg (by decide)] at H
    have H : Ev none e 35 (if 2 = 7 then 40 else 45) [some (.ref 3), some (.int i), some (.int 2), some (.int (rI M 7 (zI M 3 6))), none, none] [] M v M' 0 0 := Ev.back 3 (fun n => rfl) H
    rw [if_neg (by decide)] at H
    have H : Ev none e 35 (if 999 < (rI M 7 (zI M 3 6)) then 66 else 56) [some (.ref 3), some (.int i), some (.int 2), some (.int (rI M 7 (zI M 3 6))), some (.int 999), none] [] M v M' 0 0 := Ev.back 5 (fun n => rfl) H
    by_cases h3 : 999 < (rI M 7 (zI M 3 6))
    · rw [if_pos h3] at H
      have H : Ev none e 35 68 [some (.ref 3), some (.int i), some (.int 2), some (.int (rI M 7 (zI M 3 6))), some (.int 999), none] [.int 2, .ref 3] M v M' 0 0 := Ev.back 2 (fun n => rfl) H
      obtain ⟨e1, rfl⟩ := Ev.dpos rfl rfl H
      obtain ⟨vK4, MK4, K4, H⟩ := Ev.callb (fun n => gs_7 rfl rfl (show gCal (.invokevirtual 68) 3 (.int 2 :: .ref 3 :: []) M = some (.inr (27, [some (.ref 3), some (.int 2)], [])) from by show @cond (Option ((List Value × Mem) ⊕ (Nat × Lo × List Value))) (true && gRecv M (.ref 3) 3 && gRoom [] && true) (some (.inr (27, [some (.ref 3), some (.int 2)], []))) none = _; rw [recv_s hS.1 qa_3 qo_3]; rfl)) H
      have K4 : Ev none e1 27 0 [some (.ref 3), some (.int 2)] [] M vK4 MK4 0 0 := K4
      have HF := H
      exact Or.inl ⟨h1, h3, b2, ⟨e1, vK4, MK4, rfl, K4, HF⟩⟩
    · rw [if_neg h3] at H
      have H : Ev none e 35 (if 2 = 2 then 61 else 72) [some (.ref 3), some (.int i), some (.int 2), some (.int (rI M 7 (zI M 3 6))), some (.int 999), none] [] M v M' 0 0 := Ev.back 3 (fun n => rfl) H
      rw [if_pos (by decide)] at H
      have H : Ev none e 35 (if 1 ≤ (rI M 7 (zI M 3 6)) then 72 else 66) [some (.ref 3), some (.int i), some (.int 2), some (.int (rI M 7 (zI M 3 6))), some (.int 999), none] [] M v M' 0 0 := Ev.back 3 (fun n => rfl) H
      by_cases h5 : 1 ≤ (rI M 7 (zI M 3 6))
      · rw [if_pos h5] at H
        have H : Ev none e 35 73 [some (.ref 3), some (.int i), some (.int 2), some (.int (rI M 7 (zI M 3 6))), some (.int 999), none] [.ref 3] M v M' 0 0 := Ev.back 1 (fun n => rfl) H
        have H : Ev none e 35 76 [some (.ref 3), some (.int i), some (.int 2), some (.int (rI M 7 (zI M 3 6))), some (.int 999), none] [.ref (fR M 3 8)] M v M' 0 0 := Ev.back 1 (gs_3 rfl rfl (gf_n hS.1 qa_3 qn_3_8 (by decide) a_t rfl)) H
        have H : Ev none e 35 79 [some (.ref 3), some (.int i), some (.int 2), some (.int (rI M 7 (zI M 3 6))), some (.int 999), none] [.ref (fR M 3 8 + 3)] M v M' 0 0 := Ev.back 1 (gs_3 rfl rfl (gf_x hS.1 a_t qo_28 (fx_t2 hS a_t) rfl)) H
        have H : Ev none e 35 81 [some (.ref 3), some (.int i), some (.int 2), some (.int (rI M 7 (zI M 3 6))), some (.int 999), none] [.int (rI M 7 (zI M 3 6)), .int i, .ref (fR M 3 8 + 3)] M v M' 0 0 := Ev.back 2 (fun n => rfl) H
        obtain ⟨b6, H⟩ := Ev.ias rfl rfl hS.1 (fx_g2 a_t) qw_31 H
        obtain ⟨N7, eN7⟩ : ∃ N, N = (wI M (fR M 3 8 + 3) i.toNatClampNeg (rI M 7 (zI M 3 6))) := ⟨_, rfl⟩
        have hN7 : SQ N7 := by rw [eN7]; exact hS.ki
        have H : Ev none e 35 82 [some (.ref 3), some (.int i), some (.int 2), some (.int (rI M 7 (zI M 3 6))), some (.int 999), none] [] N7 v M' 0 0 := by rw [eN7]; exact H
        have H : Ev none e 35 121 [some (.ref 3), some (.int i), some (.int 2), some (.int (rI M 7 (zI M 3 6))), some (.int 999), none] [.ref 3] N7 v M' 0 0 := Ev.back 3 (fun n => rfl) H
        have H : Ev none e 35 124 [some (.ref 3), some (.int i), some (.int 2), some (.int (rI M 7 (zI M 3 6))), some (.int 999), none] [.ref (fR N7 3 8)] N7 v M' 0 0 := Ev.back 1 (gs_3 rfl rfl (gf_n hN7.1 qa_3 qn_3_8 (by decide) (by rw [show fR N7 3 8 = fR M 3 8 from by rw [eN7]; exact fR_wI]; exact a_t) rfl)) H
        rw [show fR N7 3 8 = fR M 3 8 from by rw [eN7]; exact fR_wI] at H
        have H : Ev none e 35 125 [some (.ref 3), some (.int i), some (.int 2), some (.int (rI M 7 (zI M 3 6))), some (.int 999), none] [.int (rI M 7 (zI M 3 6)), .ref (fR M 3 8)] N7 v M' 0 0 := Ev.back 1 (fun n => rfl) H
        obtain ⟨N9, eN9⟩ : ∃ N, N = (wF N7 (fR M 3 8) 10 (rI M 7 (zI M 3 6))) := ⟨_, rfl⟩
        have hN9 : SQ N9 := by rw [eN9]; exact hN7.kf
        have H : Ev none e 35 128 [some (.ref 3), some (.int i), some (.int 2), some (.int (rI M 7 (zI M 3 6))), some (.int 999), none] [] N9 v M' 0 0 := by rw [eN9]; exact Ev.pfi rfl rfl rfl hN7.1 a_t qi_28_10 H
        have H : Ev none e 35 (if 2 = 2 then 185 else 169) [some (.ref 3), some (.int i), some (.int 2), some (.int (rI M 7 (zI M 3 6))), some (.int 999), none] [] N9 v M' 0 0 := Ev.back 4 (fun n => rfl) H
        rw [if_pos (by decide)] at H
        have H : Ev none e 35 194 [some (.ref 3), some (.int i), some (.int 2), some (.int (rI M 7 (zI M 3 6))), some (.int 999), some (.int 1)] [.ref 3, .ref 3] N9 v M' 0 0 := Ev.back 5 (fun n => rfl) H
        have H : Ev none e 35 197 [some (.ref 3), some (.int i), some (.int 2), some (.int (rI M 7 (zI M 3 6))), some (.int 999), some (.int 1)] [.int (zI N9 3 10), .ref 3] N9 v M' 0 0 := Ev.back 1 (gs_3 rfl rfl (gf_i hN9.1 qa_3 qi_3_10 rfl)) H
        have H : Ev none e 35 (if 1 = 0 then 208 else 202) [some (.ref 3), some (.int i), some (.int 2), some (.int (rI M 7 (zI M 3 6))), some (.int 999), some (.int 1)] [.int (zI N9 3 10), .ref 3] N9 v M' 0 0 := Ev.back 2 (fun n => rfl) H
        rw [if_neg (by decide)] at H
        have H : Ev none e 35 210 [some (.ref 3), some (.int i), some (.int 2), some (.int (rI M 7 (zI M 3 6))), some (.int 999), some (.int 1)] [.int ((zI N9 3 10) ||| ((1 : Int32) <<< ((2 : Int32) &&& 31))), .ref 3] N9 v M' 0 0 := Ev.back 5 (fun n => rfl) H
        obtain ⟨N11, eN11⟩ : ∃ N, N = (wF N9 3 10 ((zI N9 3 10) ||| ((1 : Int32) <<< ((2 : Int32) &&& 31)))) := ⟨_, rfl⟩
        have hN11 : SQ N11 := by rw [eN11]; exact hN9.kf
        have H : Ev none e 35 213 [some (.ref 3), some (.int i), some (.int 2), some (.int (rI M 7 (zI M 3 6))), some (.int 999), some (.int 1)] [] N11 v M' 0 0 := by rw [eN11]; exact Ev.pfi rfl rfl rfl hN9.1 qa_3 qi_3_10 H
        have H : Ev none e 35 214 [some (.ref 3), some (.int i), some (.int 2), some (.int (rI M 7 (zI M 3 6))), some (.int 999), some (.int 1)] [.ref 3] N11 v M' 0 0 := Ev.back 1 (fun n => rfl) H
        obtain ⟨e1, rfl⟩ := Ev.dpos rfl rfl H
        obtain ⟨vK12, MK12, K12, H⟩ := Ev.callb (fun n => gs_7 rfl rfl (show gCal (.invokevirtual 140) 3 (.ref 3 :: []) N11 = some (.inr (31, [some (.ref 3)], [])) from by show @cond (Option ((List Value × Mem) ⊕ (Nat × Lo × List Value))) (true && gRecv N11 (.ref 3) 3 && gRoom [] && true) (some (.inr (31, [some (.ref 3)], []))) none = _; rw [recv_s hN11.1 qa_3 qo_3]; rfl)) H
        have K12 : Ev none e1 31 0 [some (.ref 3)] [] N11 vK12 MK12 0 0 := K12
        have HF := H
        subst eN7 eN9 eN11
        exact Or.inr (Or.inl ⟨h1, h3, h5, b2, b6, ⟨e1, vK12, MK12, rfl, K12, HF⟩⟩)
      · rw [if_neg h5] at H
        have H : Ev none e 35 68 [some (.ref 3), some (.int i), some (.int 2), some (.int (rI M 7 (zI M 3 6))), some (.int 999), none] [.int 2, .ref 3] M v M' 0 0 := Ev.back 2 (fun n => rfl) H
        obtain ⟨e1, rfl⟩ := Ev.dpos rfl rfl H
        obtain ⟨vK13, MK13, K13, H⟩ := Ev.callb (fun n => gs_7 rfl rfl (show gCal (.invokevirtual 68) 3 (.int 2 :: .ref 3 :: []) M = some (.inr (27, [some (.ref 3), some (.int 2)], [])) from by show @cond (Option ((List Value × Mem) ⊕ (Nat × Lo × List Value))) (true && gRecv M (.ref 3) 3 && gRoom [] && true) (some (.inr (27, [some (.ref 3), some (.int 2)], []))) none = _; rw [recv_s hS.1 qa_3 qo_3]; rfl)) H
        have K13 : Ev none e1 27 0 [some (.ref 3), some (.int 2)] [] M vK13 MK13 0 0 := K13
        have HF := H
        exact Or.inr (Or.inr (Or.inl ⟨h1, h3, h5, b2, ⟨e1, vK13, MK13, rfl, K13, HF⟩⟩))
  · rw [if_neg h1] at H
    have H : Ev none e 35 10 [some (.ref 3), some (.int i), some (.int 2), none, none, none] [.int 1, .ref 3] M v M' 0 0 := Ev.back 2 (fun n => rfl) H
    obtain ⟨e1, rfl⟩ := Ev.dpos rfl rfl H
    obtain ⟨vK14, MK14, K14, H⟩ := Ev.callb (fun n => gs_7 rfl rfl (show gCal (.invokevirtual 68) 3 (.int 1 :: .ref 3 :: []) M = some (.inr (27, [some (.ref 3), some (.int 1)], [])) from by show @cond (Option ((List Value × Mem) ⊕ (Nat × Lo × List Value))) (true && gRecv M (.ref 3) 3 && gRoom [] && true) (some (.inr (27, [some (.ref 3), some (.int 1)], []))) none = _; rw [recv_s hS.1 qa_3 qo_3]; rfl)) H
    have K14 : Ev none e1 27 0 [some (.ref 3), some (.int 1)] [] M vK14 MK14 0 0 := K14
    have HF := H
    exact Or.inr (Or.inr (Or.inr (⟨h1, ⟨e1, vK14, MK14, rfl, K14, HF⟩⟩)))
theorem nb2_217 {e : Nat} {M M' : Mem} {v : Option Value} {i nn mo oc : Int32} (hS : SQ M) (a_t : gNth sT (fR M 3 8) = some 28) (H : Ev none e 35 217 [some (.ref 3), some (.int i), some (.int 2), some (.int nn), some (.int mo), some (.int oc)] [] M v M' 0 0) : v = some (.int 1) ∧ M' = M := by
  have H : Ev none e 35 218 [some (.ref 3), some (.int i), some (.int 2), some (.int nn), some (.int mo), some (.int oc)] [.int 1] M v M' 0 0 := Ev.back 1 (fun n => rfl) H
  obtain ⟨z1, z2⟩ := Ev.retz rfl rfl H
  exact ⟨z1, z2⟩
theorem nb2_13 {e : Nat} {M M' : Mem} {v : Option Value} {i y : Int32} (hS : SQ M) (a_t : gNth sT (fR M 3 8) = some 28) (H : Ev none e 35 13 [some (.ref 3), some (.int i), some (.int 2), none, none, none] [.int y] M v M' 0 0) : v = some (.int y) ∧ M' = M := by
  obtain ⟨z1, z2⟩ := Ev.retz rfl rfl H
  exact ⟨z1, z2⟩
theorem nb2_71 {e : Nat} {M M' : Mem} {v : Option Value} {i nn mo y : Int32} (hS : SQ M) (a_t : gNth sT (fR M 3 8) = some 28) (H : Ev none e 35 71 [some (.ref 3), some (.int i), some (.int 2), some (.int nn), some (.int mo), none] [.int y] M v M' 0 0) : v = some (.int y) ∧ M' = M := by
  obtain ⟨z1, z2⟩ := Ev.retz rfl rfl H
  exact ⟨z1, z2⟩
theorem nb3_0 {e : Nat} {M M' : Mem} {v : Option Value} {i : Int32} (hS : SQ M) (a_t : gNth sT (fR M 3 8) = some 28) (H : Ev none e 35 0 [some (.ref 3), some (.int i), some (.int 3), none, none, none] [] M v M' 0 0) : ((zI M 3 7) = 3 ∧ 999 < (rI M 7 (zI M 3 6)) ∧ (0 ≤ (zI M 3 6).toInt ∧ (zI M 3 6).toInt < 401) ∧ (∃ e1 v1 M1, e = e1 + 1 ∧ Ev none e1 27 0 [some (.ref 3), some (.int 2)] [] M v1 M1 0 0 ∧ Ev none e 35 71 [some (.ref 3), some (.int i), some (.int 3), some (.int (rI M 7 (zI M 3 6))), some (.int 999), none] (v1.toList ++ []) M1 v M' 0 0)) ∨ ((zI M 3 7) = 3 ∧ ¬ (999 < (rI M 7 (zI M 3 6))) ∧ (0 ≤ (zI M 3 6).toInt ∧ (zI M 3 6).toInt < 401) ∧ (0 ≤ i.toInt ∧ i.toInt < 16) ∧ (∃ e1 v1 M1, e = e1 + 1 ∧ Ev none e1 31 0 [some (.ref 3)] [] (wF (wF (wI M (fR M 3 8 + 3) i.toNatClampNeg (rI M 7 (zI M 3 6))) (fR M 3 8) 11 (rI M 7 (zI M 3 6))) 3 10 ((zI M 3 10) ||| ((1 : Int32) <<< ((3 : Int32) &&& 31)))) v1 M1 0 0 ∧ Ev none e 35 217 [some (.ref 3), some (.int i), some (.int 3), some (.int (rI M 7 (zI M 3 6))), some (.int 999), some (.int 1)] (v1.toList ++ []) M1 v M' 0 0)) ∨ (¬ ((zI M 3 7) = 3) ∧ (∃ e1 v1 M1, e = e1 + 1 ∧ Ev none e1 27 0 [some (.ref 3), some (.int 1)] [] M v1 M1 0 0 ∧ Ev none e 35 13 [some (.ref 3), some (.int i), some (.int 3), none, none, none] (v1.toList ++ []) M1 v M' 0 0)) := by
  have H : Ev none e 35 1 [some (.ref 3), some (.int i), some (.int 3), none, none, none] [.ref 3] M v M' 0 0 := Ev.back 1 (fun n => rfl) H
  have H : Ev none e 35 4 [some (.ref 3), some (.int i), some (.int 3), none, none, none] [.int (zI M 3 7)] M v M' 0 0 := Ev.back 1 (gs_3 rfl rfl (gf_i hS.1 qa_3 qi_3_7 rfl)) H
  have H : Ev none e 35 (if (zI M 3 7) = 3 then 14 else 8) [some (.ref 3), some (.int i), some (.int 3), none, none, none] [] M v M' 0 0 := Ev.back 2 (fun n => rfl) H
  by_cases h1 : (zI M 3 7) = 3
  · rw [if_pos h1] at H
    have H : Ev none e 35 15 [some (.ref 3), some (.int i), some (.int 3), none, none, none] [.ref 3] M v M' 0 0 := Ev.back 1 (fun n => rfl) H
    have H : Ev none e 35 18 [some (.ref 3), some (.int i), some (.int 3), none, none, none] [.ref 7] M v M' 0 0 := Ev.back 1 (gs_3 rfl rfl (gf_u hS.1 qa_3 qr_3_4 qu_7 rfl)) H
    have H : Ev none e 35 19 [some (.ref 3), some (.int i), some (.int 3), none, none, none] [.ref 3, .ref 7] M v M' 0 0 := Ev.back 1 (fun n => rfl) H
    have H : Ev none e 35 22 [some (.ref 3), some (.int i), some (.int 3), none, none, none] [.int (zI M 3 6), .ref 7] M v M' 0 0 := Ev.back 1 (gs_3 rfl rfl (gf_i hS.1 qa_3 qi_3_6 rfl)) H
    obtain ⟨b2, H⟩ := Ev.ial rfl rfl hS.1 qa_7 qw_7 H
    have H : Ev none e 35 23 [some (.ref 3), some (.int i), some (.int 3), none, none, none] [.int (rI M 7 (zI M 3 6))] M v M' 0 0 := H
    have H : Ev none e 35 (if 3 = 5 then 29 else 34) [some (.ref 3), some (.int i), some (.int 3), some (.int (rI M 7 (zI M 3 6))), none, none] [] M v M' 0 0 := Ev.back 4 (fun n => rfl) H
    rw [if_neg (by decide)] at H
    have H : Ev none e 35 (if 3 = 7 then 40 else 45) [some (.ref 3), some (.int i), some (.int 3), some (.int (rI M 7 (zI M 3 6))), none, none] [] M v M' 0 0 := Ev.back 3 (fun n => rfl) H
    rw [if_neg (by decide)] at H
    have H : Ev none e 35 (if 999 < (rI M 7 (zI M 3 6)) then 66 else 56) [some (.ref 3), some (.int i), some (.int 3), some (.int (rI M 7 (zI M 3 6))), some (.int 999), none] [] M v M' 0 0 := Ev.back 5 (fun n => rfl) H
    by_cases h3 : 999 < (rI M 7 (zI M 3 6))
    · rw [if_pos h3] at H
      have H : Ev none e 35 68 [some (.ref 3), some (.int i), some (.int 3), some (.int (rI M 7 (zI M 3 6))), some (.int 999), none] [.int 2, .ref 3] M v M' 0 0 := Ev.back 2 (fun n => rfl) H
      obtain ⟨e1, rfl⟩ := Ev.dpos rfl rfl H
      obtain ⟨vK4, MK4, K4, H⟩ := Ev.callb (fun n => gs_7 rfl rfl (show gCal (.invokevirtual 68) 3 (.int 2 :: .ref 3 :: []) M = some (.inr (27, [some (.ref 3), some (.int 2)], [])) from by show @cond (Option ((List Value × Mem) ⊕ (Nat × Lo × List Value))) (true && gRecv M (.ref 3) 3 && gRoom [] && true) (some (.inr (27, [some (.ref 3), some (.int 2)], []))) none = _; rw [recv_s hS.1 qa_3 qo_3]; rfl)) H
      have K4 : Ev none e1 27 0 [some (.ref 3), some (.int 2)] [] M vK4 MK4 0 0 := K4
      have HF := H
      exact Or.inl ⟨h1, h3, b2, ⟨e1, vK4, MK4, rfl, K4, HF⟩⟩
    · rw [if_neg h3] at H
      have H : Ev none e 35 (if 3 = 2 then 61 else 72) [some (.ref 3), some (.int i), some (.int 3), some (.int (rI M 7 (zI M 3 6))), some (.int 999), none] [] M v M' 0 0 := Ev.back 3 (fun n => rfl) H
      rw [if_neg (by decide)] at H
      have H : Ev none e 35 73 [some (.ref 3), some (.int i), some (.int 3), some (.int (rI M 7 (zI M 3 6))), some (.int 999), none] [.ref 3] M v M' 0 0 := Ev.back 1 (fun n => rfl) H
      have H : Ev none e 35 76 [some (.ref 3), some (.int i), some (.int 3), some (.int (rI M 7 (zI M 3 6))), some (.int 999), none] [.ref (fR M 3 8)] M v M' 0 0 := Ev.back 1 (gs_3 rfl rfl (gf_n hS.1 qa_3 qn_3_8 (by decide) a_t rfl)) H
      have H : Ev none e 35 79 [some (.ref 3), some (.int i), some (.int 3), some (.int (rI M 7 (zI M 3 6))), some (.int 999), none] [.ref (fR M 3 8 + 3)] M v M' 0 0 := Ev.back 1 (gs_3 rfl rfl (gf_x hS.1 a_t qo_28 (fx_t2 hS a_t) rfl)) H
      have H : Ev none e 35 81 [some (.ref 3), some (.int i), some (.int 3), some (.int (rI M 7 (zI M 3 6))), some (.int 999), none] [.int (rI M 7 (zI M 3 6)), .int i, .ref (fR M 3 8 + 3)] M v M' 0 0 := Ev.back 2 (fun n => rfl) H
      obtain ⟨b5, H⟩ := Ev.ias rfl rfl hS.1 (fx_g2 a_t) qw_31 H
      obtain ⟨N6, eN6⟩ : ∃ N, N = (wI M (fR M 3 8 + 3) i.toNatClampNeg (rI M 7 (zI M 3 6))) := ⟨_, rfl⟩
      have hN6 : SQ N6 := by rw [eN6]; exact hS.ki
      have H : Ev none e 35 82 [some (.ref 3), some (.int i), some (.int 3), some (.int (rI M 7 (zI M 3 6))), some (.int 999), none] [] N6 v M' 0 0 := by rw [eN6]; exact H
      have H : Ev none e 35 132 [some (.ref 3), some (.int i), some (.int 3), some (.int (rI M 7 (zI M 3 6))), some (.int 999), none] [.ref 3] N6 v M' 0 0 := Ev.back 3 (fun n => rfl) H
      have H : Ev none e 35 135 [some (.ref 3), some (.int i), some (.int 3), some (.int (rI M 7 (zI M 3 6))), some (.int 999), none] [.ref (fR N6 3 8)] N6 v M' 0 0 := Ev.back 1 (gs_3 rfl rfl (gf_n hN6.1 qa_3 qn_3_8 (by decide) (by rw [show fR N6 3 8 = fR M 3 8 from by rw [eN6]; exact fR_wI]; exact a_t) rfl)) H
      rw [show fR N6 3 8 = fR M 3 8 from by rw [eN6]; exact fR_wI] at H
      have H : Ev none e 35 136 [some (.ref 3), some (.int i), some (.int 3), some (.int (rI M 7 (zI M 3 6))), some (.int 999), none] [.int (rI M 7 (zI M 3 6)), .ref (fR M 3 8)] N6 v M' 0 0 := Ev.back 1 (fun n => rfl) H
      obtain ⟨N8, eN8⟩ : ∃ N, N = (wF N6 (fR M 3 8) 11 (rI M 7 (zI M 3 6))) := ⟨_, rfl⟩
      have hN8 : SQ N8 := by rw [eN8]; exact hN6.kf
      have H : Ev none e 35 139 [some (.ref 3), some (.int i), some (.int 3), some (.int (rI M 7 (zI M 3 6))), some (.int 999), none] [] N8 v M' 0 0 := by rw [eN8]; exact Ev.pfi rfl rfl rfl hN6.1 a_t qi_28_11 H
      have H : Ev none e 35 (if 3 = 2 then 185 else 169) [some (.ref 3), some (.int i), some (.int 3), some (.int (rI M 7 (zI M 3 6))), some (.int 999), none] [] N8 v M' 0 0 := Ev.back 4 (fun n => rfl) H
      rw [if_neg (by decide)] at H
      have H : Ev none e 35 (if 3 = 3 then 185 else 174) [some (.ref 3), some (.int i), some (.int 3), some (.int (rI M 7 (zI M 3 6))), some (.int 999), none] [] N8 v M' 0 0 := Ev.back 3 (fun n => rfl) H
      rw [if_pos (by decide)] at H
      have H : Ev none e 35 194 [some (.ref 3), some (.int i), some (.int 3), some (.int (rI M 7 (zI M 3 6))), some (.int 999), some (.int 1)] [.ref 3, .ref 3] N8 v M' 0 0 := Ev.back 5 (fun n => rfl) H
      have H : Ev none e 35 197 [some (.ref 3), some (.int i), some (.int 3), some (.int (rI M 7 (zI M 3 6))), some (.int 999), some (.int 1)] [.int (zI N8 3 10), .ref 3] N8 v M' 0 0 := Ev.back 1 (gs_3 rfl rfl (gf_i hN8.1 qa_3 qi_3_10 rfl)) H
      rw [(show zI N8 3 10 = zI N6 3 10 from by rw [eN8]; exact fI_wF_ne (fun q => absurd q.2 (by decide))).trans (show zI N6 3 10 = zI M 3 10 from by rw [eN6]; exact fI_wI)] at H
      have H : Ev none e 35 (if 1 = 0 then 208 else 202) [some (.ref 3), some (.int i), some (.int 3), some (.int (rI M 7 (zI M 3 6))), some (.int 999), some (.int 1)] [.int (zI M 3 10), .ref 3] N8 v M' 0 0 := Ev.back 2 (fun n => rfl) H
      rw [if_neg (by decide)] at H
      have H : Ev none e 35 210 [some (.ref 3), some (.int i), some (.int 3), some (.int (rI M 7 (zI M 3 6))), some (.int 999), some (.int 1)] [.int ((zI M 3 10) ||| ((1 : Int32) <<< ((3 : Int32) &&& 31))), .ref 3] N8 v M' 0 0 := Ev.back 5 (fun n => rfl) H
      obtain ⟨N10, eN10⟩ : ∃ N, N = (wF N8 3 10 ((zI M 3 10) ||| ((1 : Int32) <<< ((3 : Int32) &&& 31)))) := ⟨_, rfl⟩
      have hN10 : SQ N10 := by rw [eN10]; exact hN8.kf
      have H : Ev none e 35 213 [some (.ref 3), some (.int i), some (.int 3), some (.int (rI M 7 (zI M 3 6))), some (.int 999), some (.int 1)] [] N10 v M' 0 0 := by rw [eN10]; exact Ev.pfi rfl rfl rfl hN8.1 qa_3 qi_3_10 H
      have H : Ev none e 35 214 [some (.ref 3), some (.int i), some (.int 3), some (.int (rI M 7 (zI M 3 6))), some (.int 999), some (.int 1)] [.ref 3] N10 v M' 0 0 := Ev.back 1 (fun n => rfl) H
      obtain ⟨e1, rfl⟩ := Ev.dpos rfl rfl H
      obtain ⟨vK11, MK11, K11, H⟩ := Ev.callb (fun n => gs_7 rfl rfl (show gCal (.invokevirtual 140) 3 (.ref 3 :: []) N10 = some (.inr (31, [some (.ref 3)], [])) from by show @cond (Option ((List Value × Mem) ⊕ (Nat × Lo × List Value))) (true && gRecv N10 (.ref 3) 3 && gRoom [] && true) (some (.inr (31, [some (.ref 3)], []))) none = _; rw [recv_s hN10.1 qa_3 qo_3]; rfl)) H
      have K11 : Ev none e1 31 0 [some (.ref 3)] [] N10 vK11 MK11 0 0 := K11
      have HF := H
      subst eN6 eN8 eN10
      exact Or.inr (Or.inl ⟨h1, h3, b2, b5, ⟨e1, vK11, MK11, rfl, K11, HF⟩⟩)
  · rw [if_neg h1] at H
    have H : Ev none e 35 10 [some (.ref 3), some (.int i), some (.int 3), none, none, none] [.int 1, .ref 3] M v M' 0 0 := Ev.back 2 (fun n => rfl) H
    obtain ⟨e1, rfl⟩ := Ev.dpos rfl rfl H
    obtain ⟨vK12, MK12, K12, H⟩ := Ev.callb (fun n => gs_7 rfl rfl (show gCal (.invokevirtual 68) 3 (.int 1 :: .ref 3 :: []) M = some (.inr (27, [some (.ref 3), some (.int 1)], [])) from by show @cond (Option ((List Value × Mem) ⊕ (Nat × Lo × List Value))) (true && gRecv M (.ref 3) 3 && gRoom [] && true) (some (.inr (27, [some (.ref 3), some (.int 1)], []))) none = _; rw [recv_s hS.1 qa_3 qo_3]; rfl)) H
    have K12 : Ev none e1 27 0 [some (.ref 3), some (.int 1)] [] M vK12 MK12 0 0 := K12
    have HF := H
    exact Or.inr (Or.inr (⟨h1, ⟨e1, vK12, MK12, rfl, K12, HF⟩⟩))
theorem nb3_217 {e : Nat} {M M' : Mem} {v : Option Value} {i nn mo oc : Int32} (hS : SQ M) (a_t : gNth sT (fR M 3 8) = some 28) (H : Ev none e 35 217 [some (.ref 3), some (.int i), some (.int 3), some (.int nn), some (.int mo), some (.int oc)] [] M v M' 0 0) : v = some (.int 1) ∧ M' = M := by
  have H : Ev none e 35 218 [some (.ref 3), some (.int i), some (.int 3), some (.int nn), some (.int mo), some (.int oc)] [.int 1] M v M' 0 0 := Ev.back 1 (fun n => rfl) H
  obtain ⟨z1, z2⟩ := Ev.retz rfl rfl H
  exact ⟨z1, z2⟩
theorem nb3_13 {e : Nat} {M M' : Mem} {v : Option Value} {i y : Int32} (hS : SQ M) (a_t : gNth sT (fR M 3 8) = some 28) (H : Ev none e 35 13 [some (.ref 3), some (.int i), some (.int 3), none, none, none] [.int y] M v M' 0 0) : v = some (.int y) ∧ M' = M := by
  obtain ⟨z1, z2⟩ := Ev.retz rfl rfl H
  exact ⟨z1, z2⟩
theorem nb3_71 {e : Nat} {M M' : Mem} {v : Option Value} {i nn mo y : Int32} (hS : SQ M) (a_t : gNth sT (fR M 3 8) = some 28) (H : Ev none e 35 71 [some (.ref 3), some (.int i), some (.int 3), some (.int nn), some (.int mo), none] [.int y] M v M' 0 0) : v = some (.int y) ∧ M' = M := by
  obtain ⟨z1, z2⟩ := Ev.retz rfl rfl H
  exact ⟨z1, z2⟩
theorem nb4_0 {e : Nat} {M M' : Mem} {v : Option Value} {i : Int32} (hS : SQ M) (a_t : gNth sT (fR M 3 8) = some 28) (H : Ev none e 35 0 [some (.ref 3), some (.int i), some (.int 4), none, none, none] [] M v M' 0 0) : ((zI M 3 7) = 3 ∧ 999 < (rI M 7 (zI M 3 6)) ∧ (0 ≤ (zI M 3 6).toInt ∧ (zI M 3 6).toInt < 401) ∧ (∃ e1 v1 M1, e = e1 + 1 ∧ Ev none e1 27 0 [some (.ref 3), some (.int 2)] [] M v1 M1 0 0 ∧ Ev none e 35 71 [some (.ref 3), some (.int i), some (.int 4), some (.int (rI M 7 (zI M 3 6))), some (.int 999), none] (v1.toList ++ []) M1 v M' 0 0)) ∨ ((zI M 3 7) = 3 ∧ ¬ (999 < (rI M 7 (zI M 3 6))) ∧ (0 ≤ (zI M 3 6).toInt ∧ (zI M 3 6).toInt < 401) ∧ (0 ≤ i.toInt ∧ i.toInt < 16) ∧ (∃ e1 v1 M1, e = e1 + 1 ∧ Ev none e1 31 0 [some (.ref 3)] [] (wF (wF (wI M (fR M 3 8 + 3) i.toNatClampNeg (rI M 7 (zI M 3 6))) (fR M 3 8) 12 (rI M 7 (zI M 3 6))) 3 10 ((zI M 3 10) ||| ((1 : Int32) <<< ((4 : Int32) &&& 31)))) v1 M1 0 0 ∧ Ev none e 35 217 [some (.ref 3), some (.int i), some (.int 4), some (.int (rI M 7 (zI M 3 6))), some (.int 999), some (.int 1)] (v1.toList ++ []) M1 v M' 0 0)) ∨ (¬ ((zI M 3 7) = 3) ∧ (∃ e1 v1 M1, e = e1 + 1 ∧ Ev none e1 27 0 [some (.ref 3), some (.int 1)] [] M v1 M1 0 0 ∧ Ev none e 35 13 [some (.ref 3), some (.int i), some (.int 4), none, none, none] (v1.toList ++ []) M1 v M' 0 0)) := by
  have H : Ev none e 35 1 [some (.ref 3), some (.int i), some (.int 4), none, none, none] [.ref 3] M v M' 0 0 := Ev.back 1 (fun n => rfl) H
  have H : Ev none e 35 4 [some (.ref 3), some (.int i), some (.int 4), none, none, none] [.int (zI M 3 7)] M v M' 0 0 := Ev.back 1 (gs_3 rfl rfl (gf_i hS.1 qa_3 qi_3_7 rfl)) H
  have H : Ev none e 35 (if (zI M 3 7) = 3 then 14 else 8) [some (.ref 3), some (.int i), some (.int 4), none, none, none] [] M v M' 0 0 := Ev.back 2 (fun n => rfl) H
  by_cases h1 : (zI M 3 7) = 3
  · rw [if_pos h1] at H
    have H : Ev none e 35 15 [some (.ref 3), some (.int i), some (.int 4), none, none, none] [.ref 3] M v M' 0 0 := Ev.back 1 (fun n => rfl) H
    have H : Ev none e 35 18 [some (.ref 3), some (.int i), some (.int 4), none, none, none] [.ref 7] M v M' 0 0 := Ev.back 1 (gs_3 rfl rfl (gf_u hS.1 qa_3 qr_3_4 qu_7 rfl)) H
    have H : Ev none e 35 19 [some (.ref 3), some (.int i), some (.int 4), none, none, none] [.ref 3, .ref 7] M v M' 0 0 := Ev.back 1 (fun n => rfl) H
    have H : Ev none e 35 22 [some (.ref 3), some (.int i), some (.int 4), none, none, none] [.int (zI M 3 6), .ref 7] M v M' 0 0 := Ev.back 1 (gs_3 rfl rfl (gf_i hS.1 qa_3 qi_3_6 rfl)) H
    obtain ⟨b2, H⟩ := Ev.ial rfl rfl hS.1 qa_7 qw_7 H
    have H : Ev none e 35 23 [some (.ref 3), some (.int i), some (.int 4), none, none, none] [.int (rI M 7 (zI M 3 6))] M v M' 0 0 := H
    have H : Ev none e 35 (if 4 = 5 then 29 else 34) [some (.ref 3), some (.int i), some (.int 4), some (.int (rI M 7 (zI M 3 6))), none, none] [] M v M' 0 0 := Ev.back 4 (fun n => rfl) H
    rw [if_neg (by decide)] at H
    have H : Ev none e 35 (if 4 = 7 then 40 else 45) [some (.ref 3), some (.int i), some (.int 4), some (.int (rI M 7 (zI M 3 6))), none, none] [] M v M' 0 0 := Ev.back 3 (fun n => rfl) H
    rw [if_neg (by decide)] at H
    have H : Ev none e 35 (if 999 < (rI M 7 (zI M 3 6)) then 66 else 56) [some (.ref 3), some (.int i), some (.int 4), some (.int (rI M 7 (zI M 3 6))), some (.int 999), none] [] M v M' 0 0 := Ev.back 5 (fun n => rfl) H
    by_cases h3 : 999 < (rI M 7 (zI M 3 6))
    · rw [if_pos h3] at H
      have H : Ev none e 35 68 [some (.ref 3), some (.int i), some (.int 4), some (.int (rI M 7 (zI M 3 6))), some (.int 999), none] [.int 2, .ref 3] M v M' 0 0 := Ev.back 2 (fun n => rfl) H
      obtain ⟨e1, rfl⟩ := Ev.dpos rfl rfl H
      obtain ⟨vK4, MK4, K4, H⟩ := Ev.callb (fun n => gs_7 rfl rfl (show gCal (.invokevirtual 68) 3 (.int 2 :: .ref 3 :: []) M = some (.inr (27, [some (.ref 3), some (.int 2)], [])) from by show @cond (Option ((List Value × Mem) ⊕ (Nat × Lo × List Value))) (true && gRecv M (.ref 3) 3 && gRoom [] && true) (some (.inr (27, [some (.ref 3), some (.int 2)], []))) none = _; rw [recv_s hS.1 qa_3 qo_3]; rfl)) H
      have K4 : Ev none e1 27 0 [some (.ref 3), some (.int 2)] [] M vK4 MK4 0 0 := K4
      have HF := H
      exact Or.inl ⟨h1, h3, b2, ⟨e1, vK4, MK4, rfl, K4, HF⟩⟩
    · rw [if_neg h3] at H
      have H : Ev none e 35 (if 4 = 2 then 61 else 72) [some (.ref 3), some (.int i), some (.int 4), some (.int (rI M 7 (zI M 3 6))), some (.int 999), none] [] M v M' 0 0 := Ev.back 3 (fun n => rfl) H
      rw [if_neg (by decide)] at H
      have H : Ev none e 35 73 [some (.ref 3), some (.int i), some (.int 4), some (.int (rI M 7 (zI M 3 6))), some (.int 999), none] [.ref 3] M v M' 0 0 := Ev.back 1 (fun n => rfl) H
      have H : Ev none e 35 76 [some (.ref 3), some (.int i), some (.int 4), some (.int (rI M 7 (zI M 3 6))), some (.int 999), none] [.ref (fR M 3 8)] M v M' 0 0 := Ev.back 1 (gs_3 rfl rfl (gf_n hS.1 qa_3 qn_3_8 (by decide) a_t rfl)) H
      have H : Ev none e 35 79 [some (.ref 3), some (.int i), some (.int 4), some (.int (rI M 7 (zI M 3 6))), some (.int 999), none] [.ref (fR M 3 8 + 3)] M v M' 0 0 := Ev.back 1 (gs_3 rfl rfl (gf_x hS.1 a_t qo_28 (fx_t2 hS a_t) rfl)) H
      have H : Ev none e 35 81 [some (.ref 3), some (.int i), some (.int 4), some (.int (rI M 7 (zI M 3 6))), some (.int 999), none] [.int (rI M 7 (zI M 3 6)), .int i, .ref (fR M 3 8 + 3)] M v M' 0 0 := Ev.back 2 (fun n => rfl) H
      obtain ⟨b5, H⟩ := Ev.ias rfl rfl hS.1 (fx_g2 a_t) qw_31 H
      obtain ⟨N6, eN6⟩ : ∃ N, N = (wI M (fR M 3 8 + 3) i.toNatClampNeg (rI M 7 (zI M 3 6))) := ⟨_, rfl⟩
      have hN6 : SQ N6 := by rw [eN6]; exact hS.ki
      have H : Ev none e 35 82 [some (.ref 3), some (.int i), some (.int 4), some (.int (rI M 7 (zI M 3 6))), some (.int 999), none] [] N6 v M' 0 0 := by rw [eN6]; exact H
      have H : Ev none e 35 143 [some (.ref 3), some (.int i), some (.int 4), some (.int (rI M 7 (zI M 3 6))), some (.int 999), none] [.ref 3] N6 v M' 0 0 := Ev.back 3 (fun n => rfl) H
      have H : Ev none e 35 146 [some (.ref 3), some (.int i), some (.int 4), some (.int (rI M 7 (zI M 3 6))), some (.int 999), none] [.ref (fR N6 3 8)] N6 v M' 0 0 := Ev.back 1 (gs_3 rfl rfl (gf_n hN6.1 qa_3 qn_3_8 (by decide) (by rw [show fR N6 3 8 = fR M 3 8 from by rw [eN6]; exact fR_wI]; exact a_t) rfl)) H
      rw [show fR N6 3 8 = fR M 3 8 from by rw [eN6]; exact fR_wI] at H
      have H : Ev none e 35 147 [some (.ref 3), some (.int i), some (.int 4), some (.int (rI M 7 (zI M 3 6))), some (.int 999), none] [.int (rI M 7 (zI M 3 6)), .ref (fR M 3 8)] N6 v M' 0 0 := Ev.back 1 (fun n => rfl) H
      obtain ⟨N8, eN8⟩ : ∃ N, N = (wF N6 (fR M 3 8) 12 (rI M 7 (zI M 3 6))) := ⟨_, rfl⟩
      have hN8 : SQ N8 := by rw [eN8]; exact hN6.kf
      have H : Ev none e 35 150 [some (.ref 3), some (.int i), some (.int 4), some (.int (rI M 7 (zI M 3 6))), some (.int 999), none] [] N8 v M' 0 0 := by rw [eN8]; exact Ev.pfi rfl rfl rfl hN6.1 a_t qi_28_12 H
      have H : Ev none e 35 (if 4 = 2 then 185 else 169) [some (.ref 3), some (.int i), some (.int 4), some (.int (rI M 7 (zI M 3 6))), some (.int 999), none] [] N8 v M' 0 0 := Ev.back 4 (fun n => rfl) H
      rw [if_neg (by decide)] at H
      have H : Ev none e 35 (if 4 = 3 then 185 else 174) [some (.ref 3), some (.int i), some (.int 4), some (.int (rI M 7 (zI M 3 6))), some (.int 999), none] [] N8 v M' 0 0 := Ev.back 3 (fun n => rfl) H
      rw [if_neg (by decide)] at H
      have H : Ev none e 35 (if 4 = 4 then 185 else 179) [some (.ref 3), some (.int i), some (.int 4), some (.int (rI M 7 (zI M 3 6))), some (.int 999), none] [] N8 v M' 0 0 := Ev.back 3 (fun n => rfl) H
      rw [if_pos (by decide)] at H
      have H : Ev none e 35 194 [some (.ref 3), some (.int i), some (.int 4), some (.int (rI M 7 (zI M 3 6))), some (.int 999), some (.int 1)] [.ref 3, .ref 3] N8 v M' 0 0 := Ev.back 5 (fun n => rfl) H
      have H : Ev none e 35 197 [some (.ref 3), some (.int i), some (.int 4), some (.int (rI M 7 (zI M 3 6))), some (.int 999), some (.int 1)] [.int (zI N8 3 10), .ref 3] N8 v M' 0 0 := Ev.back 1 (gs_3 rfl rfl (gf_i hN8.1 qa_3 qi_3_10 rfl)) H
      rw [(show zI N8 3 10 = zI N6 3 10 from by rw [eN8]; exact fI_wF_ne (fun q => absurd q.2 (by decide))).trans (show zI N6 3 10 = zI M 3 10 from by rw [eN6]; exact fI_wI)] at H
      have H : Ev none e 35 (if 1 = 0 then 208 else 202) [some (.ref 3), some (.int i), some (.int 4), some (.int (rI M 7 (zI M 3 6))), some (.int 999), some (.int 1)] [.int (zI M 3 10), .ref 3] N8 v M' 0 0 := Ev.back 2 (fun n => rfl) H
      rw [if_neg (by decide)] at H
      have H : Ev none e 35 210 [some (.ref 3), some (.int i), some (.int 4), some (.int (rI M 7 (zI M 3 6))), some (.int 999), some (.int 1)] [.int ((zI M 3 10) ||| ((1 : Int32) <<< ((4 : Int32) &&& 31))), .ref 3] N8 v M' 0 0 := Ev.back 5 (fun n => rfl) H
      obtain ⟨N10, eN10⟩ : ∃ N, N = (wF N8 3 10 ((zI M 3 10) ||| ((1 : Int32) <<< ((4 : Int32) &&& 31)))) := ⟨_, rfl⟩
      have hN10 : SQ N10 := by rw [eN10]; exact hN8.kf
      have H : Ev none e 35 213 [some (.ref 3), some (.int i), some (.int 4), some (.int (rI M 7 (zI M 3 6))), some (.int 999), some (.int 1)] [] N10 v M' 0 0 := by rw [eN10]; exact Ev.pfi rfl rfl rfl hN8.1 qa_3 qi_3_10 H
      have H : Ev none e 35 214 [some (.ref 3), some (.int i), some (.int 4), some (.int (rI M 7 (zI M 3 6))), some (.int 999), some (.int 1)] [.ref 3] N10 v M' 0 0 := Ev.back 1 (fun n => rfl) H
      obtain ⟨e1, rfl⟩ := Ev.dpos rfl rfl H
      obtain ⟨vK11, MK11, K11, H⟩ := Ev.callb (fun n => gs_7 rfl rfl (show gCal (.invokevirtual 140) 3 (.ref 3 :: []) N10 = some (.inr (31, [some (.ref 3)], [])) from by show @cond (Option ((List Value × Mem) ⊕ (Nat × Lo × List Value))) (true && gRecv N10 (.ref 3) 3 && gRoom [] && true) (some (.inr (31, [some (.ref 3)], []))) none = _; rw [recv_s hN10.1 qa_3 qo_3]; rfl)) H
      have K11 : Ev none e1 31 0 [some (.ref 3)] [] N10 vK11 MK11 0 0 := K11
      have HF := H
      subst eN6 eN8 eN10
      exact Or.inr (Or.inl ⟨h1, h3, b2, b5, ⟨e1, vK11, MK11, rfl, K11, HF⟩⟩)
  · rw [if_neg h1] at H
    have H : Ev none e 35 10 [some (.ref 3), some (.int i), some (.int 4), none, none, none] [.int 1, .ref 3] M v M' 0 0 := Ev.back 2 (fun n => rfl) H
    obtain ⟨e1, rfl⟩ := Ev.dpos rfl rfl H
    obtain ⟨vK12, MK12, K12, H⟩ := Ev.callb (fun n => gs_7 rfl rfl (show gCal (.invokevirtual 68) 3 (.int 1 :: .ref 3 :: []) M = some (.inr (27, [some (.ref 3), some (.int 1)], [])) from by show @cond (Option ((List Value × Mem) ⊕ (Nat × Lo × List Value))) (true && gRecv M (.ref 3) 3 && gRoom [] && true) (some (.inr (27, [some (.ref 3), some (.int 1)], []))) none = _; rw [recv_s hS.1 qa_3 qo_3]; rfl)) H
    have K12 : Ev none e1 27 0 [some (.ref 3), some (.int 1)] [] M vK12 MK12 0 0 := K12
    have HF := H
    exact Or.inr (Or.inr (⟨h1, ⟨e1, vK12, MK12, rfl, K12, HF⟩⟩))
theorem nb4_217 {e : Nat} {M M' : Mem} {v : Option Value} {i nn mo oc : Int32} (hS : SQ M) (a_t : gNth sT (fR M 3 8) = some 28) (H : Ev none e 35 217 [some (.ref 3), some (.int i), some (.int 4), some (.int nn), some (.int mo), some (.int oc)] [] M v M' 0 0) : v = some (.int 1) ∧ M' = M := by
  have H : Ev none e 35 218 [some (.ref 3), some (.int i), some (.int 4), some (.int nn), some (.int mo), some (.int oc)] [.int 1] M v M' 0 0 := Ev.back 1 (fun n => rfl) H
  obtain ⟨z1, z2⟩ := Ev.retz rfl rfl H
  exact ⟨z1, z2⟩
theorem nb4_13 {e : Nat} {M M' : Mem} {v : Option Value} {i y : Int32} (hS : SQ M) (a_t : gNth sT (fR M 3 8) = some 28) (H : Ev none e 35 13 [some (.ref 3), some (.int i), some (.int 4), none, none, none] [.int y] M v M' 0 0) : v = some (.int y) ∧ M' = M := by
  obtain ⟨z1, z2⟩ := Ev.retz rfl rfl H
  exact ⟨z1, z2⟩
theorem nb4_71 {e : Nat} {M M' : Mem} {v : Option Value} {i nn mo y : Int32} (hS : SQ M) (a_t : gNth sT (fR M 3 8) = some 28) (H : Ev none e 35 71 [some (.ref 3), some (.int i), some (.int 4), some (.int nn), some (.int mo), none] [.int y] M v M' 0 0) : v = some (.int y) ∧ M' = M := by
  obtain ⟨z1, z2⟩ := Ev.retz rfl rfl H
  exact ⟨z1, z2⟩
theorem nb5_0 {e : Nat} {M M' : Mem} {v : Option Value} {i : Int32} (hS : SQ M) (a_t : gNth sT (fR M 3 8) = some 28) (H : Ev none e 35 0 [some (.ref 3), some (.int i), some (.int 5), none, none, none] [] M v M' 0 0) : ((zI M 3 7) = 3 ∧ 99 < (rI M 7 (zI M 3 6)) ∧ (0 ≤ (zI M 3 6).toInt ∧ (zI M 3 6).toInt < 401) ∧ (∃ e1 v1 M1, e = e1 + 1 ∧ Ev none e1 27 0 [some (.ref 3), some (.int 2)] [] M v1 M1 0 0 ∧ Ev none e 35 71 [some (.ref 3), some (.int i), some (.int 5), some (.int (rI M 7 (zI M 3 6))), some (.int 99), none] (v1.toList ++ []) M1 v M' 0 0)) ∨ ((zI M 3 7) = 3 ∧ ¬ (99 < (rI M 7 (zI M 3 6))) ∧ (0 ≤ (zI M 3 6).toInt ∧ (zI M 3 6).toInt < 401) ∧ (0 ≤ i.toInt ∧ i.toInt < 16) ∧ (∃ e1 v1 M1, e = e1 + 1 ∧ Ev none e1 31 0 [some (.ref 3)] [] (wF (wI M (fR M 3 8 + 3) i.toNatClampNeg (rI M 7 (zI M 3 6))) 3 10 ((zI M 3 10) ||| 0)) v1 M1 0 0 ∧ Ev none e 35 217 [some (.ref 3), some (.int i), some (.int 5), some (.int (rI M 7 (zI M 3 6))), some (.int 99), some (.int 0)] (v1.toList ++ []) M1 v M' 0 0)) ∨ (¬ ((zI M 3 7) = 3) ∧ (∃ e1 v1 M1, e = e1 + 1 ∧ Ev none e1 27 0 [some (.ref 3), some (.int 1)] [] M v1 M1 0 0 ∧ Ev none e 35 13 [some (.ref 3), some (.int i), some (.int 5), none, none, none] (v1.toList ++ []) M1 v M' 0 0)) := by
  have H : Ev none e 35 1 [some (.ref 3), some (.int i), some (.int 5), none, none, none] [.ref 3] M v M' 0 0 := Ev.back 1 (fun n => rfl) H
  have H : Ev none e 35 4 [some (.ref 3), some (.int i), some (.int 5), none, none, none] [.int (zI M 3 7)] M v M' 0 0 := Ev.back 1 (gs_3 rfl rfl (gf_i hS.1 qa_3 qi_3_7 rfl)) H
  have H : Ev none e 35 (if (zI M 3 7) = 3 then 14 else 8) [some (.ref 3), some (.int i), some (.int 5), none, none, none] [] M v M' 0 0 := Ev.back 2 (fun n => rfl) H
  by_cases h1 : (zI M 3 7) = 3
  · rw [if_pos h1] at H
    have H : Ev none e 35 15 [some (.ref 3), some (.int i), some (.int 5), none, none, none] [.ref 3] M v M' 0 0 := Ev.back 1 (fun n => rfl) H
    have H : Ev none e 35 18 [some (.ref 3), some (.int i), some (.int 5), none, none, none] [.ref 7] M v M' 0 0 := Ev.back 1 (gs_3 rfl rfl (gf_u hS.1 qa_3 qr_3_4 qu_7 rfl)) H
    have H : Ev none e 35 19 [some (.ref 3), some (.int i), some (.int 5), none, none, none] [.ref 3, .ref 7] M v M' 0 0 := Ev.back 1 (fun n => rfl) H
    have H : Ev none e 35 22 [some (.ref 3), some (.int i), some (.int 5), none, none, none] [.int (zI M 3 6), .ref 7] M v M' 0 0 := Ev.back 1 (gs_3 rfl rfl (gf_i hS.1 qa_3 qi_3_6 rfl)) H
    obtain ⟨b2, H⟩ := Ev.ial rfl rfl hS.1 qa_7 qw_7 H
    have H : Ev none e 35 23 [some (.ref 3), some (.int i), some (.int 5), none, none, none] [.int (rI M 7 (zI M 3 6))] M v M' 0 0 := H
    have H : Ev none e 35 (if 5 = 5 then 29 else 34) [some (.ref 3), some (.int i), some (.int 5), some (.int (rI M 7 (zI M 3 6))), none, none] [] M v M' 0 0 := Ev.back 4 (fun n => rfl) H
    rw [if_pos (by decide)] at H
    have H : Ev none e 35 (if 99 < (rI M 7 (zI M 3 6)) then 66 else 56) [some (.ref 3), some (.int i), some (.int 5), some (.int (rI M 7 (zI M 3 6))), some (.int 99), none] [] M v M' 0 0 := Ev.back 6 (fun n => rfl) H
    by_cases h3 : 99 < (rI M 7 (zI M 3 6))
    · rw [if_pos h3] at H
      have H : Ev none e 35 68 [some (.ref 3), some (.int i), some (.int 5), some (.int (rI M 7 (zI M 3 6))), some (.int 99), none] [.int 2, .ref 3] M v M' 0 0 := Ev.back 2 (fun n => rfl) H
      obtain ⟨e1, rfl⟩ := Ev.dpos rfl rfl H
      obtain ⟨vK4, MK4, K4, H⟩ := Ev.callb (fun n => gs_7 rfl rfl (show gCal (.invokevirtual 68) 3 (.int 2 :: .ref 3 :: []) M = some (.inr (27, [some (.ref 3), some (.int 2)], [])) from by show @cond (Option ((List Value × Mem) ⊕ (Nat × Lo × List Value))) (true && gRecv M (.ref 3) 3 && gRoom [] && true) (some (.inr (27, [some (.ref 3), some (.int 2)], []))) none = _; rw [recv_s hS.1 qa_3 qo_3]; rfl)) H
      have K4 : Ev none e1 27 0 [some (.ref 3), some (.int 2)] [] M vK4 MK4 0 0 := K4
      have HF := H
      exact Or.inl ⟨h1, h3, b2, ⟨e1, vK4, MK4, rfl, K4, HF⟩⟩
    · rw [if_neg h3] at H
      have H : Ev none e 35 (if 5 = 2 then 61 else 72) [some (.ref 3), some (.int i), some (.int 5), some (.int (rI M 7 (zI M 3 6))), some (.int 99), none] [] M v M' 0 0 := Ev.back 3 (fun n => rfl) H
      rw [if_neg (by decide)] at H
      have H : Ev none e 35 73 [some (.ref 3), some (.int i), some (.int 5), some (.int (rI M 7 (zI M 3 6))), some (.int 99), none] [.ref 3] M v M' 0 0 := Ev.back 1 (fun n => rfl) H
      have H : Ev none e 35 76 [some (.ref 3), some (.int i), some (.int 5), some (.int (rI M 7 (zI M 3 6))), some (.int 99), none] [.ref (fR M 3 8)] M v M' 0 0 := Ev.back 1 (gs_3 rfl rfl (gf_n hS.1 qa_3 qn_3_8 (by decide) a_t rfl)) H
      have H : Ev none e 35 79 [some (.ref 3), some (.int i), some (.int 5), some (.int (rI M 7 (zI M 3 6))), some (.int 99), none] [.ref (fR M 3 8 + 3)] M v M' 0 0 := Ev.back 1 (gs_3 rfl rfl (gf_x hS.1 a_t qo_28 (fx_t2 hS a_t) rfl)) H
      have H : Ev none e 35 81 [some (.ref 3), some (.int i), some (.int 5), some (.int (rI M 7 (zI M 3 6))), some (.int 99), none] [.int (rI M 7 (zI M 3 6)), .int i, .ref (fR M 3 8 + 3)] M v M' 0 0 := Ev.back 2 (fun n => rfl) H
      obtain ⟨b5, H⟩ := Ev.ias rfl rfl hS.1 (fx_g2 a_t) qw_31 H
      obtain ⟨N6, eN6⟩ : ∃ N, N = (wI M (fR M 3 8 + 3) i.toNatClampNeg (rI M 7 (zI M 3 6))) := ⟨_, rfl⟩
      have hN6 : SQ N6 := by rw [eN6]; exact hS.ki
      have H : Ev none e 35 82 [some (.ref 3), some (.int i), some (.int 5), some (.int (rI M 7 (zI M 3 6))), some (.int 99), none] [] N6 v M' 0 0 := by rw [eN6]; exact H
      have H : Ev none e 35 (if 5 = 2 then 185 else 169) [some (.ref 3), some (.int i), some (.int 5), some (.int (rI M 7 (zI M 3 6))), some (.int 99), none] [] N6 v M' 0 0 := Ev.back 5 (fun n => rfl) H
      rw [if_neg (by decide)] at H
      have H : Ev none e 35 (if 5 = 3 then 185 else 174) [some (.ref 3), some (.int i), some (.int 5), some (.int (rI M 7 (zI M 3 6))), some (.int 99), none] [] N6 v M' 0 0 := Ev.back 3 (fun n => rfl) H
      rw [if_neg (by decide)] at H
      have H : Ev none e 35 (if 5 = 4 then 185 else 179) [some (.ref 3), some (.int i), some (.int 5), some (.int (rI M 7 (zI M 3 6))), some (.int 99), none] [] N6 v M' 0 0 := Ev.back 3 (fun n => rfl) H
      rw [if_neg (by decide)] at H
      have H : Ev none e 35 (if 5 = 7 then 185 else 189) [some (.ref 3), some (.int i), some (.int 5), some (.int (rI M 7 (zI M 3 6))), some (.int 99), none] [] N6 v M' 0 0 := Ev.back 3 (fun n => rfl) H
      rw [if_neg (by decide)] at H
      have H : Ev none e 35 194 [some (.ref 3), some (.int i), some (.int 5), some (.int (rI M 7 (zI M 3 6))), some (.int 99), some (.int 0)] [.ref 3, .ref 3] N6 v M' 0 0 := Ev.back 4 (fun n => rfl) H
      have H : Ev none e 35 197 [some (.ref 3), some (.int i), some (.int 5), some (.int (rI M 7 (zI M 3 6))), some (.int 99), some (.int 0)] [.int (zI N6 3 10), .ref 3] N6 v M' 0 0 := Ev.back 1 (gs_3 rfl rfl (gf_i hN6.1 qa_3 qi_3_10 rfl)) H
      rw [show zI N6 3 10 = zI M 3 10 from by rw [eN6]; exact fI_wI] at H
      have H : Ev none e 35 (if 0 = 0 then 208 else 202) [some (.ref 3), some (.int i), some (.int 5), some (.int (rI M 7 (zI M 3 6))), some (.int 99), some (.int 0)] [.int (zI M 3 10), .ref 3] N6 v M' 0 0 := Ev.back 2 (fun n => rfl) H
      rw [if_pos (by decide)] at H
      have H : Ev none e 35 210 [some (.ref 3), some (.int i), some (.int 5), some (.int (rI M 7 (zI M 3 6))), some (.int 99), some (.int 0)] [.int ((zI M 3 10) ||| 0), .ref 3] N6 v M' 0 0 := Ev.back 2 (fun n => rfl) H
      obtain ⟨N8, eN8⟩ : ∃ N, N = (wF N6 3 10 ((zI M 3 10) ||| 0)) := ⟨_, rfl⟩
      have hN8 : SQ N8 := by rw [eN8]; exact hN6.kf
      have H : Ev none e 35 213 [some (.ref 3), some (.int i), some (.int 5), some (.int (rI M 7 (zI M 3 6))), some (.int 99), some (.int 0)] [] N8 v M' 0 0 := by rw [eN8]; exact Ev.pfi rfl rfl rfl hN6.1 qa_3 qi_3_10 H
      have H : Ev none e 35 214 [some (.ref 3), some (.int i), some (.int 5), some (.int (rI M 7 (zI M 3 6))), some (.int 99), some (.int 0)] [.ref 3] N8 v M' 0 0 := Ev.back 1 (fun n => rfl) H
      obtain ⟨e1, rfl⟩ := Ev.dpos rfl rfl H
      obtain ⟨vK9, MK9, K9, H⟩ := Ev.callb (fun n => gs_7 rfl rfl (show gCal (.invokevirtual 140) 3 (.ref 3 :: []) N8 = some (.inr (31, [some (.ref 3)], [])) from by show @cond (Option ((List Value × Mem) ⊕ (Nat × Lo × List Value))) (true && gRecv N8 (.ref 3) 3 && gRoom [] && true) (some (.inr (31, [some (.ref 3)], []))) none = _; rw [recv_s hN8.1 qa_3 qo_3]; rfl)) H
      have K9 : Ev none e1 31 0 [some (.ref 3)] [] N8 vK9 MK9 0 0 := K9
      have HF := H
      subst eN6 eN8
      exact Or.inr (Or.inl ⟨h1, h3, b2, b5, ⟨e1, vK9, MK9, rfl, K9, HF⟩⟩)
  · rw [if_neg h1] at H
    have H : Ev none e 35 10 [some (.ref 3), some (.int i), some (.int 5), none, none, none] [.int 1, .ref 3] M v M' 0 0 := Ev.back 2 (fun n => rfl) H
    obtain ⟨e1, rfl⟩ := Ev.dpos rfl rfl H
    obtain ⟨vK10, MK10, K10, H⟩ := Ev.callb (fun n => gs_7 rfl rfl (show gCal (.invokevirtual 68) 3 (.int 1 :: .ref 3 :: []) M = some (.inr (27, [some (.ref 3), some (.int 1)], [])) from by show @cond (Option ((List Value × Mem) ⊕ (Nat × Lo × List Value))) (true && gRecv M (.ref 3) 3 && gRoom [] && true) (some (.inr (27, [some (.ref 3), some (.int 1)], []))) none = _; rw [recv_s hS.1 qa_3 qo_3]; rfl)) H
    have K10 : Ev none e1 27 0 [some (.ref 3), some (.int 1)] [] M vK10 MK10 0 0 := K10
    have HF := H
    exact Or.inr (Or.inr (⟨h1, ⟨e1, vK10, MK10, rfl, K10, HF⟩⟩))
theorem nb5_217 {e : Nat} {M M' : Mem} {v : Option Value} {i nn mo oc : Int32} (hS : SQ M) (a_t : gNth sT (fR M 3 8) = some 28) (H : Ev none e 35 217 [some (.ref 3), some (.int i), some (.int 5), some (.int nn), some (.int mo), some (.int oc)] [] M v M' 0 0) : v = some (.int 1) ∧ M' = M := by
  have H : Ev none e 35 218 [some (.ref 3), some (.int i), some (.int 5), some (.int nn), some (.int mo), some (.int oc)] [.int 1] M v M' 0 0 := Ev.back 1 (fun n => rfl) H
  obtain ⟨z1, z2⟩ := Ev.retz rfl rfl H
  exact ⟨z1, z2⟩
theorem nb5_13 {e : Nat} {M M' : Mem} {v : Option Value} {i y : Int32} (hS : SQ M) (a_t : gNth sT (fR M 3 8) = some 28) (H : Ev none e 35 13 [some (.ref 3), some (.int i), some (.int 5), none, none, none] [.int y] M v M' 0 0) : v = some (.int y) ∧ M' = M := by
  obtain ⟨z1, z2⟩ := Ev.retz rfl rfl H
  exact ⟨z1, z2⟩
theorem nb5_71 {e : Nat} {M M' : Mem} {v : Option Value} {i nn mo y : Int32} (hS : SQ M) (a_t : gNth sT (fR M 3 8) = some 28) (H : Ev none e 35 71 [some (.ref 3), some (.int i), some (.int 5), some (.int nn), some (.int mo), none] [.int y] M v M' 0 0) : v = some (.int y) ∧ M' = M := by
  obtain ⟨z1, z2⟩ := Ev.retz rfl rfl H
  exact ⟨z1, z2⟩
theorem nb7_0 {e : Nat} {M M' : Mem} {v : Option Value} {i : Int32} (hS : SQ M) (a_t : gNth sT (fR M 3 8) = some 28) (H : Ev none e 35 0 [some (.ref 3), some (.int i), some (.int 7), none, none, none] [] M v M' 0 0) : ((zI M 3 7) = 3 ∧ 9 < (rI M 7 (zI M 3 6)) ∧ (0 ≤ (zI M 3 6).toInt ∧ (zI M 3 6).toInt < 401) ∧ (∃ e1 v1 M1, e = e1 + 1 ∧ Ev none e1 27 0 [some (.ref 3), some (.int 2)] [] M v1 M1 0 0 ∧ Ev none e 35 71 [some (.ref 3), some (.int i), some (.int 7), some (.int (rI M 7 (zI M 3 6))), some (.int 9), none] (v1.toList ++ []) M1 v M' 0 0)) ∨ ((zI M 3 7) = 3 ∧ ¬ (9 < (rI M 7 (zI M 3 6))) ∧ (0 ≤ (zI M 3 6).toInt ∧ (zI M 3 6).toInt < 401) ∧ (0 ≤ i.toInt ∧ i.toInt < 16) ∧ (∃ e1 v1 M1, e = e1 + 1 ∧ Ev none e1 31 0 [some (.ref 3)] [] (wF (wF (wI M (fR M 3 8 + 3) i.toNatClampNeg (rI M 7 (zI M 3 6))) (fR M 3 8) 13 (rI M 7 (zI M 3 6))) 3 10 ((zI M 3 10) ||| ((1 : Int32) <<< ((7 : Int32) &&& 31)))) v1 M1 0 0 ∧ Ev none e 35 217 [some (.ref 3), some (.int i), some (.int 7), some (.int (rI M 7 (zI M 3 6))), some (.int 9), some (.int 1)] (v1.toList ++ []) M1 v M' 0 0)) ∨ (¬ ((zI M 3 7) = 3) ∧ (∃ e1 v1 M1, e = e1 + 1 ∧ Ev none e1 27 0 [some (.ref 3), some (.int 1)] [] M v1 M1 0 0 ∧ Ev none e 35 13 [some (.ref 3), some (.int i), some (.int 7), none, none, none] (v1.toList ++ []) M1 v M' 0 0)) := by
  have H : Ev none e 35 1 [some (.ref 3), some (.int i), some (.int 7), none, none, none] [.ref 3] M v M' 0 0 := Ev.back 1 (fun n => rfl) H
  have H : Ev none e 35 4 [some (.ref 3), some (.int i), some (.int 7), none, none, none] [.int (zI M 3 7)] M v M' 0 0 := Ev.back 1 (gs_3 rfl rfl (gf_i hS.1 qa_3 qi_3_7 rfl)) H
  have H : Ev none e 35 (if (zI M 3 7) = 3 then 14 else 8) [some (.ref 3), some (.int i), some (.int 7), none, none, none] [] M v M' 0 0 := Ev.back 2 (fun n => rfl) H
  by_cases h1 : (zI M 3 7) = 3
  · rw [if_pos h1] at H
    have H : Ev none e 35 15 [some (.ref 3), some (.int i), some (.int 7), none, none, none] [.ref 3] M v M' 0 0 := Ev.back 1 (fun n => rfl) H
    have H : Ev none e 35 18 [some (.ref 3), some (.int i), some (.int 7), none, none, none] [.ref 7] M v M' 0 0 := Ev.back 1 (gs_3 rfl rfl (gf_u hS.1 qa_3 qr_3_4 qu_7 rfl)) H
    have H : Ev none e 35 19 [some (.ref 3), some (.int i), some (.int 7), none, none, none] [.ref 3, .ref 7] M v M' 0 0 := Ev.back 1 (fun n => rfl) H
    have H : Ev none e 35 22 [some (.ref 3), some (.int i), some (.int 7), none, none, none] [.int (zI M 3 6), .ref 7] M v M' 0 0 := Ev.back 1 (gs_3 rfl rfl (gf_i hS.1 qa_3 qi_3_6 rfl)) H
    obtain ⟨b2, H⟩ := Ev.ial rfl rfl hS.1 qa_7 qw_7 H
    have H : Ev none e 35 23 [some (.ref 3), some (.int i), some (.int 7), none, none, none] [.int (rI M 7 (zI M 3 6))] M v M' 0 0 := H
    have H : Ev none e 35 (if 7 = 5 then 29 else 34) [some (.ref 3), some (.int i), some (.int 7), some (.int (rI M 7 (zI M 3 6))), none, none] [] M v M' 0 0 := Ev.back 4 (fun n => rfl) H
    rw [if_neg (by decide)] at H
    have H : Ev none e 35 (if 7 = 7 then 40 else 45) [some (.ref 3), some (.int i), some (.int 7), some (.int (rI M 7 (zI M 3 6))), none, none] [] M v M' 0 0 := Ev.back 3 (fun n => rfl) H
    rw [if_pos (by decide)] at H
    have H : Ev none e 35 (if 9 < (rI M 7 (zI M 3 6)) then 66 else 56) [some (.ref 3), some (.int i), some (.int 7), some (.int (rI M 7 (zI M 3 6))), some (.int 9), none] [] M v M' 0 0 := Ev.back 6 (fun n => rfl) H
    by_cases h3 : 9 < (rI M 7 (zI M 3 6))
    · rw [if_pos h3] at H
      have H : Ev none e 35 68 [some (.ref 3), some (.int i), some (.int 7), some (.int (rI M 7 (zI M 3 6))), some (.int 9), none] [.int 2, .ref 3] M v M' 0 0 := Ev.back 2 (fun n => rfl) H
      obtain ⟨e1, rfl⟩ := Ev.dpos rfl rfl H
      obtain ⟨vK4, MK4, K4, H⟩ := Ev.callb (fun n => gs_7 rfl rfl (show gCal (.invokevirtual 68) 3 (.int 2 :: .ref 3 :: []) M = some (.inr (27, [some (.ref 3), some (.int 2)], [])) from by show @cond (Option ((List Value × Mem) ⊕ (Nat × Lo × List Value))) (true && gRecv M (.ref 3) 3 && gRoom [] && true) (some (.inr (27, [some (.ref 3), some (.int 2)], []))) none = _; rw [recv_s hS.1 qa_3 qo_3]; rfl)) H
      have K4 : Ev none e1 27 0 [some (.ref 3), some (.int 2)] [] M vK4 MK4 0 0 := K4
      have HF := H
      exact Or.inl ⟨h1, h3, b2, ⟨e1, vK4, MK4, rfl, K4, HF⟩⟩
    · rw [if_neg h3] at H
      have H : Ev none e 35 (if 7 = 2 then 61 else 72) [some (.ref 3), some (.int i), some (.int 7), some (.int (rI M 7 (zI M 3 6))), some (.int 9), none] [] M v M' 0 0 := Ev.back 3 (fun n => rfl) H
      rw [if_neg (by decide)] at H
      have H : Ev none e 35 73 [some (.ref 3), some (.int i), some (.int 7), some (.int (rI M 7 (zI M 3 6))), some (.int 9), none] [.ref 3] M v M' 0 0 := Ev.back 1 (fun n => rfl) H
      have H : Ev none e 35 76 [some (.ref 3), some (.int i), some (.int 7), some (.int (rI M 7 (zI M 3 6))), some (.int 9), none] [.ref (fR M 3 8)] M v M' 0 0 := Ev.back 1 (gs_3 rfl rfl (gf_n hS.1 qa_3 qn_3_8 (by decide) a_t rfl)) H
      have H : Ev none e 35 79 [some (.ref 3), some (.int i), some (.int 7), some (.int (rI M 7 (zI M 3 6))), some (.int 9), none] [.ref (fR M 3 8 + 3)] M v M' 0 0 := Ev.back 1 (gs_3 rfl rfl (gf_x hS.1 a_t qo_28 (fx_t2 hS a_t) rfl)) H
      have H : Ev none e 35 81 [some (.ref 3), some (.int i), some (.int 7), some (.int (rI M 7 (zI M 3 6))), some (.int 9), none] [.int (rI M 7 (zI M 3 6)), .int i, .ref (fR M 3 8 + 3)] M v M' 0 0 := Ev.back 2 (fun n => rfl) H
      obtain ⟨b5, H⟩ := Ev.ias rfl rfl hS.1 (fx_g2 a_t) qw_31 H
      obtain ⟨N6, eN6⟩ : ∃ N, N = (wI M (fR M 3 8 + 3) i.toNatClampNeg (rI M 7 (zI M 3 6))) := ⟨_, rfl⟩
      have hN6 : SQ N6 := by rw [eN6]; exact hS.ki
      have H : Ev none e 35 82 [some (.ref 3), some (.int i), some (.int 7), some (.int (rI M 7 (zI M 3 6))), some (.int 9), none] [] N6 v M' 0 0 := by rw [eN6]; exact H
      have H : Ev none e 35 154 [some (.ref 3), some (.int i), some (.int 7), some (.int (rI M 7 (zI M 3 6))), some (.int 9), none] [.ref 3] N6 v M' 0 0 := Ev.back 3 (fun n => rfl) H
      have H : Ev none e 35 157 [some (.ref 3), some (.int i), some (.int 7), some (.int (rI M 7 (zI M 3 6))), some (.int 9), none] [.ref (fR N6 3 8)] N6 v M' 0 0 := Ev.back 1 (gs_3 rfl rfl (gf_n hN6.1 qa_3 qn_3_8 (by decide) (by rw [show fR N6 3 8 = fR M 3 8 from by rw [eN6]; exact fR_wI]; exact a_t) rfl)) H
      rw [show fR N6 3 8 = fR M 3 8 from by rw [eN6]; exact fR_wI] at H
      have H : Ev none e 35 158 [some (.ref 3), some (.int i), some (.int 7), some (.int (rI M 7 (zI M 3 6))), some (.int 9), none] [.int (rI M 7 (zI M 3 6)), .ref (fR M 3 8)] N6 v M' 0 0 := Ev.back 1 (fun n => rfl) H
      obtain ⟨N8, eN8⟩ : ∃ N, N = (wF N6 (fR M 3 8) 13 (rI M 7 (zI M 3 6))) := ⟨_, rfl⟩
      have hN8 : SQ N8 := by rw [eN8]; exact hN6.kf
      have H : Ev none e 35 161 [some (.ref 3), some (.int i), some (.int 7), some (.int (rI M 7 (zI M 3 6))), some (.int 9), none] [] N8 v M' 0 0 := by rw [eN8]; exact Ev.pfi rfl rfl rfl hN6.1 a_t qi_28_13 H
      have H : Ev none e 35 (if 7 = 2 then 185 else 169) [some (.ref 3), some (.int i), some (.int 7), some (.int (rI M 7 (zI M 3 6))), some (.int 9), none] [] N8 v M' 0 0 := Ev.back 4 (fun n => rfl) H
      rw [if_neg (by decide)] at H
      have H : Ev none e 35 (if 7 = 3 then 185 else 174) [some (.ref 3), some (.int i), some (.int 7), some (.int (rI M 7 (zI M 3 6))), some (.int 9), none] [] N8 v M' 0 0 := Ev.back 3 (fun n => rfl) H
      rw [if_neg (by decide)] at H
      have H : Ev none e 35 (if 7 = 4 then 185 else 179) [some (.ref 3), some (.int i), some (.int 7), some (.int (rI M 7 (zI M 3 6))), some (.int 9), none] [] N8 v M' 0 0 := Ev.back 3 (fun n => rfl) H
      rw [if_neg (by decide)] at H
      have H : Ev none e 35 (if 7 = 7 then 185 else 189) [some (.ref 3), some (.int i), some (.int 7), some (.int (rI M 7 (zI M 3 6))), some (.int 9), none] [] N8 v M' 0 0 := Ev.back 3 (fun n => rfl) H
      rw [if_pos (by decide)] at H
      have H : Ev none e 35 194 [some (.ref 3), some (.int i), some (.int 7), some (.int (rI M 7 (zI M 3 6))), some (.int 9), some (.int 1)] [.ref 3, .ref 3] N8 v M' 0 0 := Ev.back 5 (fun n => rfl) H
      have H : Ev none e 35 197 [some (.ref 3), some (.int i), some (.int 7), some (.int (rI M 7 (zI M 3 6))), some (.int 9), some (.int 1)] [.int (zI N8 3 10), .ref 3] N8 v M' 0 0 := Ev.back 1 (gs_3 rfl rfl (gf_i hN8.1 qa_3 qi_3_10 rfl)) H
      rw [(show zI N8 3 10 = zI N6 3 10 from by rw [eN8]; exact fI_wF_ne (fun q => absurd q.2 (by decide))).trans (show zI N6 3 10 = zI M 3 10 from by rw [eN6]; exact fI_wI)] at H
      have H : Ev none e 35 (if 1 = 0 then 208 else 202) [some (.ref 3), some (.int i), some (.int 7), some (.int (rI M 7 (zI M 3 6))), some (.int 9), some (.int 1)] [.int (zI M 3 10), .ref 3] N8 v M' 0 0 := Ev.back 2 (fun n => rfl) H
      rw [if_neg (by decide)] at H
      have H : Ev none e 35 210 [some (.ref 3), some (.int i), some (.int 7), some (.int (rI M 7 (zI M 3 6))), some (.int 9), some (.int 1)] [.int ((zI M 3 10) ||| ((1 : Int32) <<< ((7 : Int32) &&& 31))), .ref 3] N8 v M' 0 0 := Ev.back 5 (fun n => rfl) H
      obtain ⟨N10, eN10⟩ : ∃ N, N = (wF N8 3 10 ((zI M 3 10) ||| ((1 : Int32) <<< ((7 : Int32) &&& 31)))) := ⟨_, rfl⟩
      have hN10 : SQ N10 := by rw [eN10]; exact hN8.kf
      have H : Ev none e 35 213 [some (.ref 3), some (.int i), some (.int 7), some (.int (rI M 7 (zI M 3 6))), some (.int 9), some (.int 1)] [] N10 v M' 0 0 := by rw [eN10]; exact Ev.pfi rfl rfl rfl hN8.1 qa_3 qi_3_10 H
      have H : Ev none e 35 214 [some (.ref 3), some (.int i), some (.int 7), some (.int (rI M 7 (zI M 3 6))), some (.int 9), some (.int 1)] [.ref 3] N10 v M' 0 0 := Ev.back 1 (fun n => rfl) H
      obtain ⟨e1, rfl⟩ := Ev.dpos rfl rfl H
      obtain ⟨vK11, MK11, K11, H⟩ := Ev.callb (fun n => gs_7 rfl rfl (show gCal (.invokevirtual 140) 3 (.ref 3 :: []) N10 = some (.inr (31, [some (.ref 3)], [])) from by show @cond (Option ((List Value × Mem) ⊕ (Nat × Lo × List Value))) (true && gRecv N10 (.ref 3) 3 && gRoom [] && true) (some (.inr (31, [some (.ref 3)], []))) none = _; rw [recv_s hN10.1 qa_3 qo_3]; rfl)) H
      have K11 : Ev none e1 31 0 [some (.ref 3)] [] N10 vK11 MK11 0 0 := K11
      have HF := H
      subst eN6 eN8 eN10
      exact Or.inr (Or.inl ⟨h1, h3, b2, b5, ⟨e1, vK11, MK11, rfl, K11, HF⟩⟩)
  · rw [if_neg h1] at H
    have H : Ev none e 35 10 [some (.ref 3), some (.int i), some (.int 7), none, none, none] [.int 1, .ref 3] M v M' 0 0 := Ev.back 2 (fun n => rfl) H
    obtain ⟨e1, rfl⟩ := Ev.dpos rfl rfl H
    obtain ⟨vK12, MK12, K12, H⟩ := Ev.callb (fun n => gs_7 rfl rfl (show gCal (.invokevirtual 68) 3 (.int 1 :: .ref 3 :: []) M = some (.inr (27, [some (.ref 3), some (.int 1)], [])) from by show @cond (Option ((List Value × Mem) ⊕ (Nat × Lo × List Value))) (true && gRecv M (.ref 3) 3 && gRoom [] && true) (some (.inr (27, [some (.ref 3), some (.int 1)], []))) none = _; rw [recv_s hS.1 qa_3 qo_3]; rfl)) H
    have K12 : Ev none e1 27 0 [some (.ref 3), some (.int 1)] [] M vK12 MK12 0 0 := K12
    have HF := H
    exact Or.inr (Or.inr (⟨h1, ⟨e1, vK12, MK12, rfl, K12, HF⟩⟩))
theorem nb7_217 {e : Nat} {M M' : Mem} {v : Option Value} {i nn mo oc : Int32} (hS : SQ M) (a_t : gNth sT (fR M 3 8) = some 28) (H : Ev none e 35 217 [some (.ref 3), some (.int i), some (.int 7), some (.int nn), some (.int mo), some (.int oc)] [] M v M' 0 0) : v = some (.int 1) ∧ M' = M := by
  have H : Ev none e 35 218 [some (.ref 3), some (.int i), some (.int 7), some (.int nn), some (.int mo), some (.int oc)] [.int 1] M v M' 0 0 := Ev.back 1 (fun n => rfl) H
  obtain ⟨z1, z2⟩ := Ev.retz rfl rfl H
  exact ⟨z1, z2⟩
theorem nb7_13 {e : Nat} {M M' : Mem} {v : Option Value} {i y : Int32} (hS : SQ M) (a_t : gNth sT (fR M 3 8) = some 28) (H : Ev none e 35 13 [some (.ref 3), some (.int i), some (.int 7), none, none, none] [.int y] M v M' 0 0) : v = some (.int y) ∧ M' = M := by
  obtain ⟨z1, z2⟩ := Ev.retz rfl rfl H
  exact ⟨z1, z2⟩
theorem nb7_71 {e : Nat} {M M' : Mem} {v : Option Value} {i nn mo y : Int32} (hS : SQ M) (a_t : gNth sT (fR M 3 8) = some 28) (H : Ev none e 35 71 [some (.ref 3), some (.int i), some (.int 7), some (.int nn), some (.int mo), none] [.int y] M v M' 0 0) : v = some (.int y) ∧ M' = M := by
  obtain ⟨z1, z2⟩ := Ev.retz rfl rfl H
  exact ⟨z1, z2⟩
theorem wg_0 {e : Nat} {M M' : Mem} {v : Option Value} {i : Int32} (hS : SQ M) (a_t : gNth sT (fR M 3 8) = some 28) (H : Ev none e 34 0 [some (.ref 3), some (.int i), none] [] M v M' 0 0) : (∃ e1 v1 M1, e = e1 + 1 ∧ Ev none e1 32 0 [some (.ref 3), some (.retAddr 13), none, none, none, none, none, none] [] M v1 M1 0 0 ∧ Ev none e 34 6 [some (.ref 3), some (.int i), none] (v1.toList ++ []) M1 v M' 0 0) := by
  have H : Ev none e 34 3 [some (.ref 3), some (.int i), none] [.retAddr 13, .ref 3] M v M' 0 0 := Ev.back 2 (fun n => rfl) H
  obtain ⟨e1, rfl⟩ := Ev.dpos rfl rfl H
  obtain ⟨vK1, MK1, K1, H⟩ := Ev.callb (fun n => gs_7 rfl rfl (show gCal (.invokevirtual 115) 3 (.retAddr 13 :: .ref 3 :: []) M = some (.inr (32, [some (.ref 3), some (.retAddr 13), none, none, none, none, none, none], [])) from by show @cond (Option ((List Value × Mem) ⊕ (Nat × Lo × List Value))) (true && gRecv M (.ref 3) 3 && gRoom [] && true) (some (.inr (32, [some (.ref 3), some (.retAddr 13), none, none, none, none, none, none], []))) none = _; rw [recv_s hS.1 qa_3 qo_3]; rfl)) H
  have K1 : Ev none e1 32 0 [some (.ref 3), some (.retAddr 13), none, none, none, none, none, none] [] M vK1 MK1 0 0 := K1
  have HF := H
  exact ⟨e1, vK1, MK1, rfl, K1, HF⟩
theorem wg_6 {e : Nat} {M M' : Mem} {v : Option Value} {i a : Int32} (hS : SQ M) (a_t : gNth sT (fR M 3 8) = some 28) (H : Ev none e 34 6 [some (.ref 3), some (.int i), none] [.int a] M v M' 0 0) : (0 ≤ a ∧ (0 ≤ i.toInt ∧ i.toInt < 16) ∧ (∃ e1 v1 M1, e = e1 + 1 ∧ Ev none e1 31 0 [some (.ref 3)] [] (wI M (fR M 3 8 + 2) i.toNatClampNeg a) v1 M1 0 0 ∧ Ev none e 34 31 [some (.ref 3), some (.int i), some (.int a)] (v1.toList ++ []) M1 v M' 0 0)) ∨ (¬ (0 ≤ a) ∧ (∃ e1 v1 M1, e = e1 + 1 ∧ Ev none e1 27 0 [some (.ref 3), some (.int 1)] [] M v1 M1 0 0 ∧ Ev none e 34 16 [some (.ref 3), some (.int i), some (.int a)] (v1.toList ++ []) M1 v M' 0 0)) := by
  have H : Ev none e 34 (if 0 ≤ a then 17 else 11) [some (.ref 3), some (.int i), some (.int a)] [] M v M' 0 0 := Ev.back 3 (fun n => rfl) H
  by_cases h1 : 0 ≤ a
  · rw [if_pos h1] at H
    have H : Ev none e 34 18 [some (.ref 3), some (.int i), some (.int a)] [.ref 3] M v M' 0 0 := Ev.back 1 (fun n => rfl) H
    have H : Ev none e 34 21 [some (.ref 3), some (.int i), some (.int a)] [.ref (fR M 3 8)] M v M' 0 0 := Ev.back 1 (gs_3 rfl rfl (gf_n hS.1 qa_3 qn_3_8 (by decide) a_t rfl)) H
    have H : Ev none e 34 24 [some (.ref 3), some (.int i), some (.int a)] [.ref (fR M 3 8 + 2)] M v M' 0 0 := Ev.back 1 (gs_3 rfl rfl (gf_x hS.1 a_t qo_28 (fx_t1 hS a_t) rfl)) H
    have H : Ev none e 34 26 [some (.ref 3), some (.int i), some (.int a)] [.int a, .int i, .ref (fR M 3 8 + 2)] M v M' 0 0 := Ev.back 2 (fun n => rfl) H
    obtain ⟨b2, H⟩ := Ev.ias rfl rfl hS.1 (fx_g1 a_t) qw_30 H
    obtain ⟨N3, eN3⟩ : ∃ N, N = (wI M (fR M 3 8 + 2) i.toNatClampNeg a) := ⟨_, rfl⟩
    have hN3 : SQ N3 := by rw [eN3]; exact hS.ki
    have H : Ev none e 34 27 [some (.ref 3), some (.int i), some (.int a)] [] N3 v M' 0 0 := by rw [eN3]; exact H
    have H : Ev none e 34 28 [some (.ref 3), some (.int i), some (.int a)] [.ref 3] N3 v M' 0 0 := Ev.back 1 (fun n => rfl) H
    obtain ⟨e1, rfl⟩ := Ev.dpos rfl rfl H
    obtain ⟨vK4, MK4, K4, H⟩ := Ev.callb (fun n => gs_7 rfl rfl (show gCal (.invokevirtual 140) 3 (.ref 3 :: []) N3 = some (.inr (31, [some (.ref 3)], [])) from by show @cond (Option ((List Value × Mem) ⊕ (Nat × Lo × List Value))) (true && gRecv N3 (.ref 3) 3 && gRoom [] && true) (some (.inr (31, [some (.ref 3)], []))) none = _; rw [recv_s hN3.1 qa_3 qo_3]; rfl)) H
    have K4 : Ev none e1 31 0 [some (.ref 3)] [] N3 vK4 MK4 0 0 := K4
    have HF := H
    subst eN3
    exact Or.inl ⟨h1, b2, ⟨e1, vK4, MK4, rfl, K4, HF⟩⟩
  · rw [if_neg h1] at H
    have H : Ev none e 34 13 [some (.ref 3), some (.int i), some (.int a)] [.int 1, .ref 3] M v M' 0 0 := Ev.back 2 (fun n => rfl) H
    obtain ⟨e1, rfl⟩ := Ev.dpos rfl rfl H
    obtain ⟨vK5, MK5, K5, H⟩ := Ev.callb (fun n => gs_7 rfl rfl (show gCal (.invokevirtual 68) 3 (.int 1 :: .ref 3 :: []) M = some (.inr (27, [some (.ref 3), some (.int 1)], [])) from by show @cond (Option ((List Value × Mem) ⊕ (Nat × Lo × List Value))) (true && gRecv M (.ref 3) 3 && gRoom [] && true) (some (.inr (27, [some (.ref 3), some (.int 1)], []))) none = _; rw [recv_s hS.1 qa_3 qo_3]; rfl)) H
    have K5 : Ev none e1 27 0 [some (.ref 3), some (.int 1)] [] M vK5 MK5 0 0 := K5
    have HF := H
    exact Or.inr (⟨h1, ⟨e1, vK5, MK5, rfl, K5, HF⟩⟩)
theorem wg_16 {e : Nat} {M M' : Mem} {v : Option Value} {i a y : Int32} (hS : SQ M) (a_t : gNth sT (fR M 3 8) = some 28) (H : Ev none e 34 16 [some (.ref 3), some (.int i), some (.int a)] [.int y] M v M' 0 0) : v = some (.int y) ∧ M' = M := by
  obtain ⟨z1, z2⟩ := Ev.retz rfl rfl H
  exact ⟨z1, z2⟩
theorem wg_31 {e : Nat} {M M' : Mem} {v : Option Value} {i a : Int32} (hS : SQ M) (a_t : gNth sT (fR M 3 8) = some 28) (H : Ev none e 34 31 [some (.ref 3), some (.int i), some (.int a)] [] M v M' 0 0) : (∃ e1 v1 M1, e = e1 + 1 ∧ Ev none e1 35 0 [some (.ref 3), some (.int i), some (.int 5), none, none, none] [] M v1 M1 0 0 ∧ Ev none e 34 37 [some (.ref 3), some (.int i), some (.int a)] (v1.toList ++ []) M1 v M' 0 0) := by
  have H : Ev none e 34 34 [some (.ref 3), some (.int i), some (.int a)] [.int 5, .int i, .ref 3] M v M' 0 0 := Ev.back 3 (fun n => rfl) H
  obtain ⟨e1, rfl⟩ := Ev.dpos rfl rfl H
  obtain ⟨vK1, MK1, K1, H⟩ := Ev.callb (fun n => gs_7 rfl rfl (show gCal (.invokevirtual 146) 3 (.int 5 :: .int i :: .ref 3 :: []) M = some (.inr (35, [some (.ref 3), some (.int i), some (.int 5), none, none, none], [])) from by show @cond (Option ((List Value × Mem) ⊕ (Nat × Lo × List Value))) (true && gRecv M (.ref 3) 3 && gRoom [] && true) (some (.inr (35, [some (.ref 3), some (.int i), some (.int 5), none, none, none], []))) none = _; rw [recv_s hS.1 qa_3 qo_3]; rfl)) H
  have K1 : Ev none e1 35 0 [some (.ref 3), some (.int i), some (.int 5), none, none, none] [] M vK1 MK1 0 0 := K1
  have HF := H
  exact ⟨e1, vK1, MK1, rfl, K1, HF⟩
theorem wg_37 {e : Nat} {M M' : Mem} {v : Option Value} {i a y : Int32} (hS : SQ M) (a_t : gNth sT (fR M 3 8) = some 28) (H : Ev none e 34 37 [some (.ref 3), some (.int i), some (.int a)] [.int y] M v M' 0 0) : v = some (.int y) ∧ M' = M := by
  obtain ⟨z1, z2⟩ := Ev.retz rfl rfl H
  exact ⟨z1, z2⟩
theorem ln_0 {e : Nat} {M M' : Mem} {v : Option Value} (hS : SQ M) (a_t : gNth sT (fR M 3 8) = some 28) (H : Ev none e 33 0 [some (.ref 3), none, none, none, none, none, none] [] M v M' 0 0) : ((zI M 3 9) = 0 ∧ (∃ e1 v1 M1, e = e1 + 1 ∧ Ev none e1 32 0 [some (.ref 3), some (.retAddr 11), none, none, none, none, none, none] [] M v1 M1 0 0 ∧ Ev none e 33 18 [some (.ref 3), none, none, none, none, none, none] (v1.toList ++ []) M1 v M' 0 0)) ∨ (¬ ((zI M 3 9) = 0) ∧ (∃ e1 v1 M1, e = e1 + 1 ∧ Ev none e1 32 0 [some (.ref 3), some (.retAddr 10), none, none, none, none, none, none] [] M v1 M1 0 0 ∧ Ev none e 33 18 [some (.ref 3), none, none, none, none, none, none] (v1.toList ++ []) M1 v M' 0 0)) := by
  have H : Ev none e 33 2 [some (.ref 3), none, none, none, none, none, none] [.ref 3, .ref 3] M v M' 0 0 := Ev.back 2 (fun n => rfl) H
  have H : Ev none e 33 5 [some (.ref 3), none, none, none, none, none, none] [.int (zI M 3 9), .ref 3] M v M' 0 0 := Ev.back 1 (gs_3 rfl rfl (gf_i hS.1 qa_3 qi_3_9 rfl)) H
  have H : Ev none e 33 (if (zI M 3 9) = 0 then 13 else 8) [some (.ref 3), none, none, none, none, none, none] [.ref 3] M v M' 0 0 := Ev.back 1 (fun n => rfl) H
  by_cases h1 : (zI M 3 9) = 0
  · rw [if_pos h1] at H
    have H : Ev none e 33 15 [some (.ref 3), none, none, none, none, none, none] [.retAddr 11, .ref 3] M v M' 0 0 := Ev.back 1 (fun n => rfl) H
    obtain ⟨e1, rfl⟩ := Ev.dpos rfl rfl H
    obtain ⟨vK2, MK2, K2, H⟩ := Ev.callb (fun n => gs_7 rfl rfl (show gCal (.invokevirtual 115) 3 (.retAddr 11 :: .ref 3 :: []) M = some (.inr (32, [some (.ref 3), some (.retAddr 11), none, none, none, none, none, none], [])) from by show @cond (Option ((List Value × Mem) ⊕ (Nat × Lo × List Value))) (true && gRecv M (.ref 3) 3 && gRoom [] && true) (some (.inr (32, [some (.ref 3), some (.retAddr 11), none, none, none, none, none, none], []))) none = _; rw [recv_s hS.1 qa_3 qo_3]; rfl)) H
    have K2 : Ev none e1 32 0 [some (.ref 3), some (.retAddr 11), none, none, none, none, none, none] [] M vK2 MK2 0 0 := K2
    have HF := H
    exact Or.inl ⟨h1, ⟨e1, vK2, MK2, rfl, K2, HF⟩⟩
  · rw [if_neg h1] at H
    have H : Ev none e 33 15 [some (.ref 3), none, none, none, none, none, none] [.retAddr 10, .ref 3] M v M' 0 0 := Ev.back 2 (fun n => rfl) H
    obtain ⟨e1, rfl⟩ := Ev.dpos rfl rfl H
    obtain ⟨vK3, MK3, K3, H⟩ := Ev.callb (fun n => gs_7 rfl rfl (show gCal (.invokevirtual 115) 3 (.retAddr 10 :: .ref 3 :: []) M = some (.inr (32, [some (.ref 3), some (.retAddr 10), none, none, none, none, none, none], [])) from by show @cond (Option ((List Value × Mem) ⊕ (Nat × Lo × List Value))) (true && gRecv M (.ref 3) 3 && gRoom [] && true) (some (.inr (32, [some (.ref 3), some (.retAddr 10), none, none, none, none, none, none], []))) none = _; rw [recv_s hS.1 qa_3 qo_3]; rfl)) H
    have K3 : Ev none e1 32 0 [some (.ref 3), some (.retAddr 10), none, none, none, none, none, none] [] M vK3 MK3 0 0 := K3
    have HF := H
    exact Or.inr (⟨h1, ⟨e1, vK3, MK3, rfl, K3, HF⟩⟩)
theorem ln_18 {e : Nat} {M M' : Mem} {v : Option Value} {a : Int32} (hS : SQ M) (a_t : gNth sT (fR M 3 8) = some 28) (H : Ev none e 33 18 [some (.ref 3), none, none, none, none, none, none] [.int a] M v M' 0 0) : (0 ≤ a ∧ (zI M 3 9) = 0 ∧ Ev none e 33 44 [some (.ref 3), some (.int a), some (.int (5 + a)), none, none, none, none] [] M v M' 0 0) ∨ (0 ≤ a ∧ ¬ ((zI M 3 9) = 0) ∧ Ev none e 33 44 [some (.ref 3), some (.int a), some (.int a), none, none, none, none] [] M v M' 0 0) ∨ (¬ (0 ≤ a) ∧ (∃ e1 v1 M1, e = e1 + 1 ∧ Ev none e1 27 0 [some (.ref 3), some (.int 1)] [] M v1 M1 0 0 ∧ Ev none e 33 28 [some (.ref 3), some (.int a), none, none, none, none, none] (v1.toList ++ []) M1 v M' 0 0)) := by
  have H : Ev none e 33 (if 0 ≤ a then 29 else 23) [some (.ref 3), some (.int a), none, none, none, none, none] [] M v M' 0 0 := Ev.back 3 (fun n => rfl) H
  by_cases h1 : 0 ≤ a
  · rw [if_pos h1] at H
    have H : Ev none e 33 30 [some (.ref 3), some (.int a), none, none, none, none, none] [.ref 3] M v M' 0 0 := Ev.back 1 (fun n => rfl) H
    have H : Ev none e 33 33 [some (.ref 3), some (.int a), none, none, none, none, none] [.int (zI M 3 9)] M v M' 0 0 := Ev.back 1 (gs_3 rfl rfl (gf_i hS.1 qa_3 qi_3_9 rfl)) H
    have H : Ev none e 33 (if (zI M 3 9) = 0 then 40 else 36) [some (.ref 3), some (.int a), none, none, none, none, none] [] M v M' 0 0 := Ev.back 1 (fun n => rfl) H
    by_cases h2 : (zI M 3 9) = 0
    · rw [if_pos h2] at H
      have H : Ev none e 33 44 [some (.ref 3), some (.int a), some (.int (5 + a)), none, none, none, none] [] M v M' 0 0 := Ev.back 4 (fun n => rfl) H
      have HF := H
      exact Or.inl ⟨h1, h2, HF⟩
    · rw [if_neg h2] at H
      have H : Ev none e 33 44 [some (.ref 3), some (.int a), some (.int a), none, none, none, none] [] M v M' 0 0 := Ev.back 3 (fun n => rfl) H
      have HF := H
      exact Or.inr (Or.inl ⟨h1, h2, HF⟩)
  · rw [if_neg h1] at H
    have H : Ev none e 33 25 [some (.ref 3), some (.int a), none, none, none, none, none] [.int 1, .ref 3] M v M' 0 0 := Ev.back 2 (fun n => rfl) H
    obtain ⟨e1, rfl⟩ := Ev.dpos rfl rfl H
    obtain ⟨vK3, MK3, K3, H⟩ := Ev.callb (fun n => gs_7 rfl rfl (show gCal (.invokevirtual 68) 3 (.int 1 :: .ref 3 :: []) M = some (.inr (27, [some (.ref 3), some (.int 1)], [])) from by show @cond (Option ((List Value × Mem) ⊕ (Nat × Lo × List Value))) (true && gRecv M (.ref 3) 3 && gRoom [] && true) (some (.inr (27, [some (.ref 3), some (.int 1)], []))) none = _; rw [recv_s hS.1 qa_3 qo_3]; rfl)) H
    have K3 : Ev none e1 27 0 [some (.ref 3), some (.int 1)] [] M vK3 MK3 0 0 := K3
    have HF := H
    exact Or.inr (Or.inr (⟨h1, ⟨e1, vK3, MK3, rfl, K3, HF⟩⟩))
theorem ln_28 {e : Nat} {M M' : Mem} {v : Option Value} {a y : Int32} (hS : SQ M) (a_t : gNth sT (fR M 3 8) = some 28) (H : Ev none e 33 28 [some (.ref 3), some (.int a), none, none, none, none, none] [.int y] M v M' 0 0) : v = some (.int y) ∧ M' = M := by
  obtain ⟨z1, z2⟩ := Ev.retz rfl rfl H
  exact ⟨z1, z2⟩
theorem ln0_44 {e : Nat} {M M' : Mem} {v : Option Value} {a : Int32} (hS : SQ M) (a_t : gNth sT (fR M 3 8) = some 28) (H : Ev none e 33 44 [some (.ref 3), some (.int a), some (.int 0), none, none, none, none] [] M v M' 0 0) : (16 ≤ (zI M (fR M 3 8) 8) ∧ (∃ e1 v1 M1, e = e1 + 1 ∧ Ev none e1 27 0 [some (.ref 3), some (.int 3)] [] M v1 M1 0 0 ∧ Ev none e 33 72 [some (.ref 3), some (.int a), some (.int 0), none, none, none, none] (v1.toList ++ []) M1 v M' 0 0)) ∨ (¬ (16 ≤ (zI M (fR M 3 8) 8)) ∧ ((zI M 3 10) &&& ((1 : Int32) <<< ((0 : Int32) &&& 31))) = 0 ∧ (0 ≤ (zI M (fR M 3 8) 8).toInt ∧ (zI M (fR M 3 8) 8).toInt < 16) ∧ (0 ≤ (zI M (fR M 3 8) 8).toInt ∧ (zI M (fR M 3 8) 8).toInt < 16) ∧ (0 ≤ (zI M (fR M 3 8) 8).toInt ∧ (zI M (fR M 3 8) 8).toInt < 16) ∧ (0 ≤ (zI M (fR M 3 8) 8).toInt ∧ (zI M (fR M 3 8) 8).toInt < 16) ∧ (0 ≤ (zI M (fR M 3 8) 8).toInt ∧ (zI M (fR M 3 8) 8).toInt < 16) ∧ (∃ e1 v1 M1, e = e1 + 1 ∧ Ev none e1 31 0 [some (.ref 3)] [] (wI (wI (wI (wI (wI M (fR M 3 8 + 1) ((zI M (fR M 3 8) 8).toNatClampNeg) 0) (fR M 3 8 + 2) ((zI M (fR M 3 8) 8).toNatClampNeg) 0) (fR M 3 8 + 3) ((zI M (fR M 3 8) 8).toNatClampNeg) 0) (fR M 3 8 + 4) ((zI M (fR M 3 8) 8).toNatClampNeg) (zI M (fR M 3 8) 9)) (fR M 3 8 + 5) ((zI M (fR M 3 8) 8).toNatClampNeg) (zI M (fR M 3 8) 9)) v1 M1 0 0 ∧ Ev none e 33 147 [some (.ref 3), some (.int a), some (.int 0), some (.int (zI M (fR M 3 8) 8)), none, none, none] (v1.toList ++ []) M1 v M' 0 0)) ∨ (¬ (16 ≤ (zI M (fR M 3 8) 8)) ∧ ¬ (((zI M 3 10) &&& ((1 : Int32) <<< ((0 : Int32) &&& 31))) = 0) ∧ (∃ e1 v1 M1, e = e1 + 1 ∧ Ev none e1 27 0 [some (.ref 3), some (.int 3)] [] M v1 M1 0 0 ∧ Ev none e 33 72 [some (.ref 3), some (.int a), some (.int 0), none, none, none, none] (v1.toList ++ []) M1 v M' 0 0)) := by
  have H : Ev none e 33 45 [some (.ref 3), some (.int a), some (.int 0), none, none, none, none] [.ref 3] M v M' 0 0 := Ev.back 1 (fun n => rfl) H
  have H : Ev none e 33 48 [some (.ref 3), some (.int a), some (.int 0), none, none, none, none] [.ref (fR M 3 8)] M v M' 0 0 := Ev.back 1 (gs_3 rfl rfl (gf_n hS.1 qa_3 qn_3_8 (by decide) a_t rfl)) H
  have H : Ev none e 33 51 [some (.ref 3), some (.int a), some (.int 0), none, none, none, none] [.int (zI M (fR M 3 8) 8)] M v M' 0 0 := Ev.back 1 (gs_3 rfl rfl (gf_i hS.1 a_t qi_28_8 rfl)) H
  have H : Ev none e 33 (if 16 ≤ (zI M (fR M 3 8) 8) then 67 else 56) [some (.ref 3), some (.int a), some (.int 0), none, none, none, none] [] M v M' 0 0 := Ev.back 2 (fun n => rfl) H
  by_cases h1 : 16 ≤ (zI M (fR M 3 8) 8)
  · rw [if_pos h1] at H
    have H : Ev none e 33 69 [some (.ref 3), some (.int a), some (.int 0), none, none, none, none] [.int 3, .ref 3] M v M' 0 0 := Ev.back 2 (fun n => rfl) H
    obtain ⟨e1, rfl⟩ := Ev.dpos rfl rfl H
    obtain ⟨vK2, MK2, K2, H⟩ := Ev.callb (fun n => gs_7 rfl rfl (show gCal (.invokevirtual 68) 3 (.int 3 :: .ref 3 :: []) M = some (.inr (27, [some (.ref 3), some (.int 3)], [])) from by show @cond (Option ((List Value × Mem) ⊕ (Nat × Lo × List Value))) (true && gRecv M (.ref 3) 3 && gRoom [] && true) (some (.inr (27, [some (.ref 3), some (.int 3)], []))) none = _; rw [recv_s hS.1 qa_3 qo_3]; rfl)) H
    have K2 : Ev none e1 27 0 [some (.ref 3), some (.int 3)] [] M vK2 MK2 0 0 := K2
    have HF := H
    exact Or.inl ⟨h1, ⟨e1, vK2, MK2, rfl, K2, HF⟩⟩
  · rw [if_neg h1] at H
    have H : Ev none e 33 57 [some (.ref 3), some (.int a), some (.int 0), none, none, none, none] [.ref 3] M v M' 0 0 := Ev.back 1 (fun n => rfl) H
    have H : Ev none e 33 60 [some (.ref 3), some (.int a), some (.int 0), none, none, none, none] [.int (zI M 3 10)] M v M' 0 0 := Ev.back 1 (gs_3 rfl rfl (gf_i hS.1 qa_3 qi_3_10 rfl)) H
    have H : Ev none e 33 (if ((zI M 3 10) &&& ((1 : Int32) <<< ((0 : Int32) &&& 31))) = 0 then 73 else 67) [some (.ref 3), some (.int a), some (.int 0), none, none, none, none] [] M v M' 0 0 := Ev.back 5 (fun n => rfl) H
    by_cases h3 : ((zI M 3 10) &&& ((1 : Int32) <<< ((0 : Int32) &&& 31))) = 0
    · rw [if_pos h3] at H
      have H : Ev none e 33 74 [some (.ref 3), some (.int a), some (.int 0), none, none, none, none] [.ref 3] M v M' 0 0 := Ev.back 1 (fun n => rfl) H
      have H : Ev none e 33 77 [some (.ref 3), some (.int a), some (.int 0), none, none, none, none] [.ref (fR M 3 8)] M v M' 0 0 := Ev.back 1 (gs_3 rfl rfl (gf_n hS.1 qa_3 qn_3_8 (by decide) a_t rfl)) H
      have H : Ev none e 33 80 [some (.ref 3), some (.int a), some (.int 0), none, none, none, none] [.int (zI M (fR M 3 8) 8)] M v M' 0 0 := Ev.back 1 (gs_3 rfl rfl (gf_i hS.1 a_t qi_28_8 rfl)) H
      have H : Ev none e 33 82 [some (.ref 3), some (.int a), some (.int 0), some (.int (zI M (fR M 3 8) 8)), none, none, none] [.ref 3] M v M' 0 0 := Ev.back 2 (fun n => rfl) H
      have H : Ev none e 33 85 [some (.ref 3), some (.int a), some (.int 0), some (.int (zI M (fR M 3 8) 8)), none, none, none] [.ref (fR M 3 8)] M v M' 0 0 := Ev.back 1 (gs_3 rfl rfl (gf_n hS.1 qa_3 qn_3_8 (by decide) a_t rfl)) H
      have H : Ev none e 33 88 [some (.ref 3), some (.int a), some (.int 0), some (.int (zI M (fR M 3 8) 8)), none, none, none] [.ref (fR M 3 8 + 1)] M v M' 0 0 := Ev.back 1 (gs_3 rfl rfl (gf_x hS.1 a_t qo_28 (fx_t0 hS a_t) rfl)) H
      have H : Ev none e 33 90 [some (.ref 3), some (.int a), some (.int 0), some (.int (zI M (fR M 3 8) 8)), none, none, none] [.int 0, .int (zI M (fR M 3 8) 8), .ref (fR M 3 8 + 1)] M v M' 0 0 := Ev.back 2 (fun n => rfl) H
      obtain ⟨b4, H⟩ := Ev.ias rfl rfl hS.1 (fx_g0 a_t) qw_29 H
      obtain ⟨N5, eN5⟩ : ∃ N, N = (wI M (fR M 3 8 + 1) ((zI M (fR M 3 8) 8).toNatClampNeg) 0) := ⟨_, rfl⟩
      have hN5 : SQ N5 := by rw [eN5]; exact hS.ki
      have H : Ev none e 33 91 [some (.ref 3), some (.int a), some (.int 0), some (.int (zI M (fR M 3 8) 8)), none, none, none] [] N5 v M' 0 0 := by rw [eN5]; exact H
      have H : Ev none e 33 92 [some (.ref 3), some (.int a), some (.int 0), some (.int (zI M (fR M 3 8) 8)), none, none, none] [.ref 3] N5 v M' 0 0 := Ev.back 1 (fun n => rfl) H
      have H : Ev none e 33 95 [some (.ref 3), some (.int a), some (.int 0), some (.int (zI M (fR M 3 8) 8)), none, none, none] [.ref (fR N5 3 8)] N5 v M' 0 0 := Ev.back 1 (gs_3 rfl rfl (gf_n hN5.1 qa_3 qn_3_8 (by decide) (by rw [show fR N5 3 8 = fR M 3 8 from by rw [eN5]; exact fR_wI]; exact a_t) rfl)) H
      rw [show fR N5 3 8 = fR M 3 8 from by rw [eN5]; exact fR_wI] at H
      have H : Ev none e 33 98 [some (.ref 3), some (.int a), some (.int 0), some (.int (zI M (fR M 3 8) 8)), none, none, none] [.ref (fR M 3 8 + 2)] N5 v M' 0 0 := Ev.back 1 (gs_3 rfl rfl (gf_x hN5.1 a_t qo_28 (fx_t1 hN5 a_t) rfl)) H
      have H : Ev none e 33 100 [some (.ref 3), some (.int a), some (.int 0), some (.int (zI M (fR M 3 8) 8)), none, none, none] [.int 0, .int (zI M (fR M 3 8) 8), .ref (fR M 3 8 + 2)] N5 v M' 0 0 := Ev.back 2 (fun n => rfl) H
      obtain ⟨b6, H⟩ := Ev.ias rfl rfl hN5.1 (fx_g1 a_t) qw_30 H
      obtain ⟨N7, eN7⟩ : ∃ N, N = (wI N5 (fR M 3 8 + 2) ((zI M (fR M 3 8) 8).toNatClampNeg) 0) := ⟨_, rfl⟩
      have hN7 : SQ N7 := by rw [eN7]; exact hN5.ki
      have H : Ev none e 33 101 [some (.ref 3), some (.int a), some (.int 0), some (.int (zI M (fR M 3 8) 8)), none, none, none] [] N7 v M' 0 0 := by rw [eN7]; exact H
      have H : Ev none e 33 102 [some (.ref 3), some (.int a), some (.int 0), some (.int (zI M (fR M 3 8) 8)), none, none, none] [.ref 3] N7 v M' 0 0 := Ev.back 1 (fun n => rfl) H
      have H : Ev none e 33 105 [some (.ref 3), some (.int a), some (.int 0), some (.int (zI M (fR M 3 8) 8)), none, none, none] [.ref (fR N7 3 8)] N7 v M' 0 0 := Ev.back 1 (gs_3 rfl rfl (gf_n hN7.1 qa_3 qn_3_8 (by decide) (by rw [(show fR N7 3 8 = fR N5 3 8 from by rw [eN7]; exact fR_wI).trans (show fR N5 3 8 = fR M 3 8 from by rw [eN5]; exact fR_wI)]; exact a_t) rfl)) H
      rw [(show fR N7 3 8 = fR N5 3 8 from by rw [eN7]; exact fR_wI).trans (show fR N5 3 8 = fR M 3 8 from by rw [eN5]; exact fR_wI)] at H
      have H : Ev none e 33 108 [some (.ref 3), some (.int a), some (.int 0), some (.int (zI M (fR M 3 8) 8)), none, none, none] [.ref (fR M 3 8 + 3)] N7 v M' 0 0 := Ev.back 1 (gs_3 rfl rfl (gf_x hN7.1 a_t qo_28 (fx_t2 hN7 a_t) rfl)) H
      have H : Ev none e 33 110 [some (.ref 3), some (.int a), some (.int 0), some (.int (zI M (fR M 3 8) 8)), none, none, none] [.int 0, .int (zI M (fR M 3 8) 8), .ref (fR M 3 8 + 3)] N7 v M' 0 0 := Ev.back 2 (fun n => rfl) H
      obtain ⟨b8, H⟩ := Ev.ias rfl rfl hN7.1 (fx_g2 a_t) qw_31 H
      obtain ⟨N9, eN9⟩ : ∃ N, N = (wI N7 (fR M 3 8 + 3) ((zI M (fR M 3 8) 8).toNatClampNeg) 0) := ⟨_, rfl⟩
      have hN9 : SQ N9 := by rw [eN9]; exact hN7.ki
      have H : Ev none e 33 111 [some (.ref 3), some (.int a), some (.int 0), some (.int (zI M (fR M 3 8) 8)), none, none, none] [] N9 v M' 0 0 := by rw [eN9]; exact H
      have H : Ev none e 33 112 [some (.ref 3), some (.int a), some (.int 0), some (.int (zI M (fR M 3 8) 8)), none, none, none] [.ref 3] N9 v M' 0 0 := Ev.back 1 (fun n => rfl) H
      have H : Ev none e 33 115 [some (.ref 3), some (.int a), some (.int 0), some (.int (zI M (fR M 3 8) 8)), none, none, none] [.ref (fR N9 3 8)] N9 v M' 0 0 := Ev.back 1 (gs_3 rfl rfl (gf_n hN9.1 qa_3 qn_3_8 (by decide) (by rw [((show fR N9 3 8 = fR N7 3 8 from by rw [eN9]; exact fR_wI).trans (show fR N7 3 8 = fR N5 3 8 from by rw [eN7]; exact fR_wI)).trans (show fR N5 3 8 = fR M 3 8 from by rw [eN5]; exact fR_wI)]; exact a_t) rfl)) H
      rw [((show fR N9 3 8 = fR N7 3 8 from by rw [eN9]; exact fR_wI).trans (show fR N7 3 8 = fR N5 3 8 from by rw [eN7]; exact fR_wI)).trans (show fR N5 3 8 = fR M 3 8 from by rw [eN5]; exact fR_wI)] at H
      have H : Ev none e 33 118 [some (.ref 3), some (.int a), some (.int 0), some (.int (zI M (fR M 3 8) 8)), none, none, none] [.ref (fR M 3 8 + 4)] N9 v M' 0 0 := Ev.back 1 (gs_3 rfl rfl (gf_x hN9.1 a_t qo_28 (fx_t3 hN9 a_t) rfl)) H
      have H : Ev none e 33 120 [some (.ref 3), some (.int a), some (.int 0), some (.int (zI M (fR M 3 8) 8)), none, none, none] [.ref 3, .int (zI M (fR M 3 8) 8), .ref (fR M 3 8 + 4)] N9 v M' 0 0 := Ev.back 2 (fun n => rfl) H
      have H : Ev none e 33 123 [some (.ref 3), some (.int a), some (.int 0), some (.int (zI M (fR M 3 8) 8)), none, none, none] [.ref (fR N9 3 8), .int (zI M (fR M 3 8) 8), .ref (fR M 3 8 + 4)] N9 v M' 0 0 := Ev.back 1 (gs_3 rfl rfl (gf_n hN9.1 qa_3 qn_3_8 (by decide) (by rw [((show fR N9 3 8 = fR N7 3 8 from by rw [eN9]; exact fR_wI).trans (show fR N7 3 8 = fR N5 3 8 from by rw [eN7]; exact fR_wI)).trans (show fR N5 3 8 = fR M 3 8 from by rw [eN5]; exact fR_wI)]; exact a_t) rfl)) H
      rw [((show fR N9 3 8 = fR N7 3 8 from by rw [eN9]; exact fR_wI).trans (show fR N7 3 8 = fR N5 3 8 from by rw [eN7]; exact fR_wI)).trans (show fR N5 3 8 = fR M 3 8 from by rw [eN5]; exact fR_wI)] at H
      have H : Ev none e 33 126 [some (.ref 3), some (.int a), some (.int 0), some (.int (zI M (fR M 3 8) 8)), none, none, none] [.int (zI N9 (fR M 3 8) 9), .int (zI M (fR M 3 8) 8), .ref (fR M 3 8 + 4)] N9 v M' 0 0 := Ev.back 1 (gs_3 rfl rfl (gf_i hN9.1 a_t qi_28_9 rfl)) H
      rw [((show zI N9 (fR M 3 8) 9 = zI N7 (fR M 3 8) 9 from by rw [eN9]; exact fI_wI).trans (show zI N7 (fR M 3 8) 9 = zI N5 (fR M 3 8) 9 from by rw [eN7]; exact fI_wI)).trans (show zI N5 (fR M 3 8) 9 = zI M (fR M 3 8) 9 from by rw [eN5]; exact fI_wI)] at H
      obtain ⟨b10, H⟩ := Ev.ias rfl rfl hN9.1 (fx_g3 a_t) qw_32 H
      obtain ⟨N11, eN11⟩ : ∃ N, N = (wI N9 (fR M 3 8 + 4) ((zI M (fR M 3 8) 8).toNatClampNeg) (zI M (fR M 3 8) 9)) := ⟨_, rfl⟩
      have hN11 : SQ N11 := by rw [eN11]; exact hN9.ki
      have H : Ev none e 33 127 [some (.ref 3), some (.int a), some (.int 0), some (.int (zI M (fR M 3 8) 8)), none, none, none] [] N11 v M' 0 0 := by rw [eN11]; exact H
      have H : Ev none e 33 128 [some (.ref 3), some (.int a), some (.int 0), some (.int (zI M (fR M 3 8) 8)), none, none, none] [.ref 3] N11 v M' 0 0 := Ev.back 1 (fun n => rfl) H
      have H : Ev none e 33 131 [some (.ref 3), some (.int a), some (.int 0), some (.int (zI M (fR M 3 8) 8)), none, none, none] [.ref (fR N11 3 8)] N11 v M' 0 0 := Ev.back 1 (gs_3 rfl rfl (gf_n hN11.1 qa_3 qn_3_8 (by decide) (by rw [(((show fR N11 3 8 = fR N9 3 8 from by rw [eN11]; exact fR_wI).trans (show fR N9 3 8 = fR N7 3 8 from by rw [eN9]; exact fR_wI)).trans (show fR N7 3 8 = fR N5 3 8 from by rw [eN7]; exact fR_wI)).trans (show fR N5 3 8 = fR M 3 8 from by rw [eN5]; exact fR_wI)]; exact a_t) rfl)) H
      rw [(((show fR N11 3 8 = fR N9 3 8 from by rw [eN11]; exact fR_wI).trans (show fR N9 3 8 = fR N7 3 8 from by rw [eN9]; exact fR_wI)).trans (show fR N7 3 8 = fR N5 3 8 from by rw [eN7]; exact fR_wI)).trans (show fR N5 3 8 = fR M 3 8 from by rw [eN5]; exact fR_wI)] at H
      have H : Ev none e 33 134 [some (.ref 3), some (.int a), some (.int 0), some (.int (zI M (fR M 3 8) 8)), none, none, none] [.ref (fR M 3 8 + 5)] N11 v M' 0 0 := Ev.back 1 (gs_3 rfl rfl (gf_x hN11.1 a_t qo_28 (fx_t4 hN11 a_t) rfl)) H
      have H : Ev none e 33 136 [some (.ref 3), some (.int a), some (.int 0), some (.int (zI M (fR M 3 8) 8)), none, none, none] [.ref 3, .int (zI M (fR M 3 8) 8), .ref (fR M 3 8 + 5)] N11 v M' 0 0 := Ev.back 2 (fun n => rfl) H
      have H : Ev none e 33 139 [some (.ref 3), some (.int a), some (.int 0), some (.int (zI M (fR M 3 8) 8)), none, none, none] [.ref (fR N11 3 8), .int (zI M (fR M 3 8) 8), .ref (fR M 3 8 + 5)] N11 v M' 0 0 := Ev.back 1 (gs_3 rfl rfl (gf_n hN11.1 qa_3 qn_3_8 (by decide) (by rw [(((show fR N11 3 8 = fR N9 3 8 from by rw [eN11]; exact fR_wI).trans (show fR N9 3 8 = fR N7 3 8 from by rw [eN9]; exact fR_wI)).trans (show fR N7 3 8 = fR N5 3 8 from by rw [eN7]; exact fR_wI)).trans (show fR N5 3 8 = fR M 3 8 from by rw [eN5]; exact fR_wI)]; exact a_t) rfl)) H
      rw [(((show fR N11 3 8 = fR N9 3 8 from by rw [eN11]; exact fR_wI).trans (show fR N9 3 8 = fR N7 3 8 from by rw [eN9]; exact fR_wI)).trans (show fR N7 3 8 = fR N5 3 8 from by rw [eN7]; exact fR_wI)).trans (show fR N5 3 8 = fR M 3 8 from by rw [eN5]; exact fR_wI)] at H
      have H : Ev none e 33 142 [some (.ref 3), some (.int a), some (.int 0), some (.int (zI M (fR M 3 8) 8)), none, none, none] [.int (zI N11 (fR M 3 8) 9), .int (zI M (fR M 3 8) 8), .ref (fR M 3 8 + 5)] N11 v M' 0 0 := Ev.back 1 (gs_3 rfl rfl (gf_i hN11.1 a_t qi_28_9 rfl)) H
      rw [(((show zI N11 (fR M 3 8) 9 = zI N9 (fR M 3 8) 9 from by rw [eN11]; exact fI_wI).trans (show zI N9 (fR M 3 8) 9 = zI N7 (fR M 3 8) 9 from by rw [eN9]; exact fI_wI)).trans (show zI N7 (fR M 3 8) 9 = zI N5 (fR M 3 8) 9 from by rw [eN7]; exact fI_wI)).trans (show zI N5 (fR M 3 8) 9 = zI M (fR M 3 8) 9 from by rw [eN5]; exact fI_wI)] at H
      obtain ⟨b12, H⟩ := Ev.ias rfl rfl hN11.1 (fx_g4 a_t) qw_33 H
      obtain ⟨N13, eN13⟩ : ∃ N, N = (wI N11 (fR M 3 8 + 5) ((zI M (fR M 3 8) 8).toNatClampNeg) (zI M (fR M 3 8) 9)) := ⟨_, rfl⟩
      have hN13 : SQ N13 := by rw [eN13]; exact hN11.ki
      have H : Ev none e 33 143 [some (.ref 3), some (.int a), some (.int 0), some (.int (zI M (fR M 3 8) 8)), none, none, none] [] N13 v M' 0 0 := by rw [eN13]; exact H
      have H : Ev none e 33 144 [some (.ref 3), some (.int a), some (.int 0), some (.int (zI M (fR M 3 8) 8)), none, none, none] [.ref 3] N13 v M' 0 0 := Ev.back 1 (fun n => rfl) H
      obtain ⟨e1, rfl⟩ := Ev.dpos rfl rfl H
      obtain ⟨vK14, MK14, K14, H⟩ := Ev.callb (fun n => gs_7 rfl rfl (show gCal (.invokevirtual 140) 3 (.ref 3 :: []) N13 = some (.inr (31, [some (.ref 3)], [])) from by show @cond (Option ((List Value × Mem) ⊕ (Nat × Lo × List Value))) (true && gRecv N13 (.ref 3) 3 && gRoom [] && true) (some (.inr (31, [some (.ref 3)], []))) none = _; rw [recv_s hN13.1 qa_3 qo_3]; rfl)) H
      have K14 : Ev none e1 31 0 [some (.ref 3)] [] N13 vK14 MK14 0 0 := K14
      have HF := H
      subst eN5 eN7 eN9 eN11 eN13
      exact Or.inr (Or.inl ⟨h1, h3, b4, b6, b8, b10, b12, ⟨e1, vK14, MK14, rfl, K14, HF⟩⟩)
    · rw [if_neg h3] at H
      have H : Ev none e 33 69 [some (.ref 3), some (.int a), some (.int 0), none, none, none, none] [.int 3, .ref 3] M v M' 0 0 := Ev.back 2 (fun n => rfl) H
      obtain ⟨e1, rfl⟩ := Ev.dpos rfl rfl H
      obtain ⟨vK15, MK15, K15, H⟩ := Ev.callb (fun n => gs_7 rfl rfl (show gCal (.invokevirtual 68) 3 (.int 3 :: .ref 3 :: []) M = some (.inr (27, [some (.ref 3), some (.int 3)], [])) from by show @cond (Option ((List Value × Mem) ⊕ (Nat × Lo × List Value))) (true && gRecv M (.ref 3) 3 && gRoom [] && true) (some (.inr (27, [some (.ref 3), some (.int 3)], []))) none = _; rw [recv_s hS.1 qa_3 qo_3]; rfl)) H
      have K15 : Ev none e1 27 0 [some (.ref 3), some (.int 3)] [] M vK15 MK15 0 0 := K15
      have HF := H
      exact Or.inr (Or.inr (⟨h1, h3, ⟨e1, vK15, MK15, rfl, K15, HF⟩⟩))
theorem ln0_72 {e : Nat} {M M' : Mem} {v : Option Value} {a y : Int32} (hS : SQ M) (a_t : gNth sT (fR M 3 8) = some 28) (H : Ev none e 33 72 [some (.ref 3), some (.int a), some (.int 0), none, none, none, none] [.int y] M v M' 0 0) : v = some (.int y) ∧ M' = M := by
  obtain ⟨z1, z2⟩ := Ev.retz rfl rfl H
  exact ⟨z1, z2⟩
theorem ln0_147 {e : Nat} {M M' : Mem} {v : Option Value} {a i : Int32} (hS : SQ M) (a_t : gNth sT (fR M 3 8) = some 28) (H : Ev none e 33 147 [some (.ref 3), some (.int a), some (.int 0), some (.int i), none, none, none] [] M v M' 0 0) : (∃ e1 v1 M1, e = e1 + 1 ∧ Ev none e1 35 0 [some (.ref 3), some (.int i), some (.int 0), none, none, none] [] M v1 M1 0 0 ∧ Ev none e 33 175 [some (.ref 3), some (.int a), some (.int 0), some (.int i), none, none, none] (v1.toList ++ []) M1 v M' 0 0) := by
  have H : Ev none e 33 (if 0 = 6 then 178 else 153) [some (.ref 3), some (.int a), some (.int 0), some (.int i), none, none, none] [] M v M' 0 0 := Ev.back 3 (fun n => rfl) H
  rw [if_neg (by decide)] at H
  have H : Ev none e 33 (if 0 = 5 then 158 else 169) [some (.ref 3), some (.int a), some (.int 0), some (.int i), none, none, none] [] M v M' 0 0 := Ev.back 3 (fun n => rfl) H
  rw [if_neg (by decide)] at H
  have H : Ev none e 33 172 [some (.ref 3), some (.int a), some (.int 0), some (.int i), none, none, none] [.int 0, .int i, .ref 3] M v M' 0 0 := Ev.back 3 (fun n => rfl) H
  obtain ⟨e1, rfl⟩ := Ev.dpos rfl rfl H
  obtain ⟨vK1, MK1, K1, H⟩ := Ev.callb (fun n => gs_7 rfl rfl (show gCal (.invokevirtual 146) 3 (.int 0 :: .int i :: .ref 3 :: []) M = some (.inr (35, [some (.ref 3), some (.int i), some (.int 0), none, none, none], [])) from by show @cond (Option ((List Value × Mem) ⊕ (Nat × Lo × List Value))) (true && gRecv M (.ref 3) 3 && gRoom [] && true) (some (.inr (35, [some (.ref 3), some (.int i), some (.int 0), none, none, none], []))) none = _; rw [recv_s hS.1 qa_3 qo_3]; rfl)) H
  have K1 : Ev none e1 35 0 [some (.ref 3), some (.int i), some (.int 0), none, none, none] [] M vK1 MK1 0 0 := K1
  have HF := H
  exact ⟨e1, vK1, MK1, rfl, K1, HF⟩
theorem ln0_175 {e : Nat} {M M' : Mem} {v : Option Value} {a i y : Int32} (hS : SQ M) (a_t : gNth sT (fR M 3 8) = some 28) (H : Ev none e 33 175 [some (.ref 3), some (.int a), some (.int 0), some (.int i), none, none, none] [.int y] M v M' 0 0) : (y = 0 ∧ v = some (.int 0) ∧ M' = M) ∨ (¬ (y = 0) ∧ (∃ e1 v1 M1, e = e1 + 1 ∧ Ev none e1 32 0 [some (.ref 3), some (.retAddr 12), none, none, none, none, none, none] [] M v1 M1 0 0 ∧ Ev none e 33 224 [some (.ref 3), some (.int a), some (.int 0), some (.int i), some (.int 1), some (.int 1), none] (v1.toList ++ []) M1 v M' 0 0)) := by
  have H : Ev none e 33 (if y = 0 then 182 else 178) [some (.ref 3), some (.int a), some (.int 0), some (.int i), none, none, none] [] M v M' 0 0 := Ev.back 1 (fun n => rfl) H
  by_cases h1 : y = 0
  · rw [if_pos h1] at H
    have H : Ev none e 33 (if 0 = 0 then 190 else 192) [some (.ref 3), some (.int a), some (.int 0), some (.int i), some (.int 0), none, none] [] M v M' 0 0 := Ev.back 4 (fun n => rfl) H
    rw [if_pos (by decide)] at H
    have H : Ev none e 33 191 [some (.ref 3), some (.int a), some (.int 0), some (.int i), some (.int 0), none, none] [.int 0] M v M' 0 0 := Ev.back 1 (fun n => rfl) H
    obtain ⟨z1, z2⟩ := Ev.retz rfl rfl H
    exact Or.inl ⟨h1, z1, z2⟩
  · rw [if_neg h1] at H
    have H : Ev none e 33 (if 1 = 0 then 190 else 192) [some (.ref 3), some (.int a), some (.int 0), some (.int i), some (.int 1), none, none] [] M v M' 0 0 := Ev.back 5 (fun n => rfl) H
    rw [if_neg (by decide)] at H
    have H : Ev none e 33 (if 0 = 0 then 206 else 196) [some (.ref 3), some (.int a), some (.int 0), some (.int i), some (.int 1), none, none] [] M v M' 0 0 := Ev.back 2 (fun n => rfl) H
    rw [if_pos (by decide)] at H
    have H : Ev none e 33 (if 1 = 0 then 231 else 218) [some (.ref 3), some (.int a), some (.int 0), some (.int i), some (.int 1), some (.int 1), none] [] M v M' 0 0 := Ev.back 5 (fun n => rfl) H
    rw [if_neg (by decide)] at H
    have H : Ev none e 33 221 [some (.ref 3), some (.int a), some (.int 0), some (.int i), some (.int 1), some (.int 1), none] [.retAddr 12, .ref 3] M v M' 0 0 := Ev.back 2 (fun n => rfl) H
    obtain ⟨e1, rfl⟩ := Ev.dpos rfl rfl H
    obtain ⟨vK2, MK2, K2, H⟩ := Ev.callb (fun n => gs_7 rfl rfl (show gCal (.invokevirtual 115) 3 (.retAddr 12 :: .ref 3 :: []) M = some (.inr (32, [some (.ref 3), some (.retAddr 12), none, none, none, none, none, none], [])) from by show @cond (Option ((List Value × Mem) ⊕ (Nat × Lo × List Value))) (true && gRecv M (.ref 3) 3 && gRoom [] && true) (some (.inr (32, [some (.ref 3), some (.retAddr 12), none, none, none, none, none, none], []))) none = _; rw [recv_s hS.1 qa_3 qo_3]; rfl)) H
    have K2 : Ev none e1 32 0 [some (.ref 3), some (.retAddr 12), none, none, none, none, none, none] [] M vK2 MK2 0 0 := K2
    have HF := H
    exact Or.inr (⟨h1, ⟨e1, vK2, MK2, rfl, K2, HF⟩⟩)
theorem ln0_224 {e : Nat} {M M' : Mem} {v : Option Value} {a i y : Int32} (hS : SQ M) (a_t : gNth sT (fR M 3 8) = some 28) (H : Ev none e 33 224 [some (.ref 3), some (.int a), some (.int 0), some (.int i), some (.int 1), some (.int 1), none] [.int y] M v M' 0 0) : (y = 0 ∧ (∃ e1 v1 M1, e = e1 + 1 ∧ Ev none e1 31 0 [some (.ref 3)] [] M v1 M1 0 0 ∧ Ev none e 33 243 [some (.ref 3), some (.int a), some (.int 0), some (.int i), some (.int 1), some (.int 1), some (.int 1)] (v1.toList ++ []) M1 v M' 0 0)) ∨ (¬ (y = 0) ∧ (zI M 3 7) = 59 ∧ (∃ e1 v1 M1, e = e1 + 1 ∧ Ev none e1 31 0 [some (.ref 3)] [] M v1 M1 0 0 ∧ Ev none e 33 283 [some (.ref 3), some (.int a), some (.int 0), some (.int i), some (.int 1), some (.int 1), some (.int 0)] (v1.toList ++ []) M1 v M' 0 0)) ∨ (¬ (y = 0) ∧ ¬ ((zI M 3 7) = 59) ∧ (∃ e1 v1 M1, e = e1 + 1 ∧ Ev none e1 27 0 [some (.ref 3), some (.int 1)] [] M v1 M1 0 0 ∧ Ev none e 33 278 [some (.ref 3), some (.int a), some (.int 0), some (.int i), some (.int 1), some (.int 1), some (.int 0)] (v1.toList ++ []) M1 v M' 0 0)) := by
  have H : Ev none e 33 (if y = 0 then 227 else 231) [some (.ref 3), some (.int a), some (.int 0), some (.int i), some (.int 1), some (.int 1), none] [] M v M' 0 0 := Ev.back 1 (fun n => rfl) H
  by_cases h1 : y = 0
  · rw [if_pos h1] at H
    have H : Ev none e 33 (if 1 = 0 then 243 else 239) [some (.ref 3), some (.int a), some (.int 0), some (.int i), some (.int 1), some (.int 1), some (.int 1)] [] M v M' 0 0 := Ev.back 5 (fun n => rfl) H
    rw [if_neg (by decide)] at H
    have H : Ev none e 33 240 [some (.ref 3), some (.int a), some (.int 0), some (.int i), some (.int 1), some (.int 1), some (.int 1)] [.ref 3] M v M' 0 0 := Ev.back 1 (fun n => rfl) H
    obtain ⟨e1, rfl⟩ := Ev.dpos rfl rfl H
    obtain ⟨vK2, MK2, K2, H⟩ := Ev.callb (fun n => gs_7 rfl rfl (show gCal (.invokevirtual 140) 3 (.ref 3 :: []) M = some (.inr (31, [some (.ref 3)], [])) from by show @cond (Option ((List Value × Mem) ⊕ (Nat × Lo × List Value))) (true && gRecv M (.ref 3) 3 && gRoom [] && true) (some (.inr (31, [some (.ref 3)], []))) none = _; rw [recv_s hS.1 qa_3 qo_3]; rfl)) H
    have K2 : Ev none e1 31 0 [some (.ref 3)] [] M vK2 MK2 0 0 := K2
    have HF := H
    exact Or.inl ⟨h1, ⟨e1, vK2, MK2, rfl, K2, HF⟩⟩
  · rw [if_neg h1] at H
    have H : Ev none e 33 (if 0 = 0 then 243 else 239) [some (.ref 3), some (.int a), some (.int 0), some (.int i), some (.int 1), some (.int 1), some (.int 0)] [] M v M' 0 0 := Ev.back 4 (fun n => rfl) H
    rw [if_pos (by decide)] at H
    have H : Ev none e 33 (if 0 = 0 then 248 else 254) [some (.ref 3), some (.int a), some (.int 0), some (.int i), some (.int 1), some (.int 1), some (.int 0)] [] M v M' 0 0 := Ev.back 2 (fun n => rfl) H
    rw [if_pos (by decide)] at H
    have H : Ev none e 33 (if 0 = 6 then 254 else 264) [some (.ref 3), some (.int a), some (.int 0), some (.int i), some (.int 1), some (.int 1), some (.int 0)] [] M v M' 0 0 := Ev.back 3 (fun n => rfl) H
    rw [if_neg (by decide)] at H
    have H : Ev none e 33 265 [some (.ref 3), some (.int a), some (.int 0), some (.int i), some (.int 1), some (.int 1), some (.int 0)] [.ref 3] M v M' 0 0 := Ev.back 1 (fun n => rfl) H
    have H : Ev none e 33 268 [some (.ref 3), some (.int a), some (.int 0), some (.int i), some (.int 1), some (.int 1), some (.int 0)] [.int (zI M 3 7)] M v M' 0 0 := Ev.back 1 (gs_3 rfl rfl (gf_i hS.1 qa_3 qi_3_7 rfl)) H
    have H : Ev none e 33 (if (zI M 3 7) = 59 then 279 else 273) [some (.ref 3), some (.int a), some (.int 0), some (.int i), some (.int 1), some (.int 1), some (.int 0)] [] M v M' 0 0 := Ev.back 2 (fun n => rfl) H
    by_cases h3 : (zI M 3 7) = 59
    · rw [if_pos h3] at H
      have H : Ev none e 33 280 [some (.ref 3), some (.int a), some (.int 0), some (.int i), some (.int 1), some (.int 1), some (.int 0)] [.ref 3] M v M' 0 0 := Ev.back 1 (fun n => rfl) H
      obtain ⟨e1, rfl⟩ := Ev.dpos rfl rfl H
      obtain ⟨vK4, MK4, K4, H⟩ := Ev.callb (fun n => gs_7 rfl rfl (show gCal (.invokevirtual 140) 3 (.ref 3 :: []) M = some (.inr (31, [some (.ref 3)], [])) from by show @cond (Option ((List Value × Mem) ⊕ (Nat × Lo × List Value))) (true && gRecv M (.ref 3) 3 && gRoom [] && true) (some (.inr (31, [some (.ref 3)], []))) none = _; rw [recv_s hS.1 qa_3 qo_3]; rfl)) H
      have K4 : Ev none e1 31 0 [some (.ref 3)] [] M vK4 MK4 0 0 := K4
      have HF := H
      exact Or.inr (Or.inl ⟨h1, h3, ⟨e1, vK4, MK4, rfl, K4, HF⟩⟩)
    · rw [if_neg h3] at H
      have H : Ev none e 33 275 [some (.ref 3), some (.int a), some (.int 0), some (.int i), some (.int 1), some (.int 1), some (.int 0)] [.int 1, .ref 3] M v M' 0 0 := Ev.back 2 (fun n => rfl) H
      obtain ⟨e1, rfl⟩ := Ev.dpos rfl rfl H
      obtain ⟨vK5, MK5, K5, H⟩ := Ev.callb (fun n => gs_7 rfl rfl (show gCal (.invokevirtual 68) 3 (.int 1 :: .ref 3 :: []) M = some (.inr (27, [some (.ref 3), some (.int 1)], [])) from by show @cond (Option ((List Value × Mem) ⊕ (Nat × Lo × List Value))) (true && gRecv M (.ref 3) 3 && gRoom [] && true) (some (.inr (27, [some (.ref 3), some (.int 1)], []))) none = _; rw [recv_s hS.1 qa_3 qo_3]; rfl)) H
      have K5 : Ev none e1 27 0 [some (.ref 3), some (.int 1)] [] M vK5 MK5 0 0 := K5
      have HF := H
      exact Or.inr (Or.inr (⟨h1, h3, ⟨e1, vK5, MK5, rfl, K5, HF⟩⟩))
theorem ln0_243 {e : Nat} {M M' : Mem} {v : Option Value} {a i : Int32} (hS : SQ M) (a_t : gNth sT (fR M 3 8) = some 28) (H : Ev none e 33 243 [some (.ref 3), some (.int a), some (.int 0), some (.int i), some (.int 1), some (.int 1), some (.int 1)] [] M v M' 0 0) : (∃ e1 v1 M1, e = e1 + 1 ∧ Ev none e1 36 0 [some (.ref 3), some (.int 1), none] [] M v1 M1 0 0 ∧ Ev none e 33 259 [some (.ref 3), some (.int a), some (.int 0), some (.int i), some (.int 1), some (.int 1), some (.int 1)] (v1.toList ++ []) M1 v M' 0 0) := by
  have H : Ev none e 33 (if 1 = 0 then 248 else 254) [some (.ref 3), some (.int a), some (.int 0), some (.int i), some (.int 1), some (.int 1), some (.int 1)] [] M v M' 0 0 := Ev.back 2 (fun n => rfl) H
  rw [if_neg (by decide)] at H
  have H : Ev none e 33 256 [some (.ref 3), some (.int a), some (.int 0), some (.int i), some (.int 1), some (.int 1), some (.int 1)] [.int 1, .ref 3] M v M' 0 0 := Ev.back 2 (fun n => rfl) H
  obtain ⟨e1, rfl⟩ := Ev.dpos rfl rfl H
  obtain ⟨vK1, MK1, K1, H⟩ := Ev.callb (fun n => gs_7 rfl rfl (show gCal (.invokevirtual 152) 3 (.int 1 :: .ref 3 :: []) M = some (.inr (36, [some (.ref 3), some (.int 1), none], [])) from by show @cond (Option ((List Value × Mem) ⊕ (Nat × Lo × List Value))) (true && gRecv M (.ref 3) 3 && gRoom [] && true) (some (.inr (36, [some (.ref 3), some (.int 1), none], []))) none = _; rw [recv_s hS.1 qa_3 qo_3]; rfl)) H
  have K1 : Ev none e1 36 0 [some (.ref 3), some (.int 1), none] [] M vK1 MK1 0 0 := K1
  have HF := H
  exact ⟨e1, vK1, MK1, rfl, K1, HF⟩
theorem ln0_259 {e : Nat} {M M' : Mem} {v : Option Value} {a i y : Int32} (hS : SQ M) (a_t : gNth sT (fR M 3 8) = some 28) (H : Ev none e 33 259 [some (.ref 3), some (.int a), some (.int 0), some (.int i), some (.int 1), some (.int 1), some (.int 1)] [.int y] M v M' 0 0) : (y = 0 ∧ v = some (.int 0) ∧ M' = M) ∨ (¬ (y = 0) ∧ (zI M 3 7) = 59 ∧ (∃ e1 v1 M1, e = e1 + 1 ∧ Ev none e1 31 0 [some (.ref 3)] [] M v1 M1 0 0 ∧ Ev none e 33 283 [some (.ref 3), some (.int a), some (.int 0), some (.int i), some (.int 1), some (.int 1), some (.int 1)] (v1.toList ++ []) M1 v M' 0 0)) ∨ (¬ (y = 0) ∧ ¬ ((zI M 3 7) = 59) ∧ (∃ e1 v1 M1, e = e1 + 1 ∧ Ev none e1 27 0 [some (.ref 3), some (.int 1)] [] M v1 M1 0 0 ∧ Ev none e 33 278 [some (.ref 3), some (.int a), some (.int 0), some (.int i), some (.int 1), some (.int 1), some (.int 1)] (v1.toList ++ []) M1 v M' 0 0)) := by
  have H : Ev none e 33 (if y = 0 then 262 else 264) [some (.ref 3), some (.int a), some (.int 0), some (.int i), some (.int 1), some (.int 1), some (.int 1)] [] M v M' 0 0 := Ev.back 1 (fun n => rfl) H
  by_cases h1 : y = 0
  · rw [if_pos h1] at H
    have H : Ev none e 33 263 [some (.ref 3), some (.int a), some (.int 0), some (.int i), some (.int 1), some (.int 1), some (.int 1)] [.int 0] M v M' 0 0 := Ev.back 1 (fun n => rfl) H
    obtain ⟨z1, z2⟩ := Ev.retz rfl rfl H
    exact Or.inl ⟨h1, z1, z2⟩
  · rw [if_neg h1] at H
    have H : Ev none e 33 265 [some (.ref 3), some (.int a), some (.int 0), some (.int i), some (.int 1), some (.int 1), some (.int 1)] [.ref 3] M v M' 0 0 := Ev.back 1 (fun n => rfl) H
    have H : Ev none e 33 268 [some (.ref 3), some (.int a), some (.int 0), some (.int i), some (.int 1), some (.int 1), some (.int 1)] [.int (zI M 3 7)] M v M' 0 0 := Ev.back 1 (gs_3 rfl rfl (gf_i hS.1 qa_3 qi_3_7 rfl)) H
    have H : Ev none e 33 (if (zI M 3 7) = 59 then 279 else 273) [some (.ref 3), some (.int a), some (.int 0), some (.int i), some (.int 1), some (.int 1), some (.int 1)] [] M v M' 0 0 := Ev.back 2 (fun n => rfl) H
    by_cases h2 : (zI M 3 7) = 59
    · rw [if_pos h2] at H
      have H : Ev none e 33 280 [some (.ref 3), some (.int a), some (.int 0), some (.int i), some (.int 1), some (.int 1), some (.int 1)] [.ref 3] M v M' 0 0 := Ev.back 1 (fun n => rfl) H
      obtain ⟨e1, rfl⟩ := Ev.dpos rfl rfl H
      obtain ⟨vK3, MK3, K3, H⟩ := Ev.callb (fun n => gs_7 rfl rfl (show gCal (.invokevirtual 140) 3 (.ref 3 :: []) M = some (.inr (31, [some (.ref 3)], [])) from by show @cond (Option ((List Value × Mem) ⊕ (Nat × Lo × List Value))) (true && gRecv M (.ref 3) 3 && gRoom [] && true) (some (.inr (31, [some (.ref 3)], []))) none = _; rw [recv_s hS.1 qa_3 qo_3]; rfl)) H
      have K3 : Ev none e1 31 0 [some (.ref 3)] [] M vK3 MK3 0 0 := K3
      have HF := H
      exact Or.inr (Or.inl ⟨h1, h2, ⟨e1, vK3, MK3, rfl, K3, HF⟩⟩)
    · rw [if_neg h2] at H
      have H : Ev none e 33 275 [some (.ref 3), some (.int a), some (.int 0), some (.int i), some (.int 1), some (.int 1), some (.int 1)] [.int 1, .ref 3] M v M' 0 0 := Ev.back 2 (fun n => rfl) H
      obtain ⟨e1, rfl⟩ := Ev.dpos rfl rfl H
      obtain ⟨vK4, MK4, K4, H⟩ := Ev.callb (fun n => gs_7 rfl rfl (show gCal (.invokevirtual 68) 3 (.int 1 :: .ref 3 :: []) M = some (.inr (27, [some (.ref 3), some (.int 1)], [])) from by show @cond (Option ((List Value × Mem) ⊕ (Nat × Lo × List Value))) (true && gRecv M (.ref 3) 3 && gRoom [] && true) (some (.inr (27, [some (.ref 3), some (.int 1)], []))) none = _; rw [recv_s hS.1 qa_3 qo_3]; rfl)) H
      have K4 : Ev none e1 27 0 [some (.ref 3), some (.int 1)] [] M vK4 MK4 0 0 := K4
      have HF := H
      exact Or.inr (Or.inr (⟨h1, h2, ⟨e1, vK4, MK4, rfl, K4, HF⟩⟩))
theorem ln0_278 {e : Nat} {M M' : Mem} {v : Option Value} {a i y : Int32} {c5 c6 : Option Value} (hS : SQ M) (a_t : gNth sT (fR M 3 8) = some 28) (H : Ev none e 33 278 [some (.ref 3), some (.int a), some (.int 0), some (.int i), some (.int 1), c5, c6] [.int y] M v M' 0 0) : v = some (.int y) ∧ M' = M := by
  obtain ⟨z1, z2⟩ := Ev.retz rfl rfl H
  exact ⟨z1, z2⟩
theorem ln0_283 {e : Nat} {M M' : Mem} {v : Option Value} {a i : Int32} {c5 c6 : Option Value} (hS : SQ M) (a_t : gNth sT (fR M 3 8) = some 28) (H : Ev none e 33 283 [some (.ref 3), some (.int a), some (.int 0), some (.int i), some (.int 1), c5, c6] [] M v M' 0 0) : (0 ≤ i.toInt ∧ i.toInt < 16) ∧ v = some (.int 1) ∧ M' = (wF (wI M (fR M 3 8 + 5) i.toNatClampNeg (zI M (fR M 3 8) 9)) (fR M 3 8) 8 ((zI M (fR M 3 8) 8) + 1)) := by
  have H : Ev none e 33 284 [some (.ref 3), some (.int a), some (.int 0), some (.int i), some (.int 1), c5, c6] [.ref 3] M v M' 0 0 := Ev.back 1 (fun n => rfl) H
  have H : Ev none e 33 287 [some (.ref 3), some (.int a), some (.int 0), some (.int i), some (.int 1), c5, c6] [.ref (fR M 3 8)] M v M' 0 0 := Ev.back 1 (gs_3 rfl rfl (gf_n hS.1 qa_3 qn_3_8 (by decide) a_t rfl)) H
  have H : Ev none e 33 290 [some (.ref 3), some (.int a), some (.int 0), some (.int i), some (.int 1), c5, c6] [.ref (fR M 3 8 + 5)] M v M' 0 0 := Ev.back 1 (gs_3 rfl rfl (gf_x hS.1 a_t qo_28 (fx_t4 hS a_t) rfl)) H
  have H : Ev none e 33 292 [some (.ref 3), some (.int a), some (.int 0), some (.int i), some (.int 1), c5, c6] [.ref 3, .int i, .ref (fR M 3 8 + 5)] M v M' 0 0 := Ev.back 2 (fun n => rfl) H
  have H : Ev none e 33 295 [some (.ref 3), some (.int a), some (.int 0), some (.int i), some (.int 1), c5, c6] [.ref (fR M 3 8), .int i, .ref (fR M 3 8 + 5)] M v M' 0 0 := Ev.back 1 (gs_3 rfl rfl (gf_n hS.1 qa_3 qn_3_8 (by decide) a_t rfl)) H
  have H : Ev none e 33 298 [some (.ref 3), some (.int a), some (.int 0), some (.int i), some (.int 1), c5, c6] [.int (zI M (fR M 3 8) 9), .int i, .ref (fR M 3 8 + 5)] M v M' 0 0 := Ev.back 1 (gs_3 rfl rfl (gf_i hS.1 a_t qi_28_9 rfl)) H
  obtain ⟨b1, H⟩ := Ev.ias rfl rfl hS.1 (fx_g4 a_t) qw_33 H
  obtain ⟨N2, eN2⟩ : ∃ N, N = (wI M (fR M 3 8 + 5) i.toNatClampNeg (zI M (fR M 3 8) 9)) := ⟨_, rfl⟩
  have hN2 : SQ N2 := by rw [eN2]; exact hS.ki
  have H : Ev none e 33 299 [some (.ref 3), some (.int a), some (.int 0), some (.int i), some (.int 1), c5, c6] [] N2 v M' 0 0 := by rw [eN2]; exact H
  have H : Ev none e 33 300 [some (.ref 3), some (.int a), some (.int 0), some (.int i), some (.int 1), c5, c6] [.ref 3] N2 v M' 0 0 := Ev.back 1 (fun n => rfl) H
  have H : Ev none e 33 303 [some (.ref 3), some (.int a), some (.int 0), some (.int i), some (.int 1), c5, c6] [.ref (fR N2 3 8)] N2 v M' 0 0 := Ev.back 1 (gs_3 rfl rfl (gf_n hN2.1 qa_3 qn_3_8 (by decide) (by rw [show fR N2 3 8 = fR M 3 8 from by rw [eN2]; exact fR_wI]; exact a_t) rfl)) H
  rw [show fR N2 3 8 = fR M 3 8 from by rw [eN2]; exact fR_wI] at H
  have H : Ev none e 33 304 [some (.ref 3), some (.int a), some (.int 0), some (.int i), some (.int 1), c5, c6] [.ref (fR M 3 8), .ref (fR M 3 8)] N2 v M' 0 0 := Ev.back 1 (fun n => rfl) H
  have H : Ev none e 33 307 [some (.ref 3), some (.int a), some (.int 0), some (.int i), some (.int 1), c5, c6] [.int (zI N2 (fR M 3 8) 8), .ref (fR M 3 8)] N2 v M' 0 0 := Ev.back 1 (gs_3 rfl rfl (gf_i hN2.1 a_t qi_28_8 rfl)) H
  rw [show zI N2 (fR M 3 8) 8 = zI M (fR M 3 8) 8 from by rw [eN2]; exact fI_wI] at H
  have H : Ev none e 33 309 [some (.ref 3), some (.int a), some (.int 0), some (.int i), some (.int 1), c5, c6] [.int ((zI M (fR M 3 8) 8) + 1), .ref (fR M 3 8)] N2 v M' 0 0 := Ev.back 2 (fun n => rfl) H
  obtain ⟨N4, eN4⟩ : ∃ N, N = (wF N2 (fR M 3 8) 8 ((zI M (fR M 3 8) 8) + 1)) := ⟨_, rfl⟩
  have hN4 : SQ N4 := by rw [eN4]; exact hN2.kf
  have H : Ev none e 33 312 [some (.ref 3), some (.int a), some (.int 0), some (.int i), some (.int 1), c5, c6] [] N4 v M' 0 0 := by rw [eN4]; exact Ev.pfi rfl rfl rfl hN2.1 a_t qi_28_8 H
  have H : Ev none e 33 313 [some (.ref 3), some (.int a), some (.int 0), some (.int i), some (.int 1), c5, c6] [.int 1] N4 v M' 0 0 := Ev.back 1 (fun n => rfl) H
  obtain ⟨z1, z2⟩ := Ev.retz rfl rfl H
  subst eN2 eN4
  exact ⟨b1, z1, z2⟩
theorem ln1_44 {e : Nat} {M M' : Mem} {v : Option Value} {a : Int32} (hS : SQ M) (a_t : gNth sT (fR M 3 8) = some 28) (H : Ev none e 33 44 [some (.ref 3), some (.int a), some (.int 1), none, none, none, none] [] M v M' 0 0) : (16 ≤ (zI M (fR M 3 8) 8) ∧ (∃ e1 v1 M1, e = e1 + 1 ∧ Ev none e1 27 0 [some (.ref 3), some (.int 3)] [] M v1 M1 0 0 ∧ Ev none e 33 72 [some (.ref 3), some (.int a), some (.int 1), none, none, none, none] (v1.toList ++ []) M1 v M' 0 0)) ∨ (¬ (16 ≤ (zI M (fR M 3 8) 8)) ∧ ((zI M 3 10) &&& ((1 : Int32) <<< ((1 : Int32) &&& 31))) = 0 ∧ (0 ≤ (zI M (fR M 3 8) 8).toInt ∧ (zI M (fR M 3 8) 8).toInt < 16) ∧ (0 ≤ (zI M (fR M 3 8) 8).toInt ∧ (zI M (fR M 3 8) 8).toInt < 16) ∧ (0 ≤ (zI M (fR M 3 8) 8).toInt ∧ (zI M (fR M 3 8) 8).toInt < 16) ∧ (0 ≤ (zI M (fR M 3 8) 8).toInt ∧ (zI M (fR M 3 8) 8).toInt < 16) ∧ (0 ≤ (zI M (fR M 3 8) 8).toInt ∧ (zI M (fR M 3 8) 8).toInt < 16) ∧ (∃ e1 v1 M1, e = e1 + 1 ∧ Ev none e1 31 0 [some (.ref 3)] [] (wI (wI (wI (wI (wI M (fR M 3 8 + 1) ((zI M (fR M 3 8) 8).toNatClampNeg) 1) (fR M 3 8 + 2) ((zI M (fR M 3 8) 8).toNatClampNeg) 0) (fR M 3 8 + 3) ((zI M (fR M 3 8) 8).toNatClampNeg) 0) (fR M 3 8 + 4) ((zI M (fR M 3 8) 8).toNatClampNeg) (zI M (fR M 3 8) 9)) (fR M 3 8 + 5) ((zI M (fR M 3 8) 8).toNatClampNeg) (zI M (fR M 3 8) 9)) v1 M1 0 0 ∧ Ev none e 33 147 [some (.ref 3), some (.int a), some (.int 1), some (.int (zI M (fR M 3 8) 8)), none, none, none] (v1.toList ++ []) M1 v M' 0 0)) ∨ (¬ (16 ≤ (zI M (fR M 3 8) 8)) ∧ ¬ (((zI M 3 10) &&& ((1 : Int32) <<< ((1 : Int32) &&& 31))) = 0) ∧ (∃ e1 v1 M1, e = e1 + 1 ∧ Ev none e1 27 0 [some (.ref 3), some (.int 3)] [] M v1 M1 0 0 ∧ Ev none e 33 72 [some (.ref 3), some (.int a), some (.int 1), none, none, none, none] (v1.toList ++ []) M1 v M' 0 0)) := by
  have H : Ev none e 33 45 [some (.ref 3), some (.int a), some (.int 1), none, none, none, none] [.ref 3] M v M' 0 0 := Ev.back 1 (fun n => rfl) H
  have H : Ev none e 33 48 [some (.ref 3), some (.int a), some (.int 1), none, none, none, none] [.ref (fR M 3 8)] M v M' 0 0 := Ev.back 1 (gs_3 rfl rfl (gf_n hS.1 qa_3 qn_3_8 (by decide) a_t rfl)) H
  have H : Ev none e 33 51 [some (.ref 3), some (.int a), some (.int 1), none, none, none, none] [.int (zI M (fR M 3 8) 8)] M v M' 0 0 := Ev.back 1 (gs_3 rfl rfl (gf_i hS.1 a_t qi_28_8 rfl)) H
  have H : Ev none e 33 (if 16 ≤ (zI M (fR M 3 8) 8) then 67 else 56) [some (.ref 3), some (.int a), some (.int 1), none, none, none, none] [] M v M' 0 0 := Ev.back 2 (fun n => rfl) H
  by_cases h1 : 16 ≤ (zI M (fR M 3 8) 8)
  · rw [if_pos h1] at H
    have H : Ev none e 33 69 [some (.ref 3), some (.int a), some (.int 1), none, none, none, none] [.int 3, .ref 3] M v M' 0 0 := Ev.back 2 (fun n => rfl) H
    obtain ⟨e1, rfl⟩ := Ev.dpos rfl rfl H
    obtain ⟨vK2, MK2, K2, H⟩ := Ev.callb (fun n => gs_7 rfl rfl (show gCal (.invokevirtual 68) 3 (.int 3 :: .ref 3 :: []) M = some (.inr (27, [some (.ref 3), some (.int 3)], [])) from by show @cond (Option ((List Value × Mem) ⊕ (Nat × Lo × List Value))) (true && gRecv M (.ref 3) 3 && gRoom [] && true) (some (.inr (27, [some (.ref 3), some (.int 3)], []))) none = _; rw [recv_s hS.1 qa_3 qo_3]; rfl)) H
    have K2 : Ev none e1 27 0 [some (.ref 3), some (.int 3)] [] M vK2 MK2 0 0 := K2
    have HF := H
    exact Or.inl ⟨h1, ⟨e1, vK2, MK2, rfl, K2, HF⟩⟩
  · rw [if_neg h1] at H
    have H : Ev none e 33 57 [some (.ref 3), some (.int a), some (.int 1), none, none, none, none] [.ref 3] M v M' 0 0 := Ev.back 1 (fun n => rfl) H
    have H : Ev none e 33 60 [some (.ref 3), some (.int a), some (.int 1), none, none, none, none] [.int (zI M 3 10)] M v M' 0 0 := Ev.back 1 (gs_3 rfl rfl (gf_i hS.1 qa_3 qi_3_10 rfl)) H
    have H : Ev none e 33 (if ((zI M 3 10) &&& ((1 : Int32) <<< ((1 : Int32) &&& 31))) = 0 then 73 else 67) [some (.ref 3), some (.int a), some (.int 1), none, none, none, none] [] M v M' 0 0 := Ev.back 5 (fun n => rfl) H
    by_cases h3 : ((zI M 3 10) &&& ((1 : Int32) <<< ((1 : Int32) &&& 31))) = 0
    · rw [if_pos h3] at H
      have H : Ev none e 33 74 [some (.ref 3), some (.int a), some (.int 1), none, none, none, none] [.ref 3] M v M' 0 0 := Ev.back 1 (fun n => rfl) H
      have H : Ev none e 33 77 [some (.ref 3), some (.int a), some (.int 1), none, none, none, none] [.ref (fR M 3 8)] M v M' 0 0 := Ev.back 1 (gs_3 rfl rfl (gf_n hS.1 qa_3 qn_3_8 (by decide) a_t rfl)) H
      have H : Ev none e 33 80 [some (.ref 3), some (.int a), some (.int 1), none, none, none, none] [.int (zI M (fR M 3 8) 8)] M v M' 0 0 := Ev.back 1 (gs_3 rfl rfl (gf_i hS.1 a_t qi_28_8 rfl)) H
      have H : Ev none e 33 82 [some (.ref 3), some (.int a), some (.int 1), some (.int (zI M (fR M 3 8) 8)), none, none, none] [.ref 3] M v M' 0 0 := Ev.back 2 (fun n => rfl) H
      have H : Ev none e 33 85 [some (.ref 3), some (.int a), some (.int 1), some (.int (zI M (fR M 3 8) 8)), none, none, none] [.ref (fR M 3 8)] M v M' 0 0 := Ev.back 1 (gs_3 rfl rfl (gf_n hS.1 qa_3 qn_3_8 (by decide) a_t rfl)) H
      have H : Ev none e 33 88 [some (.ref 3), some (.int a), some (.int 1), some (.int (zI M (fR M 3 8) 8)), none, none, none] [.ref (fR M 3 8 + 1)] M v M' 0 0 := Ev.back 1 (gs_3 rfl rfl (gf_x hS.1 a_t qo_28 (fx_t0 hS a_t) rfl)) H
      have H : Ev none e 33 90 [some (.ref 3), some (.int a), some (.int 1), some (.int (zI M (fR M 3 8) 8)), none, none, none] [.int 1, .int (zI M (fR M 3 8) 8), .ref (fR M 3 8 + 1)] M v M' 0 0 := Ev.back 2 (fun n => rfl) H
      obtain ⟨b4, H⟩ := Ev.ias rfl rfl hS.1 (fx_g0 a_t) qw_29 H
      obtain ⟨N5, eN5⟩ : ∃ N, N = (wI M (fR M 3 8 + 1) ((zI M (fR M 3 8) 8).toNatClampNeg) 1) := ⟨_, rfl⟩
      have hN5 : SQ N5 := by rw [eN5]; exact hS.ki
      have H : Ev none e 33 91 [some (.ref 3), some (.int a), some (.int 1), some (.int (zI M (fR M 3 8) 8)), none, none, none] [] N5 v M' 0 0 := by rw [eN5]; exact H
      have H : Ev none e 33 92 [some (.ref 3), some (.int a), some (.int 1), some (.int (zI M (fR M 3 8) 8)), none, none, none] [.ref 3] N5 v M' 0 0 := Ev.back 1 (fun n => rfl) H
      have H : Ev none e 33 95 [some (.ref 3), some (.int a), some (.int 1), some (.int (zI M (fR M 3 8) 8)), none, none, none] [.ref (fR N5 3 8)] N5 v M' 0 0 := Ev.back 1 (gs_3 rfl rfl (gf_n hN5.1 qa_3 qn_3_8 (by decide) (by rw [show fR N5 3 8 = fR M 3 8 from by rw [eN5]; exact fR_wI]; exact a_t) rfl)) H
      rw [show fR N5 3 8 = fR M 3 8 from by rw [eN5]; exact fR_wI] at H
      have H : Ev none e 33 98 [some (.ref 3), some (.int a), some (.int 1), some (.int (zI M (fR M 3 8) 8)), none, none, none] [.ref (fR M 3 8 + 2)] N5 v M' 0 0 := Ev.back 1 (gs_3 rfl rfl (gf_x hN5.1 a_t qo_28 (fx_t1 hN5 a_t) rfl)) H
      have H : Ev none e 33 100 [some (.ref 3), some (.int a), some (.int 1), some (.int (zI M (fR M 3 8) 8)), none, none, none] [.int 0, .int (zI M (fR M 3 8) 8), .ref (fR M 3 8 + 2)] N5 v M' 0 0 := Ev.back 2 (fun n => rfl) H
      obtain ⟨b6, H⟩ := Ev.ias rfl rfl hN5.1 (fx_g1 a_t) qw_30 H
      obtain ⟨N7, eN7⟩ : ∃ N, N = (wI N5 (fR M 3 8 + 2) ((zI M (fR M 3 8) 8).toNatClampNeg) 0) := ⟨_, rfl⟩
      have hN7 : SQ N7 := by rw [eN7]; exact hN5.ki
      have H : Ev none e 33 101 [some (.ref 3), some (.int a), some (.int 1), some (.int (zI M (fR M 3 8) 8)), none, none, none] [] N7 v M' 0 0 := by rw [eN7]; exact H
      have H : Ev none e 33 102 [some (.ref 3), some (.int a), some (.int 1), some (.int (zI M (fR M 3 8) 8)), none, none, none] [.ref 3] N7 v M' 0 0 := Ev.back 1 (fun n => rfl) H
      have H : Ev none e 33 105 [some (.ref 3), some (.int a), some (.int 1), some (.int (zI M (fR M 3 8) 8)), none, none, none] [.ref (fR N7 3 8)] N7 v M' 0 0 := Ev.back 1 (gs_3 rfl rfl (gf_n hN7.1 qa_3 qn_3_8 (by decide) (by rw [(show fR N7 3 8 = fR N5 3 8 from by rw [eN7]; exact fR_wI).trans (show fR N5 3 8 = fR M 3 8 from by rw [eN5]; exact fR_wI)]; exact a_t) rfl)) H
      rw [(show fR N7 3 8 = fR N5 3 8 from by rw [eN7]; exact fR_wI).trans (show fR N5 3 8 = fR M 3 8 from by rw [eN5]; exact fR_wI)] at H
      have H : Ev none e 33 108 [some (.ref 3), some (.int a), some (.int 1), some (.int (zI M (fR M 3 8) 8)), none, none, none] [.ref (fR M 3 8 + 3)] N7 v M' 0 0 := Ev.back 1 (gs_3 rfl rfl (gf_x hN7.1 a_t qo_28 (fx_t2 hN7 a_t) rfl)) H
      have H : Ev none e 33 110 [some (.ref 3), some (.int a), some (.int 1), some (.int (zI M (fR M 3 8) 8)), none, none, none] [.int 0, .int (zI M (fR M 3 8) 8), .ref (fR M 3 8 + 3)] N7 v M' 0 0 := Ev.back 2 (fun n => rfl) H
      obtain ⟨b8, H⟩ := Ev.ias rfl rfl hN7.1 (fx_g2 a_t) qw_31 H
      obtain ⟨N9, eN9⟩ : ∃ N, N = (wI N7 (fR M 3 8 + 3) ((zI M (fR M 3 8) 8).toNatClampNeg) 0) := ⟨_, rfl⟩
      have hN9 : SQ N9 := by rw [eN9]; exact hN7.ki
      have H : Ev none e 33 111 [some (.ref 3), some (.int a), some (.int 1), some (.int (zI M (fR M 3 8) 8)), none, none, none] [] N9 v M' 0 0 := by rw [eN9]; exact H
      have H : Ev none e 33 112 [some (.ref 3), some (.int a), some (.int 1), some (.int (zI M (fR M 3 8) 8)), none, none, none] [.ref 3] N9 v M' 0 0 := Ev.back 1 (fun n => rfl) H
      have H : Ev none e 33 115 [some (.ref 3), some (.int a), some (.int 1), some (.int (zI M (fR M 3 8) 8)), none, none, none] [.ref (fR N9 3 8)] N9 v M' 0 0 := Ev.back 1 (gs_3 rfl rfl (gf_n hN9.1 qa_3 qn_3_8 (by decide) (by rw [((show fR N9 3 8 = fR N7 3 8 from by rw [eN9]; exact fR_wI).trans (show fR N7 3 8 = fR N5 3 8 from by rw [eN7]; exact fR_wI)).trans (show fR N5 3 8 = fR M 3 8 from by rw [eN5]; exact fR_wI)]; exact a_t) rfl)) H
      rw [((show fR N9 3 8 = fR N7 3 8 from by rw [eN9]; exact fR_wI).trans (show fR N7 3 8 = fR N5 3 8 from by rw [eN7]; exact fR_wI)).trans (show fR N5 3 8 = fR M 3 8 from by rw [eN5]; exact fR_wI)] at H
      have H : Ev none e 33 118 [some (.ref 3), some (.int a), some (.int 1), some (.int (zI M (fR M 3 8) 8)), none, none, none] [.ref (fR M 3 8 + 4)] N9 v M' 0 0 := Ev.back 1 (gs_3 rfl rfl (gf_x hN9.1 a_t qo_28 (fx_t3 hN9 a_t) rfl)) H
      have H : Ev none e 33 120 [some (.ref 3), some (.int a), some (.int 1), some (.int (zI M (fR M 3 8) 8)), none, none, none] [.ref 3, .int (zI M (fR M 3 8) 8), .ref (fR M 3 8 + 4)] N9 v M' 0 0 := Ev.back 2 (fun n => rfl) H
      have H : Ev none e 33 123 [some (.ref 3), some (.int a), some (.int 1), some (.int (zI M (fR M 3 8) 8)), none, none, none] [.ref (fR N9 3 8), .int (zI M (fR M 3 8) 8), .ref (fR M 3 8 + 4)] N9 v M' 0 0 := Ev.back 1 (gs_3 rfl rfl (gf_n hN9.1 qa_3 qn_3_8 (by decide) (by rw [((show fR N9 3 8 = fR N7 3 8 from by rw [eN9]; exact fR_wI).trans (show fR N7 3 8 = fR N5 3 8 from by rw [eN7]; exact fR_wI)).trans (show fR N5 3 8 = fR M 3 8 from by rw [eN5]; exact fR_wI)]; exact a_t) rfl)) H
      rw [((show fR N9 3 8 = fR N7 3 8 from by rw [eN9]; exact fR_wI).trans (show fR N7 3 8 = fR N5 3 8 from by rw [eN7]; exact fR_wI)).trans (show fR N5 3 8 = fR M 3 8 from by rw [eN5]; exact fR_wI)] at H
      have H : Ev none e 33 126 [some (.ref 3), some (.int a), some (.int 1), some (.int (zI M (fR M 3 8) 8)), none, none, none] [.int (zI N9 (fR M 3 8) 9), .int (zI M (fR M 3 8) 8), .ref (fR M 3 8 + 4)] N9 v M' 0 0 := Ev.back 1 (gs_3 rfl rfl (gf_i hN9.1 a_t qi_28_9 rfl)) H
      rw [((show zI N9 (fR M 3 8) 9 = zI N7 (fR M 3 8) 9 from by rw [eN9]; exact fI_wI).trans (show zI N7 (fR M 3 8) 9 = zI N5 (fR M 3 8) 9 from by rw [eN7]; exact fI_wI)).trans (show zI N5 (fR M 3 8) 9 = zI M (fR M 3 8) 9 from by rw [eN5]; exact fI_wI)] at H
      obtain ⟨b10, H⟩ := Ev.ias rfl rfl hN9.1 (fx_g3 a_t) qw_32 H
      obtain ⟨N11, eN11⟩ : ∃ N, N = (wI N9 (fR M 3 8 + 4) ((zI M (fR M 3 8) 8).toNatClampNeg) (zI M (fR M 3 8) 9)) := ⟨_, rfl⟩
      have hN11 : SQ N11 := by rw [eN11]; exact hN9.ki
      have H : Ev none e 33 127 [some (.ref 3), some (.int a), some (.int 1), some (.int (zI M (fR M 3 8) 8)), none, none, none] [] N11 v M' 0 0 := by rw [eN11]; exact H
      have H : Ev none e 33 128 [some (.ref 3), some (.int a), some (.int 1), some (.int (zI M (fR M 3 8) 8)), none, none, none] [.ref 3] N11 v M' 0 0 := Ev.back 1 (fun n => rfl) H
      have H : Ev none e 33 131 [some (.ref 3), some (.int a), some (.int 1), some (.int (zI M (fR M 3 8) 8)), none, none, none] [.ref (fR N11 3 8)] N11 v M' 0 0 := Ev.back 1 (gs_3 rfl rfl (gf_n hN11.1 qa_3 qn_3_8 (by decide) (by rw [(((show fR N11 3 8 = fR N9 3 8 from by rw [eN11]; exact fR_wI).trans (show fR N9 3 8 = fR N7 3 8 from by rw [eN9]; exact fR_wI)).trans (show fR N7 3 8 = fR N5 3 8 from by rw [eN7]; exact fR_wI)).trans (show fR N5 3 8 = fR M 3 8 from by rw [eN5]; exact fR_wI)]; exact a_t) rfl)) H
      rw [(((show fR N11 3 8 = fR N9 3 8 from by rw [eN11]; exact fR_wI).trans (show fR N9 3 8 = fR N7 3 8 from by rw [eN9]; exact fR_wI)).trans (show fR N7 3 8 = fR N5 3 8 from by rw [eN7]; exact fR_wI)).trans (show fR N5 3 8 = fR M 3 8 from by rw [eN5]; exact fR_wI)] at H
      have H : Ev none e 33 134 [some (.ref 3), some (.int a), some (.int 1), some (.int (zI M (fR M 3 8) 8)), none, none, none] [.ref (fR M 3 8 + 5)] N11 v M' 0 0 := Ev.back 1 (gs_3 rfl rfl (gf_x hN11.1 a_t qo_28 (fx_t4 hN11 a_t) rfl)) H
      have H : Ev none e 33 136 [some (.ref 3), some (.int a), some (.int 1), some (.int (zI M (fR M 3 8) 8)), none, none, none] [.ref 3, .int (zI M (fR M 3 8) 8), .ref (fR M 3 8 + 5)] N11 v M' 0 0 := Ev.back 2 (fun n => rfl) H
      have H : Ev none e 33 139 [some (.ref 3), some (.int a), some (.int 1), some (.int (zI M (fR M 3 8) 8)), none, none, none] [.ref (fR N11 3 8), .int (zI M (fR M 3 8) 8), .ref (fR M 3 8 + 5)] N11 v M' 0 0 := Ev.back 1 (gs_3 rfl rfl (gf_n hN11.1 qa_3 qn_3_8 (by decide) (by rw [(((show fR N11 3 8 = fR N9 3 8 from by rw [eN11]; exact fR_wI).trans (show fR N9 3 8 = fR N7 3 8 from by rw [eN9]; exact fR_wI)).trans (show fR N7 3 8 = fR N5 3 8 from by rw [eN7]; exact fR_wI)).trans (show fR N5 3 8 = fR M 3 8 from by rw [eN5]; exact fR_wI)]; exact a_t) rfl)) H
      rw [(((show fR N11 3 8 = fR N9 3 8 from by rw [eN11]; exact fR_wI).trans (show fR N9 3 8 = fR N7 3 8 from by rw [eN9]; exact fR_wI)).trans (show fR N7 3 8 = fR N5 3 8 from by rw [eN7]; exact fR_wI)).trans (show fR N5 3 8 = fR M 3 8 from by rw [eN5]; exact fR_wI)] at H
      have H : Ev none e 33 142 [some (.ref 3), some (.int a), some (.int 1), some (.int (zI M (fR M 3 8) 8)), none, none, none] [.int (zI N11 (fR M 3 8) 9), .int (zI M (fR M 3 8) 8), .ref (fR M 3 8 + 5)] N11 v M' 0 0 := Ev.back 1 (gs_3 rfl rfl (gf_i hN11.1 a_t qi_28_9 rfl)) H
      rw [(((show zI N11 (fR M 3 8) 9 = zI N9 (fR M 3 8) 9 from by rw [eN11]; exact fI_wI).trans (show zI N9 (fR M 3 8) 9 = zI N7 (fR M 3 8) 9 from by rw [eN9]; exact fI_wI)).trans (show zI N7 (fR M 3 8) 9 = zI N5 (fR M 3 8) 9 from by rw [eN7]; exact fI_wI)).trans (show zI N5 (fR M 3 8) 9 = zI M (fR M 3 8) 9 from by rw [eN5]; exact fI_wI)] at H
      obtain ⟨b12, H⟩ := Ev.ias rfl rfl hN11.1 (fx_g4 a_t) qw_33 H
      obtain ⟨N13, eN13⟩ : ∃ N, N = (wI N11 (fR M 3 8 + 5) ((zI M (fR M 3 8) 8).toNatClampNeg) (zI M (fR M 3 8) 9)) := ⟨_, rfl⟩
      have hN13 : SQ N13 := by rw [eN13]; exact hN11.ki
      have H : Ev none e 33 143 [some (.ref 3), some (.int a), some (.int 1), some (.int (zI M (fR M 3 8) 8)), none, none, none] [] N13 v M' 0 0 := by rw [eN13]; exact H
      have H : Ev none e 33 144 [some (.ref 3), some (.int a), some (.int 1), some (.int (zI M (fR M 3 8) 8)), none, none, none] [.ref 3] N13 v M' 0 0 := Ev.back 1 (fun n => rfl) H
      obtain ⟨e1, rfl⟩ := Ev.dpos rfl rfl H
      obtain ⟨vK14, MK14, K14, H⟩ := Ev.callb (fun n => gs_7 rfl rfl (show gCal (.invokevirtual 140) 3 (.ref 3 :: []) N13 = some (.inr (31, [some (.ref 3)], [])) from by show @cond (Option ((List Value × Mem) ⊕ (Nat × Lo × List Value))) (true && gRecv N13 (.ref 3) 3 && gRoom [] && true) (some (.inr (31, [some (.ref 3)], []))) none = _; rw [recv_s hN13.1 qa_3 qo_3]; rfl)) H
      have K14 : Ev none e1 31 0 [some (.ref 3)] [] N13 vK14 MK14 0 0 := K14
      have HF := H
      subst eN5 eN7 eN9 eN11 eN13
      exact Or.inr (Or.inl ⟨h1, h3, b4, b6, b8, b10, b12, ⟨e1, vK14, MK14, rfl, K14, HF⟩⟩)
    · rw [if_neg h3] at H
      have H : Ev none e 33 69 [some (.ref 3), some (.int a), some (.int 1), none, none, none, none] [.int 3, .ref 3] M v M' 0 0 := Ev.back 2 (fun n => rfl) H
      obtain ⟨e1, rfl⟩ := Ev.dpos rfl rfl H
      obtain ⟨vK15, MK15, K15, H⟩ := Ev.callb (fun n => gs_7 rfl rfl (show gCal (.invokevirtual 68) 3 (.int 3 :: .ref 3 :: []) M = some (.inr (27, [some (.ref 3), some (.int 3)], [])) from by show @cond (Option ((List Value × Mem) ⊕ (Nat × Lo × List Value))) (true && gRecv M (.ref 3) 3 && gRoom [] && true) (some (.inr (27, [some (.ref 3), some (.int 3)], []))) none = _; rw [recv_s hS.1 qa_3 qo_3]; rfl)) H
      have K15 : Ev none e1 27 0 [some (.ref 3), some (.int 3)] [] M vK15 MK15 0 0 := K15
      have HF := H
      exact Or.inr (Or.inr (⟨h1, h3, ⟨e1, vK15, MK15, rfl, K15, HF⟩⟩))
theorem ln1_72 {e : Nat} {M M' : Mem} {v : Option Value} {a y : Int32} (hS : SQ M) (a_t : gNth sT (fR M 3 8) = some 28) (H : Ev none e 33 72 [some (.ref 3), some (.int a), some (.int 1), none, none, none, none] [.int y] M v M' 0 0) : v = some (.int y) ∧ M' = M := by
  obtain ⟨z1, z2⟩ := Ev.retz rfl rfl H
  exact ⟨z1, z2⟩
theorem ln1_147 {e : Nat} {M M' : Mem} {v : Option Value} {a i : Int32} (hS : SQ M) (a_t : gNth sT (fR M 3 8) = some 28) (H : Ev none e 33 147 [some (.ref 3), some (.int a), some (.int 1), some (.int i), none, none, none] [] M v M' 0 0) : (∃ e1 v1 M1, e = e1 + 1 ∧ Ev none e1 35 0 [some (.ref 3), some (.int i), some (.int 1), none, none, none] [] M v1 M1 0 0 ∧ Ev none e 33 175 [some (.ref 3), some (.int a), some (.int 1), some (.int i), none, none, none] (v1.toList ++ []) M1 v M' 0 0) := by
  have H : Ev none e 33 (if 1 = 6 then 178 else 153) [some (.ref 3), some (.int a), some (.int 1), some (.int i), none, none, none] [] M v M' 0 0 := Ev.back 3 (fun n => rfl) H
  rw [if_neg (by decide)] at H
  have H : Ev none e 33 (if 1 = 5 then 158 else 169) [some (.ref 3), some (.int a), some (.int 1), some (.int i), none, none, none] [] M v M' 0 0 := Ev.back 3 (fun n => rfl) H
  rw [if_neg (by decide)] at H
  have H : Ev none e 33 172 [some (.ref 3), some (.int a), some (.int 1), some (.int i), none, none, none] [.int 1, .int i, .ref 3] M v M' 0 0 := Ev.back 3 (fun n => rfl) H
  obtain ⟨e1, rfl⟩ := Ev.dpos rfl rfl H
  obtain ⟨vK1, MK1, K1, H⟩ := Ev.callb (fun n => gs_7 rfl rfl (show gCal (.invokevirtual 146) 3 (.int 1 :: .int i :: .ref 3 :: []) M = some (.inr (35, [some (.ref 3), some (.int i), some (.int 1), none, none, none], [])) from by show @cond (Option ((List Value × Mem) ⊕ (Nat × Lo × List Value))) (true && gRecv M (.ref 3) 3 && gRoom [] && true) (some (.inr (35, [some (.ref 3), some (.int i), some (.int 1), none, none, none], []))) none = _; rw [recv_s hS.1 qa_3 qo_3]; rfl)) H
  have K1 : Ev none e1 35 0 [some (.ref 3), some (.int i), some (.int 1), none, none, none] [] M vK1 MK1 0 0 := K1
  have HF := H
  exact ⟨e1, vK1, MK1, rfl, K1, HF⟩
theorem ln1_175 {e : Nat} {M M' : Mem} {v : Option Value} {a i y : Int32} (hS : SQ M) (a_t : gNth sT (fR M 3 8) = some 28) (H : Ev none e 33 175 [some (.ref 3), some (.int a), some (.int 1), some (.int i), none, none, none] [.int y] M v M' 0 0) : (y = 0 ∧ v = some (.int 0) ∧ M' = M) ∨ (¬ (y = 0) ∧ (∃ e1 v1 M1, e = e1 + 1 ∧ Ev none e1 32 0 [some (.ref 3), some (.retAddr 12), none, none, none, none, none, none] [] M v1 M1 0 0 ∧ Ev none e 33 224 [some (.ref 3), some (.int a), some (.int 1), some (.int i), some (.int 1), some (.int 1), none] (v1.toList ++ []) M1 v M' 0 0)) := by
  have H : Ev none e 33 (if y = 0 then 182 else 178) [some (.ref 3), some (.int a), some (.int 1), some (.int i), none, none, none] [] M v M' 0 0 := Ev.back 1 (fun n => rfl) H
  by_cases h1 : y = 0
  · rw [if_pos h1] at H
    have H : Ev none e 33 (if 0 = 0 then 190 else 192) [some (.ref 3), some (.int a), some (.int 1), some (.int i), some (.int 0), none, none] [] M v M' 0 0 := Ev.back 4 (fun n => rfl) H
    rw [if_pos (by decide)] at H
    have H : Ev none e 33 191 [some (.ref 3), some (.int a), some (.int 1), some (.int i), some (.int 0), none, none] [.int 0] M v M' 0 0 := Ev.back 1 (fun n => rfl) H
    obtain ⟨z1, z2⟩ := Ev.retz rfl rfl H
    exact Or.inl ⟨h1, z1, z2⟩
  · rw [if_neg h1] at H
    have H : Ev none e 33 (if 1 = 0 then 190 else 192) [some (.ref 3), some (.int a), some (.int 1), some (.int i), some (.int 1), none, none] [] M v M' 0 0 := Ev.back 5 (fun n => rfl) H
    rw [if_neg (by decide)] at H
    have H : Ev none e 33 (if 1 = 0 then 206 else 196) [some (.ref 3), some (.int a), some (.int 1), some (.int i), some (.int 1), none, none] [] M v M' 0 0 := Ev.back 2 (fun n => rfl) H
    rw [if_neg (by decide)] at H
    have H : Ev none e 33 (if 1 = 1 then 206 else 201) [some (.ref 3), some (.int a), some (.int 1), some (.int i), some (.int 1), none, none] [] M v M' 0 0 := Ev.back 3 (fun n => rfl) H
    rw [if_pos (by decide)] at H
    have H : Ev none e 33 (if 1 = 0 then 231 else 218) [some (.ref 3), some (.int a), some (.int 1), some (.int i), some (.int 1), some (.int 1), none] [] M v M' 0 0 := Ev.back 5 (fun n => rfl) H
    rw [if_neg (by decide)] at H
    have H : Ev none e 33 221 [some (.ref 3), some (.int a), some (.int 1), some (.int i), some (.int 1), some (.int 1), none] [.retAddr 12, .ref 3] M v M' 0 0 := Ev.back 2 (fun n => rfl) H
    obtain ⟨e1, rfl⟩ := Ev.dpos rfl rfl H
    obtain ⟨vK2, MK2, K2, H⟩ := Ev.callb (fun n => gs_7 rfl rfl (show gCal (.invokevirtual 115) 3 (.retAddr 12 :: .ref 3 :: []) M = some (.inr (32, [some (.ref 3), some (.retAddr 12), none, none, none, none, none, none], [])) from by show @cond (Option ((List Value × Mem) ⊕ (Nat × Lo × List Value))) (true && gRecv M (.ref 3) 3 && gRoom [] && true) (some (.inr (32, [some (.ref 3), some (.retAddr 12), none, none, none, none, none, none], []))) none = _; rw [recv_s hS.1 qa_3 qo_3]; rfl)) H
    have K2 : Ev none e1 32 0 [some (.ref 3), some (.retAddr 12), none, none, none, none, none, none] [] M vK2 MK2 0 0 := K2
    have HF := H
    exact Or.inr (⟨h1, ⟨e1, vK2, MK2, rfl, K2, HF⟩⟩)
theorem ln1_224 {e : Nat} {M M' : Mem} {v : Option Value} {a i y : Int32} (hS : SQ M) (a_t : gNth sT (fR M 3 8) = some 28) (H : Ev none e 33 224 [some (.ref 3), some (.int a), some (.int 1), some (.int i), some (.int 1), some (.int 1), none] [.int y] M v M' 0 0) : (y = 0 ∧ (∃ e1 v1 M1, e = e1 + 1 ∧ Ev none e1 31 0 [some (.ref 3)] [] M v1 M1 0 0 ∧ Ev none e 33 243 [some (.ref 3), some (.int a), some (.int 1), some (.int i), some (.int 1), some (.int 1), some (.int 1)] (v1.toList ++ []) M1 v M' 0 0)) ∨ (¬ (y = 0) ∧ (zI M 3 7) = 59 ∧ (∃ e1 v1 M1, e = e1 + 1 ∧ Ev none e1 31 0 [some (.ref 3)] [] M v1 M1 0 0 ∧ Ev none e 33 283 [some (.ref 3), some (.int a), some (.int 1), some (.int i), some (.int 1), some (.int 1), some (.int 0)] (v1.toList ++ []) M1 v M' 0 0)) ∨ (¬ (y = 0) ∧ ¬ ((zI M 3 7) = 59) ∧ (∃ e1 v1 M1, e = e1 + 1 ∧ Ev none e1 27 0 [some (.ref 3), some (.int 1)] [] M v1 M1 0 0 ∧ Ev none e 33 278 [some (.ref 3), some (.int a), some (.int 1), some (.int i), some (.int 1), some (.int 1), some (.int 0)] (v1.toList ++ []) M1 v M' 0 0)) := by
  have H : Ev none e 33 (if y = 0 then 227 else 231) [some (.ref 3), some (.int a), some (.int 1), some (.int i), some (.int 1), some (.int 1), none] [] M v M' 0 0 := Ev.back 1 (fun n => rfl) H
  by_cases h1 : y = 0
  · rw [if_pos h1] at H
    have H : Ev none e 33 (if 1 = 0 then 243 else 239) [some (.ref 3), some (.int a), some (.int 1), some (.int i), some (.int 1), some (.int 1), some (.int 1)] [] M v M' 0 0 := Ev.back 5 (fun n => rfl) H
    rw [if_neg (by decide)] at H
    have H : Ev none e 33 240 [some (.ref 3), some (.int a), some (.int 1), some (.int i), some (.int 1), some (.int 1), some (.int 1)] [.ref 3] M v M' 0 0 := Ev.back 1 (fun n => rfl) H
    obtain ⟨e1, rfl⟩ := Ev.dpos rfl rfl H
    obtain ⟨vK2, MK2, K2, H⟩ := Ev.callb (fun n => gs_7 rfl rfl (show gCal (.invokevirtual 140) 3 (.ref 3 :: []) M = some (.inr (31, [some (.ref 3)], [])) from by show @cond (Option ((List Value × Mem) ⊕ (Nat × Lo × List Value))) (true && gRecv M (.ref 3) 3 && gRoom [] && true) (some (.inr (31, [some (.ref 3)], []))) none = _; rw [recv_s hS.1 qa_3 qo_3]; rfl)) H
    have K2 : Ev none e1 31 0 [some (.ref 3)] [] M vK2 MK2 0 0 := K2
    have HF := H
    exact Or.inl ⟨h1, ⟨e1, vK2, MK2, rfl, K2, HF⟩⟩
  · rw [if_neg h1] at H
    have H : Ev none e 33 (if 0 = 0 then 243 else 239) [some (.ref 3), some (.int a), some (.int 1), some (.int i), some (.int 1), some (.int 1), some (.int 0)] [] M v M' 0 0 := Ev.back 4 (fun n => rfl) H
    rw [if_pos (by decide)] at H
    have H : Ev none e 33 (if 0 = 0 then 248 else 254) [some (.ref 3), some (.int a), some (.int 1), some (.int i), some (.int 1), some (.int 1), some (.int 0)] [] M v M' 0 0 := Ev.back 2 (fun n => rfl) H
    rw [if_pos (by decide)] at H
    have H : Ev none e 33 (if 1 = 6 then 254 else 264) [some (.ref 3), some (.int a), some (.int 1), some (.int i), some (.int 1), some (.int 1), some (.int 0)] [] M v M' 0 0 := Ev.back 3 (fun n => rfl) H
    rw [if_neg (by decide)] at H
    have H : Ev none e 33 265 [some (.ref 3), some (.int a), some (.int 1), some (.int i), some (.int 1), some (.int 1), some (.int 0)] [.ref 3] M v M' 0 0 := Ev.back 1 (fun n => rfl) H
    have H : Ev none e 33 268 [some (.ref 3), some (.int a), some (.int 1), some (.int i), some (.int 1), some (.int 1), some (.int 0)] [.int (zI M 3 7)] M v M' 0 0 := Ev.back 1 (gs_3 rfl rfl (gf_i hS.1 qa_3 qi_3_7 rfl)) H
    have H : Ev none e 33 (if (zI M 3 7) = 59 then 279 else 273) [some (.ref 3), some (.int a), some (.int 1), some (.int i), some (.int 1), some (.int 1), some (.int 0)] [] M v M' 0 0 := Ev.back 2 (fun n => rfl) H
    by_cases h3 : (zI M 3 7) = 59
    · rw [if_pos h3] at H
      have H : Ev none e 33 280 [some (.ref 3), some (.int a), some (.int 1), some (.int i), some (.int 1), some (.int 1), some (.int 0)] [.ref 3] M v M' 0 0 := Ev.back 1 (fun n => rfl) H
      obtain ⟨e1, rfl⟩ := Ev.dpos rfl rfl H
      obtain ⟨vK4, MK4, K4, H⟩ := Ev.callb (fun n => gs_7 rfl rfl (show gCal (.invokevirtual 140) 3 (.ref 3 :: []) M = some (.inr (31, [some (.ref 3)], [])) from by show @cond (Option ((List Value × Mem) ⊕ (Nat × Lo × List Value))) (true && gRecv M (.ref 3) 3 && gRoom [] && true) (some (.inr (31, [some (.ref 3)], []))) none = _; rw [recv_s hS.1 qa_3 qo_3]; rfl)) H
      have K4 : Ev none e1 31 0 [some (.ref 3)] [] M vK4 MK4 0 0 := K4
      have HF := H
      exact Or.inr (Or.inl ⟨h1, h3, ⟨e1, vK4, MK4, rfl, K4, HF⟩⟩)
    · rw [if_neg h3] at H
      have H : Ev none e 33 275 [some (.ref 3), some (.int a), some (.int 1), some (.int i), some (.int 1), some (.int 1), some (.int 0)] [.int 1, .ref 3] M v M' 0 0 := Ev.back 2 (fun n => rfl) H
      obtain ⟨e1, rfl⟩ := Ev.dpos rfl rfl H
      obtain ⟨vK5, MK5, K5, H⟩ := Ev.callb (fun n => gs_7 rfl rfl (show gCal (.invokevirtual 68) 3 (.int 1 :: .ref 3 :: []) M = some (.inr (27, [some (.ref 3), some (.int 1)], [])) from by show @cond (Option ((List Value × Mem) ⊕ (Nat × Lo × List Value))) (true && gRecv M (.ref 3) 3 && gRoom [] && true) (some (.inr (27, [some (.ref 3), some (.int 1)], []))) none = _; rw [recv_s hS.1 qa_3 qo_3]; rfl)) H
      have K5 : Ev none e1 27 0 [some (.ref 3), some (.int 1)] [] M vK5 MK5 0 0 := K5
      have HF := H
      exact Or.inr (Or.inr (⟨h1, h3, ⟨e1, vK5, MK5, rfl, K5, HF⟩⟩))
theorem ln1_243 {e : Nat} {M M' : Mem} {v : Option Value} {a i : Int32} (hS : SQ M) (a_t : gNth sT (fR M 3 8) = some 28) (H : Ev none e 33 243 [some (.ref 3), some (.int a), some (.int 1), some (.int i), some (.int 1), some (.int 1), some (.int 1)] [] M v M' 0 0) : (∃ e1 v1 M1, e = e1 + 1 ∧ Ev none e1 36 0 [some (.ref 3), some (.int 1), none] [] M v1 M1 0 0 ∧ Ev none e 33 259 [some (.ref 3), some (.int a), some (.int 1), some (.int i), some (.int 1), some (.int 1), some (.int 1)] (v1.toList ++ []) M1 v M' 0 0) := by
  have H : Ev none e 33 (if 1 = 0 then 248 else 254) [some (.ref 3), some (.int a), some (.int 1), some (.int i), some (.int 1), some (.int 1), some (.int 1)] [] M v M' 0 0 := Ev.back 2 (fun n => rfl) H
  rw [if_neg (by decide)] at H
  have H : Ev none e 33 256 [some (.ref 3), some (.int a), some (.int 1), some (.int i), some (.int 1), some (.int 1), some (.int 1)] [.int 1, .ref 3] M v M' 0 0 := Ev.back 2 (fun n => rfl) H
  obtain ⟨e1, rfl⟩ := Ev.dpos rfl rfl H
  obtain ⟨vK1, MK1, K1, H⟩ := Ev.callb (fun n => gs_7 rfl rfl (show gCal (.invokevirtual 152) 3 (.int 1 :: .ref 3 :: []) M = some (.inr (36, [some (.ref 3), some (.int 1), none], [])) from by show @cond (Option ((List Value × Mem) ⊕ (Nat × Lo × List Value))) (true && gRecv M (.ref 3) 3 && gRoom [] && true) (some (.inr (36, [some (.ref 3), some (.int 1), none], []))) none = _; rw [recv_s hS.1 qa_3 qo_3]; rfl)) H
  have K1 : Ev none e1 36 0 [some (.ref 3), some (.int 1), none] [] M vK1 MK1 0 0 := K1
  have HF := H
  exact ⟨e1, vK1, MK1, rfl, K1, HF⟩
theorem ln1_259 {e : Nat} {M M' : Mem} {v : Option Value} {a i y : Int32} (hS : SQ M) (a_t : gNth sT (fR M 3 8) = some 28) (H : Ev none e 33 259 [some (.ref 3), some (.int a), some (.int 1), some (.int i), some (.int 1), some (.int 1), some (.int 1)] [.int y] M v M' 0 0) : (y = 0 ∧ v = some (.int 0) ∧ M' = M) ∨ (¬ (y = 0) ∧ (zI M 3 7) = 59 ∧ (∃ e1 v1 M1, e = e1 + 1 ∧ Ev none e1 31 0 [some (.ref 3)] [] M v1 M1 0 0 ∧ Ev none e 33 283 [some (.ref 3), some (.int a), some (.int 1), some (.int i), some (.int 1), some (.int 1), some (.int 1)] (v1.toList ++ []) M1 v M' 0 0)) ∨ (¬ (y = 0) ∧ ¬ ((zI M 3 7) = 59) ∧ (∃ e1 v1 M1, e = e1 + 1 ∧ Ev none e1 27 0 [some (.ref 3), some (.int 1)] [] M v1 M1 0 0 ∧ Ev none e 33 278 [some (.ref 3), some (.int a), some (.int 1), some (.int i), some (.int 1), some (.int 1), some (.int 1)] (v1.toList ++ []) M1 v M' 0 0)) := by
  have H : Ev none e 33 (if y = 0 then 262 else 264) [some (.ref 3), some (.int a), some (.int 1), some (.int i), some (.int 1), some (.int 1), some (.int 1)] [] M v M' 0 0 := Ev.back 1 (fun n => rfl) H
  by_cases h1 : y = 0
  · rw [if_pos h1] at H
    have H : Ev none e 33 263 [some (.ref 3), some (.int a), some (.int 1), some (.int i), some (.int 1), some (.int 1), some (.int 1)] [.int 0] M v M' 0 0 := Ev.back 1 (fun n => rfl) H
    obtain ⟨z1, z2⟩ := Ev.retz rfl rfl H
    exact Or.inl ⟨h1, z1, z2⟩
  · rw [if_neg h1] at H
    have H : Ev none e 33 265 [some (.ref 3), some (.int a), some (.int 1), some (.int i), some (.int 1), some (.int 1), some (.int 1)] [.ref 3] M v M' 0 0 := Ev.back 1 (fun n => rfl) H
    have H : Ev none e 33 268 [some (.ref 3), some (.int a), some (.int 1), some (.int i), some (.int 1), some (.int 1), some (.int 1)] [.int (zI M 3 7)] M v M' 0 0 := Ev.back 1 (gs_3 rfl rfl (gf_i hS.1 qa_3 qi_3_7 rfl)) H
    have H : Ev none e 33 (if (zI M 3 7) = 59 then 279 else 273) [some (.ref 3), some (.int a), some (.int 1), some (.int i), some (.int 1), some (.int 1), some (.int 1)] [] M v M' 0 0 := Ev.back 2 (fun n => rfl) H
    by_cases h2 : (zI M 3 7) = 59
    · rw [if_pos h2] at H
      have H : Ev none e 33 280 [some (.ref 3), some (.int a), some (.int 1), some (.int i), some (.int 1), some (.int 1), some (.int 1)] [.ref 3] M v M' 0 0 := Ev.back 1 (fun n => rfl) H
      obtain ⟨e1, rfl⟩ := Ev.dpos rfl rfl H
      obtain ⟨vK3, MK3, K3, H⟩ := Ev.callb (fun n => gs_7 rfl rfl (show gCal (.invokevirtual 140) 3 (.ref 3 :: []) M = some (.inr (31, [some (.ref 3)], [])) from by show @cond (Option ((List Value × Mem) ⊕ (Nat × Lo × List Value))) (true && gRecv M (.ref 3) 3 && gRoom [] && true) (some (.inr (31, [some (.ref 3)], []))) none = _; rw [recv_s hS.1 qa_3 qo_3]; rfl)) H
      have K3 : Ev none e1 31 0 [some (.ref 3)] [] M vK3 MK3 0 0 := K3
      have HF := H
      exact Or.inr (Or.inl ⟨h1, h2, ⟨e1, vK3, MK3, rfl, K3, HF⟩⟩)
    · rw [if_neg h2] at H
      have H : Ev none e 33 275 [some (.ref 3), some (.int a), some (.int 1), some (.int i), some (.int 1), some (.int 1), some (.int 1)] [.int 1, .ref 3] M v M' 0 0 := Ev.back 2 (fun n => rfl) H
      obtain ⟨e1, rfl⟩ := Ev.dpos rfl rfl H
      obtain ⟨vK4, MK4, K4, H⟩ := Ev.callb (fun n => gs_7 rfl rfl (show gCal (.invokevirtual 68) 3 (.int 1 :: .ref 3 :: []) M = some (.inr (27, [some (.ref 3), some (.int 1)], [])) from by show @cond (Option ((List Value × Mem) ⊕ (Nat × Lo × List Value))) (true && gRecv M (.ref 3) 3 && gRoom [] && true) (some (.inr (27, [some (.ref 3), some (.int 1)], []))) none = _; rw [recv_s hS.1 qa_3 qo_3]; rfl)) H
      have K4 : Ev none e1 27 0 [some (.ref 3), some (.int 1)] [] M vK4 MK4 0 0 := K4
      have HF := H
      exact Or.inr (Or.inr (⟨h1, h2, ⟨e1, vK4, MK4, rfl, K4, HF⟩⟩))
theorem ln1_278 {e : Nat} {M M' : Mem} {v : Option Value} {a i y : Int32} {c5 c6 : Option Value} (hS : SQ M) (a_t : gNth sT (fR M 3 8) = some 28) (H : Ev none e 33 278 [some (.ref 3), some (.int a), some (.int 1), some (.int i), some (.int 1), c5, c6] [.int y] M v M' 0 0) : v = some (.int y) ∧ M' = M := by
  obtain ⟨z1, z2⟩ := Ev.retz rfl rfl H
  exact ⟨z1, z2⟩
theorem ln1_283 {e : Nat} {M M' : Mem} {v : Option Value} {a i : Int32} {c5 c6 : Option Value} (hS : SQ M) (a_t : gNth sT (fR M 3 8) = some 28) (H : Ev none e 33 283 [some (.ref 3), some (.int a), some (.int 1), some (.int i), some (.int 1), c5, c6] [] M v M' 0 0) : (0 ≤ i.toInt ∧ i.toInt < 16) ∧ v = some (.int 1) ∧ M' = (wF (wI M (fR M 3 8 + 5) i.toNatClampNeg (zI M (fR M 3 8) 9)) (fR M 3 8) 8 ((zI M (fR M 3 8) 8) + 1)) := by
  have H : Ev none e 33 284 [some (.ref 3), some (.int a), some (.int 1), some (.int i), some (.int 1), c5, c6] [.ref 3] M v M' 0 0 := Ev.back 1 (fun n => rfl) H
  have H : Ev none e 33 287 [some (.ref 3), some (.int a), some (.int 1), some (.int i), some (.int 1), c5, c6] [.ref (fR M 3 8)] M v M' 0 0 := Ev.back 1 (gs_3 rfl rfl (gf_n hS.1 qa_3 qn_3_8 (by decide) a_t rfl)) H
  have H : Ev none e 33 290 [some (.ref 3), some (.int a), some (.int 1), some (.int i), some (.int 1), c5, c6] [.ref (fR M 3 8 + 5)] M v M' 0 0 := Ev.back 1 (gs_3 rfl rfl (gf_x hS.1 a_t qo_28 (fx_t4 hS a_t) rfl)) H
  have H : Ev none e 33 292 [some (.ref 3), some (.int a), some (.int 1), some (.int i), some (.int 1), c5, c6] [.ref 3, .int i, .ref (fR M 3 8 + 5)] M v M' 0 0 := Ev.back 2 (fun n => rfl) H
  have H : Ev none e 33 295 [some (.ref 3), some (.int a), some (.int 1), some (.int i), some (.int 1), c5, c6] [.ref (fR M 3 8), .int i, .ref (fR M 3 8 + 5)] M v M' 0 0 := Ev.back 1 (gs_3 rfl rfl (gf_n hS.1 qa_3 qn_3_8 (by decide) a_t rfl)) H
  have H : Ev none e 33 298 [some (.ref 3), some (.int a), some (.int 1), some (.int i), some (.int 1), c5, c6] [.int (zI M (fR M 3 8) 9), .int i, .ref (fR M 3 8 + 5)] M v M' 0 0 := Ev.back 1 (gs_3 rfl rfl (gf_i hS.1 a_t qi_28_9 rfl)) H
  obtain ⟨b1, H⟩ := Ev.ias rfl rfl hS.1 (fx_g4 a_t) qw_33 H
  obtain ⟨N2, eN2⟩ : ∃ N, N = (wI M (fR M 3 8 + 5) i.toNatClampNeg (zI M (fR M 3 8) 9)) := ⟨_, rfl⟩
  have hN2 : SQ N2 := by rw [eN2]; exact hS.ki
  have H : Ev none e 33 299 [some (.ref 3), some (.int a), some (.int 1), some (.int i), some (.int 1), c5, c6] [] N2 v M' 0 0 := by rw [eN2]; exact H
  have H : Ev none e 33 300 [some (.ref 3), some (.int a), some (.int 1), some (.int i), some (.int 1), c5, c6] [.ref 3] N2 v M' 0 0 := Ev.back 1 (fun n => rfl) H
  have H : Ev none e 33 303 [some (.ref 3), some (.int a), some (.int 1), some (.int i), some (.int 1), c5, c6] [.ref (fR N2 3 8)] N2 v M' 0 0 := Ev.back 1 (gs_3 rfl rfl (gf_n hN2.1 qa_3 qn_3_8 (by decide) (by rw [show fR N2 3 8 = fR M 3 8 from by rw [eN2]; exact fR_wI]; exact a_t) rfl)) H
  rw [show fR N2 3 8 = fR M 3 8 from by rw [eN2]; exact fR_wI] at H
  have H : Ev none e 33 304 [some (.ref 3), some (.int a), some (.int 1), some (.int i), some (.int 1), c5, c6] [.ref (fR M 3 8), .ref (fR M 3 8)] N2 v M' 0 0 := Ev.back 1 (fun n => rfl) H
  have H : Ev none e 33 307 [some (.ref 3), some (.int a), some (.int 1), some (.int i), some (.int 1), c5, c6] [.int (zI N2 (fR M 3 8) 8), .ref (fR M 3 8)] N2 v M' 0 0 := Ev.back 1 (gs_3 rfl rfl (gf_i hN2.1 a_t qi_28_8 rfl)) H
  rw [show zI N2 (fR M 3 8) 8 = zI M (fR M 3 8) 8 from by rw [eN2]; exact fI_wI] at H
  have H : Ev none e 33 309 [some (.ref 3), some (.int a), some (.int 1), some (.int i), some (.int 1), c5, c6] [.int ((zI M (fR M 3 8) 8) + 1), .ref (fR M 3 8)] N2 v M' 0 0 := Ev.back 2 (fun n => rfl) H
  obtain ⟨N4, eN4⟩ : ∃ N, N = (wF N2 (fR M 3 8) 8 ((zI M (fR M 3 8) 8) + 1)) := ⟨_, rfl⟩
  have hN4 : SQ N4 := by rw [eN4]; exact hN2.kf
  have H : Ev none e 33 312 [some (.ref 3), some (.int a), some (.int 1), some (.int i), some (.int 1), c5, c6] [] N4 v M' 0 0 := by rw [eN4]; exact Ev.pfi rfl rfl rfl hN2.1 a_t qi_28_8 H
  have H : Ev none e 33 313 [some (.ref 3), some (.int a), some (.int 1), some (.int i), some (.int 1), c5, c6] [.int 1] N4 v M' 0 0 := Ev.back 1 (fun n => rfl) H
  obtain ⟨z1, z2⟩ := Ev.retz rfl rfl H
  subst eN2 eN4
  exact ⟨b1, z1, z2⟩
theorem ln2_44 {e : Nat} {M M' : Mem} {v : Option Value} {a : Int32} (hS : SQ M) (a_t : gNth sT (fR M 3 8) = some 28) (H : Ev none e 33 44 [some (.ref 3), some (.int a), some (.int 2), none, none, none, none] [] M v M' 0 0) : (16 ≤ (zI M (fR M 3 8) 8) ∧ (∃ e1 v1 M1, e = e1 + 1 ∧ Ev none e1 27 0 [some (.ref 3), some (.int 3)] [] M v1 M1 0 0 ∧ Ev none e 33 72 [some (.ref 3), some (.int a), some (.int 2), none, none, none, none] (v1.toList ++ []) M1 v M' 0 0)) ∨ (¬ (16 ≤ (zI M (fR M 3 8) 8)) ∧ ((zI M 3 10) &&& ((1 : Int32) <<< ((2 : Int32) &&& 31))) = 0 ∧ (0 ≤ (zI M (fR M 3 8) 8).toInt ∧ (zI M (fR M 3 8) 8).toInt < 16) ∧ (0 ≤ (zI M (fR M 3 8) 8).toInt ∧ (zI M (fR M 3 8) 8).toInt < 16) ∧ (0 ≤ (zI M (fR M 3 8) 8).toInt ∧ (zI M (fR M 3 8) 8).toInt < 16) ∧ (0 ≤ (zI M (fR M 3 8) 8).toInt ∧ (zI M (fR M 3 8) 8).toInt < 16) ∧ (0 ≤ (zI M (fR M 3 8) 8).toInt ∧ (zI M (fR M 3 8) 8).toInt < 16) ∧ (∃ e1 v1 M1, e = e1 + 1 ∧ Ev none e1 31 0 [some (.ref 3)] [] (wI (wI (wI (wI (wI M (fR M 3 8 + 1) ((zI M (fR M 3 8) 8).toNatClampNeg) 2) (fR M 3 8 + 2) ((zI M (fR M 3 8) 8).toNatClampNeg) 0) (fR M 3 8 + 3) ((zI M (fR M 3 8) 8).toNatClampNeg) 0) (fR M 3 8 + 4) ((zI M (fR M 3 8) 8).toNatClampNeg) (zI M (fR M 3 8) 9)) (fR M 3 8 + 5) ((zI M (fR M 3 8) 8).toNatClampNeg) (zI M (fR M 3 8) 9)) v1 M1 0 0 ∧ Ev none e 33 147 [some (.ref 3), some (.int a), some (.int 2), some (.int (zI M (fR M 3 8) 8)), none, none, none] (v1.toList ++ []) M1 v M' 0 0)) ∨ (¬ (16 ≤ (zI M (fR M 3 8) 8)) ∧ ¬ (((zI M 3 10) &&& ((1 : Int32) <<< ((2 : Int32) &&& 31))) = 0) ∧ (∃ e1 v1 M1, e = e1 + 1 ∧ Ev none e1 27 0 [some (.ref 3), some (.int 3)] [] M v1 M1 0 0 ∧ Ev none e 33 72 [some (.ref 3), some (.int a), some (.int 2), none, none, none, none] (v1.toList ++ []) M1 v M' 0 0)) := by
  have H : Ev none e 33 45 [some (.ref 3), some (.int a), some (.int 2), none, none, none, none] [.ref 3] M v M' 0 0 := Ev.back 1 (fun n => rfl) H
  have H : Ev none e 33 48 [some (.ref 3), some (.int a), some (.int 2), none, none, none, none] [.ref (fR M 3 8)] M v M' 0 0 := Ev.back 1 (gs_3 rfl rfl (gf_n hS.1 qa_3 qn_3_8 (by decide) a_t rfl)) H
  have H : Ev none e 33 51 [some (.ref 3), some (.int a), some (.int 2), none, none, none, none] [.int (zI M (fR M 3 8) 8)] M v M' 0 0 := Ev.back 1 (gs_3 rfl rfl (gf_i hS.1 a_t qi_28_8 rfl)) H
  have H : Ev none e 33 (if 16 ≤ (zI M (fR M 3 8) 8) then 67 else 56) [some (.ref 3), some (.int a), some (.int 2), none, none, none, none] [] M v M' 0 0 := Ev.back 2 (fun n => rfl) H
  by_cases h1 : 16 ≤ (zI M (fR M 3 8) 8)
  · rw [if_pos h1] at H
    have H : Ev none e 33 69 [some (.ref 3), some (.int a), some (.int 2), none, none, none, none] [.int 3, .ref 3] M v M' 0 0 := Ev.back 2 (fun n => rfl) H
    obtain ⟨e1, rfl⟩ := Ev.dpos rfl rfl H
    obtain ⟨vK2, MK2, K2, H⟩ := Ev.callb (fun n => gs_7 rfl rfl (show gCal (.invokevirtual 68) 3 (.int 3 :: .ref 3 :: []) M = some (.inr (27, [some (.ref 3), some (.int 3)], [])) from by show @cond (Option ((List Value × Mem) ⊕ (Nat × Lo × List Value))) (true && gRecv M (.ref 3) 3 && gRoom [] && true) (some (.inr (27, [some (.ref 3), some (.int 3)], []))) none = _; rw [recv_s hS.1 qa_3 qo_3]; rfl)) H
    have K2 : Ev none e1 27 0 [some (.ref 3), some (.int 3)] [] M vK2 MK2 0 0 := K2
    have HF := H
    exact Or.inl ⟨h1, ⟨e1, vK2, MK2, rfl, K2, HF⟩⟩
  · rw [if_neg h1] at H
    have H : Ev none e 33 57 [some (.ref 3), some (.int a), some (.int 2), none, none, none, none] [.ref 3] M v M' 0 0 := Ev.back 1 (fun n => rfl) H
    have H : Ev none e 33 60 [some (.ref 3), some (.int a), some (.int 2), none, none, none, none] [.int (zI M 3 10)] M v M' 0 0 := Ev.back 1 (gs_3 rfl rfl (gf_i hS.1 qa_3 qi_3_10 rfl)) H
    have H : Ev none e 33 (if ((zI M 3 10) &&& ((1 : Int32) <<< ((2 : Int32) &&& 31))) = 0 then 73 else 67) [some (.ref 3), some (.int a), some (.int 2), none, none, none, none] [] M v M' 0 0 := Ev.back 5 (fun n => rfl) H
    by_cases h3 : ((zI M 3 10) &&& ((1 : Int32) <<< ((2 : Int32) &&& 31))) = 0
    · rw [if_pos h3] at H
      have H : Ev none e 33 74 [some (.ref 3), some (.int a), some (.int 2), none, none, none, none] [.ref 3] M v M' 0 0 := Ev.back 1 (fun n => rfl) H
      have H : Ev none e 33 77 [some (.ref 3), some (.int a), some (.int 2), none, none, none, none] [.ref (fR M 3 8)] M v M' 0 0 := Ev.back 1 (gs_3 rfl rfl (gf_n hS.1 qa_3 qn_3_8 (by decide) a_t rfl)) H
      have H : Ev none e 33 80 [some (.ref 3), some (.int a), some (.int 2), none, none, none, none] [.int (zI M (fR M 3 8) 8)] M v M' 0 0 := Ev.back 1 (gs_3 rfl rfl (gf_i hS.1 a_t qi_28_8 rfl)) H
      have H : Ev none e 33 82 [some (.ref 3), some (.int a), some (.int 2), some (.int (zI M (fR M 3 8) 8)), none, none, none] [.ref 3] M v M' 0 0 := Ev.back 2 (fun n => rfl) H
      have H : Ev none e 33 85 [some (.ref 3), some (.int a), some (.int 2), some (.int (zI M (fR M 3 8) 8)), none, none, none] [.ref (fR M 3 8)] M v M' 0 0 := Ev.back 1 (gs_3 rfl rfl (gf_n hS.1 qa_3 qn_3_8 (by decide) a_t rfl)) H
      have H : Ev none e 33 88 [some (.ref 3), some (.int a), some (.int 2), some (.int (zI M (fR M 3 8) 8)), none, none, none] [.ref (fR M 3 8 + 1)] M v M' 0 0 := Ev.back 1 (gs_3 rfl rfl (gf_x hS.1 a_t qo_28 (fx_t0 hS a_t) rfl)) H
      have H : Ev none e 33 90 [some (.ref 3), some (.int a), some (.int 2), some (.int (zI M (fR M 3 8) 8)), none, none, none] [.int 2, .int (zI M (fR M 3 8) 8), .ref (fR M 3 8 + 1)] M v M' 0 0 := Ev.back 2 (fun n => rfl) H
      obtain ⟨b4, H⟩ := Ev.ias rfl rfl hS.1 (fx_g0 a_t) qw_29 H
      obtain ⟨N5, eN5⟩ : ∃ N, N = (wI M (fR M 3 8 + 1) ((zI M (fR M 3 8) 8).toNatClampNeg) 2) := ⟨_, rfl⟩
      have hN5 : SQ N5 := by rw [eN5]; exact hS.ki
      have H : Ev none e 33 91 [some (.ref 3), some (.int a), some (.int 2), some (.int (zI M (fR M 3 8) 8)), none, none, none] [] N5 v M' 0 0 := by rw [eN5]; exact H
      have H : Ev none e 33 92 [some (.ref 3), some (.int a), some (.int 2), some (.int (zI M (fR M 3 8) 8)), none, none, none] [.ref 3] N5 v M' 0 0 := Ev.back 1 (fun n => rfl) H
      have H : Ev none e 33 95 [some (.ref 3), some (.int a), some (.int 2), some (.int (zI M (fR M 3 8) 8)), none, none, none] [.ref (fR N5 3 8)] N5 v M' 0 0 := Ev.back 1 (gs_3 rfl rfl (gf_n hN5.1 qa_3 qn_3_8 (by decide) (by rw [show fR N5 3 8 = fR M 3 8 from by rw [eN5]; exact fR_wI]; exact a_t) rfl)) H
      rw [show fR N5 3 8 = fR M 3 8 from by rw [eN5]; exact fR_wI] at H
      have H : Ev none e 33 98 [some (.ref 3), some (.int a), some (.int 2), some (.int (zI M (fR M 3 8) 8)), none, none, none] [.ref (fR M 3 8 + 2)] N5 v M' 0 0 := Ev.back 1 (gs_3 rfl rfl (gf_x hN5.1 a_t qo_28 (fx_t1 hN5 a_t) rfl)) H
      have H : Ev none e 33 100 [some (.ref 3), some (.int a), some (.int 2), some (.int (zI M (fR M 3 8) 8)), none, none, none] [.int 0, .int (zI M (fR M 3 8) 8), .ref (fR M 3 8 + 2)] N5 v M' 0 0 := Ev.back 2 (fun n => rfl) H
      obtain ⟨b6, H⟩ := Ev.ias rfl rfl hN5.1 (fx_g1 a_t) qw_30 H
      obtain ⟨N7, eN7⟩ : ∃ N, N = (wI N5 (fR M 3 8 + 2) ((zI M (fR M 3 8) 8).toNatClampNeg) 0) := ⟨_, rfl⟩
      have hN7 : SQ N7 := by rw [eN7]; exact hN5.ki
      have H : Ev none e 33 101 [some (.ref 3), some (.int a), some (.int 2), some (.int (zI M (fR M 3 8) 8)), none, none, none] [] N7 v M' 0 0 := by rw [eN7]; exact H
      have H : Ev none e 33 102 [some (.ref 3), some (.int a), some (.int 2), some (.int (zI M (fR M 3 8) 8)), none, none, none] [.ref 3] N7 v M' 0 0 := Ev.back 1 (fun n => rfl) H
      have H : Ev none e 33 105 [some (.ref 3), some (.int a), some (.int 2), some (.int (zI M (fR M 3 8) 8)), none, none, none] [.ref (fR N7 3 8)] N7 v M' 0 0 := Ev.back 1 (gs_3 rfl rfl (gf_n hN7.1 qa_3 qn_3_8 (by decide) (by rw [(show fR N7 3 8 = fR N5 3 8 from by rw [eN7]; exact fR_wI).trans (show fR N5 3 8 = fR M 3 8 from by rw [eN5]; exact fR_wI)]; exact a_t) rfl)) H
      rw [(show fR N7 3 8 = fR N5 3 8 from by rw [eN7]; exact fR_wI).trans (show fR N5 3 8 = fR M 3 8 from by rw [eN5]; exact fR_wI)] at H
      have H : Ev none e 33 108 [some (.ref 3), some (.int a), some (.int 2), some (.int (zI M (fR M 3 8) 8)), none, none, none] [.ref (fR M 3 8 + 3)] N7 v M' 0 0 := Ev.back 1 (gs_3 rfl rfl (gf_x hN7.1 a_t qo_28 (fx_t2 hN7 a_t) rfl)) H
      have H : Ev none e 33 110 [some (.ref 3), some (.int a), some (.int 2), some (.int (zI M (fR M 3 8) 8)), none, none, none] [.int 0, .int (zI M (fR M 3 8) 8), .ref (fR M 3 8 + 3)] N7 v M' 0 0 := Ev.back 2 (fun n => rfl) H
      obtain ⟨b8, H⟩ := Ev.ias rfl rfl hN7.1 (fx_g2 a_t) qw_31 H
      obtain ⟨N9, eN9⟩ : ∃ N, N = (wI N7 (fR M 3 8 + 3) ((zI M (fR M 3 8) 8).toNatClampNeg) 0) := ⟨_, rfl⟩
      have hN9 : SQ N9 := by rw [eN9]; exact hN7.ki
      have H : Ev none e 33 111 [some (.ref 3), some (.int a), some (.int 2), some (.int (zI M (fR M 3 8) 8)), none, none, none] [] N9 v M' 0 0 := by rw [eN9]; exact H
      have H : Ev none e 33 112 [some (.ref 3), some (.int a), some (.int 2), some (.int (zI M (fR M 3 8) 8)), none, none, none] [.ref 3] N9 v M' 0 0 := Ev.back 1 (fun n => rfl) H
      have H : Ev none e 33 115 [some (.ref 3), some (.int a), some (.int 2), some (.int (zI M (fR M 3 8) 8)), none, none, none] [.ref (fR N9 3 8)] N9 v M' 0 0 := Ev.back 1 (gs_3 rfl rfl (gf_n hN9.1 qa_3 qn_3_8 (by decide) (by rw [((show fR N9 3 8 = fR N7 3 8 from by rw [eN9]; exact fR_wI).trans (show fR N7 3 8 = fR N5 3 8 from by rw [eN7]; exact fR_wI)).trans (show fR N5 3 8 = fR M 3 8 from by rw [eN5]; exact fR_wI)]; exact a_t) rfl)) H
      rw [((show fR N9 3 8 = fR N7 3 8 from by rw [eN9]; exact fR_wI).trans (show fR N7 3 8 = fR N5 3 8 from by rw [eN7]; exact fR_wI)).trans (show fR N5 3 8 = fR M 3 8 from by rw [eN5]; exact fR_wI)] at H
      have H : Ev none e 33 118 [some (.ref 3), some (.int a), some (.int 2), some (.int (zI M (fR M 3 8) 8)), none, none, none] [.ref (fR M 3 8 + 4)] N9 v M' 0 0 := Ev.back 1 (gs_3 rfl rfl (gf_x hN9.1 a_t qo_28 (fx_t3 hN9 a_t) rfl)) H
      have H : Ev none e 33 120 [some (.ref 3), some (.int a), some (.int 2), some (.int (zI M (fR M 3 8) 8)), none, none, none] [.ref 3, .int (zI M (fR M 3 8) 8), .ref (fR M 3 8 + 4)] N9 v M' 0 0 := Ev.back 2 (fun n => rfl) H
      have H : Ev none e 33 123 [some (.ref 3), some (.int a), some (.int 2), some (.int (zI M (fR M 3 8) 8)), none, none, none] [.ref (fR N9 3 8), .int (zI M (fR M 3 8) 8), .ref (fR M 3 8 + 4)] N9 v M' 0 0 := Ev.back 1 (gs_3 rfl rfl (gf_n hN9.1 qa_3 qn_3_8 (by decide) (by rw [((show fR N9 3 8 = fR N7 3 8 from by rw [eN9]; exact fR_wI).trans (show fR N7 3 8 = fR N5 3 8 from by rw [eN7]; exact fR_wI)).trans (show fR N5 3 8 = fR M 3 8 from by rw [eN5]; exact fR_wI)]; exact a_t) rfl)) H
      rw [((show fR N9 3 8 = fR N7 3 8 from by rw [eN9]; exact fR_wI).trans (show fR N7 3 8 = fR N5 3 8 from by rw [eN7]; exact fR_wI)).trans (show fR N5 3 8 = fR M 3 8 from by rw [eN5]; exact fR_wI)] at H
      have H : Ev none e 33 126 [some (.ref 3), some (.int a), some (.int 2), some (.int (zI M (fR M 3 8) 8)), none, none, none] [.int (zI N9 (fR M 3 8) 9), .int (zI M (fR M 3 8) 8), .ref (fR M 3 8 + 4)] N9 v M' 0 0 := Ev.back 1 (gs_3 rfl rfl (gf_i hN9.1 a_t qi_28_9 rfl)) H
      rw [((show zI N9 (fR M 3 8) 9 = zI N7 (fR M 3 8) 9 from by rw [eN9]; exact fI_wI).trans (show zI N7 (fR M 3 8) 9 = zI N5 (fR M 3 8) 9 from by rw [eN7]; exact fI_wI)).trans (show zI N5 (fR M 3 8) 9 = zI M (fR M 3 8) 9 from by rw [eN5]; exact fI_wI)] at H
      obtain ⟨b10, H⟩ := Ev.ias rfl rfl hN9.1 (fx_g3 a_t) qw_32 H
      obtain ⟨N11, eN11⟩ : ∃ N, N = (wI N9 (fR M 3 8 + 4) ((zI M (fR M 3 8) 8).toNatClampNeg) (zI M (fR M 3 8) 9)) := ⟨_, rfl⟩
      have hN11 : SQ N11 := by rw [eN11]; exact hN9.ki
      have H : Ev none e 33 127 [some (.ref 3), some (.int a), some (.int 2), some (.int (zI M (fR M 3 8) 8)), none, none, none] [] N11 v M' 0 0 := by rw [eN11]; exact H
      have H : Ev none e 33 128 [some (.ref 3), some (.int a), some (.int 2), some (.int (zI M (fR M 3 8) 8)), none, none, none] [.ref 3] N11 v M' 0 0 := Ev.back 1 (fun n => rfl) H
      have H : Ev none e 33 131 [some (.ref 3), some (.int a), some (.int 2), some (.int (zI M (fR M 3 8) 8)), none, none, none] [.ref (fR N11 3 8)] N11 v M' 0 0 := Ev.back 1 (gs_3 rfl rfl (gf_n hN11.1 qa_3 qn_3_8 (by decide) (by rw [(((show fR N11 3 8 = fR N9 3 8 from by rw [eN11]; exact fR_wI).trans (show fR N9 3 8 = fR N7 3 8 from by rw [eN9]; exact fR_wI)).trans (show fR N7 3 8 = fR N5 3 8 from by rw [eN7]; exact fR_wI)).trans (show fR N5 3 8 = fR M 3 8 from by rw [eN5]; exact fR_wI)]; exact a_t) rfl)) H
      rw [(((show fR N11 3 8 = fR N9 3 8 from by rw [eN11]; exact fR_wI).trans (show fR N9 3 8 = fR N7 3 8 from by rw [eN9]; exact fR_wI)).trans (show fR N7 3 8 = fR N5 3 8 from by rw [eN7]; exact fR_wI)).trans (show fR N5 3 8 = fR M 3 8 from by rw [eN5]; exact fR_wI)] at H
      have H : Ev none e 33 134 [some (.ref 3), some (.int a), some (.int 2), some (.int (zI M (fR M 3 8) 8)), none, none, none] [.ref (fR M 3 8 + 5)] N11 v M' 0 0 := Ev.back 1 (gs_3 rfl rfl (gf_x hN11.1 a_t qo_28 (fx_t4 hN11 a_t) rfl)) H
      have H : Ev none e 33 136 [some (.ref 3), some (.int a), some (.int 2), some (.int (zI M (fR M 3 8) 8)), none, none, none] [.ref 3, .int (zI M (fR M 3 8) 8), .ref (fR M 3 8 + 5)] N11 v M' 0 0 := Ev.back 2 (fun n => rfl) H
      have H : Ev none e 33 139 [some (.ref 3), some (.int a), some (.int 2), some (.int (zI M (fR M 3 8) 8)), none, none, none] [.ref (fR N11 3 8), .int (zI M (fR M 3 8) 8), .ref (fR M 3 8 + 5)] N11 v M' 0 0 := Ev.back 1 (gs_3 rfl rfl (gf_n hN11.1 qa_3 qn_3_8 (by decide) (by rw [(((show fR N11 3 8 = fR N9 3 8 from by rw [eN11]; exact fR_wI).trans (show fR N9 3 8 = fR N7 3 8 from by rw [eN9]; exact fR_wI)).trans (show fR N7 3 8 = fR N5 3 8 from by rw [eN7]; exact fR_wI)).trans (show fR N5 3 8 = fR M 3 8 from by rw [eN5]; exact fR_wI)]; exact a_t) rfl)) H
      rw [(((show fR N11 3 8 = fR N9 3 8 from by rw [eN11]; exact fR_wI).trans (show fR N9 3 8 = fR N7 3 8 from by rw [eN9]; exact fR_wI)).trans (show fR N7 3 8 = fR N5 3 8 from by rw [eN7]; exact fR_wI)).trans (show fR N5 3 8 = fR M 3 8 from by rw [eN5]; exact fR_wI)] at H
      have H : Ev none e 33 142 [some (.ref 3), some (.int a), some (.int 2), some (.int (zI M (fR M 3 8) 8)), none, none, none] [.int (zI N11 (fR M 3 8) 9), .int (zI M (fR M 3 8) 8), .ref (fR M 3 8 + 5)] N11 v M' 0 0 := Ev.back 1 (gs_3 rfl rfl (gf_i hN11.1 a_t qi_28_9 rfl)) H
      rw [(((show zI N11 (fR M 3 8) 9 = zI N9 (fR M 3 8) 9 from by rw [eN11]; exact fI_wI).trans (show zI N9 (fR M 3 8) 9 = zI N7 (fR M 3 8) 9 from by rw [eN9]; exact fI_wI)).trans (show zI N7 (fR M 3 8) 9 = zI N5 (fR M 3 8) 9 from by rw [eN7]; exact fI_wI)).trans (show zI N5 (fR M 3 8) 9 = zI M (fR M 3 8) 9 from by rw [eN5]; exact fI_wI)] at H
      obtain ⟨b12, H⟩ := Ev.ias rfl rfl hN11.1 (fx_g4 a_t) qw_33 H
      obtain ⟨N13, eN13⟩ : ∃ N, N = (wI N11 (fR M 3 8 + 5) ((zI M (fR M 3 8) 8).toNatClampNeg) (zI M (fR M 3 8) 9)) := ⟨_, rfl⟩
      have hN13 : SQ N13 := by rw [eN13]; exact hN11.ki
      have H : Ev none e 33 143 [some (.ref 3), some (.int a), some (.int 2), some (.int (zI M (fR M 3 8) 8)), none, none, none] [] N13 v M' 0 0 := by rw [eN13]; exact H
      have H : Ev none e 33 144 [some (.ref 3), some (.int a), some (.int 2), some (.int (zI M (fR M 3 8) 8)), none, none, none] [.ref 3] N13 v M' 0 0 := Ev.back 1 (fun n => rfl) H
      obtain ⟨e1, rfl⟩ := Ev.dpos rfl rfl H
      obtain ⟨vK14, MK14, K14, H⟩ := Ev.callb (fun n => gs_7 rfl rfl (show gCal (.invokevirtual 140) 3 (.ref 3 :: []) N13 = some (.inr (31, [some (.ref 3)], [])) from by show @cond (Option ((List Value × Mem) ⊕ (Nat × Lo × List Value))) (true && gRecv N13 (.ref 3) 3 && gRoom [] && true) (some (.inr (31, [some (.ref 3)], []))) none = _; rw [recv_s hN13.1 qa_3 qo_3]; rfl)) H
      have K14 : Ev none e1 31 0 [some (.ref 3)] [] N13 vK14 MK14 0 0 := K14
      have HF := H
      subst eN5 eN7 eN9 eN11 eN13
      exact Or.inr (Or.inl ⟨h1, h3, b4, b6, b8, b10, b12, ⟨e1, vK14, MK14, rfl, K14, HF⟩⟩)
    · rw [if_neg h3] at H
      have H : Ev none e 33 69 [some (.ref 3), some (.int a), some (.int 2), none, none, none, none] [.int 3, .ref 3] M v M' 0 0 := Ev.back 2 (fun n => rfl) H
      obtain ⟨e1, rfl⟩ := Ev.dpos rfl rfl H
      obtain ⟨vK15, MK15, K15, H⟩ := Ev.callb (fun n => gs_7 rfl rfl (show gCal (.invokevirtual 68) 3 (.int 3 :: .ref 3 :: []) M = some (.inr (27, [some (.ref 3), some (.int 3)], [])) from by show @cond (Option ((List Value × Mem) ⊕ (Nat × Lo × List Value))) (true && gRecv M (.ref 3) 3 && gRoom [] && true) (some (.inr (27, [some (.ref 3), some (.int 3)], []))) none = _; rw [recv_s hS.1 qa_3 qo_3]; rfl)) H
      have K15 : Ev none e1 27 0 [some (.ref 3), some (.int 3)] [] M vK15 MK15 0 0 := K15
      have HF := H
      exact Or.inr (Or.inr (⟨h1, h3, ⟨e1, vK15, MK15, rfl, K15, HF⟩⟩))
theorem ln2_72 {e : Nat} {M M' : Mem} {v : Option Value} {a y : Int32} (hS : SQ M) (a_t : gNth sT (fR M 3 8) = some 28) (H : Ev none e 33 72 [some (.ref 3), some (.int a), some (.int 2), none, none, none, none] [.int y] M v M' 0 0) : v = some (.int y) ∧ M' = M := by
  obtain ⟨z1, z2⟩ := Ev.retz rfl rfl H
  exact ⟨z1, z2⟩
theorem ln2_147 {e : Nat} {M M' : Mem} {v : Option Value} {a i : Int32} (hS : SQ M) (a_t : gNth sT (fR M 3 8) = some 28) (H : Ev none e 33 147 [some (.ref 3), some (.int a), some (.int 2), some (.int i), none, none, none] [] M v M' 0 0) : (∃ e1 v1 M1, e = e1 + 1 ∧ Ev none e1 35 0 [some (.ref 3), some (.int i), some (.int 2), none, none, none] [] M v1 M1 0 0 ∧ Ev none e 33 175 [some (.ref 3), some (.int a), some (.int 2), some (.int i), none, none, none] (v1.toList ++ []) M1 v M' 0 0) := by
  have H : Ev none e 33 (if 2 = 6 then 178 else 153) [some (.ref 3), some (.int a), some (.int 2), some (.int i), none, none, none] [] M v M' 0 0 := Ev.back 3 (fun n => rfl) H
  rw [if_neg (by decide)] at H
  have H : Ev none e 33 (if 2 = 5 then 158 else 169) [some (.ref 3), some (.int a), some (.int 2), some (.int i), none, none, none] [] M v M' 0 0 := Ev.back 3 (fun n => rfl) H
  rw [if_neg (by decide)] at H
  have H : Ev none e 33 172 [some (.ref 3), some (.int a), some (.int 2), some (.int i), none, none, none] [.int 2, .int i, .ref 3] M v M' 0 0 := Ev.back 3 (fun n => rfl) H
  obtain ⟨e1, rfl⟩ := Ev.dpos rfl rfl H
  obtain ⟨vK1, MK1, K1, H⟩ := Ev.callb (fun n => gs_7 rfl rfl (show gCal (.invokevirtual 146) 3 (.int 2 :: .int i :: .ref 3 :: []) M = some (.inr (35, [some (.ref 3), some (.int i), some (.int 2), none, none, none], [])) from by show @cond (Option ((List Value × Mem) ⊕ (Nat × Lo × List Value))) (true && gRecv M (.ref 3) 3 && gRoom [] && true) (some (.inr (35, [some (.ref 3), some (.int i), some (.int 2), none, none, none], []))) none = _; rw [recv_s hS.1 qa_3 qo_3]; rfl)) H
  have K1 : Ev none e1 35 0 [some (.ref 3), some (.int i), some (.int 2), none, none, none] [] M vK1 MK1 0 0 := K1
  have HF := H
  exact ⟨e1, vK1, MK1, rfl, K1, HF⟩
theorem ln2_175 {e : Nat} {M M' : Mem} {v : Option Value} {a i y : Int32} (hS : SQ M) (a_t : gNth sT (fR M 3 8) = some 28) (H : Ev none e 33 175 [some (.ref 3), some (.int a), some (.int 2), some (.int i), none, none, none] [.int y] M v M' 0 0) : (y = 0 ∧ v = some (.int 0) ∧ M' = M) ∨ (¬ (y = 0) ∧ (zI M 3 7) = 59 ∧ (∃ e1 v1 M1, e = e1 + 1 ∧ Ev none e1 31 0 [some (.ref 3)] [] M v1 M1 0 0 ∧ Ev none e 33 283 [some (.ref 3), some (.int a), some (.int 2), some (.int i), some (.int 1), some (.int 0), some (.int 0)] (v1.toList ++ []) M1 v M' 0 0)) ∨ (¬ (y = 0) ∧ ¬ ((zI M 3 7) = 59) ∧ (∃ e1 v1 M1, e = e1 + 1 ∧ Ev none e1 27 0 [some (.ref 3), some (.int 1)] [] M v1 M1 0 0 ∧ Ev none e 33 278 [some (.ref 3), some (.int a), some (.int 2), some (.int i), some (.int 1), some (.int 0), some (.int 0)] (v1.toList ++ []) M1 v M' 0 0)) := by
  have H : Ev none e 33 (if y = 0 then 182 else 178) [some (.ref 3), some (.int a), some (.int 2), some (.int i), none, none, none] [] M v M' 0 0 := Ev.back 1 (fun n => rfl) H
  by_cases h1 : y = 0
  · rw [if_pos h1] at H
    have H : Ev none e 33 (if 0 = 0 then 190 else 192) [some (.ref 3), some (.int a), some (.int 2), some (.int i), some (.int 0), none, none] [] M v M' 0 0 := Ev.back 4 (fun n => rfl) H
    rw [if_pos (by decide)] at H
    have H : Ev none e 33 191 [some (.ref 3), some (.int a), some (.int 2), some (.int i), some (.int 0), none, none] [.int 0] M v M' 0 0 := Ev.back 1 (fun n => rfl) H
    obtain ⟨z1, z2⟩ := Ev.retz rfl rfl H
    exact Or.inl ⟨h1, z1, z2⟩
  · rw [if_neg h1] at H
    have H : Ev none e 33 (if 1 = 0 then 190 else 192) [some (.ref 3), some (.int a), some (.int 2), some (.int i), some (.int 1), none, none] [] M v M' 0 0 := Ev.back 5 (fun n => rfl) H
    rw [if_neg (by decide)] at H
    have H : Ev none e 33 (if 2 = 0 then 206 else 196) [some (.ref 3), some (.int a), some (.int 2), some (.int i), some (.int 1), none, none] [] M v M' 0 0 := Ev.back 2 (fun n => rfl) H
    rw [if_neg (by decide)] at H
    have H : Ev none e 33 (if 2 = 1 then 206 else 201) [some (.ref 3), some (.int a), some (.int 2), some (.int i), some (.int 1), none, none] [] M v M' 0 0 := Ev.back 3 (fun n => rfl) H
    rw [if_neg (by decide)] at H
    have H : Ev none e 33 (if 2 = 5 then 206 else 210) [some (.ref 3), some (.int a), some (.int 2), some (.int i), some (.int 1), none, none] [] M v M' 0 0 := Ev.back 3 (fun n => rfl) H
    rw [if_neg (by decide)] at H
    have H : Ev none e 33 (if 0 = 0 then 231 else 218) [some (.ref 3), some (.int a), some (.int 2), some (.int i), some (.int 1), some (.int 0), none] [] M v M' 0 0 := Ev.back 4 (fun n => rfl) H
    rw [if_pos (by decide)] at H
    have H : Ev none e 33 (if 0 = 0 then 243 else 239) [some (.ref 3), some (.int a), some (.int 2), some (.int i), some (.int 1), some (.int 0), some (.int 0)] [] M v M' 0 0 := Ev.back 4 (fun n => rfl) H
    rw [if_pos (by decide)] at H
    have H : Ev none e 33 (if 0 = 0 then 248 else 254) [some (.ref 3), some (.int a), some (.int 2), some (.int i), some (.int 1), some (.int 0), some (.int 0)] [] M v M' 0 0 := Ev.back 2 (fun n => rfl) H
    rw [if_pos (by decide)] at H
    have H : Ev none e 33 (if 2 = 6 then 254 else 264) [some (.ref 3), some (.int a), some (.int 2), some (.int i), some (.int 1), some (.int 0), some (.int 0)] [] M v M' 0 0 := Ev.back 3 (fun n => rfl) H
    rw [if_neg (by decide)] at H
    have H : Ev none e 33 265 [some (.ref 3), some (.int a), some (.int 2), some (.int i), some (.int 1), some (.int 0), some (.int 0)] [.ref 3] M v M' 0 0 := Ev.back 1 (fun n => rfl) H
    have H : Ev none e 33 268 [some (.ref 3), some (.int a), some (.int 2), some (.int i), some (.int 1), some (.int 0), some (.int 0)] [.int (zI M 3 7)] M v M' 0 0 := Ev.back 1 (gs_3 rfl rfl (gf_i hS.1 qa_3 qi_3_7 rfl)) H
    have H : Ev none e 33 (if (zI M 3 7) = 59 then 279 else 273) [some (.ref 3), some (.int a), some (.int 2), some (.int i), some (.int 1), some (.int 0), some (.int 0)] [] M v M' 0 0 := Ev.back 2 (fun n => rfl) H
    by_cases h2 : (zI M 3 7) = 59
    · rw [if_pos h2] at H
      have H : Ev none e 33 280 [some (.ref 3), some (.int a), some (.int 2), some (.int i), some (.int 1), some (.int 0), some (.int 0)] [.ref 3] M v M' 0 0 := Ev.back 1 (fun n => rfl) H
      obtain ⟨e1, rfl⟩ := Ev.dpos rfl rfl H
      obtain ⟨vK3, MK3, K3, H⟩ := Ev.callb (fun n => gs_7 rfl rfl (show gCal (.invokevirtual 140) 3 (.ref 3 :: []) M = some (.inr (31, [some (.ref 3)], [])) from by show @cond (Option ((List Value × Mem) ⊕ (Nat × Lo × List Value))) (true && gRecv M (.ref 3) 3 && gRoom [] && true) (some (.inr (31, [some (.ref 3)], []))) none = _; rw [recv_s hS.1 qa_3 qo_3]; rfl)) H
      have K3 : Ev none e1 31 0 [some (.ref 3)] [] M vK3 MK3 0 0 := K3
      have HF := H
      exact Or.inr (Or.inl ⟨h1, h2, ⟨e1, vK3, MK3, rfl, K3, HF⟩⟩)
    · rw [if_neg h2] at H
      have H : Ev none e 33 275 [some (.ref 3), some (.int a), some (.int 2), some (.int i), some (.int 1), some (.int 0), some (.int 0)] [.int 1, .ref 3] M v M' 0 0 := Ev.back 2 (fun n => rfl) H
      obtain ⟨e1, rfl⟩ := Ev.dpos rfl rfl H
      obtain ⟨vK4, MK4, K4, H⟩ := Ev.callb (fun n => gs_7 rfl rfl (show gCal (.invokevirtual 68) 3 (.int 1 :: .ref 3 :: []) M = some (.inr (27, [some (.ref 3), some (.int 1)], [])) from by show @cond (Option ((List Value × Mem) ⊕ (Nat × Lo × List Value))) (true && gRecv M (.ref 3) 3 && gRoom [] && true) (some (.inr (27, [some (.ref 3), some (.int 1)], []))) none = _; rw [recv_s hS.1 qa_3 qo_3]; rfl)) H
      have K4 : Ev none e1 27 0 [some (.ref 3), some (.int 1)] [] M vK4 MK4 0 0 := K4
      have HF := H
      exact Or.inr (Or.inr (⟨h1, h2, ⟨e1, vK4, MK4, rfl, K4, HF⟩⟩))
theorem ln2_278 {e : Nat} {M M' : Mem} {v : Option Value} {a i y : Int32} {c5 c6 : Option Value} (hS : SQ M) (a_t : gNth sT (fR M 3 8) = some 28) (H : Ev none e 33 278 [some (.ref 3), some (.int a), some (.int 2), some (.int i), some (.int 1), c5, c6] [.int y] M v M' 0 0) : v = some (.int y) ∧ M' = M := by
  obtain ⟨z1, z2⟩ := Ev.retz rfl rfl H
  exact ⟨z1, z2⟩
theorem ln2_283 {e : Nat} {M M' : Mem} {v : Option Value} {a i : Int32} {c5 c6 : Option Value} (hS : SQ M) (a_t : gNth sT (fR M 3 8) = some 28) (H : Ev none e 33 283 [some (.ref 3), some (.int a), some (.int 2), some (.int i), some (.int 1), c5, c6] [] M v M' 0 0) : (0 ≤ i.toInt ∧ i.toInt < 16) ∧ v = some (.int 1) ∧ M' = (wF (wI M (fR M 3 8 + 5) i.toNatClampNeg (zI M (fR M 3 8) 9)) (fR M 3 8) 8 ((zI M (fR M 3 8) 8) + 1)) := by
  have H : Ev none e 33 284 [some (.ref 3), some (.int a), some (.int 2), some (.int i), some (.int 1), c5, c6] [.ref 3] M v M' 0 0 := Ev.back 1 (fun n => rfl) H
  have H : Ev none e 33 287 [some (.ref 3), some (.int a), some (.int 2), some (.int i), some (.int 1), c5, c6] [.ref (fR M 3 8)] M v M' 0 0 := Ev.back 1 (gs_3 rfl rfl (gf_n hS.1 qa_3 qn_3_8 (by decide) a_t rfl)) H
  have H : Ev none e 33 290 [some (.ref 3), some (.int a), some (.int 2), some (.int i), some (.int 1), c5, c6] [.ref (fR M 3 8 + 5)] M v M' 0 0 := Ev.back 1 (gs_3 rfl rfl (gf_x hS.1 a_t qo_28 (fx_t4 hS a_t) rfl)) H
  have H : Ev none e 33 292 [some (.ref 3), some (.int a), some (.int 2), some (.int i), some (.int 1), c5, c6] [.ref 3, .int i, .ref (fR M 3 8 + 5)] M v M' 0 0 := Ev.back 2 (fun n => rfl) H
  have H : Ev none e 33 295 [some (.ref 3), some (.int a), some (.int 2), some (.int i), some (.int 1), c5, c6] [.ref (fR M 3 8), .int i, .ref (fR M 3 8 + 5)] M v M' 0 0 := Ev.back 1 (gs_3 rfl rfl (gf_n hS.1 qa_3 qn_3_8 (by decide) a_t rfl)) H
  have H : Ev none e 33 298 [some (.ref 3), some (.int a), some (.int 2), some (.int i), some (.int 1), c5, c6] [.int (zI M (fR M 3 8) 9), .int i, .ref (fR M 3 8 + 5)] M v M' 0 0 := Ev.back 1 (gs_3 rfl rfl (gf_i hS.1 a_t qi_28_9 rfl)) H
  obtain ⟨b1, H⟩ := Ev.ias rfl rfl hS.1 (fx_g4 a_t) qw_33 H
  obtain ⟨N2, eN2⟩ : ∃ N, N = (wI M (fR M 3 8 + 5) i.toNatClampNeg (zI M (fR M 3 8) 9)) := ⟨_, rfl⟩
  have hN2 : SQ N2 := by rw [eN2]; exact hS.ki
  have H : Ev none e 33 299 [some (.ref 3), some (.int a), some (.int 2), some (.int i), some (.int 1), c5, c6] [] N2 v M' 0 0 := by rw [eN2]; exact H
  have H : Ev none e 33 300 [some (.ref 3), some (.int a), some (.int 2), some (.int i), some (.int 1), c5, c6] [.ref 3] N2 v M' 0 0 := Ev.back 1 (fun n => rfl) H
  have H : Ev none e 33 303 [some (.ref 3), some (.int a), some (.int 2), some (.int i), some (.int 1), c5, c6] [.ref (fR N2 3 8)] N2 v M' 0 0 := Ev.back 1 (gs_3 rfl rfl (gf_n hN2.1 qa_3 qn_3_8 (by decide) (by rw [show fR N2 3 8 = fR M 3 8 from by rw [eN2]; exact fR_wI]; exact a_t) rfl)) H
  rw [show fR N2 3 8 = fR M 3 8 from by rw [eN2]; exact fR_wI] at H
  have H : Ev none e 33 304 [some (.ref 3), some (.int a), some (.int 2), some (.int i), some (.int 1), c5, c6] [.ref (fR M 3 8), .ref (fR M 3 8)] N2 v M' 0 0 := Ev.back 1 (fun n => rfl) H
  have H : Ev none e 33 307 [some (.ref 3), some (.int a), some (.int 2), some (.int i), some (.int 1), c5, c6] [.int (zI N2 (fR M 3 8) 8), .ref (fR M 3 8)] N2 v M' 0 0 := Ev.back 1 (gs_3 rfl rfl (gf_i hN2.1 a_t qi_28_8 rfl)) H
  rw [show zI N2 (fR M 3 8) 8 = zI M (fR M 3 8) 8 from by rw [eN2]; exact fI_wI] at H
  have H : Ev none e 33 309 [some (.ref 3), some (.int a), some (.int 2), some (.int i), some (.int 1), c5, c6] [.int ((zI M (fR M 3 8) 8) + 1), .ref (fR M 3 8)] N2 v M' 0 0 := Ev.back 2 (fun n => rfl) H
  obtain ⟨N4, eN4⟩ : ∃ N, N = (wF N2 (fR M 3 8) 8 ((zI M (fR M 3 8) 8) + 1)) := ⟨_, rfl⟩
  have hN4 : SQ N4 := by rw [eN4]; exact hN2.kf
  have H : Ev none e 33 312 [some (.ref 3), some (.int a), some (.int 2), some (.int i), some (.int 1), c5, c6] [] N4 v M' 0 0 := by rw [eN4]; exact Ev.pfi rfl rfl rfl hN2.1 a_t qi_28_8 H
  have H : Ev none e 33 313 [some (.ref 3), some (.int a), some (.int 2), some (.int i), some (.int 1), c5, c6] [.int 1] N4 v M' 0 0 := Ev.back 1 (fun n => rfl) H
  obtain ⟨z1, z2⟩ := Ev.retz rfl rfl H
  subst eN2 eN4
  exact ⟨b1, z1, z2⟩
theorem ln3_44 {e : Nat} {M M' : Mem} {v : Option Value} {a : Int32} (hS : SQ M) (a_t : gNth sT (fR M 3 8) = some 28) (H : Ev none e 33 44 [some (.ref 3), some (.int a), some (.int 3), none, none, none, none] [] M v M' 0 0) : (16 ≤ (zI M (fR M 3 8) 8) ∧ (∃ e1 v1 M1, e = e1 + 1 ∧ Ev none e1 27 0 [some (.ref 3), some (.int 3)] [] M v1 M1 0 0 ∧ Ev none e 33 72 [some (.ref 3), some (.int a), some (.int 3), none, none, none, none] (v1.toList ++ []) M1 v M' 0 0)) ∨ (¬ (16 ≤ (zI M (fR M 3 8) 8)) ∧ ((zI M 3 10) &&& ((1 : Int32) <<< ((3 : Int32) &&& 31))) = 0 ∧ (0 ≤ (zI M (fR M 3 8) 8).toInt ∧ (zI M (fR M 3 8) 8).toInt < 16) ∧ (0 ≤ (zI M (fR M 3 8) 8).toInt ∧ (zI M (fR M 3 8) 8).toInt < 16) ∧ (0 ≤ (zI M (fR M 3 8) 8).toInt ∧ (zI M (fR M 3 8) 8).toInt < 16) ∧ (0 ≤ (zI M (fR M 3 8) 8).toInt ∧ (zI M (fR M 3 8) 8).toInt < 16) ∧ (0 ≤ (zI M (fR M 3 8) 8).toInt ∧ (zI M (fR M 3 8) 8).toInt < 16) ∧ (∃ e1 v1 M1, e = e1 + 1 ∧ Ev none e1 31 0 [some (.ref 3)] [] (wI (wI (wI (wI (wI M (fR M 3 8 + 1) ((zI M (fR M 3 8) 8).toNatClampNeg) 3) (fR M 3 8 + 2) ((zI M (fR M 3 8) 8).toNatClampNeg) 0) (fR M 3 8 + 3) ((zI M (fR M 3 8) 8).toNatClampNeg) 0) (fR M 3 8 + 4) ((zI M (fR M 3 8) 8).toNatClampNeg) (zI M (fR M 3 8) 9)) (fR M 3 8 + 5) ((zI M (fR M 3 8) 8).toNatClampNeg) (zI M (fR M 3 8) 9)) v1 M1 0 0 ∧ Ev none e 33 147 [some (.ref 3), some (.int a), some (.int 3), some (.int (zI M (fR M 3 8) 8)), none, none, none] (v1.toList ++ []) M1 v M' 0 0)) ∨ (¬ (16 ≤ (zI M (fR M 3 8) 8)) ∧ ¬ (((zI M 3 10) &&& ((1 : Int32) <<< ((3 : Int32) &&& 31))) = 0) ∧ (∃ e1 v1 M1, e = e1 + 1 ∧ Ev none e1 27 0 [some (.ref 3), some (.int 3)] [] M v1 M1 0 0 ∧ Ev none e 33 72 [some (.ref 3), some (.int a), some (.int 3), none, none, none, none] (v1.toList ++ []) M1 v M' 0 0)) := by
  have H : Ev none e 33 45 [some (.ref 3), some (.int a), some (.int 3), none, none, none, none] [.ref 3] M v M' 0 0 := Ev.back 1 (fun n => rfl) H
  have H : Ev none e 33 48 [some (.ref 3), some (.int a), some (.int 3), none, none, none, none] [.ref (fR M 3 8)] M v M' 0 0 := Ev.back 1 (gs_3 rfl rfl (gf_n hS.1 qa_3 qn_3_8 (by decide) a_t rfl)) H
  have H : Ev none e 33 51 [some (.ref 3), some (.int a), some (.int 3), none, none, none, none] [.int (zI M (fR M 3 8) 8)] M v M' 0 0 := Ev.back 1 (gs_3 rfl rfl (gf_i hS.1 a_t qi_28_8 rfl)) H
  have H : Ev none e 33 (if 16 ≤ (zI M (fR M 3 8) 8) then 67 else 56) [some (.ref 3), some (.int a), some (.int 3), none, none, none, none] [] M v M' 0 0 := Ev.back 2 (fun n => rfl) H
  by_cases h1 : 16 ≤ (zI M (fR M 3 8) 8)
  · rw [if_pos h1] at H
    have H : Ev none e 33 69 [some (.ref 3), some (.int a), some (.int 3), none, none, none, none] [.int 3, .ref 3] M v M' 0 0 := Ev.back 2 (fun n => rfl) H
    obtain ⟨e1, rfl⟩ := Ev.dpos rfl rfl H
    obtain ⟨vK2, MK2, K2, H⟩ := Ev.callb (fun n => gs_7 rfl rfl (show gCal (.invokevirtual 68) 3 (.int 3 :: .ref 3 :: []) M = some (.inr (27, [some (.ref 3), some (.int 3)], [])) from by show @cond (Option ((List Value × Mem) ⊕ (Nat × Lo × List Value))) (true && gRecv M (.ref 3) 3 && gRoom [] && true) (some (.inr (27, [some (.ref 3), some (.int 3)], []))) none = _; rw [recv_s hS.1 qa_3 qo_3]; rfl)) H
    have K2 : Ev none e1 27 0 [some (.ref 3), some (.int 3)] [] M vK2 MK2 0 0 := K2
    have HF := H
    exact Or.inl ⟨h1, ⟨e1, vK2, MK2, rfl, K2, HF⟩⟩
  · rw [if_neg h1] at H
    have H : Ev none e 33 57 [some (.ref 3), some (.int a), some (.int 3), none, none, none, none] [.ref 3] M v M' 0 0 := Ev.back 1 (fun n => rfl) H
    have H : Ev none e 33 60 [some (.ref 3), some (.int a), some (.int 3), none, none, none, none] [.int (zI M 3 10)] M v M' 0 0 := Ev.back 1 (gs_3 rfl rfl (gf_i hS.1 qa_3 qi_3_10 rfl)) H
    have H : Ev none e 33 (if ((zI M 3 10) &&& ((1 : Int32) <<< ((3 : Int32) &&& 31))) = 0 then 73 else 67) [some (.ref 3), some (.int a), some (.int 3), none, none, none, none] [] M v M' 0 0 := Ev.back 5 (fun n => rfl) H
    by_cases h3 : ((zI M 3 10) &&& ((1 : Int32) <<< ((3 : Int32) &&& 31))) = 0
    · rw [if_pos h3] at H
      have H : Ev none e 33 74 [some (.ref 3), some (.int a), some (.int 3), none, none, none, none] [.ref 3] M v M' 0 0 := Ev.back 1 (fun n => rfl) H
      have H : Ev none e 33 77 [some (.ref 3), some (.int a), some (.int 3), none, none, none, none] [.ref (fR M 3 8)] M v M' 0 0 := Ev.back 1 (gs_3 rfl rfl (gf_n hS.1 qa_3 qn_3_8 (by decide) a_t rfl)) H
      have H : Ev none e 33 80 [some (.ref 3), some (.int a), some (.int 3), none, none, none, none] [.int (zI M (fR M 3 8) 8)] M v M' 0 0 := Ev.back 1 (gs_3 rfl rfl (gf_i hS.1 a_t qi_28_8 rfl)) H
      have H : Ev none e 33 82 [some (.ref 3), some (.int a), some (.int 3), some (.int (zI M (fR M 3 8) 8)), none, none, none] [.ref 3] M v M' 0 0 := Ev.back 2 (fun n => rfl) H
      have H : Ev none e 33 85 [some (.ref 3), some (.int a), some (.int 3), some (.int (zI M (fR M 3 8) 8)), none, none, none] [.ref (fR M 3 8)] M v M' 0 0 := Ev.back 1 (gs_3 rfl rfl (gf_n hS.1 qa_3 qn_3_8 (by decide) a_t rfl)) H
      have H : Ev none e 33 88 [some (.ref 3), some (.int a), some (.int 3), some (.int (zI M (fR M 3 8) 8)), none, none, none] [.ref (fR M 3 8 + 1)] M v M' 0 0 := Ev.back 1 (gs_3 rfl rfl (gf_x hS.1 a_t qo_28 (fx_t0 hS a_t) rfl)) H
      have H : Ev none e 33 90 [some (.ref 3), some (.int a), some (.int 3), some (.int (zI M (fR M 3 8) 8)), none, none, none] [.int 3, .int (zI M (fR M 3 8) 8), .ref (fR M 3 8 + 1)] M v M' 0 0 := Ev.back 2 (fun n => rfl) H
      obtain ⟨b4, H⟩ := Ev.ias rfl rfl hS.1 (fx_g0 a_t) qw_29 H
      obtain ⟨N5, eN5⟩ : ∃ N, N = (wI M (fR M 3 8 + 1) ((zI M (fR M 3 8) 8).toNatClampNeg) 3) := ⟨_, rfl⟩
      have hN5 : SQ N5 := by rw [eN5]; exact hS.ki
      have H : Ev none e 33 91 [some (.ref 3), some (.int a), some (.int 3), some (.int (zI M (fR M 3 8) 8)), none, none, none] [] N5 v M' 0 0 := by rw [eN5]; exact H
      have H : Ev none e 33 92 [some (.ref 3), some (.int a), some (.int 3), some (.int (zI M (fR M 3 8) 8)), none, none, none] [.ref 3] N5 v M' 0 0 := Ev.back 1 (fun n => rfl) H
      have H : Ev none e 33 95 [some (.ref 3), some (.int a), some (.int 3), some (.int (zI M (fR M 3 8) 8)), none, none, none] [.ref (fR N5 3 8)] N5 v M' 0 0 := Ev.back 1 (gs_3 rfl rfl (gf_n hN5.1 qa_3 qn_3_8 (by decide) (by rw [show fR N5 3 8 = fR M 3 8 from by rw [eN5]; exact fR_wI]; exact a_t) rfl)) H
      rw [show fR N5 3 8 = fR M 3 8 from by rw [eN5]; exact fR_wI] at H
      have H : Ev none e 33 98 [some (.ref 3), some (.int a), some (.int 3), some (.int (zI M (fR M 3 8) 8)), none, none, none] [.ref (fR M 3 8 + 2)] N5 v M' 0 0 := Ev.back 1 (gs_3 rfl rfl (gf_x hN5.1 a_t qo_28 (fx_t1 hN5 a_t) rfl)) H
      have H : Ev none e 33 100 [some (.ref 3), some (.int a), some (.int 3), some (.int (zI M (fR M 3 8) 8)), none, none, none] [.int 0, .int (zI M (fR M 3 8) 8), .ref (fR M 3 8 + 2)] N5 v M' 0 0 := Ev.back 2 (fun n => rfl) H
      obtain ⟨b6, H⟩ := Ev.ias rfl rfl hN5.1 (fx_g1 a_t) qw_30 H
      obtain ⟨N7, eN7⟩ : ∃ N, N = (wI N5 (fR M 3 8 + 2) ((zI M (fR M 3 8) 8).toNatClampNeg) 0) := ⟨_, rfl⟩
      have hN7 : SQ N7 := by rw [eN7]; exact hN5.ki
      have H : Ev none e 33 101 [some (.ref 3), some (.int a), some (.int 3), some (.int (zI M (fR M 3 8) 8)), none, none, none] [] N7 v M' 0 0 := by rw [eN7]; exact H
      have H : Ev none e 33 102 [some (.ref 3), some (.int a), some (.int 3), some (.int (zI M (fR M 3 8) 8)), none, none, none] [.ref 3] N7 v M' 0 0 := Ev.back 1 (fun n => rfl) H
      have H : Ev none e 33 105 [some (.ref 3), some (.int a), some (.int 3), some (.int (zI M (fR M 3 8) 8)), none, none, none] [.ref (fR N7 3 8)] N7 v M' 0 0 := Ev.back 1 (gs_3 rfl rfl (gf_n hN7.1 qa_3 qn_3_8 (by decide) (by rw [(show fR N7 3 8 = fR N5 3 8 from by rw [eN7]; exact fR_wI).trans (show fR N5 3 8 = fR M 3 8 from by rw [eN5]; exact fR_wI)]; exact a_t) rfl)) H
      rw [(show fR N7 3 8 = fR N5 3 8 from by rw [eN7]; exact fR_wI).trans (show fR N5 3 8 = fR M 3 8 from by rw [eN5]; exact fR_wI)] at H
      have H : Ev none e 33 108 [some (.ref 3), some (.int a), some (.int 3), some (.int (zI M (fR M 3 8) 8)), none, none, none] [.ref (fR M 3 8 + 3)] N7 v M' 0 0 := Ev.back 1 (gs_3 rfl rfl (gf_x hN7.1 a_t qo_28 (fx_t2 hN7 a_t) rfl)) H
      have H : Ev none e 33 110 [some (.ref 3), some (.int a), some (.int 3), some (.int (zI M (fR M 3 8) 8)), none, none, none] [.int 0, .int (zI M (fR M 3 8) 8), .ref (fR M 3 8 + 3)] N7 v M' 0 0 := Ev.back 2 (fun n => rfl) H
      obtain ⟨b8, H⟩ := Ev.ias rfl rfl hN7.1 (fx_g2 a_t) qw_31 H
      obtain ⟨N9, eN9⟩ : ∃ N, N = (wI N7 (fR M 3 8 + 3) ((zI M (fR M 3 8) 8).toNatClampNeg) 0) := ⟨_, rfl⟩
      have hN9 : SQ N9 := by rw [eN9]; exact hN7.ki
      have H : Ev none e 33 111 [some (.ref 3), some (.int a), some (.int 3), some (.int (zI M (fR M 3 8) 8)), none, none, none] [] N9 v M' 0 0 := by rw [eN9]; exact H
      have H : Ev none e 33 112 [some (.ref 3), some (.int a), some (.int 3), some (.int (zI M (fR M 3 8) 8)), none, none, none] [.ref 3] N9 v M' 0 0 := Ev.back 1 (fun n => rfl) H
      have H : Ev none e 33 115 [some (.ref 3), some (.int a), some (.int 3), some (.int (zI M (fR M 3 8) 8)), none, none, none] [.ref (fR N9 3 8)] N9 v M' 0 0 := Ev.back 1 (gs_3 rfl rfl (gf_n hN9.1 qa_3 qn_3_8 (by decide) (by rw [((show fR N9 3 8 = fR N7 3 8 from by rw [eN9]; exact fR_wI).trans (show fR N7 3 8 = fR N5 3 8 from by rw [eN7]; exact fR_wI)).trans (show fR N5 3 8 = fR M 3 8 from by rw [eN5]; exact fR_wI)]; exact a_t) rfl)) H
      rw [((show fR N9 3 8 = fR N7 3 8 from by rw [eN9]; exact fR_wI).trans (show fR N7 3 8 = fR N5 3 8 from by rw [eN7]; exact fR_wI)).trans (show fR N5 3 8 = fR M 3 8 from by rw [eN5]; exact fR_wI)] at H
      have H : Ev none e 33 118 [some (.ref 3), some (.int a), some (.int 3), some (.int (zI M (fR M 3 8) 8)), none, none, none] [.ref (fR M 3 8 + 4)] N9 v M' 0 0 := Ev.back 1 (gs_3 rfl rfl (gf_x hN9.1 a_t qo_28 (fx_t3 hN9 a_t) rfl)) H
      have H : Ev none e 33 120 [some (.ref 3), some (.int a), some (.int 3), some (.int (zI M (fR M 3 8) 8)), none, none, none] [.ref 3, .int (zI M (fR M 3 8) 8), .ref (fR M 3 8 + 4)] N9 v M' 0 0 := Ev.back 2 (fun n => rfl) H
      have H : Ev none e 33 123 [some (.ref 3), some (.int a), some (.int 3), some (.int (zI M (fR M 3 8) 8)), none, none, none] [.ref (fR N9 3 8), .int (zI M (fR M 3 8) 8), .ref (fR M 3 8 + 4)] N9 v M' 0 0 := Ev.back 1 (gs_3 rfl rfl (gf_n hN9.1 qa_3 qn_3_8 (by decide) (by rw [((show fR N9 3 8 = fR N7 3 8 from by rw [eN9]; exact fR_wI).trans (show fR N7 3 8 = fR N5 3 8 from by rw [eN7]; exact fR_wI)).trans (show fR N5 3 8 = fR M 3 8 from by rw [eN5]; exact fR_wI)]; exact a_t) rfl)) H
      rw [((show fR N9 3 8 = fR N7 3 8 from by rw [eN9]; exact fR_wI).trans (show fR N7 3 8 = fR N5 3 8 from by rw [eN7]; exact fR_wI)).trans (show fR N5 3 8 = fR M 3 8 from by rw [eN5]; exact fR_wI)] at H
      have H : Ev none e 33 126 [some (.ref 3), some (.int a), some (.int 3), some (.int (zI M (fR M 3 8) 8)), none, none, none] [.int (zI N9 (fR M 3 8) 9), .int (zI M (fR M 3 8) 8), .ref (fR M 3 8 + 4)] N9 v M' 0 0 := Ev.back 1 (gs_3 rfl rfl (gf_i hN9.1 a_t qi_28_9 rfl)) H
      rw [((show zI N9 (fR M 3 8) 9 = zI N7 (fR M 3 8) 9 from by rw [eN9]; exact fI_wI).trans (show zI N7 (fR M 3 8) 9 = zI N5 (fR M 3 8) 9 from by rw [eN7]; exact fI_wI)).trans (show zI N5 (fR M 3 8) 9 = zI M (fR M 3 8) 9 from by rw [eN5]; exact fI_wI)] at H
      obtain ⟨b10, H⟩ := Ev.ias rfl rfl hN9.1 (fx_g3 a_t) qw_32 H
      obtain ⟨N11, eN11⟩ : ∃ N, N = (wI N9 (fR M 3 8 + 4) ((zI M (fR M 3 8) 8).toNatClampNeg) (zI M (fR M 3 8) 9)) := ⟨_, rfl⟩
      have hN11 : SQ N11 := by rw [eN11]; exact hN9.ki
      have H : Ev none e 33 127 [some (.ref 3), some (.int a), some (.int 3), some (.int (zI M (fR M 3 8) 8)), none, none, none] [] N11 v M' 0 0 := by rw [eN11]; exact H
      have H : Ev none e 33 128 [some (.ref 3), some (.int a), some (.int 3), some (.int (zI M (fR M 3 8) 8)), none, none, none] [.ref 3] N11 v M' 0 0 := Ev.back 1 (fun n => rfl) H
      have H : Ev none e 33 131 [some (.ref 3), some (.int a), some (.int 3), some (.int (zI M (fR M 3 8) 8)), none, none, none] [.ref (fR N11 3 8)] N11 v M' 0 0 := Ev.back 1 (gs_3 rfl rfl (gf_n hN11.1 qa_3 qn_3_8 (by decide) (by rw [(((show fR N11 3 8 = fR N9 3 8 from by rw [eN11]; exact fR_wI).trans (show fR N9 3 8 = fR N7 3 8 from by rw [eN9]; exact fR_wI)).trans (show fR N7 3 8 = fR N5 3 8 from by rw [eN7]; exact fR_wI)).trans (show fR N5 3 8 = fR M 3 8 from by rw [eN5]; exact fR_wI)]; exact a_t) rfl)) H
      rw [(((show fR N11 3 8 = fR N9 3 8 from by rw [eN11]; exact fR_wI).trans (show fR N9 3 8 = fR N7 3 8 from by rw [eN9]; exact fR_wI)).trans (show fR N7 3 8 = fR N5 3 8 from by rw [eN7]; exact fR_wI)).trans (show fR N5 3 8 = fR M 3 8 from by rw [eN5]; exact fR_wI)] at H
      have H : Ev none e 33 134 [some (.ref 3), some (.int a), some (.int 3), some (.int (zI M (fR M 3 8) 8)), none, none, none] [.ref (fR M 3 8 + 5)] N11 v M' 0 0 := Ev.back 1 (gs_3 rfl rfl (gf_x hN11.1 a_t qo_28 (fx_t4 hN11 a_t) rfl)) H
      have H : Ev none e 33 136 [some (.ref 3), some (.int a), some (.int 3), some (.int (zI M (fR M 3 8) 8)), none, none, none] [.ref 3, .int (zI M (fR M 3 8) 8), .ref (fR M 3 8 + 5)] N11 v M' 0 0 := Ev.back 2 (fun n => rfl) H
      have H : Ev none e 33 139 [some (.ref 3), some (.int a), some (.int 3), some (.int (zI M (fR M 3 8) 8)), none, none, none] [.ref (fR N11 3 8), .int (zI M (fR M 3 8) 8), .ref (fR M 3 8 + 5)] N11 v M' 0 0 := Ev.back 1 (gs_3 rfl rfl (gf_n hN11.1 qa_3 qn_3_8 (by decide) (by rw [(((show fR N11 3 8 = fR N9 3 8 from by rw [eN11]; exact fR_wI).trans (show fR N9 3 8 = fR N7 3 8 from by rw [eN9]; exact fR_wI)).trans (show fR N7 3 8 = fR N5 3 8 from by rw [eN7]; exact fR_wI)).trans (show fR N5 3 8 = fR M 3 8 from by rw [eN5]; exact fR_wI)]; exact a_t) rfl)) H
      rw [(((show fR N11 3 8 = fR N9 3 8 from by rw [eN11]; exact fR_wI).trans (show fR N9 3 8 = fR N7 3 8 from by rw [eN9]; exact fR_wI)).trans (show fR N7 3 8 = fR N5 3 8 from by rw [eN7]; exact fR_wI)).trans (show fR N5 3 8 = fR M 3 8 from by rw [eN5]; exact fR_wI)] at H
      have H : Ev none e 33 142 [some (.ref 3), some (.int a), some (.int 3), some (.int (zI M (fR M 3 8) 8)), none, none, none] [.int (zI N11 (fR M 3 8) 9), .int (zI M (fR M 3 8) 8), .ref (fR M 3 8 + 5)] N11 v M' 0 0 := Ev.back 1 (gs_3 rfl rfl (gf_i hN11.1 a_t qi_28_9 rfl)) H
      rw [(((show zI N11 (fR M 3 8) 9 = zI N9 (fR M 3 8) 9 from by rw [eN11]; exact fI_wI).trans (show zI N9 (fR M 3 8) 9 = zI N7 (fR M 3 8) 9 from by rw [eN9]; exact fI_wI)).trans (show zI N7 (fR M 3 8) 9 = zI N5 (fR M 3 8) 9 from by rw [eN7]; exact fI_wI)).trans (show zI N5 (fR M 3 8) 9 = zI M (fR M 3 8) 9 from by rw [eN5]; exact fI_wI)] at H
      obtain ⟨b12, H⟩ := Ev.ias rfl rfl hN11.1 (fx_g4 a_t) qw_33 H
      obtain ⟨N13, eN13⟩ : ∃ N, N = (wI N11 (fR M 3 8 + 5) ((zI M (fR M 3 8) 8).toNatClampNeg) (zI M (fR M 3 8) 9)) := ⟨_, rfl⟩
      have hN13 : SQ N13 := by rw [eN13]; exact hN11.ki
      have H : Ev none e 33 143 [some (.ref 3), some (.int a), some (.int 3), some (.int (zI M (fR M 3 8) 8)), none, none, none] [] N13 v M' 0 0 := by rw [eN13]; exact H
      have H : Ev none e 33 144 [some (.ref 3), some (.int a), some (.int 3), some (.int (zI M (fR M 3 8) 8)), none, none, none] [.ref 3] N13 v M' 0 0 := Ev.back 1 (fun n => rfl) H
      obtain ⟨e1, rfl⟩ := Ev.dpos rfl rfl H
      obtain ⟨vK14, MK14, K14, H⟩ := Ev.callb (fun n => gs_7 rfl rfl (show gCal (.invokevirtual 140) 3 (.ref 3 :: []) N13 = some (.inr (31, [some (.ref 3)], [])) from by show @cond (Option ((List Value × Mem) ⊕ (Nat × Lo × List Value))) (true && gRecv N13 (.ref 3) 3 && gRoom [] && true) (some (.inr (31, [some (.ref 3)], []))) none = _; rw [recv_s hN13.1 qa_3 qo_3]; rfl)) H
      have K14 : Ev none e1 31 0 [some (.ref 3)] [] N13 vK14 MK14 0 0 := K14
      have HF := H
      subst eN5 eN7 eN9 eN11 eN13
      exact Or.inr (Or.inl ⟨h1, h3, b4, b6, b8, b10, b12, ⟨e1, vK14, MK14, rfl, K14, HF⟩⟩)
    · rw [if_neg h3] at H
      have H : Ev none e 33 69 [some (.ref 3), some (.int a), some (.int 3), none, none, none, none] [.int 3, .ref 3] M v M' 0 0 := Ev.back 2 (fun n => rfl) H
      obtain ⟨e1, rfl⟩ := Ev.dpos rfl rfl H
      obtain ⟨vK15, MK15, K15, H⟩ := Ev.callb (fun n => gs_7 rfl rfl (show gCal (.invokevirtual 68) 3 (.int 3 :: .ref 3 :: []) M = some (.inr (27, [some (.ref 3), some (.int 3)], [])) from by show @cond (Option ((List Value × Mem) ⊕ (Nat × Lo × List Value))) (true && gRecv M (.ref 3) 3 && gRoom [] && true) (some (.inr (27, [some (.ref 3), some (.int 3)], []))) none = _; rw [recv_s hS.1 qa_3 qo_3]; rfl)) H
      have K15 : Ev none e1 27 0 [some (.ref 3), some (.int 3)] [] M vK15 MK15 0 0 := K15
      have HF := H
      exact Or.inr (Or.inr (⟨h1, h3, ⟨e1, vK15, MK15, rfl, K15, HF⟩⟩))
theorem ln3_72 {e : Nat} {M M' : Mem} {v : Option Value} {a y : Int32} (hS : SQ M) (a_t : gNth sT (fR M 3 8) = some 28) (H : Ev none e 33 72 [some (.ref 3), some (.int a), some (.int 3), none, none, none, none] [.int y] M v M' 0 0) : v = some (.int y) ∧ M' = M := by
  obtain ⟨z1, z2⟩ := Ev.retz rfl rfl H
  exact ⟨z1, z2⟩
theorem ln3_147 {e : Nat} {M M' : Mem} {v : Option Value} {a i : Int32} (hS : SQ M) (a_t : gNth sT (fR M 3 8) = some 28) (H : Ev none e 33 147 [some (.ref 3), some (.int a), some (.int 3), some (.int i), none, none, none] [] M v M' 0 0) : (∃ e1 v1 M1, e = e1 + 1 ∧ Ev none e1 35 0 [some (.ref 3), some (.int i), some (.int 3), none, none, none] [] M v1 M1 0 0 ∧ Ev none e 33 175 [some (.ref 3), some (.int a), some (.int 3), some (.int i), none, none, none] (v1.toList ++ []) M1 v M' 0 0) := by
  have H : Ev none e 33 (if 3 = 6 then 178 else 153) [some (.ref 3), some (.int a), some (.int 3), some (.int i), none, none, none] [] M v M' 0 0 := Ev.back 3 (fun n => rfl) H
  rw [if_neg (by decide)] at H
  have H : Ev none e 33 (if 3 = 5 then 158 else 169) [some (.ref 3), some (.int a), some (.int 3), some (.int i), none, none, none] [] M v M' 0 0 := Ev.back 3 (fun n => rfl) H
  rw [if_neg (by decide)] at H
  have H : Ev none e 33 172 [some (.ref 3), some (.int a), some (.int 3), some (.int i), none, none, none] [.int 3, .int i, .ref 3] M v M' 0 0 := Ev.back 3 (fun n => rfl) H
  obtain ⟨e1, rfl⟩ := Ev.dpos rfl rfl H
  obtain ⟨vK1, MK1, K1, H⟩ := Ev.callb (fun n => gs_7 rfl rfl (show gCal (.invokevirtual 146) 3 (.int 3 :: .int i :: .ref 3 :: []) M = some (.inr (35, [some (.ref 3), some (.int i), some (.int 3), none, none, none], [])) from by show @cond (Option ((List Value × Mem) ⊕ (Nat × Lo × List Value))) (true && gRecv M (.ref 3) 3 && gRoom [] && true) (some (.inr (35, [some (.ref 3), some (.int i), some (.int 3), none, none, none], []))) none = _; rw [recv_s hS.1 qa_3 qo_3]; rfl)) H
  have K1 : Ev none e1 35 0 [some (.ref 3), some (.int i), some (.int 3), none, none, none] [] M vK1 MK1 0 0 := K1
  have HF := H
  exact ⟨e1, vK1, MK1, rfl, K1, HF⟩
theorem ln3_175 {e : Nat} {M M' : Mem} {v : Option Value} {a i y : Int32} (hS : SQ M) (a_t : gNth sT (fR M 3 8) = some 28) (H : Ev none e 33 175 [some (.ref 3), some (.int a), some (.int 3), some (.int i), none, none, none] [.int y] M v M' 0 0) : (y = 0 ∧ v = some (.int 0) ∧ M' = M) ∨ (¬ (y = 0) ∧ (zI M 3 7) = 59 ∧ (∃ e1 v1 M1, e = e1 + 1 ∧ Ev none e1 31 0 [some (.ref 3)] [] M v1 M1 0 0 ∧ Ev none e 33 283 [some (.ref 3), some (.int a), some (.int 3), some (.int i), some (.int 1), some (.int 0), some (.int 0)] (v1.toList ++ []) M1 v M' 0 0)) ∨ (¬ (y = 0) ∧ ¬ ((zI M 3 7) = 59) ∧ (∃ e1 v1 M1, e = e1 + 1 ∧ Ev none e1 27 0 [some (.ref 3), some (.int 1)] [] M v1 M1 0 0 ∧ Ev none e 33 278 [some (.ref 3), some (.int a), some (.int 3), some (.int i), some (.int 1), some (.int 0), some (.int 0)] (v1.toList ++ []) M1 v M' 0 0)) := by
  have H : Ev none e 33 (if y = 0 then 182 else 178) [some (.ref 3), some (.int a), some (.int 3), some (.int i), none, none, none] [] M v M' 0 0 := Ev.back 1 (fun n => rfl) H
  by_cases h1 : y = 0
  · rw [if_pos h1] at H
    have H : Ev none e 33 (if 0 = 0 then 190 else 192) [some (.ref 3), some (.int a), some (.int 3), some (.int i), some (.int 0), none, none] [] M v M' 0 0 := Ev.back 4 (fun n => rfl) H
    rw [if_pos (by decide)] at H
    have H : Ev none e 33 191 [some (.ref 3), some (.int a), some (.int 3), some (.int i), some (.int 0), none, none] [.int 0] M v M' 0 0 := Ev.back 1 (fun n => rfl) H
    obtain ⟨z1, z2⟩ := Ev.retz rfl rfl H
    exact Or.inl ⟨h1, z1, z2⟩
  · rw [if_neg h1] at H
    have H : Ev none e 33 (if 1 = 0 then 190 else 192) [some (.ref 3), some (.int a), some (.int 3), some (.int i), some (.int 1), none, none] [] M v M' 0 0 := Ev.back 5 (fun n => rfl) H
    rw [if_neg (by decide)] at H
    have H : Ev none e 33 (if 3 = 0 then 206 else 196) [some (.ref 3), some (.int a), some (.int 3), some (.int i), some (.int 1), none, none] [] M v M' 0 0 := Ev.back 2 (fun n => rfl) H
    rw [if_neg (by decide)] at H
    have H : Ev none e 33 (if 3 = 1 then 206 else 201) [some (.ref 3), some (.int a), some (.int 3), some (.int i), some (.int 1), none, none] [] M v M' 0 0 := Ev.back 3 (fun n => rfl) H
    rw [if_neg (by decide)] at H
    have H : Ev none e 33 (if 3 = 5 then 206 else 210) [some (.ref 3), some (.int a), some (.int 3), some (.int i), some (.int 1), none, none] [] M v M' 0 0 := Ev.back 3 (fun n => rfl) H
    rw [if_neg (by decide)] at H
    have H : Ev none e 33 (if 0 = 0 then 231 else 218) [some (.ref 3), some (.int a), some (.int 3), some (.int i), some (.int 1), some (.int 0), none] [] M v M' 0 0 := Ev.back 4 (fun n => rfl) H
    rw [if_pos (by decide)] at H
    have H : Ev none e 33 (if 0 = 0 then 243 else 239) [some (.ref 3), some (.int a), some (.int 3), some (.int i), some (.int 1), some (.int 0), some (.int 0)] [] M v M' 0 0 := Ev.back 4 (fun n => rfl) H
    rw [if_pos (by decide)] at H
    have H : Ev none e 33 (if 0 = 0 then 248 else 254) [some (.ref 3), some (.int a), some (.int 3), some (.int i), some (.int 1), some (.int 0), some (.int 0)] [] M v M' 0 0 := Ev.back 2 (fun n => rfl) H
    rw [if_pos (by decide)] at H
    have H : Ev none e 33 (if 3 = 6 then 254 else 264) [some (.ref 3), some (.int a), some (.int 3), some (.int i), some (.int 1), some (.int 0), some (.int 0)] [] M v M' 0 0 := Ev.back 3 (fun n => rfl) H
    rw [if_neg (by decide)] at H
    have H : Ev none e 33 265 [some (.ref 3), some (.int a), some (.int 3), some (.int i), some (.int 1), some (.int 0), some (.int 0)] [.ref 3] M v M' 0 0 := Ev.back 1 (fun n => rfl) H
    have H : Ev none e 33 268 [some (.ref 3), some (.int a), some (.int 3), some (.int i), some (.int 1), some (.int 0), some (.int 0)] [.int (zI M 3 7)] M v M' 0 0 := Ev.back 1 (gs_3 rfl rfl (gf_i hS.1 qa_3 qi_3_7 rfl)) H
    have H : Ev none e 33 (if (zI M 3 7) = 59 then 279 else 273) [some (.ref 3), some (.int a), some (.int 3), some (.int i), some (.int 1), some (.int 0), some (.int 0)] [] M v M' 0 0 := Ev.back 2 (fun n => rfl) H
    by_cases h2 : (zI M 3 7) = 59
    · rw [if_pos h2] at H
      have H : Ev none e 33 280 [some (.ref 3), some (.int a), some (.int 3), some (.int i), some (.int 1), some (.int 0), some (.int 0)] [.ref 3] M v M' 0 0 := Ev.back 1 (fun n => rfl) H
      obtain ⟨e1, rfl⟩ := Ev.dpos rfl rfl H
      obtain ⟨vK3, MK3, K3, H⟩ := Ev.callb (fun n => gs_7 rfl rfl (show gCal (.invokevirtual 140) 3 (.ref 3 :: []) M = some (.inr (31, [some (.ref 3)], [])) from by show @cond (Option ((List Value × Mem) ⊕ (Nat × Lo × List Value))) (true && gRecv M (.ref 3) 3 && gRoom [] && true) (some (.inr (31, [some (.ref 3)], []))) none = _; rw [recv_s hS.1 qa_3 qo_3]; rfl)) H
      have K3 : Ev none e1 31 0 [some (.ref 3)] [] M vK3 MK3 0 0 := K3
      have HF := H
      exact Or.inr (Or.inl ⟨h1, h2, ⟨e1, vK3, MK3, rfl, K3, HF⟩⟩)
    · rw [if_neg h2] at H
      have H : Ev none e 33 275 [some (.ref 3), some (.int a), some (.int 3), some (.int i), some (.int 1), some (.int 0), some (.int 0)] [.int 1, .ref 3] M v M' 0 0 := Ev.back 2 (fun n => rfl) H
      obtain ⟨e1, rfl⟩ := Ev.dpos rfl rfl H
      obtain ⟨vK4, MK4, K4, H⟩ := Ev.callb (fun n => gs_7 rfl rfl (show gCal (.invokevirtual 68) 3 (.int 1 :: .ref 3 :: []) M = some (.inr (27, [some (.ref 3), some (.int 1)], [])) from by show @cond (Option ((List Value × Mem) ⊕ (Nat × Lo × List Value))) (true && gRecv M (.ref 3) 3 && gRoom [] && true) (some (.inr (27, [some (.ref 3), some (.int 1)], []))) none = _; rw [recv_s hS.1 qa_3 qo_3]; rfl)) H
      have K4 : Ev none e1 27 0 [some (.ref 3), some (.int 1)] [] M vK4 MK4 0 0 := K4
      have HF := H
      exact Or.inr (Or.inr (⟨h1, h2, ⟨e1, vK4, MK4, rfl, K4, HF⟩⟩))
theorem ln3_278 {e : Nat} {M M' : Mem} {v : Option Value} {a i y : Int32} {c5 c6 : Option Value} (hS : SQ M) (a_t : gNth sT (fR M 3 8) = some 28) (H : Ev none e 33 278 [some (.ref 3), some (.int a), some (.int 3), some (.int i), some (.int 1), c5, c6] [.int y] M v M' 0 0) : v = some (.int y) ∧ M' = M := by
  obtain ⟨z1, z2⟩ := Ev.retz rfl rfl H
  exact ⟨z1, z2⟩
theorem ln3_283 {e : Nat} {M M' : Mem} {v : Option Value} {a i : Int32} {c5 c6 : Option Value} (hS : SQ M) (a_t : gNth sT (fR M 3 8) = some 28) (H : Ev none e 33 283 [some (.ref 3), some (.int a), some (.int 3), some (.int i), some (.int 1), c5, c6] [] M v M' 0 0) : (0 ≤ i.toInt ∧ i.toInt < 16) ∧ v = some (.int 1) ∧ M' = (wF (wI M (fR M 3 8 + 5) i.toNatClampNeg (zI M (fR M 3 8) 9)) (fR M 3 8) 8 ((zI M (fR M 3 8) 8) + 1)) := by
  have H : Ev none e 33 284 [some (.ref 3), some (.int a), some (.int 3), some (.int i), some (.int 1), c5, c6] [.ref 3] M v M' 0 0 := Ev.back 1 (fun n => rfl) H
  have H : Ev none e 33 287 [some (.ref 3), some (.int a), some (.int 3), some (.int i), some (.int 1), c5, c6] [.ref (fR M 3 8)] M v M' 0 0 := Ev.back 1 (gs_3 rfl rfl (gf_n hS.1 qa_3 qn_3_8 (by decide) a_t rfl)) H
  have H : Ev none e 33 290 [some (.ref 3), some (.int a), some (.int 3), some (.int i), some (.int 1), c5, c6] [.ref (fR M 3 8 + 5)] M v M' 0 0 := Ev.back 1 (gs_3 rfl rfl (gf_x hS.1 a_t qo_28 (fx_t4 hS a_t) rfl)) H
  have H : Ev none e 33 292 [some (.ref 3), some (.int a), some (.int 3), some (.int i), some (.int 1), c5, c6] [.ref 3, .int i, .ref (fR M 3 8 + 5)] M v M' 0 0 := Ev.back 2 (fun n => rfl) H
  have H : Ev none e 33 295 [some (.ref 3), some (.int a), some (.int 3), some (.int i), some (.int 1), c5, c6] [.ref (fR M 3 8), .int i, .ref (fR M 3 8 + 5)] M v M' 0 0 := Ev.back 1 (gs_3 rfl rfl (gf_n hS.1 qa_3 qn_3_8 (by decide) a_t rfl)) H
  have H : Ev none e 33 298 [some (.ref 3), some (.int a), some (.int 3), some (.int i), some (.int 1), c5, c6] [.int (zI M (fR M 3 8) 9), .int i, .ref (fR M 3 8 + 5)] M v M' 0 0 := Ev.back 1 (gs_3 rfl rfl (gf_i hS.1 a_t qi_28_9 rfl)) H
  obtain ⟨b1, H⟩ := Ev.ias rfl rfl hS.1 (fx_g4 a_t) qw_33 H
  obtain ⟨N2, eN2⟩ : ∃ N, N = (wI M (fR M 3 8 + 5) i.toNatClampNeg (zI M (fR M 3 8) 9)) := ⟨_, rfl⟩
  have hN2 : SQ N2 := by rw [eN2]; exact hS.ki
  have H : Ev none e 33 299 [some (.ref 3), some (.int a), some (.int 3), some (.int i), some (.int 1), c5, c6] [] N2 v M' 0 0 := by rw [eN2]; exact H
  have H : Ev none e 33 300 [some (.ref 3), some (.int a), some (.int 3), some (.int i), some (.int 1), c5, c6] [.ref 3] N2 v M' 0 0 := Ev.back 1 (fun n => rfl) H
  have H : Ev none e 33 303 [some (.ref 3), some (.int a), some (.int 3), some (.int i), some (.int 1), c5, c6] [.ref (fR N2 3 8)] N2 v M' 0 0 := Ev.back 1 (gs_3 rfl rfl (gf_n hN2.1 qa_3 qn_3_8 (by decide) (by rw [show fR N2 3 8 = fR M 3 8 from by rw [eN2]; exact fR_wI]; exact a_t) rfl)) H
  rw [show fR N2 3 8 = fR M 3 8 from by rw [eN2]; exact fR_wI] at H
  have H : Ev none e 33 304 [some (.ref 3), some (.int a), some (.int 3), some (.int i), some (.int 1), c5, c6] [.ref (fR M 3 8), .ref (fR M 3 8)] N2 v M' 0 0 := Ev.back 1 (fun n => rfl) H
  have H : Ev none e 33 307 [some (.ref 3), some (.int a), some (.int 3), some (.int i), some (.int 1), c5, c6] [.int (zI N2 (fR M 3 8) 8), .ref (fR M 3 8)] N2 v M' 0 0 := Ev.back 1 (gs_3 rfl rfl (gf_i hN2.1 a_t qi_28_8 rfl)) H
  rw [show zI N2 (fR M 3 8) 8 = zI M (fR M 3 8) 8 from by rw [eN2]; exact fI_wI] at H
  have H : Ev none e 33 309 [some (.ref 3), some (.int a), some (.int 3), some (.int i), some (.int 1), c5, c6] [.int ((zI M (fR M 3 8) 8) + 1), .ref (fR M 3 8)] N2 v M' 0 0 := Ev.back 2 (fun n => rfl) H
  obtain ⟨N4, eN4⟩ : ∃ N, N = (wF N2 (fR M 3 8) 8 ((zI M (fR M 3 8) 8) + 1)) := ⟨_, rfl⟩
  have hN4 : SQ N4 := by rw [eN4]; exact hN2.kf
  have H : Ev none e 33 312 [some (.ref 3), some (.int a), some (.int 3), some (.int i), some (.int 1), c5, c6] [] N4 v M' 0 0 := by rw [eN4]; exact Ev.pfi rfl rfl rfl hN2.1 a_t qi_28_8 H
  have H : Ev none e 33 313 [some (.ref 3), some (.int a), some (.int 3), some (.int i), some (.int 1), c5, c6] [.int 1] N4 v M' 0 0 := Ev.back 1 (fun n => rfl) H
  obtain ⟨z1, z2⟩ := Ev.retz rfl rfl H
  subst eN2 eN4
  exact ⟨b1, z1, z2⟩
theorem ln4_44 {e : Nat} {M M' : Mem} {v : Option Value} {a : Int32} (hS : SQ M) (a_t : gNth sT (fR M 3 8) = some 28) (H : Ev none e 33 44 [some (.ref 3), some (.int a), some (.int 4), none, none, none, none] [] M v M' 0 0) : (16 ≤ (zI M (fR M 3 8) 8) ∧ (∃ e1 v1 M1, e = e1 + 1 ∧ Ev none e1 27 0 [some (.ref 3), some (.int 3)] [] M v1 M1 0 0 ∧ Ev none e 33 72 [some (.ref 3), some (.int a), some (.int 4), none, none, none, none] (v1.toList ++ []) M1 v M' 0 0)) ∨ (¬ (16 ≤ (zI M (fR M 3 8) 8)) ∧ ((zI M 3 10) &&& ((1 : Int32) <<< ((4 : Int32) &&& 31))) = 0 ∧ (0 ≤ (zI M (fR M 3 8) 8).toInt ∧ (zI M (fR M 3 8) 8).toInt < 16) ∧ (0 ≤ (zI M (fR M 3 8) 8).toInt ∧ (zI M (fR M 3 8) 8).toInt < 16) ∧ (0 ≤ (zI M (fR M 3 8) 8).toInt ∧ (zI M (fR M 3 8) 8).toInt < 16) ∧ (0 ≤ (zI M (fR M 3 8) 8).toInt ∧ (zI M (fR M 3 8) 8).toInt < 16) ∧ (0 ≤ (zI M (fR M 3 8) 8).toInt ∧ (zI M (fR M 3 8) 8).toInt < 16) ∧ (∃ e1 v1 M1, e = e1 + 1 ∧ Ev none e1 31 0 [some (.ref 3)] [] (wI (wI (wI (wI (wI M (fR M 3 8 + 1) ((zI M (fR M 3 8) 8).toNatClampNeg) 4) (fR M 3 8 + 2) ((zI M (fR M 3 8) 8).toNatClampNeg) 0) (fR M 3 8 + 3) ((zI M (fR M 3 8) 8).toNatClampNeg) 0) (fR M 3 8 + 4) ((zI M (fR M 3 8) 8).toNatClampNeg) (zI M (fR M 3 8) 9)) (fR M 3 8 + 5) ((zI M (fR M 3 8) 8).toNatClampNeg) (zI M (fR M 3 8) 9)) v1 M1 0 0 ∧ Ev none e 33 147 [some (.ref 3), some (.int a), some (.int 4), some (.int (zI M (fR M 3 8) 8)), none, none, none] (v1.toList ++ []) M1 v M' 0 0)) ∨ (¬ (16 ≤ (zI M (fR M 3 8) 8)) ∧ ¬ (((zI M 3 10) &&& ((1 : Int32) <<< ((4 : Int32) &&& 31))) = 0) ∧ (∃ e1 v1 M1, e = e1 + 1 ∧ Ev none e1 27 0 [some (.ref 3), some (.int 3)] [] M v1 M1 0 0 ∧ Ev none e 33 72 [some (.ref 3), some (.int a), some (.int 4), none, none, none, none] (v1.toList ++ []) M1 v M' 0 0)) := by
  have H : Ev none e 33 45 [some (.ref 3), some (.int a), some (.int 4), none, none, none, none] [.ref 3] M v M' 0 0 := Ev.back 1 (fun n => rfl) H
  have H : Ev none e 33 48 [some (.ref 3), some (.int a), some (.int 4), none, none, none, none] [.ref (fR M 3 8)] M v M' 0 0 := Ev.back 1 (gs_3 rfl rfl (gf_n hS.1 qa_3 qn_3_8 (by decide) a_t rfl)) H
  have H : Ev none e 33 51 [some (.ref 3), some (.int a), some (.int 4), none, none, none, none] [.int (zI M (fR M 3 8) 8)] M v M' 0 0 := Ev.back 1 (gs_3 rfl rfl (gf_i hS.1 a_t qi_28_8 rfl)) H
  have H : Ev none e 33 (if 16 ≤ (zI M (fR M 3 8) 8) then 67 else 56) [some (.ref 3), some (.int a), some (.int 4), none, none, none, none] [] M v M' 0 0 := Ev.back 2 (fun n => rfl) H
  by_cases h1 : 16 ≤ (zI M (fR M 3 8) 8)
  · rw [if_pos h1] at H
    have H : Ev none e 33 69 [some (.ref 3), some (.int a), some (.int 4), none, none, none, none] [.int 3, .ref 3] M v M' 0 0 := Ev.back 2 (fun n => rfl) H
    obtain ⟨e1, rfl⟩ := Ev.dpos rfl rfl H
    obtain ⟨vK2, MK2, K2, H⟩ := Ev.callb (fun n => gs_7 rfl rfl (show gCal (.invokevirtual 68) 3 (.int 3 :: .ref 3 :: []) M = some (.inr (27, [some (.ref 3), some (.int 3)], [])) from by show @cond (Option ((List Value × Mem) ⊕ (Nat × Lo × List Value))) (true && gRecv M (.ref 3) 3 && gRoom [] && true) (some (.inr (27, [some (.ref 3), some (.int 3)], []))) none = _; rw [recv_s hS.1 qa_3 qo_3]; rfl)) H
    have K2 : Ev none e1 27 0 [some (.ref 3), some (.int 3)] [] M vK2 MK2 0 0 := K2
    have HF := H
    exact Or.inl ⟨h1, ⟨e1, vK2, MK2, rfl, K2, HF⟩⟩
  · rw [if_neg h1] at H
    have H : Ev none e 33 57 [some (.ref 3), some (.int a), some (.int 4), none, none, none, none] [.ref 3] M v M' 0 0 := Ev.back 1 (fun n => rfl) H
    have H : Ev none e 33 60 [some (.ref 3), some (.int a), some (.int 4), none, none, none, none] [.int (zI M 3 10)] M v M' 0 0 := Ev.back 1 (gs_3 rfl rfl (gf_i hS.1 qa_3 qi_3_10 rfl)) H
    have H : Ev none e 33 (if ((zI M 3 10) &&& ((1 : Int32) <<< ((4 : Int32) &&& 31))) = 0 then 73 else 67) [some (.ref 3), some (.int a), some (.int 4), none, none, none, none] [] M v M' 0 0 := Ev.back 5 (fun n => rfl) H
    by_cases h3 : ((zI M 3 10) &&& ((1 : Int32) <<< ((4 : Int32) &&& 31))) = 0
    · rw [if_pos h3] at H
      have H : Ev none e 33 74 [some (.ref 3), some (.int a), some (.int 4), none, none, none, none] [.ref 3] M v M' 0 0 := Ev.back 1 (fun n => rfl) H
      have H : Ev none e 33 77 [some (.ref 3), some (.int a), some (.int 4), none, none, none, none] [.ref (fR M 3 8)] M v M' 0 0 := Ev.back 1 (gs_3 rfl rfl (gf_n hS.1 qa_3 qn_3_8 (by decide) a_t rfl)) H
      have H : Ev none e 33 80 [some (.ref 3), some (.int a), some (.int 4), none, none, none, none] [.int (zI M (fR M 3 8) 8)] M v M' 0 0 := Ev.back 1 (gs_3 rfl rfl (gf_i hS.1 a_t qi_28_8 rfl)) H
      have H : Ev none e 33 82 [some (.ref 3), some (.int a), some (.int 4), some (.int (zI M (fR M 3 8) 8)), none, none, none] [.ref 3] M v M' 0 0 := Ev.back 2 (fun n => rfl) H
      have H : Ev none e 33 85 [some (.ref 3), some (.int a), some (.int 4), some (.int (zI M (fR M 3 8) 8)), none, none, none] [.ref (fR M 3 8)] M v M' 0 0 := Ev.back 1 (gs_3 rfl rfl (gf_n hS.1 qa_3 qn_3_8 (by decide) a_t rfl)) H
      have H : Ev none e 33 88 [some (.ref 3), some (.int a), some (.int 4), some (.int (zI M (fR M 3 8) 8)), none, none, none] [.ref (fR M 3 8 + 1)] M v M' 0 0 := Ev.back 1 (gs_3 rfl rfl (gf_x hS.1 a_t qo_28 (fx_t0 hS a_t) rfl)) H
      have H : Ev none e 33 90 [some (.ref 3), some (.int a), some (.int 4), some (.int (zI M (fR M 3 8) 8)), none, none, none] [.int 4, .int (zI M (fR M 3 8) 8), .ref (fR M 3 8 + 1)] M v M' 0 0 := Ev.back 2 (fun n => rfl) H
      obtain ⟨b4, H⟩ := Ev.ias rfl rfl hS.1 (fx_g0 a_t) qw_29 H
      obtain ⟨N5, eN5⟩ : ∃ N, N = (wI M (fR M 3 8 + 1) ((zI M (fR M 3 8) 8).toNatClampNeg) 4) := ⟨_, rfl⟩
      have hN5 : SQ N5 := by rw [eN5]; exact hS.ki
      have H : Ev none e 33 91 [some (.ref 3), some (.int a), some (.int 4), some (.int (zI M (fR M 3 8) 8)), none, none, none] [] N5 v M' 0 0 := by rw [eN5]; exact H
      have H : Ev none e 33 92 [some (.ref 3), some (.int a), some (.int 4), some (.int (zI M (fR M 3 8) 8)), none, none, none] [.ref 3] N5 v M' 0 0 := Ev.back 1 (fun n => rfl) H
      have H : Ev none e 33 95 [some (.ref 3), some (.int a), some (.int 4), some (.int (zI M (fR M 3 8) 8)), none, none, none] [.ref (fR N5 3 8)] N5 v M' 0 0 := Ev.back 1 (gs_3 rfl rfl (gf_n hN5.1 qa_3 qn_3_8 (by decide) (by rw [show fR N5 3 8 = fR M 3 8 from by rw [eN5]; exact fR_wI]; exact a_t) rfl)) H
      rw [show fR N5 3 8 = fR M 3 8 from by rw [eN5]; exact fR_wI] at H
      have H : Ev none e 33 98 [some (.ref 3), some (.int a), some (.int 4), some (.int (zI M (fR M 3 8) 8)), none, none, none] [.ref (fR M 3 8 + 2)] N5 v M' 0 0 := Ev.back 1 (gs_3 rfl rfl (gf_x hN5.1 a_t qo_28 (fx_t1 hN5 a_t) rfl)) H
      have H : Ev none e 33 100 [some (.ref 3), some (.int a), some (.int 4), some (.int (zI M (fR M 3 8) 8)), none, none, none] [.int 0, .int (zI M (fR M 3 8) 8), .ref (fR M 3 8 + 2)] N5 v M' 0 0 := Ev.back 2 (fun n => rfl) H
      obtain ⟨b6, H⟩ := Ev.ias rfl rfl hN5.1 (fx_g1 a_t) qw_30 H
      obtain ⟨N7, eN7⟩ : ∃ N, N = (wI N5 (fR M 3 8 + 2) ((zI M (fR M 3 8) 8).toNatClampNeg) 0) := ⟨_, rfl⟩
      have hN7 : SQ N7 := by rw [eN7]; exact hN5.ki
      have H : Ev none e 33 101 [some (.ref 3), some (.int a), some (.int 4), some (.int (zI M (fR M 3 8) 8)), none, none, none] [] N7 v M' 0 0 := by rw [eN7]; exact H
      have H : Ev none e 33 102 [some (.ref 3), some (.int a), some (.int 4), some (.int (zI M (fR M 3 8) 8)), none, none, none] [.ref 3] N7 v M' 0 0 := Ev.back 1 (fun n => rfl) H
      have H : Ev none e 33 105 [some (.ref 3), some (.int a), some (.int 4), some (.int (zI M (fR M 3 8) 8)), none, none, none] [.ref (fR N7 3 8)] N7 v M' 0 0 := Ev.back 1 (gs_3 rfl rfl (gf_n hN7.1 qa_3 qn_3_8 (by decide) (by rw [(show fR N7 3 8 = fR N5 3 8 from by rw [eN7]; exact fR_wI).trans (show fR N5 3 8 = fR M 3 8 from by rw [eN5]; exact fR_wI)]; exact a_t) rfl)) H
      rw [(show fR N7 3 8 = fR N5 3 8 from by rw [eN7]; exact fR_wI).trans (show fR N5 3 8 = fR M 3 8 from by rw [eN5]; exact fR_wI)] at H
      have H : Ev none e 33 108 [some (.ref 3), some (.int a), some (.int 4), some (.int (zI M (fR M 3 8) 8)), none, none, none] [.ref (fR M 3 8 + 3)] N7 v M' 0 0 := Ev.back 1 (gs_3 rfl rfl (gf_x hN7.1 a_t qo_28 (fx_t2 hN7 a_t) rfl)) H
      have H : Ev none e 33 110 [some (.ref 3), some (.int a), some (.int 4), some (.int (zI M (fR M 3 8) 8)), none, none, none] [.int 0, .int (zI M (fR M 3 8) 8), .ref (fR M 3 8 + 3)] N7 v M' 0 0 := Ev.back 2 (fun n => rfl) H
      obtain ⟨b8, H⟩ := Ev.ias rfl rfl hN7.1 (fx_g2 a_t) qw_31 H
      obtain ⟨N9, eN9⟩ : ∃ N, N = (wI N7 (fR M 3 8 + 3) ((zI M (fR M 3 8) 8).toNatClampNeg) 0) := ⟨_, rfl⟩
      have hN9 : SQ N9 := by rw [eN9]; exact hN7.ki
      have H : Ev none e 33 111 [some (.ref 3), some (.int a), some (.int 4), some (.int (zI M (fR M 3 8) 8)), none, none, none] [] N9 v M' 0 0 := by rw [eN9]; exact H
      have H : Ev none e 33 112 [some (.ref 3), some (.int a), some (.int 4), some (.int (zI M (fR M 3 8) 8)), none, none, none] [.ref 3] N9 v M' 0 0 := Ev.back 1 (fun n => rfl) H
      have H : Ev none e 33 115 [some (.ref 3), some (.int a), some (.int 4), some (.int (zI M (fR M 3 8) 8)), none, none, none] [.ref (fR N9 3 8)] N9 v M' 0 0 := Ev.back 1 (gs_3 rfl rfl (gf_n hN9.1 qa_3 qn_3_8 (by decide) (by rw [((show fR N9 3 8 = fR N7 3 8 from by rw [eN9]; exact fR_wI).trans (show fR N7 3 8 = fR N5 3 8 from by rw [eN7]; exact fR_wI)).trans (show fR N5 3 8 = fR M 3 8 from by rw [eN5]; exact fR_wI)]; exact a_t) rfl)) H
      rw [((show fR N9 3 8 = fR N7 3 8 from by rw [eN9]; exact fR_wI).trans (show fR N7 3 8 = fR N5 3 8 from by rw [eN7]; exact fR_wI)).trans (show fR N5 3 8 = fR M 3 8 from by rw [eN5]; exact fR_wI)] at H
      have H : Ev none e 33 118 [some (.ref 3), some (.int a), some (.int 4), some (.int (zI M (fR M 3 8) 8)), none, none, none] [.ref (fR M 3 8 + 4)] N9 v M' 0 0 := Ev.back 1 (gs_3 rfl rfl (gf_x hN9.1 a_t qo_28 (fx_t3 hN9 a_t) rfl)) H
      have H : Ev none e 33 120 [some (.ref 3), some (.int a), some (.int 4), some (.int (zI M (fR M 3 8) 8)), none, none, none] [.ref 3, .int (zI M (fR M 3 8) 8), .ref (fR M 3 8 + 4)] N9 v M' 0 0 := Ev.back 2 (fun n => rfl) H
      have H : Ev none e 33 123 [some (.ref 3), some (.int a), some (.int 4), some (.int (zI M (fR M 3 8) 8)), none, none, none] [.ref (fR N9 3 8), .int (zI M (fR M 3 8) 8), .ref (fR M 3 8 + 4)] N9 v M' 0 0 := Ev.back 1 (gs_3 rfl rfl (gf_n hN9.1 qa_3 qn_3_8 (by decide) (by rw [((show fR N9 3 8 = fR N7 3 8 from by rw [eN9]; exact fR_wI).trans (show fR N7 3 8 = fR N5 3 8 from by rw [eN7]; exact fR_wI)).trans (show fR N5 3 8 = fR M 3 8 from by rw [eN5]; exact fR_wI)]; exact a_t) rfl)) H
      rw [((show fR N9 3 8 = fR N7 3 8 from by rw [eN9]; exact fR_wI).trans (show fR N7 3 8 = fR N5 3 8 from by rw [eN7]; exact fR_wI)).trans (show fR N5 3 8 = fR M 3 8 from by rw [eN5]; exact fR_wI)] at H
      have H : Ev none e 33 126 [some (.ref 3), some (.int a), some (.int 4), some (.int (zI M (fR M 3 8) 8)), none, none, none] [.int (zI N9 (fR M 3 8) 9), .int (zI M (fR M 3 8) 8), .ref (fR M 3 8 + 4)] N9 v M' 0 0 := Ev.back 1 (gs_3 rfl rfl (gf_i hN9.1 a_t qi_28_9 rfl)) H
      rw [((show zI N9 (fR M 3 8) 9 = zI N7 (fR M 3 8) 9 from by rw [eN9]; exact fI_wI).trans (show zI N7 (fR M 3 8) 9 = zI N5 (fR M 3 8) 9 from by rw [eN7]; exact fI_wI)).trans (show zI N5 (fR M 3 8) 9 = zI M (fR M 3 8) 9 from by rw [eN5]; exact fI_wI)] at H
      obtain ⟨b10, H⟩ := Ev.ias rfl rfl hN9.1 (fx_g3 a_t) qw_32 H
      obtain ⟨N11, eN11⟩ : ∃ N, N = (wI N9 (fR M 3 8 + 4) ((zI M (fR M 3 8) 8).toNatClampNeg) (zI M (fR M 3 8) 9)) := ⟨_, rfl⟩
      have hN11 : SQ N11 := by rw [eN11]; exact hN9.ki
      have H : Ev none e 33 127 [some (.ref 3), some (.int a), some (.int 4), some (.int (zI M (fR M 3 8) 8)), none, none, none] [] N11 v M' 0 0 := by rw [eN11]; exact H
      have H : Ev none e 33 128 [some (.ref 3), some (.int a), some (.int 4), some (.int (zI M (fR M 3 8) 8)), none, none, none] [.ref 3] N11 v M' 0 0 := Ev.back 1 (fun n => rfl) H
      have H : Ev none e 33 131 [some (.ref 3), some (.int a), some (.int 4), some (.int (zI M (fR M 3 8) 8)), none, none, none] [.ref (fR N11 3 8)] N11 v M' 0 0 := Ev.back 1 (gs_3 rfl rfl (gf_n hN11.1 qa_3 qn_3_8 (by decide) (by rw [(((show fR N11 3 8 = fR N9 3 8 from by rw [eN11]; exact fR_wI).trans (show fR N9 3 8 = fR N7 3 8 from by rw [eN9]; exact fR_wI)).trans (show fR N7 3 8 = fR N5 3 8 from by rw [eN7]; exact fR_wI)).trans (show fR N5 3 8 = fR M 3 8 from by rw [eN5]; exact fR_wI)]; exact a_t) rfl)) H
      rw [(((show fR N11 3 8 = fR N9 3 8 from by rw [eN11]; exact fR_wI).trans (show fR N9 3 8 = fR N7 3 8 from by rw [eN9]; exact fR_wI)).trans (show fR N7 3 8 = fR N5 3 8 from by rw [eN7]; exact fR_wI)).trans (show fR N5 3 8 = fR M 3 8 from by rw [eN5]; exact fR_wI)] at H
      have H : Ev none e 33 134 [some (.ref 3), some (.int a), some (.int 4), some (.int (zI M (fR M 3 8) 8)), none, none, none] [.ref (fR M 3 8 + 5)] N11 v M' 0 0 := Ev.back 1 (gs_3 rfl rfl (gf_x hN11.1 a_t qo_28 (fx_t4 hN11 a_t) rfl)) H
      have H : Ev none e 33 136 [some (.ref 3), some (.int a), some (.int 4), some (.int (zI M (fR M 3 8) 8)), none, none, none] [.ref 3, .int (zI M (fR M 3 8) 8), .ref (fR M 3 8 + 5)] N11 v M' 0 0 := Ev.back 2 (fun n => rfl) H
      have H : Ev none e 33 139 [some (.ref 3), some (.int a), some (.int 4), some (.int (zI M (fR M 3 8) 8)), none, none, none] [.ref (fR N11 3 8), .int (zI M (fR M 3 8) 8), .ref (fR M 3 8 + 5)] N11 v M' 0 0 := Ev.back 1 (gs_3 rfl rfl (gf_n hN11.1 qa_3 qn_3_8 (by decide) (by rw [(((show fR N11 3 8 = fR N9 3 8 from by rw [eN11]; exact fR_wI).trans (show fR N9 3 8 = fR N7 3 8 from by rw [eN9]; exact fR_wI)).trans (show fR N7 3 8 = fR N5 3 8 from by rw [eN7]; exact fR_wI)).trans (show fR N5 3 8 = fR M 3 8 from by rw [eN5]; exact fR_wI)]; exact a_t) rfl)) H
      rw [(((show fR N11 3 8 = fR N9 3 8 from by rw [eN11]; exact fR_wI).trans (show fR N9 3 8 = fR N7 3 8 from by rw [eN9]; exact fR_wI)).trans (show fR N7 3 8 = fR N5 3 8 from by rw [eN7]; exact fR_wI)).trans (show fR N5 3 8 = fR M 3 8 from by rw [eN5]; exact fR_wI)] at H
      have H : Ev none e 33 142 [some (.ref 3), some (.int a), some (.int 4), some (.int (zI M (fR M 3 8) 8)), none, none, none] [.int (zI N11 (fR M 3 8) 9), .int (zI M (fR M 3 8) 8), .ref (fR M 3 8 + 5)] N11 v M' 0 0 := Ev.back 1 (gs_3 rfl rfl (gf_i hN11.1 a_t qi_28_9 rfl)) H
      rw [(((show zI N11 (fR M 3 8) 9 = zI N9 (fR M 3 8) 9 from by rw [eN11]; exact fI_wI).trans (show zI N9 (fR M 3 8) 9 = zI N7 (fR M 3 8) 9 from by rw [eN9]; exact fI_wI)).trans (show zI N7 (fR M 3 8) 9 = zI N5 (fR M 3 8) 9 from by rw [eN7]; exact fI_wI)).trans (show zI N5 (fR M 3 8) 9 = zI M (fR M 3 8) 9 from by rw [eN5]; exact fI_wI)] at H
      obtain ⟨b12, H⟩ := Ev.ias rfl rfl hN11.1 (fx_g4 a_t) qw_33 H
      obtain ⟨N13, eN13⟩ : ∃ N, N = (wI N11 (fR M 3 8 + 5) ((zI M (fR M 3 8) 8).toNatClampNeg) (zI M (fR M 3 8) 9)) := ⟨_, rfl⟩
      have hN13 : SQ N13 := by rw [eN13]; exact hN11.ki
      have H : Ev none e 33 143 [some (.ref 3), some (.int a), some (.int 4), some (.int (zI M (fR M 3 8) 8)), none, none, none] [] N13 v M' 0 0 := by rw [eN13]; exact H
      have H : Ev none e 33 144 [some (.ref 3), some (.int a), some (.int 4), some (.int (zI M (fR M 3 8) 8)), none, none, none] [.ref 3] N13 v M' 0 0 := Ev.back 1 (fun n => rfl) H
      obtain ⟨e1, rfl⟩ := Ev.dpos rfl rfl H
      obtain ⟨vK14, MK14, K14, H⟩ := Ev.callb (fun n => gs_7 rfl rfl (show gCal (.invokevirtual 140) 3 (.ref 3 :: []) N13 = some (.inr (31, [some (.ref 3)], [])) from by show @cond (Option ((List Value × Mem) ⊕ (Nat × Lo × List Value))) (true && gRecv N13 (.ref 3) 3 && gRoom [] && true) (some (.inr (31, [some (.ref 3)], []))) none = _; rw [recv_s hN13.1 qa_3 qo_3]; rfl)) H
      have K14 : Ev none e1 31 0 [some (.ref 3)] [] N13 vK14 MK14 0 0 := K14
      have HF := H
      subst eN5 eN7 eN9 eN11 eN13
      exact Or.inr (Or.inl ⟨h1, h3, b4, b6, b8, b10, b12, ⟨e1, vK14, MK14, rfl, K14, HF⟩⟩)
    · rw [if_neg h3] at H
      have H : Ev none e 33 69 [some (.ref 3), some (.int a), some (.int 4), none, none, none, none] [.int 3, .ref 3] M v M' 0 0 := Ev.back 2 (fun n => rfl) H
      obtain ⟨e1, rfl⟩ := Ev.dpos rfl rfl H
      obtain ⟨vK15, MK15, K15, H⟩ := Ev.callb (fun n => gs_7 rfl rfl (show gCal (.invokevirtual 68) 3 (.int 3 :: .ref 3 :: []) M = some (.inr (27, [some (.ref 3), some (.int 3)], [])) from by show @cond (Option ((List Value × Mem) ⊕ (Nat × Lo × List Value))) (true && gRecv M (.ref 3) 3 && gRoom [] && true) (some (.inr (27, [some (.ref 3), some (.int 3)], []))) none = _; rw [recv_s hS.1 qa_3 qo_3]; rfl)) H
      have K15 : Ev none e1 27 0 [some (.ref 3), some (.int 3)] [] M vK15 MK15 0 0 := K15
      have HF := H
      exact Or.inr (Or.inr (⟨h1, h3, ⟨e1, vK15, MK15, rfl, K15, HF⟩⟩))
theorem ln4_72 {e : Nat} {M M' : Mem} {v : Option Value} {a y : Int32} (hS : SQ M) (a_t : gNth sT (fR M 3 8) = some 28) (H : Ev none e 33 72 [some (.ref 3), some (.int a), some (.int 4), none, none, none, none] [.int y] M v M' 0 0) : v = some (.int y) ∧ M' = M := by
  obtain ⟨z1, z2⟩ := Ev.retz rfl rfl H
  exact ⟨z1, z2⟩
theorem ln4_147 {e : Nat} {M M' : Mem} {v : Option Value} {a i : Int32} (hS : SQ M) (a_t : gNth sT (fR M 3 8) = some 28) (H : Ev none e 33 147 [some (.ref 3), some (.int a), some (.int 4), some (.int i), none, none, none] [] M v M' 0 0) : (∃ e1 v1 M1, e = e1 + 1 ∧ Ev none e1 35 0 [some (.ref 3), some (.int i), some (.int 4), none, none, none] [] M v1 M1 0 0 ∧ Ev none e 33 175 [some (.ref 3), some (.int a), some (.int 4), some (.int i), none, none, none] (v1.toList ++ []) M1 v M' 0 0) := by
  have H : Ev none e 33 (if 4 = 6 then 178 else 153) [some (.ref 3), some (.int a), some (.int 4), some (.int i), none, none, none] [] M v M' 0 0 := Ev.back 3 (fun n => rfl) H
  rw [if_neg (by decide)] at H
  have H : Ev none e 33 (if 4 = 5 then 158 else 169) [some (.ref 3), some (.int a), some (.int 4), some (.int i), none, none, none] [] M v M' 0 0 := Ev.back 3 (fun n => rfl) H
  rw [if_neg (by decide)] at H
  have H : Ev none e 33 172 [some (.ref 3), some (.int a), some (.int 4), some (.int i), none, none, none] [.int 4, .int i, .ref 3] M v M' 0 0 := Ev.back 3 (fun n => rfl) H
  obtain ⟨e1, rfl⟩ := Ev.dpos rfl rfl H
  obtain ⟨vK1, MK1, K1, H⟩ := Ev.callb (fun n => gs_7 rfl rfl (show gCal (.invokevirtual 146) 3 (.int 4 :: .int i :: .ref 3 :: []) M = some (.inr (35, [some (.ref 3), some (.int i), some (.int 4), none, none, none], [])) from by show @cond (Option ((List Value × Mem) ⊕ (Nat × Lo × List Value))) (true && gRecv M (.ref 3) 3 && gRoom [] && true) (some (.inr (35, [some (.ref 3), some (.int i), some (.int 4), none, none, none], []))) none = _; rw [recv_s hS.1 qa_3 qo_3]; rfl)) H
  have K1 : Ev none e1 35 0 [some (.ref 3), some (.int i), some (.int 4), none, none, none] [] M vK1 MK1 0 0 := K1
  have HF := H
  exact ⟨e1, vK1, MK1, rfl, K1, HF⟩
theorem ln4_175 {e : Nat} {M M' : Mem} {v : Option Value} {a i y : Int32} (hS : SQ M) (a_t : gNth sT (fR M 3 8) = some 28) (H : Ev none e 33 175 [some (.ref 3), some (.int a), some (.int 4), some (.int i), none, none, none] [.int y] M v M' 0 0) : (y = 0 ∧ v = some (.int 0) ∧ M' = M) ∨ (¬ (y = 0) ∧ (zI M 3 7) = 59 ∧ (∃ e1 v1 M1, e = e1 + 1 ∧ Ev none e1 31 0 [some (.ref 3)] [] M v1 M1 0 0 ∧ Ev none e 33 283 [some (.ref 3), some (.int a), some (.int 4), some (.int i), some (.int 1), some (.int 0), some (.int 0)] (v1.toList ++ []) M1 v M' 0 0)) ∨ (¬ (y = 0) ∧ ¬ ((zI M 3 7) = 59) ∧ (∃ e1 v1 M1, e = e1 + 1 ∧ Ev none e1 27 0 [some (.ref 3), some (.int 1)] [] M v1 M1 0 0 ∧ Ev none e 33 278 [some (.ref 3), some (.int a), some (.int 4), some (.int i), some (.int 1), some (.int 0), some (.int 0)] (v1.toList ++ []) M1 v M' 0 0)) := by
  have H : Ev none e 33 (if y = 0 then 182 else 178) [some (.ref 3), some (.int a), some (.int 4), some (.int i), none, none, none] [] M v M' 0 0 := Ev.back 1 (fun n => rfl) H
  by_cases h1 : y = 0
  · rw [if_pos h1] at H
    have H : Ev none e 33 (if 0 = 0 then 190 else 192) [some (.ref 3), some (.int a), some (.int 4), some (.int i), some (.int 0), none, none] [] M v M' 0 0 := Ev.back 4 (fun n => rfl) H
    rw [if_pos (by decide)] at H
    have H : Ev none e 33 191 [some (.ref 3), some (.int a), some (.int 4), some (.int i), some (.int 0), none, none] [.int 0] M v M' 0 0 := Ev.back 1 (fun n => rfl) H
    obtain ⟨z1, z2⟩ := Ev.retz rfl rfl H
    exact Or.inl ⟨h1, z1, z2⟩
  · rw [if_neg h1] at H
    have H : Ev none e 33 (if 1 = 0 then 190 else 192) [some (.ref 3), some (.int a), some (.int 4), some (.int i), some (.int 1), none, none] [] M v M' 0 0 := Ev.back 5 (fun n => rfl) H
    rw [if_neg (by decide)] at H
    have H : Ev none e 33 (if 4 = 0 then 206 else 196) [some (.ref 3), some (.int a), some (.int 4), some (.int i), some (.int 1), none, none] [] M v M' 0 0 := Ev.back 2 (fun n => rfl) H
    rw [if_neg (by decide)] at H
    have H : Ev none e 33 (if 4 = 1 then 206 else 201) [some (.ref 3), some (.int a), some (.int 4), some (.int i), some (.int 1), none, none] [] M v M' 0 0 := Ev.back 3 (fun n => rfl) H
    rw [if_neg (by decide)] at H
    have H : Ev none e 33 (if 4 = 5 then 206 else 210) [some (.ref 3), some (.int a), some (.int 4), some (.int i), some (.int 1), none, none] [] M v M' 0 0 := Ev.back 3 (fun n => rfl) H
    rw [if_neg (by decide)] at H
    have H : Ev none e 33 (if 0 = 0 then 231 else 218) [some (.ref 3), some (.int a), some (.int 4), some (.int i), some (.int 1), some (.int 0), none] [] M v M' 0 0 := Ev.back 4 (fun n => rfl) H
    rw [if_pos (by decide)] at H
    have H : Ev none e 33 (if 0 = 0 then 243 else 239) [some (.ref 3), some (.int a), some (.int 4), some (.int i), some (.int 1), some (.int 0), some (.int 0)] [] M v M' 0 0 := Ev.back 4 (fun n => rfl) H
    rw [if_pos (by decide)] at H
    have H : Ev none e 33 (if 0 = 0 then 248 else 254) [some (.ref 3), some (.int a), some (.int 4), some (.int i), some (.int 1), some (.int 0), some (.int 0)] [] M v M' 0 0 := Ev.back 2 (fun n => rfl) H
    rw [if_pos (by decide)] at H
    have H : Ev none e 33 (if 4 = 6 then 254 else 264) [some (.ref 3), some (.int a), some (.int 4), some (.int i), some (.int 1), some (.int 0), some (.int 0)] [] M v M' 0 0 := Ev.back 3 (fun n => rfl) H
    rw [if_neg (by decide)] at H
    have H : Ev none e 33 265 [some (.ref 3), some (.int a), some (.int 4), some (.int i), some (.int 1), some (.int 0), some (.int 0)] [.ref 3] M v M' 0 0 := Ev.back 1 (fun n => rfl) H
    have H : Ev none e 33 268 [some (.ref 3), some (.int a), some (.int 4), some (.int i), some (.int 1), some (.int 0), some (.int 0)] [.int (zI M 3 7)] M v M' 0 0 := Ev.back 1 (gs_3 rfl rfl (gf_i hS.1 qa_3 qi_3_7 rfl)) H
    have H : Ev none e 33 (if (zI M 3 7) = 59 then 279 else 273) [some (.ref 3), some (.int a), some (.int 4), some (.int i), some (.int 1), some (.int 0), some (.int 0)] [] M v M' 0 0 := Ev.back 2 (fun n => rfl) H
    by_cases h2 : (zI M 3 7) = 59
    · rw [if_pos h2] at H
      have H : Ev none e 33 280 [some (.ref 3), some (.int a), some (.int 4), some (.int i), some (.int 1), some (.int 0), some (.int 0)] [.ref 3] M v M' 0 0 := Ev.back 1 (fun n => rfl) H
      obtain ⟨e1, rfl⟩ := Ev.dpos rfl rfl H
      obtain ⟨vK3, MK3, K3, H⟩ := Ev.callb (fun n => gs_7 rfl rfl (show gCal (.invokevirtual 140) 3 (.ref 3 :: []) M = some (.inr (31, [some (.ref 3)], [])) from by show @cond (Option ((List Value × Mem) ⊕ (Nat × Lo × List Value))) (true && gRecv M (.ref 3) 3 && gRoom [] && true) (some (.inr (31, [some (.ref 3)], []))) none = _; rw [recv_s hS.1 qa_3 qo_3]; rfl)) H
      have K3 : Ev none e1 31 0 [some (.ref 3)] [] M vK3 MK3 0 0 := K3
      have HF := H
      exact Or.inr (Or.inl ⟨h1, h2, ⟨e1, vK3, MK3, rfl, K3, HF⟩⟩)
    · rw [if_neg h2] at H
      have H : Ev none e 33 275 [some (.ref 3), some (.int a), some (.int 4), some (.int i), some (.int 1), some (.int 0), some (.int 0)] [.int 1, .ref 3] M v M' 0 0 := Ev.back 2 (fun n => rfl) H
      obtain ⟨e1, rfl⟩ := Ev.dpos rfl rfl H
      obtain ⟨vK4, MK4, K4, H⟩ := Ev.callb (fun n => gs_7 rfl rfl (show gCal (.invokevirtual 68) 3 (.int 1 :: .ref 3 :: []) M = some (.inr (27, [some (.ref 3), some (.int 1)], [])) from by show @cond (Option ((List Value × Mem) ⊕ (Nat × Lo × List Value))) (true && gRecv M (.ref 3) 3 && gRoom [] && true) (some (.inr (27, [some (.ref 3), some (.int 1)], []))) none = _; rw [recv_s hS.1 qa_3 qo_3]; rfl)) H
      have K4 : Ev none e1 27 0 [some (.ref 3), some (.int 1)] [] M vK4 MK4 0 0 := K4
      have HF := H
      exact Or.inr (Or.inr (⟨h1, h2, ⟨e1, vK4, MK4, rfl, K4, HF⟩⟩))
theorem ln4_278 {e : Nat} {M M' : Mem} {v : Option Value} {a i y : Int32} {c5 c6 : Option Value} (hS : SQ M) (a_t : gNth sT (fR M 3 8) = some 28) (H : Ev none e 33 278 [some (.ref 3), some (.int a), some (.int 4), some (.int i), some (.int 1), c5, c6] [.int y] M v M' 0 0) : v = some (.int y) ∧ M' = M := by
  obtain ⟨z1, z2⟩ := Ev.retz rfl rfl H
  exact ⟨z1, z2⟩
theorem ln4_283 {e : Nat} {M M' : Mem} {v : Option Value} {a i : Int32} {c5 c6 : Option Value} (hS : SQ M) (a_t : gNth sT (fR M 3 8) = some 28) (H : Ev none e 33 283 [some (.ref 3), some (.int a), some (.int 4), some (.int i), some (.int 1), c5, c6] [] M v M' 0 0) : (0 ≤ i.toInt ∧ i.toInt < 16) ∧ v = some (.int 1) ∧ M' = (wF (wI M (fR M 3 8 + 5) i.toNatClampNeg (zI M (fR M 3 8) 9)) (fR M 3 8) 8 ((zI M (fR M 3 8) 8) + 1)) := by
  have H : Ev none e 33 284 [some (.ref 3), some (.int a), some (.int 4), some (.int i), some (.int 1), c5, c6] [.ref 3] M v M' 0 0 := Ev.back 1 (fun n => rfl) H
  have H : Ev none e 33 287 [some (.ref 3), some (.int a), some (.int 4), some (.int i), some (.int 1), c5, c6] [.ref (fR M 3 8)] M v M' 0 0 := Ev.back 1 (gs_3 rfl rfl (gf_n hS.1 qa_3 qn_3_8 (by decide) a_t rfl)) H
  have H : Ev none e 33 290 [some (.ref 3), some (.int a), some (.int 4), some (.int i), some (.int 1), c5, c6] [.ref (fR M 3 8 + 5)] M v M' 0 0 := Ev.back 1 (gs_3 rfl rfl (gf_x hS.1 a_t qo_28 (fx_t4 hS a_t) rfl)) H
  have H : Ev none e 33 292 [some (.ref 3), some (.int a), some (.int 4), some (.int i), some (.int 1), c5, c6] [.ref 3, .int i, .ref (fR M 3 8 + 5)] M v M' 0 0 := Ev.back 2 (fun n => rfl) H
  have H : Ev none e 33 295 [some (.ref 3), some (.int a), some (.int 4), some (.int i), some (.int 1), c5, c6] [.ref (fR M 3 8), .int i, .ref (fR M 3 8 + 5)] M v M' 0 0 := Ev.back 1 (gs_3 rfl rfl (gf_n hS.1 qa_3 qn_3_8 (by decide) a_t rfl)) H
  have H : Ev none e 33 298 [some (.ref 3), some (.int a), some (.int 4), some (.int i), some (.int 1), c5, c6] [.int (zI M (fR M 3 8) 9), .int i, .ref (fR M 3 8 + 5)] M v M' 0 0 := Ev.back 1 (gs_3 rfl rfl (gf_i hS.1 a_t qi_28_9 rfl)) H
  obtain ⟨b1, H⟩ := Ev.ias rfl rfl hS.1 (fx_g4 a_t) qw_33 H
  obtain ⟨N2, eN2⟩ : ∃ N, N = (wI M (fR M 3 8 + 5) i.toNatClampNeg (zI M (fR M 3 8) 9)) := ⟨_, rfl⟩
  have hN2 : SQ N2 := by rw [eN2]; exact hS.ki
  have H : Ev none e 33 299 [some (.ref 3), some (.int a), some (.int 4), some (.int i), some (.int 1), c5, c6] [] N2 v M' 0 0 := by rw [eN2]; exact H
  have H : Ev none e 33 300 [some (.ref 3), some (.int a), some (.int 4), some (.int i), some (.int 1), c5, c6] [.ref 3] N2 v M' 0 0 := Ev.back 1 (fun n => rfl) H
  have H : Ev none e 33 303 [some (.ref 3), some (.int a), some (.int 4), some (.int i), some (.int 1), c5, c6] [.ref (fR N2 3 8)] N2 v M' 0 0 := Ev.back 1 (gs_3 rfl rfl (gf_n hN2.1 qa_3 qn_3_8 (by decide) (by rw [show fR N2 3 8 = fR M 3 8 from by rw [eN2]; exact fR_wI]; exact a_t) rfl)) H
  rw [show fR N2 3 8 = fR M 3 8 from by rw [eN2]; exact fR_wI] at H
  have H : Ev none e 33 304 [some (.ref 3), some (.int a), some (.int 4), some (.int i), some (.int 1), c5, c6] [.ref (fR M 3 8), .ref (fR M 3 8)] N2 v M' 0 0 := Ev.back 1 (fun n => rfl) H
  have H : Ev none e 33 307 [some (.ref 3), some (.int a), some (.int 4), some (.int i), some (.int 1), c5, c6] [.int (zI N2 (fR M 3 8) 8), .ref (fR M 3 8)] N2 v M' 0 0 := Ev.back 1 (gs_3 rfl rfl (gf_i hN2.1 a_t qi_28_8 rfl)) H
  rw [show zI N2 (fR M 3 8) 8 = zI M (fR M 3 8) 8 from by rw [eN2]; exact fI_wI] at H
  have H : Ev none e 33 309 [some (.ref 3), some (.int a), some (.int 4), some (.int i), some (.int 1), c5, c6] [.int ((zI M (fR M 3 8) 8) + 1), .ref (fR M 3 8)] N2 v M' 0 0 := Ev.back 2 (fun n => rfl) H
  obtain ⟨N4, eN4⟩ : ∃ N, N = (wF N2 (fR M 3 8) 8 ((zI M (fR M 3 8) 8) + 1)) := ⟨_, rfl⟩
  have hN4 : SQ N4 := by rw [eN4]; exact hN2.kf
  have H : Ev none e 33 312 [some (.ref 3), some (.int a), some (.int 4), some (.int i), some (.int 1), c5, c6] [] N4 v M' 0 0 := by rw [eN4]; exact Ev.pfi rfl rfl rfl hN2.1 a_t qi_28_8 H
  have H : Ev none e 33 313 [some (.ref 3), some (.int a), some (.int 4), some (.int i), some (.int 1), c5, c6] [.int 1] N4 v M' 0 0 := Ev.back 1 (fun n => rfl) H
  obtain ⟨z1, z2⟩ := Ev.retz rfl rfl H
  subst eN2 eN4
  exact ⟨b1, z1, z2⟩
theorem ln5_44 {e : Nat} {M M' : Mem} {v : Option Value} {a : Int32} (hS : SQ M) (a_t : gNth sT (fR M 3 8) = some 28) (H : Ev none e 33 44 [some (.ref 3), some (.int a), some (.int 5), none, none, none, none] [] M v M' 0 0) : (16 ≤ (zI M (fR M 3 8) 8) ∧ (∃ e1 v1 M1, e = e1 + 1 ∧ Ev none e1 27 0 [some (.ref 3), some (.int 3)] [] M v1 M1 0 0 ∧ Ev none e 33 72 [some (.ref 3), some (.int a), some (.int 5), none, none, none, none] (v1.toList ++ []) M1 v M' 0 0)) ∨ (¬ (16 ≤ (zI M (fR M 3 8) 8)) ∧ ((zI M 3 10) &&& ((1 : Int32) <<< ((5 : Int32) &&& 31))) = 0 ∧ (0 ≤ (zI M (fR M 3 8) 8).toInt ∧ (zI M (fR M 3 8) 8).toInt < 16) ∧ (0 ≤ (zI M (fR M 3 8) 8).toInt ∧ (zI M (fR M 3 8) 8).toInt < 16) ∧ (0 ≤ (zI M (fR M 3 8) 8).toInt ∧ (zI M (fR M 3 8) 8).toInt < 16) ∧ (0 ≤ (zI M (fR M 3 8) 8).toInt ∧ (zI M (fR M 3 8) 8).toInt < 16) ∧ (0 ≤ (zI M (fR M 3 8) 8).toInt ∧ (zI M (fR M 3 8) 8).toInt < 16) ∧ (∃ e1 v1 M1, e = e1 + 1 ∧ Ev none e1 31 0 [some (.ref 3)] [] (wI (wI (wI (wI (wI M (fR M 3 8 + 1) ((zI M (fR M 3 8) 8).toNatClampNeg) 5) (fR M 3 8 + 2) ((zI M (fR M 3 8) 8).toNatClampNeg) 0) (fR M 3 8 + 3) ((zI M (fR M 3 8) 8).toNatClampNeg) 0) (fR M 3 8 + 4) ((zI M (fR M 3 8) 8).toNatClampNeg) (zI M (fR M 3 8) 9)) (fR M 3 8 + 5) ((zI M (fR M 3 8) 8).toNatClampNeg) (zI M (fR M 3 8) 9)) v1 M1 0 0 ∧ Ev none e 33 147 [some (.ref 3), some (.int a), some (.int 5), some (.int (zI M (fR M 3 8) 8)), none, none, none] (v1.toList ++ []) M1 v M' 0 0)) ∨ (¬ (16 ≤ (zI M (fR M 3 8) 8)) ∧ ¬ (((zI M 3 10) &&& ((1 : Int32) <<< ((5 : Int32) &&& 31))) = 0) ∧ (∃ e1 v1 M1, e = e1 + 1 ∧ Ev none e1 27 0 [some (.ref 3), some (.int 3)] [] M v1 M1 0 0 ∧ Ev none e 33 72 [some (.ref 3), some (.int a), some (.int 5), none, none, none, none] (v1.toList ++ []) M1 v M' 0 0)) := by
  have H : Ev none e 33 45 [some (.ref 3), some (.int a), some (.int 5), none, none, none, none] [.ref 3] M v M' 0 0 := Ev.back 1 (fun n => rfl) H
  have H : Ev none e 33 48 [some (.ref 3), some (.int a), some (.int 5), none, none, none, none] [.ref (fR M 3 8)] M v M' 0 0 := Ev.back 1 (gs_3 rfl rfl (gf_n hS.1 qa_3 qn_3_8 (by decide) a_t rfl)) H
  have H : Ev none e 33 51 [some (.ref 3), some (.int a), some (.int 5), none, none, none, none] [.int (zI M (fR M 3 8) 8)] M v M' 0 0 := Ev.back 1 (gs_3 rfl rfl (gf_i hS.1 a_t qi_28_8 rfl)) H
  have H : Ev none e 33 (if 16 ≤ (zI M (fR M 3 8) 8) then 67 else 56) [some (.ref 3), some (.int a), some (.int 5), none, none, none, none] [] M v M' 0 0 := Ev.back 2 (fun n => rfl) H
  by_cases h1 : 16 ≤ (zI M (fR M 3 8) 8)
  · rw [if_pos h1] at H
    have H : Ev none e 33 69 [some (.ref 3), some (.int a), some (.int 5), none, none, none, none] [.int 3, .ref 3] M v M' 0 0 := Ev.back 2 (fun n => rfl) H
    obtain ⟨e1, rfl⟩ := Ev.dpos rfl rfl H
    obtain ⟨vK2, MK2, K2, H⟩ := Ev.callb (fun n => gs_7 rfl rfl (show gCal (.invokevirtual 68) 3 (.int 3 :: .ref 3 :: []) M = some (.inr (27, [some (.ref 3), some (.int 3)], [])) from by show @cond (Option ((List Value × Mem) ⊕ (Nat × Lo × List Value))) (true && gRecv M (.ref 3) 3 && gRoom [] && true) (some (.inr (27, [some (.ref 3), some (.int 3)], []))) none = _; rw [recv_s hS.1 qa_3 qo_3]; rfl)) H
    have K2 : Ev none e1 27 0 [some (.ref 3), some (.int 3)] [] M vK2 MK2 0 0 := K2
    have HF := H
    exact Or.inl ⟨h1, ⟨e1, vK2, MK2, rfl, K2, HF⟩⟩
  · rw [if_neg h1] at H
    have H : Ev none e 33 57 [some (.ref 3), some (.int a), some (.int 5), none, none, none, none] [.ref 3] M v M' 0 0 := Ev.back 1 (fun n => rfl) H
    have H : Ev none e 33 60 [some (.ref 3), some (.int a), some (.int 5), none, none, none, none] [.int (zI M 3 10)] M v M' 0 0 := Ev.back 1 (gs_3 rfl rfl (gf_i hS.1 qa_3 qi_3_10 rfl)) H
    have H : Ev none e 33 (if ((zI M 3 10) &&& ((1 : Int32) <<< ((5 : Int32) &&& 31))) = 0 then 73 else 67) [some (.ref 3), some (.int a), some (.int 5), none, none, none, none] [] M v M' 0 0 := Ev.back 5 (fun n => rfl) H
    by_cases h3 : ((zI M 3 10) &&& ((1 : Int32) <<< ((5 : Int32) &&& 31))) = 0
    · rw [if_pos h3] at H
      have H : Ev none e 33 74 [some (.ref 3), some (.int a), some (.int 5), none, none, none, none] [.ref 3] M v M' 0 0 := Ev.back 1 (fun n => rfl) H
      have H : Ev none e 33 77 [some (.ref 3), some (.int a), some (.int 5), none, none, none, none] [.ref (fR M 3 8)] M v M' 0 0 := Ev.back 1 (gs_3 rfl rfl (gf_n hS.1 qa_3 qn_3_8 (by decide) a_t rfl)) H
      have H : Ev none e 33 80 [some (.ref 3), some (.int a), some (.int 5), none, none, none, none] [.int (zI M (fR M 3 8) 8)] M v M' 0 0 := Ev.back 1 (gs_3 rfl rfl (gf_i hS.1 a_t qi_28_8 rfl)) H
      have H : Ev none e 33 82 [some (.ref 3), some (.int a), some (.int 5), some (.int (zI M (fR M 3 8) 8)), none, none, none] [.ref 3] M v M' 0 0 := Ev.back 2 (fun n => rfl) H
      have H : Ev none e 33 85 [some (.ref 3), some (.int a), some (.int 5), some (.int (zI M (fR M 3 8) 8)), none, none, none] [.ref (fR M 3 8)] M v M' 0 0 := Ev.back 1 (gs_3 rfl rfl (gf_n hS.1 qa_3 qn_3_8 (by decide) a_t rfl)) H
      have H : Ev none e 33 88 [some (.ref 3), some (.int a), some (.int 5), some (.int (zI M (fR M 3 8) 8)), none, none, none] [.ref (fR M 3 8 + 1)] M v M' 0 0 := Ev.back 1 (gs_3 rfl rfl (gf_x hS.1 a_t qo_28 (fx_t0 hS a_t) rfl)) H
      have H : Ev none e 33 90 [some (.ref 3), some (.int a), some (.int 5), some (.int (zI M (fR M 3 8) 8)), none, none, none] [.int 5, .int (zI M (fR M 3 8) 8), .ref (fR M 3 8 + 1)] M v M' 0 0 := Ev.back 2 (fun n => rfl) H
      obtain ⟨b4, H⟩ := Ev.ias rfl rfl hS.1 (fx_g0 a_t) qw_29 H
      obtain ⟨N5, eN5⟩ : ∃ N, N = (wI M (fR M 3 8 + 1) ((zI M (fR M 3 8) 8).toNatClampNeg) 5) := ⟨_, rfl⟩
      have hN5 : SQ N5 := by rw [eN5]; exact hS.ki
      have H : Ev none e 33 91 [some (.ref 3), some (.int a), some (.int 5), some (.int (zI M (fR M 3 8) 8)), none, none, none] [] N5 v M' 0 0 := by rw [eN5]; exact H
      have H : Ev none e 33 92 [some (.ref 3), some (.int a), some (.int 5), some (.int (zI M (fR M 3 8) 8)), none, none, none] [.ref 3] N5 v M' 0 0 := Ev.back 1 (fun n => rfl) H
      have H : Ev none e 33 95 [some (.ref 3), some (.int a), some (.int 5), some (.int (zI M (fR M 3 8) 8)), none, none, none] [.ref (fR N5 3 8)] N5 v M' 0 0 := Ev.back 1 (gs_3 rfl rfl (gf_n hN5.1 qa_3 qn_3_8 (by decide) (by rw [show fR N5 3 8 = fR M 3 8 from by rw [eN5]; exact fR_wI]; exact a_t) rfl)) H
      rw [show fR N5 3 8 = fR M 3 8 from by rw [eN5]; exact fR_wI] at H
      have H : Ev none e 33 98 [some (.ref 3), some (.int a), some (.int 5), some (.int (zI M (fR M 3 8) 8)), none, none, none] [.ref (fR M 3 8 + 2)] N5 v M' 0 0 := Ev.back 1 (gs_3 rfl rfl (gf_x hN5.1 a_t qo_28 (fx_t1 hN5 a_t) rfl)) H
      have H : Ev none e 33 100 [some (.ref 3), some (.int a), some (.int 5), some (.int (zI M (fR M 3 8) 8)), none, none, none] [.int 0, .int (zI M (fR M 3 8) 8), .ref (fR M 3 8 + 2)] N5 v M' 0 0 := Ev.back 2 (fun n => rfl) H
      obtain ⟨b6, H⟩ := Ev.ias rfl rfl hN5.1 (fx_g1 a_t) qw_30 H
      obtain ⟨N7, eN7⟩ : ∃ N, N = (wI N5 (fR M 3 8 + 2) ((zI M (fR M 3 8) 8).toNatClampNeg) 0) := ⟨_, rfl⟩
      have hN7 : SQ N7 := by rw [eN7]; exact hN5.ki
      have H : Ev none e 33 101 [some (.ref 3), some (.int a), some (.int 5), some (.int (zI M (fR M 3 8) 8)), none, none, none] [] N7 v M' 0 0 := by rw [eN7]; exact H
      have H : Ev none e 33 102 [some (.ref 3), some (.int a), some (.int 5), some (.int (zI M (fR M 3 8) 8)), none, none, none] [.ref 3] N7 v M' 0 0 := Ev.back 1 (fun n => rfl) H
      have H : Ev none e 33 105 [some (.ref 3), some (.int a), some (.int 5), some (.int (zI M (fR M 3 8) 8)), none, none, none] [.ref (fR N7 3 8)] N7 v M' 0 0 := Ev.back 1 (gs_3 rfl rfl (gf_n hN7.1 qa_3 qn_3_8 (by decide) (by rw [(show fR N7 3 8 = fR N5 3 8 from by rw [eN7]; exact fR_wI).trans (show fR N5 3 8 = fR M 3 8 from by rw [eN5]; exact fR_wI)]; exact a_t) rfl)) H
      rw [(show fR N7 3 8 = fR N5 3 8 from by rw [eN7]; exact fR_wI).trans (show fR N5 3 8 = fR M 3 8 from by rw [eN5]; exact fR_wI)] at H
      have H : Ev none e 33 108 [some (.ref 3), some (.int a), some (.int 5), some (.int (zI M (fR M 3 8) 8)), none, none, none] [.ref (fR M 3 8 + 3)] N7 v M' 0 0 := Ev.back 1 (gs_3 rfl rfl (gf_x hN7.1 a_t qo_28 (fx_t2 hN7 a_t) rfl)) H
      have H : Ev none e 33 110 [some (.ref 3), some (.int a), some (.int 5), some (.int (zI M (fR M 3 8) 8)), none, none, none] [.int 0, .int (zI M (fR M 3 8) 8), .ref (fR M 3 8 + 3)] N7 v M' 0 0 := Ev.back 2 (fun n => rfl) H
      obtain ⟨b8, H⟩ := Ev.ias rfl rfl hN7.1 (fx_g2 a_t) qw_31 H
      obtain ⟨N9, eN9⟩ : ∃ N, N = (wI N7 (fR M 3 8 + 3) ((zI M (fR M 3 8) 8).toNatClampNeg) 0) := ⟨_, rfl⟩
      have hN9 : SQ N9 := by rw [eN9]; exact hN7.ki
      have H : Ev none e 33 111 [some (.ref 3), some (.int a), some (.int 5), some (.int (zI M (fR M 3 8) 8)), none, none, none] [] N9 v M' 0 0 := by rw [eN9]; exact H
      have H : Ev none e 33 112 [some (.ref 3), some (.int a), some (.int 5), some (.int (zI M (fR M 3 8) 8)), none, none, none] [.ref 3] N9 v M' 0 0 := Ev.back 1 (fun n => rfl) H
      have H : Ev none e 33 115 [some (.ref 3), some (.int a), some (.int 5), some (.int (zI M (fR M 3 8) 8)), none, none, none] [.ref (fR N9 3 8)] N9 v M' 0 0 := Ev.back 1 (gs_3 rfl rfl (gf_n hN9.1 qa_3 qn_3_8 (by decide) (by rw [((show fR N9 3 8 = fR N7 3 8 from by rw [eN9]; exact fR_wI).trans (show fR N7 3 8 = fR N5 3 8 from by rw [eN7]; exact fR_wI)).trans (show fR N5 3 8 = fR M 3 8 from by rw [eN5]; exact fR_wI)]; exact a_t) rfl)) H
      rw [((show fR N9 3 8 = fR N7 3 8 from by rw [eN9]; exact fR_wI).trans (show fR N7 3 8 = fR N5 3 8 from by rw [eN7]; exact fR_wI)).trans (show fR N5 3 8 = fR M 3 8 from by rw [eN5]; exact fR_wI)] at H
      have H : Ev none e 33 118 [some (.ref 3), some (.int a), some (.int 5), some (.int (zI M (fR M 3 8) 8)), none, none, none] [.ref (fR M 3 8 + 4)] N9 v M' 0 0 := Ev.back 1 (gs_3 rfl rfl (gf_x hN9.1 a_t qo_28 (fx_t3 hN9 a_t) rfl)) H
      have H : Ev none e 33 120 [some (.ref 3), some (.int a), some (.int 5), some (.int (zI M (fR M 3 8) 8)), none, none, none] [.ref 3, .int (zI M (fR M 3 8) 8), .ref (fR M 3 8 + 4)] N9 v M' 0 0 := Ev.back 2 (fun n => rfl) H
      have H : Ev none e 33 123 [some (.ref 3), some (.int a), some (.int 5), some (.int (zI M (fR M 3 8) 8)), none, none, none] [.ref (fR N9 3 8), .int (zI M (fR M 3 8) 8), .ref (fR M 3 8 + 4)] N9 v M' 0 0 := Ev.back 1 (gs_3 rfl rfl (gf_n hN9.1 qa_3 qn_3_8 (by decide) (by rw [((show fR N9 3 8 = fR N7 3 8 from by rw [eN9]; exact fR_wI).trans (show fR N7 3 8 = fR N5 3 8 from by rw [eN7]; exact fR_wI)).trans (show fR N5 3 8 = fR M 3 8 from by rw [eN5]; exact fR_wI)]; exact a_t) rfl)) H
      rw [((show fR N9 3 8 = fR N7 3 8 from by rw [eN9]; exact fR_wI).trans (show fR N7 3 8 = fR N5 3 8 from by rw [eN7]; exact fR_wI)).trans (show fR N5 3 8 = fR M 3 8 from by rw [eN5]; exact fR_wI)] at H
      have H : Ev none e 33 126 [some (.ref 3), some (.int a), some (.int 5), some (.int (zI M (fR M 3 8) 8)), none, none, none] [.int (zI N9 (fR M 3 8) 9), .int (zI M (fR M 3 8) 8), .ref (fR M 3 8 + 4)] N9 v M' 0 0 := Ev.back 1 (gs_3 rfl rfl (gf_i hN9.1 a_t qi_28_9 rfl)) H
      rw [((show zI N9 (fR M 3 8) 9 = zI N7 (fR M 3 8) 9 from by rw [eN9]; exact fI_wI).trans (show zI N7 (fR M 3 8) 9 = zI N5 (fR M 3 8) 9 from by rw [eN7]; exact fI_wI)).trans (show zI N5 (fR M 3 8) 9 = zI M (fR M 3 8) 9 from by rw [eN5]; exact fI_wI)] at H
      obtain ⟨b10, H⟩ := Ev.ias rfl rfl hN9.1 (fx_g3 a_t) qw_32 H
      obtain ⟨N11, eN11⟩ : ∃ N, N = (wI N9 (fR M 3 8 + 4) ((zI M (fR M 3 8) 8).toNatClampNeg) (zI M (fR M 3 8) 9)) := ⟨_, rfl⟩
      have hN11 : SQ N11 := by rw [eN11]; exact hN9.ki
      have H : Ev none e 33 127 [some (.ref 3), some (.int a), some (.int 5), some (.int (zI M (fR M 3 8) 8)), none, none, none] [] N11 v M' 0 0 := by rw [eN11]; exact H
      have H : Ev none e 33 128 [some (.ref 3), some (.int a), some (.int 5), some (.int (zI M (fR M 3 8) 8)), none, none, none] [.ref 3] N11 v M' 0 0 := Ev.back 1 (fun n => rfl) H
      have H : Ev none e 33 131 [some (.ref 3), some (.int a), some (.int 5), some (.int (zI M (fR M 3 8) 8)), none, none, none] [.ref (fR N11 3 8)] N11 v M' 0 0 := Ev.back 1 (gs_3 rfl rfl (gf_n hN11.1 qa_3 qn_3_8 (by decide) (by rw [(((show fR N11 3 8 = fR N9 3 8 from by rw [eN11]; exact fR_wI).trans (show fR N9 3 8 = fR N7 3 8 from by rw [eN9]; exact fR_wI)).trans (show fR N7 3 8 = fR N5 3 8 from by rw [eN7]; exact fR_wI)).trans (show fR N5 3 8 = fR M 3 8 from by rw [eN5]; exact fR_wI)]; exact a_t) rfl)) H
      rw [(((show fR N11 3 8 = fR N9 3 8 from by rw [eN11]; exact fR_wI).trans (show fR N9 3 8 = fR N7 3 8 from by rw [eN9]; exact fR_wI)).trans (show fR N7 3 8 = fR N5 3 8 from by rw [eN7]; exact fR_wI)).trans (show fR N5 3 8 = fR M 3 8 from by rw [eN5]; exact fR_wI)] at H
      have H : Ev none e 33 134 [some (.ref 3), some (.int a), some (.int 5), some (.int (zI M (fR M 3 8) 8)), none, none, none] [.ref (fR M 3 8 + 5)] N11 v M' 0 0 := Ev.back 1 (gs_3 rfl rfl (gf_x hN11.1 a_t qo_28 (fx_t4 hN11 a_t) rfl)) H
      have H : Ev none e 33 136 [some (.ref 3), some (.int a), some (.int 5), some (.int (zI M (fR M 3 8) 8)), none, none, none] [.ref 3, .int (zI M (fR M 3 8) 8), .ref (fR M 3 8 + 5)] N11 v M' 0 0 := Ev.back 2 (fun n => rfl) H
      have H : Ev none e 33 139 [some (.ref 3), some (.int a), some (.int 5), some (.int (zI M (fR M 3 8) 8)), none, none, none] [.ref (fR N11 3 8), .int (zI M (fR M 3 8) 8), .ref (fR M 3 8 + 5)] N11 v M' 0 0 := Ev.back 1 (gs_3 rfl rfl (gf_n hN11.1 qa_3 qn_3_8 (by decide) (by rw [(((show fR N11 3 8 = fR N9 3 8 from by rw [eN11]; exact fR_wI).trans (show fR N9 3 8 = fR N7 3 8 from by rw [eN9]; exact fR_wI)).trans (show fR N7 3 8 = fR N5 3 8 from by rw [eN7]; exact fR_wI)).trans (show fR N5 3 8 = fR M 3 8 from by rw [eN5]; exact fR_wI)]; exact a_t) rfl)) H
      rw [(((show fR N11 3 8 = fR N9 3 8 from by rw [eN11]; exact fR_wI).trans (show fR N9 3 8 = fR N7 3 8 from by rw [eN9]; exact fR_wI)).trans (show fR N7 3 8 = fR N5 3 8 from by rw [eN7]; exact fR_wI)).trans (show fR N5 3 8 = fR M 3 8 from by rw [eN5]; exact fR_wI)] at H
      have H : Ev none e 33 142 [some (.ref 3), some (.int a), some (.int 5), some (.int (zI M (fR M 3 8) 8)), none, none, none] [.int (zI N11 (fR M 3 8) 9), .int (zI M (fR M 3 8) 8), .ref (fR M 3 8 + 5)] N11 v M' 0 0 := Ev.back 1 (gs_3 rfl rfl (gf_i hN11.1 a_t qi_28_9 rfl)) H
      rw [(((show zI N11 (fR M 3 8) 9 = zI N9 (fR M 3 8) 9 from by rw [eN11]; exact fI_wI).trans (show zI N9 (fR M 3 8) 9 = zI N7 (fR M 3 8) 9 from by rw [eN9]; exact fI_wI)).trans (show zI N7 (fR M 3 8) 9 = zI N5 (fR M 3 8) 9 from by rw [eN7]; exact fI_wI)).trans (show zI N5 (fR M 3 8) 9 = zI M (fR M 3 8) 9 from by rw [eN5]; exact fI_wI)] at H
      obtain ⟨b12, H⟩ := Ev.ias rfl rfl hN11.1 (fx_g4 a_t) qw_33 H
      obtain ⟨N13, eN13⟩ : ∃ N, N = (wI N11 (fR M 3 8 + 5) ((zI M (fR M 3 8) 8).toNatClampNeg) (zI M (fR M 3 8) 9)) := ⟨_, rfl⟩
      have hN13 : SQ N13 := by rw [eN13]; exact hN11.ki
      have H : Ev none e 33 143 [some (.ref 3), some (.int a), some (.int 5), some (.int (zI M (fR M 3 8) 8)), none, none, none] [] N13 v M' 0 0 := by rw [eN13]; exact H
      have H : Ev none e 33 144 [some (.ref 3), some (.int a), some (.int 5), some (.int (zI M (fR M 3 8) 8)), none, none, none] [.ref 3] N13 v M' 0 0 := Ev.back 1 (fun n => rfl) H
      obtain ⟨e1, rfl⟩ := Ev.dpos rfl rfl H
      obtain ⟨vK14, MK14, K14, H⟩ := Ev.callb (fun n => gs_7 rfl rfl (show gCal (.invokevirtual 140) 3 (.ref 3 :: []) N13 = some (.inr (31, [some (.ref 3)], [])) from by show @cond (Option ((List Value × Mem) ⊕ (Nat × Lo × List Value))) (true && gRecv N13 (.ref 3) 3 && gRoom [] && true) (some (.inr (31, [some (.ref 3)], []))) none = _; rw [recv_s hN13.1 qa_3 qo_3]; rfl)) H
      have K14 : Ev none e1 31 0 [some (.ref 3)] [] N13 vK14 MK14 0 0 := K14
      have HF := H
      subst eN5 eN7 eN9 eN11 eN13
      exact Or.inr (Or.inl ⟨h1, h3, b4, b6, b8, b10, b12, ⟨e1, vK14, MK14, rfl, K14, HF⟩⟩)
    · rw [if_neg h3] at H
      have H : Ev none e 33 69 [some (.ref 3), some (.int a), some (.int 5), none, none, none, none] [.int 3, .ref 3] M v M' 0 0 := Ev.back 2 (fun n => rfl) H
      obtain ⟨e1, rfl⟩ := Ev.dpos rfl rfl H
      obtain ⟨vK15, MK15, K15, H⟩ := Ev.callb (fun n => gs_7 rfl rfl (show gCal (.invokevirtual 68) 3 (.int 3 :: .ref 3 :: []) M = some (.inr (27, [some (.ref 3), some (.int 3)], [])) from by show @cond (Option ((List Value × Mem) ⊕ (Nat × Lo × List Value))) (true && gRecv M (.ref 3) 3 && gRoom [] && true) (some (.inr (27, [some (.ref 3), some (.int 3)], []))) none = _; rw [recv_s hS.1 qa_3 qo_3]; rfl)) H
      have K15 : Ev none e1 27 0 [some (.ref 3), some (.int 3)] [] M vK15 MK15 0 0 := K15
      have HF := H
      exact Or.inr (Or.inr (⟨h1, h3, ⟨e1, vK15, MK15, rfl, K15, HF⟩⟩))
theorem ln5_72 {e : Nat} {M M' : Mem} {v : Option Value} {a y : Int32} (hS : SQ M) (a_t : gNth sT (fR M 3 8) = some 28) (H : Ev none e 33 72 [some (.ref 3), some (.int a), some (.int 5), none, none, none, none] [.int y] M v M' 0 0) : v = some (.int y) ∧ M' = M := by
  obtain ⟨z1, z2⟩ := Ev.retz rfl rfl H
  exact ⟨z1, z2⟩
theorem ln5_147 {e : Nat} {M M' : Mem} {v : Option Value} {a i : Int32} (hS : SQ M) (a_t : gNth sT (fR M 3 8) = some 28) (H : Ev none e 33 147 [some (.ref 3), some (.int a), some (.int 5), some (.int i), none, none, none] [] M v M' 0 0) : (∃ e1 v1 M1, e = e1 + 1 ∧ Ev none e1 34 0 [some (.ref 3), some (.int i), none] [] M v1 M1 0 0 ∧ Ev none e 33 163 [some (.ref 3), some (.int a), some (.int 5), some (.int i), none, none, none] (v1.toList ++ []) M1 v M' 0 0) := by
  have H : Ev none e 33 (if 5 = 6 then 178 else 153) [some (.ref 3), some (.int a), some (.int 5), some (.int i), none, none, none] [] M v M' 0 0 := Ev.back 3 (fun n => rfl) H
  rw [if_neg (by decide)] at H
  have H : Ev none e 33 (if 5 = 5 then 158 else 169) [some (.ref 3), some (.int a), some (.int 5), some (.int i), none, none, none] [] M v M' 0 0 := Ev.back 3 (fun n => rfl) H
  rw [if_pos (by decide)] at H
  have H : Ev none e 33 160 [some (.ref 3), some (.int a), some (.int 5), some (.int i), none, none, none] [.int i, .ref 3] M v M' 0 0 := Ev.back 2 (fun n => rfl) H
  obtain ⟨e1, rfl⟩ := Ev.dpos rfl rfl H
  obtain ⟨vK1, MK1, K1, H⟩ := Ev.callb (fun n => gs_7 rfl rfl (show gCal (.invokevirtual 143) 3 (.int i :: .ref 3 :: []) M = some (.inr (34, [some (.ref 3), some (.int i), none], [])) from by show @cond (Option ((List Value × Mem) ⊕ (Nat × Lo × List Value))) (true && gRecv M (.ref 3) 3 && gRoom [] && true) (some (.inr (34, [some (.ref 3), some (.int i), none], []))) none = _; rw [recv_s hS.1 qa_3 qo_3]; rfl)) H
  have K1 : Ev none e1 34 0 [some (.ref 3), some (.int i), none] [] M vK1 MK1 0 0 := K1
  have HF := H
  exact ⟨e1, vK1, MK1, rfl, K1, HF⟩
theorem ln5_163 {e : Nat} {M M' : Mem} {v : Option Value} {a i y : Int32} (hS : SQ M) (a_t : gNth sT (fR M 3 8) = some 28) (H : Ev none e 33 163 [some (.ref 3), some (.int a), some (.int 5), some (.int i), none, none, none] [.int y] M v M' 0 0) : (y = 0 ∧ v = some (.int 0) ∧ M' = M) ∨ (¬ (y = 0) ∧ (∃ e1 v1 M1, e = e1 + 1 ∧ Ev none e1 32 0 [some (.ref 3), some (.retAddr 12), none, none, none, none, none, none] [] M v1 M1 0 0 ∧ Ev none e 33 224 [some (.ref 3), some (.int a), some (.int 5), some (.int i), some (.int 1), some (.int 1), none] (v1.toList ++ []) M1 v M' 0 0)) := by
  have H : Ev none e 33 (if y = 0 then 182 else 166) [some (.ref 3), some (.int a), some (.int 5), some (.int i), none, none, none] [] M v M' 0 0 := Ev.back 1 (fun n => rfl) H
  by_cases h1 : y = 0
  · rw [if_pos h1] at H
    have H : Ev none e 33 (if 0 = 0 then 190 else 192) [some (.ref 3), some (.int a), some (.int 5), some (.int i), some (.int 0), none, none] [] M v M' 0 0 := Ev.back 4 (fun n => rfl) H
    rw [if_pos (by decide)] at H
    have H : Ev none e 33 191 [some (.ref 3), some (.int a), some (.int 5), some (.int i), some (.int 0), none, none] [.int 0] M v M' 0 0 := Ev.back 1 (fun n => rfl) H
    obtain ⟨z1, z2⟩ := Ev.retz rfl rfl H
    exact Or.inl ⟨h1, z1, z2⟩
  · rw [if_neg h1] at H
    have H : Ev none e 33 (if 1 = 0 then 190 else 192) [some (.ref 3), some (.int a), some (.int 5), some (.int i), some (.int 1), none, none] [] M v M' 0 0 := Ev.back 6 (fun n => rfl) H
    rw [if_neg (by decide)] at H
    have H : Ev none e 33 (if 5 = 0 then 206 else 196) [some (.ref 3), some (.int a), some (.int 5), some (.int i), some (.int 1), none, none] [] M v M' 0 0 := Ev.back 2 (fun n => rfl) H
    rw [if_neg (by decide)] at H
    have H : Ev none e 33 (if 5 = 1 then 206 else 201) [some (.ref 3), some (.int a), some (.int 5), some (.int i), some (.int 1), none, none] [] M v M' 0 0 := Ev.back 3 (fun n => rfl) H
    rw [if_neg (by decide)] at H
    have H : Ev none e 33 (if 5 = 5 then 206 else 210) [some (.ref 3), some (.int a), some (.int 5), some (.int i), some (.int 1), none, none] [] M v M' 0 0 := Ev.back 3 (fun n => rfl) H
    rw [if_pos (by decide)] at H
    have H : Ev none e 33 (if 1 = 0 then 231 else 218) [some (.ref 3), some (.int a), some (.int 5), some (.int i), some (.int 1), some (.int 1), none] [] M v M' 0 0 := Ev.back 5 (fun n => rfl) H
    rw [if_neg (by decide)] at H
    have H : Ev none e 33 221 [some (.ref 3), some (.int a), some (.int 5), some (.int i), some (.int 1), some (.int 1), none] [.retAddr 12, .ref 3] M v M' 0 0 := Ev.back 2 (fun n => rfl) H
    obtain ⟨e1, rfl⟩ := Ev.dpos rfl rfl H
    obtain ⟨vK2, MK2, K2, H⟩ := Ev.callb (fun n => gs_7 rfl rfl (show gCal (.invokevirtual 115) 3 (.retAddr 12 :: .ref 3 :: []) M = some (.inr (32, [some (.ref 3), some (.retAddr 12), none, none, none, none, none, none], [])) from by show @cond (Option ((List Value × Mem) ⊕ (Nat × Lo × List Value))) (true && gRecv M (.ref 3) 3 && gRoom [] && true) (some (.inr (32, [some (.ref 3), some (.retAddr 12), none, none, none, none, none, none], []))) none = _; rw [recv_s hS.1 qa_3 qo_3]; rfl)) H
    have K2 : Ev none e1 32 0 [some (.ref 3), some (.retAddr 12), none, none, none, none, none, none] [] M vK2 MK2 0 0 := K2
    have HF := H
    exact Or.inr (⟨h1, ⟨e1, vK2, MK2, rfl, K2, HF⟩⟩)
theorem ln5_224 {e : Nat} {M M' : Mem} {v : Option Value} {a i y : Int32} (hS : SQ M) (a_t : gNth sT (fR M 3 8) = some 28) (H : Ev none e 33 224 [some (.ref 3), some (.int a), some (.int 5), some (.int i), some (.int 1), some (.int 1), none] [.int y] M v M' 0 0) : (y = 0 ∧ (∃ e1 v1 M1, e = e1 + 1 ∧ Ev none e1 31 0 [some (.ref 3)] [] M v1 M1 0 0 ∧ Ev none e 33 243 [some (.ref 3), some (.int a), some (.int 5), some (.int i), some (.int 1), some (.int 1), some (.int 1)] (v1.toList ++ []) M1 v M' 0 0)) ∨ (¬ (y = 0) ∧ (zI M 3 7) = 59 ∧ (∃ e1 v1 M1, e = e1 + 1 ∧ Ev none e1 31 0 [some (.ref 3)] [] M v1 M1 0 0 ∧ Ev none e 33 283 [some (.ref 3), some (.int a), some (.int 5), some (.int i), some (.int 1), some (.int 1), some (.int 0)] (v1.toList ++ []) M1 v M' 0 0)) ∨ (¬ (y = 0) ∧ ¬ ((zI M 3 7) = 59) ∧ (∃ e1 v1 M1, e = e1 + 1 ∧ Ev none e1 27 0 [some (.ref 3), some (.int 1)] [] M v1 M1 0 0 ∧ Ev none e 33 278 [some (.ref 3), some (.int a), some (.int 5), some (.int i), some (.int 1), some (.int 1), some (.int 0)] (v1.toList ++ []) M1 v M' 0 0)) := by
  have H : Ev none e 33 (if y = 0 then 227 else 231) [some (.ref 3), some (.int a), some (.int 5), some (.int i), some (.int 1), some (.int 1), none] [] M v M' 0 0 := Ev.back 1 (fun n => rfl) H
  by_cases h1 : y = 0
  · rw [if_pos h1] at H
    have H : Ev none e 33 (if 1 = 0 then 243 else 239) [some (.ref 3), some (.int a), some (.int 5), some (.int i), some (.int 1), some (.int 1), some (.int 1)] [] M v M' 0 0 := Ev.back 5 (fun n => rfl) H
    rw [if_neg (by decide)] at H
    have H : Ev none e 33 240 [some (.ref 3), some (.int a), some (.int 5), some (.int i), some (.int 1), some (.int 1), some (.int 1)] [.ref 3] M v M' 0 0 := Ev.back 1 (fun n => rfl) H
    obtain ⟨e1, rfl⟩ := Ev.dpos rfl rfl H
    obtain ⟨vK2, MK2, K2, H⟩ := Ev.callb (fun n => gs_7 rfl rfl (show gCal (.invokevirtual 140) 3 (.ref 3 :: []) M = some (.inr (31, [some (.ref 3)], [])) from by show @cond (Option ((List Value × Mem) ⊕ (Nat × Lo × List Value))) (true && gRecv M (.ref 3) 3 && gRoom [] && true) (some (.inr (31, [some (.ref 3)], []))) none = _; rw [recv_s hS.1 qa_3 qo_3]; rfl)) H
    have K2 : Ev none e1 31 0 [some (.ref 3)] [] M vK2 MK2 0 0 := K2
    have HF := H
    exact Or.inl ⟨h1, ⟨e1, vK2, MK2, rfl, K2, HF⟩⟩
  · rw [if_neg h1] at H
    have H : Ev none e 33 (if 0 = 0 then 243 else 239) [some (.ref 3), some (.int a), some (.int 5), some (.int i), some (.int 1), some (.int 1), some (.int 0)] [] M v M' 0 0 := Ev.back 4 (fun n => rfl) H
    rw [if_pos (by decide)] at H
    have H : Ev none e 33 (if 0 = 0 then 248 else 254) [some (.ref 3), some (.int a), some (.int 5), some (.int i), some (.int 1), some (.int 1), some (.int 0)] [] M v M' 0 0 := Ev.back 2 (fun n => rfl) H
    rw [if_pos (by decide)] at H
    have H : Ev none e 33 (if 5 = 6 then 254 else 264) [some (.ref 3), some (.int a), some (.int 5), some (.int i), some (.int 1), some (.int 1), some (.int 0)] [] M v M' 0 0 := Ev.back 3 (fun n => rfl) H
    rw [if_neg (by decide)] at H
    have H : Ev none e 33 265 [some (.ref 3), some (.int a), some (.int 5), some (.int i), some (.int 1), some (.int 1), some (.int 0)] [.ref 3] M v M' 0 0 := Ev.back 1 (fun n => rfl) H
    have H : Ev none e 33 268 [some (.ref 3), some (.int a), some (.int 5), some (.int i), some (.int 1), some (.int 1), some (.int 0)] [.int (zI M 3 7)] M v M' 0 0 := Ev.back 1 (gs_3 rfl rfl (gf_i hS.1 qa_3 qi_3_7 rfl)) H
    have H : Ev none e 33 (if (zI M 3 7) = 59 then 279 else 273) [some (.ref 3), some (.int a), some (.int 5), some (.int i), some (.int 1), some (.int 1), some (.int 0)] [] M v M' 0 0 := Ev.back 2 (fun n => rfl) H
    by_cases h3 : (zI M 3 7) = 59
    · rw [if_pos h3] at H
      have H : Ev none e 33 280 [some (.ref 3), some (.int a), some (.int 5), some (.int i), some (.int 1), some (.int 1), some (.int 0)] [.ref 3] M v M' 0 0 := Ev.back 1 (fun n => rfl) H
      obtain ⟨e1, rfl⟩ := Ev.dpos rfl rfl H
      obtain ⟨vK4, MK4, K4, H⟩ := Ev.callb (fun n => gs_7 rfl rfl (show gCal (.invokevirtual 140) 3 (.ref 3 :: []) M = some (.inr (31, [some (.ref 3)], [])) from by show @cond (Option ((List Value × Mem) ⊕ (Nat × Lo × List Value))) (true && gRecv M (.ref 3) 3 && gRoom [] && true) (some (.inr (31, [some (.ref 3)], []))) none = _; rw [recv_s hS.1 qa_3 qo_3]; rfl)) H
      have K4 : Ev none e1 31 0 [some (.ref 3)] [] M vK4 MK4 0 0 := K4
      have HF := H
      exact Or.inr (Or.inl ⟨h1, h3, ⟨e1, vK4, MK4, rfl, K4, HF⟩⟩)
    · rw [if_neg h3] at H
      have H : Ev none e 33 275 [some (.ref 3), some (.int a), some (.int 5), some (.int i), some (.int 1), some (.int 1), some (.int 0)] [.int 1, .ref 3] M v M' 0 0 := Ev.back 2 (fun n => rfl) H
      obtain ⟨e1, rfl⟩ := Ev.dpos rfl rfl H
      obtain ⟨vK5, MK5, K5, H⟩ := Ev.callb (fun n => gs_7 rfl rfl (show gCal (.invokevirtual 68) 3 (.int 1 :: .ref 3 :: []) M = some (.inr (27, [some (.ref 3), some (.int 1)], [])) from by show @cond (Option ((List Value × Mem) ⊕ (Nat × Lo × List Value))) (true && gRecv M (.ref 3) 3 && gRoom [] && true) (some (.inr (27, [some (.ref 3), some (.int 1)], []))) none = _; rw [recv_s hS.1 qa_3 qo_3]; rfl)) H
      have K5 : Ev none e1 27 0 [some (.ref 3), some (.int 1)] [] M vK5 MK5 0 0 := K5
      have HF := H
      exact Or.inr (Or.inr (⟨h1, h3, ⟨e1, vK5, MK5, rfl, K5, HF⟩⟩))
theorem ln5_243 {e : Nat} {M M' : Mem} {v : Option Value} {a i : Int32} (hS : SQ M) (a_t : gNth sT (fR M 3 8) = some 28) (H : Ev none e 33 243 [some (.ref 3), some (.int a), some (.int 5), some (.int i), some (.int 1), some (.int 1), some (.int 1)] [] M v M' 0 0) : (∃ e1 v1 M1, e = e1 + 1 ∧ Ev none e1 36 0 [some (.ref 3), some (.int 1), none] [] M v1 M1 0 0 ∧ Ev none e 33 259 [some (.ref 3), some (.int a), some (.int 5), some (.int i), some (.int 1), some (.int 1), some (.int 1)] (v1.toList ++ []) M1 v M' 0 0) := by
  have H : Ev none e 33 (if 1 = 0 then 248 else 254) [some (.ref 3), some (.int a), some (.int 5), some (.int i), some (.int 1), some (.int 1), some (.int 1)] [] M v M' 0 0 := Ev.back 2 (fun n => rfl) H
  rw [if_neg (by decide)] at H
  have H : Ev none e 33 256 [some (.ref 3), some (.int a), some (.int 5), some (.int i), some (.int 1), some (.int 1), some (.int 1)] [.int 1, .ref 3] M v M' 0 0 := Ev.back 2 (fun n => rfl) H
  obtain ⟨e1, rfl⟩ := Ev.dpos rfl rfl H
  obtain ⟨vK1, MK1, K1, H⟩ := Ev.callb (fun n => gs_7 rfl rfl (show gCal (.invokevirtual 152) 3 (.int 1 :: .ref 3 :: []) M = some (.inr (36, [some (.ref 3), some (.int 1), none], [])) from by show @cond (Option ((List Value × Mem) ⊕ (Nat × Lo × List Value))) (true && gRecv M (.ref 3) 3 && gRoom [] && true) (some (.inr (36, [some (.ref 3), some (.int 1), none], []))) none = _; rw [recv_s hS.1 qa_3 qo_3]; rfl)) H
  have K1 : Ev none e1 36 0 [some (.ref 3), some (.int 1), none] [] M vK1 MK1 0 0 := K1
  have HF := H
  exact ⟨e1, vK1, MK1, rfl, K1, HF⟩
theorem ln5_259 {e : Nat} {M M' : Mem} {v : Option Value} {a i y : Int32} (hS : SQ M) (a_t : gNth sT (fR M 3 8) = some 28) (H : Ev none e 33 259 [some (.ref 3), some (.int a), some (.int 5), some (.int i), some (.int 1), some (.int 1), some (.int 1)] [.int y] M v M' 0 0) : (y = 0 ∧ v = some (.int 0) ∧ M' = M) ∨ (¬ (y = 0) ∧ (zI M 3 7) = 59 ∧ (∃ e1 v1 M1, e = e1 + 1 ∧ Ev none e1 31 0 [some (.ref 3)] [] M v1 M1 0 0 ∧ Ev none e 33 283 [some (.ref 3), some (.int a), some (.int 5), some (.int i), some (.int 1), some (.int 1), some (.int 1)] (v1.toList ++ []) M1 v M' 0 0)) ∨ (¬ (y = 0) ∧ ¬ ((zI M 3 7) = 59) ∧ (∃ e1 v1 M1, e = e1 + 1 ∧ Ev none e1 27 0 [some (.ref 3), some (.int 1)] [] M v1 M1 0 0 ∧ Ev none e 33 278 [some (.ref 3), some (.int a), some (.int 5), some (.int i), some (.int 1), some (.int 1), some (.int 1)] (v1.toList ++ []) M1 v M' 0 0)) := by
  have H : Ev none e 33 (if y = 0 then 262 else 264) [some (.ref 3), some (.int a), some (.int 5), some (.int i), some (.int 1), some (.int 1), some (.int 1)] [] M v M' 0 0 := Ev.back 1 (fun n => rfl) H
  by_cases h1 : y = 0
  · rw [if_pos h1] at H
    have H : Ev none e 33 263 [some (.ref 3), some (.int a), some (.int 5), some (.int i), some (.int 1), some (.int 1), some (.int 1)] [.int 0] M v M' 0 0 := Ev.back 1 (fun n => rfl) H
    obtain ⟨z1, z2⟩ := Ev.retz rfl rfl H
    exact Or.inl ⟨h1, z1, z2⟩
  · rw [if_neg h1] at H
    have H : Ev none e 33 265 [some (.ref 3), some (.int a), some (.int 5), some (.int i), some (.int 1), some (.int 1), some (.int 1)] [.ref 3] M v M' 0 0 := Ev.back 1 (fun n => rfl) H
    have H : Ev none e 33 268 [some (.ref 3), some (.int a), some (.int 5), some (.int i), some (.int 1), some (.int 1), some (.int 1)] [.int (zI M 3 7)] M v M' 0 0 := Ev.back 1 (gs_3 rfl rfl (gf_i hS.1 qa_3 qi_3_7 rfl)) H
    have H : Ev none e 33 (if (zI M 3 7) = 59 then 279 else 273) [some (.ref 3), some (.int a), some (.int 5), some (.int i), some (.int 1), some (.int 1), some (.int 1)] [] M v M' 0 0 := Ev.back 2 (fun n => rfl) H
    by_cases h2 : (zI M 3 7) = 59
    · rw [if_pos h2] at H
      have H : Ev none e 33 280 [some (.ref 3), some (.int a), some (.int 5), some (.int i), some (.int 1), some (.int 1), some (.int 1)] [.ref 3] M v M' 0 0 := Ev.back 1 (fun n => rfl) H
      obtain ⟨e1, rfl⟩ := Ev.dpos rfl rfl H
      obtain ⟨vK3, MK3, K3, H⟩ := Ev.callb (fun n => gs_7 rfl rfl (show gCal (.invokevirtual 140) 3 (.ref 3 :: []) M = some (.inr (31, [some (.ref 3)], [])) from by show @cond (Option ((List Value × Mem) ⊕ (Nat × Lo × List Value))) (true && gRecv M (.ref 3) 3 && gRoom [] && true) (some (.inr (31, [some (.ref 3)], []))) none = _; rw [recv_s hS.1 qa_3 qo_3]; rfl)) H
      have K3 : Ev none e1 31 0 [some (.ref 3)] [] M vK3 MK3 0 0 := K3
      have HF := H
      exact Or.inr (Or.inl ⟨h1, h2, ⟨e1, vK3, MK3, rfl, K3, HF⟩⟩)
    · rw [if_neg h2] at H
      have H : Ev none e 33 275 [some (.ref 3), some (.int a), some (.int 5), some (.int i), some (.int 1), some (.int 1), some (.int 1)] [.int 1, .ref 3] M v M' 0 0 := Ev.back 2 (fun n => rfl) H
      obtain ⟨e1, rfl⟩ := Ev.dpos rfl rfl H
      obtain ⟨vK4, MK4, K4, H⟩ := Ev.callb (fun n => gs_7 rfl rfl (show gCal (.invokevirtual 68) 3 (.int 1 :: .ref 3 :: []) M = some (.inr (27, [some (.ref 3), some (.int 1)], [])) from by show @cond (Option ((List Value × Mem) ⊕ (Nat × Lo × List Value))) (true && gRecv M (.ref 3) 3 && gRoom [] && true) (some (.inr (27, [some (.ref 3), some (.int 1)], []))) none = _; rw [recv_s hS.1 qa_3 qo_3]; rfl)) H
      have K4 : Ev none e1 27 0 [some (.ref 3), some (.int 1)] [] M vK4 MK4 0 0 := K4
      have HF := H
      exact Or.inr (Or.inr (⟨h1, h2, ⟨e1, vK4, MK4, rfl, K4, HF⟩⟩))
theorem ln5_278 {e : Nat} {M M' : Mem} {v : Option Value} {a i y : Int32} {c5 c6 : Option Value} (hS : SQ M) (a_t : gNth sT (fR M 3 8) = some 28) (H : Ev none e 33 278 [some (.ref 3), some (.int a), some (.int 5), some (.int i), some (.int 1), c5, c6] [.int y] M v M' 0 0) : v = some (.int y) ∧ M' = M := by
  obtain ⟨z1, z2⟩ := Ev.retz rfl rfl H
  exact ⟨z1, z2⟩
theorem ln5_283 {e : Nat} {M M' : Mem} {v : Option Value} {a i : Int32} {c5 c6 : Option Value} (hS : SQ M) (a_t : gNth sT (fR M 3 8) = some 28) (H : Ev none e 33 283 [some (.ref 3), some (.int a), some (.int 5), some (.int i), some (.int 1), c5, c6] [] M v M' 0 0) : (0 ≤ i.toInt ∧ i.toInt < 16) ∧ v = some (.int 1) ∧ M' = (wF (wI M (fR M 3 8 + 5) i.toNatClampNeg (zI M (fR M 3 8) 9)) (fR M 3 8) 8 ((zI M (fR M 3 8) 8) + 1)) := by
  have H : Ev none e 33 284 [some (.ref 3), some (.int a), some (.int 5), some (.int i), some (.int 1), c5, c6] [.ref 3] M v M' 0 0 := Ev.back 1 (fun n => rfl) H
  have H : Ev none e 33 287 [some (.ref 3), some (.int a), some (.int 5), some (.int i), some (.int 1), c5, c6] [.ref (fR M 3 8)] M v M' 0 0 := Ev.back 1 (gs_3 rfl rfl (gf_n hS.1 qa_3 qn_3_8 (by decide) a_t rfl)) H
  have H : Ev none e 33 290 [some (.ref 3), some (.int a), some (.int 5), some (.int i), some (.int 1), c5, c6] [.ref (fR M 3 8 + 5)] M v M' 0 0 := Ev.back 1 (gs_3 rfl rfl (gf_x hS.1 a_t qo_28 (fx_t4 hS a_t) rfl)) H
  have H : Ev none e 33 292 [some (.ref 3), some (.int a), some (.int 5), some (.int i), some (.int 1), c5, c6] [.ref 3, .int i, .ref (fR M 3 8 + 5)] M v M' 0 0 := Ev.back 2 (fun n => rfl) H
  have H : Ev none e 33 295 [some (.ref 3), some (.int a), some (.int 5), some (.int i), some (.int 1), c5, c6] [.ref (fR M 3 8), .int i, .ref (fR M 3 8 + 5)] M v M' 0 0 := Ev.back 1 (gs_3 rfl rfl (gf_n hS.1 qa_3 qn_3_8 (by decide) a_t rfl)) H
  have H : Ev none e 33 298 [some (.ref 3), some (.int a), some (.int 5), some (.int i), some (.int 1), c5, c6] [.int (zI M (fR M 3 8) 9), .int i, .ref (fR M 3 8 + 5)] M v M' 0 0 := Ev.back 1 (gs_3 rfl rfl (gf_i hS.1 a_t qi_28_9 rfl)) H
  obtain ⟨b1, H⟩ := Ev.ias rfl rfl hS.1 (fx_g4 a_t) qw_33 H
  obtain ⟨N2, eN2⟩ : ∃ N, N = (wI M (fR M 3 8 + 5) i.toNatClampNeg (zI M (fR M 3 8) 9)) := ⟨_, rfl⟩
  have hN2 : SQ N2 := by rw [eN2]; exact hS.ki
  have H : Ev none e 33 299 [some (.ref 3), some (.int a), some (.int 5), some (.int i), some (.int 1), c5, c6] [] N2 v M' 0 0 := by rw [eN2]; exact H
  have H : Ev none e 33 300 [some (.ref 3), some (.int a), some (.int 5), some (.int i), some (.int 1), c5, c6] [.ref 3] N2 v M' 0 0 := Ev.back 1 (fun n => rfl) H
  have H : Ev none e 33 303 [some (.ref 3), some (.int a), some (.int 5), some (.int i), some (.int 1), c5, c6] [.ref (fR N2 3 8)] N2 v M' 0 0 := Ev.back 1 (gs_3 rfl rfl (gf_n hN2.1 qa_3 qn_3_8 (by decide) (by rw [show fR N2 3 8 = fR M 3 8 from by rw [eN2]; exact fR_wI]; exact a_t) rfl)) H
  rw [show fR N2 3 8 = fR M 3 8 from by rw [eN2]; exact fR_wI] at H
  have H : Ev none e 33 304 [some (.ref 3), some (.int a), some (.int 5), some (.int i), some (.int 1), c5, c6] [.ref (fR M 3 8), .ref (fR M 3 8)] N2 v M' 0 0 := Ev.back 1 (fun n => rfl) H
  have H : Ev none e 33 307 [some (.ref 3), some (.int a), some (.int 5), some (.int i), some (.int 1), c5, c6] [.int (zI N2 (fR M 3 8) 8), .ref (fR M 3 8)] N2 v M' 0 0 := Ev.back 1 (gs_3 rfl rfl (gf_i hN2.1 a_t qi_28_8 rfl)) H
  rw [show zI N2 (fR M 3 8) 8 = zI M (fR M 3 8) 8 from by rw [eN2]; exact fI_wI] at H
  have H : Ev none e 33 309 [some (.ref 3), some (.int a), some (.int 5), some (.int i), some (.int 1), c5, c6] [.int ((zI M (fR M 3 8) 8) + 1), .ref (fR M 3 8)] N2 v M' 0 0 := Ev.back 2 (fun n => rfl) H
  obtain ⟨N4, eN4⟩ : ∃ N, N = (wF N2 (fR M 3 8) 8 ((zI M (fR M 3 8) 8) + 1)) := ⟨_, rfl⟩
  have hN4 : SQ N4 := by rw [eN4]; exact hN2.kf
  have H : Ev none e 33 312 [some (.ref 3), some (.int a), some (.int 5), some (.int i), some (.int 1), c5, c6] [] N4 v M' 0 0 := by rw [eN4]; exact Ev.pfi rfl rfl rfl hN2.1 a_t qi_28_8 H
  have H : Ev none e 33 313 [some (.ref 3), some (.int a), some (.int 5), some (.int i), some (.int 1), c5, c6] [.int 1] N4 v M' 0 0 := Ev.back 1 (fun n => rfl) H
  obtain ⟨z1, z2⟩ := Ev.retz rfl rfl H
  subst eN2 eN4
  exact ⟨b1, z1, z2⟩
theorem ln6_44 {e : Nat} {M M' : Mem} {v : Option Value} {a : Int32} (hS : SQ M) (a_t : gNth sT (fR M 3 8) = some 28) (H : Ev none e 33 44 [some (.ref 3), some (.int a), some (.int 6), none, none, none, none] [] M v M' 0 0) : (16 ≤ (zI M (fR M 3 8) 8) ∧ (∃ e1 v1 M1, e = e1 + 1 ∧ Ev none e1 27 0 [some (.ref 3), some (.int 3)] [] M v1 M1 0 0 ∧ Ev none e 33 72 [some (.ref 3), some (.int a), some (.int 6), none, none, none, none] (v1.toList ++ []) M1 v M' 0 0)) ∨ (¬ (16 ≤ (zI M (fR M 3 8) 8)) ∧ ((zI M 3 10) &&& ((1 : Int32) <<< ((6 : Int32) &&& 31))) = 0 ∧ (0 ≤ (zI M (fR M 3 8) 8).toInt ∧ (zI M (fR M 3 8) 8).toInt < 16) ∧ (0 ≤ (zI M (fR M 3 8) 8).toInt ∧ (zI M (fR M 3 8) 8).toInt < 16) ∧ (0 ≤ (zI M (fR M 3 8) 8).toInt ∧ (zI M (fR M 3 8) 8).toInt < 16) ∧ (0 ≤ (zI M (fR M 3 8) 8).toInt ∧ (zI M (fR M 3 8) 8).toInt < 16) ∧ (0 ≤ (zI M (fR M 3 8) 8).toInt ∧ (zI M (fR M 3 8) 8).toInt < 16) ∧ (∃ e1 v1 M1, e = e1 + 1 ∧ Ev none e1 31 0 [some (.ref 3)] [] (wI (wI (wI (wI (wI M (fR M 3 8 + 1) ((zI M (fR M 3 8) 8).toNatClampNeg) 6) (fR M 3 8 + 2) ((zI M (fR M 3 8) 8).toNatClampNeg) 0) (fR M 3 8 + 3) ((zI M (fR M 3 8) 8).toNatClampNeg) 0) (fR M 3 8 + 4) ((zI M (fR M 3 8) 8).toNatClampNeg) (zI M (fR M 3 8) 9)) (fR M 3 8 + 5) ((zI M (fR M 3 8) 8).toNatClampNeg) (zI M (fR M 3 8) 9)) v1 M1 0 0 ∧ Ev none e 33 147 [some (.ref 3), some (.int a), some (.int 6), some (.int (zI M (fR M 3 8) 8)), none, none, none] (v1.toList ++ []) M1 v M' 0 0)) ∨ (¬ (16 ≤ (zI M (fR M 3 8) 8)) ∧ ¬ (((zI M 3 10) &&& ((1 : Int32) <<< ((6 : Int32) &&& 31))) = 0) ∧ (∃ e1 v1 M1, e = e1 + 1 ∧ Ev none e1 27 0 [some (.ref 3), some (.int 3)] [] M v1 M1 0 0 ∧ Ev none e 33 72 [some (.ref 3), some (.int a), some (.int 6), none, none, none, none] (v1.toList ++ []) M1 v M' 0 0)) := by
  have H : Ev none e 33 45 [some (.ref 3), some (.int a), some (.int 6), none, none, none, none] [.ref 3] M v M' 0 0 := Ev.back 1 (fun n => rfl) H
  have H : Ev none e 33 48 [some (.ref 3), some (.int a), some (.int 6), none, none, none, none] [.ref (fR M 3 8)] M v M' 0 0 := Ev.back 1 (gs_3 rfl rfl (gf_n hS.1 qa_3 qn_3_8 (by decide) a_t rfl)) H
  have H : Ev none e 33 51 [some (.ref 3), some (.int a), some (.int 6), none, none, none, none] [.int (zI M (fR M 3 8) 8)] M v M' 0 0 := Ev.back 1 (gs_3 rfl rfl (gf_i hS.1 a_t qi_28_8 rfl)) H
  have H : Ev none e 33 (if 16 ≤ (zI M (fR M 3 8) 8) then 67 else 56) [some (.ref 3), some (.int a), some (.int 6), none, none, none, none] [] M v M' 0 0 := Ev.back 2 (fun n => rfl) H
  by_cases h1 : 16 ≤ (zI M (fR M 3 8) 8)
  · rw [if_pos h1] at H
    have H : Ev none e 33 69 [some (.ref 3), some (.int a), some (.int 6), none, none, none, none] [.int 3, .ref 3] M v M' 0 0 := Ev.back 2 (fun n => rfl) H
    obtain ⟨e1, rfl⟩ := Ev.dpos rfl rfl H
    obtain ⟨vK2, MK2, K2, H⟩ := Ev.callb (fun n => gs_7 rfl rfl (show gCal (.invokevirtual 68) 3 (.int 3 :: .ref 3 :: []) M = some (.inr (27, [some (.ref 3), some (.int 3)], [])) from by show @cond (Option ((List Value × Mem) ⊕ (Nat × Lo × List Value))) (true && gRecv M (.ref 3) 3 && gRoom [] && true) (some (.inr (27, [some (.ref 3), some (.int 3)], []))) none = _; rw [recv_s hS.1 qa_3 qo_3]; rfl)) H
    have K2 : Ev none e1 27 0 [some (.ref 3), some (.int 3)] [] M vK2 MK2 0 0 := K2
    have HF := H
    exact Or.inl ⟨h1, ⟨e1, vK2, MK2, rfl, K2, HF⟩⟩
  · rw [if_neg h1] at H
    have H : Ev none e 33 57 [some (.ref 3), some (.int a), some (.int 6), none, none, none, none] [.ref 3] M v M' 0 0 := Ev.back 1 (fun n => rfl) H
    have H : Ev none e 33 60 [some (.ref 3), some (.int a), some (.int 6), none, none, none, none] [.int (zI M 3 10)] M v M' 0 0 := Ev.back 1 (gs_3 rfl rfl (gf_i hS.1 qa_3 qi_3_10 rfl)) H
    have H : Ev none e 33 (if ((zI M 3 10) &&& ((1 : Int32) <<< ((6 : Int32) &&& 31))) = 0 then 73 else 67) [some (.ref 3), some (.int a), some (.int 6), none, none, none, none] [] M v M' 0 0 := Ev.back 5 (fun n => rfl) H
    by_cases h3 : ((zI M 3 10) &&& ((1 : Int32) <<< ((6 : Int32) &&& 31))) = 0
    · rw [if_pos h3] at H
      have H : Ev none e 33 74 [some (.ref 3), some (.int a), some (.int 6), none, none, none, none] [.ref 3] M v M' 0 0 := Ev.back 1 (fun n => rfl) H
      have H : Ev none e 33 77 [some (.ref 3), some (.int a), some (.int 6), none, none, none, none] [.ref (fR M 3 8)] M v M' 0 0 := Ev.back 1 (gs_3 rfl rfl (gf_n hS.1 qa_3 qn_3_8 (by decide) a_t rfl)) H
      have H : Ev none e 33 80 [some (.ref 3), some (.int a), some (.int 6), none, none, none, none] [.int (zI M (fR M 3 8) 8)] M v M' 0 0 := Ev.back 1 (gs_3 rfl rfl (gf_i hS.1 a_t qi_28_8 rfl)) H
      have H : Ev none e 33 82 [some (.ref 3), some (.int a), some (.int 6), some (.int (zI M (fR M 3 8) 8)), none, none, none] [.ref 3] M v M' 0 0 := Ev.back 2 (fun n => rfl) H
      have H : Ev none e 33 85 [some (.ref 3), some (.int a), some (.int 6), some (.int (zI M (fR M 3 8) 8)), none, none, none] [.ref (fR M 3 8)] M v M' 0 0 := Ev.back 1 (gs_3 rfl rfl (gf_n hS.1 qa_3 qn_3_8 (by decide) a_t rfl)) H
      have H : Ev none e 33 88 [some (.ref 3), some (.int a), some (.int 6), some (.int (zI M (fR M 3 8) 8)), none, none, none] [.ref (fR M 3 8 + 1)] M v M' 0 0 := Ev.back 1 (gs_3 rfl rfl (gf_x hS.1 a_t qo_28 (fx_t0 hS a_t) rfl)) H
      have H : Ev none e 33 90 [some (.ref 3), some (.int a), some (.int 6), some (.int (zI M (fR M 3 8) 8)), none, none, none] [.int 6, .int (zI M (fR M 3 8) 8), .ref (fR M 3 8 + 1)] M v M' 0 0 := Ev.back 2 (fun n => rfl) H
      obtain ⟨b4, H⟩ := Ev.ias rfl rfl hS.1 (fx_g0 a_t) qw_29 H
      obtain ⟨N5, eN5⟩ : ∃ N, N = (wI M (fR M 3 8 + 1) ((zI M (fR M 3 8) 8).toNatClampNeg) 6) := ⟨_, rfl⟩
      have hN5 : SQ N5 := by rw [eN5]; exact hS.ki
      have H : Ev none e 33 91 [some (.ref 3), some (.int a), some (.int 6), some (.int (zI M (fR M 3 8) 8)), none, none, none] [] N5 v M' 0 0 := by rw [eN5]; exact H
      have H : Ev none e 33 92 [some (.ref 3), some (.int a), some (.int 6), some (.int (zI M (fR M 3 8) 8)), none, none, none] [.ref 3] N5 v M' 0 0 := Ev.back 1 (fun n => rfl) H
      have H : Ev none e 33 95 [some (.ref 3), some (.int a), some (.int 6), some (.int (zI M (fR M 3 8) 8)), none, none, none] [.ref (fR N5 3 8)] N5 v M' 0 0 := Ev.back 1 (gs_3 rfl rfl (gf_n hN5.1 qa_3 qn_3_8 (by decide) (by rw [show fR N5 3 8 = fR M 3 8 from by rw [eN5]; exact fR_wI]; exact a_t) rfl)) H
      rw [show fR N5 3 8 = fR M 3 8 from by rw [eN5]; exact fR_wI] at H
      have H : Ev none e 33 98 [some (.ref 3), some (.int a), some (.int 6), some (.int (zI M (fR M 3 8) 8)), none, none, none] [.ref (fR M 3 8 + 2)] N5 v M' 0 0 := Ev.back 1 (gs_3 rfl rfl (gf_x hN5.1 a_t qo_28 (fx_t1 hN5 a_t) rfl)) H
      have H : Ev none e 33 100 [some (.ref 3), some (.int a), some (.int 6), some (.int (zI M (fR M 3 8) 8)), none, none, none] [.int 0, .int (zI M (fR M 3 8) 8), .ref (fR M 3 8 + 2)] N5 v M' 0 0 := Ev.back 2 (fun n => rfl) H
      obtain ⟨b6, H⟩ := Ev.ias rfl rfl hN5.1 (fx_g1 a_t) qw_30 H
      obtain ⟨N7, eN7⟩ : ∃ N, N = (wI N5 (fR M 3 8 + 2) ((zI M (fR M 3 8) 8).toNatClampNeg) 0) := ⟨_, rfl⟩
      have hN7 : SQ N7 := by rw [eN7]; exact hN5.ki
      have H : Ev none e 33 101 [some (.ref 3), some (.int a), some (.int 6), some (.int (zI M (fR M 3 8) 8)), none, none, none] [] N7 v M' 0 0 := by rw [eN7]; exact H
      have H : Ev none e 33 102 [some (.ref 3), some (.int a), some (.int 6), some (.int (zI M (fR M 3 8) 8)), none, none, none] [.ref 3] N7 v M' 0 0 := Ev.back 1 (fun n => rfl) H
      have H : Ev none e 33 105 [some (.ref 3), some (.int a), some (.int 6), some (.int (zI M (fR M 3 8) 8)), none, none, none] [.ref (fR N7 3 8)] N7 v M' 0 0 := Ev.back 1 (gs_3 rfl rfl (gf_n hN7.1 qa_3 qn_3_8 (by decide) (by rw [(show fR N7 3 8 = fR N5 3 8 from by rw [eN7]; exact fR_wI).trans (show fR N5 3 8 = fR M 3 8 from by rw [eN5]; exact fR_wI)]; exact a_t) rfl)) H
      rw [(show fR N7 3 8 = fR N5 3 8 from by rw [eN7]; exact fR_wI).trans (show fR N5 3 8 = fR M 3 8 from by rw [eN5]; exact fR_wI)] at H
      have H : Ev none e 33 108 [some (.ref 3), some (.int a), some (.int 6), some (.int (zI M (fR M 3 8) 8)), none, none, none] [.ref (fR M 3 8 + 3)] N7 v M' 0 0 := Ev.back 1 (gs_3 rfl rfl (gf_x hN7.1 a_t qo_28 (fx_t2 hN7 a_t) rfl)) H
      have H : Ev none e 33 110 [some (.ref 3), some (.int a), some (.int 6), some (.int (zI M (fR M 3 8) 8)), none, none, none] [.int 0, .int (zI M (fR M 3 8) 8), .ref (fR M 3 8 + 3)] N7 v M' 0 0 := Ev.back 2 (fun n => rfl) H
      obtain ⟨b8, H⟩ := Ev.ias rfl rfl hN7.1 (fx_g2 a_t) qw_31 H
      obtain ⟨N9, eN9⟩ : ∃ N, N = (wI N7 (fR M 3 8 + 3) ((zI M (fR M 3 8) 8).toNatClampNeg) 0) := ⟨_, rfl⟩
      have hN9 : SQ N9 := by rw [eN9]; exact hN7.ki
      have H : Ev none e 33 111 [some (.ref 3), some (.int a), some (.int 6), some (.int (zI M (fR M 3 8) 8)), none, none, none] [] N9 v M' 0 0 := by rw [eN9]; exact H
      have H : Ev none e 33 112 [some (.ref 3), some (.int a), some (.int 6), some (.int (zI M (fR M 3 8) 8)), none, none, none] [.ref 3] N9 v M' 0 0 := Ev.back 1 (fun n => rfl) H
      have H : Ev none e 33 115 [some (.ref 3), some (.int a), some (.int 6), some (.int (zI M (fR M 3 8) 8)), none, none, none] [.ref (fR N9 3 8)] N9 v M' 0 0 := Ev.back 1 (gs_3 rfl rfl (gf_n hN9.1 qa_3 qn_3_8 (by decide) (by rw [((show fR N9 3 8 = fR N7 3 8 from by rw [eN9]; exact fR_wI).trans (show fR N7 3 8 = fR N5 3 8 from by rw [eN7]; exact fR_wI)).trans (show fR N5 3 8 = fR M 3 8 from by rw [eN5]; exact fR_wI)]; exact a_t) rfl)) H
      rw [((show fR N9 3 8 = fR N7 3 8 from by rw [eN9]; exact fR_wI).trans (show fR N7 3 8 = fR N5 3 8 from by rw [eN7]; exact fR_wI)).trans (show fR N5 3 8 = fR M 3 8 from by rw [eN5]; exact fR_wI)] at H
      have H : Ev none e 33 118 [some (.ref 3), some (.int a), some (.int 6), some (.int (zI M (fR M 3 8) 8)), none, none, none] [.ref (fR M 3 8 + 4)] N9 v M' 0 0 := Ev.back 1 (gs_3 rfl rfl (gf_x hN9.1 a_t qo_28 (fx_t3 hN9 a_t) rfl)) H
      have H : Ev none e 33 120 [some (.ref 3), some (.int a), some (.int 6), some (.int (zI M (fR M 3 8) 8)), none, none, none] [.ref 3, .int (zI M (fR M 3 8) 8), .ref (fR M 3 8 + 4)] N9 v M' 0 0 := Ev.back 2 (fun n => rfl) H
      have H : Ev none e 33 123 [some (.ref 3), some (.int a), some (.int 6), some (.int (zI M (fR M 3 8) 8)), none, none, none] [.ref (fR N9 3 8), .int (zI M (fR M 3 8) 8), .ref (fR M 3 8 + 4)] N9 v M' 0 0 := Ev.back 1 (gs_3 rfl rfl (gf_n hN9.1 qa_3 qn_3_8 (by decide) (by rw [((show fR N9 3 8 = fR N7 3 8 from by rw [eN9]; exact fR_wI).trans (show fR N7 3 8 = fR N5 3 8 from by rw [eN7]; exact fR_wI)).trans (show fR N5 3 8 = fR M 3 8 from by rw [eN5]; exact fR_wI)]; exact a_t) rfl)) H
      rw [((show fR N9 3 8 = fR N7 3 8 from by rw [eN9]; exact fR_wI).trans (show fR N7 3 8 = fR N5 3 8 from by rw [eN7]; exact fR_wI)).trans (show fR N5 3 8 = fR M 3 8 from by rw [eN5]; exact fR_wI)] at H
      have H : Ev none e 33 126 [some (.ref 3), some (.int a), some (.int 6), some (.int (zI M (fR M 3 8) 8)), none, none, none] [.int (zI N9 (fR M 3 8) 9), .int (zI M (fR M 3 8) 8), .ref (fR M 3 8 + 4)] N9 v M' 0 0 := Ev.back 1 (gs_3 rfl rfl (gf_i hN9.1 a_t qi_28_9 rfl)) H
      rw [((show zI N9 (fR M 3 8) 9 = zI N7 (fR M 3 8) 9 from by rw [eN9]; exact fI_wI).trans (show zI N7 (fR M 3 8) 9 = zI N5 (fR M 3 8) 9 from by rw [eN7]; exact fI_wI)).trans (show zI N5 (fR M 3 8) 9 = zI M (fR M 3 8) 9 from by rw [eN5]; exact fI_wI)] at H
      obtain ⟨b10, H⟩ := Ev.ias rfl rfl hN9.1 (fx_g3 a_t) qw_32 H
      obtain ⟨N11, eN11⟩ : ∃ N, N = (wI N9 (fR M 3 8 + 4) ((zI M (fR M 3 8) 8).toNatClampNeg) (zI M (fR M 3 8) 9)) := ⟨_, rfl⟩
      have hN11 : SQ N11 := by rw [eN11]; exact hN9.ki
      have H : Ev none e 33 127 [some (.ref 3), some (.int a), some (.int 6), some (.int (zI M (fR M 3 8) 8)), none, none, none] [] N11 v M' 0 0 := by rw [eN11]; exact H
      have H : Ev none e 33 128 [some (.ref 3), some (.int a), some (.int 6), some (.int (zI M (fR M 3 8) 8)), none, none, none] [.ref 3] N11 v M' 0 0 := Ev.back 1 (fun n => rfl) H
      have H : Ev none e 33 131 [some (.ref 3), some (.int a), some (.int 6), some (.int (zI M (fR M 3 8) 8)), none, none, none] [.ref (fR N11 3 8)] N11 v M' 0 0 := Ev.back 1 (gs_3 rfl rfl (gf_n hN11.1 qa_3 qn_3_8 (by decide) (by rw [(((show fR N11 3 8 = fR N9 3 8 from by rw [eN11]; exact fR_wI).trans (show fR N9 3 8 = fR N7 3 8 from by rw [eN9]; exact fR_wI)).trans (show fR N7 3 8 = fR N5 3 8 from by rw [eN7]; exact fR_wI)).trans (show fR N5 3 8 = fR M 3 8 from by rw [eN5]; exact fR_wI)]; exact a_t) rfl)) H
      rw [(((show fR N11 3 8 = fR N9 3 8 from by rw [eN11]; exact fR_wI).trans (show fR N9 3 8 = fR N7 3 8 from by rw [eN9]; exact fR_wI)).trans (show fR N7 3 8 = fR N5 3 8 from by rw [eN7]; exact fR_wI)).trans (show fR N5 3 8 = fR M 3 8 from by rw [eN5]; exact fR_wI)] at H
      have H : Ev none e 33 134 [some (.ref 3), some (.int a), some (.int 6), some (.int (zI M (fR M 3 8) 8)), none, none, none] [.ref (fR M 3 8 + 5)] N11 v M' 0 0 := Ev.back 1 (gs_3 rfl rfl (gf_x hN11.1 a_t qo_28 (fx_t4 hN11 a_t) rfl)) H
      have H : Ev none e 33 136 [some (.ref 3), some (.int a), some (.int 6), some (.int (zI M (fR M 3 8) 8)), none, none, none] [.ref 3, .int (zI M (fR M 3 8) 8), .ref (fR M 3 8 + 5)] N11 v M' 0 0 := Ev.back 2 (fun n => rfl) H
      have H : Ev none e 33 139 [some (.ref 3), some (.int a), some (.int 6), some (.int (zI M (fR M 3 8) 8)), none, none, none] [.ref (fR N11 3 8), .int (zI M (fR M 3 8) 8), .ref (fR M 3 8 + 5)] N11 v M' 0 0 := Ev.back 1 (gs_3 rfl rfl (gf_n hN11.1 qa_3 qn_3_8 (by decide) (by rw [(((show fR N11 3 8 = fR N9 3 8 from by rw [eN11]; exact fR_wI).trans (show fR N9 3 8 = fR N7 3 8 from by rw [eN9]; exact fR_wI)).trans (show fR N7 3 8 = fR N5 3 8 from by rw [eN7]; exact fR_wI)).trans (show fR N5 3 8 = fR M 3 8 from by rw [eN5]; exact fR_wI)]; exact a_t) rfl)) H
      rw [(((show fR N11 3 8 = fR N9 3 8 from by rw [eN11]; exact fR_wI).trans (show fR N9 3 8 = fR N7 3 8 from by rw [eN9]; exact fR_wI)).trans (show fR N7 3 8 = fR N5 3 8 from by rw [eN7]; exact fR_wI)).trans (show fR N5 3 8 = fR M 3 8 from by rw [eN5]; exact fR_wI)] at H
      have H : Ev none e 33 142 [some (.ref 3), some (.int a), some (.int 6), some (.int (zI M (fR M 3 8) 8)), none, none, none] [.int (zI N11 (fR M 3 8) 9), .int (zI M (fR M 3 8) 8), .ref (fR M 3 8 + 5)] N11 v M' 0 0 := Ev.back 1 (gs_3 rfl rfl (gf_i hN11.1 a_t qi_28_9 rfl)) H
      rw [(((show zI N11 (fR M 3 8) 9 = zI N9 (fR M 3 8) 9 from by rw [eN11]; exact fI_wI).trans (show zI N9 (fR M 3 8) 9 = zI N7 (fR M 3 8) 9 from by rw [eN9]; exact fI_wI)).trans (show zI N7 (fR M 3 8) 9 = zI N5 (fR M 3 8) 9 from by rw [eN7]; exact fI_wI)).trans (show zI N5 (fR M 3 8) 9 = zI M (fR M 3 8) 9 from by rw [eN5]; exact fI_wI)] at H
      obtain ⟨b12, H⟩ := Ev.ias rfl rfl hN11.1 (fx_g4 a_t) qw_33 H
      obtain ⟨N13, eN13⟩ : ∃ N, N = (wI N11 (fR M 3 8 + 5) ((zI M (fR M 3 8) 8).toNatClampNeg) (zI M (fR M 3 8) 9)) := ⟨_, rfl⟩
      have hN13 : SQ N13 := by rw [eN13]; exact hN11.ki
      have H : Ev none e 33 143 [some (.ref 3), some (.int a), some (.int 6), some (.int (zI M (fR M 3 8) 8)), none, none, none] [] N13 v M' 0 0 := by rw [eN13]; exact H
      have H : Ev none e 33 144 [some (.ref 3), some (.int a), some (.int 6), some (.int (zI M (fR M 3 8) 8)), none, none, none] [.ref 3] N13 v M' 0 0 := Ev.back 1 (fun n => rfl) H
      obtain ⟨e1, rfl⟩ := Ev.dpos rfl rfl H
      obtain ⟨vK14, MK14, K14, H⟩ := Ev.callb (fun n => gs_7 rfl rfl (show gCal (.invokevirtual 140) 3 (.ref 3 :: []) N13 = some (.inr (31, [some (.ref 3)], [])) from by show @cond (Option ((List Value × Mem) ⊕ (Nat × Lo × List Value))) (true && gRecv N13 (.ref 3) 3 && gRoom [] && true) (some (.inr (31, [some (.ref 3)], []))) none = _; rw [recv_s hN13.1 qa_3 qo_3]; rfl)) H
      have K14 : Ev none e1 31 0 [some (.ref 3)] [] N13 vK14 MK14 0 0 := K14
      have HF := H
      subst eN5 eN7 eN9 eN11 eN13
      exact Or.inr (Or.inl ⟨h1, h3, b4, b6, b8, b10, b12, ⟨e1, vK14, MK14, rfl, K14, HF⟩⟩)
    · rw [if_neg h3] at H
      have H : Ev none e 33 69 [some (.ref 3), some (.int a), some (.int 6), none, none, none, none] [.int 3, .ref 3] M v M' 0 0 := Ev.back 2 (fun n => rfl) H
      obtain ⟨e1, rfl⟩ := Ev.dpos rfl rfl H
      obtain ⟨vK15, MK15, K15, H⟩ := Ev.callb (fun n => gs_7 rfl rfl (show gCal (.invokevirtual 68) 3 (.int 3 :: .ref 3 :: []) M = some (.inr (27, [some (.ref 3), some (.int 3)], [])) from by show @cond (Option ((List Value × Mem) ⊕ (Nat × Lo × List Value))) (true && gRecv M (.ref 3) 3 && gRoom [] && true) (some (.inr (27, [some (.ref 3), some (.int 3)], []))) none = _; rw [recv_s hS.1 qa_3 qo_3]; rfl)) H
      have K15 : Ev none e1 27 0 [some (.ref 3), some (.int 3)] [] M vK15 MK15 0 0 := K15
      have HF := H
      exact Or.inr (Or.inr (⟨h1, h3, ⟨e1, vK15, MK15, rfl, K15, HF⟩⟩))
theorem ln6_72 {e : Nat} {M M' : Mem} {v : Option Value} {a y : Int32} (hS : SQ M) (a_t : gNth sT (fR M 3 8) = some 28) (H : Ev none e 33 72 [some (.ref 3), some (.int a), some (.int 6), none, none, none, none] [.int y] M v M' 0 0) : v = some (.int y) ∧ M' = M := by
  obtain ⟨z1, z2⟩ := Ev.retz rfl rfl H
  exact ⟨z1, z2⟩
theorem ln6_147 {e : Nat} {M M' : Mem} {v : Option Value} {a i : Int32} (hS : SQ M) (a_t : gNth sT (fR M 3 8) = some 28) (H : Ev none e 33 147 [some (.ref 3), some (.int a), some (.int 6), some (.int i), none, none, none] [] M v M' 0 0) : (∃ e1 v1 M1, e = e1 + 1 ∧ Ev none e1 36 0 [some (.ref 3), some (.int 1), none] [] M v1 M1 0 0 ∧ Ev none e 33 259 [some (.ref 3), some (.int a), some (.int 6), some (.int i), some (.int 1), some (.int 0), some (.int 0)] (v1.toList ++ []) M1 v M' 0 0) := by
  have H : Ev none e 33 (if 6 = 6 then 178 else 153) [some (.ref 3), some (.int a), some (.int 6), some (.int i), none, none, none] [] M v M' 0 0 := Ev.back 3 (fun n => rfl) H
  rw [if_pos (by decide)] at H
  have H : Ev none e 33 (if 1 = 0 then 190 else 192) [some (.ref 3), some (.int a), some (.int 6), some (.int i), some (.int 1), none, none] [] M v M' 0 0 := Ev.back 5 (fun n => rfl) H
  rw [if_neg (by decide)] at H
  have H : Ev none e 33 (if 6 = 0 then 206 else 196) [some (.ref 3), some (.int a), some (.int 6), some (.int i), some (.int 1), none, none] [] M v M' 0 0 := Ev.back 2 (fun n => rfl) H
  rw [if_neg (by decide)] at H
  have H : Ev none e 33 (if 6 = 1 then 206 else 201) [some (.ref 3), some (.int a), some (.int 6), some (.int i), some (.int 1), none, none] [] M v M' 0 0 := Ev.back 3 (fun n => rfl) H
  rw [if_neg (by decide)] at H
  have H : Ev none e 33 (if 6 = 5 then 206 else 210) [some (.ref 3), some (.int a), some (.int 6), some (.int i), some (.int 1), none, none] [] M v M' 0 0 := Ev.back 3 (fun n => rfl) H
  rw [if_neg (by decide)] at H
  have H : Ev none e 33 (if 0 = 0 then 231 else 218) [some (.ref 3), some (.int a), some (.int 6), some (.int i), some (.int 1), some (.int 0), none] [] M v M' 0 0 := Ev.back 4 (fun n => rfl) H
  rw [if_pos (by decide)] at H
  have H : Ev none e 33 (if 0 = 0 then 243 else 239) [some (.ref 3), some (.int a), some (.int 6), some (.int i), some (.int 1), some (.int 0), some (.int 0)] [] M v M' 0 0 := Ev.back 4 (fun n => rfl) H
  rw [if_pos (by decide)] at H
  have H : Ev none e 33 (if 0 = 0 then 248 else 254) [some (.ref 3), some (.int a), some (.int 6), some (.int i), some (.int 1), some (.int 0), some (.int 0)] [] M v M' 0 0 := Ev.back 2 (fun n => rfl) H
  rw [if_pos (by decide)] at H
  have H : Ev none e 33 (if 6 = 6 then 254 else 264) [some (.ref 3), some (.int a), some (.int 6), some (.int i), some (.int 1), some (.int 0), some (.int 0)] [] M v M' 0 0 := Ev.back 3 (fun n => rfl) H
  rw [if_pos (by decide)] at H
  have H : Ev none e 33 256 [some (.ref 3), some (.int a), some (.int 6), some (.int i), some (.int 1), some (.int 0), some (.int 0)] [.int 1, .ref 3] M v M' 0 0 := Ev.back 2 (fun n => rfl) H
  obtain ⟨e1, rfl⟩ := Ev.dpos rfl rfl H
  obtain ⟨vK1, MK1, K1, H⟩ := Ev.callb (fun n => gs_7 rfl rfl (show gCal (.invokevirtual 152) 3 (.int 1 :: .ref 3 :: []) M = some (.inr (36, [some (.ref 3), some (.int 1), none], [])) from by show @cond (Option ((List Value × Mem) ⊕ (Nat × Lo × List Value))) (true && gRecv M (.ref 3) 3 && gRoom [] && true) (some (.inr (36, [some (.ref 3), some (.int 1), none], []))) none = _; rw [recv_s hS.1 qa_3 qo_3]; rfl)) H
  have K1 : Ev none e1 36 0 [some (.ref 3), some (.int 1), none] [] M vK1 MK1 0 0 := K1
  have HF := H
  exact ⟨e1, vK1, MK1, rfl, K1, HF⟩
theorem ln6_259 {e : Nat} {M M' : Mem} {v : Option Value} {a i y : Int32} (hS : SQ M) (a_t : gNth sT (fR M 3 8) = some 28) (H : Ev none e 33 259 [some (.ref 3), some (.int a), some (.int 6), some (.int i), some (.int 1), some (.int 0), some (.int 0)] [.int y] M v M' 0 0) : (y = 0 ∧ v = some (.int 0) ∧ M' = M) ∨ (¬ (y = 0) ∧ (zI M 3 7) = 59 ∧ (∃ e1 v1 M1, e = e1 + 1 ∧ Ev none e1 31 0 [some (.ref 3)] [] M v1 M1 0 0 ∧ Ev none e 33 283 [some (.ref 3), some (.int a), some (.int 6), some (.int i), some (.int 1), some (.int 0), some (.int 0)] (v1.toList ++ []) M1 v M' 0 0)) ∨ (¬ (y = 0) ∧ ¬ ((zI M 3 7) = 59) ∧ (∃ e1 v1 M1, e = e1 + 1 ∧ Ev none e1 27 0 [some (.ref 3), some (.int 1)] [] M v1 M1 0 0 ∧ Ev none e 33 278 [some (.ref 3), some (.int a), some (.int 6), some (.int i), some (.int 1), some (.int 0), some (.int 0)] (v1.toList ++ []) M1 v M' 0 0)) := by
  have H : Ev none e 33 (if y = 0 then 262 else 264) [some (.ref 3), some (.int a), some (.int 6), some (.int i), some (.int 1), some (.int 0), some (.int 0)] [] M v M' 0 0 := Ev.back 1 (fun n => rfl) H
  by_cases h1 : y = 0
  · rw [if_pos h1] at H
    have H : Ev none e 33 263 [some (.ref 3), some (.int a), some (.int 6), some (.int i), some (.int 1), some (.int 0), some (.int 0)] [.int 0] M v M' 0 0 := Ev.back 1 (fun n => rfl) H
    obtain ⟨z1, z2⟩ := Ev.retz rfl rfl H
    exact Or.inl ⟨h1, z1, z2⟩
  · rw [if_neg h1] at H
    have H : Ev none e 33 265 [some (.ref 3), some (.int a), some (.int 6), some (.int i), some (.int 1), some (.int 0), some (.int 0)] [.ref 3] M v M' 0 0 := Ev.back 1 (fun n => rfl) H
    have H : Ev none e 33 268 [some (.ref 3), some (.int a), some (.int 6), some (.int i), some (.int 1), some (.int 0), some (.int 0)] [.int (zI M 3 7)] M v M' 0 0 := Ev.back 1 (gs_3 rfl rfl (gf_i hS.1 qa_3 qi_3_7 rfl)) H
    have H : Ev none e 33 (if (zI M 3 7) = 59 then 279 else 273) [some (.ref 3), some (.int a), some (.int 6), some (.int i), some (.int 1), some (.int 0), some (.int 0)] [] M v M' 0 0 := Ev.back 2 (fun n => rfl) H
    by_cases h2 : (zI M 3 7) = 59
    · rw [if_pos h2] at H
      have H : Ev none e 33 280 [some (.ref 3), some (.int a), some (.int 6), some (.int i), some (.int 1), some (.int 0), some (.int 0)] [.ref 3] M v M' 0 0 := Ev.back 1 (fun n => rfl) H
      obtain ⟨e1, rfl⟩ := Ev.dpos rfl rfl H
      obtain ⟨vK3, MK3, K3, H⟩ := Ev.callb (fun n => gs_7 rfl rfl (show gCal (.invokevirtual 140) 3 (.ref 3 :: []) M = some (.inr (31, [some (.ref 3)], [])) from by show @cond (Option ((List Value × Mem) ⊕ (Nat × Lo × List Value))) (true && gRecv M (.ref 3) 3 && gRoom [] && true) (some (.inr (31, [some (.ref 3)], []))) none = _; rw [recv_s hS.1 qa_3 qo_3]; rfl)) H
      have K3 : Ev none e1 31 0 [some (.ref 3)] [] M vK3 MK3 0 0 := K3
      have HF := H
      exact Or.inr (Or.inl ⟨h1, h2, ⟨e1, vK3, MK3, rfl, K3, HF⟩⟩)
    · rw [if_neg h2] at H
      have H : Ev none e 33 275 [some (.ref 3), some (.int a), some (.int 6), some (.int i), some (.int 1), some (.int 0), some (.int 0)] [.int 1, .ref 3] M v M' 0 0 := Ev.back 2 (fun n => rfl) H
      obtain ⟨e1, rfl⟩ := Ev.dpos rfl rfl H
      obtain ⟨vK4, MK4, K4, H⟩ := Ev.callb (fun n => gs_7 rfl rfl (show gCal (.invokevirtual 68) 3 (.int 1 :: .ref 3 :: []) M = some (.inr (27, [some (.ref 3), some (.int 1)], [])) from by show @cond (Option ((List Value × Mem) ⊕ (Nat × Lo × List Value))) (true && gRecv M (.ref 3) 3 && gRoom [] && true) (some (.inr (27, [some (.ref 3), some (.int 1)], []))) none = _; rw [recv_s hS.1 qa_3 qo_3]; rfl)) H
      have K4 : Ev none e1 27 0 [some (.ref 3), some (.int 1)] [] M vK4 MK4 0 0 := K4
      have HF := H
      exact Or.inr (Or.inr (⟨h1, h2, ⟨e1, vK4, MK4, rfl, K4, HF⟩⟩))
theorem ln6_278 {e : Nat} {M M' : Mem} {v : Option Value} {a i y : Int32} {c5 c6 : Option Value} (hS : SQ M) (a_t : gNth sT (fR M 3 8) = some 28) (H : Ev none e 33 278 [some (.ref 3), some (.int a), some (.int 6), some (.int i), some (.int 1), c5, c6] [.int y] M v M' 0 0) : v = some (.int y) ∧ M' = M := by
  obtain ⟨z1, z2⟩ := Ev.retz rfl rfl H
  exact ⟨z1, z2⟩
theorem ln6_283 {e : Nat} {M M' : Mem} {v : Option Value} {a i : Int32} {c5 c6 : Option Value} (hS : SQ M) (a_t : gNth sT (fR M 3 8) = some 28) (H : Ev none e 33 283 [some (.ref 3), some (.int a), some (.int 6), some (.int i), some (.int 1), c5, c6] [] M v M' 0 0) : (0 ≤ i.toInt ∧ i.toInt < 16) ∧ v = some (.int 1) ∧ M' = (wF (wI M (fR M 3 8 + 5) i.toNatClampNeg (zI M (fR M 3 8) 9)) (fR M 3 8) 8 ((zI M (fR M 3 8) 8) + 1)) := by
  have H : Ev none e 33 284 [some (.ref 3), some (.int a), some (.int 6), some (.int i), some (.int 1), c5, c6] [.ref 3] M v M' 0 0 := Ev.back 1 (fun n => rfl) H
  have H : Ev none e 33 287 [some (.ref 3), some (.int a), some (.int 6), some (.int i), some (.int 1), c5, c6] [.ref (fR M 3 8)] M v M' 0 0 := Ev.back 1 (gs_3 rfl rfl (gf_n hS.1 qa_3 qn_3_8 (by decide) a_t rfl)) H
  have H : Ev none e 33 290 [some (.ref 3), some (.int a), some (.int 6), some (.int i), some (.int 1), c5, c6] [.ref (fR M 3 8 + 5)] M v M' 0 0 := Ev.back 1 (gs_3 rfl rfl (gf_x hS.1 a_t qo_28 (fx_t4 hS a_t) rfl)) H
  have H : Ev none e 33 292 [some (.ref 3), some (.int a), some (.int 6), some (.int i), some (.int 1), c5, c6] [.ref 3, .int i, .ref (fR M 3 8 + 5)] M v M' 0 0 := Ev.back 2 (fun n => rfl) H
  have H : Ev none e 33 295 [some (.ref 3), some (.int a), some (.int 6), some (.int i), some (.int 1), c5, c6] [.ref (fR M 3 8), .int i, .ref (fR M 3 8 + 5)] M v M' 0 0 := Ev.back 1 (gs_3 rfl rfl (gf_n hS.1 qa_3 qn_3_8 (by decide) a_t rfl)) H
  have H : Ev none e 33 298 [some (.ref 3), some (.int a), some (.int 6), some (.int i), some (.int 1), c5, c6] [.int (zI M (fR M 3 8) 9), .int i, .ref (fR M 3 8 + 5)] M v M' 0 0 := Ev.back 1 (gs_3 rfl rfl (gf_i hS.1 a_t qi_28_9 rfl)) H
  obtain ⟨b1, H⟩ := Ev.ias rfl rfl hS.1 (fx_g4 a_t) qw_33 H
  obtain ⟨N2, eN2⟩ : ∃ N, N = (wI M (fR M 3 8 + 5) i.toNatClampNeg (zI M (fR M 3 8) 9)) := ⟨_, rfl⟩
  have hN2 : SQ N2 := by rw [eN2]; exact hS.ki
  have H : Ev none e 33 299 [some (.ref 3), some (.int a), some (.int 6), some (.int i), some (.int 1), c5, c6] [] N2 v M' 0 0 := by rw [eN2]; exact H
  have H : Ev none e 33 300 [some (.ref 3), some (.int a), some (.int 6), some (.int i), some (.int 1), c5, c6] [.ref 3] N2 v M' 0 0 := Ev.back 1 (fun n => rfl) H
  have H : Ev none e 33 303 [some (.ref 3), some (.int a), some (.int 6), some (.int i), some (.int 1), c5, c6] [.ref (fR N2 3 8)] N2 v M' 0 0 := Ev.back 1 (gs_3 rfl rfl (gf_n hN2.1 qa_3 qn_3_8 (by decide) (by rw [show fR N2 3 8 = fR M 3 8 from by rw [eN2]; exact fR_wI]; exact a_t) rfl)) H
  rw [show fR N2 3 8 = fR M 3 8 from by rw [eN2]; exact fR_wI] at H
  have H : Ev none e 33 304 [some (.ref 3), some (.int a), some (.int 6), some (.int i), some (.int 1), c5, c6] [.ref (fR M 3 8), .ref (fR M 3 8)] N2 v M' 0 0 := Ev.back 1 (fun n => rfl) H
  have H : Ev none e 33 307 [some (.ref 3), some (.int a), some (.int 6), some (.int i), some (.int 1), c5, c6] [.int (zI N2 (fR M 3 8) 8), .ref (fR M 3 8)] N2 v M' 0 0 := Ev.back 1 (gs_3 rfl rfl (gf_i hN2.1 a_t qi_28_8 rfl)) H
  rw [show zI N2 (fR M 3 8) 8 = zI M (fR M 3 8) 8 from by rw [eN2]; exact fI_wI] at H
  have H : Ev none e 33 309 [some (.ref 3), some (.int a), some (.int 6), some (.int i), some (.int 1), c5, c6] [.int ((zI M (fR M 3 8) 8) + 1), .ref (fR M 3 8)] N2 v M' 0 0 := Ev.back 2 (fun n => rfl) H
  obtain ⟨N4, eN4⟩ : ∃ N, N = (wF N2 (fR M 3 8) 8 ((zI M (fR M 3 8) 8) + 1)) := ⟨_, rfl⟩
  have hN4 : SQ N4 := by rw [eN4]; exact hN2.kf
  have H : Ev none e 33 312 [some (.ref 3), some (.int a), some (.int 6), some (.int i), some (.int 1), c5, c6] [] N4 v M' 0 0 := by rw [eN4]; exact Ev.pfi rfl rfl rfl hN2.1 a_t qi_28_8 H
  have H : Ev none e 33 313 [some (.ref 3), some (.int a), some (.int 6), some (.int i), some (.int 1), c5, c6] [.int 1] N4 v M' 0 0 := Ev.back 1 (fun n => rfl) H
  obtain ⟨z1, z2⟩ := Ev.retz rfl rfl H
  subst eN2 eN4
  exact ⟨b1, z1, z2⟩
theorem ln7_44 {e : Nat} {M M' : Mem} {v : Option Value} {a : Int32} (hS : SQ M) (a_t : gNth sT (fR M 3 8) = some 28) (H : Ev none e 33 44 [some (.ref 3), some (.int a), some (.int 7), none, none, none, none] [] M v M' 0 0) : (16 ≤ (zI M (fR M 3 8) 8) ∧ (∃ e1 v1 M1, e = e1 + 1 ∧ Ev none e1 27 0 [some (.ref 3), some (.int 3)] [] M v1 M1 0 0 ∧ Ev none e 33 72 [some (.ref 3), some (.int a), some (.int 7), none, none, none, none] (v1.toList ++ []) M1 v M' 0 0)) ∨ (¬ (16 ≤ (zI M (fR M 3 8) 8)) ∧ ((zI M 3 10) &&& ((1 : Int32) <<< ((7 : Int32) &&& 31))) = 0 ∧ (0 ≤ (zI M (fR M 3 8) 8).toInt ∧ (zI M (fR M 3 8) 8).toInt < 16) ∧ (0 ≤ (zI M (fR M 3 8) 8).toInt ∧ (zI M (fR M 3 8) 8).toInt < 16) ∧ (0 ≤ (zI M (fR M 3 8) 8).toInt ∧ (zI M (fR M 3 8) 8).toInt < 16) ∧ (0 ≤ (zI M (fR M 3 8) 8).toInt ∧ (zI M (fR M 3 8) 8).toInt < 16) ∧ (0 ≤ (zI M (fR M 3 8) 8).toInt ∧ (zI M (fR M 3 8) 8).toInt < 16) ∧ (∃ e1 v1 M1, e = e1 + 1 ∧ Ev none e1 31 0 [some (.ref 3)] [] (wI (wI (wI (wI (wI M (fR M 3 8 + 1) ((zI M (fR M 3 8) 8).toNatClampNeg) 7) (fR M 3 8 + 2) ((zI M (fR M 3 8) 8).toNatClampNeg) 0) (fR M 3 8 + 3) ((zI M (fR M 3 8) 8).toNatClampNeg) 0) (fR M 3 8 + 4) ((zI M (fR M 3 8) 8).toNatClampNeg) (zI M (fR M 3 8) 9)) (fR M 3 8 + 5) ((zI M (fR M 3 8) 8).toNatClampNeg) (zI M (fR M 3 8) 9)) v1 M1 0 0 ∧ Ev none e 33 147 [some (.ref 3), some (.int a), some (.int 7), some (.int (zI M (fR M 3 8) 8)), none, none, none] (v1.toList ++ []) M1 v M' 0 0)) ∨ (¬ (16 ≤ (zI M (fR M 3 8) 8)) ∧ ¬ (((zI M 3 10) &&& ((1 : Int32) <<< ((7 : Int32) &&& 31))) = 0) ∧ (∃ e1 v1 M1, e = e1 + 1 ∧ Ev none e1 27 0 [some (.ref 3), some (.int 3)] [] M v1 M1 0 0 ∧ Ev none e 33 72 [some (.ref 3), some (.int a), some (.int 7), none, none, none, none] (v1.toList ++ []) M1 v M' 0 0)) := by
  have H : Ev none e 33 45 [some (.ref 3), some (.int a), some (.int 7), none, none, none, none] [.ref 3] M v M' 0 0 := Ev.back 1 (fun n => rfl) H
  have H : Ev none e 33 48 [some (.ref 3), some (.int a), some (.int 7), none, none, none, none] [.ref (fR M 3 8)] M v M' 0 0 := Ev.back 1 (gs_3 rfl rfl (gf_n hS.1 qa_3 qn_3_8 (by decide) a_t rfl)) H
  have H : Ev none e 33 51 [some (.ref 3), some (.int a), some (.int 7), none, none, none, none] [.int (zI M (fR M 3 8) 8)] M v M' 0 0 := Ev.back 1 (gs_3 rfl rfl (gf_i hS.1 a_t qi_28_8 rfl)) H
  have H : Ev none e 33 (if 16 ≤ (zI M (fR M 3 8) 8) then 67 else 56) [some (.ref 3), some (.int a), some (.int 7), none, none, none, none] [] M v M' 0 0 := Ev.back 2 (fun n => rfl) H
  by_cases h1 : 16 ≤ (zI M (fR M 3 8) 8)
  · rw [if_pos h1] at H
    have H : Ev none e 33 69 [some (.ref 3), some (.int a), some (.int 7), none, none, none, none] [.int 3, .ref 3] M v M' 0 0 := Ev.back 2 (fun n => rfl) H
    obtain ⟨e1, rfl⟩ := Ev.dpos rfl rfl H
    obtain ⟨vK2, MK2, K2, H⟩ := Ev.callb (fun n => gs_7 rfl rfl (show gCal (.invokevirtual 68) 3 (.int 3 :: .ref 3 :: []) M = some (.inr (27, [some (.ref 3), some (.int 3)], [])) from by show @cond (Option ((List Value × Mem) ⊕ (Nat × Lo × List Value))) (true && gRecv M (.ref 3) 3 && gRoom [] && true) (some (.inr (27, [some (.ref 3), some (.int 3)], []))) none = _; rw [recv_s hS.1 qa_3 qo_3]; rfl)) H
    have K2 : Ev none e1 27 0 [some (.ref 3), some (.int 3)] [] M vK2 MK2 0 0 := K2
    have HF := H
    exact Or.inl ⟨h1, ⟨e1, vK2, MK2, rfl, K2, HF⟩⟩
  · rw [if_neg h1] at H
    have H : Ev none e 33 57 [some (.ref 3), some (.int a), some (.int 7), none, none, none, none] [.ref 3] M v M' 0 0 := Ev.back 1 (fun n => rfl) H
    have H : Ev none e 33 60 [some (.ref 3), some (.int a), some (.int 7), none, none, none, none] [.int (zI M 3 10)] M v M' 0 0 := Ev.back 1 (gs_3 rfl rfl (gf_i hS.1 qa_3 qi_3_10 rfl)) H
    have H : Ev none e 33 (if ((zI M 3 10) &&& ((1 : Int32) <<< ((7 : Int32) &&& 31))) = 0 then 73 else 67) [some (.ref 3), some (.int a), some (.int 7), none, none, none, none] [] M v M' 0 0 := Ev.back 5 (fun n => rfl) H
    by_cases h3 : ((zI M 3 10) &&& ((1 : Int32) <<< ((7 : Int32) &&& 31))) = 0
    · rw [if_pos h3] at H
      have H : Ev none e 33 74 [some (.ref 3), some (.int a), some (.int 7), none, none, none, none] [.ref 3] M v M' 0 0 := Ev.back 1 (fun n => rfl) H
      have H : Ev none e 33 77 [some (.ref 3), some (.int a), some (.int 7), none, none, none, none] [.ref (fR M 3 8)] M v M' 0 0 := Ev.back 1 (gs_3 rfl rfl (gf_n hS.1 qa_3 qn_3_8 (by decide) a_t rfl)) H
      have H : Ev none e 33 80 [some (.ref 3), some (.int a), some (.int 7), none, none, none, none] [.int (zI M (fR M 3 8) 8)] M v M' 0 0 := Ev.back 1 (gs_3 rfl rfl (gf_i hS.1 a_t qi_28_8 rfl)) H
      have H : Ev none e 33 82 [some (.ref 3), some (.int a), some (.int 7), some (.int (zI M (fR M 3 8) 8)), none, none, none] [.ref 3] M v M' 0 0 := Ev.back 2 (fun n => rfl) H
      have H : Ev none e 33 85 [some (.ref 3), some (.int a), some (.int 7), some (.int (zI M (fR M 3 8) 8)), none, none, none] [.ref (fR M 3 8)] M v M' 0 0 := Ev.back 1 (gs_3 rfl rfl (gf_n hS.1 qa_3 qn_3_8 (by decide) a_t rfl)) H
      have H : Ev none e 33 88 [some (.ref 3), some (.int a), some (.int 7), some (.int (zI M (fR M 3 8) 8)), none, none, none] [.ref (fR M 3 8 + 1)] M v M' 0 0 := Ev.back 1 (gs_3 rfl rfl (gf_x hS.1 a_t qo_28 (fx_t0 hS a_t) rfl)) H
      have H : Ev none e 33 90 [some (.ref 3), some (.int a), some (.int 7), some (.int (zI M (fR M 3 8) 8)), none, none, none] [.int 7, .int (zI M (fR M 3 8) 8), .ref (fR M 3 8 + 1)] M v M' 0 0 := Ev.back 2 (fun n => rfl) H
      obtain ⟨b4, H⟩ := Ev.ias rfl rfl hS.1 (fx_g0 a_t) qw_29 H
      obtain ⟨N5, eN5⟩ : ∃ N, N = (wI M (fR M 3 8 + 1) ((zI M (fR M 3 8) 8).toNatClampNeg) 7) := ⟨_, rfl⟩
      have hN5 : SQ N5 := by rw [eN5]; exact hS.ki
      have H : Ev none e 33 91 [some (.ref 3), some (.int a), some (.int 7), some (.int (zI M (fR M 3 8) 8)), none, none, none] [] N5 v M' 0 0 := by rw [eN5]; exact H
      have H : Ev none e 33 92 [some (.ref 3), some (.int a), some (.int 7), some (.int (zI M (fR M 3 8) 8)), none, none, none] [.ref 3] N5 v M' 0 0 := Ev.back 1 (fun n => rfl) H
      have H : Ev none e 33 95 [some (.ref 3), some (.int a), some (.int 7), some (.int (zI M (fR M 3 8) 8)), none, none, none] [.ref (fR N5 3 8)] N5 v M' 0 0 := Ev.back 1 (gs_3 rfl rfl (gf_n hN5.1 qa_3 qn_3_8 (by decide) (by rw [show fR N5 3 8 = fR M 3 8 from by rw [eN5]; exact fR_wI]; exact a_t) rfl)) H
      rw [show fR N5 3 8 = fR M 3 8 from by rw [eN5]; exact fR_wI] at H
      have H : Ev none e 33 98 [some (.ref 3), some (.int a), some (.int 7), some (.int (zI M (fR M 3 8) 8)), none, none, none] [.ref (fR M 3 8 + 2)] N5 v M' 0 0 := Ev.back 1 (gs_3 rfl rfl (gf_x hN5.1 a_t qo_28 (fx_t1 hN5 a_t) rfl)) H
      have H : Ev none e 33 100 [some (.ref 3), some (.int a), some (.int 7), some (.int (zI M (fR M 3 8) 8)), none, none, none] [.int 0, .int (zI M (fR M 3 8) 8), .ref (fR M 3 8 + 2)] N5 v M' 0 0 := Ev.back 2 (fun n => rfl) H
      obtain ⟨b6, H⟩ := Ev.ias rfl rfl hN5.1 (fx_g1 a_t) qw_30 H
      obtain ⟨N7, eN7⟩ : ∃ N, N = (wI N5 (fR M 3 8 + 2) ((zI M (fR M 3 8) 8).toNatClampNeg) 0) := ⟨_, rfl⟩
      have hN7 : SQ N7 := by rw [eN7]; exact hN5.ki
      have H : Ev none e 33 101 [some (.ref 3), some (.int a), some (.int 7), some (.int (zI M (fR M 3 8) 8)), none, none, none] [] N7 v M' 0 0 := by rw [eN7]; exact H
      have H : Ev none e 33 102 [some (.ref 3), some (.int a), some (.int 7), some (.int (zI M (fR M 3 8) 8)), none, none, none] [.ref 3] N7 v M' 0 0 := Ev.back 1 (fun n => rfl) H
      have H : Ev none e 33 105 [some (.ref 3), some (.int a), some (.int 7), some (.int (zI M (fR M 3 8) 8)), none, none, none] [.ref (fR N7 3 8)] N7 v M' 0 0 := Ev.back 1 (gs_3 rfl rfl (gf_n hN7.1 qa_3 qn_3_8 (by decide) (by rw [(show fR N7 3 8 = fR N5 3 8 from by rw [eN7]; exact fR_wI).trans (show fR N5 3 8 = fR M 3 8 from by rw [eN5]; exact fR_wI)]; exact a_t) rfl)) H
      rw [(show fR N7 3 8 = fR N5 3 8 from by rw [eN7]; exact fR_wI).trans (show fR N5 3 8 = fR M 3 8 from by rw [eN5]; exact fR_wI)] at H
      have H : Ev none e 33 108 [some (.ref 3), some (.int a), some (.int 7), some (.int (zI M (fR M 3 8) 8)), none, none, none] [.ref (fR M 3 8 + 3)] N7 v M' 0 0 := Ev.back 1 (gs_3 rfl rfl (gf_x hN7.1 a_t qo_28 (fx_t2 hN7 a_t) rfl)) H
      have H : Ev none e 33 110 [some (.ref 3), some (.int a), some (.int 7), some (.int (zI M (fR M 3 8) 8)), none, none, none] [.int 0, .int (zI M (fR M 3 8) 8), .ref (fR M 3 8 + 3)] N7 v M' 0 0 := Ev.back 2 (fun n => rfl) H
      obtain ⟨b8, H⟩ := Ev.ias rfl rfl hN7.1 (fx_g2 a_t) qw_31 H
      obtain ⟨N9, eN9⟩ : ∃ N, N = (wI N7 (fR M 3 8 + 3) ((zI M (fR M 3 8) 8).toNatClampNeg) 0) := ⟨_, rfl⟩
      have hN9 : SQ N9 := by rw [eN9]; exact hN7.ki
      have H : Ev none e 33 111 [some (.ref 3), some (.int a), some (.int 7), some (.int (zI M (fR M 3 8) 8)), none, none, none] [] N9 v M' 0 0 := by rw [eN9]; exact H
      have H : Ev none e 33 112 [some (.ref 3), some (.int a), some (.int 7), some (.int (zI M (fR M 3 8) 8)), none, none, none] [.ref 3] N9 v M' 0 0 := Ev.back 1 (fun n => rfl) H
      have H : Ev none e 33 115 [some (.ref 3), some (.int a), some (.int 7), some (.int (zI M (fR M 3 8) 8)), none, none, none] [.ref (fR N9 3 8)] N9 v M' 0 0 := Ev.back 1 (gs_3 rfl rfl (gf_n hN9.1 qa_3 qn_3_8 (by decide) (by rw [((show fR N9 3 8 = fR N7 3 8 from by rw [eN9]; exact fR_wI).trans (show fR N7 3 8 = fR N5 3 8 from by rw [eN7]; exact fR_wI)).trans (show fR N5 3 8 = fR M 3 8 from by rw [eN5]; exact fR_wI)]; exact a_t) rfl)) H
      rw [((show fR N9 3 8 = fR N7 3 8 from by rw [eN9]; exact fR_wI).trans (show fR N7 3 8 = fR N5 3 8 from by rw [eN7]; exact fR_wI)).trans (show fR N5 3 8 = fR M 3 8 from by rw [eN5]; exact fR_wI)] at H
      have H : Ev none e 33 118 [some (.ref 3), some (.int a), some (.int 7), some (.int (zI M (fR M 3 8) 8)), none, none, none] [.ref (fR M 3 8 + 4)] N9 v M' 0 0 := Ev.back 1 (gs_3 rfl rfl (gf_x hN9.1 a_t qo_28 (fx_t3 hN9 a_t) rfl)) H
      have H : Ev none e 33 120 [some (.ref 3), some (.int a), some (.int 7), some (.int (zI M (fR M 3 8) 8)), none, none, none] [.ref 3, .int (zI M (fR M 3 8) 8), .ref (fR M 3 8 + 4)] N9 v M' 0 0 := Ev.back 2 (fun n => rfl) H
      have H : Ev none e 33 123 [some (.ref 3), some (.int a), some (.int 7), some (.int (zI M (fR M 3 8) 8)), none, none, none] [.ref (fR N9 3 8), .int (zI M (fR M 3 8) 8), .ref (fR M 3 8 + 4)] N9 v M' 0 0 := Ev.back 1 (gs_3 rfl rfl (gf_n hN9.1 qa_3 qn_3_8 (by decide) (by rw [((show fR N9 3 8 = fR N7 3 8 from by rw [eN9]; exact fR_wI).trans (show fR N7 3 8 = fR N5 3 8 from by rw [eN7]; exact fR_wI)).trans (show fR N5 3 8 = fR M 3 8 from by rw [eN5]; exact fR_wI)]; exact a_t) rfl)) H
      rw [((show fR N9 3 8 = fR N7 3 8 from by rw [eN9]; exact fR_wI).trans (show fR N7 3 8 = fR N5 3 8 from by rw [eN7]; exact fR_wI)).trans (show fR N5 3 8 = fR M 3 8 from by rw [eN5]; exact fR_wI)] at H
      have H : Ev none e 33 126 [some (.ref 3), some (.int a), some (.int 7), some (.int (zI M (fR M 3 8) 8)), none, none, none] [.int (zI N9 (fR M 3 8) 9), .int (zI M (fR M 3 8) 8), .ref (fR M 3 8 + 4)] N9 v M' 0 0 := Ev.back 1 (gs_3 rfl rfl (gf_i hN9.1 a_t qi_28_9 rfl)) H
      rw [((show zI N9 (fR M 3 8) 9 = zI N7 (fR M 3 8) 9 from by rw [eN9]; exact fI_wI).trans (show zI N7 (fR M 3 8) 9 = zI N5 (fR M 3 8) 9 from by rw [eN7]; exact fI_wI)).trans (show zI N5 (fR M 3 8) 9 = zI M (fR M 3 8) 9 from by rw [eN5]; exact fI_wI)] at H
      obtain ⟨b10, H⟩ := Ev.ias rfl rfl hN9.1 (fx_g3 a_t) qw_32 H
      obtain ⟨N11, eN11⟩ : ∃ N, N = (wI N9 (fR M 3 8 + 4) ((zI M (fR M 3 8) 8).toNatClampNeg) (zI M (fR M 3 8) 9)) := ⟨_, rfl⟩
      have hN11 : SQ N11 := by rw [eN11]; exact hN9.ki
      have H : Ev none e 33 127 [some (.ref 3), some (.int a), some (.int 7), some (.int (zI M (fR M 3 8) 8)), none, none, none] [] N11 v M' 0 0 := by rw [eN11]; exact H
      have H : Ev none e 33 128 [some (.ref 3), some (.int a), some (.int 7), some (.int (zI M (fR M 3 8) 8)), none, none, none] [.ref 3] N11 v M' 0 0 := Ev.back 1 (fun n => rfl) H
      have H : Ev none e 33 131 [some (.ref 3), some (.int a), some (.int 7), some (.int (zI M (fR M 3 8) 8)), none, none, none] [.ref (fR N11 3 8)] N11 v M' 0 0 := Ev.back 1 (gs_3 rfl rfl (gf_n hN11.1 qa_3 qn_3_8 (by decide) (by rw [(((show fR N11 3 8 = fR N9 3 8 from by rw [eN11]; exact fR_wI).trans (show fR N9 3 8 = fR N7 3 8 from by rw [eN9]; exact fR_wI)).trans (show fR N7 3 8 = fR N5 3 8 from by rw [eN7]; exact fR_wI)).trans (show fR N5 3 8 = fR M 3 8 from by rw [eN5]; exact fR_wI)]; exact a_t) rfl)) H
      rw [(((show fR N11 3 8 = fR N9 3 8 from by rw [eN11]; exact fR_wI).trans (show fR N9 3 8 = fR N7 3 8 from by rw [eN9]; exact fR_wI)).trans (show fR N7 3 8 = fR N5 3 8 from by rw [eN7]; exact fR_wI)).trans (show fR N5 3 8 = fR M 3 8 from by rw [eN5]; exact fR_wI)] at H
      have H : Ev none e 33 134 [some (.ref 3), some (.int a), some (.int 7), some (.int (zI M (fR M 3 8) 8)), none, none, none] [.ref (fR M 3 8 + 5)] N11 v M' 0 0 := Ev.back 1 (gs_3 rfl rfl (gf_x hN11.1 a_t qo_28 (fx_t4 hN11 a_t) rfl)) H
      have H : Ev none e 33 136 [some (.ref 3), some (.int a), some (.int 7), some (.int (zI M (fR M 3 8) 8)), none, none, none] [.ref 3, .int (zI M (fR M 3 8) 8), .ref (fR M 3 8 + 5)] N11 v M' 0 0 := Ev.back 2 (fun n => rfl) H
      have H : Ev none e 33 139 [some (.ref 3), some (.int a), some (.int 7), some (.int (zI M (fR M 3 8) 8)), none, none, none] [.ref (fR N11 3 8), .int (zI M (fR M 3 8) 8), .ref (fR M 3 8 + 5)] N11 v M' 0 0 := Ev.back 1 (gs_3 rfl rfl (gf_n hN11.1 qa_3 qn_3_8 (by decide) (by rw [(((show fR N11 3 8 = fR N9 3 8 from by rw [eN11]; exact fR_wI).trans (show fR N9 3 8 = fR N7 3 8 from by rw [eN9]; exact fR_wI)).trans (show fR N7 3 8 = fR N5 3 8 from by rw [eN7]; exact fR_wI)).trans (show fR N5 3 8 = fR M 3 8 from by rw [eN5]; exact fR_wI)]; exact a_t) rfl)) H
      rw [(((show fR N11 3 8 = fR N9 3 8 from by rw [eN11]; exact fR_wI).trans (show fR N9 3 8 = fR N7 3 8 from by rw [eN9]; exact fR_wI)).trans (show fR N7 3 8 = fR N5 3 8 from by rw [eN7]; exact fR_wI)).trans (show fR N5 3 8 = fR M 3 8 from by rw [eN5]; exact fR_wI)] at H
      have H : Ev none e 33 142 [some (.ref 3), some (.int a), some (.int 7), some (.int (zI M (fR M 3 8) 8)), none, none, none] [.int (zI N11 (fR M 3 8) 9), .int (zI M (fR M 3 8) 8), .ref (fR M 3 8 + 5)] N11 v M' 0 0 := Ev.back 1 (gs_3 rfl rfl (gf_i hN11.1 a_t qi_28_9 rfl)) H
      rw [(((show zI N11 (fR M 3 8) 9 = zI N9 (fR M 3 8) 9 from by rw [eN11]; exact fI_wI).trans (show zI N9 (fR M 3 8) 9 = zI N7 (fR M 3 8) 9 from by rw [eN9]; exact fI_wI)).trans (show zI N7 (fR M 3 8) 9 = zI N5 (fR M 3 8) 9 from by rw [eN7]; exact fI_wI)).trans (show zI N5 (fR M 3 8) 9 = zI M (fR M 3 8) 9 from by rw [eN5]; exact fI_wI)] at H
      obtain ⟨b12, H⟩ := Ev.ias rfl rfl hN11.1 (fx_g4 a_t) qw_33 H
      obtain ⟨N13, eN13⟩ : ∃ N, N = (wI N11 (fR M 3 8 + 5) ((zI M (fR M 3 8) 8).toNatClampNeg) (zI M (fR M 3 8) 9)) := ⟨_, rfl⟩
      have hN13 : SQ N13 := by rw [eN13]; exact hN11.ki
      have H : Ev none e 33 143 [some (.ref 3), some (.int a), some (.int 7), some (.int (zI M (fR M 3 8) 8)), none, none, none] [] N13 v M' 0 0 := by rw [eN13]; exact H
      have H : Ev none e 33 144 [some (.ref 3), some (.int a), some (.int 7), some (.int (zI M (fR M 3 8) 8)), none, none, none] [.ref 3] N13 v M' 0 0 := Ev.back 1 (fun n => rfl) H
      obtain ⟨e1, rfl⟩ := Ev.dpos rfl rfl H
      obtain ⟨vK14, MK14, K14, H⟩ := Ev.callb (fun n => gs_7 rfl rfl (show gCal (.invokevirtual 140) 3 (.ref 3 :: []) N13 = some (.inr (31, [some (.ref 3)], [])) from by show @cond (Option ((List Value × Mem) ⊕ (Nat × Lo × List Value))) (true && gRecv N13 (.ref 3) 3 && gRoom [] && true) (some (.inr (31, [some (.ref 3)], []))) none = _; rw [recv_s hN13.1 qa_3 qo_3]; rfl)) H
      have K14 : Ev none e1 31 0 [some (.ref 3)] [] N13 vK14 MK14 0 0 := K14
      have HF := H
      subst eN5 eN7 eN9 eN11 eN13
      exact Or.inr (Or.inl ⟨h1, h3, b4, b6, b8, b10, b12, ⟨e1, vK14, MK14, rfl, K14, HF⟩⟩)
    · rw [if_neg h3] at H
      have H : Ev none e 33 69 [some (.ref 3), some (.int a), some (.int 7), none, none, none, none] [.int 3, .ref 3] M v M' 0 0 := Ev.back 2 (fun n => rfl) H
      obtain ⟨e1, rfl⟩ := Ev.dpos rfl rfl H
      obtain ⟨vK15, MK15, K15, H⟩ := Ev.callb (fun n => gs_7 rfl rfl (show gCal (.invokevirtual 68) 3 (.int 3 :: .ref 3 :: []) M = some (.inr (27, [some (.ref 3), some (.int 3)], [])) from by show @cond (Option ((List Value × Mem) ⊕ (Nat × Lo × List Value))) (true && gRecv M (.ref 3) 3 && gRoom [] && true) (some (.inr (27, [some (.ref 3), some (.int 3)], []))) none = _; rw [recv_s hS.1 qa_3 qo_3]; rfl)) H
      have K15 : Ev none e1 27 0 [some (.ref 3), some (.int 3)] [] M vK15 MK15 0 0 := K15
      have HF := H
      exact Or.inr (Or.inr (⟨h1, h3, ⟨e1, vK15, MK15, rfl, K15, HF⟩⟩))
theorem ln7_72 {e : Nat} {M M' : Mem} {v : Option Value} {a y : Int32} (hS : SQ M) (a_t : gNth sT (fR M 3 8) = some 28) (H : Ev none e 33 72 [some (.ref 3), some (.int a), some (.int 7), none, none, none, none] [.int y] M v M' 0 0) : v = some (.int y) ∧ M' = M := by
  obtain ⟨z1, z2⟩ := Ev.retz rfl rfl H
  exact ⟨z1, z2⟩
theorem ln7_147 {e : Nat} {M M' : Mem} {v : Option Value} {a i : Int32} (hS : SQ M) (a_t : gNth sT (fR M 3 8) = some 28) (H : Ev none e 33 147 [some (.ref 3), some (.int a), some (.int 7), some (.int i), none, none, none] [] M v M' 0 0) : (∃ e1 v1 M1, e = e1 + 1 ∧ Ev none e1 35 0 [some (.ref 3), some (.int i), some (.int 7), none, none, none] [] M v1 M1 0 0 ∧ Ev none e 33 175 [some (.ref 3), some (.int a), some (.int 7), some (.int i), none, none, none] (v1.toList ++ []) M1 v M' 0 0) := by
  have H : Ev none e 33 (if 7 = 6 then 178 else 153) [some (.ref 3), some (.int a), some (.int 7), some (.int i), none, none, none] [] M v M' 0 0 := Ev.back 3 (fun n => rfl) H
  rw [if_neg (by decide)] at H
  have H : Ev none e 33 (if 7 = 5 then 158 else 169) [some (.ref 3), some (.int a), some (.int 7), some (.int i), none, none, none] [] M v M' 0 0 := Ev.back 3 (fun n => rfl) H
  rw [if_neg (by decide)] at H
  have H : Ev none e 33 172 [some (.ref 3), some (.int a), some (.int 7), some (.int i), none, none, none] [.int 7, .int i, .ref 3] M v M' 0 0 := Ev.back 3 (fun n => rfl) H
  obtain ⟨e1, rfl⟩ := Ev.dpos rfl rfl H
  obtain ⟨vK1, MK1, K1, H⟩ := Ev.callb (fun n => gs_7 rfl rfl (show gCal (.invokevirtual 146) 3 (.int 7 :: .int i :: .ref 3 :: []) M = some (.inr (35, [some (.ref 3), some (.int i), some (.int 7), none, none, none], [])) from by show @cond (Option ((List Value × Mem) ⊕ (Nat × Lo × List Value))) (true && gRecv M (.ref 3) 3 && gRoom [] && true) (some (.inr (35, [some (.ref 3), some (.int i), some (.int 7), none, none, none], []))) none = _; rw [recv_s hS.1 qa_3 qo_3]; rfl)) H
  have K1 : Ev none e1 35 0 [some (.ref 3), some (.int i), some (.int 7), none, none, none] [] M vK1 MK1 0 0 := K1
  have HF := H
  exact ⟨e1, vK1, MK1, rfl, K1, HF⟩
theorem ln7_175 {e : Nat} {M M' : Mem} {v : Option Value} {a i y : Int32} (hS : SQ M) (a_t : gNth sT (fR M 3 8) = some 28) (H : Ev none e 33 175 [some (.ref 3), some (.int a), some (.int 7), some (.int i), none, none, none] [.int y] M v M' 0 0) : (y = 0 ∧ v = some (.int 0) ∧ M' = M) ∨ (¬ (y = 0) ∧ (zI M 3 7) = 59 ∧ (∃ e1 v1 M1, e = e1 + 1 ∧ Ev none e1 31 0 [some (.ref 3)] [] M v1 M1 0 0 ∧ Ev none e 33 283 [some (.ref 3), some (.int a), some (.int 7), some (.int i), some (.int 1), some (.int 0), some (.int 0)] (v1.toList ++ []) M1 v M' 0 0)) ∨ (¬ (y = 0) ∧ ¬ ((zI M 3 7) = 59) ∧ (∃ e1 v1 M1, e = e1 + 1 ∧ Ev none e1 27 0 [some (.ref 3), some (.int 1)] [] M v1 M1 0 0 ∧ Ev none e 33 278 [some (.ref 3), some (.int a), some (.int 7), some (.int i), some (.int 1), some (.int 0), some (.int 0)] (v1.toList ++ []) M1 v M' 0 0)) := by
  have H : Ev none e 33 (if y = 0 then 182 else 178) [some (.ref 3), some (.int a), some (.int 7), some (.int i), none, none, none] [] M v M' 0 0 := Ev.back 1 (fun n => rfl) H
  by_cases h1 : y = 0
  · rw [if_pos h1] at H
    have H : Ev none e 33 (if 0 = 0 then 190 else 192) [some (.ref 3), some (.int a), some (.int 7), some (.int i), some (.int 0), none, none] [] M v M' 0 0 := Ev.back 4 (fun n => rfl) H
    rw [if_pos (by decide)] at H
    have H : Ev none e 33 191 [some (.ref 3), some (.int a), some (.int 7), some (.int i), some (.int 0), none, none] [.int 0] M v M' 0 0 := Ev.back 1 (fun n => rfl) H
    obtain ⟨z1, z2⟩ := Ev.retz rfl rfl H
    exact Or.inl ⟨h1, z1, z2⟩
  · rw [if_neg h1] at H
    have H : Ev none e 33 (if 1 = 0 then 190 else 192) [some (.ref 3), some (.int a), some (.int 7), some (.int i), some (.int 1), none, none] [] M v M' 0 0 := Ev.back 5 (fun n => rfl) H
    rw [if_neg (by decide)] at H
    have H : Ev none e 33 (if 7 = 0 then 206 else 196) [some (.ref 3), some (.int a), some (.int 7), some (.int i), some (.int 1), none, none] [] M v M' 0 0 := Ev.back 2 (fun n => rfl) H
    rw [if_neg (by decide)] at H
    have H : Ev none e 33 (if 7 = 1 then 206 else 201) [some (.ref 3), some (.int a), some (.int 7), some (.int i), some (.int 1), none, none] [] M v M' 0 0 := Ev.back 3 (fun n => rfl) H
    rw [if_neg (by decide)] at H
    have H : Ev none e 33 (if 7 = 5 then 206 else 210) [some (.ref 3), some (.int a), some (.int 7), some (.int i), some (.int 1), none, none] [] M v M' 0 0 := Ev.back 3 (fun n => rfl) H
    rw [if_neg (by decide)] at H
    have H : Ev none e 33 (if 0 = 0 then 231 else 218) [some (.ref 3), some (.int a), some (.int 7), some (.int i), some (.int 1), some (.int 0), none] [] M v M' 0 0 := Ev.back 4 (fun n => rfl) H
    rw [if_pos (by decide)] at H
    have H : Ev none e 33 (if 0 = 0 then 243 else 239) [some (.ref 3), some (.int a), some (.int 7), some (.int i), some (.int 1), some (.int 0), some (.int 0)] [] M v M' 0 0 := Ev.back 4 (fun n => rfl) H
    rw [if_pos (by decide)] at H
    have H : Ev none e 33 (if 0 = 0 then 248 else 254) [some (.ref 3), some (.int a), some (.int 7), some (.int i), some (.int 1), some (.int 0), some (.int 0)] [] M v M' 0 0 := Ev.back 2 (fun n => rfl) H
    rw [if_pos (by decide)] at H
    have H : Ev none e 33 (if 7 = 6 then 254 else 264) [some (.ref 3), some (.int a), some (.int 7), some (.int i), some (.int 1), some (.int 0), some (.int 0)] [] M v M' 0 0 := Ev.back 3 (fun n => rfl) H
    rw [if_neg (by decide)] at H
    have H : Ev none e 33 265 [some (.ref 3), some (.int a), some (.int 7), some (.int i), some (.int 1), some (.int 0), some (.int 0)] [.ref 3] M v M' 0 0 := Ev.back 1 (fun n => rfl) H
    have H : Ev none e 33 268 [some (.ref 3), some (.int a), some (.int 7), some (.int i), some (.int 1), some (.int 0), some (.int 0)] [.int (zI M 3 7)] M v M' 0 0 := Ev.back 1 (gs_3 rfl rfl (gf_i hS.1 qa_3 qi_3_7 rfl)) H
    have H : Ev none e 33 (if (zI M 3 7) = 59 then 279 else 273) [some (.ref 3), some (.int a), some (.int 7), some (.int i), some (.int 1), some (.int 0), some (.int 0)] [] M v M' 0 0 := Ev.back 2 (fun n => rfl) H
    by_cases h2 : (zI M 3 7) = 59
    · rw [if_pos h2] at H
      have H : Ev none e 33 280 [some (.ref 3), some (.int a), some (.int 7), some (.int i), some (.int 1), some (.int 0), some (.int 0)] [.ref 3] M v M' 0 0 := Ev.back 1 (fun n => rfl) H
      obtain ⟨e1, rfl⟩ := Ev.dpos rfl rfl H
      obtain ⟨vK3, MK3, K3, H⟩ := Ev.callb (fun n => gs_7 rfl rfl (show gCal (.invokevirtual 140) 3 (.ref 3 :: []) M = some (.inr (31, [some (.ref 3)], [])) from by show @cond (Option ((List Value × Mem) ⊕ (Nat × Lo × List Value))) (true && gRecv M (.ref 3) 3 && gRoom [] && true) (some (.inr (31, [some (.ref 3)], []))) none = _; rw [recv_s hS.1 qa_3 qo_3]; rfl)) H
      have K3 : Ev none e1 31 0 [some (.ref 3)] [] M vK3 MK3 0 0 := K3
      have HF := H
      exact Or.inr (Or.inl ⟨h1, h2, ⟨e1, vK3, MK3, rfl, K3, HF⟩⟩)
    · rw [if_neg h2] at H
      have H : Ev none e 33 275 [some (.ref 3), some (.int a), some (.int 7), some (.int i), some (.int 1), some (.int 0), some (.int 0)] [.int 1, .ref 3] M v M' 0 0 := Ev.back 2 (fun n => rfl) H
      obtain ⟨e1, rfl⟩ := Ev.dpos rfl rfl H
      obtain ⟨vK4, MK4, K4, H⟩ := Ev.callb (fun n => gs_7 rfl rfl (show gCal (.invokevirtual 68) 3 (.int 1 :: .ref 3 :: []) M = some (.inr (27, [some (.ref 3), some (.int 1)], [])) from by show @cond (Option ((List Value × Mem) ⊕ (Nat × Lo × List Value))) (true && gRecv M (.ref 3) 3 && gRoom [] && true) (some (.inr (27, [some (.ref 3), some (.int 1)], []))) none = _; rw [recv_s hS.1 qa_3 qo_3]; rfl)) H
      have K4 : Ev none e1 27 0 [some (.ref 3), some (.int 1)] [] M vK4 MK4 0 0 := K4
      have HF := H
      exact Or.inr (Or.inr (⟨h1, h2, ⟨e1, vK4, MK4, rfl, K4, HF⟩⟩))
theorem ln7_278 {e : Nat} {M M' : Mem} {v : Option Value} {a i y : Int32} {c5 c6 : Option Value} (hS : SQ M) (a_t : gNth sT (fR M 3 8) = some 28) (H : Ev none e 33 278 [some (.ref 3), some (.int a), some (.int 7), some (.int i), some (.int 1), c5, c6] [.int y] M v M' 0 0) : v = some (.int y) ∧ M' = M := by
  obtain ⟨z1, z2⟩ := Ev.retz rfl rfl H
  exact ⟨z1, z2⟩
theorem ln7_283 {e : Nat} {M M' : Mem} {v : Option Value} {a i : Int32} {c5 c6 : Option Value} (hS : SQ M) (a_t : gNth sT (fR M 3 8) = some 28) (H : Ev none e 33 283 [some (.ref 3), some (.int a), some (.int 7), some (.int i), some (.int 1), c5, c6] [] M v M' 0 0) : (0 ≤ i.toInt ∧ i.toInt < 16) ∧ v = some (.int 1) ∧ M' = (wF (wI M (fR M 3 8 + 5) i.toNatClampNeg (zI M (fR M 3 8) 9)) (fR M 3 8) 8 ((zI M (fR M 3 8) 8) + 1)) := by
  have H : Ev none e 33 284 [some (.ref 3), some (.int a), some (.int 7), some (.int i), some (.int 1), c5, c6] [.ref 3] M v M' 0 0 := Ev.back 1 (fun n => rfl) H
  have H : Ev none e 33 287 [some (.ref 3), some (.int a), some (.int 7), some (.int i), some (.int 1), c5, c6] [.ref (fR M 3 8)] M v M' 0 0 := Ev.back 1 (gs_3 rfl rfl (gf_n hS.1 qa_3 qn_3_8 (by decide) a_t rfl)) H
  have H : Ev none e 33 290 [some (.ref 3), some (.int a), some (.int 7), some (.int i), some (.int 1), c5, c6] [.ref (fR M 3 8 + 5)] M v M' 0 0 := Ev.back 1 (gs_3 rfl rfl (gf_x hS.1 a_t qo_28 (fx_t4 hS a_t) rfl)) H
  have H : Ev none e 33 292 [some (.ref 3), some (.int a), some (.int 7), some (.int i), some (.int 1), c5, c6] [.ref 3, .int i, .ref (fR M 3 8 + 5)] M v M' 0 0 := Ev.back 2 (fun n => rfl) H
  have H : Ev none e 33 295 [some (.ref 3), some (.int a), some (.int 7), some (.int i), some (.int 1), c5, c6] [.ref (fR M 3 8), .int i, .ref (fR M 3 8 + 5)] M v M' 0 0 := Ev.back 1 (gs_3 rfl rfl (gf_n hS.1 qa_3 qn_3_8 (by decide) a_t rfl)) H
  have H : Ev none e 33 298 [some (.ref 3), some (.int a), some (.int 7), some (.int i), some (.int 1), c5, c6] [.int (zI M (fR M 3 8) 9), .int i, .ref (fR M 3 8 + 5)] M v M' 0 0 := Ev.back 1 (gs_3 rfl rfl (gf_i hS.1 a_t qi_28_9 rfl)) H
  obtain ⟨b1, H⟩ := Ev.ias rfl rfl hS.1 (fx_g4 a_t) qw_33 H
  obtain ⟨N2, eN2⟩ : ∃ N, N = (wI M (fR M 3 8 + 5) i.toNatClampNeg (zI M (fR M 3 8) 9)) := ⟨_, rfl⟩
  have hN2 : SQ N2 := by rw [eN2]; exact hS.ki
  have H : Ev none e 33 299 [some (.ref 3), some (.int a), some (.int 7), some (.int i), some (.int 1), c5, c6] [] N2 v M' 0 0 := by rw [eN2]; exact H
  have H : Ev none e 33 300 [some (.ref 3), some (.int a), some (.int 7), some (.int i), some (.int 1), c5, c6] [.ref 3] N2 v M' 0 0 := Ev.back 1 (fun n => rfl) H
  have H : Ev none e 33 303 [some (.ref 3), some (.int a), some (.int 7), some (.int i), some (.int 1), c5, c6] [.ref (fR N2 3 8)] N2 v M' 0 0 := Ev.back 1 (gs_3 rfl rfl (gf_n hN2.1 qa_3 qn_3_8 (by decide) (by rw [show fR N2 3 8 = fR M 3 8 from by rw [eN2]; exact fR_wI]; exact a_t) rfl)) H
  rw [show fR N2 3 8 = fR M 3 8 from by rw [eN2]; exact fR_wI] at H
  have H : Ev none e 33 304 [some (.ref 3), some (.int a), some (.int 7), some (.int i), some (.int 1), c5, c6] [.ref (fR M 3 8), .ref (fR M 3 8)] N2 v M' 0 0 := Ev.back 1 (fun n => rfl) H
  have H : Ev none e 33 307 [some (.ref 3), some (.int a), some (.int 7), some (.int i), some (.int 1), c5, c6] [.int (zI N2 (fR M 3 8) 8), .ref (fR M 3 8)] N2 v M' 0 0 := Ev.back 1 (gs_3 rfl rfl (gf_i hN2.1 a_t qi_28_8 rfl)) H
  rw [show zI N2 (fR M 3 8) 8 = zI M (fR M 3 8) 8 from by rw [eN2]; exact fI_wI] at H
  have H : Ev none e 33 309 [some (.ref 3), some (.int a), some (.int 7), some (.int i), some (.int 1), c5, c6] [.int ((zI M (fR M 3 8) 8) + 1), .ref (fR M 3 8)] N2 v M' 0 0 := Ev.back 2 (fun n => rfl) H
  obtain ⟨N4, eN4⟩ : ∃ N, N = (wF N2 (fR M 3 8) 8 ((zI M (fR M 3 8) 8) + 1)) := ⟨_, rfl⟩
  have hN4 : SQ N4 := by rw [eN4]; exact hN2.kf
  have H : Ev none e 33 312 [some (.ref 3), some (.int a), some (.int 7), some (.int i), some (.int 1), c5, c6] [] N4 v M' 0 0 := by rw [eN4]; exact Ev.pfi rfl rfl rfl hN2.1 a_t qi_28_8 H
  have H : Ev none e 33 313 [some (.ref 3), some (.int a), some (.int 7), some (.int i), some (.int 1), c5, c6] [.int 1] N4 v M' 0 0 := Ev.back 1 (fun n => rfl) H
  obtain ⟨z1, z2⟩ := Ev.retz rfl rfl H
  subst eN2 eN4
  exact ⟨b1, z1, z2⟩
