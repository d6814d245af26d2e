/-! THE CLASS'S READER: pieces of cond, all, one (made by gcl.py) -/
noncomputable def X_31 (M : Mem) : Mem := if ((zI M 3 5) - 1) ≤ (zI M 3 6) then M else (wF (wF M 3 6 ((zI M 3 6) + 1)) 3 7 (rI M 4 ((zI M 3 6) + 1)))
theorem g_31 {e : Nat} {M M' : Mem} {v : Option Value} (hS : SQ M) (H : Ev none e 31 0 [some (.ref 3)] [] M v M' 0 0) : v = none ∧ M' = X_31 M := by
  unfold X_31
  have H : Ev none e 31 1 [some (.ref 3)] [.ref 3] M v M' 0 0 := Ev.back 1 (fun n => rfl) H
  have H : Ev none e 31 4 [some (.ref 3)] [.int (zI M 3 6)] M v M' 0 0 := Ev.back 1 (gs_3 rfl rfl (gf_i hS.1 qa_3 qi_3_6 rfl)) H
  have H : Ev none e 31 5 [some (.ref 3)] [.ref 3, .int (zI M 3 6)] M v M' 0 0 := Ev.back 1 (fun n => rfl) H
  have H : Ev none e 31 8 [some (.ref 3)] [.int (zI M 3 5), .int (zI M 3 6)] M v M' 0 0 := Ev.back 1 (gs_3 rfl rfl (gf_i hS.1 qa_3 qi_3_5 rfl)) H
  have H : Ev none e 31 (if ((zI M 3 5) - 1) ≤ (zI M 3 6) then 36 else 13) [some (.ref 3)] [] M v M' 0 0 := Ev.back 3 (fun n => rfl) H
  by_cases h1 : ((zI M 3 5) - 1) ≤ (zI M 3 6)
  · rw [if_pos h1] at H
    obtain ⟨p1, p2⟩ := Ev.retb (fun n => rfl) H
    exact ⟨p1, by rw [if_pos h1]; exact p2⟩
  · rw [if_neg h1] at H
    have H : Ev none e 31 15 [some (.ref 3)] [.ref 3, .ref 3] M v M' 0 0 := Ev.back 2 (fun n => rfl) H
    have H : Ev none e 31 18 [some (.ref 3)] [.int (zI M 3 6), .ref 3] M v M' 0 0 := Ev.back 1 (gs_3 rfl rfl (gf_i hS.1 qa_3 qi_3_6 rfl)) H
    have H : Ev none e 31 20 [some (.ref 3)] [.int ((zI M 3 6) + 1), .ref 3] M v M' 0 0 := Ev.back 2 (fun n => rfl) H
    obtain ⟨N3, eN3⟩ : ∃ N, N = (wF M 3 6 ((zI M 3 6) + 1)) := ⟨_, rfl⟩
    have hN3 : SQ N3 := by rw [eN3]; exact hS.kf
    have H : Ev none e 31 23 [some (.ref 3)] [] N3 v M' 0 0 := by rw [eN3]; exact Ev.pfi rfl rfl rfl hS.1 qa_3 qi_3_6 H
    have H : Ev none e 31 25 [some (.ref 3)] [.ref 3, .ref 3] N3 v M' 0 0 := Ev.back 2 (fun n => rfl) H
    have H : Ev none e 31 28 [some (.ref 3)] [.ref 4, .ref 3] N3 v M' 0 0 := Ev.back 1 (gs_3 rfl rfl (gf_u hN3.1 qa_3 qr_3_1 qu_4 rfl)) H
    have H : Ev none e 31 29 [some (.ref 3)] [.ref 3, .ref 4, .ref 3] N3 v M' 0 0 := Ev.back 1 (fun n => rfl) H
    have H : Ev none e 31 32 [some (.ref 3)] [.int (zI N3 3 6), .ref 4, .ref 3] N3 v M' 0 0 := Ev.back 1 (gs_3 rfl rfl (gf_i hN3.1 qa_3 qi_3_6 rfl)) H
    rw [show zI N3 3 6 = (zI M 3 6) + 1 from by rw [eN3]; exact fI_wF_eq hS.1 qa_3 qi_3_6] at H
    obtain ⟨b4, H⟩ := Ev.ial rfl rfl hN3.1 qa_4 qw_4 H
    have H : Ev none e 31 33 [some (.ref 3)] [.int (rI N3 4 ((zI M 3 6) + 1)), .ref 3] N3 v M' 0 0 := H
    rw [show rI N3 4 ((zI M 3 6) + 1) = rI M 4 ((zI M 3 6) + 1) from by rw [eN3]; exact rN_wF] at H
    obtain ⟨N6, eN6⟩ : ∃ N, N = (wF N3 3 7 (rI M 4 ((zI M 3 6) + 1))) := ⟨_, rfl⟩
    have hN6 : SQ N6 := by rw [eN6]; exact hN3.kf
    have H : Ev none e 31 36 [some (.ref 3)] [] N6 v M' 0 0 := by rw [eN6]; exact Ev.pfi rfl rfl rfl hN3.1 qa_3 qi_3_7 H
    obtain ⟨p1, p2⟩ := Ev.retb (fun n => rfl) H
    subst eN3 eN6
    exact ⟨p1, by rw [if_neg h1]; exact p2⟩
theorem X_31_sx {M : Mem} (hS : SQ M) : SQ (X_31 M) := by
  unfold X_31
  split
  · exact hS
  · exact (hS.kf).kf
noncomputable def A_27 (M : Mem) (k : Int32) : Int32 := 0
noncomputable def X_27 (M : Mem) (k : Int32) : Mem := (wF (wF M 3 12 k) 3 13 (rI M 5 (zI M 3 6)))
theorem g_27 {e : Nat} {M M' : Mem} {v : Option Value} {k : Int32} (hS : SQ M) (H : Ev none e 27 0 [some (.ref 3), some (.int k)] [] M v M' 0 0) : v = some (.int (A_27 M k)) ∧ M' = X_27 M k := by
  unfold A_27 X_27
  have H : Ev none e 27 2 [some (.ref 3), some (.int k)] [.int k, .ref 3] M v M' 0 0 := Ev.back 2 (fun n => rfl) H
  obtain ⟨N2, eN2⟩ : ∃ N, N = (wF M 3 12 k) := ⟨_, rfl⟩
  have hN2 : SQ N2 := by rw [eN2]; exact hS.kf
  have H : Ev none e 27 5 [some (.ref 3), some (.int k)] [] N2 v M' 0 0 := by rw [eN2]; exact Ev.pfi rfl rfl rfl hS.1 qa_3 qi_3_12 H
  have H : Ev none e 27 7 [some (.ref 3), some (.int k)] [.ref 3, .ref 3] N2 v M' 0 0 := Ev.back 2 (fun n => rfl) H
  have H : Ev none e 27 10 [some (.ref 3), some (.int k)] [.ref 5, .ref 3] N2 v M' 0 0 := Ev.back 1 (gs_3 rfl rfl (gf_u hN2.1 qa_3 qr_3_2 qu_5 rfl)) H
  have H : Ev none e 27 11 [some (.ref 3), some (.int k)] [.ref 3, .ref 5, .ref 3] N2 v M' 0 0 := Ev.back 1 (fun n => rfl) H
  have H : Ev none e 27 14 [some (.ref 3), some (.int k)] [.int (zI N2 3 6), .ref 5, .ref 3] N2 v M' 0 0 := Ev.back 1 (gs_3 rfl rfl (gf_i hN2.1 qa_3 qi_3_6 rfl)) H
  rw [show zI N2 3 6 = zI M 3 6 from by rw [eN2]; exact fI_wF_ne (fun q => absurd q.2 (by decide))] at H
  obtain ⟨b3, H⟩ := Ev.ial rfl rfl hN2.1 qa_5 qw_5 H
  have H : Ev none e 27 15 [some (.ref 3), some (.int k)] [.int (rI N2 5 (zI M 3 6)), .ref 3] N2 v M' 0 0 := H
  rw [show rI N2 5 (zI M 3 6) = rI M 5 (zI M 3 6) from by rw [eN2]; exact rN_wF] at H
  obtain ⟨N5, eN5⟩ : ∃ N, N = (wF N2 3 13 (rI M 5 (zI M 3 6))) := ⟨_, rfl⟩
  have hN5 : SQ N5 := by rw [eN5]; exact hN2.kf
  have H : Ev none e 27 18 [some (.ref 3), some (.int k)] [] N5 v M' 0 0 := by rw [eN5]; exact Ev.pfi rfl rfl rfl hN2.1 qa_3 qi_3_13 H
  have H : Ev none e 27 19 [some (.ref 3), some (.int k)] [.int 0] N5 v M' 0 0 := Ev.back 1 (fun n => rfl) H
  obtain ⟨p1, p2⟩ := Ev.retz rfl rfl H
  subst eN2 eN5
  exact ⟨p1, p2⟩
theorem X_27_sx {M : Mem} {k : Int32} (hS : SQ M) : SQ (X_27 M k) := by
  unfold X_27
  exact (hS.kf).kf
noncomputable def X_40 (M : Mem) (x : Int32) (y : Int32) (z : Int32) : Mem := if 96 ≤ (zI M (fR M 3 8) 9) then M else (wF (wI (wI (wI M (fR M 3 8 + 6) ((zI M (fR M 3 8) 9).toNatClampNeg) x) (fR M 3 8 + 7) ((zI M (fR M 3 8) 9).toNatClampNeg) y) (fR M 3 8 + 8) ((zI M (fR M 3 8) 9).toNatClampNeg) z) (fR M 3 8) 9 ((zI M (fR M 3 8) 9) + 1))
theorem g_40 {e : Nat} {M M' : Mem} {v : Option Value} {x y z : Int32} (hS : SQ M) (a_t : gNth sT (fR M 3 8) = some 28) (H : Ev none e 40 0 [some (.ref 3), some (.int x), some (.int y), some (.int z)] [] M v M' 0 0) : v = none ∧ M' = X_40 M x y z := by
  unfold X_40
  have H : Ev none e 40 1 [some (.ref 3), some (.int x), some (.int y), some (.int z)] [.ref 3] M v M' 0 0 := Ev.back 1 (fun n => rfl) H
  have H : Ev none e 40 4 [some (.ref 3), some (.int x), some (.int y), some (.int z)] [.ref (fR M 3 8)] M v M' 0 0 := Ev.back 1 (gs_3 rfl rfl (gf_n hS.1 qa_3 qn_3_8 (by decide) a_t rfl)) H
  have H : Ev none e 40 7 [some (.ref 3), some (.int x), some (.int y), some (.int z)] [.int (zI M (fR M 3 8) 9)] M v M' 0 0 := Ev.back 1 (gs_3 rfl rfl (gf_i hS.1 a_t qi_28_9 rfl)) H
  have H : Ev none e 40 (if 96 ≤ (zI M (fR M 3 8) 9) then 73 else 12) [some (.ref 3), some (.int x), some (.int y), some (.int z)] [] M v M' 0 0 := Ev.back 2 (fun n => rfl) H
  by_cases h1 : 96 ≤ (zI M (fR M 3 8) 9)
  · rw [if_pos h1] at H
    obtain ⟨p1, p2⟩ := Ev.retb (fun n => rfl) H
    exact ⟨p1, by rw [if_pos h1]; exact p2⟩
  · rw [if_neg h1] at H
    have H : Ev none e 40 13 [some (.ref 3), some (.int x), some (.int y), some (.int z)] [.ref 3] M v M' 0 0 := Ev.back 1 (fun n => rfl) H
    have H : Ev none e 40 16 [some (.ref 3), some (.int x), some (.int y), some (.int z)] [.ref (fR M 3 8)] M v M' 0 0 := Ev.back 1 (gs_3 rfl rfl (gf_n hS.1 qa_3 qn_3_8 (by decide) a_t rfl)) H
    have H : Ev none e 40 19 [some (.ref 3), some (.int x), some (.int y), some (.int z)] [.ref (fR M 3 8 + 6)] M v M' 0 0 := Ev.back 1 (gs_3 rfl rfl (gf_x hS.1 a_t qo_28 (fx_t5 hS a_t) rfl)) H
    have H : Ev none e 40 20 [some (.ref 3), some (.int x), some (.int y), some (.int z)] [.ref 3, .ref (fR M 3 8 + 6)] M v M' 0 0 := Ev.back 1 (fun n => rfl) H
    have H : Ev none e 40 23 [some (.ref 3), some (.int x), some (.int y), some (.int z)] [.ref (fR M 3 8), .ref (fR M 3 8 + 6)] M v M' 0 0 := Ev.back 1 (gs_3 rfl rfl (gf_n hS.1 qa_3 qn_3_8 (by decide) a_t rfl)) H
    have H : Ev none e 40 26 [some (.ref 3), some (.int x), some (.int y), some (.int z)] [.int (zI M (fR M 3 8) 9), .ref (fR M 3 8 + 6)] M v M' 0 0 := Ev.back 1 (gs_3 rfl rfl (gf_i hS.1 a_t qi_28_9 rfl)) H
    have H : Ev none e 40 27 [some (.ref 3), some (.int x), some (.int y), some (.int z)] [.int x, .int (zI M (fR M 3 8) 9), .ref (fR M 3 8 + 6)] M v M' 0 0 := Ev.back 1 (fun n => rfl) H
    obtain ⟨b2, H⟩ := Ev.ias rfl rfl hS.1 (fx_g5 a_t) qw_34 H
    obtain ⟨N3, eN3⟩ : ∃ N, N = (wI M (fR M 3 8 + 6) ((zI M (fR M 3 8) 9).toNatClampNeg) x) := ⟨_, rfl⟩
    have hN3 : SQ N3 := by rw [eN3]; exact hS.ki
    have H : Ev none e 40 28 [some (.ref 3), some (.int x), some (.int y), some (.int z)] [] N3 v M' 0 0 := by rw [eN3]; exact H
    have H : Ev none e 40 29 [some (.ref 3), some (.int x), some (.int y), some (.int z)] [.ref 3] N3 v M' 0 0 := Ev.back 1 (fun n => rfl) H
    have H : Ev none e 40 32 [some (.ref 3), some (.int x), some (.int y), some (.int z)] [.ref (fR N3 3 8)] N3 v M' 0 0 := Ev.back 1 (gs_3 rfl rfl (gf_n hN3.1 qa_3 qn_3_8 (by decide) (by rw [show fR N3 3 8 = fR M 3 8 from by rw [eN3]; exact fR_wI]; exact a_t) rfl)) H
    rw [show fR N3 3 8 = fR M 3 8 from by rw [eN3]; exact fR_wI] at H
    have H : Ev none e 40 35 [some (.ref 3), some (.int x), some (.int y), some (.int z)] [.ref (fR M 3 8 + 7)] N3 v M' 0 0 := Ev.back 1 (gs_3 rfl rfl (gf_x hN3.1 a_t qo_28 (fx_t6 hN3 a_t) rfl)) H
    have H : Ev none e 40 36 [some (.ref 3), some (.int x), some (.int y), some (.int z)] [.ref 3, .ref (fR M 3 8 + 7)] N3 v M' 0 0 := Ev.back 1 (fun n => rfl) H
    have H : Ev none e 40 39 [some (.ref 3), some (.int x), some (.int y), some (.int z)] [.ref (fR N3 3 8), .ref (fR M 3 8 + 7)] N3 v M' 0 0 := Ev.back 1 (gs_3 rfl rfl (gf_n hN3.1 qa_3 qn_3_8 (by decide) (by rw [show fR N3 3 8 = fR M 3 8 from by rw [eN3]; exact fR_wI]; exact a_t) rfl)) H
    rw [show fR N3 3 8 = fR M 3 8 from by rw [eN3]; exact fR_wI] at H
    have H : Ev none e 40 42 [some (.ref 3), some (.int x), some (.int y), some (.int z)] [.int (zI N3 (fR M 3 8) 9), .ref (fR M 3 8 + 7)] N3 v M' 0 0 := Ev.back 1 (gs_3 rfl rfl (gf_i hN3.1 a_t qi_28_9 rfl)) H
    rw [show zI N3 (fR M 3 8) 9 = zI M (fR M 3 8) 9 from by rw [eN3]; exact fI_wI] at H
    have H : Ev none e 40 43 [some (.ref 3), some (.int x), some (.int y), some (.int z)] [.int y, .int (zI M (fR M 3 8) 9), .ref (fR M 3 8 + 7)] N3 v M' 0 0 := Ev.back 1 (fun n => rfl) H
    obtain ⟨b4, H⟩ := Ev.ias rfl rfl hN3.1 (fx_g6 a_t) qw_35 H
    obtain ⟨N5, eN5⟩ : ∃ N, N = (wI N3 (fR M 3 8 + 7) ((zI M (fR M 3 8) 9).toNatClampNeg) y) := ⟨_, rfl⟩
    have hN5 : SQ N5 := by rw [eN5]; exact hN3.ki
    have H : Ev none e 40 44 [some (.ref 3), some (.int x), some (.int y), some (.int z)] [] N5 v M' 0 0 := by rw [eN5]; exact H
    have H : Ev none e 40 45 [some (.ref 3), some (.int x), some (.int y), some (.int z)] [.ref 3] N5 v M' 0 0 := Ev.back 1 (fun n => rfl) H
    have H : Ev none e 40 48 [some (.ref 3), some (.int x), some (.int y), some (.int z)] [.ref (fR N5 3 8)] N5 v M' 0 0 := Ev.back 1 (gs_3 rfl rfl (gf_n hN5.1 qa_3 qn_3_8 (by decide) (by rw [(show fR N5 3 8 = fR N3 3 8 from by rw [eN5]; exact fR_wI).trans (show fR N3 3 8 = fR M 3 8 from by rw [eN3]; exact fR_wI)]; exact a_t) rfl)) H
    rw [(show fR N5 3 8 = fR N3 3 8 from by rw [eN5]; exact fR_wI).trans (show fR N3 3 8 = fR M 3 8 from by rw [eN3]; exact fR_wI)] at H
    have H : Ev none e 40 51 [some (.ref 3), some (.int x), some (.int y), some (.int z)] [.ref (fR M 3 8 + 8)] N5 v M' 0 0 := Ev.back 1 (gs_3 rfl rfl (gf_x hN5.1 a_t qo_28 (fx_t7 hN5 a_t) rfl)) H
    have H : Ev none e 40 52 [some (.ref 3), some (.int x), some (.int y), some (.int z)] [.ref 3, .ref (fR M 3 8 + 8)] N5 v M' 0 0 := Ev.back 1 (fun n => rfl) H
    have H : Ev none e 40 55 [some (.ref 3), some (.int x), some (.int y), some (.int z)] [.ref (fR N5 3 8), .ref (fR M 3 8 + 8)] N5 v M' 0 0 := Ev.back 1 (gs_3 rfl rfl (gf_n hN5.1 qa_3 qn_3_8 (by decide) (by rw [(show fR N5 3 8 = fR N3 3 8 from by rw [eN5]; exact fR_wI).trans (show fR N3 3 8 = fR M 3 8 from by rw [eN3]; exact fR_wI)]; exact a_t) rfl)) H
    rw [(show fR N5 3 8 = fR N3 3 8 from by rw [eN5]; exact fR_wI).trans (show fR N3 3 8 = fR M 3 8 from by rw [eN3]; exact fR_wI)] at H
    have H : Ev none e 40 58 [some (.ref 3), some (.int x), some (.int y), some (.int z)] [.int (zI N5 (fR M 3 8) 9), .ref (fR M 3 8 + 8)] N5 v M' 0 0 := Ev.back 1 (gs_3 rfl rfl (gf_i hN5.1 a_t qi_28_9 rfl)) H
    rw [(show zI N5 (fR M 3 8) 9 = zI N3 (fR M 3 8) 9 from by rw [eN5]; exact fI_wI).trans (show zI N3 (fR M 3 8) 9 = zI M (fR M 3 8) 9 from by rw [eN3]; exact fI_wI)] at H
    have H : Ev none e 40 59 [some (.ref 3), some (.int x), some (.int y), some (.int z)] [.int z, .int (zI M (fR M 3 8) 9), .ref (fR M 3 8 + 8)] N5 v M' 0 0 := Ev.back 1 (fun n => rfl) H
    obtain ⟨b6, H⟩ := Ev.ias rfl rfl hN5.1 (fx_g7 a_t) qw_36 H
    obtain ⟨N7, eN7⟩ : ∃ N, N = (wI N5 (fR M 3 8 + 8) ((zI M (fR M 3 8) 9).toNatClampNeg) z) := ⟨_, rfl⟩
    have hN7 : SQ N7 := by rw [eN7]; exact hN5.ki
    have H : Ev none e 40 60 [some (.ref 3), some (.int x), some (.int y), some (.int z)] [] N7 v M' 0 0 := by rw [eN7]; exact H
    have H : Ev none e 40 61 [some (.ref 3), some (.int x), some (.int y), some (.int z)] [.ref 3] N7 v M' 0 0 := Ev.back 1 (fun n => rfl) H
    have H : Ev none e 40 64 [some (.ref 3), some (.int x), some (.int y), some (.int z)] [.ref (fR N7 3 8)] N7 v M' 0 0 := Ev.back 1 (gs_3 rfl rfl (gf_n hN7.1 qa_3 qn_3_8 (by decide) (by rw [((show fR N7 3 8 = fR N5 3 8 from by rw [eN7]; exact fR_wI).trans (show fR N5 3 8 = fR N3 3 8 from by rw [eN5]; exact fR_wI)).trans (show fR N3 3 8 = fR M 3 8 from by rw [eN3]; exact fR_wI)]; exact a_t) rfl)) H
    rw [((show fR N7 3 8 = fR N5 3 8 from by rw [eN7]; exact fR_wI).trans (show fR N5 3 8 = fR N3 3 8 from by rw [eN5]; exact fR_wI)).trans (show fR N3 3 8 = fR M 3 8 from by rw [eN3]; exact fR_wI)] at H
    have H : Ev none e 40 65 [some (.ref 3), some (.int x), some (.int y), some (.int z)] [.ref (fR M 3 8), .ref (fR M 3 8)] N7 v M' 0 0 := Ev.back 1 (fun n => rfl) H
    have H : Ev none e 40 68 [some (.ref 3), some (.int x), some (.int y), some (.int z)] [.int (zI N7 (fR M 3 8) 9), .ref (fR M 3 8)] N7 v M' 0 0 := Ev.back 1 (gs_3 rfl rfl (gf_i hN7.1 a_t qi_28_9 rfl)) H
    rw [((show zI N7 (fR M 3 8) 9 = zI N5 (fR M 3 8) 9 from by rw [eN7]; exact fI_wI).trans (show zI N5 (fR M 3 8) 9 = zI N3 (fR M 3 8) 9 from by rw [eN5]; exact fI_wI)).trans (show zI N3 (fR M 3 8) 9 = zI M (fR M 3 8) 9 from by rw [eN3]; exact fI_wI)] at H
    have H : Ev none e 40 70 [some (.ref 3), some (.int x), some (.int y), some (.int z)] [.int ((zI M (fR M 3 8) 9) + 1), .ref (fR M 3 8)] N7 v M' 0 0 := Ev.back 2 (fun n => rfl) H
    obtain ⟨N9, eN9⟩ : ∃ N, N = (wF N7 (fR M 3 8) 9 ((zI M (fR M 3 8) 9) + 1)) := ⟨_, rfl⟩
    have hN9 : SQ N9 := by rw [eN9]; exact hN7.kf
    have H : Ev none e 40 73 [some (.ref 3), some (.int x), some (.int y), some (.int z)] [] N9 v M' 0 0 := by rw [eN9]; exact Ev.pfi rfl rfl rfl hN7.1 a_t qi_28_9 H
    obtain ⟨p1, p2⟩ := Ev.retb (fun n => rfl) H
    subst eN3 eN5 eN7 eN9
    exact ⟨p1, by rw [if_neg h1]; exact p2⟩
theorem X_40_sx {M : Mem} {x y z : Int32} (hS : SQ M) : SQ (X_40 M x y z) := by
  unfold X_40
  split
  · exact hS
  · exact (((hS.ki).ki).ki).kf
theorem cm_0 {e : Nat} {M M' : Mem} {v : Option Value} {ak : Int32} (hS : SQ M) (H : Ev none e 39 0 [some (.ref 3), some (.int ak), none, none] [] M v M' 0 0) : ((zI M 3 7) = 60 ∧ (∃ e1 v1 M1, e = e1 + 1 ∧ Ev none e1 31 0 [some (.ref 3)] [] M v1 M1 0 0 ∧ Ev none e 39 33 [some (.ref 3), some (.int ak), some (.int (zI M 3 7)), none] (v1.toList ++ []) M1 v M' 0 0)) ∨ (¬ ((zI M 3 7) = 60) ∧ (zI M 3 7) = 61 ∧ (∃ e1 v1 M1, e = e1 + 1 ∧ Ev none e1 31 0 [some (.ref 3)] [] M v1 M1 0 0 ∧ Ev none e 39 33 [some (.ref 3), some (.int ak), some (.int (zI M 3 7)), none] (v1.toList ++ []) M1 v M' 0 0)) ∨ (¬ ((zI M 3 7) = 60) ∧ ¬ ((zI M 3 7) = 61) ∧ (zI M 3 7) = 62 ∧ (∃ e1 v1 M1, e = e1 + 1 ∧ Ev none e1 31 0 [some (.ref 3)] [] M v1 M1 0 0 ∧ Ev none e 39 33 [some (.ref 3), some (.int ak), some (.int (zI M 3 7)), none] (v1.toList ++ []) M1 v M' 0 0)) ∨ (¬ ((zI M 3 7) = 60) ∧ ¬ ((zI M 3 7) = 61) ∧ ¬ ((zI M 3 7) = 62) ∧ (∃ e1 v1 M1, e = e1 + 1 ∧ Ev none e1 27 0 [some (.ref 3), some (.int 1)] [] M v1 M1 0 0 ∧ Ev none e 39 28 [some (.ref 3), some (.int ak), some (.int (zI M 3 7)), none] (v1.toList ++ []) M1 v M' 0 0)) := by
  have H : Ev none e 39 1 [some (.ref 3), some (.int ak), none, none] [.ref 3] M v M' 0 0 := Ev.back 1 (fun n => rfl) H
  have H : Ev none e 39 4 [some (.ref 3), some (.int ak), none, none] [.int (zI M 3 7)] M v M' 0 0 := Ev.back 1 (gs_3 rfl rfl (gf_i hS.1 qa_3 qi_3_7 rfl)) H
  have H : Ev none e 39 (if (zI M 3 7) = 60 then 29 else 11) [some (.ref 3), some (.int ak), some (.int (zI M 3 7)), none] [] M v M' 0 0 := Ev.back 4 (fun n => rfl) H
  by_cases h1 : (zI M 3 7) = 60
  · rw [if_pos h1] at H
    have H : Ev none e 39 30 [some (.ref 3), some (.int ak), some (.int (zI M 3 7)), none] [.ref 3] M v M' 0 0 := Ev.back 1 (fun n => rfl) H
    obtain ⟨e1, rfl⟩ := Ev.dpos rfl rfl H
    obtain ⟨vK2, MK2, K2, H⟩ := Ev.callb (fun n => gs_7 rfl rfl (show gCal (.invokevirtual 140) 3 (.ref 3 :: []) M = some (.inr (31, [some (.ref 3)], [])) from by show @cond (Option ((List Value × Mem) ⊕ (Nat × Lo × List Value))) (true && gRecv M (.ref 3) 3 && gRoom [] && true) (some (.inr (31, [some (.ref 3)], []))) none = _; rw [recv_s hS.1 qa_3 qo_3]; rfl)) H
    have K2 : Ev none e1 31 0 [some (.ref 3)] [] M vK2 MK2 0 0 := K2
    have HF := H
    exact Or.inl ⟨h1, ⟨e1, vK2, MK2, rfl, K2, HF⟩⟩
  · rw [if_neg h1] at H
    have H : Ev none e 39 (if (zI M 3 7) = 61 then 29 else 17) [some (.ref 3), some (.int ak), some (.int (zI M 3 7)), none] [] M v M' 0 0 := Ev.back 3 (fun n => rfl) H
    by_cases h3 : (zI M 3 7) = 61
    · rw [if_pos h3] at H
      have H : Ev none e 39 30 [some (.ref 3), some (.int ak), some (.int (zI M 3 7)), none] [.ref 3] M v M' 0 0 := Ev.back 1 (fun n => rfl) H
      obtain ⟨e1, rfl⟩ := Ev.dpos rfl rfl H
      obtain ⟨vK4, MK4, K4, H⟩ := Ev.callb (fun n => gs_7 rfl rfl (show gCal (.invokevirtual 140) 3 (.ref 3 :: []) M = some (.inr (31, [some (.ref 3)], [])) from by show @cond (Option ((List Value × Mem) ⊕ (Nat × Lo × List Value))) (true && gRecv M (.ref 3) 3 && gRoom [] && true) (some (.inr (31, [some (.ref 3)], []))) none = _; rw [recv_s hS.1 qa_3 qo_3]; rfl)) H
      have K4 : Ev none e1 31 0 [some (.ref 3)] [] M vK4 MK4 0 0 := K4
      have HF := H
      exact Or.inr (Or.inl ⟨h1, h3, ⟨e1, vK4, MK4, rfl, K4, HF⟩⟩)
    · rw [if_neg h3] at H
      have H : Ev none e 39 (if (zI M 3 7) = 62 then 29 else 23) [some (.ref 3), some (.int ak), some (.int (zI M 3 7)), none] [] M v M' 0 0 := Ev.back 3 (fun n => rfl) H
      by_cases h5 : (zI M 3 7) = 62
      · rw [if_pos h5] at H
        have H : Ev none e 39 30 [some (.ref 3), some (.int ak), some (.int (zI M 3 7)), none] [.ref 3] M v M' 0 0 := Ev.back 1 (fun n => rfl) H
        obtain ⟨e1, rfl⟩ := Ev.dpos rfl rfl H
        obtain ⟨vK6, MK6, K6, H⟩ := Ev.callb (fun n => gs_7 rfl rfl (show gCal (.invokevirtual 140) 3 (.ref 3 :: []) M = some (.inr (31, [some (.ref 3)], [])) from by show @cond (Option ((List Value × Mem) ⊕ (Nat × Lo × List Value))) (true && gRecv M (.ref 3) 3 && gRoom [] && true) (some (.inr (31, [some (.ref 3)], []))) none = _; rw [recv_s hS.1 qa_3 qo_3]; rfl)) H
        have K6 : Ev none e1 31 0 [some (.ref 3)] [] M vK6 MK6 0 0 := K6
        have HF := H
        exact Or.inr (Or.inr (Or.inl ⟨h1, h3, h5, ⟨e1, vK6, MK6, rfl, K6, HF⟩⟩))
      · rw [if_neg h5] at H
        have H : Ev none e 39 25 [some (.ref 3), some (.int ak), some (.int (zI M 3 7)), none] [.int 1, .ref 3] M v M' 0 0 := Ev.back 2 (fun n => rfl) H
        obtain ⟨e1, rfl⟩ := Ev.dpos rfl rfl H
        obtain ⟨vK7, MK7, K7, H⟩ := Ev.callb (fun n => gs_7 rfl rfl (show gCal (.invokevirtual 68) 3 (.int 1 :: .ref 3 :: []) M = some (.inr (27, [some (.ref 3), some (.int 1)], [])) from by show @cond (Option ((List Value × Mem) ⊕ (Nat × Lo × List Value))) (true && gRecv M (.ref 3) 3 && gRoom [] && true) (some (.inr (27, [some (.ref 3), some (.int 1)], []))) none = _; rw [recv_s hS.1 qa_3 qo_3]; rfl)) H
        have K7 : Ev none e1 27 0 [some (.ref 3), some (.int 1)] [] M vK7 MK7 0 0 := K7
        have HF := H
        exact Or.inr (Or.inr (Or.inr (⟨h1, h3, h5, ⟨e1, vK7, MK7, rfl, K7, HF⟩⟩)))
theorem cm_28 {e : Nat} {M M' : Mem} {v : Option Value} {ak sg y : Int32} (hS : SQ M) (H : Ev none e 39 28 [some (.ref 3), some (.int ak), some (.int sg), none] [.int y] M v M' 0 0) : v = some (.int y) ∧ M' = M := by
  obtain ⟨z1, z2⟩ := Ev.retz rfl rfl H
  exact ⟨z1, z2⟩
theorem cm_33 {e : Nat} {M M' : Mem} {v : Option Value} {ak sg : Int32} (hS : SQ M) (H : Ev none e 39 33 [some (.ref 3), some (.int ak), some (.int sg), none] [] M v M' 0 0) : ((zI M 3 7) = 3 ∧ sg = 60 ∧ (∃ e1 v1 M1, e = e1 + 1 ∧ Ev none e1 40 0 [some (.ref 3), some (.int ak), some (.int 0), some (.int ((rI M 7 (zI M 3 6)) - 1))] [] M v1 M1 0 0 ∧ Ev none e 39 72 [some (.ref 3), some (.int ak), some (.int sg), some (.int (rI M 7 (zI M 3 6)))] (v1.toList ++ []) M1 v M' 0 0)) ∨ ((zI M 3 7) = 3 ∧ ¬ (sg = 60) ∧ sg = 61 ∧ (∃ e1 v1 M1, e = e1 + 1 ∧ Ev none e1 40 0 [some (.ref 3), some (.int ak), some (.int (rI M 7 (zI M 3 6))), some (.int (rI M 7 (zI M 3 6)))] [] M v1 M1 0 0 ∧ Ev none e 39 88 [some (.ref 3), some (.int ak), some (.int sg), some (.int (rI M 7 (zI M 3 6)))] (v1.toList ++ []) M1 v M' 0 0)) ∨ ((zI M 3 7) = 3 ∧ ¬ (sg = 60) ∧ ¬ (sg = 61) ∧ (∃ e1 v1 M1, e = e1 + 1 ∧ Ev none e1 40 0 [some (.ref 3), some (.int ak), some (.int ((rI M 7 (zI M 3 6)) + 1)), some (.int 2147483647)] [] M v1 M1 0 0 ∧ Ev none e 39 101 [some (.ref 3), some (.int ak), some (.int sg), some (.int (rI M 7 (zI M 3 6)))] (v1.toList ++ []) M1 v M' 0 0)) ∨ (¬ ((zI M 3 7) = 3) ∧ (∃ e1 v1 M1, e = e1 + 1 ∧ Ev none e1 27 0 [some (.ref 3), some (.int 1)] [] M v1 M1 0 0 ∧ Ev none e 39 46 [some (.ref 3), some (.int ak), some (.int sg), none] (v1.toList ++ []) M1 v M' 0 0)) := by
  have H : Ev none e 39 34 [some (.ref 3), some (.int ak), some (.int sg), none] [.ref 3] M v M' 0 0 := Ev.back 1 (fun n => rfl) H
  have H : Ev none e 39 37 [some (.ref 3), some (.int ak), some (.int sg), none] [.int (zI M 3 7)] M v M' 0 0 := Ev.back 1 (gs_3 rfl rfl (gf_i hS.1 qa_3 qi_3_7 rfl)) H
  have H : Ev none e 39 (if (zI M 3 7) = 3 then 47 else 41) [some (.ref 3), some (.int ak), some (.int sg), none] [] M v M' 0 0 := Ev.back 2 (fun n => rfl) H
  by_cases h1 : (zI M 3 7) = 3
  · rw [if_pos h1] at H
    have H : Ev none e 39 48 [some (.ref 3), some (.int ak), some (.int sg), none] [.ref 3] M v M' 0 0 := Ev.back 1 (fun n => rfl) H
    have H : Ev none e 39 51 [some (.ref 3), some (.int ak), some (.int sg), none] [.ref 7] M v M' 0 0 := Ev.back 1 (gs_3 rfl rfl (gf_u hS.1 qa_3 qr_3_4 qu_7 rfl)) H
    have H : Ev none e 39 52 [some (.ref 3), some (.int ak), some (.int sg), none] [.ref 3, .ref 7] M v M' 0 0 := Ev.back 1 (fun n => rfl) H
    have H : Ev none e 39 55 [some (.ref 3), some (.int ak), some (.int sg), none] [.int (zI M 3 6), .ref 7] M v M' 0 0 := Ev.back 1 (gs_3 rfl rfl (gf_i hS.1 qa_3 qi_3_6 rfl)) H
    obtain ⟨b2, H⟩ := Ev.ial rfl rfl hS.1 qa_7 qw_7 H
    have H : Ev none e 39 56 [some (.ref 3), some (.int ak), some (.int sg), none] [.int (rI M 7 (zI M 3 6))] M v M' 0 0 := H
    have H : Ev none e 39 (if sg = 60 then 63 else 75) [some (.ref 3), some (.int ak), some (.int sg), some (.int (rI M 7 (zI M 3 6)))] [] M v M' 0 0 := Ev.back 4 (fun n => rfl) H
    by_cases h3 : sg = 60
    · rw [if_pos h3] at H
      have H : Ev none e 39 69 [some (.ref 3), some (.int ak), some (.int sg), some (.int (rI M 7 (zI M 3 6)))] [.int ((rI M 7 (zI M 3 6)) - 1), .int 0, .int ak, .ref 3] M v M' 0 0 := Ev.back 6 (fun n => rfl) H
      obtain ⟨e1, rfl⟩ := Ev.dpos rfl rfl H
      obtain ⟨vK4, MK4, K4, H⟩ := Ev.callb (fun n => gs_7 rfl rfl (show gCal (.invokevirtual 173) 3 (.int ((rI M 7 (zI M 3 6)) - 1) :: .int 0 :: .int ak :: .ref 3 :: []) M = some (.inr (40, [some (.ref 3), some (.int ak), some (.int 0), some (.int ((rI M 7 (zI M 3 6)) - 1))], [])) from by show @cond (Option ((List Value × Mem) ⊕ (Nat × Lo × List Value))) (true && gRecv M (.ref 3) 3 && gRoom [] && true) (some (.inr (40, [some (.ref 3), some (.int ak), some (.int 0), some (.int ((rI M 7 (zI M 3 6)) - 1))], []))) none = _; rw [recv_s hS.1 qa_3 qo_3]; rfl)) H
      have K4 : Ev none e1 40 0 [some (.ref 3), some (.int ak), some (.int 0), some (.int ((rI M 7 (zI M 3 6)) - 1))] [] M vK4 MK4 0 0 := K4
      have HF := H
      exact Or.inl ⟨h1, h3, ⟨e1, vK4, MK4, rfl, K4, HF⟩⟩
    · rw [if_neg h3] at H
      have H : Ev none e 39 (if sg = 61 then 81 else 91) [some (.ref 3), some (.int ak), some (.int sg), some (.int (rI M 7 (zI M 3 6)))] [] M v M' 0 0 := Ev.back 3 (fun n => rfl) H
      by_cases h5 : sg = 61
      · rw [if_pos h5] at H
        have H : Ev none e 39 85 [some (.ref 3), some (.int ak), some (.int sg), some (.int (rI M 7 (zI M 3 6)))] [.int (rI M 7 (zI M 3 6)), .int (rI M 7 (zI M 3 6)), .int ak, .ref 3] M v M' 0 0 := Ev.back 4 (fun n => rfl) H
        obtain ⟨e1, rfl⟩ := Ev.dpos rfl rfl H
        obtain ⟨vK6, MK6, K6, H⟩ := Ev.callb (fun n => gs_7 rfl rfl (show gCal (.invokevirtual 173) 3 (.int (rI M 7 (zI M 3 6)) :: .int (rI M 7 (zI M 3 6)) :: .int ak :: .ref 3 :: []) M = some (.inr (40, [some (.ref 3), some (.int ak), some (.int (rI M 7 (zI M 3 6))), some (.int (rI M 7 (zI M 3 6)))], [])) from by show @cond (Option ((List Value × Mem) ⊕ (Nat × Lo × List Value))) (true && gRecv M (.ref 3) 3 && gRoom [] && true) (some (.inr (40, [some (.ref 3), some (.int ak), some (.int (rI M 7 (zI M 3 6))), some (.int (rI M 7 (zI M 3 6)))], []))) none = _; rw [recv_s hS.1 qa_3 qo_3]; rfl)) H
        have K6 : Ev none e1 40 0 [some (.ref 3), some (.int ak), some (.int (rI M 7 (zI M 3 6))), some (.int (rI M 7 (zI M 3 6)))] [] M vK6 MK6 0 0 := K6
        have HF := H
        exact Or.inr (Or.inl ⟨h1, h3, h5, ⟨e1, vK6, MK6, rfl, K6, HF⟩⟩)
      · rw [if_neg h5] at H
        have H : Ev none e 39 98 [some (.ref 3), some (.int ak), some (.int sg), some (.int (rI M 7 (zI M 3 6)))] [.int 2147483647, .int ((rI M 7 (zI M 3 6)) + 1), .int ak, .ref 3] M v M' 0 0 := Ev.back 6 (fun n => rfl) H
        obtain ⟨e1, rfl⟩ := Ev.dpos rfl rfl H
        obtain ⟨vK7, MK7, K7, H⟩ := Ev.callb (fun n => gs_7 rfl rfl (show gCal (.invokevirtual 173) 3 (.int 2147483647 :: .int ((rI M 7 (zI M 3 6)) + 1) :: .int ak :: .ref 3 :: []) M = some (.inr (40, [some (.ref 3), some (.int ak), some (.int ((rI M 7 (zI M 3 6)) + 1)), some (.int 2147483647)], [])) from by show @cond (Option ((List Value × Mem) ⊕ (Nat × Lo × List Value))) (true && gRecv M (.ref 3) 3 && gRoom [] && true) (some (.inr (40, [some (.ref 3), some (.int ak), some (.int ((rI M 7 (zI M 3 6)) + 1)), some (.int 2147483647)], []))) none = _; rw [recv_s hS.1 qa_3 qo_3]; rfl)) H
        have K7 : Ev none e1 40 0 [some (.ref 3), some (.int ak), some (.int ((rI M 7 (zI M 3 6)) + 1)), some (.int 2147483647)] [] M vK7 MK7 0 0 := K7
        have HF := H
        exact Or.inr (Or.inr (Or.inl ⟨h1, h3, h5, ⟨e1, vK7, MK7, rfl, K7, HF⟩⟩))
  · rw [if_neg h1] at H
    have H : Ev none e 39 43 [some (.ref 3), some (.int ak), some (.int sg), none] [.int 1, .ref 3] M v M' 0 0 := Ev.back 2 (fun n => rfl) H
    obtain ⟨e1, rfl⟩ := Ev.dpos rfl rfl H
    obtain ⟨vK8, MK8, K8, H⟩ := Ev.callb (fun n => gs_7 rfl rfl (show gCal (.invokevirtual 68) 3 (.int 1 :: .ref 3 :: []) M = some (.inr (27, [some (.ref 3), some (.int 1)], [])) from by show @cond (Option ((List Value × Mem) ⊕ (Nat × Lo × List Value))) (true && gRecv M (.ref 3) 3 && gRoom [] && true) (some (.inr (27, [some (.ref 3), some (.int 1)], []))) none = _; rw [recv_s hS.1 qa_3 qo_3]; rfl)) H
    have K8 : Ev none e1 27 0 [some (.ref 3), some (.int 1)] [] M vK8 MK8 0 0 := K8
    have HF := H
    exact Or.inr (Or.inr (Or.inr (⟨h1, ⟨e1, vK8, MK8, rfl, K8, HF⟩⟩)))
theorem cm_46 {e : Nat} {M M' : Mem} {v : Option Value} {ak sg y : Int32} (hS : SQ M) (H : Ev none e 39 46 [some (.ref 3), some (.int ak), some (.int sg), none] [.int y] M v M' 0 0) : v = some (.int y) ∧ M' = M := by
  obtain ⟨z1, z2⟩ := Ev.retz rfl rfl H
  exact ⟨z1, z2⟩
theorem cm_72 {e : Nat} {M M' : Mem} {v : Option Value} {ak sg nn : Int32} (hS : SQ M) (H : Ev none e 39 72 [some (.ref 3), some (.int ak), some (.int sg), some (.int nn)] [] M v M' 0 0) : (∃ e1 v1 M1, e = e1 + 1 ∧ Ev none e1 31 0 [some (.ref 3)] [] M v1 M1 0 0 ∧ Ev none e 39 105 [some (.ref 3), some (.int ak), some (.int sg), some (.int nn)] (v1.toList ++ []) M1 v M' 0 0) := by
  have H : Ev none e 39 102 [some (.ref 3), some (.int ak), some (.int sg), some (.int nn)] [.ref 3] M v M' 0 0 := Ev.back 2 (fun n => rfl) H
  obtain ⟨e1, rfl⟩ := Ev.dpos rfl rfl H
  obtain ⟨vK1, MK1, K1, H⟩ := Ev.callb (fun n => gs_7 rfl rfl (show gCal (.invokevirtual 140) 3 (.ref 3 :: []) M = some (.inr (31, [some (.ref 3)], [])) from by show @cond (Option ((List Value × Mem) ⊕ (Nat × Lo × List Value))) (true && gRecv M (.ref 3) 3 && gRoom [] && true) (some (.inr (31, [some (.ref 3)], []))) none = _; rw [recv_s hS.1 qa_3 qo_3]; rfl)) H
  have K1 : Ev none e1 31 0 [some (.ref 3)] [] M vK1 MK1 0 0 := K1
  have HF := H
  exact ⟨e1, vK1, MK1, rfl, K1, HF⟩
theorem cm_88 {e : Nat} {M M' : Mem} {v : Option Value} {ak sg nn : Int32} (hS : SQ M) (H : Ev none e 39 88 [some (.ref 3), some (.int ak), some (.int sg), some (.int nn)] [] M v M' 0 0) : (∃ e1 v1 M1, e = e1 + 1 ∧ Ev none e1 31 0 [some (.ref 3)] [] M v1 M1 0 0 ∧ Ev none e 39 105 [some (.ref 3), some (.int ak), some (.int sg), some (.int nn)] (v1.toList ++ []) M1 v M' 0 0) := by
  have H : Ev none e 39 102 [some (.ref 3), some (.int ak), some (.int sg), some (.int nn)] [.ref 3] M v M' 0 0 := Ev.back 2 (fun n => rfl) H
  obtain ⟨e1, rfl⟩ := Ev.dpos rfl rfl H
  obtain ⟨vK1, MK1, K1, H⟩ := Ev.callb (fun n => gs_7 rfl rfl (show gCal (.invokevirtual 140) 3 (.ref 3 :: []) M = some (.inr (31, [some (.ref 3)], [])) from by show @cond (Option ((List Value × Mem) ⊕ (Nat × Lo × List Value))) (true && gRecv M (.ref 3) 3 && gRoom [] && true) (some (.inr (31, [some (.ref 3)], []))) none = _; rw [recv_s hS.1 qa_3 qo_3]; rfl)) H
  have K1 : Ev none e1 31 0 [some (.ref 3)] [] M vK1 MK1 0 0 := K1
  have HF := H
  exact ⟨e1, vK1, MK1, rfl, K1, HF⟩
theorem cm_101 {e : Nat} {M M' : Mem} {v : Option Value} {ak sg nn : Int32} (hS : SQ M) (H : Ev none e 39 101 [some (.ref 3), some (.int ak), some (.int sg), some (.int nn)] [] M v M' 0 0) : (∃ e1 v1 M1, e = e1 + 1 ∧ Ev none e1 31 0 [some (.ref 3)] [] M v1 M1 0 0 ∧ Ev none e 39 105 [some (.ref 3), some (.int ak), some (.int sg), some (.int nn)] (v1.toList ++ []) M1 v M' 0 0) := by
  have H : Ev none e 39 102 [some (.ref 3), some (.int ak), some (.int sg), some (.int nn)] [.ref 3] M v M' 0 0 := Ev.back 1 (fun n => rfl) H
  obtain ⟨e1, rfl⟩ := Ev.dpos rfl rfl H
  obtain ⟨vK1, MK1, K1, H⟩ := Ev.callb (fun n => gs_7 rfl rfl (show gCal (.invokevirtual 140) 3 (.ref 3 :: []) M = some (.inr (31, [some (.ref 3)], [])) from by show @cond (Option ((List Value × Mem) ⊕ (Nat × Lo × List Value))) (true && gRecv M (.ref 3) 3 && gRoom [] && true) (some (.inr (31, [some (.ref 3)], []))) none = _; rw [recv_s hS.1 qa_3 qo_3]; rfl)) H
  have K1 : Ev none e1 31 0 [some (.ref 3)] [] M vK1 MK1 0 0 := K1
  have HF := H
  exact ⟨e1, vK1, MK1, rfl, K1, HF⟩
theorem cm_105 {e : Nat} {M M' : Mem} {v : Option Value} {ak sg nn : Int32} (hS : SQ M) (H : Ev none e 39 105 [some (.ref 3), some (.int ak), some (.int sg), some (.int nn)] [] M v M' 0 0) : v = some (.int 1) ∧ M' = M := by
  have H : Ev none e 39 106 [some (.ref 3), some (.int ak), some (.int sg), some (.int nn)] [.int 1] M v M' 0 0 := Ev.back 1 (fun n => rfl) H
  obtain ⟨z1, z2⟩ := Ev.retz rfl rfl H
  exact ⟨z1, z2⟩
theorem onq_0 {e : Nat} {M M' : Mem} {v : Option Value} {dz : Int32} (hS : SQ M) (H : Ev none e 38 0 [some (.ref 3), some (.int dz), none, none] [] M v M' 0 0) : (∃ e1 v1 M1, e = e1 + 1 ∧ Ev none e1 32 0 [some (.ref 3), some (.retAddr 16), none, none, none, none, none, none] [] M v1 M1 0 0 ∧ Ev none e 38 6 [some (.ref 3), some (.int dz), none, none] (v1.toList ++ []) M1 v M' 0 0) := by
  have H : Ev none e 38 3 [some (.ref 3), some (.int dz), none, none] [.retAddr 16, .ref 3] M v M' 0 0 := Ev.back 2 (fun n => rfl) H
  obtain ⟨e1, rfl⟩ := Ev.dpos rfl rfl H
  obtain ⟨vK1, MK1, K1, H⟩ := Ev.callb (fun n => gs_7 rfl rfl (show gCal (.invokevirtual 115) 3 (.retAddr 16 :: .ref 3 :: []) M = some (.inr (32, [some (.ref 3), some (.retAddr 16), none, none, none, none, none, none], [])) from by show @cond (Option ((List Value × Mem) ⊕ (Nat × Lo × List Value))) (true && gRecv M (.ref 3) 3 && gRoom [] && true) (some (.inr (32, [some (.ref 3), some (.retAddr 16), none, none, none, none, none, none], []))) none = _; rw [recv_s hS.1 qa_3 qo_3]; rfl)) H
  have K1 : Ev none e1 32 0 [some (.ref 3), some (.retAddr 16), none, none, none, none, none, none] [] M vK1 MK1 0 0 := K1
  have HF := H
  exact ⟨e1, vK1, MK1, rfl, K1, HF⟩
theorem onq_6 {e : Nat} {M M' : Mem} {v : Option Value} {dz a : Int32} (hS : SQ M) (H : Ev none e 38 6 [some (.ref 3), some (.int dz), none, none] [.int a] M v M' 0 0) : (0 ≤ a ∧ 40 ≤ (zI M 3 11) ∧ (∃ e1 v1 M1, e = e1 + 1 ∧ Ev none e1 27 0 [some (.ref 3), some (.int 4)] [] M v1 M1 0 0 ∧ Ev none e 38 46 [some (.ref 3), some (.int dz), some (.int a), none] (v1.toList ++ []) M1 v M' 0 0)) ∨ (0 ≤ a ∧ ¬ (40 ≤ (zI M 3 11)) ∧ dz ≤ 10 ∧ (∃ e1 v1 M1, e = e1 + 1 ∧ Ev none e1 31 0 [some (.ref 3)] [] (wF M 3 11 ((zI M 3 11) + 1)) v1 M1 0 0 ∧ Ev none e 38 61 [some (.ref 3), some (.int dz), some (.int a), none] (v1.toList ++ []) M1 v M' 0 0)) ∨ (0 ≤ a ∧ ¬ (40 ≤ (zI M 3 11)) ∧ ¬ (dz ≤ 10) ∧ (∃ e1 v1 M1, e = e1 + 1 ∧ Ev none e1 27 0 [some (.ref 3), some (.int 4)] [] M v1 M1 0 0 ∧ Ev none e 38 46 [some (.ref 3), some (.int dz), some (.int a), none] (v1.toList ++ []) M1 v M' 0 0)) ∨ (¬ (0 ≤ a) ∧ (zI M 3 7) = 40 ∧ 40 ≤ (zI M 3 11) ∧ (∃ e1 v1 M1, e = e1 + 1 ∧ Ev none e1 27 0 [some (.ref 3), some (.int 4)] [] M v1 M1 0 0 ∧ Ev none e 38 46 [some (.ref 3), some (.int dz), some (.int a), none] (v1.toList ++ []) M1 v M' 0 0)) ∨ (¬ (0 ≤ a) ∧ (zI M 3 7) = 40 ∧ ¬ (40 ≤ (zI M 3 11)) ∧ dz ≤ 10 ∧ (∃ e1 v1 M1, e = e1 + 1 ∧ Ev none e1 31 0 [some (.ref 3)] [] (wF M 3 11 ((zI M 3 11) + 1)) v1 M1 0 0 ∧ Ev none e 38 61 [some (.ref 3), some (.int dz), some (.int a), none] (v1.toList ++ []) M1 v M' 0 0)) ∨ (¬ (0 ≤ a) ∧ (zI M 3 7) = 40 ∧ ¬ (40 ≤ (zI M 3 11)) ∧ ¬ (dz ≤ 10) ∧ (∃ e1 v1 M1, e = e1 + 1 ∧ Ev none e1 27 0 [some (.ref 3), some (.int 4)] [] M v1 M1 0 0 ∧ Ev none e 38 46 [some (.ref 3), some (.int dz), some (.int a), none] (v1.toList ++ []) M1 v M' 0 0)) ∨ (¬ (0 ≤ a) ∧ ¬ ((zI M 3 7) = 40) ∧ (∃ e1 v1 M1, e = e1 + 1 ∧ Ev none e1 27 0 [some (.ref 3), some (.int 1)] [] M v1 M1 0 0 ∧ Ev none e 38 25 [some (.ref 3), some (.int dz), some (.int a), none] (v1.toList ++ []) M1 v M' 0 0)) := by
  have H : Ev none e 38 (if 0 ≤ a then 26 else 11) [some (.ref 3), some (.int dz), some (.int a), none] [] M v M' 0 0 := Ev.back 3 (fun n => rfl) H
  by_cases h1 : 0 ≤ a
  · rw [if_pos h1] at H
    have H : Ev none e 38 27 [some (.ref 3), some (.int dz), some (.int a), none] [.ref 3] M v M' 0 0 := Ev.back 1 (fun n => rfl) H
    have H : Ev none e 38 30 [some (.ref 3), some (.int dz), some (.int a), none] [.int (zI M 3 11)] M v M' 0 0 := Ev.back 1 (gs_3 rfl rfl (gf_i hS.1 qa_3 qi_3_11 rfl)) H
    have H : Ev none e 38 (if 40 ≤ (zI M 3 11) then 41 else 35) [some (.ref 3), some (.int dz), some (.int a), none] [] M v M' 0 0 := Ev.back 2 (fun n => rfl) H
    by_cases h2 : 40 ≤ (zI M 3 11)
    · rw [if_pos h2] at H
      have H : Ev none e 38 43 [some (.ref 3), some (.int dz), some (.int a), none] [.int 4, .ref 3] M v M' 0 0 := Ev.back 2 (fun n => rfl) H
      obtain ⟨e1, rfl⟩ := Ev.dpos rfl rfl H
      obtain ⟨vK3, MK3, K3, H⟩ := Ev.callb (fun n => gs_7 rfl rfl (show gCal (.invokevirtual 68) 3 (.int 4 :: .ref 3 :: []) M = some (.inr (27, [some (.ref 3), some (.int 4)], [])) from by show @cond (Option ((List Value × Mem) ⊕ (Nat × Lo × List Value))) (true && gRecv M (.ref 3) 3 && gRoom [] && true) (some (.inr (27, [some (.ref 3), some (.int 4)], []))) none = _; rw [recv_s hS.1 qa_3 qo_3]; rfl)) H
      have K3 : Ev none e1 27 0 [some (.ref 3), some (.int 4)] [] M vK3 MK3 0 0 := K3
      have HF := H
      exact Or.inl ⟨h1, h2, ⟨e1, vK3, MK3, rfl, K3, HF⟩⟩
    · rw [if_neg h2] at H
      have H : Ev none e 38 (if dz ≤ 10 then 47 else 41) [some (.ref 3), some (.int dz), some (.int a), none] [] M v M' 0 0 := Ev.back 3 (fun n => rfl) H
      by_cases h4 : dz ≤ 10
      · rw [if_pos h4] at H
        have H : Ev none e 38 49 [some (.ref 3), some (.int dz), some (.int a), none] [.ref 3, .ref 3] M v M' 0 0 := Ev.back 2 (fun n => rfl) H
        have H : Ev none e 38 52 [some (.ref 3), some (.int dz), some (.int a), none] [.int (zI M 3 11), .ref 3] M v M' 0 0 := Ev.back 1 (gs_3 rfl rfl (gf_i hS.1 qa_3 qi_3_11 rfl)) H
        have H : Ev none e 38 54 [some (.ref 3), some (.int dz), some (.int a), none] [.int ((zI M 3 11) + 1), .ref 3] M v M' 0 0 := Ev.back 2 (fun n => rfl) H
        obtain ⟨N6, eN6⟩ : ∃ N, N = (wF M 3 11 ((zI M 3 11) + 1)) := ⟨_, rfl⟩
        have hN6 : SQ N6 := by rw [eN6]; exact hS.kf
        have H : Ev none e 38 57 [some (.ref 3), some (.int dz), some (.int a), none] [] N6 v M' 0 0 := by rw [eN6]; exact Ev.pfi rfl rfl rfl hS.1 qa_3 qi_3_11 H
        have H : Ev none e 38 58 [some (.ref 3), some (.int dz), some (.int a), none] [.ref 3] N6 v M' 0 0 := Ev.back 1 (fun n => rfl) H
        obtain ⟨e1, rfl⟩ := Ev.dpos rfl rfl H
        obtain ⟨vK7, MK7, K7, H⟩ := Ev.callb (fun n => gs_7 rfl rfl (show gCal (.invokevirtual 140) 3 (.ref 3 :: []) N6 = some (.inr (31, [some (.ref 3)], [])) from by show @cond (Option ((List Value × Mem) ⊕ (Nat × Lo × List Value))) (true && gRecv N6 (.ref 3) 3 && gRoom [] && true) (some (.inr (31, [some (.ref 3)], []))) none = _; rw [recv_s hN6.1 qa_3 qo_3]; rfl)) H
        have K7 : Ev none e1 31 0 [some (.ref 3)] [] N6 vK7 MK7 0 0 := K7
        have HF := H
        subst eN6
        exact Or.inr (Or.inl ⟨h1, h2, h4, ⟨e1, vK7, MK7, rfl, K7, HF⟩⟩)
      · rw [if_neg h4] at H
        have H : Ev none e 38 43 [some (.ref 3), some (.int dz), some (.int a), none] [.int 4, .ref 3] M v M' 0 0 := Ev.back 2 (fun n => rfl) H
        obtain ⟨e1, rfl⟩ := Ev.dpos rfl rfl H
        obtain ⟨vK8, MK8, K8, H⟩ := Ev.callb (fun n => gs_7 rfl rfl (show gCal (.invokevirtual 68) 3 (.int 4 :: .ref 3 :: []) M = some (.inr (27, [some (.ref 3), some (.int 4)], [])) from by show @cond (Option ((List Value × Mem) ⊕ (Nat × Lo × List Value))) (true && gRecv M (.ref 3) 3 && gRoom [] && true) (some (.inr (27, [some (.ref 3), some (.int 4)], []))) none = _; rw [recv_s hS.1 qa_3 qo_3]; rfl)) H
        have K8 : Ev none e1 27 0 [some (.ref 3), some (.int 4)] [] M vK8 MK8 0 0 := K8
        have HF := H
        exact Or.inr (Or.inr (Or.inl ⟨h1, h2, h4, ⟨e1, vK8, MK8, rfl, K8, HF⟩⟩))
  · rw [if_neg h1] at H
    have H : Ev none e 38 12 [some (.ref 3), some (.int dz), some (.int a), none] [.ref 3] M v M' 0 0 := Ev.back 1 (fun n => rfl) H
    have H : Ev none e 38 15 [some (.ref 3), some (.int dz), some (.int a), none] [.int (zI M 3 7)] M v M' 0 0 := Ev.back 1 (gs_3 rfl rfl (gf_i hS.1 qa_3 qi_3_7 rfl)) H
    have H : Ev none e 38 (if (zI M 3 7) = 40 then 26 else 20) [some (.ref 3), some (.int dz), some (.int a), none] [] M v M' 0 0 := Ev.back 2 (fun n => rfl) H
    by_cases h9 : (zI M 3 7) = 40
    · rw [if_pos h9] at H
      have H : Ev none e 38 27 [some (.ref 3), some (.int dz), some (.int a), none] [.ref 3] M v M' 0 0 := Ev.back 1 (fun n => rfl) H
      have H : Ev none e 38 30 [some (.ref 3), some (.int dz), some (.int a), none] [.int (zI M 3 11)] M v M' 0 0 := Ev.back 1 (gs_3 rfl rfl (gf_i hS.1 qa_3 qi_3_11 rfl)) H
      have H : Ev none e 38 (if 40 ≤ (zI M 3 11) then 41 else 35) [some (.ref 3), some (.int dz), some (.int a), none] [] M v M' 0 0 := Ev.back 2 (fun n => rfl) H
      by_cases h10 : 40 ≤ (zI M 3 11)
      · rw [if_pos h10] at H
        have H : Ev none e 38 43 [some (.ref 3), some (.int dz), some (.int a), none] [.int 4, .ref 3] M v M' 0 0 := Ev.back 2 (fun n => rfl) H
        obtain ⟨e1, rfl⟩ := Ev.dpos rfl rfl H
        obtain ⟨vK11, MK11, K11, H⟩ := Ev.callb (fun n => gs_7 rfl rfl (show gCal (.invokevirtual 68) 3 (.int 4 :: .ref 3 :: []) M = some (.inr (27, [some (.ref 3), some (.int 4)], [])) from by show @cond (Option ((List Value × Mem) ⊕ (Nat × Lo × List Value))) (true && gRecv M (.ref 3) 3 && gRoom [] && true) (some (.inr (27, [some (.ref 3), some (.int 4)], []))) none = _; rw [recv_s hS.1 qa_3 qo_3]; rfl)) H
        have K11 : Ev none e1 27 0 [some (.ref 3), some (.int 4)] [] M vK11 MK11 0 0 := K11
        have HF := H
        exact Or.inr (Or.inr (Or.inr (Or.inl ⟨h1, h9, h10, ⟨e1, vK11, MK11, rfl, K11, HF⟩⟩)))
      · rw [if_neg h10] at H
        have H : Ev none e 38 (if dz ≤ 10 then 47 else 41) [some (.ref 3), some (.int dz), some (.int a), none] [] M v M' 0 0 := Ev.back 3 (fun n => rfl) H
        by_cases h12 : dz ≤ 10
        · rw [if_pos h12] at H
          have H : Ev none e 38 49 [some (.ref 3), some (.int dz), some (.int a), none] [.ref 3, .ref 3] M v M' 0 0 := Ev.back 2 (fun n => rfl) H
          have H : Ev none e 38 52 [some (.ref 3), some (.int dz), some (.int a), none] [.int (zI M 3 11), .ref 3] M v M' 0 0 := Ev.back 1 (gs_3 rfl rfl (gf_i hS.1 qa_3 qi_3_11 rfl)) H
          have H : Ev none e 38 54 [some (.ref 3), some (.int dz), some (.int a), none] [.int ((zI M 3 11) + 1), .ref 3] M v M' 0 0 := Ev.back 2 (fun n => rfl) H
          obtain ⟨N14, eN14⟩ : ∃ N, N = (wF M 3 11 ((zI M 3 11) + 1)) := ⟨_, rfl⟩
          have hN14 : SQ N14 := by rw [eN14]; exact hS.kf
          have H : Ev none e 38 57 [some (.ref 3), some (.int dz), some (.int a), none] [] N14 v M' 0 0 := by rw [eN14]; exact Ev.pfi rfl rfl rfl hS.1 qa_3 qi_3_11 H
          have H : Ev none e 38 58 [some (.ref 3), some (.int dz), some (.int a), none] [.ref 3] N14 v M' 0 0 := Ev.back 1 (fun n => rfl) H
          obtain ⟨e1, rfl⟩ := Ev.dpos rfl rfl H
          obtain ⟨vK15, MK15, K15, H⟩ := Ev.callb (fun n => gs_7 rfl rfl (show gCal (.invokevirtual 140) 3 (.ref 3 :: []) N14 = some (.inr (31, [some (.ref 3)], [])) from by show @cond (Option ((List Value × Mem) ⊕ (Nat × Lo × List Value))) (true && gRecv N14 (.ref 3) 3 && gRoom [] && true) (some (.inr (31, [some (.ref 3)], []))) none = _; rw [recv_s hN14.1 qa_3 qo_3]; rfl)) H
          have K15 : Ev none e1 31 0 [some (.ref 3)] [] N14 vK15 MK15 0 0 := K15
          have HF := H
          subst eN14
          exact Or.inr (Or.inr (Or.inr (Or.inr (Or.inl ⟨h1, h9, h10, h12, ⟨e1, vK15, MK15, rfl, K15, HF⟩⟩))))
        · rw [if_neg h12] at H
          have H : Ev none e 38 43 [some (.ref 3), some (.int dz), some (.int a), none] [.int 4, .ref 3] M v M' 0 0 := Ev.back 2 (fun n => rfl) H
          obtain ⟨e1, rfl⟩ := Ev.dpos rfl rfl H
          obtain ⟨vK16, MK16, K16, H⟩ := Ev.callb (fun n => gs_7 rfl rfl (show gCal (.invokevirtual 68) 3 (.int 4 :: .ref 3 :: []) M = some (.inr (27, [some (.ref 3), some (.int 4)], [])) from by show @cond (Option ((List Value × Mem) ⊕ (Nat × Lo × List Value))) (true && gRecv M (.ref 3) 3 && gRoom [] && true) (some (.inr (27, [some (.ref 3), some (.int 4)], []))) none = _; rw [recv_s hS.1 qa_3 qo_3]; rfl)) H
          have K16 : Ev none e1 27 0 [some (.ref 3), some (.int 4)] [] M vK16 MK16 0 0 := K16
          have HF := H
          exact Or.inr (Or.inr (Or.inr (Or.inr (Or.inr (Or.inl ⟨h1, h9, h10, h12, ⟨e1, vK16, MK16, rfl, K16, HF⟩⟩)))))
    · rw [if_neg h9] at H
      have H : Ev none e 38 22 [some (.ref 3), some (.int dz), some (.int a), none] [.int 1, .ref 3] M v M' 0 0 := Ev.back 2 (fun n => rfl) H
      obtain ⟨e1, rfl⟩ := Ev.dpos rfl rfl H
      obtain ⟨vK17, MK17, K17, H⟩ := Ev.callb (fun n => gs_7 rfl rfl (show gCal (.invokevirtual 68) 3 (.int 1 :: .ref 3 :: []) M = some (.inr (27, [some (.ref 3), some (.int 1)], [])) from by show @cond (Option ((List Value × Mem) ⊕ (Nat × Lo × List Value))) (true && gRecv M (.ref 3) 3 && gRoom [] && true) (some (.inr (27, [some (.ref 3), some (.int 1)], []))) none = _; rw [recv_s hS.1 qa_3 qo_3]; rfl)) H
      have K17 : Ev none e1 27 0 [some (.ref 3), some (.int 1)] [] M vK17 MK17 0 0 := K17
      have HF := H
      exact Or.inr (Or.inr (Or.inr (Or.inr (Or.inr (Or.inr (⟨h1, h9, ⟨e1, vK17, MK17, rfl, K17, HF⟩⟩))))))
theorem onq_25 {e : Nat} {M M' : Mem} {v : Option Value} {dz a y : Int32} (hS : SQ M) (H : Ev none e 38 25 [some (.ref 3), some (.int dz), some (.int a), none] [.int y] M v M' 0 0) : v = some (.int y) ∧ M' = M := by
  obtain ⟨z1, z2⟩ := Ev.retz rfl rfl H
  exact ⟨z1, z2⟩
theorem onq_46 {e : Nat} {M M' : Mem} {v : Option Value} {dz a y : Int32} (hS : SQ M) (H : Ev none e 38 46 [some (.ref 3), some (.int dz), some (.int a), none] [.int y] M v M' 0 0) : v = some (.int y) ∧ M' = M := by
  obtain ⟨z1, z2⟩ := Ev.retz rfl rfl H
  exact ⟨z1, z2⟩
theorem onq_61 {e : Nat} {M M' : Mem} {v : Option Value} {dz a : Int32} (hS : SQ M) (H : Ev none e 38 61 [some (.ref 3), some (.int dz), some (.int a), none] [] M v M' 0 0) : (0 ≤ a ∧ (sI 3 a) = 8 ∧ (∃ e1 v1 M1, e = e1 + 1 ∧ Ev none e1 38 0 [some (.ref 3), some (.int (dz + 1)), none, none] [] M v1 M1 0 0 ∧ Ev none e 38 117 [some (.ref 3), some (.int dz), some (.int a), some (.int (sI 3 a))] (v1.toList ++ []) M1 v M' 0 0)) ∨ (0 ≤ a ∧ ¬ ((sI 3 a) = 8) ∧ (sI 3 a) < 4 ∧ (∃ e1 v1 M1, e = e1 + 1 ∧ Ev none e1 40 0 [some (.ref 3), some (.int (sI 3 a)), some (.int (sI 4 a)), some (.int (sI 4 a))] [] M v1 M1 0 0 ∧ Ev none e 38 158 [some (.ref 3), some (.int dz), some (.int a), some (.int (sI 3 a))] (v1.toList ++ []) M1 v M' 0 0)) ∨ (0 ≤ a ∧ ¬ ((sI 3 a) = 8) ∧ ¬ ((sI 3 a) < 4) ∧ (∃ e1 v1 M1, e = e1 + 1 ∧ Ev none e1 39 0 [some (.ref 3), some (.int (sI 3 a)), none, none] [] M v1 M1 0 0 ∧ Ev none e 38 142 [some (.ref 3), some (.int dz), some (.int a), some (.int (sI 3 a))] (v1.toList ++ []) M1 v M' 0 0)) ∨ (¬ (0 ≤ a) ∧ (∃ e1 v1 M1, e = e1 + 1 ∧ Ev none e1 36 0 [some (.ref 3), some (.int (dz + 1)), none] [] M v1 M1 0 0 ∧ Ev none e 38 72 [some (.ref 3), some (.int dz), some (.int a), none] (v1.toList ++ []) M1 v M' 0 0)) := by
  have H : Ev none e 38 (if 0 ≤ a then 98 else 65) [some (.ref 3), some (.int dz), some (.int a), none] [] M v M' 0 0 := Ev.back 2 (fun n => rfl) H
  by_cases h1 : 0 ≤ a
  · rw [if_pos h1] at H
    have H : Ev none e 38 102 [some (.ref 3), some (.int dz), some (.int a), none] [.int a, .retAddr 3] M v M' 0 0 := Ev.back 2 (fun n => rfl) H
    have H : Ev none e 38 103 [some (.ref 3), some (.int dz), some (.int a), none] [.int (sI 3 a)] M v M' 0 0 := Ev.sal rfl rfl H
    have H : Ev none e 38 (if (sI 3 a) = 8 then 110 else 132) [some (.ref 3), some (.int dz), some (.int a), some (.int (sI 3 a))] [] M v M' 0 0 := Ev.back 4 (fun n => rfl) H
    by_cases h2 : (sI 3 a) = 8
    · rw [if_pos h2] at H
      have H : Ev none e 38 114 [some (.ref 3), some (.int dz), some (.int a), some (.int (sI 3 a))] [.int (dz + 1), .ref 3] M v M' 0 0 := Ev.back 4 (fun n => rfl) H
      obtain ⟨e1, rfl⟩ := Ev.dpos rfl rfl H
      obtain ⟨vK3, MK3, K3, H⟩ := Ev.callb (fun n => gs_7 rfl rfl (show gCal (.invokevirtual 177) 3 (.int (dz + 1) :: .ref 3 :: []) M = some (.inr (38, [some (.ref 3), some (.int (dz + 1)), none, none], [])) from by show @cond (Option ((List Value × Mem) ⊕ (Nat × Lo × List Value))) (true && gRecv M (.ref 3) 3 && gRoom [] && true) (some (.inr (38, [some (.ref 3), some (.int (dz + 1)), none, none], []))) none = _; rw [recv_s hS.1 qa_3 qo_3]; rfl)) H
      have K3 : Ev none e1 38 0 [some (.ref 3), some (.int (dz + 1)), none, none] [] M vK3 MK3 0 0 := K3
      have HF := H
      exact Or.inl ⟨h1, h2, ⟨e1, vK3, MK3, rfl, K3, HF⟩⟩
    · rw [if_neg h2] at H
      have H : Ev none e 38 (if (sI 3 a) < 4 then 143 else 137) [some (.ref 3), some (.int dz), some (.int a), some (.int (sI 3 a))] [] M v M' 0 0 := Ev.back 3 (fun n => rfl) H
      by_cases h4 : (sI 3 a) < 4
      · rw [if_pos h4] at H
        have H : Ev none e 38 149 [some (.ref 3), some (.int dz), some (.int a), some (.int (sI 3 a))] [.int a, .retAddr 4, .int (sI 3 a), .ref 3] M v M' 0 0 := Ev.back 4 (fun n => rfl) H
        have H : Ev none e 38 150 [some (.ref 3), some (.int dz), some (.int a), some (.int (sI 3 a))] [.int (sI 4 a), .int (sI 3 a), .ref 3] M v M' 0 0 := Ev.sal rfl rfl H
        have H : Ev none e 38 154 [some (.ref 3), some (.int dz), some (.int a), some (.int (sI 3 a))] [.int a, .retAddr 4, .int (sI 4 a), .int (sI 3 a), .ref 3] M v M' 0 0 := Ev.back 2 (fun n => rfl) H
        have H : Ev none e 38 155 [some (.ref 3), some (.int dz), some (.int a), some (.int (sI 3 a))] [.int (sI 4 a), .int (sI 4 a), .int (sI 3 a), .ref 3] M v M' 0 0 := Ev.sal rfl rfl H
        obtain ⟨e1, rfl⟩ := Ev.dpos rfl rfl H
        obtain ⟨vK5, MK5, K5, H⟩ := Ev.callb (fun n => gs_7 rfl rfl (show gCal (.invokevirtual 173) 3 (.int (sI 4 a) :: .int (sI 4 a) :: .int (sI 3 a) :: .ref 3 :: []) M = some (.inr (40, [some (.ref 3), some (.int (sI 3 a)), some (.int (sI 4 a)), some (.int (sI 4 a))], [])) from by show @cond (Option ((List Value × Mem) ⊕ (Nat × Lo × List Value))) (true && gRecv M (.ref 3) 3 && gRoom [] && true) (some (.inr (40, [some (.ref 3), some (.int (sI 3 a)), some (.int (sI 4 a)), some (.int (sI 4 a))], []))) none = _; rw [recv_s hS.1 qa_3 qo_3]; rfl)) H
        have K5 : Ev none e1 40 0 [some (.ref 3), some (.int (sI 3 a)), some (.int (sI 4 a)), some (.int (sI 4 a))] [] M vK5 MK5 0 0 := K5
        have HF := H
        exact Or.inr (Or.inl ⟨h1, h2, h4, ⟨e1, vK5, MK5, rfl, K5, HF⟩⟩)
      · rw [if_neg h4] at H
        have H : Ev none e 38 139 [some (.ref 3), some (.int dz), some (.int a), some (.int (sI 3 a))] [.int (sI 3 a), .ref 3] M v M' 0 0 := Ev.back 2 (fun n => rfl) H
        obtain ⟨e1, rfl⟩ := Ev.dpos rfl rfl H
        obtain ⟨vK6, MK6, K6, H⟩ := Ev.callb (fun n => gs_7 rfl rfl (show gCal (.invokevirtual 187) 3 (.int (sI 3 a) :: .ref 3 :: []) M = some (.inr (39, [some (.ref 3), some (.int (sI 3 a)), none, none], [])) from by show @cond (Option ((List Value × Mem) ⊕ (Nat × Lo × List Value))) (true && gRecv M (.ref 3) 3 && gRoom [] && true) (some (.inr (39, [some (.ref 3), some (.int (sI 3 a)), none, none], []))) none = _; rw [recv_s hS.1 qa_3 qo_3]; rfl)) H
        have K6 : Ev none e1 39 0 [some (.ref 3), some (.int (sI 3 a)), none, none] [] M vK6 MK6 0 0 := K6
        have HF := H
        exact Or.inr (Or.inr (Or.inl ⟨h1, h2, h4, ⟨e1, vK6, MK6, rfl, K6, HF⟩⟩))
  · rw [if_neg h1] at H
    have H : Ev none e 38 69 [some (.ref 3), some (.int dz), some (.int a), none] [.int (dz + 1), .ref 3] M v M' 0 0 := Ev.back 4 (fun n => rfl) H
    obtain ⟨e1, rfl⟩ := Ev.dpos rfl rfl H
    obtain ⟨vK7, MK7, K7, H⟩ := Ev.callb (fun n => gs_7 rfl rfl (show gCal (.invokevirtual 152) 3 (.int (dz + 1) :: .ref 3 :: []) M = some (.inr (36, [some (.ref 3), some (.int (dz + 1)), none], [])) from by show @cond (Option ((List Value × Mem) ⊕ (Nat × Lo × List Value))) (true && gRecv M (.ref 3) 3 && gRoom [] && true) (some (.inr (36, [some (.ref 3), some (.int (dz + 1)), none], []))) none = _; rw [recv_s hS.1 qa_3 qo_3]; rfl)) H
    have K7 : Ev none e1 36 0 [some (.ref 3), some (.int (dz + 1)), none] [] M vK7 MK7 0 0 := K7
    have HF := H
    exact Or.inr (Or.inr (Or.inr (⟨h1, ⟨e1, vK7, MK7, rfl, K7, HF⟩⟩)))
theorem onq_72 {e : Nat} {M M' : Mem} {v : Option Value} {dz a y : Int32} (hS : SQ M) (H : Ev none e 38 72 [some (.ref 3), some (.int dz), some (.int a), none] [.int y] M v M' 0 0) : (y = 0 ∧ v = some (.int 0) ∧ M' = M) ∨ (¬ (y = 0) ∧ (zI M 3 7) = 41 ∧ (∃ e1 v1 M1, e = e1 + 1 ∧ Ev none e1 31 0 [some (.ref 3)] [] M v1 M1 0 0 ∧ Ev none e 38 96 [some (.ref 3), some (.int dz), some (.int a), none] (v1.toList ++ []) M1 v M' 0 0)) ∨ (¬ (y = 0) ∧ ¬ ((zI M 3 7) = 41) ∧ (∃ e1 v1 M1, e = e1 + 1 ∧ Ev none e1 27 0 [some (.ref 3), some (.int 1)] [] M v1 M1 0 0 ∧ Ev none e 38 91 [some (.ref 3), some (.int dz), some (.int a), none] (v1.toList ++ []) M1 v M' 0 0)) := by
  have H : Ev none e 38 (if y = 0 then 75 else 77) [some (.ref 3), some (.int dz), some (.int a), none] [] M v M' 0 0 := Ev.back 1 (fun n => rfl) H
  by_cases h1 : y = 0
  · rw [if_pos h1] at H
    have H : Ev none e 38 76 [some (.ref 3), some (.int dz), some (.int a), none] [.int 0] M v M' 0 0 := Ev.back 1 (fun n => rfl) H
    obtain ⟨z1, z2⟩ := Ev.retz rfl rfl H
    exact Or.inl ⟨h1, z1, z2⟩
  · rw [if_neg h1] at H
    have H : Ev none e 38 78 [some (.ref 3), some (.int dz), some (.int a), none] [.ref 3] M v M' 0 0 := Ev.back 1 (fun n => rfl) H
    have H : Ev none e 38 81 [some (.ref 3), some (.int dz), some (.int a), none] [.int (zI M 3 7)] M v M' 0 0 := Ev.back 1 (gs_3 rfl rfl (gf_i hS.1 qa_3 qi_3_7 rfl)) H
    have H : Ev none e 38 (if (zI M 3 7) = 41 then 92 else 86) [some (.ref 3), some (.int dz), some (.int a), none] [] M v M' 0 0 := Ev.back 2 (fun n => rfl) H
    by_cases h2 : (zI M 3 7) = 41
    · rw [if_pos h2] at H
      have H : Ev none e 38 93 [some (.ref 3), some (.int dz), some (.int a), none] [.ref 3] M v M' 0 0 := Ev.back 1 (fun n => rfl) H
      obtain ⟨e1, rfl⟩ := Ev.dpos rfl rfl H
      obtain ⟨vK3, MK3, K3, H⟩ := Ev.callb (fun n => gs_7 rfl rfl (show gCal (.invokevirtual 140) 3 (.ref 3 :: []) M = some (.inr (31, [some (.ref 3)], [])) from by show @cond (Option ((List Value × Mem) ⊕ (Nat × Lo × List Value))) (true && gRecv M (.ref 3) 3 && gRoom [] && true) (some (.inr (31, [some (.ref 3)], []))) none = _; rw [recv_s hS.1 qa_3 qo_3]; rfl)) H
      have K3 : Ev none e1 31 0 [some (.ref 3)] [] M vK3 MK3 0 0 := K3
      have HF := H
      exact Or.inr (Or.inl ⟨h1, h2, ⟨e1, vK3, MK3, rfl, K3, HF⟩⟩)
    · rw [if_neg h2] at H
      have H : Ev none e 38 88 [some (.ref 3), some (.int dz), some (.int a), none] [.int 1, .ref 3] M v M' 0 0 := Ev.back 2 (fun n => rfl) H
      obtain ⟨e1, rfl⟩ := Ev.dpos rfl rfl H
      obtain ⟨vK4, MK4, K4, H⟩ := Ev.callb (fun n => gs_7 rfl rfl (show gCal (.invokevirtual 68) 3 (.int 1 :: .ref 3 :: []) M = some (.inr (27, [some (.ref 3), some (.int 1)], [])) from by show @cond (Option ((List Value × Mem) ⊕ (Nat × Lo × List Value))) (true && gRecv M (.ref 3) 3 && gRoom [] && true) (some (.inr (27, [some (.ref 3), some (.int 1)], []))) none = _; rw [recv_s hS.1 qa_3 qo_3]; rfl)) H
      have K4 : Ev none e1 27 0 [some (.ref 3), some (.int 1)] [] M vK4 MK4 0 0 := K4
      have HF := H
      exact Or.inr (Or.inr (⟨h1, h2, ⟨e1, vK4, MK4, rfl, K4, HF⟩⟩))
theorem onq_91 {e : Nat} {M M' : Mem} {v : Option Value} {dz a y : Int32} (hS : SQ M) (H : Ev none e 38 91 [some (.ref 3), some (.int dz), some (.int a), none] [.int y] M v M' 0 0) : v = some (.int y) ∧ M' = M := by
  obtain ⟨z1, z2⟩ := Ev.retz rfl rfl H
  exact ⟨z1, z2⟩
theorem onq_96 {e : Nat} {M M' : Mem} {v : Option Value} {dz a : Int32} (hS : SQ M) (H : Ev none e 38 96 [some (.ref 3), some (.int dz), some (.int a), none] [] M v M' 0 0) : v = some (.int 1) ∧ M' = M := by
  have H : Ev none e 38 97 [some (.ref 3), some (.int dz), some (.int a), none] [.int 1] M v M' 0 0 := Ev.back 1 (fun n => rfl) H
  obtain ⟨z1, z2⟩ := Ev.retz rfl rfl H
  exact ⟨z1, z2⟩
theorem onq_117 {e : Nat} {M M' : Mem} {v : Option Value} {dz a ak y : Int32} (hS : SQ M) (H : Ev none e 38 117 [some (.ref 3), some (.int dz), some (.int a), some (.int ak)] [.int y] M v M' 0 0) : (y = 0 ∧ v = some (.int 0) ∧ M' = M) ∨ (¬ (y = 0) ∧ (∃ e1 v1 M1, e = e1 + 1 ∧ Ev none e1 40 0 [some (.ref 3), some (.int 8), some (.int 0), some (.int 0)] [] M v1 M1 0 0 ∧ Ev none e 38 130 [some (.ref 3), some (.int dz), some (.int a), some (.int ak)] (v1.toList ++ []) M1 v M' 0 0)) := by
  have H : Ev none e 38 (if y = 0 then 120 else 122) [some (.ref 3), some (.int dz), some (.int a), some (.int ak)] [] M v M' 0 0 := Ev.back 1 (fun n => rfl) H
  by_cases h1 : y = 0
  · rw [if_pos h1] at H
    have H : Ev none e 38 121 [some (.ref 3), some (.int dz), some (.int a), some (.int ak)] [.int 0] M v M' 0 0 := Ev.back 1 (fun n => rfl) H
    obtain ⟨z1, z2⟩ := Ev.retz rfl rfl H
    exact Or.inl ⟨h1, z1, z2⟩
  · rw [if_neg h1] at H
    have H : Ev none e 38 127 [some (.ref 3), some (.int dz), some (.int a), some (.int ak)] [.int 0, .int 0, .int 8, .ref 3] M v M' 0 0 := Ev.back 4 (fun n => rfl) H
    obtain ⟨e1, rfl⟩ := Ev.dpos rfl rfl H
    obtain ⟨vK2, MK2, K2, H⟩ := Ev.callb (fun n => gs_7 rfl rfl (show gCal (.invokevirtual 173) 3 (.int 0 :: .int 0 :: .int 8 :: .ref 3 :: []) M = some (.inr (40, [some (.ref 3), some (.int 8), some (.int 0), some (.int 0)], [])) from by show @cond (Option ((List Value × Mem) ⊕ (Nat × Lo × List Value))) (true && gRecv M (.ref 3) 3 && gRoom [] && true) (some (.inr (40, [some (.ref 3), some (.int 8), some (.int 0), some (.int 0)], []))) none = _; rw [recv_s hS.1 qa_3 qo_3]; rfl)) H
    have K2 : Ev none e1 40 0 [some (.ref 3), some (.int 8), some (.int 0), some (.int 0)] [] M vK2 MK2 0 0 := K2
    have HF := H
    exact Or.inr (⟨h1, ⟨e1, vK2, MK2, rfl, K2, HF⟩⟩)
theorem onq_130 {e : Nat} {M M' : Mem} {v : Option Value} {dz a ak : Int32} (hS : SQ M) (H : Ev none e 38 130 [some (.ref 3), some (.int dz), some (.int a), some (.int ak)] [] M v M' 0 0) : v = some (.int 1) ∧ M' = M := by
  have H : Ev none e 38 131 [some (.ref 3), some (.int dz), some (.int a), some (.int ak)] [.int 1] M v M' 0 0 := Ev.back 1 (fun n => rfl) H
  obtain ⟨z1, z2⟩ := Ev.retz rfl rfl H
  exact ⟨z1, z2⟩
theorem onq_142 {e : Nat} {M M' : Mem} {v : Option Value} {dz a ak y : Int32} (hS : SQ M) (H : Ev none e 38 142 [some (.ref 3), some (.int dz), some (.int a), some (.int ak)] [.int y] M v M' 0 0) : v = some (.int y) ∧ M' = M := by
  obtain ⟨z1, z2⟩ := Ev.retz rfl rfl H
  exact ⟨z1, z2⟩
theorem onq_158 {e : Nat} {M M' : Mem} {v : Option Value} {dz a ak : Int32} (hS : SQ M) (H : Ev none e 38 158 [some (.ref 3), some (.int dz), some (.int a), some (.int ak)] [] M v M' 0 0) : v = some (.int 1) ∧ M' = M := by
  have H : Ev none e 38 159 [some (.ref 3), some (.int dz), some (.int a), some (.int ak)] [.int 1] M v M' 0 0 := Ev.back 1 (fun n => rfl) H
  obtain ⟨z1, z2⟩ := Ev.retz rfl rfl H
  exact ⟨z1, z2⟩
theorem al_0 {e : Nat} {M M' : Mem} {v : Option Value} {dz : Int32} (hS : SQ M) (H : Ev none e 37 0 [some (.ref 3), some (.int dz), none] [] M v M' 0 0) : (∃ e1 v1 M1, e = e1 + 1 ∧ Ev none e1 38 0 [some (.ref 3), some (.int dz), none, none] [] M v1 M1 0 0 ∧ Ev none e 37 5 [some (.ref 3), some (.int dz), none] (v1.toList ++ []) M1 v M' 0 0) := by
  have H : Ev none e 37 2 [some (.ref 3), some (.int dz), none] [.int dz, .ref 3] M v M' 0 0 := Ev.back 2 (fun n => rfl) H
  obtain ⟨e1, rfl⟩ := Ev.dpos rfl rfl H
  obtain ⟨vK1, MK1, K1, H⟩ := Ev.callb (fun n => gs_7 rfl rfl (show gCal (.invokevirtual 177) 3 (.int dz :: .ref 3 :: []) M = some (.inr (38, [some (.ref 3), some (.int dz), none, none], [])) from by show @cond (Option ((List Value × Mem) ⊕ (Nat × Lo × List Value))) (true && gRecv M (.ref 3) 3 && gRoom [] && true) (some (.inr (38, [some (.ref 3), some (.int dz), none, none], []))) none = _; rw [recv_s hS.1 qa_3 qo_3]; rfl)) H
  have K1 : Ev none e1 38 0 [some (.ref 3), some (.int dz), none, none] [] M vK1 MK1 0 0 := K1
  have HF := H
  exact ⟨e1, vK1, MK1, rfl, K1, HF⟩
theorem al_5 {e : Nat} {M M' : Mem} {v : Option Value} {dz y : Int32} (hS : SQ M) (H : Ev none e 37 5 [some (.ref 3), some (.int dz), none] [.int y] M v M' 0 0) : (y = 0 ∧ v = some (.int 0) ∧ M' = M) ∨ (¬ (y = 0) ∧ Ev none e 37 12 [some (.ref 3), some (.int dz), some (.int 0)] [] M v M' 0 0) := by
  have H : Ev none e 37 (if y = 0 then 8 else 10) [some (.ref 3), some (.int dz), none] [] M v M' 0 0 := Ev.back 1 (fun n => rfl) H
  by_cases h1 : y = 0
  · rw [if_pos h1] at H
    have H : Ev none e 37 9 [some (.ref 3), some (.int dz), none] [.int 0] M v M' 0 0 := Ev.back 1 (fun n => rfl) H
    obtain ⟨z1, z2⟩ := Ev.retz rfl rfl H
    exact Or.inl ⟨h1, z1, z2⟩
  · rw [if_neg h1] at H
    have H : Ev none e 37 12 [some (.ref 3), some (.int dz), some (.int 0)] [] M v M' 0 0 := Ev.back 2 (fun n => rfl) H
    have HF := H
    exact Or.inr (⟨h1, HF⟩)
theorem al_12 {e : Nat} {M M' : Mem} {v : Option Value} {dz nn : Int32} (hS : SQ M) (H : Ev none e 37 12 [some (.ref 3), some (.int dz), some (.int nn)] [] M v M' 0 0) : (40 ≤ nn ∧ v = some (.int 1) ∧ M' = M) ∨ (¬ (40 ≤ nn) ∧ (∃ e1 v1 M1, e = e1 + 1 ∧ Ev none e1 32 0 [some (.ref 3), some (.retAddr 15), none, none, none, none, none, none] [] M v1 M1 0 0 ∧ Ev none e 37 24 [some (.ref 3), some (.int dz), some (.int nn)] (v1.toList ++ []) M1 v M' 0 0)) := by
  have H : Ev none e 37 (if 40 ≤ nn then 55 else 18) [some (.ref 3), some (.int dz), some (.int nn)] [] M v M' 0 0 := Ev.back 3 (fun n => rfl) H
  by_cases h1 : 40 ≤ nn
  · rw [if_pos h1] at H
    have H : Ev none e 37 56 [some (.ref 3), some (.int dz), some (.int nn)] [.int 1] M v M' 0 0 := Ev.back 1 (fun n => rfl) H
    obtain ⟨z1, z2⟩ := Ev.retz rfl rfl H
    exact Or.inl ⟨h1, z1, z2⟩
  · rw [if_neg h1] at H
    have H : Ev none e 37 21 [some (.ref 3), some (.int dz), some (.int nn)] [.retAddr 15, .ref 3] M v M' 0 0 := Ev.back 2 (fun n => rfl) H
    obtain ⟨e1, rfl⟩ := Ev.dpos rfl rfl H
    obtain ⟨vK2, MK2, K2, H⟩ := Ev.callb (fun n => gs_7 rfl rfl (show gCal (.invokevirtual 115) 3 (.retAddr 15 :: .ref 3 :: []) M = some (.inr (32, [some (.ref 3), some (.retAddr 15), none, none, none, none, none, none], [])) from by show @cond (Option ((List Value × Mem) ⊕ (Nat × Lo × List Value))) (true && gRecv M (.ref 3) 3 && gRoom [] && true) (some (.inr (32, [some (.ref 3), some (.retAddr 15), none, none, none, none, none, none], []))) none = _; rw [recv_s hS.1 qa_3 qo_3]; rfl)) H
    have K2 : Ev none e1 32 0 [some (.ref 3), some (.retAddr 15), none, none, none, none, none, none] [] M vK2 MK2 0 0 := K2
    have HF := H
    exact Or.inr (⟨h1, ⟨e1, vK2, MK2, rfl, K2, HF⟩⟩)
theorem al_24 {e : Nat} {M M' : Mem} {v : Option Value} {dz nn y : Int32} (hS : SQ M) (H : Ev none e 37 24 [some (.ref 3), some (.int dz), some (.int nn)] [.int y] M v M' 0 0) : (y = 0 ∧ (∃ e1 v1 M1, e = e1 + 1 ∧ Ev none e1 31 0 [some (.ref 3)] [] M v1 M1 0 0 ∧ Ev none e 37 31 [some (.ref 3), some (.int dz), some (.int nn)] (v1.toList ++ []) M1 v M' 0 0)) ∨ (¬ (y = 0) ∧ v = some (.int 1) ∧ M' = M) := by
  have H : Ev none e 37 (if y = 0 then 27 else 55) [some (.ref 3), some (.int dz), some (.int nn)] [] M v M' 0 0 := Ev.back 1 (fun n => rfl) H
  by_cases h1 : y = 0
  · rw [if_pos h1] at H
    have H : Ev none e 37 28 [some (.ref 3), some (.int dz), some (.int nn)] [.ref 3] M v M' 0 0 := Ev.back 1 (fun n => rfl) H
    obtain ⟨e1, rfl⟩ := Ev.dpos rfl rfl H
    obtain ⟨vK2, MK2, K2, H⟩ := Ev.callb (fun n => gs_7 rfl rfl (show gCal (.invokevirtual 140) 3 (.ref 3 :: []) M = some (.inr (31, [some (.ref 3)], [])) from by show @cond (Option ((List Value × Mem) ⊕ (Nat × Lo × List Value))) (true && gRecv M (.ref 3) 3 && gRoom [] && true) (some (.inr (31, [some (.ref 3)], []))) none = _; rw [recv_s hS.1 qa_3 qo_3]; rfl)) H
    have K2 : Ev none e1 31 0 [some (.ref 3)] [] M vK2 MK2 0 0 := K2
    have HF := H
    exact Or.inl ⟨h1, ⟨e1, vK2, MK2, rfl, K2, HF⟩⟩
  · rw [if_neg h1] at H
    have H : Ev none e 37 56 [some (.ref 3), some (.int dz), some (.int nn)] [.int 1] M v M' 0 0 := Ev.back 1 (fun n => rfl) H
    obtain ⟨z1, z2⟩ := Ev.retz rfl rfl H
    exact Or.inr (⟨h1, z1, z2⟩)
theorem al_31 {e : Nat} {M M' : Mem} {v : Option Value} {dz nn : Int32} (hS : SQ M) (H : Ev none e 37 31 [some (.ref 3), some (.int dz), some (.int nn)] [] M v M' 0 0) : (∃ e1 v1 M1, e = e1 + 1 ∧ Ev none e1 38 0 [some (.ref 3), some (.int dz), none, none] [] M v1 M1 0 0 ∧ Ev none e 37 36 [some (.ref 3), some (.int dz), some (.int nn)] (v1.toList ++ []) M1 v M' 0 0) := by
  have H : Ev none e 37 33 [some (.ref 3), some (.int dz), some (.int nn)] [.int dz, .ref 3] M v M' 0 0 := Ev.back 2 (fun n => rfl) H
  obtain ⟨e1, rfl⟩ := Ev.dpos rfl rfl H
  obtain ⟨vK1, MK1, K1, H⟩ := Ev.callb (fun n => gs_7 rfl rfl (show gCal (.invokevirtual 177) 3 (.int dz :: .ref 3 :: []) M = some (.inr (38, [some (.ref 3), some (.int dz), none, none], [])) from by show @cond (Option ((List Value × Mem) ⊕ (Nat × Lo × List Value))) (true && gRecv M (.ref 3) 3 && gRoom [] && true) (some (.inr (38, [some (.ref 3), some (.int dz), none, none], []))) none = _; rw [recv_s hS.1 qa_3 qo_3]; rfl)) H
  have K1 : Ev none e1 38 0 [some (.ref 3), some (.int dz), none, none] [] M vK1 MK1 0 0 := K1
  have HF := H
  exact ⟨e1, vK1, MK1, rfl, K1, HF⟩
theorem al_36 {e : Nat} {M M' : Mem} {v : Option Value} {dz nn y : Int32} (hS : SQ M) (H : Ev none e 37 36 [some (.ref 3), some (.int dz), some (.int nn)] [.int y] M v M' 0 0) : (y = 0 ∧ v = some (.int 0) ∧ M' = M) ∨ (¬ (y = 0) ∧ (∃ e1 v1 M1, e = e1 + 1 ∧ Ev none e1 40 0 [some (.ref 3), some (.int 9), some (.int 0), some (.int 0)] [] M v1 M1 0 0 ∧ Ev none e 37 49 [some (.ref 3), some (.int dz), some (.int nn)] (v1.toList ++ []) M1 v M' 0 0)) := by
  have H : Ev none e 37 (if y = 0 then 39 else 41) [some (.ref 3), some (.int dz), some (.int nn)] [] M v M' 0 0 := Ev.back 1 (fun n => rfl) H
  by_cases h1 : y = 0
  · rw [if_pos h1] at H
    have H : Ev none e 37 40 [some (.ref 3), some (.int dz), some (.int nn)] [.int 0] M v M' 0 0 := Ev.back 1 (fun n => rfl) H
    obtain ⟨z1, z2⟩ := Ev.retz rfl rfl H
    exact Or.inl ⟨h1, z1, z2⟩
  · rw [if_neg h1] at H
    have H : Ev none e 37 46 [some (.ref 3), some (.int dz), some (.int nn)] [.int 0, .int 0, .int 9, .ref 3] M v M' 0 0 := Ev.back 4 (fun n => rfl) H
    obtain ⟨e1, rfl⟩ := Ev.dpos rfl rfl H
    obtain ⟨vK2, MK2, K2, H⟩ := Ev.callb (fun n => gs_7 rfl rfl (show gCal (.invokevirtual 173) 3 (.int 0 :: .int 0 :: .int 9 :: .ref 3 :: []) M = some (.inr (40, [some (.ref 3), some (.int 9), some (.int 0), some (.int 0)], [])) from by show @cond (Option ((List Value × Mem) ⊕ (Nat × Lo × List Value))) (true && gRecv M (.ref 3) 3 && gRoom [] && true) (some (.inr (40, [some (.ref 3), some (.int 9), some (.int 0), some (.int 0)], []))) none = _; rw [recv_s hS.1 qa_3 qo_3]; rfl)) H
    have K2 : Ev none e1 40 0 [some (.ref 3), some (.int 9), some (.int 0), some (.int 0)] [] M vK2 MK2 0 0 := K2
    have HF := H
    exact Or.inr (⟨h1, ⟨e1, vK2, MK2, rfl, K2, HF⟩⟩)
theorem al_49 {e : Nat} {M M' : Mem} {v : Option Value} {dz nn : Int32} (hS : SQ M) (H : Ev none e 37 49 [some (.ref 3), some (.int dz), some (.int nn)] [] M v M' 0 0) : Ev none e 37 12 [some (.ref 3), some (.int dz), some (.int (nn + 1))] [] M v M' 0 0 := by
  have H : Ev none e 37 12 [some (.ref 3), some (.int dz), some (.int (nn + 1))] [] M v M' 0 0 := Ev.back 2 (fun n => rfl) H
  have HF := H
  exact HF
theorem coq_0 {e : Nat} {M M' : Mem} {v : Option Value} {dz : Int32} (hS : SQ M) (H : Ev none e 36 0 [some (.ref 3), some (.int dz), none] [] M v M' 0 0) : (∃ e1 v1 M1, e = e1 + 1 ∧ Ev none e1 37 0 [some (.ref 3), some (.int dz), none] [] M v1 M1 0 0 ∧ Ev none e 36 5 [some (.ref 3), some (.int dz), none] (v1.toList ++ []) M1 v M' 0 0) := by
  have H : Ev none e 36 2 [some (.ref 3), some (.int dz), none] [.int dz, .ref 3] M v M' 0 0 := Ev.back 2 (fun n => rfl) H
  obtain ⟨e1, rfl⟩ := Ev.dpos rfl rfl H
  obtain ⟨vK1, MK1, K1, H⟩ := Ev.callb (fun n => gs_7 rfl rfl (show gCal (.invokevirtual 168) 3 (.int dz :: .ref 3 :: []) M = some (.inr (37, [some (.ref 3), some (.int dz), none], [])) from by show @cond (Option ((List Value × Mem) ⊕ (Nat × Lo × List Value))) (true && gRecv M (.ref 3) 3 && gRoom [] && true) (some (.inr (37, [some (.ref 3), some (.int dz), none], []))) none = _; rw [recv_s hS.1 qa_3 qo_3]; rfl)) H
  have K1 : Ev none e1 37 0 [some (.ref 3), some (.int dz), none] [] M vK1 MK1 0 0 := K1
  have HF := H
  exact ⟨e1, vK1, MK1, rfl, K1, HF⟩
theorem coq_5 {e : Nat} {M M' : Mem} {v : Option Value} {dz y : Int32} (hS : SQ M) (H : Ev none e 36 5 [some (.ref 3), some (.int dz), none] [.int y] M v M' 0 0) : (y = 0 ∧ v = some (.int 0) ∧ M' = M) ∨ (¬ (y = 0) ∧ Ev none e 36 12 [some (.ref 3), some (.int dz), some (.int 0)] [] M v M' 0 0) := by
  have H : Ev none e 36 (if y = 0 then 8 else 10) [some (.ref 3), some (.int dz), none] [] M v M' 0 0 := Ev.back 1 (fun n => rfl) H
  by_cases h1 : y = 0
  · rw [if_pos h1] at H
    have H : Ev none e 36 9 [some (.ref 3), some (.int dz), none] [.int 0] M v M' 0 0 := Ev.back 1 (fun n => rfl) H
    obtain ⟨z1, z2⟩ := Ev.retz rfl rfl H
    exact Or.inl ⟨h1, z1, z2⟩
  · rw [if_neg h1] at H
    have H : Ev none e 36 12 [some (.ref 3), some (.int dz), some (.int 0)] [] M v M' 0 0 := Ev.back 2 (fun n => rfl) H
    have HF := H
    exact Or.inr (⟨h1, HF⟩)
theorem coq_12 {e : Nat} {M M' : Mem} {v : Option Value} {dz nn : Int32} (hS : SQ M) (H : Ev none e 36 12 [some (.ref 3), some (.int dz), some (.int nn)] [] M v M' 0 0) : (40 ≤ nn ∧ v = some (.int 1) ∧ M' = M) ∨ (¬ (40 ≤ nn) ∧ (∃ e1 v1 M1, e = e1 + 1 ∧ Ev none e1 32 0 [some (.ref 3), some (.retAddr 14), none, none, none, none, none, none] [] M v1 M1 0 0 ∧ Ev none e 36 24 [some (.ref 3), some (.int dz), some (.int nn)] (v1.toList ++ []) M1 v M' 0 0)) := by
  have H : Ev none e 36 (if 40 ≤ nn then 55 else 18) [some (.ref 3), some (.int dz), some (.int nn)] [] M v M' 0 0 := Ev.back 3 (fun n => rfl) H
  by_cases h1 : 40 ≤ nn
  · rw [if_pos h1] at H
    have H : Ev none e 36 56 [some (.ref 3), some (.int dz), some (.int nn)] [.int 1] M v M' 0 0 := Ev.back 1 (fun n => rfl) H
    obtain ⟨z1, z2⟩ := Ev.retz rfl rfl H
    exact Or.inl ⟨h1, z1, z2⟩
  · rw [if_neg h1] at H
    have H : Ev none e 36 21 [some (.ref 3), some (.int dz), some (.int nn)] [.retAddr 14, .ref 3] M v M' 0 0 := Ev.back 2 (fun n => rfl) H
    obtain ⟨e1, rfl⟩ := Ev.dpos rfl rfl H
    obtain ⟨vK2, MK2, K2, H⟩ := Ev.callb (fun n => gs_7 rfl rfl (show gCal (.invokevirtual 115) 3 (.retAddr 14 :: .ref 3 :: []) M = some (.inr (32, [some (.ref 3), some (.retAddr 14), none, none, none, none, none, none], [])) from by show @cond (Option ((List Value × Mem) ⊕ (Nat × Lo × List Value))) (true && gRecv M (.ref 3) 3 && gRoom [] && true) (some (.inr (32, [some (.ref 3), some (.retAddr 14), none, none, none, none, none, none], []))) none = _; rw [recv_s hS.1 qa_3 qo_3]; rfl)) H
    have K2 : Ev none e1 32 0 [some (.ref 3), some (.retAddr 14), none, none, none, none, none, none] [] M vK2 MK2 0 0 := K2
    have HF := H
    exact Or.inr (⟨h1, ⟨e1, vK2, MK2, rfl, K2, HF⟩⟩)
theorem coq_24 {e : Nat} {M M' : Mem} {v : Option Value} {dz nn y : Int32} (hS : SQ M) (H : Ev none e 36 24 [some (.ref 3), some (.int dz), some (.int nn)] [.int y] M v M' 0 0) : (y = 0 ∧ (∃ e1 v1 M1, e = e1 + 1 ∧ Ev none e1 31 0 [some (.ref 3)] [] M v1 M1 0 0 ∧ Ev none e 36 31 [some (.ref 3), some (.int dz), some (.int nn)] (v1.toList ++ []) M1 v M' 0 0)) ∨ (¬ (y = 0) ∧ v = some (.int 1) ∧ M' = M) := by
  have H : Ev none e 36 (if y = 0 then 27 else 55) [some (.ref 3), some (.int dz), some (.int nn)] [] M v M' 0 0 := Ev.back 1 (fun n => rfl) H
  by_cases h1 : y = 0
  · rw [if_pos h1] at H
    have H : Ev none e 36 28 [some (.ref 3), some (.int dz), some (.int nn)] [.ref 3] M v M' 0 0 := Ev.back 1 (fun n => rfl) H
    obtain ⟨e1, rfl⟩ := Ev.dpos rfl rfl H
    obtain ⟨vK2, MK2, K2, H⟩ := Ev.callb (fun n => gs_7 rfl rfl (show gCal (.invokevirtual 140) 3 (.ref 3 :: []) M = some (.inr (31, [some (.ref 3)], [])) from by show @cond (Option ((List Value × Mem) ⊕ (Nat × Lo × List Value))) (true && gRecv M (.ref 3) 3 && gRoom [] && true) (some (.inr (31, [some (.ref 3)], []))) none = _; rw [recv_s hS.1 qa_3 qo_3]; rfl)) H
    have K2 : Ev none e1 31 0 [some (.ref 3)] [] M vK2 MK2 0 0 := K2
    have HF := H
    exact Or.inl ⟨h1, ⟨e1, vK2, MK2, rfl, K2, HF⟩⟩
  · rw [if_neg h1] at H
    have H : Ev none e 36 56 [some (.ref 3), some (.int dz), some (.int nn)] [.int 1] M v M' 0 0 := Ev.back 1 (fun n => rfl) H
    obtain ⟨z1, z2⟩ := Ev.retz rfl rfl H
    exact Or.inr (⟨h1, z1, z2⟩)
theorem coq_31 {e : Nat} {M M' : Mem} {v : Option Value} {dz nn : Int32} (hS : SQ M) (H : Ev none e 36 31 [some (.ref 3), some (.int dz), some (.int nn)] [] M v M' 0 0) : (∃ e1 v1 M1, e = e1 + 1 ∧ Ev none e1 37 0 [some (.ref 3), some (.int dz), none] [] M v1 M1 0 0 ∧ Ev none e 36 36 [some (.ref 3), some (.int dz), some (.int nn)] (v1.toList ++ []) M1 v M' 0 0) := by
  have H : Ev none e 36 33 [some (.ref 3), some (.int dz), some (.int nn)] [.int dz, .ref 3] M v M' 0 0 := Ev.back 2 (fun n => rfl) H
  obtain ⟨e1, rfl⟩ := Ev.dpos rfl rfl H
  obtain ⟨vK1, MK1, K1, H⟩ := Ev.callb (fun n => gs_7 rfl rfl (show gCal (.invokevirtual 168) 3 (.int dz :: .ref 3 :: []) M = some (.inr (37, [some (.ref 3), some (.int dz), none], [])) from by show @cond (Option ((List Value × Mem) ⊕ (Nat × Lo × List Value))) (true && gRecv M (.ref 3) 3 && gRoom [] && true) (some (.inr (37, [some (.ref 3), some (.int dz), none], []))) none = _; rw [recv_s hS.1 qa_3 qo_3]; rfl)) H
  have K1 : Ev none e1 37 0 [some (.ref 3), some (.int dz), none] [] M vK1 MK1 0 0 := K1
  have HF := H
  exact ⟨e1, vK1, MK1, rfl, K1, HF⟩
theorem coq_36 {e : Nat} {M M' : Mem} {v : Option Value} {dz nn y : Int32} (hS : SQ M) (H : Ev none e 36 36 [some (.ref 3), some (.int dz), some (.int nn)] [.int y] M v M' 0 0) : (y = 0 ∧ v = some (.int 0) ∧ M' = M) ∨ (¬ (y = 0) ∧ (∃ e1 v1 M1, e = e1 + 1 ∧ Ev none e1 40 0 [some (.ref 3), some (.int 10), some (.int 0), some (.int 0)] [] M v1 M1 0 0 ∧ Ev none e 36 49 [some (.ref 3), some (.int dz), some (.int nn)] (v1.toList ++ []) M1 v M' 0 0)) := by
  have H : Ev none e 36 (if y = 0 then 39 else 41) [some (.ref 3), some (.int dz), some (.int nn)] [] M v M' 0 0 := Ev.back 1 (fun n => rfl) H
  by_cases h1 : y = 0
  · rw [if_pos h1] at H
    have H : Ev none e 36 40 [some (.ref 3), some (.int dz), some (.int nn)] [.int 0] M v M' 0 0 := Ev.back 1 (fun n => rfl) H
    obtain ⟨z1, z2⟩ := Ev.retz rfl rfl H
    exact Or.inl ⟨h1, z1, z2⟩
  · rw [if_neg h1] at H
    have H : Ev none e 36 46 [some (.ref 3), some (.int dz), some (.int nn)] [.int 0, .int 0, .int 10, .ref 3] M v M' 0 0 := Ev.back 4 (fun n => rfl) H
    obtain ⟨e1, rfl⟩ := Ev.dpos rfl rfl H
    obtain ⟨vK2, MK2, K2, H⟩ := Ev.callb (fun n => gs_7 rfl rfl (show gCal (.invokevirtual 173) 3 (.int 0 :: .int 0 :: .int 10 :: .ref 3 :: []) M = some (.inr (40, [some (.ref 3), some (.int 10), some (.int 0), some (.int 0)], [])) from by show @cond (Option ((List Value × Mem) ⊕ (Nat × Lo × List Value))) (true && gRecv M (.ref 3) 3 && gRoom [] && true) (some (.inr (40, [some (.ref 3), some (.int 10), some (.int 0), some (.int 0)], []))) none = _; rw [recv_s hS.1 qa_3 qo_3]; rfl)) H
    have K2 : Ev none e1 40 0 [some (.ref 3), some (.int 10), some (.int 0), some (.int 0)] [] M vK2 MK2 0 0 := K2
    have HF := H
    exact Or.inr (⟨h1, ⟨e1, vK2, MK2, rfl, K2, HF⟩⟩)
theorem coq_49 {e : Nat} {M M' : Mem} {v : Option Value} {dz nn : Int32} (hS : SQ M) (H : Ev none e 36 49 [some (.ref 3), some (.int dz), some (.int nn)] [] M v M' 0 0) : Ev none e 36 12 [some (.ref 3), some (.int dz), some (.int (nn + 1))] [] M v M' 0 0 := by
  have H : Ev none e 36 12 [some (.ref 3), some (.int dz), some (.int (nn + 1))] [] M v M' 0 0 := Ev.back 2 (fun n => rfl) H
  have HF := H
  exact HF
