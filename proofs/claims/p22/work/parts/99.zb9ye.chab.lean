/-! THE CLASS: pieces of habit (made by gcl.py) -/
theorem hb_0 {e : Nat} {M M' : Mem} {v : Option Value} {x : Int32} (hS : SQ M) (H : Ev none e 86 0 [some (.ref 0), some (.int x), none, none] [] M v M' 0 0) : ((G_126 M x 0 5) = 0 ∧ v = some (.int (-1000)) ∧ M' = (wF M 1 1 0)) ∨ (¬ ((G_126 M x 0 5) = 0) ∧ (∃ e1 v1 M1, e = e1 + 1 ∧ Ev none e1 26 0 [some (.ref 3), some (.ref (fR M 104 3)), some (.int 0), none] [] M v1 M1 0 0 ∧ Ev none e 86 36 [some (.ref 0), some (.int x), none, none] (v1.toList ++ []) M1 v M' 0 0)) := by
  have H : Ev none e 86 3 [some (.ref 0), some (.int x), none, none] [.int 5, .int 0, .int x] M v M' 0 0 := Ev.back 3 (fun n => rfl) H
  obtain ⟨e1, rfl⟩ := Ev.dpos rfl rfl H
  obtain ⟨vK1, MK1, K1, H⟩ := Ev.callb (fun n => rfl) H
  obtain ⟨pK1, qK1⟩ := g_126 hS K1
  rw [pK1, qK1] at H
  have H : Ev none (e1 + 1) 86 6 [some (.ref 0), some (.int x), none, none] [.int (G_126 M x 0 5)] M v M' 0 0 := H
  have H : Ev none (e1 + 1) 86 (if (G_126 M x 0 5) = 0 then 9 else 21) [some (.ref 0), some (.int x), none, none] [] M v M' 0 0 := Ev.back 1 (fun n => rfl) H
  by_cases h2 : (G_126 M x 0 5) = 0
  · rw [if_pos h2] at H
    have H : Ev none (e1 + 1) 86 10 [some (.ref 0), some (.int x), none, none] [.ref 0] M v M' 0 0 := Ev.back 1 (fun n => rfl) H
    have H : Ev none (e1 + 1) 86 13 [some (.ref 0), some (.int x), none, none] [.ref 1] M v M' 0 0 := Ev.back 1 (gs_3 rfl rfl (gf_u hS.1 qa_0 qr_0_0 qu_1 rfl)) H
    have H : Ev none (e1 + 1) 86 14 [some (.ref 0), some (.int x), none, none] [.int 0, .ref 1] M v M' 0 0 := Ev.back 1 (fun n => rfl) H
    obtain ⟨N4, eN4⟩ : ∃ N, N = (wF M 1 1 0) := ⟨_, rfl⟩
    have hN4 : SQ N4 := by rw [eN4]; exact hS.kf
    have H : Ev none (e1 + 1) 86 17 [some (.ref 0), some (.int x), none, none] [] N4 v M' 0 0 := by rw [eN4]; exact Ev.pfi rfl rfl rfl hS.1 qa_1 qi_1_1 H
    have H : Ev none (e1 + 1) 86 20 [some (.ref 0), some (.int x), none, none] [.int (-1000)] N4 v M' 0 0 := Ev.back 1 (fun n => rfl) H
    obtain ⟨z1, z2⟩ := Ev.retz rfl rfl H
    subst eN4
    exact Or.inl ⟨h2, z1, z2⟩
  · rw [if_neg h2] at H
    have H : Ev none (e1 + 1) 86 22 [some (.ref 0), some (.int x), none, none] [.ref 0] M v M' 0 0 := Ev.back 1 (fun n => rfl) H
    have H : Ev none (e1 + 1) 86 25 [some (.ref 0), some (.int x), none, none] [.ref 3] M v M' 0 0 := Ev.back 1 (gs_3 rfl rfl (gf_u hS.1 qa_0 qr_0_1 qu_3 rfl)) H
    have H : Ev none (e1 + 1) 86 26 [some (.ref 0), some (.int x), none, none] [.ref 0, .ref 3] M v M' 0 0 := Ev.back 1 (fun n => rfl) H
    have H : Ev none (e1 + 1) 86 29 [some (.ref 0), some (.int x), none, none] [.ref 104, .ref 3] M v M' 0 0 := Ev.back 1 (gs_3 rfl rfl (gf_u hS.1 qa_0 qr_0_3 qu_22 rfl)) H
    have H : Ev none (e1 + 1) 86 32 [some (.ref 0), some (.int x), none, none] [.ref (fR M 104 3), .ref 3] M v M' 0 0 := Ev.back 1 (gs_3 rfl rfl (gf_r hS.1 qa_104 qr_22_3 rfl)) H
    have H : Ev none (e1 + 1) 86 33 [some (.ref 0), some (.int x), none, none] [.int 0, .ref (fR M 104 3), .ref 3] M v M' 0 0 := Ev.back 1 (fun n => rfl) H
    obtain ⟨vK5, MK5, K5, H⟩ := Ev.callb (fun n => gs_7 rfl rfl (show gCal (.invokevirtual 130) 10 (.int 0 :: .ref (fR M 104 3) :: .ref 3 :: []) M = some (.inr (26, [some (.ref 3), some (.ref (fR M 104 3)), some (.int 0), none], [])) from by show @cond (Option ((List Value × Mem) ⊕ (Nat × Lo × List Value))) (true && gRecv M (.ref 3) 3 && gRoom [] && true) (some (.inr (26, [some (.ref 3), some (.ref (fR M 104 3)), some (.int 0), none], []))) none = _; rw [recv_s hS.1 qa_3 qo_3]; rfl)) H
    have K5 : Ev none e1 26 0 [some (.ref 3), some (.ref (fR M 104 3)), some (.int 0), none] [] M vK5 MK5 0 0 := K5
    have HF := H
    exact Or.inr (⟨h2, ⟨e1, vK5, MK5, rfl, K5, HF⟩⟩)
theorem hb_21 {e : Nat} {M M' : Mem} {v : Option Value} {x : Int32} (hS : SQ M) (H : Ev none e 86 21 [some (.ref 0), some (.int x), none, none] [] M v M' 0 0) : (∃ e1 v1 M1, e = e1 + 1 ∧ Ev none e1 26 0 [some (.ref 3), some (.ref (fR M 104 3)), some (.int 0), none] [] M v1 M1 0 0 ∧ Ev none e 86 36 [some (.ref 0), some (.int x), none, none] (v1.toList ++ []) M1 v M' 0 0) := by
  have H : Ev none e 86 22 [some (.ref 0), some (.int x), none, none] [.ref 0] M v M' 0 0 := Ev.back 1 (fun n => rfl) H
  have H : Ev none e 86 25 [some (.ref 0), some (.int x), none, none] [.ref 3] M v M' 0 0 := Ev.back 1 (gs_3 rfl rfl (gf_u hS.1 qa_0 qr_0_1 qu_3 rfl)) H
  have H : Ev none e 86 26 [some (.ref 0), some (.int x), none, none] [.ref 0, .ref 3] M v M' 0 0 := Ev.back 1 (fun n => rfl) H
  have H : Ev none e 86 29 [some (.ref 0), some (.int x), none, none] [.ref 104, .ref 3] M v M' 0 0 := Ev.back 1 (gs_3 rfl rfl (gf_u hS.1 qa_0 qr_0_3 qu_22 rfl)) H
  have H : Ev none e 86 32 [some (.ref 0), some (.int x), none, none] [.ref (fR M 104 3), .ref 3] M v M' 0 0 := Ev.back 1 (gs_3 rfl rfl (gf_r hS.1 qa_104 qr_22_3 rfl)) H
  have H : Ev none e 86 33 [some (.ref 0), some (.int x), none, none] [.int 0, .ref (fR M 104 3), .ref 3] M v M' 0 0 := Ev.back 1 (fun n => rfl) H
  obtain ⟨e1, rfl⟩ := Ev.dpos rfl rfl H
  obtain ⟨vK1, MK1, K1, H⟩ := Ev.callb (fun n => gs_7 rfl rfl (show gCal (.invokevirtual 130) 10 (.int 0 :: .ref (fR M 104 3) :: .ref 3 :: []) M = some (.inr (26, [some (.ref 3), some (.ref (fR M 104 3)), some (.int 0), none], [])) from by show @cond (Option ((List Value × Mem) ⊕ (Nat × Lo × List Value))) (true && gRecv M (.ref 3) 3 && gRoom [] && true) (some (.inr (26, [some (.ref 3), some (.ref (fR M 104 3)), some (.int 0), none], []))) none = _; rw [recv_s hS.1 qa_3 qo_3]; rfl)) H
  have K1 : Ev none e1 26 0 [some (.ref 3), some (.ref (fR M 104 3)), some (.int 0), none] [] M vK1 MK1 0 0 := K1
  have HF := H
  exact ⟨e1, vK1, MK1, rfl, K1, HF⟩
theorem hb_36 {e : Nat} {M M' : Mem} {v : Option Value} {x y : Int32} (hS : SQ M) (H : Ev none e 86 36 [some (.ref 0), some (.int x), none, none] [.int y] M v M' 0 0) : (y = 0 ∧ (0 ≤ x.toInt ∧ x.toInt < 6) ∧ (∃ e1 v1 M1, e = e1 + 1 ∧ Ev none e1 87 0 [some (.ref 0), some (.int y), some (.ref (oI M 109 x))] [] M v1 M1 0 0 ∧ Ev none e 86 89 [some (.ref 0), some (.int x), some (.int y), none] (v1.toList ++ []) M1 v M' 0 0)) ∨ (¬ (y = 0) ∧ (0 ≤ x.toInt ∧ x.toInt < 6) ∧ (0 ≤ x.toInt ∧ x.toInt < 6) ∧ (0 ≤ x.toInt ∧ x.toInt < 6) ∧ (∃ e1 v1 M1, e = e1 + 1 ∧ Ev none e1 87 0 [some (.ref 0), some (.int y), some (.ref (oI (wR (wO M 109 x.toNatClampNeg (fR M 104 3)) 104 3 (oI M 109 x)) 109 x))] [] (wR (wO M 109 x.toNatClampNeg (fR M 104 3)) 104 3 (oI M 109 x)) v1 M1 0 0 ∧ Ev none e 86 89 [some (.ref 0), some (.int x), some (.int y), some (.ref (oI M 109 x))] (v1.toList ++ []) M1 v M' 0 0)) := by
  have H : Ev none e 86 (if y = 0 then 75 else 41) [some (.ref 0), some (.int x), some (.int y), none] [] M v M' 0 0 := Ev.back 3 (fun n => rfl) H
  by_cases h1 : y = 0
  · rw [if_pos h1] at H
    have H : Ev none e 86 78 [some (.ref 0), some (.int x), some (.int y), none] [.ref 0, .int y, .ref 0] M v M' 0 0 := Ev.back 3 (fun n => rfl) H
    have H : Ev none e 86 81 [some (.ref 0), some (.int x), some (.int y), none] [.ref 104, .int y, .ref 0] M v M' 0 0 := Ev.back 1 (gs_3 rfl rfl (gf_u hS.1 qa_0 qr_0_3 qu_22 rfl)) H
    have H : Ev none e 86 84 [some (.ref 0), some (.int x), some (.int y), none] [.ref 109, .int y, .ref 0] M v M' 0 0 := Ev.back 1 (gs_3 rfl rfl (gf_u hS.1 qa_104 qr_22_1 qu_27 rfl)) H
    have H : Ev none e 86 85 [some (.ref 0), some (.int x), some (.int y), none] [.int x, .ref 109, .int y, .ref 0] M v M' 0 0 := Ev.back 1 (fun n => rfl) H
    obtain ⟨b2, H⟩ := Ev.aal rfl rfl hS.1 qa_109 qz_27 H
    have H : Ev none e 86 86 [some (.ref 0), some (.int x), some (.int y), none] [.ref (oI M 109 x), .int y, .ref 0] M v M' 0 0 := H
    obtain ⟨e1, rfl⟩ := Ev.dpos rfl rfl H
    obtain ⟨vK3, MK3, K3, H⟩ := Ev.callb (fun n => gs_7 rfl rfl (show gCal (.invokevirtual 137) 10 (.ref (oI M 109 x) :: .int y :: .ref 0 :: []) M = some (.inr (87, [some (.ref 0), some (.int y), some (.ref (oI M 109 x))], [])) from by show @cond (Option ((List Value × Mem) ⊕ (Nat × Lo × List Value))) (true && gRecv M (.ref 0) 10 && gRoom [] && true) (some (.inr (87, [some (.ref 0), some (.int y), some (.ref (oI M 109 x))], []))) none = _; rw [recv_s hS.1 qa_0 qo_0]; rfl)) H
    have K3 : Ev none e1 87 0 [some (.ref 0), some (.int y), some (.ref (oI M 109 x))] [] M vK3 MK3 0 0 := K3
    have HF := H
    exact Or.inl ⟨h1, b2.1, ⟨e1, vK3, MK3, rfl, K3, HF⟩⟩
  · rw [if_neg h1] at H
    have H : Ev none e 86 42 [some (.ref 0), some (.int x), some (.int y), none] [.ref 0] M v M' 0 0 := Ev.back 1 (fun n => rfl) H
    have H : Ev none e 86 45 [some (.ref 0), some (.int x), some (.int y), none] [.ref 104] M v M' 0 0 := Ev.back 1 (gs_3 rfl rfl (gf_u hS.1 qa_0 qr_0_3 qu_22 rfl)) H
    have H : Ev none e 86 48 [some (.ref 0), some (.int x), some (.int y), none] [.ref 109] M v M' 0 0 := Ev.back 1 (gs_3 rfl rfl (gf_u hS.1 qa_104 qr_22_1 qu_27 rfl)) H
    have H : Ev none e 86 49 [some (.ref 0), some (.int x), some (.int y), none] [.int x, .ref 109] M v M' 0 0 := Ev.back 1 (fun n => rfl) H
    obtain ⟨b4, H⟩ := Ev.aal rfl rfl hS.1 qa_109 qz_27 H
    have H : Ev none e 86 50 [some (.ref 0), some (.int x), some (.int y), none] [.ref (oI M 109 x)] M v M' 0 0 := H
    have H : Ev none e 86 52 [some (.ref 0), some (.int x), some (.int y), some (.ref (oI M 109 x))] [.ref 0] M v M' 0 0 := Ev.back 2 (fun n => rfl) H
    have H : Ev none e 86 55 [some (.ref 0), some (.int x), some (.int y), some (.ref (oI M 109 x))] [.ref 104] M v M' 0 0 := Ev.back 1 (gs_3 rfl rfl (gf_u hS.1 qa_0 qr_0_3 qu_22 rfl)) H
    have H : Ev none e 86 58 [some (.ref 0), some (.int x), some (.int y), some (.ref (oI M 109 x))] [.ref 109] M v M' 0 0 := Ev.back 1 (gs_3 rfl rfl (gf_u hS.1 qa_104 qr_22_1 qu_27 rfl)) H
    have H : Ev none e 86 60 [some (.ref 0), some (.int x), some (.int y), some (.ref (oI M 109 x))] [.ref 0, .int x, .ref 109] M v M' 0 0 := Ev.back 2 (fun n => rfl) H
    have H : Ev none e 86 63 [some (.ref 0), some (.int x), some (.int y), some (.ref (oI M 109 x))] [.ref 104, .int x, .ref 109] M v M' 0 0 := Ev.back 1 (gs_3 rfl rfl (gf_u hS.1 qa_0 qr_0_3 qu_22 rfl)) H
    have H : Ev none e 86 66 [some (.ref 0), some (.int x), some (.int y), some (.ref (oI M 109 x))] [.ref (fR M 104 3), .int x, .ref 109] M v M' 0 0 := Ev.back 1 (gs_3 rfl rfl (gf_r hS.1 qa_104 qr_22_3 rfl)) H
    obtain ⟨b5, H⟩ := Ev.aas rfl rfl hS.1 qa_109 qz_27 H
    obtain ⟨N6, eN6⟩ : ∃ N, N = (wO M 109 x.toNatClampNeg (fR M 104 3)) := ⟨_, rfl⟩
    have hN6 : SQ N6 := by rw [eN6]; exact hS.ko qa_109 qz_27 (hS.1.fr qa_104 qr_22_3).2
    have H : Ev none e 86 67 [some (.ref 0), some (.int x), some (.int y), some (.ref (oI M 109 x))] [] N6 v M' 0 0 := by rw [eN6]; exact H
    have H : Ev none e 86 68 [some (.ref 0), some (.int x), some (.int y), some (.ref (oI M 109 x))] [.ref 0] N6 v M' 0 0 := Ev.back 1 (fun n => rfl) H
    have H : Ev none e 86 71 [some (.ref 0), some (.int x), some (.int y), some (.ref (oI M 109 x))] [.ref 104] N6 v M' 0 0 := Ev.back 1 (gs_3 rfl rfl (gf_u hN6.1 qa_0 qr_0_3 qu_22 rfl)) H
    have H : Ev none e 86 72 [some (.ref 0), some (.int x), some (.int y), some (.ref (oI M 109 x))] [.ref (oI M 109 x), .ref 104] N6 v M' 0 0 := Ev.back 1 (fun n => rfl) H
    obtain ⟨N8, eN8⟩ : ∃ N, N = (wR N6 104 3 (oI M 109 x)) := ⟨_, rfl⟩
    have hN8 : SQ N8 := by rw [eN8]; exact hN6.kr_22_3 b4.2
    have H : Ev none e 86 75 [some (.ref 0), some (.int x), some (.int y), some (.ref (oI M 109 x))] [] N8 v M' 0 0 := by rw [eN8]; exact Ev.pfr rfl rfl rfl hN6.1 qa_104 qo_22 H
    have H : Ev none e 86 78 [some (.ref 0), some (.int x), some (.int y), some (.ref (oI M 109 x))] [.ref 0, .int y, .ref 0] N8 v M' 0 0 := Ev.back 3 (fun n => rfl) H
    have H : Ev none e 86 81 [some (.ref 0), some (.int x), some (.int y), some (.ref (oI M 109 x))] [.ref 104, .int y, .ref 0] N8 v M' 0 0 := Ev.back 1 (gs_3 rfl rfl (gf_u hN8.1 qa_0 qr_0_3 qu_22 rfl)) H
    have H : Ev none e 86 84 [some (.ref 0), some (.int x), some (.int y), some (.ref (oI M 109 x))] [.ref 109, .int y, .ref 0] N8 v M' 0 0 := Ev.back 1 (gs_3 rfl rfl (gf_u hN8.1 qa_104 qr_22_1 qu_27 rfl)) H
    have H : Ev none e 86 85 [some (.ref 0), some (.int x), some (.int y), some (.ref (oI M 109 x))] [.int x, .ref 109, .int y, .ref 0] N8 v M' 0 0 := Ev.back 1 (fun n => rfl) H
    obtain ⟨b9, H⟩ := Ev.aal rfl rfl hN8.1 qa_109 qz_27 H
    have H : Ev none e 86 86 [some (.ref 0), some (.int x), some (.int y), some (.ref (oI M 109 x))] [.ref (oI N8 109 x), .int y, .ref 0] N8 v M' 0 0 := H
    obtain ⟨e1, rfl⟩ := Ev.dpos rfl rfl H
    obtain ⟨vK10, MK10, K10, H⟩ := Ev.callb (fun n => gs_7 rfl rfl (show gCal (.invokevirtual 137) 10 (.ref (oI N8 109 x) :: .int y :: .ref 0 :: []) N8 = some (.inr (87, [some (.ref 0), some (.int y), some (.ref (oI N8 109 x))], [])) from by show @cond (Option ((List Value × Mem) ⊕ (Nat × Lo × List Value))) (true && gRecv N8 (.ref 0) 10 && gRoom [] && true) (some (.inr (87, [some (.ref 0), some (.int y), some (.ref (oI N8 109 x))], []))) none = _; rw [recv_s hN8.1 qa_0 qo_0]; rfl)) H
    have K10 : Ev none e1 87 0 [some (.ref 0), some (.int y), some (.ref (oI N8 109 x))] [] N8 vK10 MK10 0 0 := K10
    have HF := H
    subst eN6 eN8
    exact Or.inr (⟨h1, b4.1, b5, b9.1, ⟨e1, vK10, MK10, rfl, K10, HF⟩⟩)
theorem hb_89 {e : Nat} {M M' : Mem} {v : Option Value} {x y z : Int32} {c2 : Option Value} (hS : SQ M) (H : Ev none e 86 89 [some (.ref 0), some (.int x), some (.int y), c2] [.int z] M v M' 0 0) : v = some (.int z) ∧ M' = M := by
  obtain ⟨z1, z2⟩ := Ev.retz rfl rfl H
  exact ⟨z1, z2⟩
theorem flt_0 {e : Nat} {M M' : Mem} {v : Option Value} (hS : SQ M) (H : Ev none e 88 0 [some (.ref 0)] [] M v M' 0 0) : v = some (.int (zI M 0 15)) ∧ M' = M := by
  have H : Ev none e 88 1 [some (.ref 0)] [.ref 0] M v M' 0 0 := Ev.back 1 (fun n => rfl) H
  have H : Ev none e 88 4 [some (.ref 0)] [.int (zI M 0 15)] M v M' 0 0 := Ev.back 1 (gs_3 rfl rfl (gf_i hS.1 qa_0 qi_0_15 rfl)) H
  obtain ⟨z1, z2⟩ := Ev.retz rfl rfl H
  exact ⟨z1, z2⟩
