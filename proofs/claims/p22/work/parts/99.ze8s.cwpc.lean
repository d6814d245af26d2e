/-! THE CLASS'S WAY: pieces (made by gwal6.py) -/
noncomputable def X_73s (M : Mem) (av : Int32) (ow : Int32) : Mem := (wF (wF (wF (wF (wF M 137 0 av) 137 1 ow) 137 2 0) 137 3 (-1)) 137 4 (-1))
theorem g_73s {e : Nat} {M M' : Mem} {v : Option Value} {av ow : Int32} (hS : SQ M) (H : Ev none e 73 0 [some (.ref 137), some (.int av), some (.int ow)] [] M v M' 0 0) : v = none ∧ M' = X_73s M av ow := by
  unfold X_73s
  have H : Ev none e 73 2 [some (.ref 137), some (.int av), some (.int ow)] [.int av, .ref 137] M v M' 0 0 := Ev.back 2 (fun n => rfl) H
  obtain ⟨N2, eN2⟩ : ∃ N, N = (wF M 137 0 av) := ⟨_, rfl⟩
  have hN2 : SQ N2 := by rw [eN2]; exact hS.kf
  have H : Ev none e 73 5 [some (.ref 137), some (.int av), some (.int ow)] [] N2 v M' 0 0 := by rw [eN2]; exact Ev.pfi rfl rfl rfl hS.1 qa_137 qi_40_0 H
  have H : Ev none e 73 7 [some (.ref 137), some (.int av), some (.int ow)] [.int ow, .ref 137] N2 v M' 0 0 := Ev.back 2 (fun n => rfl) H
  obtain ⟨N4, eN4⟩ : ∃ N, N = (wF N2 137 1 ow) := ⟨_, rfl⟩
  have hN4 : SQ N4 := by rw [eN4]; exact hN2.kf
  have H : Ev none e 73 10 [some (.ref 137), some (.int av), some (.int ow)] [] N4 v M' 0 0 := by rw [eN4]; exact Ev.pfi rfl rfl rfl hN2.1 qa_137 qi_40_1 H
  have H : Ev none e 73 12 [some (.ref 137), some (.int av), some (.int ow)] [.int 0, .ref 137] N4 v M' 0 0 := Ev.back 2 (fun n => rfl) H
  obtain ⟨N6, eN6⟩ : ∃ N, N = (wF N4 137 2 0) := ⟨_, rfl⟩
  have hN6 : SQ N6 := by rw [eN6]; exact hN4.kf
  have H : Ev none e 73 15 [some (.ref 137), some (.int av), some (.int ow)] [] N6 v M' 0 0 := by rw [eN6]; exact Ev.pfi rfl rfl rfl hN4.1 qa_137 qi_40_2 H
  have H : Ev none e 73 17 [some (.ref 137), some (.int av), some (.int ow)] [.int (-1), .ref 137] N6 v M' 0 0 := Ev.back 2 (fun n => rfl) H
  obtain ⟨N8, eN8⟩ : ∃ N, N = (wF N6 137 3 (-1)) := ⟨_, rfl⟩
  have hN8 : SQ N8 := by rw [eN8]; exact hN6.kf
  have H : Ev none e 73 20 [some (.ref 137), some (.int av), some (.int ow)] [] N8 v M' 0 0 := by rw [eN8]; exact Ev.pfi rfl rfl rfl hN6.1 qa_137 qi_40_3 H
  have H : Ev none e 73 22 [some (.ref 137), some (.int av), some (.int ow)] [.int (-1), .ref 137] N8 v M' 0 0 := Ev.back 2 (fun n => rfl) H
  obtain ⟨N10, eN10⟩ : ∃ N, N = (wF N8 137 4 (-1)) := ⟨_, rfl⟩
  have hN10 : SQ N10 := by rw [eN10]; exact hN8.kf
  have H : Ev none e 73 25 [some (.ref 137), some (.int av), some (.int ow)] [] N10 v M' 0 0 := by rw [eN10]; exact Ev.pfi rfl rfl rfl hN8.1 qa_137 qi_40_4 H
  obtain ⟨p1, p2⟩ := Ev.retb (fun n => rfl) H
  subst eN2 eN4 eN6 eN8 eN10
  exact ⟨p1, p2⟩
theorem X_73s_sx {M : Mem} {av ow : Int32} (hS : SQ M) : SQ (X_73s M av ow) := by
  unfold X_73s
  exact ((((hS.kf).kf).kf).kf).kf
noncomputable def X_74s (M : Mem) (to : Int32) (bw : Int32) : Mem := (wF (wF (wF M 137 3 (zI M 137 0)) 137 0 to) 137 4 bw)
theorem g_74s {e : Nat} {M M' : Mem} {v : Option Value} {to bw : Int32} (hS : SQ M) (H : Ev none e 74 0 [some (.ref 137), some (.int to), some (.int bw)] [] M v M' 0 0) : v = none ∧ M' = X_74s M to bw := by
  unfold X_74s
  have H : Ev none e 74 2 [some (.ref 137), some (.int to), some (.int bw)] [.ref 137, .ref 137] M v M' 0 0 := Ev.back 2 (fun n => rfl) H
  have H : Ev none e 74 5 [some (.ref 137), some (.int to), some (.int bw)] [.int (zI M 137 0), .ref 137] M v M' 0 0 := Ev.back 1 (gs_3 rfl rfl (gf_i hS.1 qa_137 qi_40_0 rfl)) H
  obtain ⟨N2, eN2⟩ : ∃ N, N = (wF M 137 3 (zI M 137 0)) := ⟨_, rfl⟩
  have hN2 : SQ N2 := by rw [eN2]; exact hS.kf
  have H : Ev none e 74 8 [some (.ref 137), some (.int to), some (.int bw)] [] N2 v M' 0 0 := by rw [eN2]; exact Ev.pfi rfl rfl rfl hS.1 qa_137 qi_40_3 H
  have H : Ev none e 74 10 [some (.ref 137), some (.int to), some (.int bw)] [.int to, .ref 137] N2 v M' 0 0 := Ev.back 2 (fun n => rfl) H
  obtain ⟨N4, eN4⟩ : ∃ N, N = (wF N2 137 0 to) := ⟨_, rfl⟩
  have hN4 : SQ N4 := by rw [eN4]; exact hN2.kf
  have H : Ev none e 74 13 [some (.ref 137), some (.int to), some (.int bw)] [] N4 v M' 0 0 := by rw [eN4]; exact Ev.pfi rfl rfl rfl hN2.1 qa_137 qi_40_0 H
  have H : Ev none e 74 15 [some (.ref 137), some (.int to), some (.int bw)] [.int bw, .ref 137] N4 v M' 0 0 := Ev.back 2 (fun n => rfl) H
  obtain ⟨N6, eN6⟩ : ∃ N, N = (wF N4 137 4 bw) := ⟨_, rfl⟩
  have hN6 : SQ N6 := by rw [eN6]; exact hN4.kf
  have H : Ev none e 74 18 [some (.ref 137), some (.int to), some (.int bw)] [] N6 v M' 0 0 := by rw [eN6]; exact Ev.pfi rfl rfl rfl hN4.1 qa_137 qi_40_4 H
  obtain ⟨p1, p2⟩ := Ev.retb (fun n => rfl) H
  subst eN2 eN4 eN6
  exact ⟨p1, p2⟩
theorem X_74s_sx {M : Mem} {to bw : Int32} (hS : SQ M) : SQ (X_74s M to bw) := by
  unfold X_74s
  exact ((hS.kf).kf).kf
theorem arv_0 {e : Nat} {M M' : Mem} {v : Option Value} {fr to hb : Int32} {rw : Nat} (hS : SQ M) (a_rw : gNth sT rw = some 58) (hL7 : fR M 104 7 = 8) (H : Ev none e 65 0 [some (.ref 104), some (.int fr), some (.int to), some (.int hb), some (.ref rw), none, none, none] [] M v M' 0 0) : (0 ≤ to.toInt ∧ to.toInt < 9) ∧ (0 ≤ fr.toInt ∧ fr.toInt < 9) ∧ (0 ≤ (0 : Int32).toInt ∧ (0 : Int32).toInt < 201) ∧ Ev none e 65 52 [some (.ref 104), some (.int fr), some (.int to), some (.int hb), some (.ref rw), some (.int (rI M (8 + 9) to)), some (.int 0), none] [] (wI (X_73s (wF (wF M 104 8 1) 104 11 0) (rI M (8 + 9) fr) (-1)) rw ((0 : Int32).toNatClampNeg) (zI (X_73s (wF (wF M 104 8 1) 104 11 0) (rI M (8 + 9) fr) (-1)) 137 0)) v M' 0 0 := by
  have H : Ev none e 65 1 [some (.ref 104), some (.int fr), some (.int to), some (.int hb), some (.ref rw), none, none, none] [.ref 104] M v M' 0 0 := Ev.back 1 (fun n => rfl) H
  have H : Ev none e 65 4 [some (.ref 104), some (.int fr), some (.int to), some (.int hb), some (.ref rw), none, none, none] [.ref (fR M 104 7)] M v M' 0 0 := Ev.back 1 (gs_3 rfl rfl (gf_r hS.1 qa_104 qr_22_7 rfl)) H
  rw [hL7] at H
  have H : Ev none e 65 7 [some (.ref 104), some (.int fr), some (.int to), some (.int hb), some (.ref rw), none, none, none] [.ref (8 + 9)] M v M' 0 0 := Ev.back 1 (gs_3 rfl rfl (gf_x hS.1 qa_8 qo_8 (fx_l10 hS qa_8) rfl)) H
  have H : Ev none e 65 8 [some (.ref 104), some (.int fr), some (.int to), some (.int hb), some (.ref rw), none, none, none] [.int to, .ref (8 + 9)] M v M' 0 0 := Ev.back 1 (fun n => rfl) H
  obtain ⟨b1, H⟩ := Ev.ial rfl rfl hS.1 (fx_h10 qa_8) qw_17 H
  have H : Ev none e 65 9 [some (.ref 104), some (.int fr), some (.int to), some (.int hb), some (.ref rw), none, none, none] [.int (rI M (8 + 9) to)] M v M' 0 0 := H
  have H : Ev none e 65 13 [some (.ref 104), some (.int fr), some (.int to), some (.int hb), some (.ref rw), some (.int (rI M (8 + 9) to)), none, none] [.int 1, .ref 104] M v M' 0 0 := Ev.back 3 (fun n => rfl) H
  obtain ⟨N3, eN3⟩ : ∃ N, N = (wF M 104 8 1) := ⟨_, rfl⟩
  have hN3 : SQ N3 := by rw [eN3]; exact hS.kf
  have H : Ev none e 65 16 [some (.ref 104), some (.int fr), some (.int to), some (.int hb), some (.ref rw), some (.int (rI M (8 + 9) to)), none, none] [] N3 v M' 0 0 := by rw [eN3]; exact Ev.pfi rfl rfl rfl hS.1 qa_104 qi_22_8 H
  have H : Ev none e 65 18 [some (.ref 104), some (.int fr), some (.int to), some (.int hb), some (.ref rw), some (.int (rI M (8 + 9) to)), none, none] [.int 0, .ref 104] N3 v M' 0 0 := Ev.back 2 (fun n => rfl) H
  obtain ⟨N5, eN5⟩ : ∃ N, N = (wF N3 104 11 0) := ⟨_, rfl⟩
  have hN5 : SQ N5 := by rw [eN5]; exact hN3.kf
  have H : Ev none e 65 21 [some (.ref 104), some (.int fr), some (.int to), some (.int hb), some (.ref rw), some (.int (rI M (8 + 9) to)), none, none] [] N5 v M' 0 0 := by rw [eN5]; exact Ev.pfi rfl rfl rfl hN3.1 qa_104 qi_22_11 H
  have H : Ev none e 65 22 [some (.ref 104), some (.int fr), some (.int to), some (.int hb), some (.ref rw), some (.int (rI M (8 + 9) to)), none, none] [.ref 104] N5 v M' 0 0 := Ev.back 1 (fun n => rfl) H
  have H : Ev none e 65 25 [some (.ref 104), some (.int fr), some (.int to), some (.int hb), some (.ref rw), some (.int (rI M (8 + 9) to)), none, none] [.ref 137] N5 v M' 0 0 := Ev.back 1 (gs_3 rfl rfl (gf_u hN5.1 qa_104 qr_22_6 qu_40 rfl)) H
  have H : Ev none e 65 26 [some (.ref 104), some (.int fr), some (.int to), some (.int hb), some (.ref rw), some (.int (rI M (8 + 9) to)), none, none] [.ref 104, .ref 137] N5 v M' 0 0 := Ev.back 1 (fun n => rfl) H
  have H : Ev none e 65 29 [some (.ref 104), some (.int fr), some (.int to), some (.int hb), some (.ref rw), some (.int (rI M (8 + 9) to)), none, none] [.ref (fR N5 104 7), .ref 137] N5 v M' 0 0 := Ev.back 1 (gs_3 rfl rfl (gf_r hN5.1 qa_104 qr_22_7 rfl)) H
  rw [(show fR N5 104 7 = fR N3 104 7 from by rw [eN5]; exact fR_wF).trans (show fR N3 104 7 = fR M 104 7 from by rw [eN3]; exact fR_wF)] at H
  rw [hL7] at H
  have H : Ev none e 65 32 [some (.ref 104), some (.int fr), some (.int to), some (.int hb), some (.ref rw), some (.int (rI M (8 + 9) to)), none, none] [.ref (8 + 9), .ref 137] N5 v M' 0 0 := Ev.back 1 (gs_3 rfl rfl (gf_x hN5.1 qa_8 qo_8 (fx_l10 hN5 qa_8) rfl)) H
  have H : Ev none e 65 33 [some (.ref 104), some (.int fr), some (.int to), some (.int hb), some (.ref rw), some (.int (rI M (8 + 9) to)), none, none] [.int fr, .ref (8 + 9), .ref 137] N5 v M' 0 0 := Ev.back 1 (fun n => rfl) H
  obtain ⟨b6, H⟩ := Ev.ial rfl rfl hN5.1 (fx_h10 qa_8) qw_17 H
  have H : Ev none e 65 34 [some (.ref 104), some (.int fr), some (.int to), some (.int hb), some (.ref rw), some (.int (rI M (8 + 9) to)), none, none] [.int (rI N5 (8 + 9) fr), .ref 137] N5 v M' 0 0 := H
  rw [(show rI N5 (8 + 9) fr = rI N3 (8 + 9) fr from by rw [eN5]; exact rN_wF).trans (show rI N3 (8 + 9) fr = rI M (8 + 9) fr from by rw [eN3]; exact rN_wF)] at H
  have H : Ev none e 65 35 [some (.ref 104), some (.int fr), some (.int to), some (.int hb), some (.ref rw), some (.int (rI M (8 + 9) to)), none, none] [.int (-1), .int (rI M (8 + 9) fr), .ref 137] N5 v M' 0 0 := Ev.back 1 (fun n => rfl) H
  obtain ⟨e1, rfl⟩ := Ev.dpos rfl rfl H
  obtain ⟨vK7, MK7, K7, H⟩ := Ev.callb (fun n_ => gs_7 rfl rfl (show gCal (.invokevirtual 173) 7 (.int (-1) :: .int (rI M (8 + 9) fr) :: .ref 137 :: []) N5 = some (.inr (73, [some (.ref 137), some (.int (rI M (8 + 9) fr)), some (.int (-1))], [])) from by show @cond (Option ((List Value × Mem) ⊕ (Nat × Lo × List Value))) (true && gRecv N5 (.ref 137) 8 && gRoom [] && true) (some (.inr (73, [some (.ref 137), some (.int (rI M (8 + 9) fr)), some (.int (-1))], []))) none = _; rw [recv_s hN5.1 qa_137 qo_40]; rfl)) H
  obtain ⟨pK7, qK7⟩ := g_73s hN5 K7
  rw [pK7, qK7] at H
  obtain ⟨N8, eN8⟩ : ∃ N, N = (X_73s N5 (rI M (8 + 9) fr) (-1)) := ⟨_, rfl⟩
  have hN8 : SQ N8 := by rw [eN8]; exact X_73s_sx hN5
  rw [← eN8] at H
  have H : Ev none (e1 + 1) 65 38 [some (.ref 104), some (.int fr), some (.int to), some (.int hb), some (.ref rw), some (.int (rI M (8 + 9) to)), none, none] [] N8 v M' 0 0 := H
  have H : Ev none (e1 + 1) 65 42 [some (.ref 104), some (.int fr), some (.int to), some (.int hb), some (.ref rw), some (.int (rI M (8 + 9) to)), none, none] [.ref 104, .int 0, .ref rw] N8 v M' 0 0 := Ev.back 3 (fun n => rfl) H
  have H : Ev none (e1 + 1) 65 45 [some (.ref 104), some (.int fr), some (.int to), some (.int hb), some (.ref rw), some (.int (rI M (8 + 9) to)), none, none] [.ref 137, .int 0, .ref rw] N8 v M' 0 0 := Ev.back 1 (gs_3 rfl rfl (gf_u hN8.1 qa_104 qr_22_6 qu_40 rfl)) H
  have H : Ev none (e1 + 1) 65 48 [some (.ref 104), some (.int fr), some (.int to), some (.int hb), some (.ref rw), some (.int (rI M (8 + 9) to)), none, none] [.int (zI N8 137 0), .int 0, .ref rw] N8 v M' 0 0 := Ev.back 1 (gs_3 rfl rfl (gf_i hN8.1 qa_137 qi_40_0 rfl)) H
  obtain ⟨b9, H⟩ := Ev.ias rfl rfl hN8.1 a_rw qw_58 H
  obtain ⟨N10, eN10⟩ : ∃ N, N = (wI N8 rw ((0 : Int32).toNatClampNeg) (zI N8 137 0)) := ⟨_, rfl⟩
  have hN10 : SQ N10 := by rw [eN10]; exact hN8.ki
  have H : Ev none (e1 + 1) 65 49 [some (.ref 104), some (.int fr), some (.int to), some (.int hb), some (.ref rw), some (.int (rI M (8 + 9) to)), none, none] [] N10 v M' 0 0 := by rw [eN10]; exact H
  have H : Ev none (e1 + 1) 65 52 [some (.ref 104), some (.int fr), some (.int to), some (.int hb), some (.ref rw), some (.int (rI M (8 + 9) to)), some (.int 0), none] [] N10 v M' 0 0 := Ev.back 2 (fun n => rfl) H
  have HF := H
  subst eN3 eN5 eN8 eN10
  exact ⟨b1, b6, b9, HF⟩
theorem arv_52 {e : Nat} {M M' : Mem} {v : Option Value} {fr to hb go n : Int32} {rw : Nat} {c7 : Option Value} (hS : SQ M) (a_rw : gNth sT rw = some 58) (H : Ev none e 65 52 [some (.ref 104), some (.int fr), some (.int to), some (.int hb), some (.ref rw), some (.int go), some (.int n), c7] [] M v M' 0 0) : (200 ≤ n ∧ Ev none e 65 154 [some (.ref 104), some (.int fr), some (.int to), some (.int hb), some (.ref rw), some (.int go), some (.int n), c7] [] M v M' 0 0) ∨ (¬ (200 ≤ n) ∧ (zI M 137 0) = go ∧ Ev none e 65 154 [some (.ref 104), some (.int fr), some (.int to), some (.int hb), some (.ref rw), some (.int go), some (.int n), c7] [] M v M' 0 0) ∨ (¬ (200 ≤ n) ∧ ¬ ((zI M 137 0) = go) ∧ (∃ e1 v1 M1, e = e1 + 1 ∧ Ev none e1 66 0 [some (.ref 104), some (.ref 137), some (.int go), some (.int hb), none, none, none, none, none, none] [] M v1 M1 0 0 ∧ Ev none e 65 83 [some (.ref 104), some (.int fr), some (.int to), some (.int hb), some (.ref rw), some (.int go), some (.int n), c7] (v1.toList ++ []) M1 v M' 0 0)) := by
  have H : Ev none e 65 (if 200 ≤ n then 154 else 60) [some (.ref 104), some (.int fr), some (.int to), some (.int hb), some (.ref rw), some (.int go), some (.int n), c7] [] M v M' 0 0 := Ev.back 3 (fun n => rfl) H
  by_cases h1 : 200 ≤ n
  · rw [if_pos h1] at H
    have HF := H
    exact Or.inl ⟨h1, HF⟩
  · rw [if_neg h1] at H
    have H : Ev none e 65 61 [some (.ref 104), some (.int fr), some (.int to), some (.int hb), some (.ref rw), some (.int go), some (.int n), c7] [.ref 104] M v M' 0 0 := Ev.back 1 (fun n => rfl) H
    have H : Ev none e 65 64 [some (.ref 104), some (.int fr), some (.int to), some (.int hb), some (.ref rw), some (.int go), some (.int n), c7] [.ref 137] M v M' 0 0 := Ev.back 1 (gs_3 rfl rfl (gf_u hS.1 qa_104 qr_22_6 qu_40 rfl)) H
    have H : Ev none e 65 67 [some (.ref 104), some (.int fr), some (.int to), some (.int hb), some (.ref rw), some (.int go), some (.int n), c7] [.int (zI M 137 0)] M v M' 0 0 := Ev.back 1 (gs_3 rfl rfl (gf_i hS.1 qa_137 qi_40_0 rfl)) H
    have H : Ev none e 65 (if (zI M 137 0) = go then 154 else 72) [some (.ref 104), some (.int fr), some (.int to), some (.int hb), some (.ref rw), some (.int go), some (.int n), c7] [] M v M' 0 0 := Ev.back 2 (fun n => rfl) H
    by_cases h2 : (zI M 137 0) = go
    · rw [if_pos h2] at H
      have HF := H
      exact Or.inr (Or.inl ⟨h1, h2, HF⟩)
    · rw [if_neg h2] at H
      have H : Ev none e 65 74 [some (.ref 104), some (.int fr), some (.int to), some (.int hb), some (.ref rw), some (.int go), some (.int n), c7] [.ref 104, .ref 104] M v M' 0 0 := Ev.back 2 (fun n => rfl) H
      have H : Ev none e 65 77 [some (.ref 104), some (.int fr), some (.int to), some (.int hb), some (.ref rw), some (.int go), some (.int n), c7] [.ref 137, .ref 104] M v M' 0 0 := Ev.back 1 (gs_3 rfl rfl (gf_u hS.1 qa_104 qr_22_6 qu_40 rfl)) H
      have H : Ev none e 65 80 [some (.ref 104), some (.int fr), some (.int to), some (.int hb), some (.ref rw), some (.int go), some (.int n), c7] [.int hb, .int go, .ref 137, .ref 104] M v M' 0 0 := Ev.back 2 (fun n => rfl) H
      obtain ⟨e1, rfl⟩ := Ev.dpos rfl rfl H
      obtain ⟨vK3, MK3, K3, H⟩ := Ev.callb (fun n_ => gs_7 rfl rfl (show gCal (.invokevirtual 128) 7 (.int hb :: .int go :: .ref 137 :: .ref 104 :: []) M = some (.inr (66, [some (.ref 104), some (.ref 137), some (.int go), some (.int hb), none, none, none, none, none, none], [])) from by show @cond (Option ((List Value × Mem) ⊕ (Nat × Lo × List Value))) (true && gRecv M (.ref 104) 7 && gRoom [] && true) (some (.inr (66, [some (.ref 104), some (.ref 137), some (.int go), some (.int hb), none, none, none, none, none, none], []))) none = _; rw [recv_s hS.1 qa_104 qo_22]; rfl)) H
      have K3 : Ev none e1 66 0 [some (.ref 104), some (.ref 137), some (.int go), some (.int hb), none, none, none, none, none, none] [] M vK3 MK3 0 0 := K3
      have HF := H
      exact Or.inr (Or.inr (⟨h1, h2, ⟨e1, vK3, MK3, rfl, K3, HF⟩⟩))
theorem arv_83 {e : Nat} {M M' : Mem} {v : Option Value} {fr to hb go n y : Int32} {rw : Nat} {c7 : Option Value} (hS : SQ M) (a_rw : gNth sT rw = some 58) (H : Ev none e 65 83 [some (.ref 104), some (.int fr), some (.int to), some (.int hb), some (.ref rw), some (.int go), some (.int n), c7] [.int y] M v M' 0 0) : (y = (-1) ∧ Ev none e 65 154 [some (.ref 104), some (.int fr), some (.int to), some (.int hb), some (.ref rw), some (.int go), some (.int n), some (.int y)] [] M v M' 0 0) ∨ (¬ (y = (-1)) ∧ (0 ≤ ((8 * (zI M 137 0)) + y).toInt ∧ ((8 * (zI M 137 0)) + y).toInt < 2048) ∧ (0 ≤ ((zI (X_74s M (rI M 108 ((8 * (zI M 137 0)) + y)) y) 104 11) + 1).toInt ∧ ((zI (X_74s M (rI M 108 ((8 * (zI M 137 0)) + y)) y) 104 11) + 1).toInt < 201) ∧ Ev none e 65 52 [some (.ref 104), some (.int fr), some (.int to), some (.int hb), some (.ref rw), some (.int go), some (.int (n + 1)), some (.int y)] [] (wI (wF (X_74s M (rI M 108 ((8 * (zI M 137 0)) + y)) y) 104 11 ((zI (X_74s M (rI M 108 ((8 * (zI M 137 0)) + y)) y) 104 11) + 1)) rw (((zI (X_74s M (rI M 108 ((8 * (zI M 137 0)) + y)) y) 104 11) + 1).toNatClampNeg) (zI (X_74s M (rI M 108 ((8 * (zI M 137 0)) + y)) y) 137 0)) v M' 0 0) := by
  have H : Ev none e 65 (if y = (-1) then 91 else 94) [some (.ref 104), some (.int fr), some (.int to), some (.int hb), some (.ref rw), some (.int go), some (.int n), some (.int y)] [] M v M' 0 0 := Ev.back 4 (fun n => rfl) H
  by_cases h1 : y = (-1)
  · rw [if_pos h1] at H
    have H : Ev none e 65 154 [some (.ref 104), some (.int fr), some (.int to), some (.int hb), some (.ref rw), some (.int go), some (.int n), some (.int y)] [] M v M' 0 0 := Ev.back 1 (fun n => rfl) H
    have HF := H
    exact Or.inl ⟨h1, HF⟩
  · rw [if_neg h1] at H
    have H : Ev none e 65 95 [some (.ref 104), some (.int fr), some (.int to), some (.int hb), some (.ref rw), some (.int go), some (.int n), some (.int y)] [.ref 104] M v M' 0 0 := Ev.back 1 (fun n => rfl) H
    have H : Ev none e 65 98 [some (.ref 104), some (.int fr), some (.int to), some (.int hb), some (.ref rw), some (.int go), some (.int n), some (.int y)] [.ref 137] M v M' 0 0 := Ev.back 1 (gs_3 rfl rfl (gf_u hS.1 qa_104 qr_22_6 qu_40 rfl)) H
    have H : Ev none e 65 99 [some (.ref 104), some (.int fr), some (.int to), some (.int hb), some (.ref rw), some (.int go), some (.int n), some (.int y)] [.ref 104, .ref 137] M v M' 0 0 := Ev.back 1 (fun n => rfl) H
    have H : Ev none e 65 102 [some (.ref 104), some (.int fr), some (.int to), some (.int hb), some (.ref rw), some (.int go), some (.int n), some (.int y)] [.ref 105, .ref 137] M v M' 0 0 := Ev.back 1 (gs_3 rfl rfl (gf_u hS.1 qa_104 qr_22_0 qu_23 rfl)) H
    have H : Ev none e 65 105 [some (.ref 104), some (.int fr), some (.int to), some (.int hb), some (.ref rw), some (.int go), some (.int n), some (.int y)] [.ref 108, .ref 137] M v M' 0 0 := Ev.back 1 (gs_3 rfl rfl (gf_u hS.1 qa_105 qr_23_2 qu_26 rfl)) H
    have H : Ev none e 65 108 [some (.ref 104), some (.int fr), some (.int to), some (.int hb), some (.ref rw), some (.int go), some (.int n), some (.int y)] [.ref 104, .int 8, .ref 108, .ref 137] M v M' 0 0 := Ev.back 2 (fun n => rfl) H
    have H : Ev none e 65 111 [some (.ref 104), some (.int fr), some (.int to), some (.int hb), some (.ref rw), some (.int go), some (.int n), some (.int y)] [.ref 137, .int 8, .ref 108, .ref 137] M v M' 0 0 := Ev.back 1 (gs_3 rfl rfl (gf_u hS.1 qa_104 qr_22_6 qu_40 rfl)) H
    have H : Ev none e 65 114 [some (.ref 104), some (.int fr), some (.int to), some (.int hb), some (.ref rw), some (.int go), some (.int n), some (.int y)] [.int (zI M 137 0), .int 8, .ref 108, .ref 137] M v M' 0 0 := Ev.back 1 (gs_3 rfl rfl (gf_i hS.1 qa_137 qi_40_0 rfl)) H
    have H : Ev none e 65 118 [some (.ref 104), some (.int fr), some (.int to), some (.int hb), some (.ref rw), some (.int go), some (.int n), some (.int y)] [.int ((8 * (zI M 137 0)) + y), .ref 108, .ref 137] M v M' 0 0 := Ev.back 3 (fun n => rfl) H
    obtain ⟨b2, H⟩ := Ev.ial rfl rfl hS.1 qa_108 qw_26 H
    have H : Ev none e 65 119 [some (.ref 104), some (.int fr), some (.int to), some (.int hb), some (.ref rw), some (.int go), some (.int n), some (.int y)] [.int (rI M 108 ((8 * (zI M 137 0)) + y)), .ref 137] M v M' 0 0 := H
    have H : Ev none e 65 121 [some (.ref 104), some (.int fr), some (.int to), some (.int hb), some (.ref rw), some (.int go), some (.int n), some (.int y)] [.int y, .int (rI M 108 ((8 * (zI M 137 0)) + y)), .ref 137] M v M' 0 0 := Ev.back 1 (fun n => rfl) H
    obtain ⟨e1, rfl⟩ := Ev.dpos rfl rfl H
    obtain ⟨vK3, MK3, K3, H⟩ := Ev.callb (fun n_ => gs_7 rfl rfl (show gCal (.invokevirtual 141) 7 (.int y :: .int (rI M 108 ((8 * (zI M 137 0)) + y)) :: .ref 137 :: []) M = some (.inr (74, [some (.ref 137), some (.int (rI M 108 ((8 * (zI M 137 0)) + y))), some (.int y)], [])) from by show @cond (Option ((List Value × Mem) ⊕ (Nat × Lo × List Value))) (true && gRecv M (.ref 137) 8 && gRoom [] && true) (some (.inr (74, [some (.ref 137), some (.int (rI M 108 ((8 * (zI M 137 0)) + y))), some (.int y)], []))) none = _; rw [recv_s hS.1 qa_137 qo_40]; rfl)) H
    obtain ⟨pK3, qK3⟩ := g_74s hS K3
    rw [pK3, qK3] at H
    obtain ⟨N4, eN4⟩ : ∃ N, N = (X_74s M (rI M 108 ((8 * (zI M 137 0)) + y)) y) := ⟨_, rfl⟩
    have hN4 : SQ N4 := by rw [eN4]; exact X_74s_sx hS
    rw [← eN4] at H
    have H : Ev none (e1 + 1) 65 124 [some (.ref 104), some (.int fr), some (.int to), some (.int hb), some (.ref rw), some (.int go), some (.int n), some (.int y)] [] N4 v M' 0 0 := H
    have H : Ev none (e1 + 1) 65 126 [some (.ref 104), some (.int fr), some (.int to), some (.int hb), some (.ref rw), some (.int go), some (.int n), some (.int y)] [.ref 104, .ref 104] N4 v M' 0 0 := Ev.back 2 (fun n => rfl) H
    have H : Ev none (e1 + 1) 65 129 [some (.ref 104), some (.int fr), some (.int to), some (.int hb), some (.ref rw), some (.int go), some (.int n), some (.int y)] [.int (zI N4 104 11), .ref 104] N4 v M' 0 0 := Ev.back 1 (gs_3 rfl rfl (gf_i hN4.1 qa_104 qi_22_11 rfl)) H
    have H : Ev none (e1 + 1) 65 131 [some (.ref 104), some (.int fr), some (.int to), some (.int hb), some (.ref rw), some (.int go), some (.int n), some (.int y)] [.int ((zI N4 104 11) + 1), .ref 104] N4 v M' 0 0 := Ev.back 2 (fun n => rfl) H
    obtain ⟨N6, eN6⟩ : ∃ N, N = (wF N4 104 11 ((zI N4 104 11) + 1)) := ⟨_, rfl⟩
    have hN6 : SQ N6 := by rw [eN6]; exact hN4.kf
    have H : Ev none (e1 + 1) 65 134 [some (.ref 104), some (.int fr), some (.int to), some (.int hb), some (.ref rw), some (.int go), some (.int n), some (.int y)] [] N6 v M' 0 0 := by rw [eN6]; exact Ev.pfi rfl rfl rfl hN4.1 qa_104 qi_22_11 H
    have H : Ev none (e1 + 1) 65 137 [some (.ref 104), some (.int fr), some (.int to), some (.int hb), some (.ref rw), some (.int go), some (.int n), some (.int y)] [.ref 104, .ref rw] N6 v M' 0 0 := Ev.back 2 (fun n => rfl) H
    have H : Ev none (e1 + 1) 65 140 [some (.ref 104), some (.int fr), some (.int to), some (.int hb), some (.ref rw), some (.int go), some (.int n), some (.int y)] [.int (zI N6 104 11), .ref rw] N6 v M' 0 0 := Ev.back 1 (gs_3 rfl rfl (gf_i hN6.1 qa_104 qi_22_11 rfl)) H
    rw [show zI N6 104 11 = (zI N4 104 11) + 1 from by rw [eN6]; exact fI_wF_eq hN4.1 qa_104 qi_22_11] at H
    have H : Ev none (e1 + 1) 65 141 [some (.ref 104), some (.int fr), some (.int to), some (.int hb), some (.ref rw), some (.int go), some (.int n), some (.int y)] [.ref 104, .int ((zI N4 104 11) + 1), .ref rw] N6 v M' 0 0 := Ev.back 1 (fun n => rfl) H
    have H : Ev none (e1 + 1) 65 144 [some (.ref 104), some (.int fr), some (.int to), some (.int hb), some (.ref rw), some (.int go), some (.int n), some (.int y)] [.ref 137, .int ((zI N4 104 11) + 1), .ref rw] N6 v M' 0 0 := Ev.back 1 (gs_3 rfl rfl (gf_u hN6.1 qa_104 qr_22_6 qu_40 rfl)) H
    have H : Ev none (e1 + 1) 65 147 [some (.ref 104), some (.int fr), some (.int to), some (.int hb), some (.ref rw), some (.int go), some (.int n), some (.int y)] [.int (zI N6 137 0), .int ((zI N4 104 11) + 1), .ref rw] N6 v M' 0 0 := Ev.back 1 (gs_3 rfl rfl (gf_i hN6.1 qa_137 qi_40_0 rfl)) H
    rw [show zI N6 137 0 = zI N4 137 0 from by rw [eN6]; exact fI_wF_ne (fun q => absurd q.2 (by decide))] at H
    obtain ⟨b7, H⟩ := Ev.ias rfl rfl hN6.1 a_rw qw_58 H
    obtain ⟨N8, eN8⟩ : ∃ N, N = (wI N6 rw (((zI N4 104 11) + 1).toNatClampNeg) (zI N4 137 0)) := ⟨_, rfl⟩
    have hN8 : SQ N8 := by rw [eN8]; exact hN6.ki
    have H : Ev none (e1 + 1) 65 148 [some (.ref 104), some (.int fr), some (.int to), some (.int hb), some (.ref rw), some (.int go), some (.int n), some (.int y)] [] N8 v M' 0 0 := by rw [eN8]; exact H
    have H : Ev none (e1 + 1) 65 52 [some (.ref 104), some (.int fr), some (.int to), some (.int hb), some (.ref rw), some (.int go), some (.int (n + 1)), some (.int y)] [] N8 v M' 0 0 := Ev.back 2 (fun n => rfl) H
    have HF := H
    subst eN4 eN6 eN8
    exact Or.inr (⟨h1, b2, b7, HF⟩)
theorem arv_154 {e : Nat} {M M' : Mem} {v : Option Value} {fr to hb go n : Int32} {rw : Nat} {c7 : Option Value} (hS : SQ M) (a_rw : gNth sT rw = some 58) (H : Ev none e 65 154 [some (.ref 104), some (.int fr), some (.int to), some (.int hb), some (.ref rw), some (.int go), some (.int n), c7] [] M v M' 0 0) : ((zI M 137 0) = go ∧ v = some (.int 1) ∧ M' = (wF M 104 8 0)) ∨ (¬ ((zI M 137 0) = go) ∧ v = some (.int 0) ∧ M' = (wF M 104 8 0)) := by
  have H : Ev none e 65 156 [some (.ref 104), some (.int fr), some (.int to), some (.int hb), some (.ref rw), some (.int go), some (.int n), c7] [.int 0, .ref 104] M v M' 0 0 := Ev.back 2 (fun n => rfl) H
  obtain ⟨N2, eN2⟩ : ∃ N, N = (wF M 104 8 0) := ⟨_, rfl⟩
  have hN2 : SQ N2 := by rw [eN2]; exact hS.kf
  have H : Ev none e 65 159 [some (.ref 104), some (.int fr), some (.int to), some (.int hb), some (.ref rw), some (.int go), some (.int n), c7] [] N2 v M' 0 0 := by rw [eN2]; exact Ev.pfi rfl rfl rfl hS.1 qa_104 qi_22_8 H
  have H : Ev none e 65 160 [some (.ref 104), some (.int fr), some (.int to), some (.int hb), some (.ref rw), some (.int go), some (.int n), c7] [.ref 104] N2 v M' 0 0 := Ev.back 1 (fun n => rfl) H
  have H : Ev none e 65 163 [some (.ref 104), some (.int fr), some (.int to), some (.int hb), some (.ref rw), some (.int go), some (.int n), c7] [.ref 137] N2 v M' 0 0 := Ev.back 1 (gs_3 rfl rfl (gf_u hN2.1 qa_104 qr_22_6 qu_40 rfl)) H
  have H : Ev none e 65 166 [some (.ref 104), some (.int fr), some (.int to), some (.int hb), some (.ref rw), some (.int go), some (.int n), c7] [.int (zI N2 137 0)] N2 v M' 0 0 := Ev.back 1 (gs_3 rfl rfl (gf_i hN2.1 qa_137 qi_40_0 rfl)) H
  rw [show zI N2 137 0 = zI M 137 0 from by rw [eN2]; exact fI_wF_ne (fun q => absurd q.2 (by decide))] at H
  have H : Ev none e 65 (if (zI M 137 0) = go then 171 else 175) [some (.ref 104), some (.int fr), some (.int to), some (.int hb), some (.ref rw), some (.int go), some (.int n), c7] [] N2 v M' 0 0 := Ev.back 2 (fun n => rfl) H
  by_cases h3 : (zI M 137 0) = go
  · rw [if_pos h3] at H
    have H : Ev none e 65 176 [some (.ref 104), some (.int fr), some (.int to), some (.int hb), some (.ref rw), some (.int go), some (.int n), c7] [.int 1] N2 v M' 0 0 := Ev.back 2 (fun n => rfl) H
    obtain ⟨z1, z2⟩ := Ev.retz rfl rfl H
    subst eN2
    exact Or.inl ⟨h3, z1, z2⟩
  · rw [if_neg h3] at H
    have H : Ev none e 65 176 [some (.ref 104), some (.int fr), some (.int to), some (.int hb), some (.ref rw), some (.int go), some (.int n), c7] [.int 0] N2 v M' 0 0 := Ev.back 1 (fun n => rfl) H
    obtain ⟨z1, z2⟩ := Ev.retz rfl rfl H
    subst eN2
    exact Or.inr (⟨h3, z1, z2⟩)
