/-! THE CLASS'S walking: begin, go, sweep, endWeek, shape: pieces (made by gwal2.py) -/
noncomputable def X_73w (M : Mem) (b : Nat) (av : Int32) (ow : Int32) : Mem := (wF (wF (wF (wF (wF M b 0 av) b 1 ow) b 2 0) b 3 (-1)) b 4 (-1))
theorem g_73w {e : Nat} {M M' : Mem} {v : Option Value} {av ow : Int32} {b : Nat} (hS : SQ M) (a_b : gNth sT b = some 21) (H : Ev none e 73 0 [some (.ref b), some (.int av), some (.int ow)] [] M v M' 0 0) : v = none ∧ M' = X_73w M b av ow := by
  unfold X_73w
  have H : Ev none e 73 2 [some (.ref b), some (.int av), some (.int ow)] [.int av, .ref b] M v M' 0 0 := Ev.back 2 (fun n => rfl) H
  obtain ⟨N2, eN2⟩ : ∃ N, N = (wF M b 0 av) := ⟨_, rfl⟩
  have hN2 : SQ N2 := by rw [eN2]; exact hS.kf
  have H : Ev none e 73 5 [some (.ref b), some (.int av), some (.int ow)] [] N2 v M' 0 0 := by rw [eN2]; exact Ev.pfi rfl rfl rfl hS.1 a_b qi_21_0 H
  have H : Ev none e 73 7 [some (.ref b), some (.int av), some (.int ow)] [.int ow, .ref b] N2 v M' 0 0 := Ev.back 2 (fun n => rfl) H
  obtain ⟨N4, eN4⟩ : ∃ N, N = (wF N2 b 1 ow) := ⟨_, rfl⟩
  have hN4 : SQ N4 := by rw [eN4]; exact hN2.kf
  have H : Ev none e 73 10 [some (.ref b), some (.int av), some (.int ow)] [] N4 v M' 0 0 := by rw [eN4]; exact Ev.pfi rfl rfl rfl hN2.1 a_b qi_21_1 H
  have H : Ev none e 73 12 [some (.ref b), some (.int av), some (.int ow)] [.int 0, .ref b] N4 v M' 0 0 := Ev.back 2 (fun n => rfl) H
  obtain ⟨N6, eN6⟩ : ∃ N, N = (wF N4 b 2 0) := ⟨_, rfl⟩
  have hN6 : SQ N6 := by rw [eN6]; exact hN4.kf
  have H : Ev none e 73 15 [some (.ref b), some (.int av), some (.int ow)] [] N6 v M' 0 0 := by rw [eN6]; exact Ev.pfi rfl rfl rfl hN4.1 a_b qi_21_2 H
  have H : Ev none e 73 17 [some (.ref b), some (.int av), some (.int ow)] [.int (-1), .ref b] N6 v M' 0 0 := Ev.back 2 (fun n => rfl) H
  obtain ⟨N8, eN8⟩ : ∃ N, N = (wF N6 b 3 (-1)) := ⟨_, rfl⟩
  have hN8 : SQ N8 := by rw [eN8]; exact hN6.kf
  have H : Ev none e 73 20 [some (.ref b), some (.int av), some (.int ow)] [] N8 v M' 0 0 := by rw [eN8]; exact Ev.pfi rfl rfl rfl hN6.1 a_b qi_21_3 H
  have H : Ev none e 73 22 [some (.ref b), some (.int av), some (.int ow)] [.int (-1), .ref b] N8 v M' 0 0 := Ev.back 2 (fun n => rfl) H
  obtain ⟨N10, eN10⟩ : ∃ N, N = (wF N8 b 4 (-1)) := ⟨_, rfl⟩
  have hN10 : SQ N10 := by rw [eN10]; exact hN8.kf
  have H : Ev none e 73 25 [some (.ref b), some (.int av), some (.int ow)] [] N10 v M' 0 0 := by rw [eN10]; exact Ev.pfi rfl rfl rfl hN8.1 a_b qi_21_4 H
  obtain ⟨p1, p2⟩ := Ev.retb (fun n => rfl) H
  subst eN2 eN4 eN6 eN8 eN10
  exact ⟨p1, p2⟩
theorem X_73w_sx {M : Mem} {av ow : Int32} {b : Nat} (hS : SQ M) (a_b : gNth sT b = some 21) : SQ (X_73w M b av ow) := by
  unfold X_73w
  exact ((((hS.kf).kf).kf).kf).kf
noncomputable def X_74w (M : Mem) (b : Nat) (to : Int32) (bw : Int32) : Mem := (wF (wF (wF M b 3 (zI M b 0)) b 0 to) b 4 bw)
theorem g_74w {e : Nat} {M M' : Mem} {v : Option Value} {to bw : Int32} {b : Nat} (hS : SQ M) (a_b : gNth sT b = some 21) (H : Ev none e 74 0 [some (.ref b), some (.int to), some (.int bw)] [] M v M' 0 0) : v = none ∧ M' = X_74w M b to bw := by
  unfold X_74w
  have H : Ev none e 74 2 [some (.ref b), some (.int to), some (.int bw)] [.ref b, .ref b] M v M' 0 0 := Ev.back 2 (fun n => rfl) H
  have H : Ev none e 74 5 [some (.ref b), some (.int to), some (.int bw)] [.int (zI M b 0), .ref b] M v M' 0 0 := Ev.back 1 (gs_3 rfl rfl (gf_i hS.1 a_b qi_21_0 rfl)) H
  obtain ⟨N2, eN2⟩ : ∃ N, N = (wF M b 3 (zI M b 0)) := ⟨_, rfl⟩
  have hN2 : SQ N2 := by rw [eN2]; exact hS.kf
  have H : Ev none e 74 8 [some (.ref b), some (.int to), some (.int bw)] [] N2 v M' 0 0 := by rw [eN2]; exact Ev.pfi rfl rfl rfl hS.1 a_b qi_21_3 H
  have H : Ev none e 74 10 [some (.ref b), some (.int to), some (.int bw)] [.int to, .ref b] N2 v M' 0 0 := Ev.back 2 (fun n => rfl) H
  obtain ⟨N4, eN4⟩ : ∃ N, N = (wF N2 b 0 to) := ⟨_, rfl⟩
  have hN4 : SQ N4 := by rw [eN4]; exact hN2.kf
  have H : Ev none e 74 13 [some (.ref b), some (.int to), some (.int bw)] [] N4 v M' 0 0 := by rw [eN4]; exact Ev.pfi rfl rfl rfl hN2.1 a_b qi_21_0 H
  have H : Ev none e 74 15 [some (.ref b), some (.int to), some (.int bw)] [.int bw, .ref b] N4 v M' 0 0 := Ev.back 2 (fun n => rfl) H
  obtain ⟨N6, eN6⟩ : ∃ N, N = (wF N4 b 4 bw) := ⟨_, rfl⟩
  have hN6 : SQ N6 := by rw [eN6]; exact hN4.kf
  have H : Ev none e 74 18 [some (.ref b), some (.int to), some (.int bw)] [] N6 v M' 0 0 := by rw [eN6]; exact Ev.pfi rfl rfl rfl hN4.1 a_b qi_21_4 H
  obtain ⟨p1, p2⟩ := Ev.retb (fun n => rfl) H
  subst eN2 eN4 eN6
  exact ⟨p1, p2⟩
theorem X_74w_sx {M : Mem} {to bw : Int32} {b : Nat} (hS : SQ M) (a_b : gNth sT b = some 21) : SQ (X_74w M b to bw) := by
  unfold X_74w
  exact ((hS.kf).kf).kf
noncomputable def G_78 (M : Mem) (x : Nat) (ti : Int32) : Int32 := if (zI M x 5) = 0 then 0 else (if (zI M x 3) ≤ 0 then 0 else (if ti < (zI M x 4) then 0 else (if ((ti - (zI M x 4)) - (ti - (zI M x 4)) / (zI M x 3) * (zI M x 3)) = 0 then 1 else 0)))
theorem g_78 {e : Nat} {M M' : Mem} {v : Option Value} {ti : Int32} {x : Nat} (hS : SQ M) (a_x : gNth sT x = some 20) (H : Ev none e 78 0 [some (.ref x), some (.int ti)] [] M v M' 0 0) : v = some (.int (G_78 M x ti)) ∧ M' = M := by
  unfold G_78
  have H : Ev none e 78 1 [some (.ref x), some (.int ti)] [.ref x] M v M' 0 0 := Ev.back 1 (fun n => rfl) H
  have H : Ev none e 78 4 [some (.ref x), some (.int ti)] [.int (zI M x 5)] M v M' 0 0 := Ev.back 1 (gs_3 rfl rfl (gf_i hS.1 a_x qi_20_5 rfl)) H
  have H : Ev none e 78 (if (zI M x 5) = 0 then 40 else 7) [some (.ref x), some (.int ti)] [] M v M' 0 0 := Ev.back 1 (fun n => rfl) H
  by_cases h1 : (zI M x 5) = 0
  · rw [if_pos h1] at H
    have H : Ev none e 78 41 [some (.ref x), some (.int ti)] [.int 0] M v M' 0 0 := Ev.back 1 (fun n => rfl) H
    obtain ⟨p1, p2⟩ := Ev.retz rfl rfl H
    exact ⟨by rw [if_pos h1]; exact p1, p2⟩
  · rw [if_neg h1] at H
    have H : Ev none e 78 8 [some (.ref x), some (.int ti)] [.ref x] M v M' 0 0 := Ev.back 1 (fun n => rfl) H
    have H : Ev none e 78 11 [some (.ref x), some (.int ti)] [.int (zI M x 3)] M v M' 0 0 := Ev.back 1 (gs_3 rfl rfl (gf_i hS.1 a_x qi_20_3 rfl)) H
    have H : Ev none e 78 (if (zI M x 3) ≤ 0 then 40 else 14) [some (.ref x), some (.int ti)] [] M v M' 0 0 := Ev.back 1 (fun n => rfl) H
    by_cases h2 : (zI M x 3) ≤ 0
    · rw [if_pos h2] at H
      have H : Ev none e 78 41 [some (.ref x), some (.int ti)] [.int 0] M v M' 0 0 := Ev.back 1 (fun n => rfl) H
      obtain ⟨p1, p2⟩ := Ev.retz rfl rfl H
      exact ⟨by rw [if_neg h1, if_pos h2]; exact p1, p2⟩
    · rw [if_neg h2] at H
      have H : Ev none e 78 16 [some (.ref x), some (.int ti)] [.ref x, .int ti] M v M' 0 0 := Ev.back 2 (fun n => rfl) H
      have H : Ev none e 78 19 [some (.ref x), some (.int ti)] [.int (zI M x 4), .int ti] M v M' 0 0 := Ev.back 1 (gs_3 rfl rfl (gf_i hS.1 a_x qi_20_4 rfl)) H
      have H : Ev none e 78 (if ti < (zI M x 4) then 40 else 22) [some (.ref x), some (.int ti)] [] M v M' 0 0 := Ev.back 1 (fun n => rfl) H
      by_cases h3 : ti < (zI M x 4)
      · rw [if_pos h3] at H
        have H : Ev none e 78 41 [some (.ref x), some (.int ti)] [.int 0] M v M' 0 0 := Ev.back 1 (fun n => rfl) H
        obtain ⟨p1, p2⟩ := Ev.retz rfl rfl H
        exact ⟨by rw [if_neg h1, if_neg h2, if_pos h3]; exact p1, p2⟩
      · rw [if_neg h3] at H
        have H : Ev none e 78 24 [some (.ref x), some (.int ti)] [.ref x, .int ti] M v M' 0 0 := Ev.back 2 (fun n => rfl) H
        have H : Ev none e 78 27 [some (.ref x), some (.int ti)] [.int (zI M x 4), .int ti] M v M' 0 0 := Ev.back 1 (gs_3 rfl rfl (gf_i hS.1 a_x qi_20_4 rfl)) H
        have H : Ev none e 78 29 [some (.ref x), some (.int ti)] [.ref x, .int (ti - (zI M x 4))] M v M' 0 0 := Ev.back 2 (fun n => rfl) H
        have H : Ev none e 78 32 [some (.ref x), some (.int ti)] [.int (zI M x 3), .int (ti - (zI M x 4))] M v M' 0 0 := Ev.back 1 (gs_3 rfl rfl (gf_i hS.1 a_x qi_20_3 rfl)) H
        obtain ⟨nz4, H⟩ := rm_i H rfl rfl
        have H : Ev none e 78 33 [some (.ref x), some (.int ti)] [.int ((ti - (zI M x 4)) - (ti - (zI M x 4)) / (zI M x 3) * (zI M x 3))] M v M' 0 0 := H
        have H : Ev none e 78 (if ((ti - (zI M x 4)) - (ti - (zI M x 4)) / (zI M x 3) * (zI M x 3)) = 0 then 36 else 40) [some (.ref x), some (.int ti)] [] M v M' 0 0 := Ev.back 1 (fun n => rfl) H
        by_cases h5 : ((ti - (zI M x 4)) - (ti - (zI M x 4)) / (zI M x 3) * (zI M x 3)) = 0
        · rw [if_pos h5] at H
          have H : Ev none e 78 41 [some (.ref x), some (.int ti)] [.int 1] M v M' 0 0 := Ev.back 2 (fun n => rfl) H
          obtain ⟨p1, p2⟩ := Ev.retz rfl rfl H
          exact ⟨by rw [if_neg h1, if_neg h2, if_neg h3, if_pos h5]; exact p1, p2⟩
        · rw [if_neg h5] at H
          have H : Ev none e 78 41 [some (.ref x), some (.int ti)] [.int 0] M v M' 0 0 := Ev.back 1 (fun n => rfl) H
          obtain ⟨p1, p2⟩ := Ev.retz rfl rfl H
          exact ⟨by rw [if_neg h1, if_neg h2, if_neg h3, if_neg h5]; exact p1, p2⟩
theorem bgn_0 {e : Nat} {M M' : Mem} {v : Option Value} (hS : SQ M) (H : Ev none e 59 0 [some (.ref 104), none, none, none] [] M v M' 0 0) : Ev none e 59 2 [some (.ref 104), some (.int 0), none, none] [] M v M' 0 0 := by
  have H : Ev none e 59 2 [some (.ref 104), some (.int 0), none, none] [] M v M' 0 0 := Ev.back 2 (fun n => rfl) H
  have HF := H
  exact HF
theorem bgn_2 {e : Nat} {M M' : Mem} {v : Option Value} {k : Int32} {c2 c3 : Option Value} (hS : SQ M) (H : Ev none e 59 2 [some (.ref 104), some (.int k), c2, c3] [] M v M' 0 0) : ((zI M (fR M 104 7) 13) ≤ k ∧ v = none ∧ M' = M) ∨ (¬ ((zI M (fR M 104 7) 13) ≤ k) ∧ (G_78 M (oI M (fR M 104 7 + 10) k) (zI M (fR M 104 7) 16)) = 0 ∧ (0 ≤ k.toInt ∧ k.toInt < 24) ∧ Ev none e 59 2 [some (.ref 104), some (.int (k + 1)), some (.ref (oI M (fR M 104 7 + 10) k)), c3] [] M v M' 0 0) ∨ (¬ ((zI M (fR M 104 7) 13) ≤ k) ∧ ¬ ((G_78 M (oI M (fR M 104 7 + 10) k) (zI M (fR M 104 7) 16)) = 0) ∧ (zI M (fR M 104 7) 15) < 60 ∧ (0 ≤ k.toInt ∧ k.toInt < 24) ∧ (0 ≤ (zI M (oI M (fR M 104 7 + 10) k) 0).toInt ∧ (zI M (oI M (fR M 104 7 + 10) k) 0).toInt < 9) ∧ (0 ≤ (zI M (fR M 104 7) 15).toInt ∧ (zI M (fR M 104 7) 15).toInt < 60) ∧ (∃ e1 v1 M1, e = e1 + 1 ∧ Ev none e1 73 0 [some (.ref (oI M (fR M 104 7 + 11) (zI M (fR M 104 7) 15))), some (.int (rI M (fR M 104 7 + 9) (zI M (oI M (fR M 104 7 + 10) k) 0))), some (.int k)] [] M v1 M1 0 0 ∧ Ev none e 59 101 [some (.ref 104), some (.int k), some (.ref (oI M (fR M 104 7 + 10) k)), some (.int (rI M (fR M 104 7 + 9) (zI M (oI M (fR M 104 7 + 10) k) 0)))] (v1.toList ++ []) M1 v M' 0 0)) ∨ (¬ ((zI M (fR M 104 7) 13) ≤ k) ∧ ¬ ((G_78 M (oI M (fR M 104 7 + 10) k) (zI M (fR M 104 7) 16)) = 0) ∧ ¬ ((zI M (fR M 104 7) 15) < 60) ∧ (0 ≤ k.toInt ∧ k.toInt < 24) ∧ Ev none e 59 2 [some (.ref 104), some (.int (k + 1)), some (.ref (oI M (fR M 104 7 + 10) k)), c3] [] (wF M (fR M 104 7) 19 ((zI M (fR M 104 7) 19) + 1)) v M' 0 0) := by
  have H : Ev none e 59 4 [some (.ref 104), some (.int k), c2, c3] [.ref 104, .int k] M v M' 0 0 := Ev.back 2 (fun n => rfl) H
  have H : Ev none e 59 7 [some (.ref 104), some (.int k), c2, c3] [.ref (fR M 104 7), .int k] M v M' 0 0 := Ev.back 1 (gs_3 rfl rfl (gf_r hS.1 qa_104 qr_22_7 rfl)) H
  have H : Ev none e 59 10 [some (.ref 104), some (.int k), c2, c3] [.int (zI M (fR M 104 7) 13), .int k] M v M' 0 0 := Ev.back 1 (gs_3 rfl rfl (gf_i hS.1 (hS.1.fr qa_104 qr_22_7).2 qi_8_13 rfl)) H
  have H : Ev none e 59 (if (zI M (fR M 104 7) 13) ≤ k then 133 else 13) [some (.ref 104), some (.int k), c2, c3] [] M v M' 0 0 := Ev.back 1 (fun n => rfl) H
  by_cases h1 : (zI M (fR M 104 7) 13) ≤ k
  · rw [if_pos h1] at H
    obtain ⟨z1, z2⟩ := Ev.retb (fun n => rfl) H
    exact Or.inl ⟨h1, z1, z2⟩
  · rw [if_neg h1] at H
    have H : Ev none e 59 14 [some (.ref 104), some (.int k), c2, c3] [.ref 104] M v M' 0 0 := Ev.back 1 (fun n => rfl) H
    have H : Ev none e 59 17 [some (.ref 104), some (.int k), c2, c3] [.ref (fR M 104 7)] M v M' 0 0 := Ev.back 1 (gs_3 rfl rfl (gf_r hS.1 qa_104 qr_22_7 rfl)) H
    have H : Ev none e 59 20 [some (.ref 104), some (.int k), c2, c3] [.ref (fR M 104 7 + 10)] M v M' 0 0 := Ev.back 1 (gs_3 rfl rfl (gf_x hS.1 (hS.1.fr qa_104 qr_22_7).2 qo_8 (fx_l12 hS (hS.1.fr qa_104 qr_22_7).2) rfl)) H
    have H : Ev none e 59 21 [some (.ref 104), some (.int k), c2, c3] [.int k, .ref (fR M 104 7 + 10)] M v M' 0 0 := Ev.back 1 (fun n => rfl) H
    obtain ⟨b2, H⟩ := Ev.aal rfl rfl hS.1 (fx_h12 (hS.1.fr qa_104 qr_22_7).2) qz_18 H
    have H : Ev none e 59 22 [some (.ref 104), some (.int k), c2, c3] [.ref (oI M (fR M 104 7 + 10) k)] M v M' 0 0 := H
    have H : Ev none e 59 25 [some (.ref 104), some (.int k), some (.ref (oI M (fR M 104 7 + 10) k)), c3] [.ref 104, .ref (oI M (fR M 104 7 + 10) k)] M v M' 0 0 := Ev.back 3 (fun n => rfl) H
    have H : Ev none e 59 28 [some (.ref 104), some (.int k), some (.ref (oI M (fR M 104 7 + 10) k)), c3] [.ref (fR M 104 7), .ref (oI M (fR M 104 7 + 10) k)] M v M' 0 0 := Ev.back 1 (gs_3 rfl rfl (gf_r hS.1 qa_104 qr_22_7 rfl)) H
    have H : Ev none e 59 31 [some (.ref 104), some (.int k), some (.ref (oI M (fR M 104 7 + 10) k)), c3] [.int (zI M (fR M 104 7) 16), .ref (oI M (fR M 104 7 + 10) k)] M v M' 0 0 := Ev.back 1 (gs_3 rfl rfl (gf_i hS.1 (hS.1.fr qa_104 qr_22_7).2 qi_8_16 rfl)) H
    obtain ⟨e1, rfl⟩ := Ev.dpos rfl rfl H
    obtain ⟨vK3, MK3, K3, H⟩ := Ev.callb (fun n_ => gs_7 rfl rfl (show gCal (.invokevirtual 164) 7 (.int (zI M (fR M 104 7) 16) :: .ref (oI M (fR M 104 7 + 10) k) :: []) M = some (.inr (78, [some (.ref (oI M (fR M 104 7 + 10) k)), some (.int (zI M (fR M 104 7) 16))], [])) from by show @cond (Option ((List Value × Mem) ⊕ (Nat × Lo × List Value))) (true && gRecv M (.ref (oI M (fR M 104 7 + 10) k)) 9 && gRoom [] && true) (some (.inr (78, [some (.ref (oI M (fR M 104 7 + 10) k)), some (.int (zI M (fR M 104 7) 16))], []))) none = _; rw [recv_s hS.1 b2.2 qo_20]; rfl)) H
    obtain ⟨pK3, qK3⟩ := g_78 hS b2.2 K3
    rw [pK3, qK3] at H
    have H : Ev none (e1 + 1) 59 34 [some (.ref 104), some (.int k), some (.ref (oI M (fR M 104 7 + 10) k)), c3] [.int (G_78 M (oI M (fR M 104 7 + 10) k) (zI M (fR M 104 7) 16))] M v M' 0 0 := H
    have H : Ev none (e1 + 1) 59 (if (G_78 M (oI M (fR M 104 7 + 10) k) (zI M (fR M 104 7) 16)) = 0 then 37 else 40) [some (.ref 104), some (.int k), some (.ref (oI M (fR M 104 7 + 10) k)), c3] [] M v M' 0 0 := Ev.back 1 (fun n => rfl) H
    by_cases h4 : (G_78 M (oI M (fR M 104 7 + 10) k) (zI M (fR M 104 7) 16)) = 0
    · rw [if_pos h4] at H
      have H : Ev none (e1 + 1) 59 2 [some (.ref 104), some (.int (k + 1)), some (.ref (oI M (fR M 104 7 + 10) k)), c3] [] M v M' 0 0 := Ev.back 3 (fun n => rfl) H
      have HF := H
      exact Or.inr (Or.inl ⟨h1, h4, b2.1, HF⟩)
    · rw [if_neg h4] at H
      have H : Ev none (e1 + 1) 59 41 [some (.ref 104), some (.int k), some (.ref (oI M (fR M 104 7 + 10) k)), c3] [.ref 104] M v M' 0 0 := Ev.back 1 (fun n => rfl) H
      have H : Ev none (e1 + 1) 59 44 [some (.ref 104), some (.int k), some (.ref (oI M (fR M 104 7 + 10) k)), c3] [.ref (fR M 104 7)] M v M' 0 0 := Ev.back 1 (gs_3 rfl rfl (gf_r hS.1 qa_104 qr_22_7 rfl)) H
      have H : Ev none (e1 + 1) 59 47 [some (.ref 104), some (.int k), some (.ref (oI M (fR M 104 7 + 10) k)), c3] [.int (zI M (fR M 104 7) 15)] M v M' 0 0 := Ev.back 1 (gs_3 rfl rfl (gf_i hS.1 (hS.1.fr qa_104 qr_22_7).2 qi_8_15 rfl)) H
      have H : Ev none (e1 + 1) 59 (if (zI M (fR M 104 7) 15) < 60 then 68 else 52) [some (.ref 104), some (.int k), some (.ref (oI M (fR M 104 7 + 10) k)), c3] [] M v M' 0 0 := Ev.back 2 (fun n => rfl) H
      by_cases h5 : (zI M (fR M 104 7) 15) < 60
      · rw [if_pos h5] at H
        have H : Ev none (e1 + 1) 59 69 [some (.ref 104), some (.int k), some (.ref (oI M (fR M 104 7 + 10) k)), c3] [.ref 104] M v M' 0 0 := Ev.back 1 (fun n => rfl) H
        have H : Ev none (e1 + 1) 59 72 [some (.ref 104), some (.int k), some (.ref (oI M (fR M 104 7 + 10) k)), c3] [.ref (fR M 104 7)] M v M' 0 0 := Ev.back 1 (gs_3 rfl rfl (gf_r hS.1 qa_104 qr_22_7 rfl)) H
        have H : Ev none (e1 + 1) 59 75 [some (.ref 104), some (.int k), some (.ref (oI M (fR M 104 7 + 10) k)), c3] [.ref (fR M 104 7 + 9)] M v M' 0 0 := Ev.back 1 (gs_3 rfl rfl (gf_x hS.1 (hS.1.fr qa_104 qr_22_7).2 qo_8 (fx_l10 hS (hS.1.fr qa_104 qr_22_7).2) rfl)) H
        have H : Ev none (e1 + 1) 59 76 [some (.ref 104), some (.int k), some (.ref (oI M (fR M 104 7 + 10) k)), c3] [.ref (oI M (fR M 104 7 + 10) k), .ref (fR M 104 7 + 9)] M v M' 0 0 := Ev.back 1 (fun n => rfl) H
        have H : Ev none (e1 + 1) 59 79 [some (.ref 104), some (.int k), some (.ref (oI M (fR M 104 7 + 10) k)), c3] [.int (zI M (oI M (fR M 104 7 + 10) k) 0), .ref (fR M 104 7 + 9)] M v M' 0 0 := Ev.back 1 (gs_3 rfl rfl (gf_i hS.1 b2.2 qi_20_0 rfl)) H
        obtain ⟨b6, H⟩ := Ev.ial rfl rfl hS.1 (fx_h10 (hS.1.fr qa_104 qr_22_7).2) qw_17 H
        have H : Ev none (e1 + 1) 59 80 [some (.ref 104), some (.int k), some (.ref (oI M (fR M 104 7 + 10) k)), c3] [.int (rI M (fR M 104 7 + 9) (zI M (oI M (fR M 104 7 + 10) k) 0))] M v M' 0 0 := H
        have H : Ev none (e1 + 1) 59 82 [some (.ref 104), some (.int k), some (.ref (oI M (fR M 104 7 + 10) k)), some (.int (rI M (fR M 104 7 + 9) (zI M (oI M (fR M 104 7 + 10) k) 0)))] [.ref 104] M v M' 0 0 := Ev.back 2 (fun n => rfl) H
        have H : Ev none (e1 + 1) 59 85 [some (.ref 104), some (.int k), some (.ref (oI M (fR M 104 7 + 10) k)), some (.int (rI M (fR M 104 7 + 9) (zI M (oI M (fR M 104 7 + 10) k) 0)))] [.ref (fR M 104 7)] M v M' 0 0 := Ev.back 1 (gs_3 rfl rfl (gf_r hS.1 qa_104 qr_22_7 rfl)) H
        have H : Ev none (e1 + 1) 59 88 [some (.ref 104), some (.int k), some (.ref (oI M (fR M 104 7 + 10) k)), some (.int (rI M (fR M 104 7 + 9) (zI M (oI M (fR M 104 7 + 10) k) 0)))] [.ref (fR M 104 7 + 11)] M v M' 0 0 := Ev.back 1 (gs_3 rfl rfl (gf_x hS.1 (hS.1.fr qa_104 qr_22_7).2 qo_8 (fx_l14 hS (hS.1.fr qa_104 qr_22_7).2) rfl)) H
        have H : Ev none (e1 + 1) 59 89 [some (.ref 104), some (.int k), some (.ref (oI M (fR M 104 7 + 10) k)), some (.int (rI M (fR M 104 7 + 9) (zI M (oI M (fR M 104 7 + 10) k) 0)))] [.ref 104, .ref (fR M 104 7 + 11)] M v M' 0 0 := Ev.back 1 (fun n => rfl) H
        have H : Ev none (e1 + 1) 59 92 [some (.ref 104), some (.int k), some (.ref (oI M (fR M 104 7 + 10) k)), some (.int (rI M (fR M 104 7 + 9) (zI M (oI M (fR M 104 7 + 10) k) 0)))] [.ref (fR M 104 7), .ref (fR M 104 7 + 11)] M v M' 0 0 := Ev.back 1 (gs_3 rfl rfl (gf_r hS.1 qa_104 qr_22_7 rfl)) H
        have H : Ev none (e1 + 1) 59 95 [some (.ref 104), some (.int k), some (.ref (oI M (fR M 104 7 + 10) k)), some (.int (rI M (fR M 104 7 + 9) (zI M (oI M (fR M 104 7 + 10) k) 0)))] [.int (zI M (fR M 104 7) 15), .ref (fR M 104 7 + 11)] M v M' 0 0 := Ev.back 1 (gs_3 rfl rfl (gf_i hS.1 (hS.1.fr qa_104 qr_22_7).2 qi_8_15 rfl)) H
        obtain ⟨b7, H⟩ := Ev.aal rfl rfl hS.1 (fx_h14 (hS.1.fr qa_104 qr_22_7).2) qz_19 H
        have H : Ev none (e1 + 1) 59 96 [some (.ref 104), some (.int k), some (.ref (oI M (fR M 104 7 + 10) k)), some (.int (rI M (fR M 104 7 + 9) (zI M (oI M (fR M 104 7 + 10) k) 0)))] [.ref (oI M (fR M 104 7 + 11) (zI M (fR M 104 7) 15))] M v M' 0 0 := H
        have H : Ev none (e1 + 1) 59 98 [some (.ref 104), some (.int k), some (.ref (oI M (fR M 104 7 + 10) k)), some (.int (rI M (fR M 104 7 + 9) (zI M (oI M (fR M 104 7 + 10) k) 0)))] [.int k, .int (rI M (fR M 104 7 + 9) (zI M (oI M (fR M 104 7 + 10) k) 0)), .ref (oI M (fR M 104 7 + 11) (zI M (fR M 104 7) 15))] M v M' 0 0 := Ev.back 2 (fun n => rfl) H
        obtain ⟨vK8, MK8, K8, H⟩ := Ev.callb (fun n_ => gs_7 rfl rfl (show gCal (.invokevirtual 173) 7 (.int k :: .int (rI M (fR M 104 7 + 9) (zI M (oI M (fR M 104 7 + 10) k) 0)) :: .ref (oI M (fR M 104 7 + 11) (zI M (fR M 104 7) 15)) :: []) M = some (.inr (73, [some (.ref (oI M (fR M 104 7 + 11) (zI M (fR M 104 7) 15))), some (.int (rI M (fR M 104 7 + 9) (zI M (oI M (fR M 104 7 + 10) k) 0))), some (.int k)], [])) from by show @cond (Option ((List Value × Mem) ⊕ (Nat × Lo × List Value))) (true && gRecv M (.ref (oI M (fR M 104 7 + 11) (zI M (fR M 104 7) 15))) 8 && gRoom [] && true) (some (.inr (73, [some (.ref (oI M (fR M 104 7 + 11) (zI M (fR M 104 7) 15))), some (.int (rI M (fR M 104 7 + 9) (zI M (oI M (fR M 104 7 + 10) k) 0))), some (.int k)], []))) none = _; rw [recv_s hS.1 b7.2 qo_21]; rfl)) H
        have K8 : Ev none e1 73 0 [some (.ref (oI M (fR M 104 7 + 11) (zI M (fR M 104 7) 15))), some (.int (rI M (fR M 104 7 + 9) (zI M (oI M (fR M 104 7 + 10) k) 0))), some (.int k)] [] M vK8 MK8 0 0 := K8
        have HF := H
        exact Or.inr (Or.inr (Or.inl ⟨h1, h4, h5, b2.1, b6, b7.1, ⟨e1, vK8, MK8, rfl, K8, HF⟩⟩))
      · rw [if_neg h5] at H
        have H : Ev none (e1 + 1) 59 53 [some (.ref 104), some (.int k), some (.ref (oI M (fR M 104 7 + 10) k)), c3] [.ref 104] M v M' 0 0 := Ev.back 1 (fun n => rfl) H
        have H : Ev none (e1 + 1) 59 56 [some (.ref 104), some (.int k), some (.ref (oI M (fR M 104 7 + 10) k)), c3] [.ref (fR M 104 7)] M v M' 0 0 := Ev.back 1 (gs_3 rfl rfl (gf_r hS.1 qa_104 qr_22_7 rfl)) H
        have H : Ev none (e1 + 1) 59 57 [some (.ref 104), some (.int k), some (.ref (oI M (fR M 104 7 + 10) k)), c3] [.ref (fR M 104 7), .ref (fR M 104 7)] M v M' 0 0 := Ev.back 1 (fun n => rfl) H
        have H : Ev none (e1 + 1) 59 60 [some (.ref 104), some (.int k), some (.ref (oI M (fR M 104 7 + 10) k)), c3] [.int (zI M (fR M 104 7) 19), .ref (fR M 104 7)] M v M' 0 0 := Ev.back 1 (gs_3 rfl rfl (gf_i hS.1 (hS.1.fr qa_104 qr_22_7).2 qi_8_19 rfl)) H
        have H : Ev none (e1 + 1) 59 62 [some (.ref 104), some (.int k), some (.ref (oI M (fR M 104 7 + 10) k)), c3] [.int ((zI M (fR M 104 7) 19) + 1), .ref (fR M 104 7)] M v M' 0 0 := Ev.back 2 (fun n => rfl) H
        obtain ⟨N10, eN10⟩ : ∃ N, N = (wF M (fR M 104 7) 19 ((zI M (fR M 104 7) 19) + 1)) := ⟨_, rfl⟩
        have hN10 : SQ N10 := by rw [eN10]; exact hS.kf
        have H : Ev none (e1 + 1) 59 65 [some (.ref 104), some (.int k), some (.ref (oI M (fR M 104 7 + 10) k)), c3] [] N10 v M' 0 0 := by rw [eN10]; exact Ev.pfi rfl rfl rfl hS.1 (hS.1.fr qa_104 qr_22_7).2 qi_8_19 H
        have H : Ev none (e1 + 1) 59 2 [some (.ref 104), some (.int (k + 1)), some (.ref (oI M (fR M 104 7 + 10) k)), c3] [] N10 v M' 0 0 := Ev.back 3 (fun n => rfl) H
        have HF := H
        subst eN10
        exact Or.inr (Or.inr (Or.inr (⟨h1, h4, h5, b2.1, HF⟩)))
theorem bgn_101 {e : Nat} {M M' : Mem} {v : Option Value} {k aw : Int32} {x : Nat} (hS : SQ M) (a_x : gNth sT x = some 20) (H : Ev none e 59 101 [some (.ref 104), some (.int k), some (.ref x), some (.int aw)] [] M v M' 0 0) : (0 ≤ aw.toInt ∧ aw.toInt < 256) ∧ (0 ≤ aw.toInt ∧ aw.toInt < 256) ∧ Ev none e 59 2 [some (.ref 104), some (.int (k + 1)), some (.ref x), some (.int aw)] [] (wI (wF M (fR M 104 7) 15 ((zI M (fR M 104 7) 15) + 1)) (fR M 104 7 + 8) aw.toNatClampNeg ((rI M (fR M 104 7 + 8) aw) + 1)) v M' 0 0 := by
  have H : Ev none e 59 102 [some (.ref 104), some (.int k), some (.ref x), some (.int aw)] [.ref 104] M v M' 0 0 := Ev.back 1 (fun n => rfl) H
  have H : Ev none e 59 105 [some (.ref 104), some (.int k), some (.ref x), some (.int aw)] [.ref (fR M 104 7)] M v M' 0 0 := Ev.back 1 (gs_3 rfl rfl (gf_r hS.1 qa_104 qr_22_7 rfl)) H
  have H : Ev none e 59 106 [some (.ref 104), some (.int k), some (.ref x), some (.int aw)] [.ref (fR M 104 7), .ref (fR M 104 7)] M v M' 0 0 := Ev.back 1 (fun n => rfl) H
  have H : Ev none e 59 109 [some (.ref 104), some (.int k), some (.ref x), some (.int aw)] [.int (zI M (fR M 104 7) 15), .ref (fR M 104 7)] M v M' 0 0 := Ev.back 1 (gs_3 rfl rfl (gf_i hS.1 (hS.1.fr qa_104 qr_22_7).2 qi_8_15 rfl)) H
  have H : Ev none e 59 111 [some (.ref 104), some (.int k), some (.ref x), some (.int aw)] [.int ((zI M (fR M 104 7) 15) + 1), .ref (fR M 104 7)] M v M' 0 0 := Ev.back 2 (fun n => rfl) H
  obtain ⟨N2, eN2⟩ : ∃ N, N = (wF M (fR M 104 7) 15 ((zI M (fR M 104 7) 15) + 1)) := ⟨_, rfl⟩
  have hN2 : SQ N2 := by rw [eN2]; exact hS.kf
  have H : Ev none e 59 114 [some (.ref 104), some (.int k), some (.ref x), some (.int aw)] [] N2 v M' 0 0 := by rw [eN2]; exact Ev.pfi rfl rfl rfl hS.1 (hS.1.fr qa_104 qr_22_7).2 qi_8_15 H
  have H : Ev none e 59 115 [some (.ref 104), some (.int k), some (.ref x), some (.int aw)] [.ref 104] N2 v M' 0 0 := Ev.back 1 (fun n => rfl) H
  have H : Ev none e 59 118 [some (.ref 104), some (.int k), some (.ref x), some (.int aw)] [.ref (fR N2 104 7)] N2 v M' 0 0 := Ev.back 1 (gs_3 rfl rfl (gf_r hN2.1 qa_104 qr_22_7 rfl)) H
  rw [show fR N2 104 7 = fR M 104 7 from by rw [eN2]; exact fR_wF] at H
  have H : Ev none e 59 121 [some (.ref 104), some (.int k), some (.ref x), some (.int aw)] [.ref (fR M 104 7 + 8)] N2 v M' 0 0 := Ev.back 1 (gs_3 rfl rfl (gf_x hN2.1 (hS.1.fr qa_104 qr_22_7).2 qo_8 (fx_l9 hN2 (hS.1.fr qa_104 qr_22_7).2) rfl)) H
  have H : Ev none e 59 123 [some (.ref 104), some (.int k), some (.ref x), some (.int aw)] [.int aw, .ref (fR M 104 7 + 8), .int aw, .ref (fR M 104 7 + 8)] N2 v M' 0 0 := Ev.back 2 (fun n => rfl) H
  obtain ⟨b3, H⟩ := Ev.ial rfl rfl hN2.1 (fx_h9 (hS.1.fr qa_104 qr_22_7).2) qw_16 H
  have H : Ev none e 59 124 [some (.ref 104), some (.int k), some (.ref x), some (.int aw)] [.int (rI N2 (fR M 104 7 + 8) aw), .int aw, .ref (fR M 104 7 + 8)] N2 v M' 0 0 := H
  rw [show rI N2 (fR M 104 7 + 8) aw = rI M (fR M 104 7 + 8) aw from by rw [eN2]; exact rN_wF] at H
  have H : Ev none e 59 126 [some (.ref 104), some (.int k), some (.ref x), some (.int aw)] [.int ((rI M (fR M 104 7 + 8) aw) + 1), .int aw, .ref (fR M 104 7 + 8)] N2 v M' 0 0 := Ev.back 2 (fun n => rfl) H
  obtain ⟨b4, H⟩ := Ev.ias rfl rfl hN2.1 (fx_h9 (hS.1.fr qa_104 qr_22_7).2) qw_16 H
  obtain ⟨N5, eN5⟩ : ∃ N, N = (wI N2 (fR M 104 7 + 8) aw.toNatClampNeg ((rI M (fR M 104 7 + 8) aw) + 1)) := ⟨_, rfl⟩
  have hN5 : SQ N5 := by rw [eN5]; exact hN2.ki
  have H : Ev none e 59 127 [some (.ref 104), some (.int k), some (.ref x), some (.int aw)] [] N5 v M' 0 0 := by rw [eN5]; exact H
  have H : Ev none e 59 2 [some (.ref 104), some (.int (k + 1)), some (.ref x), some (.int aw)] [] N5 v M' 0 0 := Ev.back 2 (fun n => rfl) H
  have HF := H
  subst eN2 eN5
  exact ⟨b3, b4, HF⟩
theorem lvd_0 {e : Nat} {M M' : Mem} {v : Option Value} {go : Int32} {b : Nat} (hS : SQ M) (a_b : gNth sT b = some 21) (H : Ev none e 60 0 [some (.ref 104), some (.ref b), some (.int go), none] [] M v M' 0 0) : ((zI M b 0) = go ∧ (0 ≤ (zI M b 0).toInt ∧ (zI M b 0).toInt < 256) ∧ (0 ≤ (zI M b 0).toInt ∧ (zI M b 0).toInt < 256) ∧ v = none ∧ M' = (wF (wI (wF (wF M (fR M 104 7) 17 ((zI M (fR M 104 7) 17) + 1)) (fR M 104 7) 18 ((zI M (fR M 104 7) 18) + 0)) (fR M 104 7 + 8) ((zI M b 0).toNatClampNeg) ((rI M (fR M 104 7 + 8) (zI M b 0)) - 1)) b 0 (-1))) ∨ (¬ ((zI M b 0) = go) ∧ 200 ≤ (zI M b 2) ∧ (0 ≤ (zI M b 0).toInt ∧ (zI M b 0).toInt < 256) ∧ (0 ≤ (zI M b 0).toInt ∧ (zI M b 0).toInt < 256) ∧ v = none ∧ M' = (wF (wI (wF (wF M (fR M 104 7) 17 ((zI M (fR M 104 7) 17) + 0)) (fR M 104 7) 18 ((zI M (fR M 104 7) 18) + 1)) (fR M 104 7 + 8) ((zI M b 0).toNatClampNeg) ((rI M (fR M 104 7 + 8) (zI M b 0)) - 1)) b 0 (-1))) ∨ (¬ ((zI M b 0) = go) ∧ ¬ (200 ≤ (zI M b 2)) ∧ v = none ∧ M' = M) := by
  have H : Ev none e 60 1 [some (.ref 104), some (.ref b), some (.int go), none] [.ref b] M v M' 0 0 := Ev.back 1 (fun n => rfl) H
  have H : Ev none e 60 4 [some (.ref 104), some (.ref b), some (.int go), none] [.int (zI M b 0)] M v M' 0 0 := Ev.back 1 (gs_3 rfl rfl (gf_i hS.1 a_b qi_21_0 rfl)) H
  have H : Ev none e 60 (if (zI M b 0) = go then 8 else 12) [some (.ref 104), some (.ref b), some (.int go), none] [] M v M' 0 0 := Ev.back 2 (fun n => rfl) H
  by_cases h1 : (zI M b 0) = go
  · rw [if_pos h1] at H
    have H : Ev none e 60 (if 1 = 0 then 18 else 29) [some (.ref 104), some (.ref b), some (.int go), some (.int 1)] [] M v M' 0 0 := Ev.back 5 (fun n => rfl) H
    rw [if_neg (by decide)] at H
    have H : Ev none e 60 30 [some (.ref 104), some (.ref b), some (.int go), some (.int 1)] [.ref 104] M v M' 0 0 := Ev.back 1 (fun n => rfl) H
    have H : Ev none e 60 33 [some (.ref 104), some (.ref b), some (.int go), some (.int 1)] [.ref (fR M 104 7)] M v M' 0 0 := Ev.back 1 (gs_3 rfl rfl (gf_r hS.1 qa_104 qr_22_7 rfl)) H
    have H : Ev none e 60 34 [some (.ref 104), some (.ref b), some (.int go), some (.int 1)] [.ref (fR M 104 7), .ref (fR M 104 7)] M v M' 0 0 := Ev.back 1 (fun n => rfl) H
    have H : Ev none e 60 37 [some (.ref 104), some (.ref b), some (.int go), some (.int 1)] [.int (zI M (fR M 104 7) 17), .ref (fR M 104 7)] M v M' 0 0 := Ev.back 1 (gs_3 rfl rfl (gf_i hS.1 (hS.1.fr qa_104 qr_22_7).2 qi_8_17 rfl)) H
    have H : Ev none e 60 (if 1 = 0 then 45 else 41) [some (.ref 104), some (.ref b), some (.int go), some (.int 1)] [.int (zI M (fR M 104 7) 17), .ref (fR M 104 7)] M v M' 0 0 := Ev.back 2 (fun n => rfl) H
    rw [if_neg (by decide)] at H
    have H : Ev none e 60 47 [some (.ref 104), some (.ref b), some (.int go), some (.int 1)] [.int ((zI M (fR M 104 7) 17) + 1), .ref (fR M 104 7)] M v M' 0 0 := Ev.back 3 (fun n => rfl) H
    obtain ⟨N3, eN3⟩ : ∃ N, N = (wF M (fR M 104 7) 17 ((zI M (fR M 104 7) 17) + 1)) := ⟨_, rfl⟩
    have hN3 : SQ N3 := by rw [eN3]; exact hS.kf
    have H : Ev none e 60 50 [some (.ref 104), some (.ref b), some (.int go), some (.int 1)] [] N3 v M' 0 0 := by rw [eN3]; exact Ev.pfi rfl rfl rfl hS.1 (hS.1.fr qa_104 qr_22_7).2 qi_8_17 H
    have H : Ev none e 60 51 [some (.ref 104), some (.ref b), some (.int go), some (.int 1)] [.ref 104] N3 v M' 0 0 := Ev.back 1 (fun n => rfl) H
    have H : Ev none e 60 54 [some (.ref 104), some (.ref b), some (.int go), some (.int 1)] [.ref (fR N3 104 7)] N3 v M' 0 0 := Ev.back 1 (gs_3 rfl rfl (gf_r hN3.1 qa_104 qr_22_7 rfl)) H
    rw [show fR N3 104 7 = fR M 104 7 from by rw [eN3]; exact fR_wF] at H
    have H : Ev none e 60 55 [some (.ref 104), some (.ref b), some (.int go), some (.int 1)] [.ref (fR M 104 7), .ref (fR M 104 7)] N3 v M' 0 0 := Ev.back 1 (fun n => rfl) H
    have H : Ev none e 60 58 [some (.ref 104), some (.ref b), some (.int go), some (.int 1)] [.int (zI N3 (fR M 104 7) 18), .ref (fR M 104 7)] N3 v M' 0 0 := Ev.back 1 (gs_3 rfl rfl (gf_i hN3.1 (hS.1.fr qa_104 qr_22_7).2 qi_8_18 rfl)) H
    rw [show zI N3 (fR M 104 7) 18 = zI M (fR M 104 7) 18 from by rw [eN3]; exact fI_wF_ne (fun q => absurd q.2 (by decide))] at H
    have H : Ev none e 60 (if 1 = 0 then 66 else 62) [some (.ref 104), some (.ref b), some (.int go), some (.int 1)] [.int (zI M (fR M 104 7) 18), .ref (fR M 104 7)] N3 v M' 0 0 := Ev.back 2 (fun n => rfl) H
    rw [if_neg (by decide)] at H
    have H : Ev none e 60 68 [some (.ref 104), some (.ref b), some (.int go), some (.int 1)] [.int ((zI M (fR M 104 7) 18) + 0), .ref (fR M 104 7)] N3 v M' 0 0 := Ev.back 3 (fun n => rfl) H
    obtain ⟨N5, eN5⟩ : ∃ N, N = (wF N3 (fR M 104 7) 18 ((zI M (fR M 104 7) 18) + 0)) := ⟨_, rfl⟩
    have hN5 : SQ N5 := by rw [eN5]; exact hN3.kf
    have H : Ev none e 60 71 [some (.ref 104), some (.ref b), some (.int go), some (.int 1)] [] N5 v M' 0 0 := by rw [eN5]; exact Ev.pfi rfl rfl rfl hN3.1 (hS.1.fr qa_104 qr_22_7).2 qi_8_18 H
    have H : Ev none e 60 72 [some (.ref 104), some (.ref b), some (.int go), some (.int 1)] [.ref 104] N5 v M' 0 0 := Ev.back 1 (fun n => rfl) H
    have H : Ev none e 60 75 [some (.ref 104), some (.ref b), some (.int go), some (.int 1)] [.ref (fR N5 104 7)] N5 v M' 0 0 := Ev.back 1 (gs_3 rfl rfl (gf_r hN5.1 qa_104 qr_22_7 rfl)) H
    rw [(show fR N5 104 7 = fR N3 104 7 from by rw [eN5]; exact fR_wF).trans (show fR N3 104 7 = fR M 104 7 from by rw [eN3]; exact fR_wF)] at H
    have H : Ev none e 60 78 [some (.ref 104), some (.ref b), some (.int go), some (.int 1)] [.ref (fR M 104 7 + 8)] N5 v M' 0 0 := Ev.back 1 (gs_3 rfl rfl (gf_x hN5.1 (hS.1.fr qa_104 qr_22_7).2 qo_8 (fx_l9 hN5 (hS.1.fr qa_104 qr_22_7).2) rfl)) H
    have H : Ev none e 60 79 [some (.ref 104), some (.ref b), some (.int go), some (.int 1)] [.ref b, .ref (fR M 104 7 + 8)] N5 v M' 0 0 := Ev.back 1 (fun n => rfl) H
    have H : Ev none e 60 82 [some (.ref 104), some (.ref b), some (.int go), some (.int 1)] [.int (zI N5 b 0), .ref (fR M 104 7 + 8)] N5 v M' 0 0 := Ev.back 1 (gs_3 rfl rfl (gf_i hN5.1 a_b qi_21_0 rfl)) H
    rw [(show zI N5 b 0 = zI N3 b 0 from by rw [eN5]; exact fI_wF_ne (fun q => absurd q.2 (by decide))).trans (show zI N3 b 0 = zI M b 0 from by rw [eN3]; exact fI_wF_ne (fun q => absurd q.2 (by decide)))] at H
    have H : Ev none e 60 83 [some (.ref 104), some (.ref b), some (.int go), some (.int 1)] [.int (zI M b 0), .ref (fR M 104 7 + 8), .int (zI M b 0), .ref (fR M 104 7 + 8)] N5 v M' 0 0 := Ev.back 1 (fun n => rfl) H
    obtain ⟨b6, H⟩ := Ev.ial rfl rfl hN5.1 (fx_h9 (hS.1.fr qa_104 qr_22_7).2) qw_16 H
    have H : Ev none e 60 84 [some (.ref 104), some (.ref b), some (.int go), some (.int 1)] [.int (rI N5 (fR M 104 7 + 8) (zI M b 0)), .int (zI M b 0), .ref (fR M 104 7 + 8)] N5 v M' 0 0 := H
    rw [(show rI N5 (fR M 104 7 + 8) (zI M b 0) = rI N3 (fR M 104 7 + 8) (zI M b 0) from by rw [eN5]; exact rN_wF).trans (show rI N3 (fR M 104 7 + 8) (zI M b 0) = rI M (fR M 104 7 + 8) (zI M b 0) from by rw [eN3]; exact rN_wF)] at H
    have H : Ev none e 60 86 [some (.ref 104), some (.ref b), some (.int go), some (.int 1)] [.int ((rI M (fR M 104 7 + 8) (zI M b 0)) - 1), .int (zI M b 0), .ref (fR M 104 7 + 8)] N5 v M' 0 0 := Ev.back 2 (fun n => rfl) H
    obtain ⟨b7, H⟩ := Ev.ias rfl rfl hN5.1 (fx_h9 (hS.1.fr qa_104 qr_22_7).2) qw_16 H
    obtain ⟨N8, eN8⟩ : ∃ N, N = (wI N5 (fR M 104 7 + 8) ((zI M b 0).toNatClampNeg) ((rI M (fR M 104 7 + 8) (zI M b 0)) - 1)) := ⟨_, rfl⟩
    have hN8 : SQ N8 := by rw [eN8]; exact hN5.ki
    have H : Ev none e 60 87 [some (.ref 104), some (.ref b), some (.int go), some (.int 1)] [] N8 v M' 0 0 := by rw [eN8]; exact H
    have H : Ev none e 60 89 [some (.ref 104), some (.ref b), some (.int go), some (.int 1)] [.int (-1), .ref b] N8 v M' 0 0 := Ev.back 2 (fun n => rfl) H
    obtain ⟨N10, eN10⟩ : ∃ N, N = (wF N8 b 0 (-1)) := ⟨_, rfl⟩
    have hN10 : SQ N10 := by rw [eN10]; exact hN8.kf
    have H : Ev none e 60 92 [some (.ref 104), some (.ref b), some (.int go), some (.int 1)] [] N10 v M' 0 0 := by rw [eN10]; exact Ev.pfi rfl rfl rfl hN8.1 a_b qi_21_0 H
    obtain ⟨z1, z2⟩ := Ev.retb (fun n => rfl) H
    subst eN3 eN5 eN8 eN10
    exact Or.inl ⟨h1, b6, b7, z1, z2⟩
  · rw [if_neg h1] at H
    have H : Ev none e 60 (if 0 = 0 then 18 else 29) [some (.ref 104), some (.ref b), some (.int go), some (.int 0)] [] M v M' 0 0 := Ev.back 4 (fun n => rfl) H
    rw [if_pos (by decide)] at H
    have H : Ev none e 60 19 [some (.ref 104), some (.ref b), some (.int go), some (.int 0)] [.ref b] M v M' 0 0 := Ev.back 1 (fun n => rfl) H
    have H : Ev none e 60 22 [some (.ref 104), some (.ref b), some (.int go), some (.int 0)] [.int (zI M b 2)] M v M' 0 0 := Ev.back 1 (gs_3 rfl rfl (gf_i hS.1 a_b qi_21_2 rfl)) H
    have H : Ev none e 60 (if 200 ≤ (zI M b 2) then 29 else 28) [some (.ref 104), some (.ref b), some (.int go), some (.int 0)] [] M v M' 0 0 := Ev.back 2 (fun n => rfl) H
    by_cases h11 : 200 ≤ (zI M b 2)
    · rw [if_pos h11] at H
      have H : Ev none e 60 30 [some (.ref 104), some (.ref b), some (.int go), some (.int 0)] [.ref 104] M v M' 0 0 := Ev.back 1 (fun n => rfl) H
      have H : Ev none e 60 33 [some (.ref 104), some (.ref b), some (.int go), some (.int 0)] [.ref (fR M 104 7)] M v M' 0 0 := Ev.back 1 (gs_3 rfl rfl (gf_r hS.1 qa_104 qr_22_7 rfl)) H
      have H : Ev none e 60 34 [some (.ref 104), some (.ref b), some (.int go), some (.int 0)] [.ref (fR M 104 7), .ref (fR M 104 7)] M v M' 0 0 := Ev.back 1 (fun n => rfl) H
      have H : Ev none e 60 37 [some (.ref 104), some (.ref b), some (.int go), some (.int 0)] [.int (zI M (fR M 104 7) 17), .ref (fR M 104 7)] M v M' 0 0 := Ev.back 1 (gs_3 rfl rfl (gf_i hS.1 (hS.1.fr qa_104 qr_22_7).2 qi_8_17 rfl)) H
      have H : Ev none e 60 (if 0 = 0 then 45 else 41) [some (.ref 104), some (.ref b), some (.int go), some (.int 0)] [.int (zI M (fR M 104 7) 17), .ref (fR M 104 7)] M v M' 0 0 := Ev.back 2 (fun n => rfl) H
      rw [if_pos (by decide)] at H
      have H : Ev none e 60 47 [some (.ref 104), some (.ref b), some (.int go), some (.int 0)] [.int ((zI M (fR M 104 7) 17) + 0), .ref (fR M 104 7)] M v M' 0 0 := Ev.back 2 (fun n => rfl) H
      obtain ⟨N13, eN13⟩ : ∃ N, N = (wF M (fR M 104 7) 17 ((zI M (fR M 104 7) 17) + 0)) := ⟨_, rfl⟩
      have hN13 : SQ N13 := by rw [eN13]; exact hS.kf
      have H : Ev none e 60 50 [some (.ref 104), some (.ref b), some (.int go), some (.int 0)] [] N13 v M' 0 0 := by rw [eN13]; exact Ev.pfi rfl rfl rfl hS.1 (hS.1.fr qa_104 qr_22_7).2 qi_8_17 H
      have H : Ev none e 60 51 [some (.ref 104), some (.ref b), some (.int go), some (.int 0)] [.ref 104] N13 v M' 0 0 := Ev.back 1 (fun n => rfl) H
      have H : Ev none e 60 54 [some (.ref 104), some (.ref b), some (.int go), some (.int 0)] [.ref (fR N13 104 7)] N13 v M' 0 0 := Ev.back 1 (gs_3 rfl rfl (gf_r hN13.1 qa_104 qr_22_7 rfl)) H
      rw [show fR N13 104 7 = fR M 104 7 from by rw [eN13]; exact fR_wF] at H
      have H : Ev none e 60 55 [some (.ref 104), some (.ref b), some (.int go), some (.int 0)] [.ref (fR M 104 7), .ref (fR M 104 7)] N13 v M' 0 0 := Ev.back 1 (fun n => rfl) H
      have H : Ev none e 60 58 [some (.ref 104), some (.ref b), some (.int go), some (.int 0)] [.int (zI N13 (fR M 104 7) 18), .ref (fR M 104 7)] N13 v M' 0 0 := Ev.back 1 (gs_3 rfl rfl (gf_i hN13.1 (hS.1.fr qa_104 qr_22_7).2 qi_8_18 rfl)) H
      rw [show zI N13 (fR M 104 7) 18 = zI M (fR M 104 7) 18 from by rw [eN13]; exact fI_wF_ne (fun q => absurd q.2 (by decide))] at H
      have H : Ev none e 60 (if 0 = 0 then 66 else 62) [some (.ref 104), some (.ref b), some (.int go), some (.int 0)] [.int (zI M (fR M 104 7) 18), .ref (fR M 104 7)] N13 v M' 0 0 := Ev.back 2 (fun n => rfl) H
      rw [if_pos (by decide)] at H
      have H : Ev none e 60 68 [some (.ref 104), some (.ref b), some (.int go), some (.int 0)] [.int ((zI M (fR M 104 7) 18) + 1), .ref (fR M 104 7)] N13 v M' 0 0 := Ev.back 2 (fun n => rfl) H
      obtain ⟨N15, eN15⟩ : ∃ N, N = (wF N13 (fR M 104 7) 18 ((zI M (fR M 104 7) 18) + 1)) := ⟨_, rfl⟩
      have hN15 : SQ N15 := by rw [eN15]; exact hN13.kf
      have H : Ev none e 60 71 [some (.ref 104), some (.ref b), some (.int go), some (.int 0)] [] N15 v M' 0 0 := by rw [eN15]; exact Ev.pfi rfl rfl rfl hN13.1 (hS.1.fr qa_104 qr_22_7).2 qi_8_18 H
      have H : Ev none e 60 72 [some (.ref 104), some (.ref b), some (.int go), some (.int 0)] [.ref 104] N15 v M' 0 0 := Ev.back 1 (fun n => rfl) H
      have H : Ev none e 60 75 [some (.ref 104), some (.ref b), some (.int go), some (.int 0)] [.ref (fR N15 104 7)] N15 v M' 0 0 := Ev.back 1 (gs_3 rfl rfl (gf_r hN15.1 qa_104 qr_22_7 rfl)) H
      rw [(show fR N15 104 7 = fR N13 104 7 from by rw [eN15]; exact fR_wF).trans (show fR N13 104 7 = fR M 104 7 from by rw [eN13]; exact fR_wF)] at H
      have H : Ev none e 60 78 [some (.ref 104), some (.ref b), some (.int go), some (.int 0)] [.ref (fR M 104 7 + 8)] N15 v M' 0 0 := Ev.back 1 (gs_3 rfl rfl (gf_x hN15.1 (hS.1.fr qa_104 qr_22_7).2 qo_8 (fx_l9 hN15 (hS.1.fr qa_104 qr_22_7).2) rfl)) H
      have H : Ev none e 60 79 [some (.ref 104), some (.ref b), some (.int go), some (.int 0)] [.ref b, .ref (fR M 104 7 + 8)] N15 v M' 0 0 := Ev.back 1 (fun n => rfl) H
      have H : Ev none e 60 82 [some (.ref 104), some (.ref b), some (.int go), some (.int 0)] [.int (zI N15 b 0), .ref (fR M 104 7 + 8)] N15 v M' 0 0 := Ev.back 1 (gs_3 rfl rfl (gf_i hN15.1 a_b qi_21_0 rfl)) H
      rw [(show zI N15 b 0 = zI N13 b 0 from by rw [eN15]; exact fI_wF_ne (fun q => absurd q.2 (by decide))).trans (show zI N13 b 0 = zI M b 0 from by rw [eN13]; exact fI_wF_ne (fun q => absurd q.2 (by decide)))] at H
      have H : Ev none e 60 83 [some (.ref 104), some (.ref b), some (.int go), some (.int 0)] [.int (zI M b 0), .ref (fR M 104 7 + 8), .int (zI M b 0), .ref (fR M 104 7 + 8)] N15 v M' 0 0 := Ev.back 1 (fun n => rfl) H
      obtain ⟨b16, H⟩ := Ev.ial rfl rfl hN15.1 (fx_h9 (hS.1.fr qa_104 qr_22_7).2) qw_16 H
      have H : Ev none e 60 84 [some (.ref 104), some (.ref b), some (.int go), some (.int 0)] [.int (rI N15 (fR M 104 7 + 8) (zI M b 0)), .int (zI M b 0), .ref (fR M 104 7 + 8)] N15 v M' 0 0 := H
      rw [(show rI N15 (fR M 104 7 + 8) (zI M b 0) = rI N13 (fR M 104 7 + 8) (zI M b 0) from by rw [eN15]; exact rN_wF).trans (show rI N13 (fR M 104 7 + 8) (zI M b 0) = rI M (fR M 104 7 + 8) (zI M b 0) from by rw [eN13]; exact rN_wF)] at H
      have H : Ev none e 60 86 [some (.ref 104), some (.ref b), some (.int go), some (.int 0)] [.int ((rI M (fR M 104 7 + 8) (zI M b 0)) - 1), .int (zI M b 0), .ref (fR M 104 7 + 8)] N15 v M' 0 0 := Ev.back 2 (fun n => rfl) H
      obtain ⟨b17, H⟩ := Ev.ias rfl rfl hN15.1 (fx_h9 (hS.1.fr qa_104 qr_22_7).2) qw_16 H
      obtain ⟨N18, eN18⟩ : ∃ N, N = (wI N15 (fR M 104 7 + 8) ((zI M b 0).toNatClampNeg) ((rI M (fR M 104 7 + 8) (zI M b 0)) - 1)) := ⟨_, rfl⟩
      have hN18 : SQ N18 := by rw [eN18]; exact hN15.ki
      have H : Ev none e 60 87 [some (.ref 104), some (.ref b), some (.int go), some (.int 0)] [] N18 v M' 0 0 := by rw [eN18]; exact H
      have H : Ev none e 60 89 [some (.ref 104), some (.ref b), some (.int go), some (.int 0)] [.int (-1), .ref b] N18 v M' 0 0 := Ev.back 2 (fun n => rfl) H
      obtain ⟨N20, eN20⟩ : ∃ N, N = (wF N18 b 0 (-1)) := ⟨_, rfl⟩
      have hN20 : SQ N20 := by rw [eN20]; exact hN18.kf
      have H : Ev none e 60 92 [some (.ref 104), some (.ref b), some (.int go), some (.int 0)] [] N20 v M' 0 0 := by rw [eN20]; exact Ev.pfi rfl rfl rfl hN18.1 a_b qi_21_0 H
      obtain ⟨z1, z2⟩ := Ev.retb (fun n => rfl) H
      subst eN13 eN15 eN18 eN20
      exact Or.inr (Or.inl ⟨h1, h11, b16, b17, z1, z2⟩)
    · rw [if_neg h11] at H
      obtain ⟨z1, z2⟩ := Ev.retb (fun n => rfl) H
      exact Or.inr (Or.inr (⟨h1, h11, z1, z2⟩))
theorem swp_0 {e : Nat} {M M' : Mem} {v : Option Value} (hS : SQ M) (H : Ev none e 61 0 [some (.ref 104), none, none, none] [] M v M' 0 0) : Ev none e 61 4 [some (.ref 104), some (.int 0), some (.int 0), none] [] M v M' 0 0 := by
  have H : Ev none e 61 4 [some (.ref 104), some (.int 0), some (.int 0), none] [] M v M' 0 0 := Ev.back 4 (fun n => rfl) H
  have HF := H
  exact HF
theorem swp_4 {e : Nat} {M M' : Mem} {v : Option Value} {sy i : Int32} {c3 : Option Value} (hS : SQ M) (H : Ev none e 61 4 [some (.ref 104), some (.int sy), some (.int i), c3] [] M v M' 0 0) : ((zI M (fR M 104 7) 15) ≤ i ∧ v = none ∧ M' = (wF M (fR M 104 7) 15 sy)) ∨ (¬ ((zI M (fR M 104 7) 15) ≤ i) ∧ (zI M (oI M (fR M 104 7 + 11) i) 0) = (-1) ∧ (0 ≤ i.toInt ∧ i.toInt < 60) ∧ Ev none e 61 4 [some (.ref 104), some (.int sy), some (.int (i + 1)), some (.ref (oI M (fR M 104 7 + 11) i))] [] M v M' 0 0) ∨ (¬ ((zI M (fR M 104 7) 15) ≤ i) ∧ ¬ ((zI M (oI M (fR M 104 7 + 11) i) 0) = (-1)) ∧ (0 ≤ i.toInt ∧ i.toInt < 60) ∧ (0 ≤ sy.toInt ∧ sy.toInt < 60) ∧ (0 ≤ i.toInt ∧ i.toInt < 60) ∧ (0 ≤ sy.toInt ∧ sy.toInt < 60) ∧ Ev none e 61 4 [some (.ref 104), some (.int (sy + 1)), some (.int (i + 1)), some (.ref (oI M (fR M 104 7 + 11) i))] [] (wO (wO M (fR M 104 7 + 11) i.toNatClampNeg (oI M (fR M 104 7 + 11) sy)) (fR M 104 7 + 11) sy.toNatClampNeg (oI M (fR M 104 7 + 11) i)) v M' 0 0) := by
  have H : Ev none e 61 6 [some (.ref 104), some (.int sy), some (.int i), c3] [.ref 104, .int i] M v M' 0 0 := Ev.back 2 (fun n => rfl) H
  have H : Ev none e 61 9 [some (.ref 104), some (.int sy), some (.int i), c3] [.ref (fR M 104 7), .int i] M v M' 0 0 := Ev.back 1 (gs_3 rfl rfl (gf_r hS.1 qa_104 qr_22_7 rfl)) H
  have H : Ev none e 61 12 [some (.ref 104), some (.int sy), some (.int i), c3] [.int (zI M (fR M 104 7) 15), .int i] M v M' 0 0 := Ev.back 1 (gs_3 rfl rfl (gf_i hS.1 (hS.1.fr qa_104 qr_22_7).2 qi_8_15 rfl)) H
  have H : Ev none e 61 (if (zI M (fR M 104 7) 15) ≤ i then 70 else 15) [some (.ref 104), some (.int sy), some (.int i), c3] [] M v M' 0 0 := Ev.back 1 (fun n => rfl) H
  by_cases h1 : (zI M (fR M 104 7) 15) ≤ i
  · rw [if_pos h1] at H
    have H : Ev none e 61 71 [some (.ref 104), some (.int sy), some (.int i), c3] [.ref 104] M v M' 0 0 := Ev.back 1 (fun n => rfl) H
    have H : Ev none e 61 74 [some (.ref 104), some (.int sy), some (.int i), c3] [.ref (fR M 104 7)] M v M' 0 0 := Ev.back 1 (gs_3 rfl rfl (gf_r hS.1 qa_104 qr_22_7 rfl)) H
    have H : Ev none e 61 75 [some (.ref 104), some (.int sy), some (.int i), c3] [.int sy, .ref (fR M 104 7)] M v M' 0 0 := Ev.back 1 (fun n => rfl) H
    obtain ⟨N3, eN3⟩ : ∃ N, N = (wF M (fR M 104 7) 15 sy) := ⟨_, rfl⟩
    have hN3 : SQ N3 := by rw [eN3]; exact hS.kf
    have H : Ev none e 61 78 [some (.ref 104), some (.int sy), some (.int i), c3] [] N3 v M' 0 0 := by rw [eN3]; exact Ev.pfi rfl rfl rfl hS.1 (hS.1.fr qa_104 qr_22_7).2 qi_8_15 H
    obtain ⟨z1, z2⟩ := Ev.retb (fun n => rfl) H
    subst eN3
    exact Or.inl ⟨h1, z1, z2⟩
  · rw [if_neg h1] at H
    have H : Ev none e 61 16 [some (.ref 104), some (.int sy), some (.int i), c3] [.ref 104] M v M' 0 0 := Ev.back 1 (fun n => rfl) H
    have H : Ev none e 61 19 [some (.ref 104), some (.int sy), some (.int i), c3] [.ref (fR M 104 7)] M v M' 0 0 := Ev.back 1 (gs_3 rfl rfl (gf_r hS.1 qa_104 qr_22_7 rfl)) H
    have H : Ev none e 61 22 [some (.ref 104), some (.int sy), some (.int i), c3] [.ref (fR M 104 7 + 11)] M v M' 0 0 := Ev.back 1 (gs_3 rfl rfl (gf_x hS.1 (hS.1.fr qa_104 qr_22_7).2 qo_8 (fx_l14 hS (hS.1.fr qa_104 qr_22_7).2) rfl)) H
    have H : Ev none e 61 23 [some (.ref 104), some (.int sy), some (.int i), c3] [.int i, .ref (fR M 104 7 + 11)] M v M' 0 0 := Ev.back 1 (fun n => rfl) H
    obtain ⟨b4, H⟩ := Ev.aal rfl rfl hS.1 (fx_h14 (hS.1.fr qa_104 qr_22_7).2) qz_19 H
    have H : Ev none e 61 24 [some (.ref 104), some (.int sy), some (.int i), c3] [.ref (oI M (fR M 104 7 + 11) i)] M v M' 0 0 := H
    have H : Ev none e 61 26 [some (.ref 104), some (.int sy), some (.int i), some (.ref (oI M (fR M 104 7 + 11) i))] [.ref (oI M (fR M 104 7 + 11) i)] M v M' 0 0 := Ev.back 2 (fun n => rfl) H
    have H : Ev none e 61 29 [some (.ref 104), some (.int sy), some (.int i), some (.ref (oI M (fR M 104 7 + 11) i))] [.int (zI M (oI M (fR M 104 7 + 11) i) 0)] M v M' 0 0 := Ev.back 1 (gs_3 rfl rfl (gf_i hS.1 b4.2 qi_21_0 rfl)) H
    have H : Ev none e 61 (if (zI M (oI M (fR M 104 7 + 11) i) 0) = (-1) then 64 else 33) [some (.ref 104), some (.int sy), some (.int i), some (.ref (oI M (fR M 104 7 + 11) i))] [] M v M' 0 0 := Ev.back 2 (fun n => rfl) H
    by_cases h5 : (zI M (oI M (fR M 104 7 + 11) i) 0) = (-1)
    · rw [if_pos h5] at H
      have H : Ev none e 61 4 [some (.ref 104), some (.int sy), some (.int (i + 1)), some (.ref (oI M (fR M 104 7 + 11) i))] [] M v M' 0 0 := Ev.back 2 (fun n => rfl) H
      have HF := H
      exact Or.inr (Or.inl ⟨h1, h5, b4.1, HF⟩)
    · rw [if_neg h5] at H
      have H : Ev none e 61 34 [some (.ref 104), some (.int sy), some (.int i), some (.ref (oI M (fR M 104 7 + 11) i))] [.ref 104] M v M' 0 0 := Ev.back 1 (fun n => rfl) H
      have H : Ev none e 61 37 [some (.ref 104), some (.int sy), some (.int i), some (.ref (oI M (fR M 104 7 + 11) i))] [.ref (fR M 104 7)] M v M' 0 0 := Ev.back 1 (gs_3 rfl rfl (gf_r hS.1 qa_104 qr_22_7 rfl)) H
      have H : Ev none e 61 40 [some (.ref 104), some (.int sy), some (.int i), some (.ref (oI M (fR M 104 7 + 11) i))] [.ref (fR M 104 7 + 11)] M v M' 0 0 := Ev.back 1 (gs_3 rfl rfl (gf_x hS.1 (hS.1.fr qa_104 qr_22_7).2 qo_8 (fx_l14 hS (hS.1.fr qa_104 qr_22_7).2) rfl)) H
      have H : Ev none e 61 42 [some (.ref 104), some (.int sy), some (.int i), some (.ref (oI M (fR M 104 7 + 11) i))] [.ref 104, .int i, .ref (fR M 104 7 + 11)] M v M' 0 0 := Ev.back 2 (fun n => rfl) H
      have H : Ev none e 61 45 [some (.ref 104), some (.int sy), some (.int i), some (.ref (oI M (fR M 104 7 + 11) i))] [.ref (fR M 104 7), .int i, .ref (fR M 104 7 + 11)] M v M' 0 0 := Ev.back 1 (gs_3 rfl rfl (gf_r hS.1 qa_104 qr_22_7 rfl)) H
      have H : Ev none e 61 48 [some (.ref 104), some (.int sy), some (.int i), some (.ref (oI M (fR M 104 7 + 11) i))] [.ref (fR M 104 7 + 11), .int i, .ref (fR M 104 7 + 11)] M v M' 0 0 := Ev.back 1 (gs_3 rfl rfl (gf_x hS.1 (hS.1.fr qa_104 qr_22_7).2 qo_8 (fx_l14 hS (hS.1.fr qa_104 qr_22_7).2) rfl)) H
      have H : Ev none e 61 49 [some (.ref 104), some (.int sy), some (.int i), some (.ref (oI M (fR M 104 7 + 11) i))] [.int sy, .ref (fR M 104 7 + 11), .int i, .ref (fR M 104 7 + 11)] M v M' 0 0 := Ev.back 1 (fun n => rfl) H
      obtain ⟨b6, H⟩ := Ev.aal rfl rfl hS.1 (fx_h14 (hS.1.fr qa_104 qr_22_7).2) qz_19 H
      have H : Ev none e 61 50 [some (.ref 104), some (.int sy), some (.int i), some (.ref (oI M (fR M 104 7 + 11) i))] [.ref (oI M (fR M 104 7 + 11) sy), .int i, .ref (fR M 104 7 + 11)] M v M' 0 0 := H
      obtain ⟨b7, H⟩ := Ev.aas rfl rfl hS.1 (fx_h14 (hS.1.fr qa_104 qr_22_7).2) qz_19 H
      obtain ⟨N8, eN8⟩ : ∃ N, N = (wO M (fR M 104 7 + 11) i.toNatClampNeg (oI M (fR M 104 7 + 11) sy)) := ⟨_, rfl⟩
      have hN8 : SQ N8 := by rw [eN8]; exact hS.ko (fx_h14 (hS.1.fr qa_104 qr_22_7).2) qz_19 b6.2
      have H : Ev none e 61 51 [some (.ref 104), some (.int sy), some (.int i), some (.ref (oI M (fR M 104 7 + 11) i))] [] N8 v M' 0 0 := by rw [eN8]; exact H
      have H : Ev none e 61 52 [some (.ref 104), some (.int sy), some (.int i), some (.ref (oI M (fR M 104 7 + 11) i))] [.ref 104] N8 v M' 0 0 := Ev.back 1 (fun n => rfl) H
      have H : Ev none e 61 55 [some (.ref 104), some (.int sy), some (.int i), some (.ref (oI M (fR M 104 7 + 11) i))] [.ref (fR N8 104 7)] N8 v M' 0 0 := Ev.back 1 (gs_3 rfl rfl (gf_r hN8.1 qa_104 qr_22_7 rfl)) H
      rw [show fR N8 104 7 = fR M 104 7 from by rw [eN8]; exact fR_wO] at H
      have H : Ev none e 61 58 [some (.ref 104), some (.int sy), some (.int i), some (.ref (oI M (fR M 104 7 + 11) i))] [.ref (fR M 104 7 + 11)] N8 v M' 0 0 := Ev.back 1 (gs_3 rfl rfl (gf_x hN8.1 (hS.1.fr qa_104 qr_22_7).2 qo_8 (fx_l14 hN8 (hS.1.fr qa_104 qr_22_7).2) rfl)) H
      have H : Ev none e 61 60 [some (.ref 104), some (.int sy), some (.int i), some (.ref (oI M (fR M 104 7 + 11) i))] [.ref (oI M (fR M 104 7 + 11) i), .int sy, .ref (fR M 104 7 + 11)] N8 v M' 0 0 := Ev.back 2 (fun n => rfl) H
      obtain ⟨b9, H⟩ := Ev.aas rfl rfl hN8.1 (fx_h14 (hS.1.fr qa_104 qr_22_7).2) qz_19 H
      obtain ⟨N10, eN10⟩ : ∃ N, N = (wO N8 (fR M 104 7 + 11) sy.toNatClampNeg (oI M (fR M 104 7 + 11) i)) := ⟨_, rfl⟩
      have hN10 : SQ N10 := by rw [eN10]; exact hN8.ko (fx_h14 (hS.1.fr qa_104 qr_22_7).2) qz_19 b4.2
      have H : Ev none e 61 61 [some (.ref 104), some (.int sy), some (.int i), some (.ref (oI M (fR M 104 7 + 11) i))] [] N10 v M' 0 0 := by rw [eN10]; exact H
      have H : Ev none e 61 4 [some (.ref 104), some (.int (sy + 1)), some (.int (i + 1)), some (.ref (oI M (fR M 104 7 + 11) i))] [] N10 v M' 0 0 := Ev.back 3 (fun n => rfl) H
      have HF := H
      subst eN8 eN10
      exact Or.inr (Or.inr (⟨h1, h5, b4.1, b6.1, b7, b9, HF⟩))
theorem goo_0 {e : Nat} {M M' : Mem} {v : Option Value} {ti : Int32} (hS : SQ M) (H : Ev none e 58 0 [some (.ref 104), some (.int ti), none, none, none, none, none, none, none] [] M v M' 0 0) : Ev none e 58 10 [some (.ref 104), some (.int ti), some (.int (zI M (fR M 104 7) 17)), some (.int 0), none, none, none, none, none] [] M v M' 0 0 := by
  have H : Ev none e 58 1 [some (.ref 104), some (.int ti), none, none, none, none, none, none, none] [.ref 104] M v M' 0 0 := Ev.back 1 (fun n => rfl) H
  have H : Ev none e 58 4 [some (.ref 104), some (.int ti), none, none, none, none, none, none, none] [.ref (fR M 104 7)] M v M' 0 0 := Ev.back 1 (gs_3 rfl rfl (gf_r hS.1 qa_104 qr_22_7 rfl)) H
  have H : Ev none e 58 7 [some (.ref 104), some (.int ti), none, none, none, none, none, none, none] [.int (zI M (fR M 104 7) 17)] M v M' 0 0 := Ev.back 1 (gs_3 rfl rfl (gf_i hS.1 (hS.1.fr qa_104 qr_22_7).2 qi_8_17 rfl)) H
  have H : Ev none e 58 10 [some (.ref 104), some (.int ti), some (.int (zI M (fR M 104 7) 17)), some (.int 0), none, none, none, none, none] [] M v M' 0 0 := Ev.back 3 (fun n => rfl) H
  have HF := H
  exact HF
theorem goo_10 {e : Nat} {M M' : Mem} {v : Option Value} {ti bf n : Int32} {c4 c5 c6 c7 c8 : Option Value} (hS : SQ M) (H : Ev none e 58 10 [some (.ref 104), some (.int ti), some (.int bf), some (.int n), c4, c5, c6, c7, c8] [] M v M' 0 0) : (ti ≤ n ∧ v = some (.int ((zI M (fR M 104 7) 17) - bf)) ∧ M' = M) ∨ (¬ (ti ≤ n) ∧ (zI M 104 10) = 0 ∧ (∃ e1 v1 M1, e = e1 + 1 ∧ Ev none e1 59 0 [some (.ref 104), none, none, none] [] M v1 M1 0 0 ∧ Ev none e 58 26 [some (.ref 104), some (.int ti), some (.int bf), some (.int n), c4, c5, c6, c7, c8] (v1.toList ++ []) M1 v M' 0 0)) ∨ (¬ (ti ≤ n) ∧ ¬ ((zI M 104 10) = 0) ∧ v = some (.int ((zI M (fR M 104 7) 17) - bf)) ∧ M' = M) := by
  have H : Ev none e 58 (if ti ≤ n then 221 else 15) [some (.ref 104), some (.int ti), some (.int bf), some (.int n), c4, c5, c6, c7, c8] [] M v M' 0 0 := Ev.back 3 (fun n => rfl) H
  by_cases h1 : ti ≤ n
  · rw [if_pos h1] at H
    have H : Ev none e 58 222 [some (.ref 104), some (.int ti), some (.int bf), some (.int n), c4, c5, c6, c7, c8] [.ref 104] M v M' 0 0 := Ev.back 1 (fun n => rfl) H
    have H : Ev none e 58 225 [some (.ref 104), some (.int ti), some (.int bf), some (.int n), c4, c5, c6, c7, c8] [.ref (fR M 104 7)] M v M' 0 0 := Ev.back 1 (gs_3 rfl rfl (gf_r hS.1 qa_104 qr_22_7 rfl)) H
    have H : Ev none e 58 228 [some (.ref 104), some (.int ti), some (.int bf), some (.int n), c4, c5, c6, c7, c8] [.int (zI M (fR M 104 7) 17)] M v M' 0 0 := Ev.back 1 (gs_3 rfl rfl (gf_i hS.1 (hS.1.fr qa_104 qr_22_7).2 qi_8_17 rfl)) H
    have H : Ev none e 58 230 [some (.ref 104), some (.int ti), some (.int bf), some (.int n), c4, c5, c6, c7, c8] [.int ((zI M (fR M 104 7) 17) - bf)] M v M' 0 0 := Ev.back 2 (fun n => rfl) H
    obtain ⟨z1, z2⟩ := Ev.retz rfl rfl H
    exact Or.inl ⟨h1, z1, z2⟩
  · rw [if_neg h1] at H
    have H : Ev none e 58 16 [some (.ref 104), some (.int ti), some (.int bf), some (.int n), c4, c5, c6, c7, c8] [.ref 104] M v M' 0 0 := Ev.back 1 (fun n => rfl) H
    have H : Ev none e 58 19 [some (.ref 104), some (.int ti), some (.int bf), some (.int n), c4, c5, c6, c7, c8] [.int (zI M 104 10)] M v M' 0 0 := Ev.back 1 (gs_3 rfl rfl (gf_i hS.1 qa_104 qi_22_10 rfl)) H
    have H : Ev none e 58 (if (zI M 104 10) = 0 then 22 else 221) [some (.ref 104), some (.int ti), some (.int bf), some (.int n), c4, c5, c6, c7, c8] [] M v M' 0 0 := Ev.back 1 (fun n => rfl) H
    by_cases h2 : (zI M 104 10) = 0
    · rw [if_pos h2] at H
      have H : Ev none e 58 23 [some (.ref 104), some (.int ti), some (.int bf), some (.int n), c4, c5, c6, c7, c8] [.ref 104] M v M' 0 0 := Ev.back 1 (fun n => rfl) H
      obtain ⟨e1, rfl⟩ := Ev.dpos rfl rfl H
      obtain ⟨vK3, MK3, K3, H⟩ := Ev.callb (fun n_ => gs_7 rfl rfl (show gCal (.invokevirtual 101) 7 (.ref 104 :: []) M = some (.inr (59, [some (.ref 104), none, none, none], [])) from by show @cond (Option ((List Value × Mem) ⊕ (Nat × Lo × List Value))) (true && gRecv M (.ref 104) 7 && gRoom [] && true) (some (.inr (59, [some (.ref 104), none, none, none], []))) none = _; rw [recv_s hS.1 qa_104 qo_22]; rfl)) H
      have K3 : Ev none e1 59 0 [some (.ref 104), none, none, none] [] M vK3 MK3 0 0 := K3
      have HF := H
      exact Or.inr (Or.inl ⟨h1, h2, ⟨e1, vK3, MK3, rfl, K3, HF⟩⟩)
    · rw [if_neg h2] at H
      have H : Ev none e 58 222 [some (.ref 104), some (.int ti), some (.int bf), some (.int n), c4, c5, c6, c7, c8] [.ref 104] M v M' 0 0 := Ev.back 1 (fun n => rfl) H
      have H : Ev none e 58 225 [some (.ref 104), some (.int ti), some (.int bf), some (.int n), c4, c5, c6, c7, c8] [.ref (fR M 104 7)] M v M' 0 0 := Ev.back 1 (gs_3 rfl rfl (gf_r hS.1 qa_104 qr_22_7 rfl)) H
      have H : Ev none e 58 228 [some (.ref 104), some (.int ti), some (.int bf), some (.int n), c4, c5, c6, c7, c8] [.int (zI M (fR M 104 7) 17)] M v M' 0 0 := Ev.back 1 (gs_3 rfl rfl (gf_i hS.1 (hS.1.fr qa_104 qr_22_7).2 qi_8_17 rfl)) H
      have H : Ev none e 58 230 [some (.ref 104), some (.int ti), some (.int bf), some (.int n), c4, c5, c6, c7, c8] [.int ((zI M (fR M 104 7) 17) - bf)] M v M' 0 0 := Ev.back 2 (fun n => rfl) H
      obtain ⟨z1, z2⟩ := Ev.retz rfl rfl H
      exact Or.inr (Or.inr (⟨h1, h2, z1, z2⟩))
theorem goo_26 {e : Nat} {M M' : Mem} {v : Option Value} {ti bf n : Int32} {c4 c5 c6 c7 c8 : Option Value} (hS : SQ M) (H : Ev none e 58 26 [some (.ref 104), some (.int ti), some (.int bf), some (.int n), c4, c5, c6, c7, c8] [] M v M' 0 0) : Ev none e 58 29 [some (.ref 104), some (.int ti), some (.int bf), some (.int n), some (.int 0), c5, c6, c7, c8] [] M v M' 0 0 := by
  have H : Ev none e 58 29 [some (.ref 104), some (.int ti), some (.int bf), some (.int n), some (.int 0), c5, c6, c7, c8] [] M v M' 0 0 := Ev.back 2 (fun n => rfl) H
  have HF := H
  exact HF
theorem goo_29 {e : Nat} {M M' : Mem} {v : Option Value} {ti bf n i : Int32} {c5 c6 c7 c8 : Option Value} (hS : SQ M) (H : Ev none e 58 29 [some (.ref 104), some (.int ti), some (.int bf), some (.int n), some (.int i), c5, c6, c7, c8] [] M v M' 0 0) : ((zI M (fR M 104 7) 15) ≤ i ∧ (∃ e1 v1 M1, e = e1 + 1 ∧ Ev none e1 61 0 [some (.ref 104), none, none, none] [] M v1 M1 0 0 ∧ Ev none e 58 202 [some (.ref 104), some (.int ti), some (.int bf), some (.int n), some (.int i), c5, c6, c7, c8] (v1.toList ++ []) M1 v M' 0 0)) ∨ (¬ ((zI M (fR M 104 7) 15) ≤ i) ∧ (0 ≤ i.toInt ∧ i.toInt < 60) ∧ (0 ≤ (zI M (oI M (fR M 104 7 + 11) i) 1).toInt ∧ (zI M (oI M (fR M 104 7 + 11) i) 1).toInt < 24) ∧ (0 ≤ (zI M (oI M (fR M 104 7 + 10) (zI M (oI M (fR M 104 7 + 11) i) 1)) 1).toInt ∧ (zI M (oI M (fR M 104 7 + 10) (zI M (oI M (fR M 104 7 + 11) i) 1)) 1).toInt < 9) ∧ (∃ e1 v1 M1, e = e1 + 1 ∧ Ev none e1 66 0 [some (.ref 104), some (.ref (oI M (fR M 104 7 + 11) i)), some (.int (rI M (fR M 104 7 + 9) (zI M (oI M (fR M 104 7 + 10) (zI M (oI M (fR M 104 7 + 11) i) 1)) 1))), some (.int (zI M (oI M (fR M 104 7 + 10) (zI M (oI M (fR M 104 7 + 11) i) 1)) 2)), none, none, none, none, none, none] [] M v1 M1 0 0 ∧ Ev none e 58 96 [some (.ref 104), some (.int ti), some (.int bf), some (.int n), some (.int i), some (.ref (oI M (fR M 104 7 + 11) i)), some (.ref (oI M (fR M 104 7 + 10) (zI M (oI M (fR M 104 7 + 11) i) 1))), some (.int (rI M (fR M 104 7 + 9) (zI M (oI M (fR M 104 7 + 10) (zI M (oI M (fR M 104 7 + 11) i) 1)) 1))), c8] (v1.toList ++ []) M1 v M' 0 0)) := by
  have H : Ev none e 58 32 [some (.ref 104), some (.int ti), some (.int bf), some (.int n), some (.int i), c5, c6, c7, c8] [.ref 104, .int i] M v M' 0 0 := Ev.back 2 (fun n => rfl) H
  have H : Ev none e 58 35 [some (.ref 104), some (.int ti), some (.int bf), some (.int n), some (.int i), c5, c6, c7, c8] [.ref (fR M 104 7), .int i] M v M' 0 0 := Ev.back 1 (gs_3 rfl rfl (gf_r hS.1 qa_104 qr_22_7 rfl)) H
  have H : Ev none e 58 38 [some (.ref 104), some (.int ti), some (.int bf), some (.int n), some (.int i), c5, c6, c7, c8] [.int (zI M (fR M 104 7) 15), .int i] M v M' 0 0 := Ev.back 1 (gs_3 rfl rfl (gf_i hS.1 (hS.1.fr qa_104 qr_22_7).2 qi_8_15 rfl)) H
  have H : Ev none e 58 (if (zI M (fR M 104 7) 15) ≤ i then 198 else 41) [some (.ref 104), some (.int ti), some (.int bf), some (.int n), some (.int i), c5, c6, c7, c8] [] M v M' 0 0 := Ev.back 1 (fun n => rfl) H
  by_cases h1 : (zI M (fR M 104 7) 15) ≤ i
  · rw [if_pos h1] at H
    have H : Ev none e 58 199 [some (.ref 104), some (.int ti), some (.int bf), some (.int n), some (.int i), c5, c6, c7, c8] [.ref 104] M v M' 0 0 := Ev.back 1 (fun n => rfl) H
    obtain ⟨e1, rfl⟩ := Ev.dpos rfl rfl H
    obtain ⟨vK2, MK2, K2, H⟩ := Ev.callb (fun n_ => gs_7 rfl rfl (show gCal (.invokevirtual 155) 7 (.ref 104 :: []) M = some (.inr (61, [some (.ref 104), none, none, none], [])) from by show @cond (Option ((List Value × Mem) ⊕ (Nat × Lo × List Value))) (true && gRecv M (.ref 104) 7 && gRoom [] && true) (some (.inr (61, [some (.ref 104), none, none, none], []))) none = _; rw [recv_s hS.1 qa_104 qo_22]; rfl)) H
    have K2 : Ev none e1 61 0 [some (.ref 104), none, none, none] [] M vK2 MK2 0 0 := K2
    have HF := H
    exact Or.inl ⟨h1, ⟨e1, vK2, MK2, rfl, K2, HF⟩⟩
  · rw [if_neg h1] at H
    have H : Ev none e 58 42 [some (.ref 104), some (.int ti), some (.int bf), some (.int n), some (.int i), c5, c6, c7, c8] [.ref 104] M v M' 0 0 := Ev.back 1 (fun n => rfl) H
    have H : Ev none e 58 45 [some (.ref 104), some (.int ti), some (.int bf), some (.int n), some (.int i), c5, c6, c7, c8] [.ref (fR M 104 7)] M v M' 0 0 := Ev.back 1 (gs_3 rfl rfl (gf_r hS.1 qa_104 qr_22_7 rfl)) H
    have H : Ev none e 58 48 [some (.ref 104), some (.int ti), some (.int bf), some (.int n), some (.int i), c5, c6, c7, c8] [.ref (fR M 104 7 + 11)] M v M' 0 0 := Ev.back 1 (gs_3 rfl rfl (gf_x hS.1 (hS.1.fr qa_104 qr_22_7).2 qo_8 (fx_l14 hS (hS.1.fr qa_104 qr_22_7).2) rfl)) H
    have H : Ev none e 58 50 [some (.ref 104), some (.int ti), some (.int bf), some (.int n), some (.int i), c5, c6, c7, c8] [.int i, .ref (fR M 104 7 + 11)] M v M' 0 0 := Ev.back 1 (fun n => rfl) H
    obtain ⟨b3, H⟩ := Ev.aal rfl rfl hS.1 (fx_h14 (hS.1.fr qa_104 qr_22_7).2) qz_19 H
    have H : Ev none e 58 51 [some (.ref 104), some (.int ti), some (.int bf), some (.int n), some (.int i), c5, c6, c7, c8] [.ref (oI M (fR M 104 7 + 11) i)] M v M' 0 0 := H
    have H : Ev none e 58 54 [some (.ref 104), some (.int ti), some (.int bf), some (.int n), some (.int i), some (.ref (oI M (fR M 104 7 + 11) i)), c6, c7, c8] [.ref 104] M v M' 0 0 := Ev.back 2 (fun n => rfl) H
    have H : Ev none e 58 57 [some (.ref 104), some (.int ti), some (.int bf), some (.int n), some (.int i), some (.ref (oI M (fR M 104 7 + 11) i)), c6, c7, c8] [.ref (fR M 104 7)] M v M' 0 0 := Ev.back 1 (gs_3 rfl rfl (gf_r hS.1 qa_104 qr_22_7 rfl)) H
    have H : Ev none e 58 60 [some (.ref 104), some (.int ti), some (.int bf), some (.int n), some (.int i), some (.ref (oI M (fR M 104 7 + 11) i)), c6, c7, c8] [.ref (fR M 104 7 + 10)] M v M' 0 0 := Ev.back 1 (gs_3 rfl rfl (gf_x hS.1 (hS.1.fr qa_104 qr_22_7).2 qo_8 (fx_l12 hS (hS.1.fr qa_104 qr_22_7).2) rfl)) H
    have H : Ev none e 58 62 [some (.ref 104), some (.int ti), some (.int bf), some (.int n), some (.int i), some (.ref (oI M (fR M 104 7 + 11) i)), c6, c7, c8] [.ref (oI M (fR M 104 7 + 11) i), .ref (fR M 104 7 + 10)] M v M' 0 0 := Ev.back 1 (fun n => rfl) H
    have H : Ev none e 58 65 [some (.ref 104), some (.int ti), some (.int bf), some (.int n), some (.int i), some (.ref (oI M (fR M 104 7 + 11) i)), c6, c7, c8] [.int (zI M (oI M (fR M 104 7 + 11) i) 1), .ref (fR M 104 7 + 10)] M v M' 0 0 := Ev.back 1 (gs_3 rfl rfl (gf_i hS.1 b3.2 qi_21_1 rfl)) H
    obtain ⟨b4, H⟩ := Ev.aal rfl rfl hS.1 (fx_h12 (hS.1.fr qa_104 qr_22_7).2) qz_18 H
    have H : Ev none e 58 66 [some (.ref 104), some (.int ti), some (.int bf), some (.int n), some (.int i), some (.ref (oI M (fR M 104 7 + 11) i)), c6, c7, c8] [.ref (oI M (fR M 104 7 + 10) (zI M (oI M (fR M 104 7 + 11) i) 1))] M v M' 0 0 := H
    have H : Ev none e 58 69 [some (.ref 104), some (.int ti), some (.int bf), some (.int n), some (.int i), some (.ref (oI M (fR M 104 7 + 11) i)), some (.ref (oI M (fR M 104 7 + 10) (zI M (oI M (fR M 104 7 + 11) i) 1))), c7, c8] [.ref 104] M v M' 0 0 := Ev.back 2 (fun n => rfl) H
    have H : Ev none e 58 72 [some (.ref 104), some (.int ti), some (.int bf), some (.int n), some (.int i), some (.ref (oI M (fR M 104 7 + 11) i)), some (.ref (oI M (fR M 104 7 + 10) (zI M (oI M (fR M 104 7 + 11) i) 1))), c7, c8] [.ref (fR M 104 7)] M v M' 0 0 := Ev.back 1 (gs_3 rfl rfl (gf_r hS.1 qa_104 qr_22_7 rfl)) H
    have H : Ev none e 58 75 [some (.ref 104), some (.int ti), some (.int bf), some (.int n), some (.int i), some (.ref (oI M (fR M 104 7 + 11) i)), some (.ref (oI M (fR M 104 7 + 10) (zI M (oI M (fR M 104 7 + 11) i) 1))), c7, c8] [.ref (fR M 104 7 + 9)] M v M' 0 0 := Ev.back 1 (gs_3 rfl rfl (gf_x hS.1 (hS.1.fr qa_104 qr_22_7).2 qo_8 (fx_l10 hS (hS.1.fr qa_104 qr_22_7).2) rfl)) H
    have H : Ev none e 58 77 [some (.ref 104), some (.int ti), some (.int bf), some (.int n), some (.int i), some (.ref (oI M (fR M 104 7 + 11) i)), some (.ref (oI M (fR M 104 7 + 10) (zI M (oI M (fR M 104 7 + 11) i) 1))), c7, c8] [.ref (oI M (fR M 104 7 + 10) (zI M (oI M (fR M 104 7 + 11) i) 1)), .ref (fR M 104 7 + 9)] M v M' 0 0 := Ev.back 1 (fun n => rfl) H
    have H : Ev none e 58 80 [some (.ref 104), some (.int ti), some (.int bf), some (.int n), some (.int i), some (.ref (oI M (fR M 104 7 + 11) i)), some (.ref (oI M (fR M 104 7 + 10) (zI M (oI M (fR M 104 7 + 11) i) 1))), c7, c8] [.int (zI M (oI M (fR M 104 7 + 10) (zI M (oI M (fR M 104 7 + 11) i) 1)) 1), .ref (fR M 104 7 + 9)] M v M' 0 0 := Ev.back 1 (gs_3 rfl rfl (gf_i hS.1 b4.2 qi_20_1 rfl)) H
    obtain ⟨b5, H⟩ := Ev.ial rfl rfl hS.1 (fx_h10 (hS.1.fr qa_104 qr_22_7).2) qw_17 H
    have H : Ev none e 58 81 [some (.ref 104), some (.int ti), some (.int bf), some (.int n), some (.int i), some (.ref (oI M (fR M 104 7 + 11) i)), some (.ref (oI M (fR M 104 7 + 10) (zI M (oI M (fR M 104 7 + 11) i) 1))), c7, c8] [.int (rI M (fR M 104 7 + 9) (zI M (oI M (fR M 104 7 + 10) (zI M (oI M (fR M 104 7 + 11) i) 1)) 1))] M v M' 0 0 := H
    have H : Ev none e 58 90 [some (.ref 104), some (.int ti), some (.int bf), some (.int n), some (.int i), some (.ref (oI M (fR M 104 7 + 11) i)), some (.ref (oI M (fR M 104 7 + 10) (zI M (oI M (fR M 104 7 + 11) i) 1))), some (.int (rI M (fR M 104 7 + 9) (zI M (oI M (fR M 104 7 + 10) (zI M (oI M (fR M 104 7 + 11) i) 1)) 1))), c8] [.ref (oI M (fR M 104 7 + 10) (zI M (oI M (fR M 104 7 + 11) i) 1)), .int (rI M (fR M 104 7 + 9) (zI M (oI M (fR M 104 7 + 10) (zI M (oI M (fR M 104 7 + 11) i) 1)) 1)), .ref (oI M (fR M 104 7 + 11) i), .ref 104] M v M' 0 0 := Ev.back 5 (fun n => rfl) H
    have H : Ev none e 58 93 [some (.ref 104), some (.int ti), some (.int bf), some (.int n), some (.int i), some (.ref (oI M (fR M 104 7 + 11) i)), some (.ref (oI M (fR M 104 7 + 10) (zI M (oI M (fR M 104 7 + 11) i) 1))), some (.int (rI M (fR M 104 7 + 9) (zI M (oI M (fR M 104 7 + 10) (zI M (oI M (fR M 104 7 + 11) i) 1)) 1))), c8] [.int (zI M (oI M (fR M 104 7 + 10) (zI M (oI M (fR M 104 7 + 11) i) 1)) 2), .int (rI M (fR M 104 7 + 9) (zI M (oI M (fR M 104 7 + 10) (zI M (oI M (fR M 104 7 + 11) i) 1)) 1)), .ref (oI M (fR M 104 7 + 11) i), .ref 104] M v M' 0 0 := Ev.back 1 (gs_3 rfl rfl (gf_i hS.1 b4.2 qi_20_2 rfl)) H
    obtain ⟨e1, rfl⟩ := Ev.dpos rfl rfl H
    obtain ⟨vK6, MK6, K6, H⟩ := Ev.callb (fun n_ => gs_7 rfl rfl (show gCal (.invokevirtual 128) 7 (.int (zI M (oI M (fR M 104 7 + 10) (zI M (oI M (fR M 104 7 + 11) i) 1)) 2) :: .int (rI M (fR M 104 7 + 9) (zI M (oI M (fR M 104 7 + 10) (zI M (oI M (fR M 104 7 + 11) i) 1)) 1)) :: .ref (oI M (fR M 104 7 + 11) i) :: .ref 104 :: []) M = some (.inr (66, [some (.ref 104), some (.ref (oI M (fR M 104 7 + 11) i)), some (.int (rI M (fR M 104 7 + 9) (zI M (oI M (fR M 104 7 + 10) (zI M (oI M (fR M 104 7 + 11) i) 1)) 1))), some (.int (zI M (oI M (fR M 104 7 + 10) (zI M (oI M (fR M 104 7 + 11) i) 1)) 2)), none, none, none, none, none, none], [])) from by show @cond (Option ((List Value × Mem) ⊕ (Nat × Lo × List Value))) (true && gRecv M (.ref 104) 7 && gRoom [] && true) (some (.inr (66, [some (.ref 104), some (.ref (oI M (fR M 104 7 + 11) i)), some (.int (rI M (fR M 104 7 + 9) (zI M (oI M (fR M 104 7 + 10) (zI M (oI M (fR M 104 7 + 11) i) 1)) 1))), some (.int (zI M (oI M (fR M 104 7 + 10) (zI M (oI M (fR M 104 7 + 11) i) 1)) 2)), none, none, none, none, none, none], []))) none = _; rw [recv_s hS.1 qa_104 qo_22]; rfl)) H
    have K6 : Ev none e1 66 0 [some (.ref 104), some (.ref (oI M (fR M 104 7 + 11) i)), some (.int (rI M (fR M 104 7 + 9) (zI M (oI M (fR M 104 7 + 10) (zI M (oI M (fR M 104 7 + 11) i) 1)) 1))), some (.int (zI M (oI M (fR M 104 7 + 10) (zI M (oI M (fR M 104 7 + 11) i) 1)) 2)), none, none, none, none, none, none] [] M vK6 MK6 0 0 := K6
    have HF := H
    exact Or.inr (⟨h1, b3.1, b4.1, b5, ⟨e1, vK6, MK6, rfl, K6, HF⟩⟩)
theorem goo_96 {e : Nat} {M M' : Mem} {v : Option Value} {ti bf n i go y : Int32} {b x : Nat} {c8 : Option Value} (hS : SQ M) (a_b : gNth sT b = some 21) (a_x : gNth sT x = some 20) (H : Ev none e 58 96 [some (.ref 104), some (.int ti), some (.int bf), some (.int n), some (.int i), some (.ref b), some (.ref x), some (.int go), c8] [.int y] M v M' 0 0) : (y = (-1) ∧ Ev none e 58 173 [some (.ref 104), some (.int ti), some (.int bf), some (.int n), some (.int i), some (.ref b), some (.ref x), some (.int go), some (.int y)] [] M v M' 0 0) ∨ (¬ (y = (-1)) ∧ (0 ≤ (zI M b 0).toInt ∧ (zI M b 0).toInt < 256) ∧ (0 ≤ (zI M b 0).toInt ∧ (zI M b 0).toInt < 256) ∧ (0 ≤ ((8 * (zI M b 0)) + y).toInt ∧ ((8 * (zI M b 0)) + y).toInt < 2048) ∧ (∃ e1 v1 M1, e = e1 + 1 ∧ Ev none e1 74 0 [some (.ref b), some (.int (rI (wI M (fR M 104 7 + 8) ((zI M b 0).toNatClampNeg) ((rI M (fR M 104 7 + 8) (zI M b 0)) - 1)) 108 ((8 * (zI M b 0)) + y))), some (.int y)] [] (wI M (fR M 104 7 + 8) ((zI M b 0).toNatClampNeg) ((rI M (fR M 104 7 + 8) (zI M b 0)) - 1)) v1 M1 0 0 ∧ Ev none e 58 147 [some (.ref 104), some (.int ti), some (.int bf), some (.int n), some (.int i), some (.ref b), some (.ref x), some (.int go), some (.int y)] (v1.toList ++ []) M1 v M' 0 0)) := by
  have H : Ev none e 58 (if y = (-1) then 173 else 104) [some (.ref 104), some (.int ti), some (.int bf), some (.int n), some (.int i), some (.ref b), some (.ref x), some (.int go), some (.int y)] [] M v M' 0 0 := Ev.back 4 (fun n => rfl) H
  by_cases h1 : y = (-1)
  · rw [if_pos h1] at H
    have HF := H
    exact Or.inl ⟨h1, HF⟩
  · rw [if_neg h1] at H
    have H : Ev none e 58 105 [some (.ref 104), some (.int ti), some (.int bf), some (.int n), some (.int i), some (.ref b), some (.ref x), some (.int go), some (.int y)] [.ref 104] M v M' 0 0 := Ev.back 1 (fun n => rfl) H
    have H : Ev none e 58 108 [some (.ref 104), some (.int ti), some (.int bf), some (.int n), some (.int i), some (.ref b), some (.ref x), some (.int go), some (.int y)] [.ref (fR M 104 7)] M v M' 0 0 := Ev.back 1 (gs_3 rfl rfl (gf_r hS.1 qa_104 qr_22_7 rfl)) H
    have H : Ev none e 58 111 [some (.ref 104), some (.int ti), some (.int bf), some (.int n), some (.int i), some (.ref b), some (.ref x), some (.int go), some (.int y)] [.ref (fR M 104 7 + 8)] M v M' 0 0 := Ev.back 1 (gs_3 rfl rfl (gf_x hS.1 (hS.1.fr qa_104 qr_22_7).2 qo_8 (fx_l9 hS (hS.1.fr qa_104 qr_22_7).2) rfl)) H
    have H : Ev none e 58 113 [some (.ref 104), some (.int ti), some (.int bf), some (.int n), some (.int i), some (.ref b), some (.ref x), some (.int go), some (.int y)] [.ref b, .ref (fR M 104 7 + 8)] M v M' 0 0 := Ev.back 1 (fun n => rfl) H
    have H : Ev none e 58 116 [some (.ref 104), some (.int ti), some (.int bf), some (.int n), some (.int i), some (.ref b), some (.ref x), some (.int go), some (.int y)] [.int (zI M b 0), .ref (fR M 104 7 + 8)] M v M' 0 0 := Ev.back 1 (gs_3 rfl rfl (gf_i hS.1 a_b qi_21_0 rfl)) H
    have H : Ev none e 58 117 [some (.ref 104), some (.int ti), some (.int bf), some (.int n), some (.int i), some (.ref b), some (.ref x), some (.int go), some (.int y)] [.int (zI M b 0), .ref (fR M 104 7 + 8), .int (zI M b 0), .ref (fR M 104 7 + 8)] M v M' 0 0 := Ev.back 1 (fun n => rfl) H
    obtain ⟨b2, H⟩ := Ev.ial rfl rfl hS.1 (fx_h9 (hS.1.fr qa_104 qr_22_7).2) qw_16 H
    have H : Ev none e 58 118 [some (.ref 104), some (.int ti), some (.int bf), some (.int n), some (.int i), some (.ref b), some (.ref x), some (.int go), some (.int y)] [.int (rI M (fR M 104 7 + 8) (zI M b 0)), .int (zI M b 0), .ref (fR M 104 7 + 8)] M v M' 0 0 := H
    have H : Ev none e 58 120 [some (.ref 104), some (.int ti), some (.int bf), some (.int n), some (.int i), some (.ref b), some (.ref x), some (.int go), some (.int y)] [.int ((rI M (fR M 104 7 + 8) (zI M b 0)) - 1), .int (zI M b 0), .ref (fR M 104 7 + 8)] M v M' 0 0 := Ev.back 2 (fun n => rfl) H
    obtain ⟨b3, H⟩ := Ev.ias rfl rfl hS.1 (fx_h9 (hS.1.fr qa_104 qr_22_7).2) qw_16 H
    obtain ⟨N4, eN4⟩ : ∃ N, N = (wI M (fR M 104 7 + 8) ((zI M b 0).toNatClampNeg) ((rI M (fR M 104 7 + 8) (zI M b 0)) - 1)) := ⟨_, rfl⟩
    have hN4 : SQ N4 := by rw [eN4]; exact hS.ki
    have H : Ev none e 58 121 [some (.ref 104), some (.int ti), some (.int bf), some (.int n), some (.int i), some (.ref b), some (.ref x), some (.int go), some (.int y)] [] N4 v M' 0 0 := by rw [eN4]; exact H
    have H : Ev none e 58 124 [some (.ref 104), some (.int ti), some (.int bf), some (.int n), some (.int i), some (.ref b), some (.ref x), some (.int go), some (.int y)] [.ref 104, .ref b] N4 v M' 0 0 := Ev.back 2 (fun n => rfl) H
    have H : Ev none e 58 127 [some (.ref 104), some (.int ti), some (.int bf), some (.int n), some (.int i), some (.ref b), some (.ref x), some (.int go), some (.int y)] [.ref 105, .ref b] N4 v M' 0 0 := Ev.back 1 (gs_3 rfl rfl (gf_u hN4.1 qa_104 qr_22_0 qu_23 rfl)) H
    have H : Ev none e 58 130 [some (.ref 104), some (.int ti), some (.int bf), some (.int n), some (.int i), some (.ref b), some (.ref x), some (.int go), some (.int y)] [.ref 108, .ref b] N4 v M' 0 0 := Ev.back 1 (gs_3 rfl rfl (gf_u hN4.1 qa_105 qr_23_2 qu_26 rfl)) H
    have H : Ev none e 58 134 [some (.ref 104), some (.int ti), some (.int bf), some (.int n), some (.int i), some (.ref b), some (.ref x), some (.int go), some (.int y)] [.ref b, .int 8, .ref 108, .ref b] N4 v M' 0 0 := Ev.back 2 (fun n => rfl) H
    have H : Ev none e 58 137 [some (.ref 104), some (.int ti), some (.int bf), some (.int n), some (.int i), some (.ref b), some (.ref x), some (.int go), some (.int y)] [.int (zI N4 b 0), .int 8, .ref 108, .ref b] N4 v M' 0 0 := Ev.back 1 (gs_3 rfl rfl (gf_i hN4.1 a_b qi_21_0 rfl)) H
    rw [show zI N4 b 0 = zI M b 0 from by rw [eN4]; exact fI_wI] at H
    have H : Ev none e 58 141 [some (.ref 104), some (.int ti), some (.int bf), some (.int n), some (.int i), some (.ref b), some (.ref x), some (.int go), some (.int y)] [.int ((8 * (zI M b 0)) + y), .ref 108, .ref b] N4 v M' 0 0 := Ev.back 3 (fun n => rfl) H
    obtain ⟨b5, H⟩ := Ev.ial rfl rfl hN4.1 qa_108 qw_26 H
    have H : Ev none e 58 142 [some (.ref 104), some (.int ti), some (.int bf), some (.int n), some (.int i), some (.ref b), some (.ref x), some (.int go), some (.int y)] [.int (rI N4 108 ((8 * (zI M b 0)) + y)), .ref b] N4 v M' 0 0 := H
    have H : Ev none e 58 144 [some (.ref 104), some (.int ti), some (.int bf), some (.int n), some (.int i), some (.ref b), some (.ref x), some (.int go), some (.int y)] [.int y, .int (rI N4 108 ((8 * (zI M b 0)) + y)), .ref b] N4 v M' 0 0 := Ev.back 1 (fun n => rfl) H
    obtain ⟨e1, rfl⟩ := Ev.dpos rfl rfl H
    obtain ⟨vK6, MK6, K6, H⟩ := Ev.callb (fun n_ => gs_7 rfl rfl (show gCal (.invokevirtual 141) 7 (.int y :: .int (rI N4 108 ((8 * (zI M b 0)) + y)) :: .ref b :: []) N4 = some (.inr (74, [some (.ref b), some (.int (rI N4 108 ((8 * (zI M b 0)) + y))), some (.int y)], [])) from by show @cond (Option ((List Value × Mem) ⊕ (Nat × Lo × List Value))) (true && gRecv N4 (.ref b) 8 && gRoom [] && true) (some (.inr (74, [some (.ref b), some (.int (rI N4 108 ((8 * (zI M b 0)) + y))), some (.int y)], []))) none = _; rw [recv_s hN4.1 a_b qo_21]; rfl)) H
    have K6 : Ev none e1 74 0 [some (.ref b), some (.int (rI N4 108 ((8 * (zI M b 0)) + y))), some (.int y)] [] N4 vK6 MK6 0 0 := K6
    have HF := H
    subst eN4
    exact Or.inr (⟨h1, b2, b3, b5, ⟨e1, vK6, MK6, rfl, K6, HF⟩⟩)
theorem goo_147 {e : Nat} {M M' : Mem} {v : Option Value} {ti bf n i go y : Int32} {b x : Nat} (hS : SQ M) (a_b : gNth sT b = some 21) (a_x : gNth sT x = some 20) (H : Ev none e 58 147 [some (.ref 104), some (.int ti), some (.int bf), some (.int n), some (.int i), some (.ref b), some (.ref x), some (.int go), some (.int y)] [] M v M' 0 0) : (0 ≤ (zI M b 0).toInt ∧ (zI M b 0).toInt < 256) ∧ (0 ≤ (zI M b 0).toInt ∧ (zI M b 0).toInt < 256) ∧ (∃ e1 v1 M1, e = e1 + 1 ∧ Ev none e1 62 0 [some (.ref 104), some (.int (zI M b 0)), none] [] (wI M (fR M 104 7 + 8) ((zI M b 0).toNatClampNeg) ((rI M (fR M 104 7 + 8) (zI M b 0)) + 1)) v1 M1 0 0 ∧ Ev none e 58 173 [some (.ref 104), some (.int ti), some (.int bf), some (.int n), some (.int i), some (.ref b), some (.ref x), some (.int go), some (.int y)] (v1.toList ++ []) M1 v M' 0 0) := by
  have H : Ev none e 58 148 [some (.ref 104), some (.int ti), some (.int bf), some (.int n), some (.int i), some (.ref b), some (.ref x), some (.int go), some (.int y)] [.ref 104] M v M' 0 0 := Ev.back 1 (fun n => rfl) H
  have H : Ev none e 58 151 [some (.ref 104), some (.int ti), some (.int bf), some (.int n), some (.int i), some (.ref b), some (.ref x), some (.int go), some (.int y)] [.ref (fR M 104 7)] M v M' 0 0 := Ev.back 1 (gs_3 rfl rfl (gf_r hS.1 qa_104 qr_22_7 rfl)) H
  have H : Ev none e 58 154 [some (.ref 104), some (.int ti), some (.int bf), some (.int n), some (.int i), some (.ref b), some (.ref x), some (.int go), some (.int y)] [.ref (fR M 104 7 + 8)] M v M' 0 0 := Ev.back 1 (gs_3 rfl rfl (gf_x hS.1 (hS.1.fr qa_104 qr_22_7).2 qo_8 (fx_l9 hS (hS.1.fr qa_104 qr_22_7).2) rfl)) H
  have H : Ev none e 58 156 [some (.ref 104), some (.int ti), some (.int bf), some (.int n), some (.int i), some (.ref b), some (.ref x), some (.int go), some (.int y)] [.ref b, .ref (fR M 104 7 + 8)] M v M' 0 0 := Ev.back 1 (fun n => rfl) H
  have H : Ev none e 58 159 [some (.ref 104), some (.int ti), some (.int bf), some (.int n), some (.int i), some (.ref b), some (.ref x), some (.int go), some (.int y)] [.int (zI M b 0), .ref (fR M 104 7 + 8)] M v M' 0 0 := Ev.back 1 (gs_3 rfl rfl (gf_i hS.1 a_b qi_21_0 rfl)) H
  have H : Ev none e 58 160 [some (.ref 104), some (.int ti), some (.int bf), some (.int n), some (.int i), some (.ref b), some (.ref x), some (.int go), some (.int y)] [.int (zI M b 0), .ref (fR M 104 7 + 8), .int (zI M b 0), .ref (fR M 104 7 + 8)] M v M' 0 0 := Ev.back 1 (fun n => rfl) H
  obtain ⟨b1, H⟩ := Ev.ial rfl rfl hS.1 (fx_h9 (hS.1.fr qa_104 qr_22_7).2) qw_16 H
  have H : Ev none e 58 161 [some (.ref 104), some (.int ti), some (.int bf), some (.int n), some (.int i), some (.ref b), some (.ref x), some (.int go), some (.int y)] [.int (rI M (fR M 104 7 + 8) (zI M b 0)), .int (zI M b 0), .ref (fR M 104 7 + 8)] M v M' 0 0 := H
  have H : Ev none e 58 163 [some (.ref 104), some (.int ti), some (.int bf), some (.int n), some (.int i), some (.ref b), some (.ref x), some (.int go), some (.int y)] [.int ((rI M (fR M 104 7 + 8) (zI M b 0)) + 1), .int (zI M b 0), .ref (fR M 104 7 + 8)] M v M' 0 0 := Ev.back 2 (fun n => rfl) H
  obtain ⟨b2, H⟩ := Ev.ias rfl rfl hS.1 (fx_h9 (hS.1.fr qa_104 qr_22_7).2) qw_16 H
  obtain ⟨N3, eN3⟩ : ∃ N, N = (wI M (fR M 104 7 + 8) ((zI M b 0).toNatClampNeg) ((rI M (fR M 104 7 + 8) (zI M b 0)) + 1)) := ⟨_, rfl⟩
  have hN3 : SQ N3 := by rw [eN3]; exact hS.ki
  have H : Ev none e 58 164 [some (.ref 104), some (.int ti), some (.int bf), some (.int n), some (.int i), some (.ref b), some (.ref x), some (.int go), some (.int y)] [] N3 v M' 0 0 := by rw [eN3]; exact H
  have H : Ev none e 58 167 [some (.ref 104), some (.int ti), some (.int bf), some (.int n), some (.int i), some (.ref b), some (.ref x), some (.int go), some (.int y)] [.ref b, .ref 104] N3 v M' 0 0 := Ev.back 2 (fun n => rfl) H
  have H : Ev none e 58 170 [some (.ref 104), some (.int ti), some (.int bf), some (.int n), some (.int i), some (.ref b), some (.ref x), some (.int go), some (.int y)] [.int (zI N3 b 0), .ref 104] N3 v M' 0 0 := Ev.back 1 (gs_3 rfl rfl (gf_i hN3.1 a_b qi_21_0 rfl)) H
  rw [show zI N3 b 0 = zI M b 0 from by rw [eN3]; exact fI_wI] at H
  obtain ⟨e1, rfl⟩ := Ev.dpos rfl rfl H
  obtain ⟨vK4, MK4, K4, H⟩ := Ev.callb (fun n_ => gs_7 rfl rfl (show gCal (.invokevirtual 144) 7 (.int (zI M b 0) :: .ref 104 :: []) N3 = some (.inr (62, [some (.ref 104), some (.int (zI M b 0)), none], [])) from by show @cond (Option ((List Value × Mem) ⊕ (Nat × Lo × List Value))) (true && gRecv N3 (.ref 104) 7 && gRoom [] && true) (some (.inr (62, [some (.ref 104), some (.int (zI M b 0)), none], []))) none = _; rw [recv_s hN3.1 qa_104 qo_22]; rfl)) H
  have K4 : Ev none e1 62 0 [some (.ref 104), some (.int (zI M b 0)), none] [] N3 vK4 MK4 0 0 := K4
  have HF := H
  subst eN3
  exact ⟨b1, b2, ⟨e1, vK4, MK4, rfl, K4, HF⟩⟩
theorem goo_173 {e : Nat} {M M' : Mem} {v : Option Value} {ti bf n i go : Int32} {b x : Nat} {c8 : Option Value} (hS : SQ M) (a_b : gNth sT b = some 21) (a_x : gNth sT x = some 20) (H : Ev none e 58 173 [some (.ref 104), some (.int ti), some (.int bf), some (.int n), some (.int i), some (.ref b), some (.ref x), some (.int go), c8] [] M v M' 0 0) : (∃ e1 v1 M1, e = e1 + 1 ∧ Ev none e1 60 0 [some (.ref 104), some (.ref b), some (.int go), none] [] (wF M b 2 ((zI M b 2) + 1)) v1 M1 0 0 ∧ Ev none e 58 192 [some (.ref 104), some (.int ti), some (.int bf), some (.int n), some (.int i), some (.ref b), some (.ref x), some (.int go), c8] (v1.toList ++ []) M1 v M' 0 0) := by
  have H : Ev none e 58 176 [some (.ref 104), some (.int ti), some (.int bf), some (.int n), some (.int i), some (.ref b), some (.ref x), some (.int go), c8] [.ref b, .ref b] M v M' 0 0 := Ev.back 2 (fun n => rfl) H
  have H : Ev none e 58 179 [some (.ref 104), some (.int ti), some (.int bf), some (.int n), some (.int i), some (.ref b), some (.ref x), some (.int go), c8] [.int (zI M b 2), .ref b] M v M' 0 0 := Ev.back 1 (gs_3 rfl rfl (gf_i hS.1 a_b qi_21_2 rfl)) H
  have H : Ev none e 58 181 [some (.ref 104), some (.int ti), some (.int bf), some (.int n), some (.int i), some (.ref b), some (.ref x), some (.int go), c8] [.int ((zI M b 2) + 1), .ref b] M v M' 0 0 := Ev.back 2 (fun n => rfl) H
  obtain ⟨N2, eN2⟩ : ∃ N, N = (wF M b 2 ((zI M b 2) + 1)) := ⟨_, rfl⟩
  have hN2 : SQ N2 := by rw [eN2]; exact hS.kf
  have H : Ev none e 58 184 [some (.ref 104), some (.int ti), some (.int bf), some (.int n), some (.int i), some (.ref b), some (.ref x), some (.int go), c8] [] N2 v M' 0 0 := by rw [eN2]; exact Ev.pfi rfl rfl rfl hS.1 a_b qi_21_2 H
  have H : Ev none e 58 189 [some (.ref 104), some (.int ti), some (.int bf), some (.int n), some (.int i), some (.ref b), some (.ref x), some (.int go), c8] [.int go, .ref b, .ref 104] N2 v M' 0 0 := Ev.back 3 (fun n => rfl) H
  obtain ⟨e1, rfl⟩ := Ev.dpos rfl rfl H
  obtain ⟨vK3, MK3, K3, H⟩ := Ev.callb (fun n_ => gs_7 rfl rfl (show gCal (.invokevirtual 151) 7 (.int go :: .ref b :: .ref 104 :: []) N2 = some (.inr (60, [some (.ref 104), some (.ref b), some (.int go), none], [])) from by show @cond (Option ((List Value × Mem) ⊕ (Nat × Lo × List Value))) (true && gRecv N2 (.ref 104) 7 && gRoom [] && true) (some (.inr (60, [some (.ref 104), some (.ref b), some (.int go), none], []))) none = _; rw [recv_s hN2.1 qa_104 qo_22]; rfl)) H
  have K3 : Ev none e1 60 0 [some (.ref 104), some (.ref b), some (.int go), none] [] N2 vK3 MK3 0 0 := K3
  have HF := H
  subst eN2
  exact ⟨e1, vK3, MK3, rfl, K3, HF⟩
theorem goo_192 {e : Nat} {M M' : Mem} {v : Option Value} {ti bf n i go : Int32} {b x : Nat} {c8 : Option Value} (hS : SQ M) (a_b : gNth sT b = some 21) (a_x : gNth sT x = some 20) (H : Ev none e 58 192 [some (.ref 104), some (.int ti), some (.int bf), some (.int n), some (.int i), some (.ref b), some (.ref x), some (.int go), c8] [] M v M' 0 0) : Ev none e 58 29 [some (.ref 104), some (.int ti), some (.int bf), some (.int n), some (.int (i + 1)), some (.ref b), some (.ref x), some (.int go), c8] [] M v M' 0 0 := by
  have H : Ev none e 58 29 [some (.ref 104), some (.int ti), some (.int bf), some (.int n), some (.int (i + 1)), some (.ref b), some (.ref x), some (.int go), c8] [] M v M' 0 0 := Ev.back 2 (fun n => rfl) H
  have HF := H
  exact HF
theorem goo_202 {e : Nat} {M M' : Mem} {v : Option Value} {ti bf n : Int32} {c4 c5 c6 c7 c8 : Option Value} (hS : SQ M) (H : Ev none e 58 202 [some (.ref 104), some (.int ti), some (.int bf), some (.int n), c4, c5, c6, c7, c8] [] M v M' 0 0) : Ev none e 58 10 [some (.ref 104), some (.int ti), some (.int bf), some (.int (n + 1)), c4, c5, c6, c7, c8] [] (wF M (fR M 104 7) 16 ((zI M (fR M 104 7) 16) + 1)) v M' 0 0 := by
  have H : Ev none e 58 203 [some (.ref 104), some (.int ti), some (.int bf), some (.int n), c4, c5, c6, c7, c8] [.ref 104] M v M' 0 0 := Ev.back 1 (fun n => rfl) H
  have H : Ev none e 58 206 [some (.ref 104), some (.int ti), some (.int bf), some (.int n), c4, c5, c6, c7, c8] [.ref (fR M 104 7)] M v M' 0 0 := Ev.back 1 (gs_3 rfl rfl (gf_r hS.1 qa_104 qr_22_7 rfl)) H
  have H : Ev none e 58 207 [some (.ref 104), some (.int ti), some (.int bf), some (.int n), c4, c5, c6, c7, c8] [.ref (fR M 104 7), .ref (fR M 104 7)] M v M' 0 0 := Ev.back 1 (fun n => rfl) H
  have H : Ev none e 58 210 [some (.ref 104), some (.int ti), some (.int bf), some (.int n), c4, c5, c6, c7, c8] [.int (zI M (fR M 104 7) 16), .ref (fR M 104 7)] M v M' 0 0 := Ev.back 1 (gs_3 rfl rfl (gf_i hS.1 (hS.1.fr qa_104 qr_22_7).2 qi_8_16 rfl)) H
  have H : Ev none e 58 212 [some (.ref 104), some (.int ti), some (.int bf), some (.int n), c4, c5, c6, c7, c8] [.int ((zI M (fR M 104 7) 16) + 1), .ref (fR M 104 7)] M v M' 0 0 := Ev.back 2 (fun n => rfl) H
  obtain ⟨N2, eN2⟩ : ∃ N, N = (wF M (fR M 104 7) 16 ((zI M (fR M 104 7) 16) + 1)) := ⟨_, rfl⟩
  have hN2 : SQ N2 := by rw [eN2]; exact hS.kf
  have H : Ev none e 58 215 [some (.ref 104), some (.int ti), some (.int bf), some (.int n), c4, c5, c6, c7, c8] [] N2 v M' 0 0 := by rw [eN2]; exact Ev.pfi rfl rfl rfl hS.1 (hS.1.fr qa_104 qr_22_7).2 qi_8_16 H
  have H : Ev none e 58 10 [some (.ref 104), some (.int ti), some (.int bf), some (.int (n + 1)), c4, c5, c6, c7, c8] [] N2 v M' 0 0 := Ev.back 2 (fun n => rfl) H
  have HF := H
  subst eN2
  exact HF
noncomputable def X_55 (M : Mem) : Mem := (wA M 128 (-1))
theorem g_55 {e : Nat} {M M' : Mem} {v : Option Value} (hS : SQ M) (H : Ev none e 55 0 [some (.ref 104)] [] M v M' 0 0) : v = none ∧ M' = X_55 M := by
  unfold X_55
  have H : Ev none e 55 1 [some (.ref 104)] [.ref 104] M v M' 0 0 := Ev.back 1 (fun n => rfl) H
  have H : Ev none e 55 4 [some (.ref 104)] [.ref 128] M v M' 0 0 := Ev.back 1 (gs_3 rfl rfl (gf_u hS.1 qa_104 qr_22_4 qu_37 rfl)) H
  have H : Ev none e 55 5 [some (.ref 104)] [.int (-1), .ref 128] M v M' 0 0 := Ev.back 1 (fun n => rfl) H
  have H := Ev.fil rfl rfl (fun _ _ => rfl) hS.1 qa_128 qw_37 H
  obtain ⟨N1, eN1⟩ : ∃ N, N = (wA M 128 (-1)) := ⟨_, rfl⟩
  have hN1 : SQ N1 := by rw [eN1]; exact hS.ka
  have H : Ev none e 55 8 [some (.ref 104)] [] N1 v M' 0 0 := by rw [eN1]; exact H
  obtain ⟨p1, p2⟩ := Ev.retb (fun n => rfl) H
  subst eN1
  exact ⟨p1, p2⟩
theorem X_55_sx {M : Mem} (hS : SQ M) : SQ (X_55 M) := by
  unfold X_55
  exact hS.ka
theorem ewk_0 {e : Nat} {M M' : Mem} {v : Option Value} (hS : SQ M) (H : Ev none e 63 0 [some (.ref 104), none, none] [] M v M' 0 0) : Ev none e 63 2 [some (.ref 104), some (.int 0), none] [] M v M' 0 0 := by
  have H : Ev none e 63 2 [some (.ref 104), some (.int 0), none] [] M v M' 0 0 := Ev.back 2 (fun n => rfl) H
  have HF := H
  exact HF
theorem ewk_2 {e : Nat} {M M' : Mem} {v : Option Value} {c : Int32} {c2 : Option Value} (hS : SQ M) (H : Ev none e 63 2 [some (.ref 104), some (.int c), c2] [] M v M' 0 0) : ((G_6 M (fR M 104 7)) ≤ c ∧ v = none ∧ M' = (X_55 (wA M (fR M 104 7 + 6) 0))) ∨ (¬ ((G_6 M (fR M 104 7)) ≤ c) ∧ (∃ e1 v1 M1, e = e1 + 1 ∧ Ev none e1 64 0 [some (.ref 104), some (.int 1), some (.int c), some (.int 10), none] [] M v1 M1 0 0 ∧ Ev none e 63 21 [some (.ref 104), some (.int c), c2] (v1.toList ++ []) M1 v M' 0 0)) := by
  have H : Ev none e 63 4 [some (.ref 104), some (.int c), c2] [.ref 104, .int c] M v M' 0 0 := Ev.back 2 (fun n => rfl) H
  have H : Ev none e 63 7 [some (.ref 104), some (.int c), c2] [.ref (fR M 104 7), .int c] M v M' 0 0 := Ev.back 1 (gs_3 rfl rfl (gf_r hS.1 qa_104 qr_22_7 rfl)) H
  obtain ⟨e1, rfl⟩ := Ev.dpos rfl rfl H
  obtain ⟨vK1, MK1, K1, H⟩ := Ev.callb (fun n_ => gs_7 rfl rfl (show gCal (.invokevirtual 90) 7 (.ref (fR M 104 7) :: [.int c]) M = some (.inr (6, [some (.ref (fR M 104 7))], [.int c])) from by show @cond (Option ((List Value × Mem) ⊕ (Nat × Lo × List Value))) (true && gRecv M (.ref (fR M 104 7)) 1 && gRoom [.int c] && true) (some (.inr (6, [some (.ref (fR M 104 7))], [.int c]))) none = _; rw [recv_s hS.1 (hS.1.fr qa_104 qr_22_7).2 qo_8]; rfl)) H
  obtain ⟨pK1, qK1⟩ := g_6 hS (hS.1.fr qa_104 qr_22_7).2 K1
  rw [pK1, qK1] at H
  have H : Ev none (e1 + 1) 63 10 [some (.ref 104), some (.int c), c2] [.int (G_6 M (fR M 104 7)), .int c] M v M' 0 0 := H
  have H : Ev none (e1 + 1) 63 (if (G_6 M (fR M 104 7)) ≤ c then 82 else 13) [some (.ref 104), some (.int c), c2] [] M v M' 0 0 := Ev.back 1 (fun n => rfl) H
  by_cases h2 : (G_6 M (fR M 104 7)) ≤ c
  · rw [if_pos h2] at H
    have H : Ev none (e1 + 1) 63 83 [some (.ref 104), some (.int c), c2] [.ref 104] M v M' 0 0 := Ev.back 1 (fun n => rfl) H
    have H : Ev none (e1 + 1) 63 86 [some (.ref 104), some (.int c), c2] [.ref (fR M 104 7)] M v M' 0 0 := Ev.back 1 (gs_3 rfl rfl (gf_r hS.1 qa_104 qr_22_7 rfl)) H
    have H : Ev none (e1 + 1) 63 89 [some (.ref 104), some (.int c), c2] [.ref (fR M 104 7 + 6)] M v M' 0 0 := Ev.back 1 (gs_3 rfl rfl (gf_x hS.1 (hS.1.fr qa_104 qr_22_7).2 qo_8 (fx_l7 hS (hS.1.fr qa_104 qr_22_7).2) rfl)) H
    have H : Ev none (e1 + 1) 63 90 [some (.ref 104), some (.int c), c2] [.int 0, .ref (fR M 104 7 + 6)] M v M' 0 0 := Ev.back 1 (fun n => rfl) H
    have H := Ev.fil rfl rfl (fun _ _ => rfl) hS.1 (fx_h7 (hS.1.fr qa_104 qr_22_7).2) qw_14 H
    obtain ⟨N3, eN3⟩ : ∃ N, N = (wA M (fR M 104 7 + 6) 0) := ⟨_, rfl⟩
    have hN3 : SQ N3 := by rw [eN3]; exact hS.ka
    have H : Ev none (e1 + 1) 63 93 [some (.ref 104), some (.int c), c2] [] N3 v M' 0 0 := by rw [eN3]; exact H
    have H : Ev none (e1 + 1) 63 94 [some (.ref 104), some (.int c), c2] [.ref 104] N3 v M' 0 0 := Ev.back 1 (fun n => rfl) H
    obtain ⟨vK4, MK4, K4, H⟩ := Ev.callb (fun n_ => gs_7 rfl rfl (show gCal (.invokevirtual 75) 7 (.ref 104 :: []) N3 = some (.inr (55, [some (.ref 104)], [])) from by show @cond (Option ((List Value × Mem) ⊕ (Nat × Lo × List Value))) (true && gRecv N3 (.ref 104) 7 && gRoom [] && true) (some (.inr (55, [some (.ref 104)], []))) none = _; rw [recv_s hN3.1 qa_104 qo_22]; rfl)) H
    obtain ⟨pK4, qK4⟩ := g_55 hN3 K4
    rw [pK4, qK4] at H
    obtain ⟨N5, eN5⟩ : ∃ N, N = (X_55 N3) := ⟨_, rfl⟩
    have hN5 : SQ N5 := by rw [eN5]; exact X_55_sx hN3
    rw [← eN5] at H
    have H : Ev none (e1 + 1) 63 97 [some (.ref 104), some (.int c), c2] [] N5 v M' 0 0 := H
    obtain ⟨z1, z2⟩ := Ev.retb (fun n => rfl) H
    subst eN3 eN5
    exact Or.inl ⟨h2, z1, z2⟩
  · rw [if_neg h2] at H
    have H : Ev none (e1 + 1) 63 18 [some (.ref 104), some (.int c), c2] [.int 10, .int c, .int 1, .ref 104] M v M' 0 0 := Ev.back 4 (fun n => rfl) H
    obtain ⟨vK6, MK6, K6, H⟩ := Ev.callb (fun n_ => gs_7 rfl rfl (show gCal (.invokevirtual 181) 7 (.int 10 :: .int c :: .int 1 :: .ref 104 :: []) M = some (.inr (64, [some (.ref 104), some (.int 1), some (.int c), some (.int 10), none], [])) from by show @cond (Option ((List Value × Mem) ⊕ (Nat × Lo × List Value))) (true && gRecv M (.ref 104) 7 && gRoom [] && true) (some (.inr (64, [some (.ref 104), some (.int 1), some (.int c), some (.int 10), none], []))) none = _; rw [recv_s hS.1 qa_104 qo_22]; rfl)) H
    have K6 : Ev none e1 64 0 [some (.ref 104), some (.int 1), some (.int c), some (.int 10), none] [] M vK6 MK6 0 0 := K6
    have HF := H
    exact Or.inr (⟨h2, ⟨e1, vK6, MK6, rfl, K6, HF⟩⟩)
theorem ewk_21 {e : Nat} {M M' : Mem} {v : Option Value} {c y : Int32} {c2 : Option Value} (hS : SQ M) (H : Ev none e 63 21 [some (.ref 104), some (.int c), c2] [.int y] M v M' 0 0) : (0 ≤ c.toInt ∧ c.toInt < 256) ∧ (0 ≤ c.toInt ∧ c.toInt < 256) ∧ (0 ≤ c.toInt ∧ c.toInt < 256) ∧ (0 ≤ c.toInt ∧ c.toInt < 256) ∧ Ev none e 63 2 [some (.ref 104), some (.int (c + 1)), some (.int y)] [] (wI (wI M (fR M 104 7 + 4) c.toNatClampNeg (if 0 < ((rI M (fR M 104 7 + 4) c) - y) then ((rI M (fR M 104 7 + 4) c) - y) else 0)) (fR M 104 7 + 5) c.toNatClampNeg (if 0 < ((rI M (fR M 104 7 + 5) c) - (zI M (fR M 104 2) 12)) then ((rI M (fR M 104 7 + 5) c) - (zI M (fR M 104 2) 12)) else 0)) v M' 0 0 := by
  have H : Ev none e 63 23 [some (.ref 104), some (.int c), some (.int y)] [.ref 104] M v M' 0 0 := Ev.back 2 (fun n => rfl) H
  have H : Ev none e 63 26 [some (.ref 104), some (.int c), some (.int y)] [.ref (fR M 104 7)] M v M' 0 0 := Ev.back 1 (gs_3 rfl rfl (gf_r hS.1 qa_104 qr_22_7 rfl)) H
  have H : Ev none e 63 29 [some (.ref 104), some (.int c), some (.int y)] [.ref (fR M 104 7 + 4)] M v M' 0 0 := Ev.back 1 (gs_3 rfl rfl (gf_x hS.1 (hS.1.fr qa_104 qr_22_7).2 qo_8 (fx_l5 hS (hS.1.fr qa_104 qr_22_7).2) rfl)) H
  have H : Ev none e 63 32 [some (.ref 104), some (.int c), some (.int y)] [.ref 104, .int 0, .int c, .ref (fR M 104 7 + 4)] M v M' 0 0 := Ev.back 3 (fun n => rfl) H
  have H : Ev none e 63 35 [some (.ref 104), some (.int c), some (.int y)] [.ref (fR M 104 7), .int 0, .int c, .ref (fR M 104 7 + 4)] M v M' 0 0 := Ev.back 1 (gs_3 rfl rfl (gf_r hS.1 qa_104 qr_22_7 rfl)) H
  have H : Ev none e 63 38 [some (.ref 104), some (.int c), some (.int y)] [.ref (fR M 104 7 + 4), .int 0, .int c, .ref (fR M 104 7 + 4)] M v M' 0 0 := Ev.back 1 (gs_3 rfl rfl (gf_x hS.1 (hS.1.fr qa_104 qr_22_7).2 qo_8 (fx_l5 hS (hS.1.fr qa_104 qr_22_7).2) rfl)) H
  have H : Ev none e 63 39 [some (.ref 104), some (.int c), some (.int y)] [.int c, .ref (fR M 104 7 + 4), .int 0, .int c, .ref (fR M 104 7 + 4)] M v M' 0 0 := Ev.back 1 (fun n => rfl) H
  obtain ⟨b1, H⟩ := Ev.ial rfl rfl hS.1 (fx_h5 (hS.1.fr qa_104 qr_22_7).2) qw_12 H
  have H : Ev none e 63 40 [some (.ref 104), some (.int c), some (.int y)] [.int (rI M (fR M 104 7 + 4) c), .int 0, .int c, .ref (fR M 104 7 + 4)] M v M' 0 0 := H
  have H : Ev none e 63 42 [some (.ref 104), some (.int c), some (.int y)] [.int ((rI M (fR M 104 7 + 4) c) - y), .int 0, .int c, .ref (fR M 104 7 + 4)] M v M' 0 0 := Ev.back 2 (fun n => rfl) H
  obtain ⟨e1, rfl⟩ := Ev.dpos rfl rfl H
  have H : Ev none (e1 + 1) 63 45 [some (.ref 104), some (.int c), some (.int y)] [.int (if 0 < ((rI M (fR M 104 7 + 4) c) - y) then ((rI M (fR M 104 7 + 4) c) - y) else 0), .int c, .ref (fR M 104 7 + 4)] M v M' 0 0 := Ev.back 1 (fun n => rfl) H
  obtain ⟨b2, H⟩ := Ev.ias rfl rfl hS.1 (fx_h5 (hS.1.fr qa_104 qr_22_7).2) qw_12 H
  obtain ⟨N3, eN3⟩ : ∃ N, N = (wI M (fR M 104 7 + 4) c.toNatClampNeg (if 0 < ((rI M (fR M 104 7 + 4) c) - y) then ((rI M (fR M 104 7 + 4) c) - y) else 0)) := ⟨_, rfl⟩
  have hN3 : SQ N3 := by rw [eN3]; exact hS.ki
  have H : Ev none (e1 + 1) 63 46 [some (.ref 104), some (.int c), some (.int y)] [] N3 v M' 0 0 := by rw [eN3]; exact H
  have H : Ev none (e1 + 1) 63 47 [some (.ref 104), some (.int c), some (.int y)] [.ref 104] N3 v M' 0 0 := Ev.back 1 (fun n => rfl) H
  have H : Ev none (e1 + 1) 63 50 [some (.ref 104), some (.int c), some (.int y)] [.ref (fR N3 104 7)] N3 v M' 0 0 := Ev.back 1 (gs_3 rfl rfl (gf_r hN3.1 qa_104 qr_22_7 rfl)) H
  rw [show fR N3 104 7 = fR M 104 7 from by rw [eN3]; exact fR_wI] at H
  have H : Ev none (e1 + 1) 63 53 [some (.ref 104), some (.int c), some (.int y)] [.ref (fR M 104 7 + 5)] N3 v M' 0 0 := Ev.back 1 (gs_3 rfl rfl (gf_x hN3.1 (hS.1.fr qa_104 qr_22_7).2 qo_8 (fx_l6 hN3 (hS.1.fr qa_104 qr_22_7).2) rfl)) H
  have H : Ev none (e1 + 1) 63 56 [some (.ref 104), some (.int c), some (.int y)] [.ref 104, .int 0, .int c, .ref (fR M 104 7 + 5)] N3 v M' 0 0 := Ev.back 3 (fun n => rfl) H
  have H : Ev none (e1 + 1) 63 59 [some (.ref 104), some (.int c), some (.int y)] [.ref (fR N3 104 7), .int 0, .int c, .ref (fR M 104 7 + 5)] N3 v M' 0 0 := Ev.back 1 (gs_3 rfl rfl (gf_r hN3.1 qa_104 qr_22_7 rfl)) H
  rw [show fR N3 104 7 = fR M 104 7 from by rw [eN3]; exact fR_wI] at H
  have H : Ev none (e1 + 1) 63 62 [some (.ref 104), some (.int c), some (.int y)] [.ref (fR M 104 7 + 5), .int 0, .int c, .ref (fR M 104 7 + 5)] N3 v M' 0 0 := Ev.back 1 (gs_3 rfl rfl (gf_x hN3.1 (hS.1.fr qa_104 qr_22_7).2 qo_8 (fx_l6 hN3 (hS.1.fr qa_104 qr_22_7).2) rfl)) H
  have H : Ev none (e1 + 1) 63 63 [some (.ref 104), some (.int c), some (.int y)] [.int c, .ref (fR M 104 7 + 5), .int 0, .int c, .ref (fR M 104 7 + 5)] N3 v M' 0 0 := Ev.back 1 (fun n => rfl) H
  obtain ⟨b4, H⟩ := Ev.ial rfl rfl hN3.1 (fx_h6 (hS.1.fr qa_104 qr_22_7).2) qw_13 H
  have H : Ev none (e1 + 1) 63 64 [some (.ref 104), some (.int c), some (.int y)] [.int (rI N3 (fR M 104 7 + 5) c), .int 0, .int c, .ref (fR M 104 7 + 5)] N3 v M' 0 0 := H
  rw [show rI N3 (fR M 104 7 + 5) c = rI M (fR M 104 7 + 5) c from by rw [eN3]; exact rN_wI_ne (fun q => absurd q.1 (by omega))] at H
  have H : Ev none (e1 + 1) 63 65 [some (.ref 104), some (.int c), some (.int y)] [.ref 104, .int (rI M (fR M 104 7 + 5) c), .int 0, .int c, .ref (fR M 104 7 + 5)] N3 v M' 0 0 := Ev.back 1 (fun n => rfl) H
  have H : Ev none (e1 + 1) 63 68 [some (.ref 104), some (.int c), some (.int y)] [.ref (fR N3 104 2), .int (rI M (fR M 104 7 + 5) c), .int 0, .int c, .ref (fR M 104 7 + 5)] N3 v M' 0 0 := Ev.back 1 (gs_3 rfl rfl (gf_r hN3.1 qa_104 qr_22_2 rfl)) H
  rw [show fR N3 104 2 = fR M 104 2 from by rw [eN3]; exact fR_wI] at H
  have hx5 : gNth sT (fR M 104 2) = some 28 := by rw [← show fR N3 104 2 = fR M 104 2 from by rw [eN3]; exact fR_wI]; exact (hN3.1.fr qa_104 qr_22_2).2
  have H : Ev none (e1 + 1) 63 71 [some (.ref 104), some (.int c), some (.int y)] [.int (zI N3 (fR M 104 2) 12), .int (rI M (fR M 104 7 + 5) c), .int 0, .int c, .ref (fR M 104 7 + 5)] N3 v M' 0 0 := Ev.back 1 (gs_3 rfl rfl (gf_i hN3.1 hx5 qi_28_12 rfl)) H
  rw [show zI N3 (fR M 104 2) 12 = zI M (fR M 104 2) 12 from by rw [eN3]; exact fI_wI] at H
  have H : Ev none (e1 + 1) 63 75 [some (.ref 104), some (.int c), some (.int y)] [.int (if 0 < ((rI M (fR M 104 7 + 5) c) - (zI M (fR M 104 2) 12)) then ((rI M (fR M 104 7 + 5) c) - (zI M (fR M 104 2) 12)) else 0), .int c, .ref (fR M 104 7 + 5)] N3 v M' 0 0 := Ev.back 2 (fun n => rfl) H
  obtain ⟨b6, H⟩ := Ev.ias rfl rfl hN3.1 (fx_h6 (hS.1.fr qa_104 qr_22_7).2) qw_13 H
  obtain ⟨N7, eN7⟩ : ∃ N, N = (wI N3 (fR M 104 7 + 5) c.toNatClampNeg (if 0 < ((rI M (fR M 104 7 + 5) c) - (zI M (fR M 104 2) 12)) then ((rI M (fR M 104 7 + 5) c) - (zI M (fR M 104 2) 12)) else 0)) := ⟨_, rfl⟩
  have hN7 : SQ N7 := by rw [eN7]; exact hN3.ki
  have H : Ev none (e1 + 1) 63 76 [some (.ref 104), some (.int c), some (.int y)] [] N7 v M' 0 0 := by rw [eN7]; exact H
  have H : Ev none (e1 + 1) 63 2 [some (.ref 104), some (.int (c + 1)), some (.int y)] [] N7 v M' 0 0 := Ev.back 2 (fun n => rfl) H
  have HF := H
  subst eN3 eN7
  exact ⟨b1, b2, b4, b6, HF⟩
theorem wcl_0 {e : Nat} {M M' : Mem} {v : Option Value} (hS : SQ M) (H : Ev none e 57 0 [some (.ref 104), none, none] [] M v M' 0 0) : Ev none e 57 4 [some (.ref 104), some (.int 0), some (.int 0)] [] M v M' 0 0 := by
  have H : Ev none e 57 4 [some (.ref 104), some (.int 0), some (.int 0)] [] M v M' 0 0 := Ev.back 4 (fun n => rfl) H
  have HF := H
  exact HF
theorem wcl_4 {e : Nat} {M M' : Mem} {v : Option Value} {n c : Int32} (hS : SQ M) (H : Ev none e 57 4 [some (.ref 104), some (.int n), some (.int c)] [] M v M' 0 0) : ((G_6 M (fR M 104 7)) ≤ c ∧ v = some (.int n) ∧ M' = M) ∨ (¬ ((G_6 M (fR M 104 7)) ≤ c) ∧ (G_56 M c) = 0 ∧ Ev none e 57 4 [some (.ref 104), some (.int (n + 0)), some (.int (c + 1))] [] M v M' 0 0) ∨ (¬ ((G_6 M (fR M 104 7)) ≤ c) ∧ ¬ ((G_56 M c) = 0) ∧ Ev none e 57 4 [some (.ref 104), some (.int (n + 1)), some (.int (c + 1))] [] M v M' 0 0) := by
  have H : Ev none e 57 6 [some (.ref 104), some (.int n), some (.int c)] [.ref 104, .int c] M v M' 0 0 := Ev.back 2 (fun n => rfl) H
  have H : Ev none e 57 9 [some (.ref 104), some (.int n), some (.int c)] [.ref (fR M 104 7), .int c] M v M' 0 0 := Ev.back 1 (gs_3 rfl rfl (gf_r hS.1 qa_104 qr_22_7 rfl)) H
  obtain ⟨e1, rfl⟩ := Ev.dpos rfl rfl H
  obtain ⟨vK1, MK1, K1, H⟩ := Ev.callb (fun n_ => gs_7 rfl rfl (show gCal (.invokevirtual 90) 7 (.ref (fR M 104 7) :: [.int c]) M = some (.inr (6, [some (.ref (fR M 104 7))], [.int c])) from by show @cond (Option ((List Value × Mem) ⊕ (Nat × Lo × List Value))) (true && gRecv M (.ref (fR M 104 7)) 1 && gRoom [.int c] && true) (some (.inr (6, [some (.ref (fR M 104 7))], [.int c]))) none = _; rw [recv_s hS.1 (hS.1.fr qa_104 qr_22_7).2 qo_8]; rfl)) H
  obtain ⟨pK1, qK1⟩ := g_6 hS (hS.1.fr qa_104 qr_22_7).2 K1
  rw [pK1, qK1] at H
  have H : Ev none (e1 + 1) 57 12 [some (.ref 104), some (.int n), some (.int c)] [.int (G_6 M (fR M 104 7)), .int c] M v M' 0 0 := H
  have H : Ev none (e1 + 1) 57 (if (G_6 M (fR M 104 7)) ≤ c then 37 else 15) [some (.ref 104), some (.int n), some (.int c)] [] M v M' 0 0 := Ev.back 1 (fun n => rfl) H
  by_cases h2 : (G_6 M (fR M 104 7)) ≤ c
  · rw [if_pos h2] at H
    have H : Ev none (e1 + 1) 57 38 [some (.ref 104), some (.int n), some (.int c)] [.int n] M v M' 0 0 := Ev.back 1 (fun n => rfl) H
    obtain ⟨z1, z2⟩ := Ev.retz rfl rfl H
    exact Or.inl ⟨h2, z1, z2⟩
  · rw [if_neg h2] at H
    have H : Ev none (e1 + 1) 57 18 [some (.ref 104), some (.int n), some (.int c)] [.int c, .ref 104, .int n] M v M' 0 0 := Ev.back 3 (fun n => rfl) H
    obtain ⟨vK3, MK3, K3, H⟩ := Ev.callb (fun n_ => gs_7 rfl rfl (show gCal (.invokevirtual 94) 7 (.int c :: .ref 104 :: [.int n]) M = some (.inr (56, [some (.ref 104), some (.int c)], [.int n])) from by show @cond (Option ((List Value × Mem) ⊕ (Nat × Lo × List Value))) (true && gRecv M (.ref 104) 7 && gRoom [.int n] && true) (some (.inr (56, [some (.ref 104), some (.int c)], [.int n]))) none = _; rw [recv_s hS.1 qa_104 qo_22]; rfl)) H
    obtain ⟨pK3, qK3⟩ := g_56 hS K3
    rw [pK3, qK3] at H
    have H : Ev none (e1 + 1) 57 21 [some (.ref 104), some (.int n), some (.int c)] [.int (G_56 M c), .int n] M v M' 0 0 := H
    have H : Ev none (e1 + 1) 57 (if (G_56 M c) = 0 then 28 else 24) [some (.ref 104), some (.int n), some (.int c)] [.int n] M v M' 0 0 := Ev.back 1 (fun n => rfl) H
    by_cases h4 : (G_56 M c) = 0
    · rw [if_pos h4] at H
      have H : Ev none (e1 + 1) 57 4 [some (.ref 104), some (.int (n + 0)), some (.int (c + 1))] [] M v M' 0 0 := Ev.back 5 (fun n => rfl) H
      have HF := H
      exact Or.inr (Or.inl ⟨h2, h4, HF⟩)
    · rw [if_neg h4] at H
      have H : Ev none (e1 + 1) 57 4 [some (.ref 104), some (.int (n + 1)), some (.int (c + 1))] [] M v M' 0 0 := Ev.back 6 (fun n => rfl) H
      have HF := H
      exact Or.inr (Or.inr (⟨h2, h4, HF⟩))
noncomputable def G_2 (M : Mem) (co : Int32) (ro : Int32) : Int32 := if (G_126 M co 0 ((zI M 105 3) - 1)) = 0 then (-1) else (if (G_126 M ro 0 ((zI M 105 4) - 1)) = 0 then (-1) else ((zI M 105 3) * ro) + co)
theorem g_2 {e : Nat} {M M' : Mem} {v : Option Value} {co ro : Int32} (hS : SQ M) (H : Ev none e 2 0 [some (.ref 105), some (.int co), some (.int ro)] [] M v M' 0 0) : v = some (.int (G_2 M co ro)) ∧ M' = M := by
  unfold G_2
  have H : Ev none e 2 3 [some (.ref 105), some (.int co), some (.int ro)] [.ref 105, .int 0, .int co] M v M' 0 0 := Ev.back 3 (fun n => rfl) H
  have H : Ev none e 2 6 [some (.ref 105), some (.int co), some (.int ro)] [.int (zI M 105 3), .int 0, .int co] M v M' 0 0 := Ev.back 1 (gs_3 rfl rfl (gf_i hS.1 qa_105 qi_23_3 rfl)) H
  have H : Ev none e 2 8 [some (.ref 105), some (.int co), some (.int ro)] [.int ((zI M 105 3) - 1), .int 0, .int co] M v M' 0 0 := Ev.back 2 (fun n => rfl) H
  obtain ⟨e1, rfl⟩ := Ev.dpos rfl rfl H
  obtain ⟨vK1, MK1, K1, H⟩ := Ev.callb (fun n => rfl) H
  obtain ⟨pK1, qK1⟩ := g_126 hS K1
  rw [pK1, qK1] at H
  have H : Ev none (e1 + 1) 2 11 [some (.ref 105), some (.int co), some (.int ro)] [.int (G_126 M co 0 ((zI M 105 3) - 1))] M v M' 0 0 := H
  have H : Ev none (e1 + 1) 2 (if (G_126 M co 0 ((zI M 105 3) - 1)) = 0 then 39 else 14) [some (.ref 105), some (.int co), some (.int ro)] [] M v M' 0 0 := Ev.back 1 (fun n => rfl) H
  by_cases h2 : (G_126 M co 0 ((zI M 105 3) - 1)) = 0
  · rw [if_pos h2] at H
    have H : Ev none (e1 + 1) 2 40 [some (.ref 105), some (.int co), some (.int ro)] [.int (-1)] M v M' 0 0 := Ev.back 1 (fun n => rfl) H
    obtain ⟨p1, p2⟩ := Ev.retz rfl rfl H
    exact ⟨by rw [if_pos h2]; exact p1, p2⟩
  · rw [if_neg h2] at H
    have H : Ev none (e1 + 1) 2 17 [some (.ref 105), some (.int co), some (.int ro)] [.ref 105, .int 0, .int ro] M v M' 0 0 := Ev.back 3 (fun n => rfl) H
    have H : Ev none (e1 + 1) 2 20 [some (.ref 105), some (.int co), some (.int ro)] [.int (zI M 105 4), .int 0, .int ro] M v M' 0 0 := Ev.back 1 (gs_3 rfl rfl (gf_i hS.1 qa_105 qi_23_4 rfl)) H
    have H : Ev none (e1 + 1) 2 22 [some (.ref 105), some (.int co), some (.int ro)] [.int ((zI M 105 4) - 1), .int 0, .int ro] M v M' 0 0 := Ev.back 2 (fun n => rfl) H
    obtain ⟨vK3, MK3, K3, H⟩ := Ev.callb (fun n => rfl) H
    obtain ⟨pK3, qK3⟩ := g_126 hS K3
    rw [pK3, qK3] at H
    have H : Ev none (e1 + 1) 2 25 [some (.ref 105), some (.int co), some (.int ro)] [.int (G_126 M ro 0 ((zI M 105 4) - 1))] M v M' 0 0 := H
    have H : Ev none (e1 + 1) 2 (if (G_126 M ro 0 ((zI M 105 4) - 1)) = 0 then 39 else 28) [some (.ref 105), some (.int co), some (.int ro)] [] M v M' 0 0 := Ev.back 1 (fun n => rfl) H
    by_cases h4 : (G_126 M ro 0 ((zI M 105 4) - 1)) = 0
    · rw [if_pos h4] at H
      have H : Ev none (e1 + 1) 2 40 [some (.ref 105), some (.int co), some (.int ro)] [.int (-1)] M v M' 0 0 := Ev.back 1 (fun n => rfl) H
      obtain ⟨p1, p2⟩ := Ev.retz rfl rfl H
      exact ⟨by rw [if_neg h2, if_pos h4]; exact p1, p2⟩
    · rw [if_neg h4] at H
      have H : Ev none (e1 + 1) 2 29 [some (.ref 105), some (.int co), some (.int ro)] [.ref 105] M v M' 0 0 := Ev.back 1 (fun n => rfl) H
      have H : Ev none (e1 + 1) 2 32 [some (.ref 105), some (.int co), some (.int ro)] [.int (zI M 105 3)] M v M' 0 0 := Ev.back 1 (gs_3 rfl rfl (gf_i hS.1 qa_105 qi_23_3 rfl)) H
      have H : Ev none (e1 + 1) 2 40 [some (.ref 105), some (.int co), some (.int ro)] [.int (((zI M 105 3) * ro) + co)] M v M' 0 0 := Ev.back 5 (fun n => rfl) H
      obtain ⟨p1, p2⟩ := Ev.retz rfl rfl H
      exact ⟨by rw [if_neg h2, if_neg h4]; exact p1, p2⟩
theorem shp_0 {e : Nat} {M M' : Mem} {v : Option Value} {wi de : Int32} (hS : SQ M) (H : Ev none e 1 0 [some (.ref 105), some (.int wi), some (.int de), none, none] [] M v M' 0 0) : (wi = (zI M 105 3) ∧ de = (zI M 105 4) ∧ v = none ∧ M' = M) ∨ (wi = (zI M 105 3) ∧ ¬ (de = (zI M 105 4)) ∧ Ev none e 1 29 [some (.ref 105), some (.int wi), some (.int de), some (.int 0), none] [] (wF (wF M 105 3 wi) 105 4 de) v M' 0 0) ∨ (¬ (wi = (zI M 105 3)) ∧ Ev none e 1 29 [some (.ref 105), some (.int wi), some (.int de), some (.int 0), none] [] (wF (wF M 105 3 wi) 105 4 de) v M' 0 0) := by
  have H : Ev none e 1 2 [some (.ref 105), some (.int wi), some (.int de), none, none] [.ref 105, .int wi] M v M' 0 0 := Ev.back 2 (fun n => rfl) H
  have H : Ev none e 1 5 [some (.ref 105), some (.int wi), some (.int de), none, none] [.int (zI M 105 3), .int wi] M v M' 0 0 := Ev.back 1 (gs_3 rfl rfl (gf_i hS.1 qa_105 qi_23_3 rfl)) H
  have H : Ev none e 1 (if wi = (zI M 105 3) then 8 else 17) [some (.ref 105), some (.int wi), some (.int de), none, none] [] M v M' 0 0 := Ev.back 1 (fun n => rfl) H
  by_cases h1 : wi = (zI M 105 3)
  · rw [if_pos h1] at H
    have H : Ev none e 1 10 [some (.ref 105), some (.int wi), some (.int de), none, none] [.ref 105, .int de] M v M' 0 0 := Ev.back 2 (fun n => rfl) H
    have H : Ev none e 1 13 [some (.ref 105), some (.int wi), some (.int de), none, none] [.int (zI M 105 4), .int de] M v M' 0 0 := Ev.back 1 (gs_3 rfl rfl (gf_i hS.1 qa_105 qi_23_4 rfl)) H
    have H : Ev none e 1 (if de = (zI M 105 4) then 16 else 17) [some (.ref 105), some (.int wi), some (.int de), none, none] [] M v M' 0 0 := Ev.back 1 (fun n => rfl) H
    by_cases h2 : de = (zI M 105 4)
    · rw [if_pos h2] at H
      obtain ⟨z1, z2⟩ := Ev.retb (fun n => rfl) H
      exact Or.inl ⟨h1, h2, z1, z2⟩
    · rw [if_neg h2] at H
      have H : Ev none e 1 19 [some (.ref 105), some (.int wi), some (.int de), none, none] [.int wi, .ref 105] M v M' 0 0 := Ev.back 2 (fun n => rfl) H
      obtain ⟨N4, eN4⟩ : ∃ N, N = (wF M 105 3 wi) := ⟨_, rfl⟩
      have hN4 : SQ N4 := by rw [eN4]; exact hS.kf
      have H : Ev none e 1 22 [some (.ref 105), some (.int wi), some (.int de), none, none] [] N4 v M' 0 0 := by rw [eN4]; exact Ev.pfi rfl rfl rfl hS.1 qa_105 qi_23_3 H
      have H : Ev none e 1 24 [some (.ref 105), some (.int wi), some (.int de), none, none] [.int de, .ref 105] N4 v M' 0 0 := Ev.back 2 (fun n => rfl) H
      obtain ⟨N6, eN6⟩ : ∃ N, N = (wF N4 105 4 de) := ⟨_, rfl⟩
      have hN6 : SQ N6 := by rw [eN6]; exact hN4.kf
      have H : Ev none e 1 27 [some (.ref 105), some (.int wi), some (.int de), none, none] [] N6 v M' 0 0 := by rw [eN6]; exact Ev.pfi rfl rfl rfl hN4.1 qa_105 qi_23_4 H
      have H : Ev none e 1 29 [some (.ref 105), some (.int wi), some (.int de), some (.int 0), none] [] N6 v M' 0 0 := Ev.back 2 (fun n => rfl) H
      have HF := H
      subst eN4 eN6
      exact Or.inr (Or.inl ⟨h1, h2, HF⟩)
  · rw [if_neg h1] at H
    have H : Ev none e 1 19 [some (.ref 105), some (.int wi), some (.int de), none, none] [.int wi, .ref 105] M v M' 0 0 := Ev.back 2 (fun n => rfl) H
    obtain ⟨N8, eN8⟩ : ∃ N, N = (wF M 105 3 wi) := ⟨_, rfl⟩
    have hN8 : SQ N8 := by rw [eN8]; exact hS.kf
    have H : Ev none e 1 22 [some (.ref 105), some (.int wi), some (.int de), none, none] [] N8 v M' 0 0 := by rw [eN8]; exact Ev.pfi rfl rfl rfl hS.1 qa_105 qi_23_3 H
    have H : Ev none e 1 24 [some (.ref 105), some (.int wi), some (.int de), none, none] [.int de, .ref 105] N8 v M' 0 0 := Ev.back 2 (fun n => rfl) H
    obtain ⟨N10, eN10⟩ : ∃ N, N = (wF N8 105 4 de) := ⟨_, rfl⟩
    have hN10 : SQ N10 := by rw [eN10]; exact hN8.kf
    have H : Ev none e 1 27 [some (.ref 105), some (.int wi), some (.int de), none, none] [] N10 v M' 0 0 := by rw [eN10]; exact Ev.pfi rfl rfl rfl hN8.1 qa_105 qi_23_4 H
    have H : Ev none e 1 29 [some (.ref 105), some (.int wi), some (.int de), some (.int 0), none] [] N10 v M' 0 0 := Ev.back 2 (fun n => rfl) H
    have HF := H
    subst eN8 eN10
    exact Or.inr (Or.inr (⟨h1, HF⟩))
theorem shp_29 {e : Nat} {M M' : Mem} {v : Option Value} {wi de c : Int32} {c4 : Option Value} (hS : SQ M) (H : Ev none e 1 29 [some (.ref 105), some (.int wi), some (.int de), some (.int c), c4] [] M v M' 0 0) : (((zI M 105 3) * (zI M 105 4)) ≤ c ∧ v = none ∧ M' = M) ∨ (¬ (((zI M 105 3) * (zI M 105 4)) ≤ c) ∧ 256 ≤ c ∧ v = none ∧ M' = M) ∨ (¬ (((zI M 105 3) * (zI M 105 4)) ≤ c) ∧ ¬ (256 ≤ c) ∧ ¬ (zI M 105 3) = 0 ∧ (0 ≤ c.toInt ∧ c.toInt < 256) ∧ ¬ (zI M 105 3) = 0 ∧ (0 ≤ c.toInt ∧ c.toInt < 256) ∧ Ev none e 1 76 [some (.ref 105), some (.int wi), some (.int de), some (.int c), some (.int 0)] [] (wI (wI M 106 c.toNatClampNeg (c - c / (zI M 105 3) * (zI M 105 3))) 107 c.toNatClampNeg (c / (zI M 105 3))) v M' 0 0) := by
  have H : Ev none e 1 31 [some (.ref 105), some (.int wi), some (.int de), some (.int c), c4] [.ref 105, .int c] M v M' 0 0 := Ev.back 2 (fun n => rfl) H
  have H : Ev none e 1 34 [some (.ref 105), some (.int wi), some (.int de), some (.int c), c4] [.int (zI M 105 3), .int c] M v M' 0 0 := Ev.back 1 (gs_3 rfl rfl (gf_i hS.1 qa_105 qi_23_3 rfl)) H
  have H : Ev none e 1 35 [some (.ref 105), some (.int wi), some (.int de), some (.int c), c4] [.ref 105, .int (zI M 105 3), .int c] M v M' 0 0 := Ev.back 1 (fun n => rfl) H
  have H : Ev none e 1 38 [some (.ref 105), some (.int wi), some (.int de), some (.int c), c4] [.int (zI M 105 4), .int (zI M 105 3), .int c] M v M' 0 0 := Ev.back 1 (gs_3 rfl rfl (gf_i hS.1 qa_105 qi_23_4 rfl)) H
  have H : Ev none e 1 (if ((zI M 105 3) * (zI M 105 4)) ≤ c then 137 else 42) [some (.ref 105), some (.int wi), some (.int de), some (.int c), c4] [] M v M' 0 0 := Ev.back 2 (fun n => rfl) H
  by_cases h1 : ((zI M 105 3) * (zI M 105 4)) ≤ c
  · rw [if_pos h1] at H
    obtain ⟨z1, z2⟩ := Ev.retb (fun n => rfl) H
    exact Or.inl ⟨h1, z1, z2⟩
  · rw [if_neg h1] at H
    have H : Ev none e 1 (if 256 ≤ c then 137 else 49) [some (.ref 105), some (.int wi), some (.int de), some (.int c), c4] [] M v M' 0 0 := Ev.back 3 (fun n => rfl) H
    by_cases h2 : 256 ≤ c
    · rw [if_pos h2] at H
      obtain ⟨z1, z2⟩ := Ev.retb (fun n => rfl) H
      exact Or.inr (Or.inl ⟨h1, h2, z1, z2⟩)
    · rw [if_neg h2] at H
      have H : Ev none e 1 50 [some (.ref 105), some (.int wi), some (.int de), some (.int c), c4] [.ref 105] M v M' 0 0 := Ev.back 1 (fun n => rfl) H
      have H : Ev none e 1 53 [some (.ref 105), some (.int wi), some (.int de), some (.int c), c4] [.ref 106] M v M' 0 0 := Ev.back 1 (gs_3 rfl rfl (gf_u hS.1 qa_105 qr_23_0 qu_24 rfl)) H
      have H : Ev none e 1 56 [some (.ref 105), some (.int wi), some (.int de), some (.int c), c4] [.ref 105, .int c, .int c, .ref 106] M v M' 0 0 := Ev.back 3 (fun n => rfl) H
      have H : Ev none e 1 59 [some (.ref 105), some (.int wi), some (.int de), some (.int c), c4] [.int (zI M 105 3), .int c, .int c, .ref 106] M v M' 0 0 := Ev.back 1 (gs_3 rfl rfl (gf_i hS.1 qa_105 qi_23_3 rfl)) H
      obtain ⟨nz3, H⟩ := rm_i H rfl rfl
      have H : Ev none e 1 60 [some (.ref 105), some (.int wi), some (.int de), some (.int c), c4] [.int (c - c / (zI M 105 3) * (zI M 105 3)), .int c, .ref 106] M v M' 0 0 := H
      obtain ⟨b4, H⟩ := Ev.ias rfl rfl hS.1 qa_106 qw_24 H
      obtain ⟨N5, eN5⟩ : ∃ N, N = (wI M 106 c.toNatClampNeg (c - c / (zI M 105 3) * (zI M 105 3))) := ⟨_, rfl⟩
      have hN5 : SQ N5 := by rw [eN5]; exact hS.ki
      have H : Ev none e 1 61 [some (.ref 105), some (.int wi), some (.int de), some (.int c), c4] [] N5 v M' 0 0 := by rw [eN5]; exact H
      have H : Ev none e 1 62 [some (.ref 105), some (.int wi), some (.int de), some (.int c), c4] [.ref 105] N5 v M' 0 0 := Ev.back 1 (fun n => rfl) H
      have H : Ev none e 1 65 [some (.ref 105), some (.int wi), some (.int de), some (.int c), c4] [.ref 107] N5 v M' 0 0 := Ev.back 1 (gs_3 rfl rfl (gf_u hN5.1 qa_105 qr_23_1 qu_25 rfl)) H
      have H : Ev none e 1 68 [some (.ref 105), some (.int wi), some (.int de), some (.int c), c4] [.ref 105, .int c, .int c, .ref 107] N5 v M' 0 0 := Ev.back 3 (fun n => rfl) H
      have H : Ev none e 1 71 [some (.ref 105), some (.int wi), some (.int de), some (.int c), c4] [.int (zI N5 105 3), .int c, .int c, .ref 107] N5 v M' 0 0 := Ev.back 1 (gs_3 rfl rfl (gf_i hN5.1 qa_105 qi_23_3 rfl)) H
      rw [show zI N5 105 3 = zI M 105 3 from by rw [eN5]; exact fI_wI] at H
      obtain ⟨nz6, H⟩ := dv_i H rfl rfl
      have H : Ev none e 1 72 [some (.ref 105), some (.int wi), some (.int de), some (.int c), c4] [.int (c / (zI M 105 3)), .int c, .ref 107] N5 v M' 0 0 := H
      obtain ⟨b7, H⟩ := Ev.ias rfl rfl hN5.1 qa_107 qw_25 H
      obtain ⟨N8, eN8⟩ : ∃ N, N = (wI N5 107 c.toNatClampNeg (c / (zI M 105 3))) := ⟨_, rfl⟩
      have hN8 : SQ N8 := by rw [eN8]; exact hN5.ki
      have H : Ev none e 1 73 [some (.ref 105), some (.int wi), some (.int de), some (.int c), c4] [] N8 v M' 0 0 := by rw [eN8]; exact H
      have H : Ev none e 1 76 [some (.ref 105), some (.int wi), some (.int de), some (.int c), some (.int 0)] [] N8 v M' 0 0 := Ev.back 2 (fun n => rfl) H
      have HF := H
      subst eN5 eN8
      exact Or.inr (Or.inr (⟨h1, h2, nz3, b4, nz6, b7, HF⟩))
theorem shp_76 {e : Nat} {M M' : Mem} {v : Option Value} {wi de c d : Int32} (hS : SQ M) (H : Ev none e 1 76 [some (.ref 105), some (.int wi), some (.int de), some (.int c), some (.int d)] [] M v M' 0 0) : (8 ≤ d ∧ Ev none e 1 29 [some (.ref 105), some (.int wi), some (.int de), some (.int (c + 1)), some (.int d)] [] M v M' 0 0) ∨ (¬ (8 ≤ d) ∧ (0 ≤ c.toInt ∧ c.toInt < 256) ∧ (0 ≤ c.toInt ∧ c.toInt < 256) ∧ (0 ≤ ((8 * c) + d).toInt ∧ ((8 * c) + d).toInt < 2048) ∧ Ev none e 1 76 [some (.ref 105), some (.int wi), some (.int de), some (.int c), some (.int (d + 1))] [] (wI M 108 (((8 * c) + d).toNatClampNeg) (G_2 M ((rI M 106 c) + (sI 1 d)) ((rI M 107 c) + (sI 2 d)))) v M' 0 0) := by
  have H : Ev none e 1 (if 8 ≤ d then 131 else 83) [some (.ref 105), some (.int wi), some (.int de), some (.int c), some (.int d)] [] M v M' 0 0 := Ev.back 3 (fun n => rfl) H
  by_cases h1 : 8 ≤ d
  · rw [if_pos h1] at H
    have H : Ev none e 1 29 [some (.ref 105), some (.int wi), some (.int de), some (.int (c + 1)), some (.int d)] [] M v M' 0 0 := Ev.back 2 (fun n => rfl) H
    have HF := H
    exact Or.inl ⟨h1, HF⟩
  · rw [if_neg h1] at H
    have H : Ev none e 1 84 [some (.ref 105), some (.int wi), some (.int de), some (.int c), some (.int d)] [.ref 105] M v M' 0 0 := Ev.back 1 (fun n => rfl) H
    have H : Ev none e 1 87 [some (.ref 105), some (.int wi), some (.int de), some (.int c), some (.int d)] [.ref 108] M v M' 0 0 := Ev.back 1 (gs_3 rfl rfl (gf_u hS.1 qa_105 qr_23_2 qu_26 rfl)) H
    have H : Ev none e 1 96 [some (.ref 105), some (.int wi), some (.int de), some (.int c), some (.int d)] [.ref 105, .ref 105, .int ((8 * c) + d), .ref 108] M v M' 0 0 := Ev.back 7 (fun n => rfl) H
    have H : Ev none e 1 99 [some (.ref 105), some (.int wi), some (.int de), some (.int c), some (.int d)] [.ref 106, .ref 105, .int ((8 * c) + d), .ref 108] M v M' 0 0 := Ev.back 1 (gs_3 rfl rfl (gf_u hS.1 qa_105 qr_23_0 qu_24 rfl)) H
    have H : Ev none e 1 100 [some (.ref 105), some (.int wi), some (.int de), some (.int c), some (.int d)] [.int c, .ref 106, .ref 105, .int ((8 * c) + d), .ref 108] M v M' 0 0 := Ev.back 1 (fun n => rfl) H
    obtain ⟨b2, H⟩ := Ev.ial rfl rfl hS.1 qa_106 qw_24 H
    have H : Ev none e 1 101 [some (.ref 105), some (.int wi), some (.int de), some (.int c), some (.int d)] [.int (rI M 106 c), .ref 105, .int ((8 * c) + d), .ref 108] M v M' 0 0 := H
    have H : Ev none e 1 106 [some (.ref 105), some (.int wi), some (.int de), some (.int c), some (.int d)] [.int d, .retAddr 1, .int (rI M 106 c), .ref 105, .int ((8 * c) + d), .ref 108] M v M' 0 0 := Ev.back 2 (fun n => rfl) H
    have H : Ev none e 1 107 [some (.ref 105), some (.int wi), some (.int de), some (.int c), some (.int d)] [.int (sI 1 d), .int (rI M 106 c), .ref 105, .int ((8 * c) + d), .ref 108] M v M' 0 0 := Ev.sal rfl rfl H
    have H : Ev none e 1 109 [some (.ref 105), some (.int wi), some (.int de), some (.int c), some (.int d)] [.ref 105, .int ((rI M 106 c) + (sI 1 d)), .ref 105, .int ((8 * c) + d), .ref 108] M v M' 0 0 := Ev.back 2 (fun n => rfl) H
    have H : Ev none e 1 112 [some (.ref 105), some (.int wi), some (.int de), some (.int c), some (.int d)] [.ref 107, .int ((rI M 106 c) + (sI 1 d)), .ref 105, .int ((8 * c) + d), .ref 108] M v M' 0 0 := Ev.back 1 (gs_3 rfl rfl (gf_u hS.1 qa_105 qr_23_1 qu_25 rfl)) H
    have H : Ev none e 1 113 [some (.ref 105), some (.int wi), some (.int de), some (.int c), some (.int d)] [.int c, .ref 107, .int ((rI M 106 c) + (sI 1 d)), .ref 105, .int ((8 * c) + d), .ref 108] M v M' 0 0 := Ev.back 1 (fun n => rfl) H
    obtain ⟨b3, H⟩ := Ev.ial rfl rfl hS.1 qa_107 qw_25 H
    have H : Ev none e 1 114 [some (.ref 105), some (.int wi), some (.int de), some (.int c), some (.int d)] [.int (rI M 107 c), .int ((rI M 106 c) + (sI 1 d)), .ref 105, .int ((8 * c) + d), .ref 108] M v M' 0 0 := H
    have H : Ev none e 1 119 [some (.ref 105), some (.int wi), some (.int de), some (.int c), some (.int d)] [.int d, .retAddr 2, .int (rI M 107 c), .int ((rI M 106 c) + (sI 1 d)), .ref 105, .int ((8 * c) + d), .ref 108] M v M' 0 0 := Ev.back 2 (fun n => rfl) H
    have H : Ev none e 1 120 [some (.ref 105), some (.int wi), some (.int de), some (.int c), some (.int d)] [.int (sI 2 d), .int (rI M 107 c), .int ((rI M 106 c) + (sI 1 d)), .ref 105, .int ((8 * c) + d), .ref 108] M v M' 0 0 := Ev.sal rfl rfl H
    have H : Ev none e 1 121 [some (.ref 105), some (.int wi), some (.int de), some (.int c), some (.int d)] [.int ((rI M 107 c) + (sI 2 d)), .int ((rI M 106 c) + (sI 1 d)), .ref 105, .int ((8 * c) + d), .ref 108] M v M' 0 0 := Ev.back 1 (fun n => rfl) H
    obtain ⟨e1, rfl⟩ := Ev.dpos rfl rfl H
    obtain ⟨vK4, MK4, K4, H⟩ := Ev.callb (fun n_ => gs_7 rfl rfl (show gCal (.invokevirtual 34) 0 (.int ((rI M 107 c) + (sI 2 d)) :: .int ((rI M 106 c) + (sI 1 d)) :: .ref 105 :: [.int ((8 * c) + d), .ref 108]) M = some (.inr (2, [some (.ref 105), some (.int ((rI M 106 c) + (sI 1 d))), some (.int ((rI M 107 c) + (sI 2 d)))], [.int ((8 * c) + d), .ref 108])) from by show @cond (Option ((List Value × Mem) ⊕ (Nat × Lo × List Value))) (true && gRecv M (.ref 105) 0 && gRoom [.int ((8 * c) + d), .ref 108] && true) (some (.inr (2, [some (.ref 105), some (.int ((rI M 106 c) + (sI 1 d))), some (.int ((rI M 107 c) + (sI 2 d)))], [.int ((8 * c) + d), .ref 108]))) none = _; rw [recv_s hS.1 qa_105 qo_23]; rfl)) H
    obtain ⟨pK4, qK4⟩ := g_2 hS K4
    rw [pK4, qK4] at H
    have H : Ev none (e1 + 1) 1 124 [some (.ref 105), some (.int wi), some (.int de), some (.int c), some (.int d)] [.int (G_2 M ((rI M 106 c) + (sI 1 d)) ((rI M 107 c) + (sI 2 d))), .int ((8 * c) + d), .ref 108] M v M' 0 0 := H
    obtain ⟨b5, H⟩ := Ev.ias rfl rfl hS.1 qa_108 qw_26 H
    obtain ⟨N6, eN6⟩ : ∃ N, N = (wI M 108 (((8 * c) + d).toNatClampNeg) (G_2 M ((rI M 106 c) + (sI 1 d)) ((rI M 107 c) + (sI 2 d)))) := ⟨_, rfl⟩
    have hN6 : SQ N6 := by rw [eN6]; exact hS.ki
    have H : Ev none (e1 + 1) 1 125 [some (.ref 105), some (.int wi), some (.int de), some (.int c), some (.int d)] [] N6 v M' 0 0 := by rw [eN6]; exact H
    have H : Ev none (e1 + 1) 1 76 [some (.ref 105), some (.int wi), some (.int de), some (.int c), some (.int (d + 1))] [] N6 v M' 0 0 := Ev.back 2 (fun n => rfl) H
    have HF := H
    subst eN6
    exact Or.inr (⟨h1, b2, b3, b5, HF⟩)
theorem ent_0 {e : Nat} {M M' : Mem} {v : Option Value} {L : Nat} (hS : SQ M) (a_L : gNth sT L = some 8) (H : Ev none e 54 0 [some (.ref 104), some (.ref L)] [] M v M' 0 0) : (∃ e1 v1 M1, e = e1 + 1 ∧ Ev none e1 1 0 [some (.ref 105), some (.int (zI M L 0)), some (.int (zI M L 1)), none, none] [] (wR M 104 7 L) v1 M1 0 0 ∧ Ev none e 54 26 [some (.ref 104), some (.ref L)] (v1.toList ++ []) M1 v M' 0 0) := by
  have H : Ev none e 54 2 [some (.ref 104), some (.ref L)] [.ref L, .ref 104] M v M' 0 0 := Ev.back 2 (fun n => rfl) H
  obtain ⟨N2, eN2⟩ : ∃ N, N = (wR M 104 7 L) := ⟨_, rfl⟩
  have hN2 : SQ N2 := by rw [eN2]; exact hS.kr_22_7 a_L
  have H : Ev none e 54 5 [some (.ref 104), some (.ref L)] [] N2 v M' 0 0 := by rw [eN2]; exact Ev.pfr rfl rfl rfl hS.1 qa_104 qo_22 H
  have H : Ev none e 54 6 [some (.ref 104), some (.ref L)] [.ref 104] N2 v M' 0 0 := Ev.back 1 (fun n => rfl) H
  have H : Ev none e 54 9 [some (.ref 104), some (.ref L)] [.ref 105] N2 v M' 0 0 := Ev.back 1 (gs_3 rfl rfl (gf_u hN2.1 qa_104 qr_22_0 qu_23 rfl)) H
  have H : Ev none e 54 10 [some (.ref 104), some (.ref L)] [.ref 104, .ref 105] N2 v M' 0 0 := Ev.back 1 (fun n => rfl) H
  have H : Ev none e 54 13 [some (.ref 104), some (.ref L)] [.ref (fR N2 104 7), .ref 105] N2 v M' 0 0 := Ev.back 1 (gs_3 rfl rfl (gf_r hN2.1 qa_104 qr_22_7 rfl)) H
  rw [show fR N2 104 7 = L from by rw [eN2]; exact fR_wR_eq hS.1 qa_104 qk_22_7] at H
  have H : Ev none e 54 16 [some (.ref 104), some (.ref L)] [.int (zI N2 L 0), .ref 105] N2 v M' 0 0 := Ev.back 1 (gs_3 rfl rfl (gf_i hN2.1 a_L qi_8_0 rfl)) H
  rw [show zI N2 L 0 = zI M L 0 from by rw [eN2]; exact fI_wR_ne (fun q => absurd q.2 (by decide))] at H
  have H : Ev none e 54 17 [some (.ref 104), some (.ref L)] [.ref 104, .int (zI M L 0), .ref 105] N2 v M' 0 0 := Ev.back 1 (fun n => rfl) H
  have H : Ev none e 54 20 [some (.ref 104), some (.ref L)] [.ref (fR N2 104 7), .int (zI M L 0), .ref 105] N2 v M' 0 0 := Ev.back 1 (gs_3 rfl rfl (gf_r hN2.1 qa_104 qr_22_7 rfl)) H
  rw [show fR N2 104 7 = L from by rw [eN2]; exact fR_wR_eq hS.1 qa_104 qk_22_7] at H
  have H : Ev none e 54 23 [some (.ref 104), some (.ref L)] [.int (zI N2 L 1), .int (zI M L 0), .ref 105] N2 v M' 0 0 := Ev.back 1 (gs_3 rfl rfl (gf_i hN2.1 a_L qi_8_1 rfl)) H
  rw [show zI N2 L 1 = zI M L 1 from by rw [eN2]; exact fI_wR_ne (fun q => absurd q.2 (by decide))] at H
  obtain ⟨e1, rfl⟩ := Ev.dpos rfl rfl H
  obtain ⟨vK3, MK3, K3, H⟩ := Ev.callb (fun n_ => gs_7 rfl rfl (show gCal (.invokevirtual 61) 7 (.int (zI M L 1) :: .int (zI M L 0) :: .ref 105 :: []) N2 = some (.inr (1, [some (.ref 105), some (.int (zI M L 0)), some (.int (zI M L 1)), none, none], [])) from by show @cond (Option ((List Value × Mem) ⊕ (Nat × Lo × List Value))) (true && gRecv N2 (.ref 105) 0 && gRoom [] && true) (some (.inr (1, [some (.ref 105), some (.int (zI M L 0)), some (.int (zI M L 1)), none, none], []))) none = _; rw [recv_s hN2.1 qa_105 qo_23]; rfl)) H
  have K3 : Ev none e1 1 0 [some (.ref 105), some (.int (zI M L 0)), some (.int (zI M L 1)), none, none] [] N2 vK3 MK3 0 0 := K3
  have HF := H
  subst eN2
  exact ⟨e1, vK3, MK3, rfl, K3, HF⟩
theorem ent_26 {e : Nat} {M M' : Mem} {v : Option Value} {L : Nat} (hS : SQ M) (a_L : gNth sT L = some 8) (H : Ev none e 54 26 [some (.ref 104), some (.ref L)] [] M v M' 0 0) : v = none ∧ M' = (X_55 (wF (wF (wF M 104 8 0) 104 9 (-1)) 104 10 0)) := by
  have H : Ev none e 54 28 [some (.ref 104), some (.ref L)] [.int 0, .ref 104] M v M' 0 0 := Ev.back 2 (fun n => rfl) H
  obtain ⟨N2, eN2⟩ : ∃ N, N = (wF M 104 8 0) := ⟨_, rfl⟩
  have hN2 : SQ N2 := by rw [eN2]; exact hS.kf
  have H : Ev none e 54 31 [some (.ref 104), some (.ref L)] [] N2 v M' 0 0 := by rw [eN2]; exact Ev.pfi rfl rfl rfl hS.1 qa_104 qi_22_8 H
  have H : Ev none e 54 33 [some (.ref 104), some (.ref L)] [.int (-1), .ref 104] N2 v M' 0 0 := Ev.back 2 (fun n => rfl) H
  obtain ⟨N4, eN4⟩ : ∃ N, N = (wF N2 104 9 (-1)) := ⟨_, rfl⟩
  have hN4 : SQ N4 := by rw [eN4]; exact hN2.kf
  have H : Ev none e 54 36 [some (.ref 104), some (.ref L)] [] N4 v M' 0 0 := by rw [eN4]; exact Ev.pfi rfl rfl rfl hN2.1 qa_104 qi_22_9 H
  have H : Ev none e 54 38 [some (.ref 104), some (.ref L)] [.int 0, .ref 104] N4 v M' 0 0 := Ev.back 2 (fun n => rfl) H
  obtain ⟨N6, eN6⟩ : ∃ N, N = (wF N4 104 10 0) := ⟨_, rfl⟩
  have hN6 : SQ N6 := by rw [eN6]; exact hN4.kf
  have H : Ev none e 54 41 [some (.ref 104), some (.ref L)] [] N6 v M' 0 0 := by rw [eN6]; exact Ev.pfi rfl rfl rfl hN4.1 qa_104 qi_22_10 H
  have H : Ev none e 54 42 [some (.ref 104), some (.ref L)] [.ref 104] N6 v M' 0 0 := Ev.back 1 (fun n => rfl) H
  obtain ⟨e1, rfl⟩ := Ev.dpos rfl rfl H
  obtain ⟨vK7, MK7, K7, H⟩ := Ev.callb (fun n_ => gs_7 rfl rfl (show gCal (.invokevirtual 75) 7 (.ref 104 :: []) N6 = some (.inr (55, [some (.ref 104)], [])) from by show @cond (Option ((List Value × Mem) ⊕ (Nat × Lo × List Value))) (true && gRecv N6 (.ref 104) 7 && gRoom [] && true) (some (.inr (55, [some (.ref 104)], []))) none = _; rw [recv_s hN6.1 qa_104 qo_22]; rfl)) H
  obtain ⟨pK7, qK7⟩ := g_55 hN6 K7
  rw [pK7, qK7] at H
  obtain ⟨N8, eN8⟩ : ∃ N, N = (X_55 N6) := ⟨_, rfl⟩
  have hN8 : SQ N8 := by rw [eN8]; exact X_55_sx hN6
  rw [← eN8] at H
  have H : Ev none (e1 + 1) 54 45 [some (.ref 104), some (.ref L)] [] N8 v M' 0 0 := H
  obtain ⟨z1, z2⟩ := Ev.retb (fun n => rfl) H
  subst eN2 eN4 eN6 eN8
  exact ⟨z1, z2⟩
/-! THE CLASS'S choose -/
def SXc (M : Mem) : Prop := ∀ m, m < 7 → oN M 129 m = 130 + m
def GRD (P : PK) (M : Mem) : Prop := ∀ c, inC P c → rI M 106 c = c - c / P 0 * P 0 ∧ rI M 107 c = c / P 0 ∧ ∀ d : Int32, 0 ≤ d.toInt → d.toInt < 8 → rI M 108 (8 * c + d) = besP P c d
/-- all that the class's walking rests on -/
def CTX (L : Nat) (T : TS) (P : PK) (M : Mem) : Prop := CV L (T 0) P M ∧ wh4 P ∧ (∀ c, inC P c → nnC P c) ∧ SXc M ∧ GRD P M ∧ (TXT M (fR M 104 2) (T 0) ∧ LW (T 0)) ∧ (∀ h, h < 6 → TXT M (oN M 109 h) (T (h + 1)) ∧ LW (T (h + 1))) ∧ ∀ c, inC P c → rI M (L + 8) c = crdP P c (P 157).toInt.toNat
def lkW (a : Nat) : Prop := a = 128 ∨ (130 ≤ a ∧ a ≤ 136)
def noF (_ _ : Nat) : Prop := False
def noO (_ : Nat) : Prop := False
def ixA (h : Nat) (c : Int32) : Nat := 256 * h + c.toInt.toNat
def OKv (T : TS) (P : PK) (M : Mem) (h : Nat) (c : Int32) : Prop := rN M 128 (ixA h c) = bI (nevL (T 0) P (T (h + 1)) c (T (h + 1)).2) ∧ ∀ m, m < 7 → rN M (130 + m) (ixA h c) = sumL (T 0) P (T (h + 1)) c (nI m) (T (h + 1)).2 0
/-- what was looked at and kept -/
def VC (T : TS) (P : PK) (M : Mem) : Prop := ∀ h c, h < 6 → inC P c → rN M 128 (ixA h c) = -1 ∨ OKv T P M h c
set_option maxRecDepth 100000 in
theorem su_g : ∀ m, m < 7 → gNth sT (130 + m) = some 39 := by decide +kernel
section CHO
variable {e L t : Nat} {T : TS} {g q : TQ} {P : PK} {M M1 M' : Mem} {v : Option Value} {c d : Int32}
theorem ld_cases (h : gNth sT L = some 8) : L = 8 ∨ L = 243 ∨ L = 345 ∨ L = 441 ∨ L = 537 := by
  have h1 := tl_mem h
  unfold fxA at h1
  simp only [List.mem_cons, List.not_mem_nil, or_false] at h1
  exact h1
theorem tx_cases (h : gNth sT t = some 28) : t = 110 ∨ t = 119 ∨ t = 138 ∨ t = 147 ∨ t = 156 ∨ t = 165 ∨ t = 174 ∨ t = 183 := by
  have h1 := tx_mem h
  unfold fxT at h1
  simp only [List.mem_cons, List.not_mem_nil, or_false] at h1
  exact h1
theorem LCt.fz {F : Nat → Nat → Prop} {W O : Nat → Prop} {ls : List Lnq} (h : LCt M t ls) (hF : FZ F W O M M') (f : ¬ F t 8) (w : ∀ k, 1 ≤ k → k ≤ 5 → ¬ W (t + k)) : LCt M' t ls := by
  refine ⟨by rw [hF.fi f]; exact h.1, h.2.1, fun j l hj => ?_⟩
  rw [hF.rn (w 1 (by decide) (by decide)), hF.rn (w 2 (by decide) (by decide)), hF.rn (w 3 (by decide) (by decide)), hF.rn (w 4 (by decide) (by decide)), hF.rn (w 5 (by decide) (by decide))]
  exact h.2.2 j l hj
theorem CC.fz {F : Nat → Nat → Prop} {W O : Nat → Prop} {cs : List Cdq} (h : CC M t cs) (hF : FZ F W O M M') (f : ¬ F t 9) (w : ∀ k, 6 ≤ k → k ≤ 8 → ¬ W (t + k)) : CC M' t cs := by
  refine ⟨by rw [hF.fi f]; exact h.1, h.2.1, fun j c hj => ?_⟩
  rw [hF.rn (w 6 (by decide) (by decide)), hF.rn (w 7 (by decide) (by decide)), hF.rn (w 8 (by decide) (by decide))]
  exact h.2.2 j c hj
theorem TXT.fz {F : Nat → Nat → Prop} {W O : Nat → Prop} (h : TXT M t q) (hF : FZ F W O M M') (f : ∀ k, ¬ F t k) (w : ∀ k, 1 ≤ k → k ≤ 8 → ¬ W (t + k)) : TXT M' t q := by
  obtain ⟨h1, h2, h3, h4, h5, h6⟩ := h
  refine ⟨h1.fz hF (f 8) (fun k a b => w k a (by omega)), h2.fz hF (f 9) (fun k a b => w k (by omega) b), ?_, ?_, ?_, ?_⟩
  · rw [hF.fi (f 10)]; exact h3
  · rw [hF.fi (f 11)]; exact h4
  · rw [hF.fi (f 12)]; exact h5
  · rw [hF.fi (f 13)]; exact h6
theorem hab_t (hS : SH M) {h : Nat} (hh : h < 6) : gNth sT (oN M 109 h) = some 28 := ((hS.ror qa_109 qz_27).2.2 h hh).2
theorem law_t (hS : SH M) : gNth sT (fR M 104 2) = some 28 := (hS.fr qa_104 qr_22_2).2
theorem lk_tx (ht : gNth sT t = some 28) : ∀ k, 1 ≤ k → k ≤ 8 → ¬ lkW (t + k) := by
  intro k h1 h2 h
  unfold lkW at h
  rcases tx_cases ht with h | h | h | h | h | h | h | h <;> omega
theorem lk_ld (hL : gNth sT L = some 8) : ∀ k, k ≤ 95 → ¬ lkW (L + k) := by
  intro k h2 h
  unfold lkW at h
  rcases ld_cases hL with h | h | h | h | h <;> omega
theorem CTX.lk (h : CTX L T P M) (hS : SQ M') (hF : FZ noF lkW noO M M') : CTX L T P M' := by
  obtain ⟨⟨a1, a2, a3, a4, a5, a6, a7⟩, b1, b2, b3, b4, ⟨b5, b6⟩, b7, b8⟩ := h
  have nf : ∀ a k, ¬ noF a k := fun _ _ h => h
  have no : ∀ a, ¬ noO a := fun _ h => h
  have hl := law_t a1.1
  have e2 : fR M' 104 2 = fR M 104 2 := hF.fr (nf _ _)
  refine ⟨⟨hS, by rw [hF.fr (nf _ _)]; exact a2, a3, ?_, ?_, ?_, fun k f hk hf => ?_⟩, b1, b2, fun m hm => by rw [hF.on (no _)]; exact b3 m hm, fun c hc => ?_, ⟨?_, b6⟩, fun h hh => ?_, fun c hc => ?_⟩
  · rw [e2, hF.fi (nf _ _)]; exact a4
  · rw [e2, hF.fi (nf _ _)]; exact a5
  · rw [e2, hF.fi (nf _ _)]; exact a6
  · rw [show L + 1 + f = L + (1 + f) from by omega, hF.rn (lk_ld a3 (1 + f) (by omega)), ← show L + 1 + f = L + (1 + f) from by omega]; exact a7 k f hk hf
  · obtain ⟨g1, g2, g3⟩ := b4 c hc
    have r6 : ∀ j, rI M' 106 j = rI M 106 j := fun j => hF.rn (by unfold lkW; omega)
    have r7 : ∀ j, rI M' 107 j = rI M 107 j := fun j => hF.rn (by unfold lkW; omega)
    have r8 : ∀ j, rI M' 108 j = rI M 108 j := fun j => hF.rn (by unfold lkW; omega)
    rw [r6, r7]
    exact ⟨g1, g2, fun d d0 d1 => by rw [r8]; exact g3 d d0 d1⟩
  · rw [e2]
    exact b5.fz hF (fun k => nf _ _) (lk_tx hl)
  · rw [hF.on (no _)]
    exact ⟨(b7 h hh).1.fz hF (fun k => nf _ _) (lk_tx (hab_t a1.1 hh)), (b7 h hh).2⟩
  · have : rI M' (L + 8) c = rI M (L + 8) c := hF.rn (lk_ld a3 8 (by decide))
    rw [this]
    exact b8 c hc
theorem tv_rng {ls : List Lnq} (hw : ∀ l ∈ ls, nuOK l.1 l.2.1 l.2.2.1) (k d : Int32) : tvS ls k d = d ∨ ∃ l ∈ ls, l.1 = k ∧ tvS ls k d = l.2.2.1 := by
  unfold tvS
  split
  · rename_i l e
    have h1 := List.find?_some e
    exact Or.inr ⟨l, List.mem_of_find?_eq_some e, of_decide_eq_true h1, rfl⟩
  · exact Or.inl rfl
theorem bd_rng (hw : LW q) : 1 ≤ (bdQ q).toInt ∧ (bdQ q).toInt ≤ 999 := by
  unfold bdQ
  rcases tv_rng (fun l hl => (hw l hl).1) 2 40 with e | ⟨l, hl, e1, e2⟩
  · rw [e]; decide
  · rw [e2]
    have h := (hw l hl).1
    exact ⟨h.2.2.2.1 e1, h.2.1⟩
theorem si_rng (hw : LW q) : 0 ≤ (siQ q).toInt ∧ (siQ q).toInt ≤ 9 := by
  unfold siQ
  rcases tv_rng (fun l hl => (hw l hl).1) 7 3 with e | ⟨l, hl, e1, e2⟩
  · rw [e]; decide
  · rw [e2]
    have h := (hw l hl).1
    exact ⟨h.1, h.2.2.2.2 e1⟩
theorem g7_ok (hV : CV L g P M) (hc : inC P c) : G_7 M L c = bI (opnB P c) := by
  have r0 : rI M (L + 1) c = cE P 0 c := hV.2.2.2.2.2.2.at hc (f := 0) (by decide)
  unfold G_7 opnB
  rw [r0]
  by_cases h3 : cE P 0 c = 3
  · rw [if_pos h3, decide_eq_true h3]; rfl
  · rw [if_neg h3, decide_eq_false h3]
    by_cases h6 : cE P 0 c = 6
    · rw [if_pos h6, decide_eq_true h6]; rfl
    · rw [if_neg h6, decide_eq_false h6]; rfl
theorem g8_ok (hV : CV L g P M) (hc : inC P c) : G_8 M L c = bI (grnB P c) := by
  have r0 : rI M (L + 1) c = cE P 0 c := hV.2.2.2.2.2.2.at hc (f := 0) (by decide)
  unfold G_8 grnB
  rw [r0]
  by_cases h3 : cE P 0 c = 0
  · rw [if_pos h3, decide_eq_true h3]; rfl
  · rw [if_neg h3, decide_eq_false h3]
    by_cases h6 : cE P 0 c = 2
    · rw [if_pos h6, decide_eq_true h6]; rfl
    · rw [if_neg h6, decide_eq_false h6]; rfl
theorem g56_ok (hV : CV L g P M) (hc : inC P c) : G_56 M c = bI (wrnB g P c) := by
  have r0 : rI M (L + 4) c = cE P 3 c := hV.2.2.2.2.2.2.at hc (f := 3) (by decide)
  unfold G_56 wrnB
  rw [hV.2.1, r0, hV.2.2.2.1]
  by_cases h : cE P 3 c < bdQ g
  · rw [if_pos h, decide_eq_false (fun q => by rw [Int32.lt_iff_toInt_lt] at h; have := Int32.le_iff_toInt_le.mp q; omega)]; rfl
  · rw [if_neg h, decide_eq_true (Int32.le_iff_toInt_le.mpr (by rw [Int32.lt_iff_toInt_lt] at h; omega))]; rfl
theorem bI_0 {b : Bool} : bI b = 0 ↔ b = false := by cases b <;> decide
theorem bI_1 {b : Bool} : bI b = 1 ↔ b = true := by cases b <;> decide
theorem ln_at {ls : List Lnq} {j : Nat} {l : Lnq} {r : List Lnq} (h : ls.drop j = l :: r) : ls[j]? = some l ∧ ls.drop (j + 1) = r ∧ j < ls.length := by
  have h1 : (ls.drop j)[0]? = some l := by rw [h]; rfl
  rw [List.getElem?_drop] at h1
  refine ⟨h1, ?_, ?_⟩
  · have h2 : (ls.drop j).drop 1 = r := by rw [h]; rfl
    rw [List.drop_drop] at h2
    exact h2
  · exact (List.getElem?_eq_some_iff.mp h1).1
theorem dr_nil {ls : List Lnq} {j : Nat} (h : ls.drop j = []) : ls.length ≤ j := List.drop_eq_nil_iff.mp h
/-- the first line of a kind that holds: its NUMBER -/
theorem fnb_loop (hX : CTX L T P M) (hc : inC P c) {wh wo : Int32} : ∀ (r : List Lnq) (j : Nat) (i : Int32), (T 0).2.drop j = r → i.toInt = (j : Int) → j ≤ (T 0).2.length → Ev none e 64 3 [some (.ref 104), some (.int wh), some (.int c), some (.int wo), some (.int i)] [] M v M' 0 0 → M' = M ∧ v = some (.int (fstL (T 0) P wh c wo r)) := by
  have hS := hX.1.1
  have hl := law_t hS.1
  obtain ⟨ht, hw⟩ := hX.2.2.2.2.2.1
  have hn := hX.2.2.1 c hc
  have l1 := ht.1.1
  have l2 := ht.1.2.1
  intro r
  induction r with
  | nil =>
    intro j i hd hi hj H
    have h1 := dr_nil hd
    rcases fnb_3 hS H with ⟨_, h2, h3⟩ | ⟨a1, _⟩ | ⟨a1, _⟩
    · exact ⟨h3, h2⟩
    all_goals exact absurd (Int32.le_iff_toInt_le.mpr (by omega)) a1
  | cons l r ih =>
    intro j i hd hi hj H
    obtain ⟨h1, h2, h3⟩ := ln_at hd
    have hi1 : (i + 1).toInt = ((j + 1 : Nat) : Int) := by
      rw [i32_p1 (by omega)]
      omega
    have hk : rI M (fR M 104 2 + 1) i = l.1 := by
      rw [rI_n hi]
      exact (ht.1.2.2 j l h1).1
    have hnu : rI M (fR M 104 2 + 3) i = l.2.2.1 := by
      rw [rI_n hi]
      exact (ht.1.2.2 j l h1).2.2.1
    unfold fstL
    rcases fnb_3 hS H with ⟨a1, _⟩ | ⟨_, a2, _, e1, v1, M1, rfl, H1, H⟩ | ⟨_, a2, _, H⟩
    · have := Int32.le_iff_toInt_le.mp a1
      omega
    · rw [hk] at a2
      obtain ⟨rfl, rfl⟩ := holds_ok hX.1 hl ht hw hc hn hi h1 H1
      rcases fnb_40 hS H with ⟨b1, H⟩ | ⟨b1, _, b2, b3⟩
      · rw [if_neg (fun q => by have := bI_0.mp b1; rw [q.2] at this; cases this)]
        exact ih (j + 1) _ h2 hi1 (by omega) H
      · rw [hnu] at b2
        have hb : hldP (T 0) P (T 0) l c = true := by
          cases hh : hldP (T 0) P (T 0) l c with
          | true => rfl
          | false => exact absurd (bI_0.mpr hh) b1
        rw [if_pos ⟨a2, hb⟩]
        exact ⟨b3, b2⟩
    · rw [hk] at a2
      rw [if_neg (fun q => a2 q.1)]
      exact ih (j + 1) _ h2 hi1 (by omega) H
theorem fnb_ok (hX : CTX L T P M) (hc : inC P c) {wh wo : Int32} (H : Ev none e 64 0 [some (.ref 104), some (.int wh), some (.int c), some (.int wo), none] [] M v M' 0 0) : M' = M ∧ v = some (.int (fstL (T 0) P wh c wo (T 0).2)) := fnb_loop hX hc (T 0).2 0 0 rfl rfl (Nat.zero_le _) (fnb_0 hX.1.1 H)
/-- how many ahead are WORN -/
theorem wha_loop (hX : CTX L T P M) (d0 : 0 ≤ d.toInt) (d1 : d.toInt < 8) {c0 si : Int32} : ∀ (n : Nat) (nn av k : Int32), (si.toInt - k.toInt).toNat = n → 0 ≤ k.toInt → (av = -1 ∨ inC P av) → Ev none e 69 9 [some (.ref 104), some (.int c0), some (.int d), some (.int si), some (.int nn), some (.int av), some (.int k)] [] M v M' 0 0 → M' = M ∧ v = some (.int (seeP (T 0) P d n av nn)) := by
  have hS := hX.1.1
  have hL := hX.1.2.1
  have hT := hX.1.2.2.1
  intro n
  induction n with
  | zero =>
    intro nn av k hn k0 _ H
    rcases wha_9 hS H with ⟨_, h2, h3⟩ | ⟨a1, _⟩ | ⟨a1, _⟩ | ⟨a1, _⟩ | ⟨a1, _⟩
    · exact ⟨h3, h2⟩
    all_goals exact absurd (Int32.le_iff_toInt_le.mpr (by omega)) a1
  | succ n ih =>
    intro nn av k hn k0 ha H
    have hsi := i32_lt si
    have hk1 : (k + 1).toInt = k.toInt + 1 := i32_p1 (by omega)
    unfold seeP
    have hop : ¬ av = -1 → inC P av ∧ ¬ av < 0 := fun q => by
      rcases ha with h | h
      · exact absurd h q
      · exact ⟨h, fun r => by rw [i32_z] at r; have := h.1; omega⟩
    rcases wha_9 hS H with ⟨a1, _⟩ | ⟨_, a2, h2, h3⟩ | ⟨_, a2, a3, h2, h3⟩ | ⟨_, a2, a3, a4, _, H⟩ | ⟨_, a2, a3, a4, _, H⟩
    · have := Int32.le_iff_toInt_le.mp a1
      omega
    · rw [if_pos (Or.inl (by rw [a2]; decide))]
      exact ⟨h3, h2⟩
    · obtain ⟨q1, q2⟩ := hop a2
      rw [hL, g7_ok hX.1 q1, bI_0] at a3
      rw [if_pos (Or.inr a3)]
      exact ⟨h3, h2⟩
    · obtain ⟨q1, q2⟩ := hop a2
      rw [hL, g7_ok hX.1 q1, bI_0] at a3
      rw [g56_ok hX.1 q1, bI_0] at a4
      rw [if_neg (fun q => q.elim q2 a3), a4, if_neg (by decide)]
      rw [(hX.2.2.2.2.1 av q1).2.2 d d0 d1] at H
      exact ih _ _ _ (by rw [hk1]; omega) (by omega) (besP_in hX.2.1 q1) H
    · obtain ⟨q1, q2⟩ := hop a2
      rw [hL, g7_ok hX.1 q1, bI_0] at a3
      rw [g56_ok hX.1 q1, bI_0, Bool.not_eq_false] at a4
      rw [if_neg (fun q => q.elim q2 a3), a4, if_pos rfl]
      rw [(hX.2.2.2.2.1 av q1).2.2 d d0 d1] at H
      exact ih _ _ _ (by rw [hk1]; omega) (by omega) (besP_in hX.2.1 q1) H
theorem wha_ok (hX : CTX L T P M) (d0 : 0 ≤ d.toInt) (d1 : d.toInt < 8) (hc : inC P c) {si : Int32} (s0 : 0 ≤ si.toInt) (H : Ev none e 69 0 [some (.ref 104), some (.int c), some (.int d), some (.int si), none, none, none] [] M v M' 0 0) : M' = M ∧ v = some (.int (seeP (T 0) P d si.toInt.toNat c 0)) := wha_loop hX d0 d1 si.toInt.toNat 0 c 0 (by have : (0 : Int32).toInt = 0 := rfl; omega) (by decide) (Or.inr hc) (wha_0 hX.1.1 H)
/-! looking at a CELL -/
theorem lk_wI1 {j : Nat} {x : Int32} : FZ noF lkW noO M (wI M 128 j x) := FZ.wI (Or.inl rfl)
theorem lk_wI2 {m j : Nat} {x : Int32} (hm : m < 7) : FZ noF lkW noO M (wI M (130 + m) j x) := FZ.wI (Or.inr ⟨by omega, by omega⟩)
theorem row128 (hS : SH M) : (zrw M 128).length = 1536 := (hS.row qa_128 qw_37).2
theorem row130 (hS : SH M) {m : Nat} (hm : m < 7) : (zrw M (130 + m)).length = 1536 := (hS.row (su_g m hm) qw_39).2
/-- the sums of one place -/
def SUa (A : Nat) (s : Int32 → Int32) (M : Mem) : Prop := ∀ m, m < 7 → rN M (130 + m) A = s (nI m)
/-- but for one place all as it was -/
def OTa (A : Nat) (M M' : Mem) : Prop := ∀ b j, lkW b → j ≠ A → rN M' b j = rN M b j
theorem OTa.refl {A : Nat} : OTa A M M := fun _ _ _ _ => rfl
theorem OTa.trans {A : Nat} (h1 : OTa A M M1) (h2 : OTa A M1 M') : OTa A M M' := fun b j hb hj => (h2 b j hb hj).trans (h1 b j hb hj)
theorem OTa.wI {A b : Nat} {x : Int32} : OTa A M (wI M b A x) := fun b' j _ hj => rN_wI_ne (fun q => hj q.2)
theorem oI_sum (hX : SXc M) {m : Int32} {k : Nat} (hm : m.toInt = (k : Int)) (hk : k < 7) : oI M 129 m = 130 + k := by
  unfold oI
  rw [cl_n hm]
  exact hX k hk
theorem loo_z (hX : SXc M) (hS : SQ M) (ht : gNth sT t = some 28) {av : Int32} {A : Nat} (hA : av.toInt = (A : Int)) (hA2 : A < 1536) : ∀ (n k : Nat) (i : Int32) (c5 : Option Value), i.toInt = (k : Int) → n + k = 7 → (∀ m, m < k → rN M (130 + m) A = 0) → Ev none e 67 10 [some (.ref 104), some (.ref t), some (.int av), some (.int c), some (.int i), c5] [] M v M' 0 0 → ∃ M1 c5, SQ M1 ∧ FZ noF lkW noO M M1 ∧ OTa A M M1 ∧ rN M1 128 A = rN M 128 A ∧ (∀ m, m < 7 → rN M1 (130 + m) A = 0) ∧ Ev none e 67 36 [some (.ref 104), some (.ref t), some (.int av), some (.int c), some (.int 0), c5] [] M1 v M' 0 0 := by
  intro n
  induction n generalizing M with
  | zero =>
    intro k i c5 hi hk h0 H
    rcases loo_10 hS ht H with ⟨_, H⟩ | ⟨a1, _⟩
    · exact ⟨M, c5, hS, FZ.refl M, OTa.refl, rfl, fun m hm => h0 m (by omega), H⟩
    · have e7 : (7 : Int32).toInt = 7 := rfl
      exact absurd (Int32.le_iff_toInt_le.mpr (by omega)) a1
  | succ n ih =>
    intro k i c5 hi hk h0 H
    have e7 : (7 : Int32).toInt = 7 := rfl
    rcases loo_10 hS ht H with ⟨a1, _⟩ | ⟨_, _, _, H⟩
    · have := Int32.le_iff_toInt_le.mp a1
      omega
    · rw [oI_sum hX hi (by omega), cl_n hA] at H
      have hF : FZ noF lkW noO M (wI M (130 + k) A 0) := lk_wI2 (by omega)
      have hX1 : SXc (wI M (130 + k) A 0) := fun m hm => by rw [hF.on (fun q => q)]; exact hX m hm
      obtain ⟨M1, c5', s1, s2, s3, s4, s5, s6⟩ := ih hX1 hS.ki (k + 1) (i + 1) c5 (by rw [i32_p1 (by omega)]; omega) (by omega) (fun m hm => by
        by_cases hmk : m = k
        · subst hmk
          exact rN_wI_eq (by rw [row130 hS.1 (by omega)]; exact hA2)
        · rw [rN_wI_ne (fun q => hmk (by omega))]
          exact h0 m (by omega)) H
      refine ⟨M1, c5', s1, hF.trans s2, OTa.wI.trans s3, ?_, s5, s6⟩
      rw [s4, rN_wI_ne (fun q => absurd q.1 (by omega))]
theorem loo_l (h : Nat) (hh : h < 6) (hc : inC P c) {av : Int32} {A : Nat} (hA : av.toInt = (A : Int)) (hA2 : A < 1536) : ∀ (r : List Lnq) (M : Mem) (j : Nat) (i : Int32) (c5 : Option Value) (b : Bool) (s : Int32 → Int32), CTX L T P M → t = oN M 109 h → (T (h + 1)).2.drop j = r → i.toInt = (j : Int) → j ≤ (T (h + 1)).2.length → rN M 128 A = bI b → SUa A s M → Ev none e 67 36 [some (.ref 104), some (.ref t), some (.int av), some (.int c), some (.int i), c5] [] M v M' 0 0 → v = none ∧ SQ M' ∧ FZ noF lkW noO M M' ∧ OTa A M M' ∧ rN M' 128 A = bI (b || nevL (T 0) P (T (h + 1)) c r) ∧ SUa A (fun m => sumL (T 0) P (T (h + 1)) c m r (s m)) M' := by
  intro r
  induction r with
  | nil =>
    intro M j i c5 b s hX ht hd hi hj hb hs H
    have hS := hX.1.1
    obtain ⟨hq, hw⟩ := hX.2.2.2.2.2.2.1 h hh
    rw [← ht] at hq
    have htt : gNth sT t = some 28 := by rw [ht]; exact hab_t hS.1 hh
    have h1 := dr_nil hd
    have l1 := hq.1.1
    have l2 := hq.1.2.1
    rcases loo_36 hS htt H with ⟨_, h2, h3⟩ | ⟨a1, _⟩ | ⟨a1, _⟩ | ⟨a1, _⟩
    · subst h3
      refine ⟨h2, hS, FZ.refl _, OTa.refl, ?_, hs⟩
      rw [hb]
      show bI b = bI (b || false)
      rw [Bool.or_false]
    all_goals exact absurd (Int32.le_iff_toInt_le.mpr (by omega)) a1
  | cons l r ih =>
    intro M j i c5 b s hX ht hd hi hj hb hs H
    have hS := hX.1.1
    obtain ⟨hq, hw⟩ := hX.2.2.2.2.2.2.1 h hh
    rw [← ht] at hq
    have htt : gNth sT t = some 28 := by rw [ht]; exact hab_t hS.1 hh
    have hn := hX.2.2.1 c hc
    obtain ⟨h1, h2, h3⟩ := ln_at hd
    have l1 := hq.1.1
    have l2 := hq.1.2.1
    obtain ⟨k1, k2, k3, _⟩ := hq.1.2.2 j l h1
    rw [← rI_n hi] at k1 k2 k3
    have hi1 : (i + 1).toInt = ((j + 1 : Nat) : Int) := by
      rw [i32_p1 (by omega)]
      omega
    have hnu := (hw l (List.mem_of_getElem? h1)).1
    have nev : ∀ x : Bool, (l.1 = 6 ∧ hldP (T 0) P (T (h + 1)) l c = true ↔ x = true) → nevL (T 0) P (T (h + 1)) c (l :: r) = (x || nevL (T 0) P (T (h + 1)) c r) := fun x hx => by
      show (if l.1 = 6 ∧ hldP (T 0) P (T (h + 1)) l c = true then true else nevL (T 0) P (T (h + 1)) c r) = _
      cases x with
      | true => rw [if_pos (hx.mpr rfl)]; rfl
      | false => rw [if_neg (fun q => absurd (hx.mp q) (by decide))]; rfl
    have next : ∀ (c5 : Option Value), ¬ (l.1 = 6 ∧ hldP (T 0) P (T (h + 1)) l c = true) → ¬ (l.1 = 5 ∧ hldP (T 0) P (T (h + 1)) l c = true) → Ev none e 67 36 [some (.ref 104), some (.ref t), some (.int av), some (.int c), some (.int (i + 1)), c5] [] M v M' 0 0 → v = none ∧ SQ M' ∧ FZ noF lkW noO M M' ∧ OTa A M M' ∧ rN M' 128 A = bI (b || nevL (T 0) P (T (h + 1)) c (l :: r)) ∧ SUa A (fun m => sumL (T 0) P (T (h + 1)) c m (l :: r) (s m)) M' := fun c5 n6 n5 H => by
      obtain ⟨r1, r2, r3, r4, r5, r6⟩ := ih M (j + 1) (i + 1) c5 b s hX ht h2 hi1 (by omega) hb hs H
      refine ⟨r1, r2, r3, r4, ?_, fun m hm => ?_⟩
      · rw [nev false ⟨fun q => absurd q n6, fun q => by cases q⟩]
        exact r5
      · rw [r6 m hm]
        show _ = sumL (T 0) P (T (h + 1)) c (nI m) r (if l.1 = 5 ∧ hldP (T 0) P (T (h + 1)) l c = true ∧ l.2.1 = nI m then s (nI m) + l.2.2.1 else s (nI m))
        rw [if_neg (fun q => n5 ⟨q.1, q.2.1⟩)]
    have mid : (l.1 = 5 ∨ l.1 = 6) → ∀ (c5 : Option Value), Ev none e 67 88 [some (.ref 104), some (.ref t), some (.int av), some (.int c), some (.int i), c5] [.int (bI (hldP (T 0) P (T (h + 1)) l c))] M v M' 0 0 → v = none ∧ SQ M' ∧ FZ noF lkW noO M M' ∧ OTa A M M' ∧ rN M' 128 A = bI (b || nevL (T 0) P (T (h + 1)) c (l :: r)) ∧ SUa A (fun m => sumL (T 0) P (T (h + 1)) c m (l :: r) (s m)) M' := fun h56 c5 H => by
      rcases loo_88 hS htt H with ⟨a1, H⟩ | ⟨a1, a2, _, _, H⟩ | ⟨a1, a2, _, _, _, _, _, _, H⟩
      · rw [bI_0] at a1
        exact next c5 (fun q => by rw [a1] at q; cases q.2) (fun q => by rw [a1] at q; cases q.2) H
      · have hh1 : hldP (T 0) P (T (h + 1)) l c = true := by
          cases hq : hldP (T 0) P (T (h + 1)) l c with
          | true => rfl
          | false => exact absurd (bI_0.mpr hq) a1
        rw [k1] at a2
        rw [cl_n hA] at H
        have hF : FZ noF lkW noO M (wI M 128 A 1) := lk_wI1
        obtain ⟨r1, r2, r3, r4, r5, r6⟩ := ih (wI M 128 A 1) (j + 1) (i + 1) c5 true s (hX.lk hS.ki hF) (by rw [hF.on (fun q => q)]; exact ht) h2 hi1 (by omega) (rN_wI_eq (by rw [row128 hS.1]; exact hA2)) (fun m hm => by rw [rN_wI_ne (fun q => absurd q.1 (by omega))]; exact hs m hm) H
        refine ⟨r1, r2, hF.trans r3, OTa.wI.trans r4, ?_, fun m hm => ?_⟩
        · rw [nev true ⟨fun _ => rfl, fun _ => ⟨a2, hh1⟩⟩, r5]
          show bI (true || _) = bI (b || (true || _))
          rw [Bool.true_or, Bool.or_true]
        · rw [r6 m hm]
          show _ = sumL (T 0) P (T (h + 1)) c (nI m) r (if l.1 = 5 ∧ hldP (T 0) P (T (h + 1)) l c = true ∧ l.2.1 = nI m then s (nI m) + l.2.2.1 else s (nI m))
          rw [if_neg (fun q => by rw [a2] at q; exact absurd q.1 (by decide))]
      · have hh1 : hldP (T 0) P (T (h + 1)) l c = true := by
          cases hq : hldP (T 0) P (T (h + 1)) l c with
          | true => rfl
          | false => exact absurd (bI_0.mpr hq) a1
        rw [k1] at a2
        have h5 : l.1 = 5 := h56.elim id (fun q => absurd q a2)
        rw [k2, k3] at H
        obtain ⟨m0, m1⟩ := (hnu.2.2.1 h5).2
        obtain ⟨km, km1, km2⟩ := i32_in (k := 6) m0 m1 (by decide)
        have km3 : l.2.1.toInt = (km : Int) := by rw [km2]; exact nI_toInt (by omega)
        rw [oI_sum hX.2.2.2.1 km3 (by omega), rI_n hA, cl_n hA, hs km (by omega)] at H
        have hF : FZ noF lkW noO M (wI M (130 + km) A (s (nI km) + l.2.2.1)) := lk_wI2 (by omega)
        obtain ⟨r1, r2, r3, r4, r5, r6⟩ := ih (wI M (130 + km) A (s (nI km) + l.2.2.1)) (j + 1) (i + 1) c5 b (fun k => if l.2.1 = k then s k + l.2.2.1 else s k) (hX.lk hS.ki hF) (by rw [hF.on (fun q => q)]; exact ht) h2 hi1 (by omega) (by rw [rN_wI_ne (fun q => absurd q.1 (by omega))]; exact hb) (fun m hm => by
          by_cases hmk : m = km
          · subst hmk
            rw [rN_wI_eq (by rw [row130 hS.1 hm]; exact hA2)]
            dsimp only
            rw [if_pos km2]
          · rw [rN_wI_ne (fun q => hmk (by omega))]
            dsimp only
            rw [if_neg (fun q => hmk (by
              have q2 := congrArg Int32.toInt q
              rw [km3, nI_toInt (by omega)] at q2
              omega))]
            exact hs m hm) H
        refine ⟨r1, r2, hF.trans r3, OTa.wI.trans r4, ?_, fun m hm => ?_⟩
        · rw [nev false ⟨fun q => absurd q.1 a2, fun q => by cases q⟩]
          exact r5
        · rw [r6 m hm]
          show _ = sumL (T 0) P (T (h + 1)) c (nI m) r (if l.1 = 5 ∧ hldP (T 0) P (T (h + 1)) l c = true ∧ l.2.1 = nI m then s (nI m) + l.2.2.1 else s (nI m))
          dsimp only
          by_cases hm2 : l.2.1 = nI m
          · rw [if_pos hm2, if_pos ⟨h5, hh1, hm2⟩]
          · rw [if_neg hm2, if_neg (fun q => hm2 q.2.2)]
    rcases loo_36 hS htt H with ⟨a1, _⟩ | ⟨_, a2, _, e1, v1, M1, rfl, H1, H⟩ | ⟨_, a2, a3, _, _, e1, v1, M1, rfl, H1, H⟩ | ⟨_, a2, a3, _, _, H⟩
    · have := Int32.le_iff_toInt_le.mp a1
      omega
    · rw [k1] at a2
      obtain ⟨rfl, rfl⟩ := holds_ok hX.1 htt hq hw hc hn hi h1 H1
      exact mid (Or.inl a2) _ H
    · rw [k1] at a3
      obtain ⟨rfl, rfl⟩ := holds_ok hX.1 htt hq hw hc hn hi h1 H1
      exact mid (Or.inr a3) _ H
    · rw [k1] at a2 a3
      exact next _ (fun q => a3 q.1) (fun q => a2 q.1) H
theorem look_ok (hX : CTX L T P M) {h : Nat} (hh : h < 6) (hc : inC P c) {av : Int32} (hA : av.toInt = (ixA h c : Int)) (H : Ev none e 67 0 [some (.ref 104), some (.ref (oN M 109 h)), some (.int av), some (.int c), none, none] [] M v M' 0 0) : v = none ∧ SQ M' ∧ FZ noF lkW noO M M' ∧ OTa (ixA h c) M M' ∧ OKv T P M' h c := by
  have hS := hX.1.1
  have htt := hab_t hS.1 hh
  obtain ⟨hr, H⟩ := loo_0 hS htt H
  have hA2 : ixA h c < 1536 := by omega
  rw [cl_n hA] at H
  have hF : FZ noF lkW noO M (wI M 128 (ixA h c) 0) := lk_wI1
  obtain ⟨M1, c5, s1, s2, s3, s4, s5, H⟩ := loo_z (fun m hm => by rw [hF.on (fun q => q)]; exact hX.2.2.2.1 m hm) hS.ki htt hA hA2 7 0 0 none rfl (by decide) (fun m hm => absurd hm (Nat.not_lt_zero m)) H
  have hF2 := hF.trans s2
  obtain ⟨r1, r2, r3, r4, r5, r6⟩ := loo_l h hh hc hA hA2 (T (h + 1)).2 M1 0 0 c5 false (fun _ => 0) (hX.lk s1 hF2) (by rw [hF2.on (fun q => q)]) rfl rfl (Nat.zero_le _) (by rw [s4, rN_wI_eq (by rw [row128 hS.1]; exact hA2)]; rfl) (fun m hm => s5 m hm) H
  refine ⟨r1, r2, hF2.trans r3, (OTa.wI.trans s3).trans r4, ?_, fun m hm => r6 m hm⟩
  rw [r5, Bool.false_or]
theorem VC.look {h : Nat} {c : Int32} (hw : wh4 P) (hV : VC T P M) (hO : OTa (ixA h c) M M') (hK : OKv T P M' h c) (hc : inC P c) (hh : h < 6) : VC T P M' := by
  intro h2 c2 hh2 hc2
  obtain ⟨_, c256, _⟩ := cls_int hw
  have b1 := hc.2
  have b2 := hc2.2
  by_cases hx : ixA h2 c2 = ixA h c
  · unfold ixA at hx
    have e1 : h2 = h := by omega
    have e2 : c2 = c := by
      refine Int32.toInt_inj.mp ?_
      have := Int.toNat_of_nonneg hc.1
      have := Int.toNat_of_nonneg hc2.1
      omega
    subst e1 e2
    exact Or.inr hK
  · rcases hV h2 c2 hh2 hc2 with q | ⟨q1, q2⟩
    · refine Or.inl ?_
      rw [hO 128 _ (Or.inl rfl) hx]
      exact q
    · refine Or.inr ⟨?_, fun m hm => ?_⟩
      · rw [hO 128 _ (Or.inl rfl) hx]
        exact q1
      · rw [hO (130 + m) _ (Or.inr ⟨by omega, by omega⟩) hx]
        exact q2 m hm
theorem ix_av {h : Nat} {ha : Int32} (hw : wh4 P) (hc : inC P c) (hh : ha.toInt = (h : Int)) (h6 : h < 6) : (256 * ha + c).toInt = (ixA h c : Int) ∧ (256 * ha + c) - (256 * ha + c) / 256 * 256 = c := by
  obtain ⟨c0, _, c2⟩ := hc.lt hw
  have e256 : (256 : Int32).toInt = 256 := rfl
  have e0 : (256 : Int32).toInt * ha.toInt = 256 * (h : Int) := by rw [e256, hh]
  have e1 : (256 * ha).toInt = 256 * (h : Int) := by rw [i32_mul (by omega) (by omega), e0]
  have e2 : (256 * ha + c).toInt = 256 * (h : Int) + c.toInt := by rw [i32_add (by omega) (by omega), e1]
  have e3 : ((256 * ha + c) / 256).toInt = (h : Int) := by
    rw [i32_div (by decide), e256, e2, Int.tdiv_eq_ediv_of_nonneg (by omega)]
    omega
  have e4 : ((256 * ha + c) / 256 * 256).toInt = 256 * (h : Int) := by
    rw [i32_mul (by rw [e3, e256]; omega) (by rw [e3, e256]; omega), e3, e256]
    omega
  refine ⟨?_, Int32.toInt_inj.mp ?_⟩
  · rw [e2]
    unfold ixA
    have := Int.toNat_of_nonneg c0
    omega
  · rw [i32_sub (by rw [e2, e4]; omega) (by rw [e2, e4]; omega), e2, e4]
    omega
theorem abs_ok (x : Int32) : (if 0 ≤ x then x else 0 - x) = absI x := by
  unfold absI
  by_cases h : x < 0
  · rw [if_pos h, if_neg (fun q => by rw [i32_z] at h; have := Int32.le_iff_toInt_le.mp q; have e : (0 : Int32).toInt = 0 := rfl; omega)]
    grind
  · rw [if_neg h, if_pos (Int32.le_iff_toInt_le.mpr (by rw [i32_z] at h; have e : (0 : Int32).toInt = 0 := rfl; omega))]
theorem grn_a {bd we : Int32} (b1 : 1 ≤ bd.toInt) (b2 : bd.toInt ≤ 999) (w0 : 0 ≤ we.toInt) : (if 0 < bd - we then bd - we else 0) / 10 = (if ¬ bd ≤ we then (bd - we) / 10 else 0) := by
  have hwe := (i32_lt we).2
  have e0 : (0 : Int32).toInt = 0 := rfl
  have e1 : (bd - we).toInt = bd.toInt - we.toInt := i32_sub (by omega) (by omega)
  by_cases h : bd ≤ we
  · have h1 := Int32.le_iff_toInt_le.mp h
    rw [if_neg (by rw [Int32.lt_iff_toInt_lt]; omega), if_neg (fun q => q h)]
    rfl
  · have h1 : ¬ bd.toInt ≤ we.toInt := fun q => h (Int32.le_iff_toInt_le.mpr q)
    rw [if_pos (by rw [Int32.lt_iff_toInt_lt]; omega), if_pos h]
theorem dst_ok (hX : CTX L T P M) (hc : inC P c) {go : Int32} (hg : inC P go) : G_4 M c go = dstP P c go := by
  obtain ⟨x1, y1, _⟩ := hX.2.2.2.2.1 c hc
  obtain ⟨x2, y2, _⟩ := hX.2.2.2.2.1 go hg
  unfold G_4 dstP
  rw [x1, y1, x2, y2, abs_ok, abs_ok]
  show 10 * (if acrP P c go < aloP P c go then aloP P c go else acrP P c go) + 4 * (if aloP P c go < acrP P c go then aloP P c go else acrP P c go) = _
  by_cases h : aloP P c go < acrP P c go
  · rw [if_pos h, if_pos h, if_neg (fun q => by rw [Int32.lt_iff_toInt_lt] at h q; omega)]
  · rw [if_neg h, if_neg h]
    by_cases h2 : acrP P c go < aloP P c go
    · rw [if_pos h2]
    · rw [if_neg h2]
      have : acrP P c go = aloP P c go := Int32.toInt_inj.mp (by rw [Int32.lt_iff_toInt_lt] at h h2; omega)
      rw [this]
theorem toP_rng {here goal : Int32} : ∀ (n : Nat) (d : Int32), 0 ≤ d.toInt → d.toInt + (n : Int) ≤ 1000 → toP P here goal n d = -1 ∨ 0 ≤ (toP P here goal n d).toInt := by
  intro n
  induction n with
  | zero => intro d _ _; exact Or.inl rfl
  | succ n ih =>
    intro d h0 h1
    unfold toP
    split
    · exact Or.inr h0
    · exact ih (d + 1) (by rw [i32_p1 (by omega)]; omega) (by rw [i32_p1 (by omega)]; omega)
/-- WHAT THE LINES ADD (w) -/
theorem weiw_ok {b : Nat} (hb0 : gNth sT b = some 21) (hX : CTX L T P M) {h : Nat} {ha : Int32} (hh : ha.toInt = (h : Int)) (h6 : h < 6) (hc : inC P c) (d0 : 0 ≤ d.toInt) (d1 : d.toInt < 8) (hK : OKv T P M h c) (hn : inC P (zI M b 0)) {al : Bool} (hal : zI M 104 8 = bI al) (hway : -1 ≤ (zI M b 4).toInt) {w : WC} (hw : w = (zI M b 0, w.2.1, zI M b 4, zI M b 3, al)) (H : Ev none e 68 0 [some (.ref 104), some (.ref b), some (.int (256 * ha + c)), some (.int d), some (.int (siQ (T (h + 1)))), none, none] [] M v M' 0 0) : M' = M ∧ v = some (.int (totP (meaQ (T 0) P (T (h + 1)) w c d) (fun m => sumL (T 0) P (T (h + 1)) c m (T (h + 1)).2 0))) := by
  obtain ⟨⟨hS, hL, hT, l1, l2, l3, hC⟩, hwh, hnn, hsx, hgr, ⟨htx, hlw⟩, hhb, hcr⟩ := id hX
  obtain ⟨f1, f2⟩ := ix_av hwh hc hh h6
  obtain ⟨n2, n3, n4, n5⟩ := hnn c hc
  have hlh := (hhb h h6).2
  have e0 : (0 : Int32).toInt = 0 := rfl
  have sv : ∀ m, m < 7 → rI M (oI M 129 (nI m)) (256 * ha + c) = sumL (T 0) P (T (h + 1)) c (nI m) (T (h + 1)).2 0 := fun m hm => by
    rw [oI_sum hsx (nI_toInt (by omega)) hm, rI_n f1]
    exact hK.2 m hm
  obtain ⟨s, es⟩ : ∃ s : Int32 → Int32, s = fun m => sumL (T 0) P (T (h + 1)) c m (T (h + 1)).2 0 := ⟨_, rfl⟩
  have sv : ∀ m, m < 7 → rI M (oI M 129 (nI m)) (256 * ha + c) = s (nI m) := fun m hm => by rw [es]; exact sv m hm
  have snn : ∀ m, 0 ≤ (s m).toInt := fun m => by
    rw [es]
    refine sumL_rng _ (fun l hl h5 => ?_) 0 (by decide) ?_
    · have := (hlh l hl).1
      exact ⟨this.1, (this.2.2.1 h5).1⟩
    · have := (hhb h h6).1.1.2.1
      omega
  rw [← es]
  obtain ⟨a, ea⟩ : ∃ a, a = meaQ (T 0) P (T (h + 1)) w c d := ⟨_, rfl⟩
  rw [← ea]
  have s0 := sv 0 (by decide)
  have s1 := sv 1 (by decide)
  have s2 := sv 2 (by decide)
  have s3 := sv 3 (by decide)
  have s4 := sv 4 (by decide)
  have s5 := sv 5 (by decide)
  have s6 := sv 6 (by decide)
  have r2 : ∀ c2, inC P c2 → rI M (L + 3) c2 = cE P 2 c2 := fun c2 hc2 => hC.at hc2 (f := 2) (by decide)
  have r3 : rI M (L + 4) c = cE P 3 c := hC.at hc (f := 3) (by decide)
  have r4 : rI M (L + 5) c = cE P 4 c := hC.at hc (f := 4) (by decide)
  obtain ⟨b1, b2⟩ := bd_rng hlw
  have z0 : ∀ m, s m ≤ 0 → s m = 0 := fun m q => Int32.toInt_inj.mp (by have := Int32.le_iff_toInt_le.mp q; have := snn m; omega)
  have a0 : a 0 = (if grnB P c = true ∧ ¬ bdQ (T 0) ≤ cE P 3 c then (bdQ (T 0) - cE P 3 c) / 10 else 0) := by rw [ea]; rfl
  have a1 : a 1 = cE P 4 c / 10 := by rw [ea]; rfl
  have a2 : a 2 = absI (cE P 2 c - cE P 2 (zI M b 0)) := by rw [ea, hw]; rfl
  have a3 : a 3 = (if al = true then 0 else crdP P c (P 157).toInt.toNat) := by rw [ea, hw]; rfl
  have a4 : a 4 = (if 0 ≤ zI M b 4 ∧ ¬ zI M b 4 = d then 1 else 0) := by rw [ea, hw]; rfl
  have a5 : a 5 = (if c = zI M b 3 then 1 else 0) := by rw [ea, hw]; rfl
  have a6 : a 6 = seeP (T 0) P d (siQ (T (h + 1))).toInt.toNat c 0 := by rw [ea]; rfl
  have st0 : ∃ wt, wt = s 0 * a 0 ∧ Ev none e 68 72 [some (.ref 104), some (.ref b), some (.int (256 * ha + c)), some (.int d), some (.int (siQ (T (h + 1)))), some (.int c), some (.int wt)] [] M v M' 0 0 := by
    rcases weiw_0 hS hb0 H with ⟨q1, _, _, H⟩ | ⟨_, q1, _, _, H⟩ | ⟨_, q1, _, _, _, _, _, H⟩
    · rw [f2] at H
      rw [show rI M (oI M 129 0) (256 * ha + c) = s 0 from s0] at q1
      refine ⟨_, ?_, H⟩
      rw [z0 0 q1]
      grind
    · rw [f2] at H q1
      rw [hL, g8_ok hX.1 hc, bI_0] at q1
      refine ⟨_, ?_, H⟩
      rw [a0, if_neg (fun q => by rw [q1] at q; cases q.1)]
      grind
    · rw [f2] at H q1
      rw [hL, g8_ok hX.1 hc, bI_0, Bool.not_eq_false] at q1
      refine ⟨_, ?_, H⟩
      rw [hL, r3, l1, grn_a b1 b2 n3, a0, show rI M (oI M 129 0) (256 * ha + c) = s 0 from s0]
      by_cases hb : bdQ (T 0) ≤ cE P 3 c
      · rw [if_neg (fun q => q hb), if_neg (fun q => q.2 hb)]
        grind
      · rw [if_pos hb, if_pos ⟨q1, hb⟩]
        grind
  obtain ⟨w0, ew0, H⟩ := st0
  obtain ⟨_, _, _, _, _, _, _, H⟩ := weiw_72 hS hb0 H
  rw [hL, r4, r2 c hc, r2 _ hn, abs_ok, ← a1, ← a2, show rI M (oI M 129 1) (256 * ha + c) = s 1 from s1, show rI M (oI M 129 2) (256 * ha + c) = s 2 from s2] at H
  have st3 : ∃ wt, wt = w0 + s 1 * a 1 + s 2 * a 2 + s 3 * a 3 ∧ Ev none e 68 174 [some (.ref 104), some (.ref b), some (.int (256 * ha + c)), some (.int d), some (.int (siQ (T (h + 1)))), some (.int c), some (.int wt)] [] M v M' 0 0 := by
    rcases weiw_139 hS hb0 H with ⟨q1, _, _, _, H⟩ | ⟨q1, H⟩
    · rw [hal, bI_0] at q1
      refine ⟨_, ?_, H⟩
      rw [hL, hcr c hc, a3, q1, if_neg (by decide), show rI M (oI M 129 3) (256 * ha + c) = s 3 from s3]
    · rw [hal, bI_0, Bool.not_eq_false] at q1
      refine ⟨_, ?_, H⟩
      rw [a3, q1, if_pos rfl]
      grind
  obtain ⟨w3, ew3, H⟩ := st3
  have st4 : ∃ wt, wt = w3 + s 4 * a 4 ∧ Ev none e 68 207 [some (.ref 104), some (.ref b), some (.int (256 * ha + c)), some (.int d), some (.int (siQ (T (h + 1)))), some (.int c), some (.int wt)] [] M v M' 0 0 := by
    rcases weiw_174 hS hb0 H with ⟨q1, H⟩ | ⟨_, q1, H⟩ | ⟨q1, q2, _, _, H⟩
    · refine ⟨_, ?_, H⟩
      rw [a4, if_neg (fun q => by rw [q1] at q; exact absurd q.1 (by decide))]
      grind
    · refine ⟨_, ?_, H⟩
      rw [a4, if_neg (fun q => q.2 q1)]
      grind
    · refine ⟨_, ?_, H⟩
      have q3 : 0 ≤ zI M b 4 := Int32.le_iff_toInt_le.mpr (by
        have e1 : (-1 : Int32).toInt = -1 := rfl
        have : (zI M b 4).toInt ≠ -1 := fun q => q1 (Int32.toInt_inj.mp (q.trans e1.symm))
        omega)
      rw [a4, if_pos ⟨q3, q2⟩, show rI M (oI M 129 4) (256 * ha + c) = s 4 from s4]
      grind
  obtain ⟨w4, ew4, H⟩ := st4
  have st5 : ∃ wt, wt = w4 + s 5 * a 5 ∧ Ev none e 68 233 [some (.ref 104), some (.ref b), some (.int (256 * ha + c)), some (.int d), some (.int (siQ (T (h + 1)))), some (.int c), some (.int wt)] [] M v M' 0 0 := by
    rcases weiw_207 hS hb0 H with ⟨q1, _, _, H⟩ | ⟨q1, H⟩
    · refine ⟨_, ?_, H⟩
      rw [a5, if_pos q1.symm, show rI M (oI M 129 5) (256 * ha + c) = s 5 from s5]
      grind
    · refine ⟨_, ?_, H⟩
      rw [a5, if_neg (fun q => q1 q.symm)]
      grind
  obtain ⟨w5, ew5, H⟩ := st5
  have fin : ∀ x, x = w5 - s 6 * a 6 → x = totP a s := fun x hx => by
    rw [hx, ew5, ew4, ew3, ew0]
    unfold totP
    rfl
  rcases weiw_233 hS hb0 H with ⟨q1, _, _, H⟩ | ⟨_, _, _, _, _, e1, v1, M1, rfl, H1, H⟩
  · rw [show rI M (oI M 129 6) (256 * ha + c) = s 6 from s6] at q1
    obtain ⟨h1, h2⟩ := weiw_269 hS hb0 H
    refine ⟨h2, ?_⟩
    rw [h1, fin w5 (by rw [z0 6 q1]; grind)]
  · obtain ⟨rfl, rfl⟩ := wha_ok hX d0 d1 hc (si_rng hlh).1 H1
    obtain ⟨h1, h2⟩ := weiw_265 hS hb0 H
    refine ⟨h2, ?_⟩
    have s6' : rI M1 (oI M1 129 6) (256 * ha + c) = s 6 := s6
    rw [s6', ← a6] at h1
    rw [h1, fin _ rfl]
/-- WHAT THE LINES ADD (s) -/
theorem weis_ok (hX : CTX L T P M) {h : Nat} {ha : Int32} (hh : ha.toInt = (h : Int)) (h6 : h < 6) (hc : inC P c) (d0 : 0 ≤ d.toInt) (d1 : d.toInt < 8) (hK : OKv T P M h c) (hn : inC P (zI M 137 0)) {al : Bool} (hal : zI M 104 8 = bI al) (hway : -1 ≤ (zI M 137 4).toInt) {w : WC} (hw : w = (zI M 137 0, w.2.1, zI M 137 4, zI M 137 3, al)) (H : Ev none e 68 0 [some (.ref 104), some (.ref 137), some (.int (256 * ha + c)), some (.int d), some (.int (siQ (T (h + 1)))), none, none] [] M v M' 0 0) : M' = M ∧ v = some (.int (totP (meaQ (T 0) P (T (h + 1)) w c d) (fun m => sumL (T 0) P (T (h + 1)) c m (T (h + 1)).2 0))) := by
  obtain ⟨⟨hS, hL, hT, l1, l2, l3, hC⟩, hwh, hnn, hsx, hgr, ⟨htx, hlw⟩, hhb, hcr⟩ := id hX
  obtain ⟨f1, f2⟩ := ix_av hwh hc hh h6
  obtain ⟨n2, n3, n4, n5⟩ := hnn c hc
  have hlh := (hhb h h6).2
  have e0 : (0 : Int32).toInt = 0 := rfl
  have sv : ∀ m, m < 7 → rI M (oI M 129 (nI m)) (256 * ha + c) = sumL (T 0) P (T (h + 1)) c (nI m) (T (h + 1)).2 0 := fun m hm => by
    rw [oI_sum hsx (nI_toInt (by omega)) hm, rI_n f1]
    exact hK.2 m hm
  obtain ⟨s, es⟩ : ∃ s : Int32 → Int32, s = fun m => sumL (T 0) P (T (h + 1)) c m (T (h + 1)).2 0 := ⟨_, rfl⟩
  have sv : ∀ m, m < 7 → rI M (oI M 129 (nI m)) (256 * ha + c) = s (nI m) := fun m hm => by rw [es]; exact sv m hm
  have snn : ∀ m, 0 ≤ (s m).toInt := fun m => by
    rw [es]
    refine sumL_rng _ (fun l hl h5 => ?_) 0 (by decide) ?_
    · have := (hlh l hl).1
      exact ⟨this.1, (this.2.2.1 h5).1⟩
    · have := (hhb h h6).1.1.2.1
      omega
  rw [← es]
  obtain ⟨a, ea⟩ : ∃ a, a = meaQ (T 0) P (T (h + 1)) w c d := ⟨_, rfl⟩
  rw [← ea]
  have s0 := sv 0 (by decide)
  have s1 := sv 1 (by decide)
  have s2 := sv 2 (by decide)
  have s3 := sv 3 (by decide)
  have s4 := sv 4 (by decide)
  have s5 := sv 5 (by decide)
  have s6 := sv 6 (by decide)
  have r2 : ∀ c2, inC P c2 → rI M (L + 3) c2 = cE P 2 c2 := fun c2 hc2 => hC.at hc2 (f := 2) (by decide)
  have r3 : rI M (L + 4) c = cE P 3 c := hC.at hc (f := 3) (by decide)
  have r4 : rI M (L + 5) c = cE P 4 c := hC.at hc (f := 4) (by decide)
  obtain ⟨b1, b2⟩ := bd_rng hlw
  have z0 : ∀ m, s m ≤ 0 → s m = 0 := fun m q => Int32.toInt_inj.mp (by have := Int32.le_iff_toInt_le.mp q; have := snn m; omega)
  have a0 : a 0 = (if grnB P c = true ∧ ¬ bdQ (T 0) ≤ cE P 3 c then (bdQ (T 0) - cE P 3 c) / 10 else 0) := by rw [ea]; rfl
  have a1 : a 1 = cE P 4 c / 10 := by rw [ea]; rfl
  have a2 : a 2 = absI (cE P 2 c - cE P 2 (zI M 137 0)) := by rw [ea, hw]; rfl
  have a3 : a 3 = (if al = true then 0 else crdP P c (P 157).toInt.toNat) := by rw [ea, hw]; rfl
  have a4 : a 4 = (if 0 ≤ zI M 137 4 ∧ ¬ zI M 137 4 = d then 1 else 0) := by rw [ea, hw]; rfl
  have a5 : a 5 = (if c = zI M 137 3 then 1 else 0) := by rw [ea, hw]; rfl
  have a6 : a 6 = seeP (T 0) P d (siQ (T (h + 1))).toInt.toNat c 0 := by rw [ea]; rfl
  have st0 : ∃ wt, wt = s 0 * a 0 ∧ Ev none e 68 72 [some (.ref 104), some (.ref 137), some (.int (256 * ha + c)), some (.int d), some (.int (siQ (T (h + 1)))), some (.int c), some (.int wt)] [] M v M' 0 0 := by
    rcases weis_0 hS H with ⟨q1, _, _, H⟩ | ⟨_, q1, _, _, H⟩ | ⟨_, q1, _, _, _, _, _, H⟩
    · rw [f2] at H
      rw [show rI M (oI M 129 0) (256 * ha + c) = s 0 from s0] at q1
      refine ⟨_, ?_, H⟩
      rw [z0 0 q1]
      grind
    · rw [f2] at H q1
      rw [hL, g8_ok hX.1 hc, bI_0] at q1
      refine ⟨_, ?_, H⟩
      rw [a0, if_neg (fun q => by rw [q1] at q; cases q.1)]
      grind
    · rw [f2] at H q1
      rw [hL, g8_ok hX.1 hc, bI_0, Bool.not_eq_false] at q1
      refine ⟨_, ?_, H⟩
      rw [hL, r3, l1, grn_a b1 b2 n3, a0, show rI M (oI M 129 0) (256 * ha + c) = s 0 from s0]
      by_cases hb : bdQ (T 0) ≤ cE P 3 c
      · rw [if_neg (fun q => q hb), if_neg (fun q => q.2 hb)]
        grind
      · rw [if_pos hb, if_pos ⟨q1, hb⟩]
        grind
  obtain ⟨w0, ew0, H⟩ := st0
  obtain ⟨_, _, _, _, _, _, _, H⟩ := weis_72 hS H
  rw [hL, r4, r2 c hc, r2 _ hn, abs_ok, ← a1, ← a2, show rI M (oI M 129 1) (256 * ha + c) = s 1 from s1, show rI M (oI M 129 2) (256 * ha + c) = s 2 from s2] at H
  have st3 : ∃ wt, wt = w0 + s 1 * a 1 + s 2 * a 2 + s 3 * a 3 ∧ Ev none e 68 174 [some (.ref 104), some (.ref 137), some (.int (256 * ha + c)), some (.int d), some (.int (siQ (T (h + 1)))), some (.int c), some (.int wt)] [] M v M' 0 0 := by
    rcases weis_139 hS H with ⟨q1, _, _, _, H⟩ | ⟨q1, H⟩
    · rw [hal, bI_0] at q1
      refine ⟨_, ?_, H⟩
      rw [hL, hcr c hc, a3, q1, if_neg (by decide), show rI M (oI M 129 3) (256 * ha + c) = s 3 from s3]
    · rw [hal, bI_0, Bool.not_eq_false] at q1
      refine ⟨_, ?_, H⟩
      rw [a3, q1, if_pos rfl]
      grind
  obtain ⟨w3, ew3, H⟩ := st3
  have st4 : ∃ wt, wt = w3 + s 4 * a 4 ∧ Ev none e 68 207 [some (.ref 104), some (.ref 137), some (.int (256 * ha + c)), some (.int d), some (.int (siQ (T (h + 1)))), some (.int c), some (.int wt)] [] M v M' 0 0 := by
    rcases weis_174 hS H with ⟨q1, H⟩ | ⟨_, q1, H⟩ | ⟨q1, q2, _, _, H⟩
    · refine ⟨_, ?_, H⟩
      rw [a4, if_neg (fun q => by rw [q1] at q; exact absurd q.1 (by decide))]
      grind
    · refine ⟨_, ?_, H⟩
      rw [a4, if_neg (fun q => q.2 q1)]
      grind
    · refine ⟨_, ?_, H⟩
      have q3 : 0 ≤ zI M 137 4 := Int32.le_iff_toInt_le.mpr (by
        have e1 : (-1 : Int32).toInt = -1 := rfl
        have : (zI M 137 4).toInt ≠ -1 := fun q => q1 (Int32.toInt_inj.mp (q.trans e1.symm))
        omega)
      rw [a4, if_pos ⟨q3, q2⟩, show rI M (oI M 129 4) (256 * ha + c) = s 4 from s4]
      grind
  obtain ⟨w4, ew4, H⟩ := st4
  have st5 : ∃ wt, wt = w4 + s 5 * a 5 ∧ Ev none e 68 233 [some (.ref 104), some (.ref 137), some (.int (256 * ha + c)), some (.int d), some (.int (siQ (T (h + 1)))), some (.int c), some (.int wt)] [] M v M' 0 0 := by
    rcases weis_207 hS H with ⟨q1, _, _, H⟩ | ⟨q1, H⟩
    · refine ⟨_, ?_, H⟩
      rw [a5, if_pos q1.symm, show rI M (oI M 129 5) (256 * ha + c) = s 5 from s5]
      grind
    · refine ⟨_, ?_, H⟩
      rw [a5, if_neg (fun q => q1 q.symm)]
      grind
  obtain ⟨w5, ew5, H⟩ := st5
  have fin : ∀ x, x = w5 - s 6 * a 6 → x = totP a s := fun x hx => by
    rw [hx, ew5, ew4, ew3, ew0]
    unfold totP
    rfl
  rcases weis_233 hS H with ⟨q1, _, _, H⟩ | ⟨_, _, _, _, _, e1, v1, M1, rfl, H1, H⟩
  · rw [show rI M (oI M 129 6) (256 * ha + c) = s 6 from s6] at q1
    obtain ⟨h1, h2⟩ := weis_269 hS H
    refine ⟨h2, ?_⟩
    rw [h1, fin w5 (by rw [z0 6 q1]; grind)]
  · obtain ⟨rfl, rfl⟩ := wha_ok hX d0 d1 hc (si_rng hlh).1 H1
    obtain ⟨h1, h2⟩ := weis_265 hS H
    refine ⟨h2, ?_⟩
    have s6' : rI M1 (oI M1 129 6) (256 * ha + c) = s 6 := s6
    rw [s6', ← a6] at h1
    rw [h1, fin _ rfl]
/-- WHERE A WALKER GOES (w) -/
theorem wtow_loop (hX : CTX L T P M) {here go : Int32} (hc : inC P here) : ∀ (n k : Nat) (d : Int32), d.toInt = (k : Int) → k + n = 8 → Ev none e 3 2 [some (.ref 105), some (.int here), some (.int go), some (.int d)] [] M v M' 0 0 → M' = M ∧ v = some (.int (toP P here go n d)) := by
  have hS := hX.1.1
  have e8 : (8 : Int32).toInt = 8 := rfl
  intro n
  induction n with
  | zero =>
    intro k d hd hk H
    rcases wto_2 hS H with ⟨_, h1, h2⟩ | ⟨a1, _⟩ | ⟨a1, _⟩
    · exact ⟨h2, h1⟩
    all_goals exact absurd (Int32.le_iff_toInt_le.mpr (by omega)) a1
  | succ n ih =>
    intro k d hd hk H
    have hb := (hX.2.2.2.2.1 here hc).2.2 d (by omega) (by omega)
    unfold toP
    rcases wto_2 hS H with ⟨a1, _⟩ | ⟨_, a2, _, h1, h2⟩ | ⟨_, a2, _, H⟩
    · have := Int32.le_iff_toInt_le.mp a1
      omega
    · rw [hb] at a2
      rw [if_pos a2]
      exact ⟨h2, h1⟩
    · rw [hb] at a2
      rw [if_neg a2]
      exact ih (k + 1) (d + 1) (by rw [i32_p1 (by omega)]; omega) (by omega) H
theorem chow_loop {b : Nat} (hb0 : gNth sT b = some 21) {h : Nat} {ha go : Int32} (hh : ha.toInt = (h : Int)) (h6 : h < 6) (hgo : inC P go) {al : Bool} {w : WC} : ∀ (n k : Nat) (M : Mem) (be le d : Int32) (c7 c8 c9 : Option Value), CTX L T P M → VC T P M → inC P (zI M b 0) → zI M 104 8 = bI al → -1 ≤ (zI M b 4).toInt → w = (zI M b 0, go, zI M b 4, zI M b 3, al) → d.toInt = (k : Int) → k + n = 8 → -1 ≤ be.toInt → Ev none e 66 29 [some (.ref 104), some (.ref b), some (.int go), some (.int ha), some (.int be), some (.int le), some (.int d), c7, c8, c9] [] M v M' 0 0 → v = some (.int (bstP (T 0) P (T (h + 1)) w n d be le)) ∧ SQ M' ∧ FZ noF lkW noO M M' ∧ VC T P M' := by
  have e8 : (8 : Int32).toInt = 8 := rfl
  have e0 : (0 : Int32).toInt = 0 := rfl
  have em : (-1 : Int32).toInt = -1 := rfl
  intro n
  induction n with
  | zero =>
    intro k M be le d c7 c8 c9 hX hV hi hal hwy hw hd hk hbe H
    have hS := hX.1.1
    rcases chow_29 hS hb0 H with ⟨_, h1, h2⟩ | ⟨a1, _⟩ | ⟨a1, _⟩ | ⟨a1, _⟩ | ⟨a1, _⟩
    · subst h2
      exact ⟨h1, hS, FZ.refl _, hV⟩
    all_goals exact absurd (Int32.le_iff_toInt_le.mpr (by omega)) a1
  | succ n ih =>
    intro k M be le d c7 c8 c9 hX hV hi hal hwy hw hd hk hbe H
    have hS := hX.1.1
    have hL := hX.1.2.1
    have hwh := hX.2.1
    have d0 : 0 ≤ d.toInt := by omega
    have d1 : d.toInt < 8 := by omega
    have hb := (hX.2.2.2.2.1 _ hi).2.2 d d0 d1
    have hd1 : (d + 1).toInt = ((k + 1 : Nat) : Int) := by
      rw [i32_p1 (by omega)]
      omega
    have hlw := fun l hl h5 => ((((hX.2.2.2.2.2.2.1 h h6).2 l hl).1).2.2.1 h5).2
    have w1 : w.1 = zI M b 0 := by rw [hw]
    have w2 : w.2.1 = go := by rw [hw]
    unfold bstP
    rw [w1]
    have bes := besP_in (d := d) hwh hi
    have skip : ∀ c7 c8 c9 M2, badB (T 0) P (T (h + 1)) (besP P (zI M b 0) d) = true → CTX L T P M2 → VC T P M2 → SQ M2 → FZ noF lkW noO M M2 → Ev none e 66 29 [some (.ref 104), some (.ref b), some (.int go), some (.int ha), some (.int be), some (.int le), some (.int (d + 1)), c7, c8, c9] [] M2 v M' 0 0 → v = some (.int (if badB (T 0) P (T (h + 1)) (besP P (zI M b 0) d) = true ∨ (0 ≤ be ∧ le ≤ weiP (T 0) P (T (h + 1)) w (besP P (zI M b 0) d) d) then bstP (T 0) P (T (h + 1)) w n (d + 1) be le else bstP (T 0) P (T (h + 1)) w n (d + 1) d (weiP (T 0) P (T (h + 1)) w (besP P (zI M b 0) d) d))) ∧ SQ M' ∧ FZ noF lkW noO M M' ∧ VC T P M' := fun c7 c8 c9 M2 hbad hX2 hV2 hS2 hF2 H => by
      rw [if_pos (Or.inl hbad)]
      have z : ∀ k, zI M2 b k = zI M b k := fun k => hF2.fi (fun q => q)
      obtain ⟨r1, r2, r3, r4⟩ := ih (k + 1) M2 be le (d + 1) c7 c8 c9 hX2 hV2 (by rw [z]; exact hi) (by rw [hF2.fi (fun q => q)]; exact hal) (by rw [z]; exact hwy) (by rw [z, z, z]; exact hw) hd1 (by omega) hbe H
      exact ⟨r1, r2, hF2.trans r3, r4⟩
    have look : ∀ c9 M2, ¬ besP P (zI M b 0) d = -1 → opnB P (besP P (zI M b 0) d) = true → CTX L T P M2 → VC T P M2 → SQ M2 → FZ noF lkW noO M M2 → OKv T P M2 h (besP P (zI M b 0) d) → Ev none e 66 112 [some (.ref 104), some (.ref b), some (.int go), some (.int ha), some (.int be), some (.int le), some (.int d), some (.int (besP P (zI M b 0) d)), some (.int (256 * ha + besP P (zI M b 0) d)), c9] [] M2 v M' 0 0 → v = some (.int (if badB (T 0) P (T (h + 1)) (besP P (zI M b 0) d) = true ∨ (0 ≤ be ∧ le ≤ weiP (T 0) P (T (h + 1)) w (besP P (zI M b 0) d) d) then bstP (T 0) P (T (h + 1)) w n (d + 1) be le else bstP (T 0) P (T (h + 1)) w n (d + 1) d (weiP (T 0) P (T (h + 1)) w (besP P (zI M b 0) d) d))) ∧ SQ M' ∧ FZ noF lkW noO M M' ∧ VC T P M' := fun c9 M2 hne hop hX2 hV2 hS2 hF2 hK H => by
      have hc : inC P (besP P (zI M b 0) d) := bes.elim (fun q => absurd q hne) id
      obtain ⟨c, ec⟩ : ∃ c, c = besP P (zI M b 0) d := ⟨_, rfl⟩
      rw [← ec] at hc hop hK H skip ⊢
      have z : ∀ k, zI M2 b k = zI M b k := fun k => hF2.fi (fun q => q)
      have hcn : ¬ c < 0 := fun q => by rw [i32_z] at q; have := hc.1; omega
      obtain ⟨f1, f2⟩ := ix_av hwh hc hh h6
      have hvd : rI M2 128 (256 * ha + c) = bI (nevL (T 0) P (T (h + 1)) c (T (h + 1)).2) := by
        rw [rI_n f1]
        exact hK.1
      rcases chow_112 hS2 hb0 H with ⟨a1, _, H⟩ | ⟨a1, _, _, e1, v1, M3, rfl, H1, H⟩
      · rw [hvd, bI_1] at a1
        exact skip _ _ _ M2 (by unfold badB; rw [a1, Bool.or_true, Bool.or_true]) hX2 hV2 hS2 hF2 H
      · rw [hvd, bI_1, Bool.not_eq_true] at a1
        have hbad : badB (T 0) P (T (h + 1)) c = false := by
          unfold badB
          rw [a1, hop, decide_eq_false hcn]
          rfl
        have hsi : zI M2 (oI M2 109 ha) 13 = siQ (T (h + 1)) := by
          unfold oI
          rw [cl_n hh]
          exact (hX2.2.2.2.2.2.2.1 h h6).1.2.2.2.2.2
        rw [hsi] at H1
        obtain ⟨rfl, rfl⟩ := weiw_ok hb0 hX2 hh h6 hc d0 d1 hK (by rw [z]; exact hi) (by rw [hF2.fi (fun q => q)]; exact hal) (by rw [z]; exact hwy) (w := w) (by rw [z, z, z, w2]; exact hw) H1
        have hds : G_4 M3 c go = dstP P c w.2.1 := by rw [w2]; exact dst_ok hX2 hc hgo
        have hwt := wei_tot (g := T 0) (P := P) (q := T (h + 1)) (c := c) (d := d) (w := w) hlw
        rw [hds] at H
        rw [hwt]
        have cont : ∀ (b2 l2 : Int32) (c7 c8 c9 : Option Value), -1 ≤ b2.toInt → Ev none (e1 + 1) 66 29 [some (.ref 104), some (.ref b), some (.int go), some (.int ha), some (.int b2), some (.int l2), some (.int (d + 1)), c7, c8, c9] [] M3 v M' 0 0 → v = some (.int (bstP (T 0) P (T (h + 1)) w n (d + 1) b2 l2)) ∧ SQ M' ∧ FZ noF lkW noO M M' ∧ VC T P M' := fun b2 l2 c7 c8 c9 hb2 H => by
          obtain ⟨r1, r2, r3, r4⟩ := ih (k + 1) M3 b2 l2 (d + 1) c7 c8 c9 hX2 hV2 (by rw [z]; exact hi) (by rw [hF2.fi (fun q => q)]; exact hal) (by rw [z]; exact hwy) (by rw [z, z, z]; exact hw) hd1 (by omega) hb2 H
          exact ⟨r1, r2, hF2.trans r3, r4⟩
        rcases chow_154 hS2 hb0 H with ⟨a2, H⟩ | ⟨a2, a3, H⟩ | ⟨a2, a3, H⟩
        · rw [if_neg (fun q => q.elim (fun q => by rw [hbad] at q; cases q) (fun q => by rw [a2] at q; exact absurd q.1 (by decide)))]
          exact cont d _ _ _ _ (by omega) H
        · rw [if_pos (Or.inr ⟨Int32.le_iff_toInt_le.mpr (by have : be.toInt ≠ -1 := fun q => a2 (Int32.toInt_inj.mp (q.trans em.symm)); omega), a3⟩)]
          exact cont be le _ _ _ hbe H
        · rw [if_neg (fun q => q.elim (fun q => by rw [hbad] at q; cases q) (fun q => a3 q.2))]
          exact cont d _ _ _ _ (by omega) H
    rcases chow_29 hS hb0 H with ⟨a1, _⟩ | ⟨_, a2, _, H⟩ | ⟨_, a2, a3, _, H⟩ | ⟨_, a2, a3, a4, _, _, _, e1, v1, M1, rfl, H1, H⟩ | ⟨_, a2, a3, a4, _, _, H⟩
    · have := Int32.le_iff_toInt_le.mp a1
      omega
    · rw [hb] at a2
      exact skip _ _ _ M (by unfold badB; rw [a2, decide_eq_true (by decide), Bool.true_or]) hX hV hS (FZ.refl _) H
    · rw [hb] at a2 a3
      have hc := bes.elim (fun q => absurd q a2) id
      rw [hL, g7_ok hX.1 hc, bI_0] at a3
      exact skip _ _ _ M (by unfold badB; rw [a3, Bool.not_false, Bool.true_or, Bool.or_true]) hX hV hS (FZ.refl _) H
    · rw [hb] at a2 a3 H1 H
      have hc := bes.elim (fun q => absurd q a2) id
      rw [hL, g7_ok hX.1 hc, bI_0, Bool.not_eq_false] at a3
      have ho : oI M 109 ha = oN M 109 h := by
        unfold oI
        rw [cl_n hh]
      rw [ho] at H1
      obtain ⟨rfl, q2, q3, q4, q5⟩ := look_ok hX h6 hc (ix_av hwh hc hh h6).1 H1
      exact look _ M1 a2 a3 (hX.lk q2 q3) (hV.look hwh q4 q5 hc h6) q2 q3 q5 H
    · rw [hb] at a2 a3 a4 H
      have hc := bes.elim (fun q => absurd q a2) id
      rw [hL, g7_ok hX.1 hc, bI_0, Bool.not_eq_false] at a3
      rw [rI_n (ix_av hwh hc hh h6).1] at a4
      rcases hV h _ h6 hc with q | q
      · exact absurd q a4
      · exact look _ M a2 a3 hX hV hS (FZ.refl _) q H
theorem chow_ok {b : Nat} (hb0 : gNth sT b = some 21) (hX : CTX L T P M) (hV : VC T P M) {h : Nat} {ha go : Int32} (hh : ha.toInt = (h : Int)) (h6 : h < 6) (hgo : inC P go) {al : Bool} (hi : inC P (zI M b 0)) (hal : zI M 104 8 = bI al) (hwy : -1 ≤ (zI M b 4).toInt) (H : Ev none e 66 0 [some (.ref 104), some (.ref b), some (.int go), some (.int ha), none, none, none, none, none, none] [] M v M' 0 0) : v = some (.int (choP (T 0) P (T (h + 1)) (zI M b 0, go, zI M b 4, zI M b 3, al))) ∧ SQ M' ∧ FZ noF lkW noO M M' ∧ VC T P M' := by
  have hS := hX.1.1
  obtain ⟨e1, v1, M1, rfl, H1, H⟩ := chow_0 hS hb0 H
  obtain ⟨rfl, rfl⟩ := wtow_loop hX hi 8 0 0 rfl rfl (wto_0 hS H1)
  unfold choP
  have ht := toP_rng (P := P) (here := zI M1 b 0) (goal := go) 8 0 (by decide) (by decide)
  rcases chow_12 hS hb0 H with ⟨a1, H⟩ | ⟨a1, h1, h2⟩
  · rw [if_pos (by rw [a1]; decide)]
    rw [a1] at H
    exact chow_loop hb0 hh h6 hgo 8 0 M1 (-1) 0 0 none none none hX hV hi hal hwy rfl rfl rfl (by decide) H
  · rw [if_neg (fun q => by
      have e : (0 : Int32).toInt = 0 := rfl
      rcases ht with q2 | q2
      · exact a1 q2
      · have q : toP P (zI M1 b 0) go 8 0 < 0 := q
        rw [i32_z] at q
        omega)]
    subst h2
    exact ⟨h1, hS, FZ.refl _, hV⟩
theorem chos_loop {h : Nat} {ha go : Int32} (hh : ha.toInt = (h : Int)) (h6 : h < 6) (hgo : inC P go) {al : Bool} {w : WC} : ∀ (n k : Nat) (M : Mem) (be le d : Int32) (c7 c8 c9 : Option Value), CTX L T P M → VC T P M → inC P (zI M 137 0) → zI M 104 8 = bI al → -1 ≤ (zI M 137 4).toInt → w = (zI M 137 0, go, zI M 137 4, zI M 137 3, al) → d.toInt = (k : Int) → k + n = 8 → -1 ≤ be.toInt → Ev none e 66 29 [some (.ref 104), some (.ref 137), some (.int go), some (.int ha), some (.int be), some (.int le), some (.int d), c7, c8, c9] [] M v M' 0 0 → v = some (.int (bstP (T 0) P (T (h + 1)) w n d be le)) ∧ SQ M' ∧ FZ noF lkW noO M M' ∧ VC T P M' := by
  have e8 : (8 : Int32).toInt = 8 := rfl
  have e0 : (0 : Int32).toInt = 0 := rfl
  have em : (-1 : Int32).toInt = -1 := rfl
  intro n
  induction n with
  | zero =>
    intro k M be le d c7 c8 c9 hX hV hi hal hwy hw hd hk hbe H
    have hS := hX.1.1
    rcases chos_29 hS H with ⟨_, h1, h2⟩ | ⟨a1, _⟩ | ⟨a1, _⟩ | ⟨a1, _⟩ | ⟨a1, _⟩
    · subst h2
      exact ⟨h1, hS, FZ.refl _, hV⟩
    all_goals exact absurd (Int32.le_iff_toInt_le.mpr (by omega)) a1
  | succ n ih =>
    intro k M be le d c7 c8 c9 hX hV hi hal hwy hw hd hk hbe H
    have hS := hX.1.1
    have hL := hX.1.2.1
    have hwh := hX.2.1
    have d0 : 0 ≤ d.toInt := by omega
    have d1 : d.toInt < 8 := by omega
    have hb := (hX.2.2.2.2.1 _ hi).2.2 d d0 d1
    have hd1 : (d + 1).toInt = ((k + 1 : Nat) : Int) := by
      rw [i32_p1 (by omega)]
      omega
    have hlw := fun l hl h5 => ((((hX.2.2.2.2.2.2.1 h h6).2 l hl).1).2.2.1 h5).2
    have w1 : w.1 = zI M 137 0 := by rw [hw]
    have w2 : w.2.1 = go := by rw [hw]
    unfold bstP
    rw [w1]
    have bes := besP_in (d := d) hwh hi
    have skip : ∀ c7 c8 c9 M2, badB (T 0) P (T (h + 1)) (besP P (zI M 137 0) d) = true → CTX L T P M2 → VC T P M2 → SQ M2 → FZ noF lkW noO M M2 → Ev none e 66 29 [some (.ref 104), some (.ref 137), some (.int go), some (.int ha), some (.int be), some (.int le), some (.int (d + 1)), c7, c8, c9] [] M2 v M' 0 0 → v = some (.int (if badB (T 0) P (T (h + 1)) (besP P (zI M 137 0) d) = true ∨ (0 ≤ be ∧ le ≤ weiP (T 0) P (T (h + 1)) w (besP P (zI M 137 0) d) d) then bstP (T 0) P (T (h + 1)) w n (d + 1) be le else bstP (T 0) P (T (h + 1)) w n (d + 1) d (weiP (T 0) P (T (h + 1)) w (besP P (zI M 137 0) d) d))) ∧ SQ M' ∧ FZ noF lkW noO M M' ∧ VC T P M' := fun c7 c8 c9 M2 hbad hX2 hV2 hS2 hF2 H => by
      rw [if_pos (Or.inl hbad)]
      have z : ∀ k, zI M2 137 k = zI M 137 k := fun k => hF2.fi (fun q => q)
      obtain ⟨r1, r2, r3, r4⟩ := ih (k + 1) M2 be le (d + 1) c7 c8 c9 hX2 hV2 (by rw [z]; exact hi) (by rw [hF2.fi (fun q => q)]; exact hal) (by rw [z]; exact hwy) (by rw [z, z, z]; exact hw) hd1 (by omega) hbe H
      exact ⟨r1, r2, hF2.trans r3, r4⟩
    have look : ∀ c9 M2, ¬ besP P (zI M 137 0) d = -1 → opnB P (besP P (zI M 137 0) d) = true → CTX L T P M2 → VC T P M2 → SQ M2 → FZ noF lkW noO M M2 → OKv T P M2 h (besP P (zI M 137 0) d) → Ev none e 66 112 [some (.ref 104), some (.ref 137), some (.int go), some (.int ha), some (.int be), some (.int le), some (.int d), some (.int (besP P (zI M 137 0) d)), some (.int (256 * ha + besP P (zI M 137 0) d)), c9] [] M2 v M' 0 0 → v = some (.int (if badB (T 0) P (T (h + 1)) (besP P (zI M 137 0) d) = true ∨ (0 ≤ be ∧ le ≤ weiP (T 0) P (T (h + 1)) w (besP P (zI M 137 0) d) d) then bstP (T 0) P (T (h + 1)) w n (d + 1) be le else bstP (T 0) P (T (h + 1)) w n (d + 1) d (weiP (T 0) P (T (h + 1)) w (besP P (zI M 137 0) d) d))) ∧ SQ M' ∧ FZ noF lkW noO M M' ∧ VC T P M' := fun c9 M2 hne hop hX2 hV2 hS2 hF2 hK H => by
      have hc : inC P (besP P (zI M 137 0) d) := bes.elim (fun q => absurd q hne) id
      obtain ⟨c, ec⟩ : ∃ c, c = besP P (zI M 137 0) d := ⟨_, rfl⟩
      rw [← ec] at hc hop hK H skip ⊢
      have z : ∀ k, zI M2 137 k = zI M 137 k := fun k => hF2.fi (fun q => q)
      have hcn : ¬ c < 0 := fun q => by rw [i32_z] at q; have := hc.1; omega
      obtain ⟨f1, f2⟩ := ix_av hwh hc hh h6
      have hvd : rI M2 128 (256 * ha + c) = bI (nevL (T 0) P (T (h + 1)) c (T (h + 1)).2) := by
        rw [rI_n f1]
        exact hK.1
      rcases chos_112 hS2 H with ⟨a1, _, H⟩ | ⟨a1, _, _, e1, v1, M3, rfl, H1, H⟩
      · rw [hvd, bI_1] at a1
        exact skip _ _ _ M2 (by unfold badB; rw [a1, Bool.or_true, Bool.or_true]) hX2 hV2 hS2 hF2 H
      · rw [hvd, bI_1, Bool.not_eq_true] at a1
        have hbad : badB (T 0) P (T (h + 1)) c = false := by
          unfold badB
          rw [a1, hop, decide_eq_false hcn]
          rfl
        have hsi : zI M2 (oI M2 109 ha) 13 = siQ (T (h + 1)) := by
          unfold oI
          rw [cl_n hh]
          exact (hX2.2.2.2.2.2.2.1 h h6).1.2.2.2.2.2
        rw [hsi] at H1
        obtain ⟨rfl, rfl⟩ := weis_ok hX2 hh h6 hc d0 d1 hK (by rw [z]; exact hi) (by rw [hF2.fi (fun q => q)]; exact hal) (by rw [z]; exact hwy) (w := w) (by rw [z, z, z, w2]; exact hw) H1
        have hds : G_4 M3 c go = dstP P c w.2.1 := by rw [w2]; exact dst_ok hX2 hc hgo
        have hwt := wei_tot (g := T 0) (P := P) (q := T (h + 1)) (c := c) (d := d) (w := w) hlw
        rw [hds] at H
        rw [hwt]
        have cont : ∀ (b2 l2 : Int32) (c7 c8 c9 : Option Value), -1 ≤ b2.toInt → Ev none (e1 + 1) 66 29 [some (.ref 104), some (.ref 137), some (.int go), some (.int ha), some (.int b2), some (.int l2), some (.int (d + 1)), c7, c8, c9] [] M3 v M' 0 0 → v = some (.int (bstP (T 0) P (T (h + 1)) w n (d + 1) b2 l2)) ∧ SQ M' ∧ FZ noF lkW noO M M' ∧ VC T P M' := fun b2 l2 c7 c8 c9 hb2 H => by
          obtain ⟨r1, r2, r3, r4⟩ := ih (k + 1) M3 b2 l2 (d + 1) c7 c8 c9 hX2 hV2 (by rw [z]; exact hi) (by rw [hF2.fi (fun q => q)]; exact hal) (by rw [z]; exact hwy) (by rw [z, z, z]; exact hw) hd1 (by omega) hb2 H
          exact ⟨r1, r2, hF2.trans r3, r4⟩
        rcases chos_154 hS2 H with ⟨a2, H⟩ | ⟨a2, a3, H⟩ | ⟨a2, a3, H⟩
        · rw [if_neg (fun q => q.elim (fun q => by rw [hbad] at q; cases q) (fun q => by rw [a2] at q; exact absurd q.1 (by decide)))]
          exact cont d _ _ _ _ (by omega) H
        · rw [if_pos (Or.inr ⟨Int32.le_iff_toInt_le.mpr (by have : be.toInt ≠ -1 := fun q => a2 (Int32.toInt_inj.mp (q.trans em.symm)); omega), a3⟩)]
          exact cont be le _ _ _ hbe H
        · rw [if_neg (fun q => q.elim (fun q => by rw [hbad] at q; cases q) (fun q => a3 q.2))]
          exact cont d _ _ _ _ (by omega) H
    rcases chos_29 hS H with ⟨a1, _⟩ | ⟨_, a2, _, H⟩ | ⟨_, a2, a3, _, H⟩ | ⟨_, a2, a3, a4, _, _, _, e1, v1, M1, rfl, H1, H⟩ | ⟨_, a2, a3, a4, _, _, H⟩
    · have := Int32.le_iff_toInt_le.mp a1
      omega
    · rw [hb] at a2
      exact skip _ _ _ M (by unfold badB; rw [a2, decide_eq_true (by decide), Bool.true_or]) hX hV hS (FZ.refl _) H
    · rw [hb] at a2 a3
      have hc := bes.elim (fun q => absurd q a2) id
      rw [hL, g7_ok hX.1 hc, bI_0] at a3
      exact skip _ _ _ M (by unfold badB; rw [a3, Bool.not_false, Bool.true_or, Bool.or_true]) hX hV hS (FZ.refl _) H
    · rw [hb] at a2 a3 H1 H
      have hc := bes.elim (fun q => absurd q a2) id
      rw [hL, g7_ok hX.1 hc, bI_0, Bool.not_eq_false] at a3
      have ho : oI M 109 ha = oN M 109 h := by
        unfold oI
        rw [cl_n hh]
      rw [ho] at H1
      obtain ⟨rfl, q2, q3, q4, q5⟩ := look_ok hX h6 hc (ix_av hwh hc hh h6).1 H1
      exact look _ M1 a2 a3 (hX.lk q2 q3) (hV.look hwh q4 q5 hc h6) q2 q3 q5 H
    · rw [hb] at a2 a3 a4 H
      have hc := bes.elim (fun q => absurd q a2) id
      rw [hL, g7_ok hX.1 hc, bI_0, Bool.not_eq_false] at a3
      rw [rI_n (ix_av hwh hc hh h6).1] at a4
      rcases hV h _ h6 hc with q | q
      · exact absurd q a4
      · exact look _ M a2 a3 hX hV hS (FZ.refl _) q H
theorem chos_ok (hX : CTX L T P M) (hV : VC T P M) {h : Nat} {ha go : Int32} (hh : ha.toInt = (h : Int)) (h6 : h < 6) (hgo : inC P go) {al : Bool} (hi : inC P (zI M 137 0)) (hal : zI M 104 8 = bI al) (hwy : -1 ≤ (zI M 137 4).toInt) (H : Ev none e 66 0 [some (.ref 104), some (.ref 137), some (.int go), some (.int ha), none, none, none, none, none, none] [] M v M' 0 0) : v = some (.int (choP (T 0) P (T (h + 1)) (zI M 137 0, go, zI M 137 4, zI M 137 3, al))) ∧ SQ M' ∧ FZ noF lkW noO M M' ∧ VC T P M' := by
  have hS := hX.1.1
  obtain ⟨e1, v1, M1, rfl, H1, H⟩ := chos_0 hS H
  obtain ⟨rfl, rfl⟩ := wtow_loop hX hi 8 0 0 rfl rfl (wto_0 hS H1)
  unfold choP
  have ht := toP_rng (P := P) (here := zI M1 137 0) (goal := go) 8 0 (by decide) (by decide)
  rcases chos_12 hS H with ⟨a1, H⟩ | ⟨a1, h1, h2⟩
  · rw [if_pos (by rw [a1]; decide)]
    rw [a1] at H
    exact chos_loop hh h6 hgo 8 0 M1 (-1) 0 0 none none none hX hV hi hal hwy rfl rfl rfl (by decide) H
  · rw [if_neg (fun q => by
      have e : (0 : Int32).toInt = 0 := rfl
      rcases ht with q2 | q2
      · exact a1 q2
      · have q : toP P (zI M1 137 0) go 8 0 < 0 := q
        rw [i32_z] at q
        omega)]
    subst h2
    exact ⟨h1, hS, FZ.refl _, hV⟩
end CHO
/-! THE CLASS'S tread -/
section TRE
variable {e L : Nat} {T : TS} {g q : TQ} {P P' : PK} {M M1 M' : Mem} {v : Option Value} {c d : Int32}
theorem tr_cong (h : ∀ f, f < 7 → cE P' f c = cE P f c) (k : Cdq) : trP g P' c k = trP g P c k := by
  unfold trP
  rw [h 0 (by decide), h 1 (by decide), h 2 (by decide), h 3 (by decide), h 4 (by decide), h 5 (by decide)]
theorem ev_cong {tr tr' : Cdq → Bool} (h : ∀ k, tr' k = tr k) (cs : List Cdq) (st : List Bool) : evC tr' cs st = evC tr cs st := by
  have : tr' = tr := funext h
  rw [this]
theorem hld_cong (h : ∀ f, f < 7 → cE P' f c = cE P f c) (l : Lnq) : hldP g P' q l c = hldP g P q l c := by
  unfold hldP
  rw [ev_cong (tr_cong h)]
theorem nev_cong (h : ∀ f, f < 7 → cE P' f c = cE P f c) : ∀ ls, nevL g P' q c ls = nevL g P q c ls := by
  intro ls
  induction ls with
  | nil => rfl
  | cons l r ih =>
    unfold nevL
    rw [hld_cong h, ih]
theorem sum_cong (h : ∀ f, f < 7 → cE P' f c = cE P f c) {m : Int32} : ∀ ls s, sumL g P' q c m ls s = sumL g P q c m ls s := by
  intro ls
  induction ls with
  | nil => intro s; rfl
  | cons l r ih =>
    intro s
    unfold sumL
    rw [hld_cong h]
    exact ih _
theorem fst_cong (h : ∀ f, f < 7 → cE P' f c = cE P f c) {k d : Int32} : ∀ ls, fstL g P' k c d ls = fstL g P k c d ls := by
  intro ls
  induction ls with
  | nil => rfl
  | cons l r ih =>
    unfold fstL
    rw [hld_cong h, ih]
theorem OKv.cong {h : Nat} (hh : ∀ f, f < 7 → cE P' f c = cE P f c) (hK : OKv T P M h c) : OKv T P' M h c := by
  refine ⟨?_, fun m hm => ?_⟩
  · rw [nev_cong hh]
    exact hK.1
  · rw [sum_cong hh]
    exact hK.2 m hm
def trF (a k : Nat) : Prop := a = 104 ∧ k = 10
def trW (L a : Nat) : Prop := a = L + 4 ∨ a = L + 6 ∨ a = L + 7 ∨ a = 128
theorem tre_l (hc : inC P c) (hw : wh4 P) : ∀ (n kk : Nat) (k : Int32) (M : Mem), SQ M → k.toInt = (kk : Int) → kk + n = 6 → Ev none e 62 73 [some (.ref 104), some (.int c), some (.int k)] [] M v M' 0 0 → v = none ∧ SQ M' ∧ FZ trF (fun a => a = 128) noO M M' ∧ (∀ h, kk ≤ h → h < 6 → rN M' 128 (ixA h c) = -1) ∧ (∀ j, (∀ h, kk ≤ h → h < 6 → j ≠ ixA h c) → rN M' 128 j = rN M 128 j) ∧ zI M' 104 10 = if c = zI M 104 9 then 1 else zI M 104 10 := by
  obtain ⟨c0, _, c2⟩ := hc.lt hw
  have e6 : (6 : Int32).toInt = 6 := rfl
  have e256 : (256 : Int32).toInt = 256 := rfl
  intro n
  induction n with
  | zero =>
    intro kk k M hS hk hn H
    rcases tre_73 hS H with ⟨_, a2, h1, h2⟩ | ⟨_, a2, h1, h2⟩ | ⟨a1, _⟩
    · subst h2
      refine ⟨h1, hS.kf, FZ.wF ⟨rfl, rfl⟩, fun h h3 h4 => absurd h4 (by omega), fun j _ => rN_wF, ?_⟩
      rw [if_pos a2]
      exact fI_wF_eq hS.1 qa_104 qi_22_10
    · subst h2
      refine ⟨h1, hS, FZ.refl _, fun h h3 h4 => absurd h4 (by omega), fun j _ => rfl, ?_⟩
      rw [if_neg a2]
    · exact absurd (Int32.le_iff_toInt_le.mpr (by omega)) a1
  | succ n ih =>
    intro kk k M hS hk hn H
    rcases tre_73 hS H with ⟨a1, _⟩ | ⟨a1, _⟩ | ⟨_, _, H⟩
    · have := Int32.le_iff_toInt_le.mp a1
      omega
    · have := Int32.le_iff_toInt_le.mp a1
      omega
    · have hx : ((256 * k) + c).toNatClampNeg = ixA kk c := cl_n (ix_av hw hc hk (by omega)).1
      rw [hx] at H
      obtain ⟨r1, r2, r3, r4, r5, r6⟩ := ih (kk + 1) (k + 1) _ hS.ki (by rw [i32_p1 (by omega)]; omega) (by omega) H
      have hlt : ixA kk c < (zrw M 128).length := by
        rw [row128 hS.1]
        unfold ixA
        omega
      have hFw : FZ trF (fun a => a = 128) noO M (wI M 128 (ixA kk c) (-1)) := FZ.wI (W := fun a => a = 128) rfl
      refine ⟨r1, r2, hFw.trans r3, fun h h3 h4 => ?_, fun j hj => ?_, ?_⟩
      · by_cases hh : h = kk
        · subst hh
          rw [r5 _ (fun h5 h6 h7 q => by unfold ixA at q; omega)]
          exact rN_wI_eq hlt
        · exact r4 h (by omega) h4
      · rw [r5 j (fun h h3 h4 => hj h (by omega) h4)]
        exact rN_wI_ne (fun q => hj kk (by omega) (by omega) q.2)
      · rw [r6, fI_wI, fI_wI]
theorem ld_rw8 (hS : SH M) (hL : gNth sT L = some 8) : ∀ f, f < 8 → (zrw M (L + 1 + f)).length = 256 := by
  intro f hf
  match f, hf with
  | 0, _ => exact (hS.row (fx_h2 hL) qw_9).2
  | 1, _ => exact (hS.row (fx_h3 hL) qw_10).2
  | 2, _ => exact (hS.row (fx_h4 hL) qw_11).2
  | 3, _ => exact (hS.row (fx_h5 hL) qw_12).2
  | 4, _ => exact (hS.row (fx_h6 hL) qw_13).2
  | 5, _ => exact (hS.row (fx_h7 hL) qw_14).2
  | 6, _ => exact (hS.row (fx_h8 hL) qw_15).2
  | 7, _ => exact (hS.row (fx_h9 hL) qw_16).2
theorem ld_rw7 (hS : SH M) (hL : gNth sT L = some 8) {f : Nat} (hf : f < 7) : (zrw M (L + 1 + f)).length = 256 := ld_rw8 hS hL f (by omega)
theorem LCel.up {f : Nat} {x : Int32} (hS : SQ M) (hL : gNth sT L = some 8) (h : LCel L P M) (hw : wh4 P) (hc : inC P c) (hf : f < 7) : LCel L (uPk P (cX f c) x) (wI M (L + 1 + f) c.toNatClampNeg x) := by
  obtain ⟨_, c256, _⟩ := cls_int hw
  intro k f' hk hf'
  have e0 : uPk P (cX f c) x 0 = P 0 := up_ne (by have := cX_ge (f := f) (c := c); omega)
  have e1 : uPk P (cX f c) x 1 = P 1 := up_ne (by have := cX_ge (f := f) (c := c); omega)
  rw [cls_eq e0 e1] at hk
  have ec : c.toNatClampNeg = c.toInt.toNat := rfl
  rw [ec]
  by_cases hx : f' = f ∧ k = c.toInt.toNat
  · obtain ⟨rfl, rfl⟩ := hx
    rw [rN_wI_eq (by rw [ld_rw7 hS.1 hL hf]; have := hc.2; omega)]
    exact up_eq.symm
  · rw [rN_wI_ne (fun q => hx ⟨by omega, q.2⟩), up_ne (fun q => hx (by unfold cX at q; omega))]
    exact h k f' hk hf'
theorem tread_ok (hX : CTX L T P M) (hV : VC T P M) (hc : inC P c) (H : Ev none e 62 0 [some (.ref 104), some (.int c), none] [] M v M' 0 0) : v = none ∧ SQ M' ∧ FZ trF (trW L) noO M M' ∧ LCel L (trdP (T 0) P c) M' ∧ VC T (trdP (T 0) P c) M' ∧ zI M' 104 10 = if c = zI M 104 9 then 1 else zI M 104 10 := by
  have hS := hX.1.1
  have hL := hX.1.2.1
  have hT := hX.1.2.2.1
  have hC := hX.1.2.2.2.2.2.2
  have hw := hX.2.1
  have st : ∃ M1, SQ M1 ∧ FZ trF (trW L) noO M M1 ∧ (∀ j, rN M1 128 j = rN M 128 j) ∧ LCel L (weaP (T 0) P c) M1 ∧ (∀ k, zI M1 104 k = zI M 104 k) ∧ ∃ c2, Ev none e 62 45 [some (.ref 104), some (.int c), c2] [] M1 v M' 0 0 ∨ (M1 = M ∧ Ev none e 62 73 [some (.ref 104), some (.int c), some (.int 0)] [] (wI (wI M (fR M 104 7 + 6) c.toNatClampNeg ((rI M (fR M 104 7 + 6) c) + 1)) (fR M 104 7 + 7) c.toNatClampNeg ((rI M (fR M 104 7 + 7) c) + 1)) v M' 0 0) := by
    rcases tre_0 hS H with ⟨a1, _, _, _, _, H⟩ | ⟨a1, e1, v1, M1, rfl, H1, H⟩
    · rw [hL, g8_ok hX.1 hc, bI_0] at a1
      refine ⟨M, hS, FZ.refl _, fun _ => rfl, ?_, fun _ => rfl, none, Or.inr ⟨rfl, H⟩⟩
      unfold weaP
      rw [if_neg (by rw [a1]; decide)]
      exact hC
    · rw [hL, g8_ok hX.1 hc, bI_0, Bool.not_eq_false] at a1
      obtain ⟨rfl, rfl⟩ := fnb_ok hX hc H1
      obtain ⟨_, _, H⟩ := tre_18 hS H
      rw [hL] at H
      have r3 : rI M1 (L + 4) c = cE P 3 c := hC.at hc (f := 3) (by decide)
      refine ⟨_, hS.ki, FZ.wI (Or.inl rfl), fun j => rN_wI_ne (fun q => lk_ld hT 4 (by decide) (Or.inl q.1.symm)), ?_, fun k => fI_wI, _, Or.inl H⟩
      unfold weaP
      rw [if_pos a1, r3]
      have hx : (if ((cE P 3 c) + fstL (T 0) P 0 c 5 (T 0).2) < 999 then ((cE P 3 c) + fstL (T 0) P 0 c 5 (T 0).2) else 999) = (if 999 < cE P 3 c + fstL (T 0) P 0 c 5 (T 0).2 then 999 else cE P 3 c + fstL (T 0) P 0 c 5 (T 0).2) := by
        obtain ⟨z, ez⟩ : ∃ z, z = cE P 3 c + fstL (T 0) P 0 c 5 (T 0).2 := ⟨_, rfl⟩
        rw [← ez]
        by_cases h1 : z < 999
        · rw [if_pos h1, if_neg (fun q => by rw [Int32.lt_iff_toInt_lt] at h1 q; omega)]
        · rw [if_neg h1]
          by_cases h2 : 999 < z
          · rw [if_pos h2]
          · rw [if_neg h2]
            exact Int32.toInt_inj.mp (by rw [Int32.lt_iff_toInt_lt] at h1 h2; omega)
      rw [hx]
      exact LCel.up hS hT hC hw hc (f := 3) (by decide)
  obtain ⟨M1, s1, s2, s3, s4, s5, c2, H⟩ := st
  have hL1 : fR M1 104 7 = L := by rw [s2.fr (fun q => by have := q.2; omega)]; exact hL
  have H : Ev none e 62 73 [some (.ref 104), some (.int c), some (.int 0)] [] (wI (wI M1 (L + 6) c.toNatClampNeg ((rI M1 (L + 6) c) + 1)) (L + 7) c.toNatClampNeg ((rI M1 (L + 7) c) + 1)) v M' 0 0 := by
    rcases H with H | ⟨rfl, H⟩
    · obtain ⟨_, _, _, _, H⟩ := tre_45 s1 H
      rw [hL1] at H
      exact H
    · rw [hL] at H
      exact H
  have w0 : weaP (T 0) P c 0 = P 0 := by
    unfold weaP
    split
    · exact up_ne (by have := cX_ge (f := 3) (c := c); omega)
    · rfl
  have w1 : weaP (T 0) P c 1 = P 1 := by
    unfold weaP
    split
    · exact up_ne (by have := cX_ge (f := 3) (c := c); omega)
    · rfl
  have hwW : wh4 (weaP (T 0) P c) := hw.eq w0 w1
  have hcW : inC (weaP (T 0) P c) c := (inC.eq w0 w1).mpr hc
  have r5 : rI M1 (L + 6) c = cE (weaP (T 0) P c) 5 c := s4.at hcW (f := 5) (by decide)
  have r6 : rI M1 (L + 7) c = cE (weaP (T 0) P c) 6 c := s4.at hcW (f := 6) (by decide)
  have t5 := LCel.up (x := cE (weaP (T 0) P c) 5 c + 1) s1 hT s4 hwW hcW (f := 5) (by decide)
  have x0 : uPk (weaP (T 0) P c) (cX 5 c) (cE (weaP (T 0) P c) 5 c + 1) 0 = weaP (T 0) P c 0 := up_ne (by have := cX_ge (f := 5) (c := c); omega)
  have x1 : uPk (weaP (T 0) P c) (cX 5 c) (cE (weaP (T 0) P c) 5 c + 1) 1 = weaP (T 0) P c 1 := up_ne (by have := cX_ge (f := 5) (c := c); omega)
  have e6 : cE (uPk (weaP (T 0) P c) (cX 5 c) (cE (weaP (T 0) P c) 5 c + 1)) 6 c = cE (weaP (T 0) P c) 6 c := by
    rw [cE_up (by decide) (by decide) hc.1 hc.1, if_neg (fun q => absurd q.1 (by decide))]
  have t6 := LCel.up (x := cE (weaP (T 0) P c) 6 c + 1) s1.ki hT t5 (hwW.eq x0 x1) ((inC.eq x0 x1).mpr hcW) (f := 6) (by decide)
  have hP : trdP (T 0) P c = uPk (uPk (weaP (T 0) P c) (cX 5 c) (cE (weaP (T 0) P c) 5 c + 1)) (cX 6 c) (cE (weaP (T 0) P c) 6 c + 1) := by
    unfold trdP
    rw [e6]
  rw [← hP] at t6
  rw [r5, r6] at H
  have hF2 : FZ trF (trW L) noO M1 (wI (wI M1 (L + 6) c.toNatClampNeg (cE (weaP (T 0) P c) 5 c + 1)) (L + 7) c.toNatClampNeg (cE (weaP (T 0) P c) 6 c + 1)) := (FZ.wI (Or.inr (Or.inl rfl))).trans (FZ.wI (Or.inr (Or.inr (Or.inl rfl))))
  have n6 : (128 : Nat) ≠ L + 6 := fun q => lk_ld hT 6 (by decide) (Or.inl q.symm)
  have n7 : (128 : Nat) ≠ L + 7 := fun q => lk_ld hT 7 (by decide) (Or.inl q.symm)
  obtain ⟨r1, r2, r3, r4, r5', r6'⟩ := tre_l hc hw 6 0 0 _ s1.ki.ki rfl rfl H
  have hF3 := (s2.trans hF2).trans (r3.more (fun _ _ q => q) (fun _ q => Or.inr (Or.inr (Or.inr q))) (fun _ q => q))
  refine ⟨r1, r2, hF3, fun k f hk hf => ?_, fun h c' hh hc' => ?_, ?_⟩
  · rw [show L + 1 + f = L + (1 + f) from by omega, r3.rn (fun q => lk_ld hT (1 + f) (by omega) (Or.inl q)), ← show L + 1 + f = L + (1 + f) from by omega]
    exact t6 k f hk hf
  · have p0 : trdP (T 0) P c 0 = P 0 := trd_lo (by decide)
    have p1 : trdP (T 0) P c 1 = P 1 := trd_lo (by decide)
    have hc2 : inC P c' := (inC.eq p0 p1).mp hc'
    obtain ⟨_, c256, _⟩ := cls_int hw
    have b1 := hc.2
    have b2 := hc2.2
    by_cases hcc : c' = c
    · subst hcc
      exact Or.inl (r4 h (Nat.zero_le _) hh)
    · have hj : ∀ h2, 0 ≤ h2 → h2 < 6 → ixA h c' ≠ ixA h2 c := fun h2 _ h3 q => hcc (by
        unfold ixA at q
        refine Int32.toInt_inj.mp ?_
        have := Int.toNat_of_nonneg hc.1
        have := Int.toNat_of_nonneg hc2.1
        omega)
      have hsame : ∀ f, f < 7 → cE (trdP (T 0) P c) f c' = cE P f c' := fun f hf => by
        rw [trd_E hc.1 hc2.1 hf, if_neg (fun q => hcc q.2), if_neg (fun q => hcc q.2), wea_E hc.1 hc2.1 hf, if_neg (fun q => hcc q.2.1)]
      have hv : rN M' 128 (ixA h c') = rN M 128 (ixA h c') := by
        rw [r5' _ hj, rN_wI_ne (fun q => n7 q.1), rN_wI_ne (fun q => n6 q.1), s3]
      have hs : ∀ m, m < 7 → rN M' (130 + m) (ixA h c') = rN M (130 + m) (ixA h c') := fun m hm => by
        have n8 : ¬ trW L (130 + m) := fun q => by
          rcases q with q | q | q | q
          · exact lk_ld hT 4 (by decide) (Or.inr ⟨by omega, by omega⟩)
          · exact lk_ld hT 6 (by decide) (Or.inr ⟨by omega, by omega⟩)
          · exact lk_ld hT 7 (by decide) (Or.inr ⟨by omega, by omega⟩)
          · omega
        exact hF3.rn n8
      rcases hV h c' hh hc2 with q | q
      · exact Or.inl (hv.trans q)
      · refine Or.inr (OKv.cong hsame ⟨hv.trans q.1, fun m hm => (hs m hm).trans (q.2 m hm)⟩)
  · rw [r6', fI_wI, fI_wI, fI_wI, fI_wI, s5, s5]
end TRE
/-! THE CLASS'S land, whole; what walking changes -/
def PKs (L : Nat) (P : PK) (M : Mem) : Prop := zI M L 0 = P 0 ∧ zI M L 1 = P 1 ∧ (zI M L 11 = P 2 ∧ ∀ d, d < (P 2).toInt.toNat → rN M (L + 9) d = P (3 + d)) ∧ zI M L 13 = P 12 ∧ ∀ k, k < (P 12).toInt.toNat → ∀ f, f < 6 → zI M (L + 12 + k) f = P (13 + 6 * k + f)
def PKt (L : Nat) (P : PK) (M : Mem) : Prop := zI M L 16 = P 518 ∧ zI M L 17 = P 519 ∧ zI M L 18 = P 520 ∧ zI M L 19 = P 521
def WXr (L : Nat) (M : Mem) : Prop := ∀ k, k < 24 → oN M (L + 10) k = L + 12 + k
def WKs (L : Nat) (M : Mem) : Prop := (∀ j k, j < 60 → k < 60 → oN M (L + 11) j = oN M (L + 11) k → j = k) ∧ ∀ k, k < 60 → L + 36 ≤ oN M (L + 11) k ∧ oN M (L + 11) k < L + 96
/-- a walker as the class has it -/
def WFq (b : Nat) (P : PK) (k : Nat) (M : Mem) : Prop := zI M b 0 = P (158 + 6 * k) ∧ zI M b 1 = P (158 + 6 * k + 1) ∧ zI M b 2 = P (158 + 6 * k + 2) ∧ zI M b 3 = P (158 + 6 * k + 4) ∧ zI M b 4 = P (158 + 6 * k + 3)
def gwF (L a k : Nat) : Prop := (a = L ∧ 15 ≤ k) ∨ (L + 36 ≤ a ∧ a < L + 96) ∨ (a = 104 ∧ k = 10)
def gwW (L a : Nat) : Prop := (L + 4 ≤ a ∧ a ≤ L + 8) ∨ lkW a
def gwO (L a : Nat) : Prop := a = L + 11
/-- between the steps of a TICK: n in the list, i of them done, those that stay in s -/
def MDW (L : Nat) (P : PK) (M : Mem) (n i : Nat) (s : List Nat) : Prop := zI M L 15 = nI n ∧ n ≤ 60 ∧ i ≤ n ∧ (P 157).toInt = (s.length : Int) + ((n : Int) - (i : Int)) ∧ (∀ t j : Nat, s[t]? = some j → j < i ∧ WFq (oN M (L + 11) j) P t M) ∧ (∀ j, i ≤ j → j < n → WFq (oN M (L + 11) j) P (s.length + (j - i)) M) ∧ (∀ j, j < i → j ∉ s → zI M (oN M (L + 11) j) 0 = -1) ∧ ∀ t t' j j' : Nat, t < t' → s[t]? = some j → s[t']? = some j' → j < j'
def STA (L : Nat) (T : TS) (P : PK) (M : Mem) : Prop := CTX L T P M ∧ VC T P M ∧ PKs L P M ∧ PKt L P M ∧ WXr L M ∧ WKs L M ∧ zI M 104 8 = 0
theorem sort_ge {s : List Nat} (hs : ∀ t t' j j' : Nat, t < t' → s[t]? = some j → s[t']? = some j' → j < j') : ∀ t j : Nat, s[t]? = some j → t ≤ j := by
  intro t
  induction t with
  | zero => intro j _; exact Nat.zero_le _
  | succ t ih =>
    intro j hj
    have hl := (List.getElem?_eq_some_iff.mp hj).1
    have ht : s[t]? = some s[t] := List.getElem?_eq_getElem (by omega)
    have h1 := ih _ ht
    have h2 := hs t (t + 1) _ _ (by omega) ht hj
    omega
theorem sort_len {s : List Nat} {i : Nat} (hs : ∀ t t' j j' : Nat, t < t' → s[t]? = some j → s[t']? = some j' → j < j') (hi : ∀ t j : Nat, s[t]? = some j → j < i) : s.length ≤ i := by
  cases hl : s.length with
  | zero => exact Nat.zero_le _
  | succ m =>
    have ht : s[m]? = some s[m] := List.getElem?_eq_getElem (by omega)
    have h1 := sort_ge hs m _ ht
    have h2 := hi m _ ht
    omega
section LND
variable {e L : Nat} {T : TS} {g q : TQ} {P P' : PK} {M M1 M' : Mem} {v : Option Value} {c d : Int32} {F : Nat → Nat → Prop} {W O : Nat → Prop} {n i k b : Nat} {s : List Nat}
/-- what no walking touches -/
def okF (L : Nat) (F : Nat → Nat → Prop) (W O : Nat → Prop) : Prop := (¬ F 104 7 ∧ ¬ F 104 2) ∧ (∀ t, gNth sT t = some 28 → (∀ k, ¬ F t k) ∧ ∀ k, 1 ≤ k → k ≤ 8 → ¬ W (t + k)) ∧ (¬ O 109 ∧ ¬ O 129) ∧ ¬ W 106 ∧ ¬ W 107 ∧ ¬ W 108
theorem CTX.mv (hX : CTX L T P M) (hS : SQ M') (hF : FZ F W O M M') (ho : okF L F W O) (hl : LCel L P' M') (h0 : P' 0 = P 0) (h1 : P' 1 = P 1) (hn : ∀ c, inC P' c → nnC P' c) (hc : ∀ c, inC P' c → rI M' (L + 8) c = crdP P' c (P' 157).toInt.toNat) : CTX L T P' M' := by
  obtain ⟨⟨a1, a2, a3, a4, a5, a6, a7⟩, b1, b2, b3, b4, ⟨b5, b6⟩, b7, b8⟩ := hX
  obtain ⟨⟨f7, f2⟩, ft, ⟨o1, o2⟩, w6, w7, w8⟩ := ho
  have hlt := law_t a1.1
  have e2 : fR M' 104 2 = fR M 104 2 := hF.fr f2
  have tf := ft _ hlt
  refine ⟨⟨hS, by rw [hF.fr f7]; exact a2, a3, ?_, ?_, ?_, hl⟩, b1.eq h0 h1, hn, fun m hm => by rw [hF.on o2]; exact b3 m hm, fun c hcc => ?_, ⟨?_, b6⟩, fun h hh => ?_, hc⟩
  · rw [e2, hF.fi (tf.1 _)]; exact a4
  · rw [e2, hF.fi (tf.1 _)]; exact a5
  · rw [e2, hF.fi (tf.1 _)]; exact a6
  · have hc2 : inC P c := (inC.eq h0 h1).mp hcc
    obtain ⟨g1, g2, g3⟩ := b4 c hc2
    have r6 : ∀ j, rI M' 106 j = rI M 106 j := fun j => hF.rn w6
    have r7 : ∀ j, rI M' 107 j = rI M 107 j := fun j => hF.rn w7
    have r8 : ∀ j, rI M' 108 j = rI M 108 j := fun j => hF.rn w8
    rw [r6, r7, h0]
    exact ⟨g1, g2, fun d d0 d1 => by rw [r8, bes_eq h0 h1]; exact g3 d d0 d1⟩
  · rw [e2]
    exact b5.fz hF tf.1 tf.2
  · rw [hF.on o1]
    have tf := ft _ (hab_t a1.1 hh)
    exact ⟨(b7 h hh).1.fz hF tf.1 tf.2, (b7 h hh).2⟩
theorem okF.go (hL : gNth sT L = some 8) : okF L (gwF L) (gwW L) (gwO L) := by
  have hl := ld_cases hL
  refine ⟨⟨?_, ?_⟩, fun t ht => ⟨fun k h => ?_, fun k h1 h2 h => ?_⟩, ⟨?_, ?_⟩, ?_, ?_, ?_⟩
  · unfold gwF; omega
  · unfold gwF; omega
  · have := tx_cases ht
    unfold gwF at h
    omega
  · have := tx_cases ht
    rcases h with h | h
    · omega
    · exact lk_tx ht k h1 h2 h
  · unfold gwO; omega
  · unfold gwO; omega
  · unfold gwW lkW; omega
  · unfold gwW lkW; omega
  · unfold gwW lkW; omega
theorem VC.mv (hV : VC T P M) (h0 : P' 0 = P 0) (h1 : P' 1 = P 1) (hs : ∀ j, 522 ≤ j → P' j = P j) (hr : ∀ b j, lkW b → rN M' b j = rN M b j) : VC T P' M' := by
  intro h c hh hc
  have hc2 : inC P c := (inC.eq h0 h1).mp hc
  have hsame : ∀ f, f < 7 → cE P' f c = cE P f c := fun f _ => hs _ cX_ge
  rcases hV h c hh hc2 with q | q
  · exact Or.inl ((hr 128 _ (Or.inl rfl)).trans q)
  · exact Or.inr (OKv.cong hsame ⟨(hr 128 _ (Or.inl rfl)).trans q.1, fun m hm => (hr (130 + m) _ (Or.inr ⟨by omega, by omega⟩)).trans (q.2 m hm)⟩)
theorem PKs.mv (h : PKs L P M) (hF : FZ F W O M M') (h0 : ¬ F L 0) (h1 : ¬ F L 1) (h11 : ¬ F L 11) (h13 : ¬ F L 13) (hw : ∀ k f, k < 24 → ¬ F (L + 12 + k) f) (h9 : ¬ W (L + 9)) (hs : ∀ j, j < 157 → P' j = P j) (h9d : (P 2).toInt ≤ 9) (h24 : (P 12).toInt ≤ 24) : PKs L P' M' := by
  obtain ⟨a1, a2, ⟨a3, a4⟩, a5, a6⟩ := h
  refine ⟨by rw [hF.fi h0, hs 0 (by decide)]; exact a1, by rw [hF.fi h1, hs 1 (by decide)]; exact a2, ⟨by rw [hF.fi h11, hs 2 (by decide)]; exact a3, fun d hd => ?_⟩, by rw [hF.fi h13, hs 12 (by decide)]; exact a5, fun k hk f hf => ?_⟩
  · rw [hs 2 (by decide)] at hd
    rw [hF.rn h9, a4 d hd]
    exact (hs _ (by omega)).symm
  · rw [hs 12 (by decide)] at hk
    rw [hF.fi (hw k f (by omega)), a6 k hk f hf]
    exact (hs _ (by omega)).symm
theorem STA.mv (h : STA L T P M) (hD : okD P) (hS : SQ M') (hF : FZ (gwF L) (gwW L) (gwO L) M M') (hl : LCel L P' M') (hsb : ∀ j, j < 157 → P' j = P j) (hn : ∀ c, inC P' c → nnC P' c) (hc : ∀ c, inC P' c → rI M' (L + 8) c = crdP P' c (P' 157).toInt.toNat) (hV : VC T P' M') (ht : PKt L P' M') (hk : WKs L M') : STA L T P' M' := by
  obtain ⟨a1, a2, a3, a4, a5, a6, a7⟩ := h
  have hL := a1.1.2.2.1
  have hl' := ld_cases hL
  refine ⟨a1.mv hS hF (okF.go hL) hl (hsb 0 (by decide)) (hsb 1 (by decide)) hn hc, hV, a3.mv hF ?_ ?_ ?_ ?_ (fun k f hk => ?_) ?_ hsb hD.2.1.2.1 hD.2.2.2.1, ht, fun k hk => ?_, hk, ?_⟩
  · unfold gwF; omega
  · unfold gwF; omega
  · unfold gwF; omega
  · unfold gwF; omega
  · unfold gwF; omega
  · unfold gwW lkW; omega
  · rw [hF.on (by unfold gwO; omega)]; exact a5 k hk
  · rw [hF.fi (by unfold gwF; omega)]; exact a7
theorem gwF_obj (hk : WKs L M) (hi : i < 60) (f : Nat) : gwF L (oN M (L + 11) i) f := Or.inr (Or.inl (hk.2 i hi))
theorem lk_go (h : FZ noF lkW noO M M') : FZ (gwF L) (gwW L) (gwO L) M M' := h.more (fun _ _ q => q.elim) (fun _ q => Or.inr q) (fun _ q => q.elim)
theorem tr_go (h : FZ trF (trW L) noO M M') : FZ (gwF L) (gwW L) (gwO L) M M' := h.more (fun _ _ q => Or.inr (Or.inr q)) (fun a q => by
  rcases q with q | q | q | q
  · exact Or.inl (by omega)
  · exact Or.inl (by omega)
  · exact Or.inl (by omega)
  · exact Or.inr (Or.inl q)) (fun _ q => q.elim)
theorem WKs.fz (h : WKs L M) (hF : FZ F W O M M') (ho : ¬ O (L + 11)) : WKs L M' := by
  unfold WKs
  have e : ∀ j, oN M' (L + 11) j = oN M (L + 11) j := fun j => hF.on ho
  refine ⟨fun j k hj hk q => h.1 j k hj hk (by rw [e, e] at q; exact q), fun k hk => by rw [e]; exact h.2 k hk⟩
theorem WFq.eq (h : WFq b P k M) (hz : ∀ f, f < 5 → zI M' b f = zI M b f) (hp : ∀ j, j < 5 → P' (158 + 6 * k + j) = P (158 + 6 * k + j)) : WFq b P' k M' := by
  obtain ⟨a1, a2, a3, a4, a5⟩ := h
  refine ⟨(hz 0 (by decide)).trans (a1.trans (hp 0 (by decide)).symm), (hz 1 (by decide)).trans (a2.trans (hp 1 (by decide)).symm), (hz 2 (by decide)).trans (a3.trans (hp 2 (by decide)).symm), (hz 3 (by decide)).trans (a4.trans (hp 4 (by decide)).symm), (hz 4 (by decide)).trans (a5.trans (hp 3 (by decide)).symm)⟩
/-- nothing of the walkers changes -/
theorem MDW.same (h : MDW L P M n i s) (hk : WKs L M) (h15 : zI M' L 15 = zI M L 15) (ho : ∀ j, oN M' (L + 11) j = oN M (L + 11) j) (hz : ∀ b f, L + 36 ≤ b → b < L + 96 → zI M' b f = zI M b f) (hp : ∀ j, 157 ≤ j → j < 518 → P' j = P j) : MDW L P' M' n i s := by
  obtain ⟨a1, a2, a3, a4, a5, a6, a7, a8⟩ := h
  refine ⟨h15.trans a1, a2, a3, by rw [hp 157 (by decide) (by decide)]; exact a4, fun t j ht => ?_, fun j h1 h2 => ?_, fun j h1 h2 => ?_, a8⟩
  · obtain ⟨q1, q2⟩ := a5 t j ht
    have hb := hk.2 j (by omega)
    rw [ho]
    refine ⟨q1, q2.eq (fun f _ => hz _ f hb.1 hb.2) (fun f hf => hp _ (by omega) ?_)⟩
    have := sort_ge a8 t j ht
    omega
  · have hb := hk.2 j (by omega)
    have hs := sort_len a8 (fun t j ht => (a5 t j ht).1)
    rw [ho]
    exact (a6 j h1 h2).eq (fun f _ => hz _ f hb.1 hb.2) (fun f hf => hp _ (by omega) (by omega))
  · have hb := hk.2 j (by omega)
    rw [ho, hz _ 0 hb.1 hb.2]
    exact a7 j h1 h2
end LND
