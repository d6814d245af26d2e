/-! THE CLASS'S walking: begin, go, sweep, endWeek, shape: pieces (made by gwal2.py) -/
noncomputable def X_73w (M : Mem) (b : Nat) (av : Int32) (ow : Int32) : Mem := (wF (wF (wF (wF (wF M b 0 av) b 1 ow) b 2 0) b 3 (-1)) b 4 (-1))
theorem g_73w {e : Nat} {M M' : Mem} {v : Option Value} {av ow : Int32} {b : Nat} (hS : SQ M) (a_b : gNth sT b = some 21) (H : Ev none e 73 0 [some (.ref b), some (.int av), some (.int ow)] [] M v M' 0 0) : v = none ∧ M' = X_73w M b av ow := by
  unfold X_73w
  have H : Ev none e 73 2 [some (.ref b), some (.int av), some (.int ow)] [.int av, .ref b] M v M' 0 0 := Ev.back 2 (fun n => rfl) H
  obtain ⟨N2, eN2⟩ : ∃ N, N = (wF M b 0 av) := ⟨_, rfl⟩
  have hN2 : SQ N2 := by rw [eN2]; exact hS.kf
  have H : Ev none e 73 5 [some (.ref b), some (.int av), some (.int ow)] [] N2 v M' 0 0 := by rw [eN2]; exact Ev.pfi rfl rfl rfl hS.1 a_b qi_21_0 H
  have H : Ev none e 73 7 [some (.ref b), some (.int av), some (.int ow)] [.int ow, .ref b] N2 v M' 0 0 := Ev.back 2 (fun n => rfl) H
  obtain ⟨N4, eN4⟩ : ∃ N, N = (wF N2 b 1 ow) := ⟨_, rfl⟩
  have hN4 : SQ N4 := by rw [eN4]; exact hN2.kf
  have H : Ev none e 73 10 [some (.ref b), some (.int av), some (.int ow)] [] N4 v M' 0 0 := by rw [eN4]; exact Ev.pfi rfl rfl rfl hN2.1 a_b qi_21_1 H
  have H : Ev none e 73 12 [some (.ref b), some (.int av), some (.int ow)] [.int 0, .ref b] N4 v M' 0 0 := Ev.back 2 (fun n => rfl) H
  obtain ⟨N6, eN6⟩ : ∃ N, N = (wF N4 b 2 0) := ⟨_, rfl⟩
  have hN6 : SQ N6 := by rw [eN6]; exact hN4.kf
  have H : Ev none e 73 15 [some (.ref b), some (.int av), some (.int ow)] [] N6 v M' 0 0 := by rw [eN6]; exact Ev.pfi rfl rfl rfl hN4.1 a_b qi_21_2 H
  have H : Ev none e 73 17 [some (.ref b), some (.int av), some (.int ow)] [.int (-1), .ref b] N6 v M' 0 0 := Ev.back 2 (fun n => rfl) H
  obtain ⟨N8, eN8⟩ : ∃ N, N = (wF N6 b 3 (-1)) := ⟨_, rfl⟩
  have hN8 : SQ N8 := by rw [eN8]; exact hN6.kf
  have H : Ev none e 73 20 [some (.ref b), some (.int av), some (.int ow)] [] N8 v M' 0 0 := by rw [eN8]; exact Ev.pfi rfl rfl rfl hN6.1 a_b qi_21_3 H
  have H : Ev none e 73 22 [some (.ref b), some (.int av), some (.int ow)] [.int (-1), .ref b] N8 v M' 0 0 := Ev.back 2 (fun n => rfl) H
  obtain ⟨N10, eN10⟩ : ∃ N, N = (wF N8 b 4 (-1)) := ⟨_, rfl⟩
  have hN10 : SQ N10 := by rw [eN10]; exact hN8.kf
  have H : Ev none e 73 25 [some (.ref b), some (.int av), some (.int ow)] [] N10 v M' 0 0 := by rw [eN10]; exact Ev.pfi rfl rfl rfl hN8.1 a_b qi_21_4 H
  obtain ⟨p1, p2⟩ := Ev.retb (fun n => rfl) H
  subst eN2 eN4 eN6 eN8 eN10
  exact ⟨p1, p2⟩
theorem X_73w_sx {M : Mem} {av ow : Int32} {b : Nat} (hS : SQ M) (a_b : gNth sT b = some 21) : SQ (X_73w M b av ow) := by
  unfold X_73w
  exact ((((hS.kf).kf).kf).kf).kf
noncomputable def X_74w (M : Mem) (b : Nat) (to : Int32) (bw : Int32) : Mem := (wF (wF (wF M b 3 (zI M b 0)) b 0 to) b 4 bw)
theorem g_74w {e : Nat} {M M' : Mem} {v : Option Value} {to bw : Int32} {b : Nat} (hS : SQ M) (a_b : gNth sT b = some 21) (H : Ev none e 74 0 [some (.ref b), some (.int to), some (.int bw)] [] M v M' 0 0) : v = none ∧ M' = X_74w M b to bw := by
  unfold X_74w
  have H : Ev none e 74 2 [some (.ref b), some (.int to), some (.int bw)] [.ref b, .ref b] M v M' 0 0 := Ev.back 2 (fun n => rfl) H
  have H : Ev none e 74 5 [some (.ref b), some (.int to), some (.int bw)] [.int (zI M b 0), .ref b] M v M' 0 0 := Ev.back 1 (gs_3 rfl rfl (gf_i hS.1 a_b qi_21_0 rfl)) H
  obtain ⟨N2, eN2⟩ : ∃ N, N = (wF M b 3 (zI M b 0)) := ⟨_, rfl⟩
  have hN2 : SQ N2 := by rw [eN2]; exact hS.kf
  have H : Ev none e 74 8 [some (.ref b), some (.int to), some (.int bw)] [] N2 v M' 0 0 := by rw [eN2]; exact Ev.pfi rfl rfl rfl hS.1 a_b qi_21_3 H
  have H : Ev none e 74 10 [some (.ref b), some (.int to), some (.int bw)] [.int to, .ref b] N2 v M' 0 0 := Ev.back 2 (fun n => rfl) H
  obtain ⟨N4, eN4⟩ : ∃ N, N = (wF N2 b 0 to) := ⟨_, rfl⟩
  have hN4 : SQ N4 := by rw [eN4]; exact hN2.kf
  have H : Ev none e 74 13 [some (.ref b), some (.int to), some (.int bw)] [] N4 v M' 0 0 := by rw [eN4]; exact Ev.pfi rfl rfl rfl hN2.1 a_b qi_21_0 H
  have H : Ev none e 74 15 [some (.ref b), some (.int to), some (.int bw)] [.int bw, .ref b] N4 v M' 0 0 := Ev.back 2 (fun n => rfl) H
  obtain ⟨N6, eN6⟩ : ∃ N, N = (wF N4 b 4 bw) := ⟨_, rfl⟩
  have hN6 : SQ N6 := by rw [eN6]; exact hN4.kf
  have H : Ev none e 74 18 [some (.ref b), some (.int to), some (.int bw)] [] N6 v M' 0 0 := by rw [eN6]; exact Ev.pfi rfl rfl rfl hN4.1 a_b qi_21_4 H
  obtain ⟨p1, p2⟩ := Ev.retb (fun n => rfl) H
  subst eN2 eN4 eN6
  exact ⟨p1, p2⟩
theorem X_74w_sx {M : Mem} {to bw : Int32} {b : Nat} (hS : SQ M) (a_b : gNth sT b = some 21) : SQ (X_74w M b to bw) := by
  unfold X_74w
  exact ((hS.kf).kf).kf
noncomputable def G_78 (M : Mem) (x : Nat) (ti : Int32) : Int32 := if (zI M x 5) = 0 then 0 else (if (zI M x 3) ≤ 0 then 0 else (if ti < (zI M x 4) then 0 else (if ((ti - (zI M x 4)) - (ti - (zI M x 4)) / (zI M x 3) * (zI M x 3)) = 0 then 1 else 0)))
theorem g_78 {e : Nat} {M M' : Mem} {v : Option Value} {ti : Int32} {x : Nat} (hS : SQ M) (a_x : gNth sT x = some 20) (H : Ev none e 78 0 [some (.ref x), some (.int ti)] [] M v M' 0 0) : v = some (.int (G_78 M x ti)) ∧ M' = M := by
  unfold G_78
  have H : Ev none e 78 1 [some (.ref x), some (.int ti)] [.ref x] M v M' 0 0 := Ev.back 1 (fun n => rfl) H
  have H : Ev none e 78 4 [some (.ref x), some (.int ti)] [.int (zI M x 5)] M v M' 0 0 := Ev.back 1 (gs_3 rfl rfl (gf_i hS.1 a_x qi_20_5 rfl)) H
  have H : Ev none e 78 (if (zI M x 5) = 0 then 40 else 7) [some (.ref x), some (.int ti)] [] M v M' 0 0 := Ev.back 1 (fun n => rfl) H
  by_cases h1 : (zI M x 5) = 0
  · rw [if_pos h1] at H
    have H : Ev none e 78 41 [some (.ref x), some (.int ti)] [.int 0] M v M' 0 0 := Ev.back 1 (fun n => rfl) H
    obtain ⟨p1, p2⟩ := Ev.retz rfl rfl H
    exact ⟨by rw [if_pos h1]; exact p1, p2⟩
  · rw [if_neg h1] at H
    have H : Ev none e 78 8 [some (.ref x), some (.int ti)] [.ref x] M v M' 0 0 := Ev.back 1 (fun n => rfl) H
    have H : Ev none e 78 11 [some (.ref x), some (.int ti)] [.int (zI M x 3)] M v M' 0 0 := Ev.back 1 (gs_3 rfl rfl (gf_i hS.1 a_x qi_20_3 rfl)) H
    have H : Ev none e 78 (if (zI M x 3) ≤ 0 then 40 else 14) [some (.ref x), some (.int ti)] [] M v M' 0 0 := Ev.back 1 (fun n => rfl) H
    by_cases h2 : (zI M x 3) ≤ 0
    · rw [if_pos h2] at H
      have H : Ev none e 78 41 [some (.ref x), some (.int ti)] [.int 0] M v M' 0 0 := Ev.back 1 (fun n => rfl) H
      obtain ⟨p1, p2⟩ := Ev.retz rfl rfl H
      exact ⟨by rw [if_neg h1, if_pos h2]; exact p1, p2⟩
    · rw [if_neg h2] at H
      have H : Ev none e 78 16 [some (.ref x), some (.int ti)] [.ref x, .int ti] M v M' 0 0 := Ev.back 2 (fun n => rfl) H
      have H : Ev none e 78 19 [some (.ref x), some (.int ti)] [.int (zI M x 4), .int ti] M v M' 0 0 := Ev.back 1 (gs_3 rfl rfl (gf_i hS.1 a_x qi_20_4 rfl)) H
      have H : Ev none e 78 (if ti < (zI M x 4) then 40 else 22) [some (.ref x), some (.int ti)] [] M v M' 0 0 := Ev.back 1 (fun n => rfl) H
      by_cases h3 : ti < (zI M x 4)
      · rw [if_pos h3] at H
        have H : Ev none e 78 41 [some (.ref x), some (.int ti)] [.int 0] M v M' 0 0 := Ev.back 1 (fun n => rfl) H
        obtain ⟨p1, p2⟩ := Ev.retz rfl rfl H
        exact ⟨by rw [if_neg h1, if_neg h2, if_pos h3]; exact p1, p2⟩
      · rw [if_neg h3] at H
        have H : Ev none e 78 24 [some (.ref x), some (.int ti)] [.ref x, .int ti] M v M' 0 0 := Ev.back 2 (fun n => rfl) H
        have H : Ev none e 78 27 [some (.ref x), some (.int ti)] [.int (zI M x 4), .int ti] M v M' 0 0 := Ev.back 1 (gs_3 rfl rfl (gf_i hS.1 a_x qi_20_4 rfl)) H
        have H : Ev none e 78 29 [some (.ref x), some (.int ti)] [.ref x, .int (ti - (zI M x 4))] M v M' 0 0 := Ev.back 2 (fun n => rfl) H
        have H : Ev none e 78 32 [some (.ref x), some (.int ti)] [.int (zI M x 3), .int (ti - (zI M x 4))] M v M' 0 0 := Ev.back 1 (gs_3 rfl rfl (gf_i hS.1 a_x qi_20_3 rfl)) H
        obtain ⟨nz4, H⟩ := rm_i H rfl rfl
        have H : Ev none e 78 33 [some (.ref x), some (.int ti)] [.int ((ti - (zI M x 4)) - (ti - (zI M x 4)) / (zI M x 3) * (zI M x 3))] M v M' 0 0 := H
        have H : Ev none e 78 (if ((ti - (zI M x 4)) - (ti - (zI M x 4)) / (zI M x 3) * (zI M x 3)) = 0 then 36 else 40) [some (.ref x), some (.int ti)] [] M v M' 0 0 := Ev.back 1 (fun n => rfl) H
        by_cases h5 : ((ti - (zI M x 4)) - (ti - (zI M x 4)) / (zI M x 3) * (zI M x 3)) = 0
        · rw [if_pos h5] at H
          have H : Ev none e 78 41 [some (.ref x), some (.int ti)] [.int 1] M v M' 0 0 := Ev.back 2 (fun n => rfl) H
          obtain ⟨p1, p2⟩ := Ev.retz rfl rfl H
          exact ⟨by rw [if_neg h1, if_neg h2, if_neg h3, if_pos h5]; exact p1, p2⟩
        · rw [if_neg h5] at H
          have H : Ev none e 78 41 [some (.ref x), some (.int ti)] [.int 0] M v M' 0 0 := Ev.back 1 (fun n => rfl) H
          obtain ⟨p1, p2⟩ := Ev.retz rfl rfl H
          exact ⟨by rw [if_neg h1, if_neg h2, if_neg h3, if_neg h5]; exact p1, p2⟩
theorem bgn_0 {e : Nat} {M M' : Mem} {v : Option Value} (hS : SQ M) (H : Ev none e 59 0 [some (.ref 104), none, none, none] [] M v M' 0 0) : Ev none e 59 2 [some (.ref 104), some (.int 0), none, none] [] M v M' 0 0 := by
  have H : Ev none e 59 2 [some (.ref 104), some (.int 0), none, none] [] M v M' 0 0 := Ev.back 2 (fun n => rfl) H
  have HF := H
  exact HF
theorem bgn_2 {e : Nat} {M M' : Mem} {v : Option Value} {k : Int32} {c2 c3 : Option Value} (hS : SQ M) (H : Ev none e 59 2 [some (.ref 104), some (.int k), c2, c3] [] M v M' 0 0) : ((zI M (fR M 104 7) 13) ≤ k ∧ v = none ∧ M' = M) ∨ (¬ ((zI M (fR M 104 7) 13) ≤ k) ∧ (G_78 M (oI M (fR M 104 7 + 10) k) (zI M (fR M 104 7) 16)) = 0 ∧ (0 ≤ k.toInt ∧ k.toInt < 24) ∧ Ev none e 59 2 [some (.ref 104), some (.int (k + 1)), some (.ref (oI M (fR M 104 7 + 10) k)), c3] [] M v M' 0 0) ∨ (¬ ((zI M (fR M 104 7) 13) ≤ k) ∧ ¬ ((G_78 M (oI M (fR M 104 7 + 10) k) (zI M (fR M 104 7) 16)) = 0) ∧ (zI M (fR M 104 7) 15) < 60 ∧ (0 ≤ k.toInt ∧ k.toInt < 24) ∧ (0 ≤ (zI M (oI M (fR M 104 7 + 10) k) 0).toInt ∧ (zI M (oI M (fR M 104 7 + 10) k) 0).toInt < 9) ∧ (0 ≤ (zI M (fR M 104 7) 15).toInt ∧ (zI M (fR M 104 7) 15).toInt < 60) ∧ (∃ e1 v1 M1, e = e1 + 1 ∧ Ev none e1 73 0 [some (.ref (oI M (fR M 104 7 + 11) (zI M (fR M 104 7) 15))), some (.int (rI M (fR M 104 7 + 9) (zI M (oI M (fR M 104 7 + 10) k) 0))), some (.int k)] [] M v1 M1 0 0 ∧ Ev none e 59 101 [some (.ref 104), some (.int k), some (.ref (oI M (fR M 104 7 + 10) k)), some (.int (rI M (fR M 104 7 + 9) (zI M (oI M (fR M 104 7 + 10) k) 0)))] (v1.toList ++ []) M1 v M' 0 0)) ∨ (¬ ((zI M (fR M 104 7) 13) ≤ k) ∧ ¬ ((G_78 M (oI M (fR M 104 7 + 10) k) (zI M (fR M 104 7) 16)) = 0) ∧ ¬ ((zI M (fR M 104 7) 15) < 60) ∧ (0 ≤ k.toInt ∧ k.toInt < 24) ∧ Ev none e 59 2 [some (.ref 104), some (.int (k + 1)), some (.ref (oI M (fR M 104 7 + 10) k)), c3] [] (wF M (fR M 104 7) 19 ((zI M (fR M 104 7) 19) + 1)) v M' 0 0) := by
  have H : Ev none e 59 4 [some (.ref 104), some (.int k), c2, c3] [.ref 104, .int k] M v M' 0 0 := Ev.back 2 (fun n => rfl) H
  have H : Ev none e 59 7 [some (.ref 104), some (.int k), c2, c3] [.ref (fR M 104 7), .int k] M v M' 0 0 := Ev.back 1 (gs_3 rfl rfl (gf_r hS.1 qa_104 qr_22_7 rfl)) H
  have H : Ev none e 59 10 [some (.ref 104), some (.int k), c2, c3] [.int (zI M (fR M 104 7) 13), .int k] M v M' 0 0 := Ev.back 1 (gs_3 rfl rfl (gf_i hS.1 (hS.1.fr qa_104 qr_22_7).2 qi_8_13 rfl)) H
  have H : Ev none e 59 (if (zI M (fR M 104 7) 13) ≤ k then 133 else 13) [some (.ref 104), some (.int k), c2, c3] [] M v M' 0 0 := Ev.back 1 (fun n => rfl) H
  by_cases h1 : (zI M (fR M 104 7) 13) ≤ k
  · rw [if_pos h1] at H
    obtain ⟨z1, z2⟩ := Ev.retb (fun n => rfl) H
    exact Or.inl ⟨h1, z1, z2⟩
  · rw [if_neg h1] at H
    have H : Ev none e 59 14 [some (.ref 104), some (.int k), c2, c3] [.ref 104] M v M' 0 0 := Ev.back 1 (fun n => rfl) H
    have H : Ev none e 59 17 [some (.ref 104), some (.int k), c2, c3] [.ref (fR M 104 7)] M v M' 0 0 := Ev.back 1 (gs_3 rfl rfl (gf_r hS.1 qa_104 qr_22_7 rfl)) H
    have H : Ev none e 59 20 [some (.ref 104), some (.int k), c2, c3] [.ref (fR M 104 7 + 10)] M v M' 0 0 := Ev.back 1 (gs_3 rfl rfl (gf_x hS.1 (hS.1.fr qa_104 qr_22_7).2 qo_8 (fx_l12 hS (hS.1.fr qa_104 qr_22_7).2) rfl)) H
    have H : Ev none e 59 21 [some (.ref 104), some (.int k), c2, c3] [.int k, .ref (fR M 104 7 + 10)] M v M' 0 0 := Ev.back 1 (fun n => rfl) H
    obtain ⟨b2, H⟩ := Ev.aal rfl rfl hS.1 (fx_h12 (hS.1.fr qa_104 qr_22_7).2) qz_18 H
    have H : Ev none e 59 22 [some (.ref 104), some (.int k), c2, c3] [.ref (oI M (fR M 104 7 + 10) k)] M v M' 0 0 := H
    have H : Ev none e 59 25 [some (.ref 104), some (.int k), some (.ref (oI M (fR M 104 7 + 10) k)), c3] [.ref 104, .ref (oI M (fR M 104 7 + 10) k)] M v M' 0 0 := Ev.back 3 (fun n => rfl) H
    have H : Ev none e 59 28 [some (.ref 104), some (.int k), some (.ref (oI M (fR M 104 7 + 10) k)), c3] [.ref (fR M 104 7), .ref (oI M (fR M 104 7 + 10) k)] M v M' 0 0 := Ev.back 1 (gs_3 rfl rfl (gf_r hS.1 qa_104 qr_22_7 rfl)) H
    have H : Ev none e 59 31 [some (.ref 104), some (.int k), some (.ref (oI M (fR M 104 7 + 10) k)), c3] [.int (zI M (fR M 104 7) 16), .ref (oI M (fR M 104 7 + 10) k)] M v M' 0 0 := Ev.back 1 (gs_3 rfl rfl (gf_i hS.1 (hS.1.fr qa_104 qr_22_7).2 qi_8_16 rfl)) H
    obtain ⟨e1, rfl⟩ := Ev.dpos rfl rfl H
    obtain ⟨vK3, MK3, K3, H⟩ := Ev.callb (fun n_ => gs_7 rfl rfl (show gCal (.invokevirtual 164) 7 (.int (zI M (fR M 104 7) 16) :: .ref (oI M (fR M 104 7 + 10) k) :: []) M = some (.inr (78, [some (.ref (oI M (fR M 104 7 + 10) k)), some (.int (zI M (fR M 104 7) 16))], [])) from by show @cond (Option ((List Value × Mem) ⊕ (Nat × Lo × List Value))) (true && gRecv M (.ref (oI M (fR M 104 7 + 10) k)) 9 && gRoom [] && true) (some (.inr (78, [some (.ref (oI M (fR M 104 7 + 10) k)), some (.int (zI M (fR M 104 7) 16))], []))) none = _; rw [recv_s hS.1 b2.2 qo_20]; rfl)) H
    obtain ⟨pK3, qK3⟩ := g_78 hS b2.2 K3
    rw [pK3, qK3] at H
    have H : Ev none (e1 + 1) 59 34 [some (.ref 104), some (.int k), some (.ref (oI M (fR M 104 7 + 10) k)), c3] [.int (G_78 M (oI M (fR M 104 7 + 10) k) (zI M (fR M 104 7) 16))] M v M' 0 0 := H
    have H : Ev none (e1 + 1) 59 (if (G_78 M (oI M (fR M 104 7 + 10) k) (zI M (fR M 104 7) 16)) = 0 then 37 else 40) [some (.ref 104), some (.int k), some (.ref (oI M (fR M 104 7 + 10) k)), c3] [] M v M' 0 0 := Ev.back 1 (fun n => rfl) H
    by_cases h4 : (G_78 M (oI M (fR M 104 7 + 10) k) (zI M (fR M 104 7) 16)) = 0
    · rw [if_pos h4] at H
      have H : Ev none (e1 + 1) 59 2 [some (.ref 104), some (.int (k + 1)), some (.ref (oI M (fR M 104 7 + 10) k)), c3] [] M v M' 0 0 := Ev.back 3 (fun n => rfl) H
      have HF := H
      exact Or.inr (Or.inl ⟨h1, h4, b2.1, HF⟩)
    · rw [if_neg h4] at H
      have H : Ev none (e1 + 1) 59 41 [some (.ref 104), some (.int k), some (.ref (oI M (fR M 104 7 + 10) k)), c3] [.ref 104] M v M' 0 0 := Ev.back 1 (fun n => rfl) H
      have H : Ev none (e1 + 1) 59 44 [some (.ref 104), some (.int k), some (.ref (oI M (fR M 104 7 + 10) k)), c3] [.ref (fR M 104 7)] M v M' 0 0 := Ev.back 1 (gs_3 rfl rfl (gf_r hS.1 qa_104 qr_22_7 rfl)) H
      have H : Ev none (e1 + 1) 59 47 [some (.ref 104), some (.int k), some (.ref (oI M (fR M 104 7 + 10) k)), c3] [.int (zI M (fR M 104 7) 15)] M v M' 0 0 := Ev.back 1 (gs_3 rfl rfl (gf_i hS.1 (hS.1.fr qa_104 qr_22_7).2 qi_8_15 rfl)) H
      have H : Ev none (e1 + 1) 59 (if (zI M (fR M 104 7) 15) < 60 then 68 else 52) [some (.ref 104), some (.int k), some (.ref (oI M (fR M 104 7 + 10) k)), c3] [] M v M' 0 0 := Ev.back 2 (fun n => rfl) H
      by_cases h5 : (zI M (fR M 104 7) 15) < 60
      · rw [if_pos h5] at H
        have H : Ev none (e1 + 1) 59 69 [some (.ref 104), some (.int k), some (.ref (oI M (fR M 104 7 + 10) k)), c3] [.ref 104] M v M' 0 0 := Ev.back 1 (fun n => rfl) H
        have H : Ev none (e1 + 1) 59 72 [some (.ref 104), some (.int k), some (.ref (oI M (fR M 104 7 + 10) k)), c3] [.ref (fR M 104 7)] M v M' 0 0 := Ev.back 1 (gs_3 rfl rfl (gf_r hS.1 qa_104 qr_22_7 rfl)) H
        have H : Ev none (e1 + 1) 59 75 [some (.ref 104), some (.int k), some (.ref (oI M (fR M 104 7 + 10) k)), c3] [.ref (fR M 104 7 + 9)] M v M' 0 0 := Ev.back 1 (gs_3 rfl rfl (gf_x hS.1 (hS.1.fr qa_104 qr_22_7).2 qo_8 (fx_l10 hS (hS.1.fr qa_104 qr_22_7).2) rfl)) H
        have H : Ev none (e1 + 1) 59 76 [some (.ref 104), some (.int k), some (.ref (oI M (fR M 104 7 + 10) k)), c3] [.ref (oI M (fR M 104 7 + 10) k), .ref (fR M 104 7 + 9)] M v M' 0 0 := Ev.back 1 (fun n => rfl) H
        have H : Ev none (e1 + 1) 59 79 [some (.ref 104), some (.int k), some (.ref (oI M (fR M 104 7 + 10) k)), c3] [.int (zI M (oI M (fR M 104 7 + 10) k) 0), .ref (fR M 104 7 + 9)] M v M' 0 0 := Ev.back 1 (gs_3 rfl rfl (gf_i hS.1 b2.2 qi_20_0 rfl)) H
        obtain ⟨b6, H⟩ := Ev.ial rfl rfl hS.1 (fx_h10 (hS.1.fr qa_104 qr_22_7).2) qw_17 H
        have H : Ev none (e1 + 1) 59 80 [some (.ref 104), some (.int k), some (.ref (oI M (fR M 104 7 + 10) k)), c3] [.int (rI M (fR M 104 7 + 9) (zI M (oI M (fR M 104 7 + 10) k) 0))] M v M' 0 0 := H
        have H : Ev none (e1 + 1) 59 82 [some (.ref 104), some (.int k), some (.ref (oI M (fR M 104 7 + 10) k)), some (.int (rI M (fR M 104 7 + 9) (zI M (oI M (fR M 104 7 + 10) k) 0)))] [.ref 104] M v M' 0 0 := Ev.back 2 (fun n => rfl) H
        have H : Ev none (e1 + 1) 59 85 [some (.ref 104), some (.int k), some (.ref (oI M (fR M 104 7 + 10) k)), some (.int (rI M (fR M 104 7 + 9) (zI M (oI M (fR M 104 7 + 10) k) 0)))] [.ref (fR M 104 7)] M v M' 0 0 := Ev.back 1 (gs_3 rfl rfl (gf_r hS.1 qa_104 qr_22_7 rfl)) H
        have H : Ev none (e1 + 1) 59 88 [some (.ref 104), some (.int k), some (.ref (oI M (fR M 104 7 + 10) k)), some (.int (rI M (fR M 104 7 + 9) (zI M (oI M (fR M 104 7 + 10) k) 0)))] [.ref (fR M 104 7 + 11)] M v M' 0 0 := Ev.back 1 (gs_3 rfl rfl (gf_x hS.1 (hS.1.fr qa_104 qr_22_7).2 qo_8 (fx_l14 hS (hS.1.fr qa_104 qr_22_7).2) rfl)) H
        have H : Ev none (e1 + 1) 59 89 [some (.ref 104), some (.int k), some (.ref (oI M (fR M 104 7 + 10) k)), some (.int (rI M (fR M 104 7 + 9) (zI M (oI M (fR M 104 7 + 10) k) 0)))] [.ref 104, .ref (fR M 104 7 + 11)] M v M' 0 0 := Ev.back 1 (fun n => rfl) H
        have H : Ev none (e1 + 1) 59 92 [some (.ref 104), some (.int k), some (.ref (oI M (fR M 104 7 + 10) k)), some (.int (rI M (fR M 104 7 + 9) (zI M (oI M (fR M 104 7 + 10) k) 0)))] [.ref (fR M 104 7), .ref (fR M 104 7 + 11)] M v M' 0 0 := Ev.back 1 (gs_3 rfl rfl (gf_r hS.1 qa_104 qr_22_7 rfl)) H
        have H : Ev none (e1 + 1) 59 95 [some (.ref 104), some (.int k), some (.ref (oI M (fR M 104 7 + 10) k)), some (.int (rI M (fR M 104 7 + 9) (zI M (oI M (fR M 104 7 + 10) k) 0)))] [.int (zI M (fR M 104 7) 15), .ref (fR M 104 7 + 11)] M v M' 0 0 := Ev.back 1 (gs_3 rfl rfl (gf_i hS.1 (hS.1.fr qa_104 qr_22_7).2 qi_8_15 rfl)) H
        obtain ⟨b7, H⟩ := Ev.aal rfl rfl hS.1 (fx_h14 (hS.1.fr qa_104 qr_22_7).2) qz_19 H
        have H : Ev none (e1 + 1) 59 96 [some (.ref 104), some (.int k), some (.ref (oI M (fR M 104 7 + 10) k)), some (.int (rI M (fR M 104 7 + 9) (zI M (oI M (fR M 104 7 + 10) k) 0)))] [.ref (oI M (fR M 104 7 + 11) (zI M (fR M 104 7) 15))] M v M' 0 0 := H
        have H : Ev none (e1 + 1) 59 98 [some (.ref 104), some (.int k), some (.ref (oI M (fR M 104 7 + 10) k)), some (.int (rI M (fR M 104 7 + 9) (zI M (oI M (fR M 104 7 + 10) k) 0)))] [.int k, .int (rI M (fR M 104 7 + 9) (zI M (oI M (fR M 104 7 + 10) k) 0)), .ref (oI M (fR M 104 7 + 11) (zI M (fR M 104 7) 15))] M v M' 0 0 := Ev.back 2 (fun n => rfl) H
        obtain ⟨vK8, MK8, K8, H⟩ := Ev.callb (fun n_ => gs_7 rfl rfl (show gCal (.invokevirtual 173) 7 (.int k :: .int (rI M (fR M 104 7 + 9) (zI M (oI M (fR M 104 7 + 10) k) 0)) :: .ref (oI M (fR M 104 7 + 11) (zI M (fR M 104 7) 15)) :: []) M = some (.inr (73, [some (.ref (oI M (fR M 104 7 + 11) (zI M (fR M 104 7) 15))), some (.int (rI M (fR M 104 7 + 9) (zI M (oI M (fR M 104 7 + 10) k) 0))), some (.int k)], [])) from by show @cond (Option ((List Value × Mem) ⊕ (Nat × Lo × List Value))) (true && gRecv M (.ref (oI M (fR M 104 7 + 11) (zI M (fR M 104 7) 15))) 8 && gRoom [] && true) (some (.inr (73, [some (.ref (oI M (fR M 104 7 + 11) (zI M (fR M 104 7) 15))), some (.int (rI M (fR M 104 7 + 9) (zI M (oI M (fR M 104 7 + 10) k) 0))), some (.int k)], []))) none = _; rw [recv_s hS.1 b7.2 qo_21]; rfl)) H
        have K8 : Ev none e1 73 0 [some (.ref (oI M (fR M 104 7 + 11) (zI M (fR M 104 7) 15))), some (.int (rI M (fR M 104 7 + 9) (zI M (oI M (fR M 104 7 + 10) k) 0))), some (.int k)] [] M vK8 MK8 0 0 := K8
        have HF := H
        exact Or.inr (Or.inr (Or.inl ⟨h1, h4, h5, b2.1, b6, b7.1, ⟨e1, vK8, MK8, rfl, K8, HF⟩⟩))
      · rw [if_neg h5] at H
        have H : Ev none (e1 + 1) 59 53 [some (.ref 104), some (.int k), some (.ref (oI M (fR M 104 7 + 10) k)), c3] [.ref 104] M v M' 0 0 := Ev.back 1 (fun n => rfl) H
        have H : Ev none (e1 + 1) 59 56 [some (.ref 104), some (.int k), some (.ref (oI M (fR M 104 7 + 10) k)), c3] [.ref (fR M 104 7)] M v M' 0 0 := Ev.back 1 (gs_3 rfl rfl (gf_r hS.1 qa_104 qr_22_7 rfl)) H
        have H : Ev none (e1 + 1) 59 57 [some (.ref 104), some (.int k), some (.ref (oI M (fR M 104 7 + 10) k)), c3] [.ref (fR M 104 7), .ref (fR M 104 7)] M v M' 0 0 := Ev.back 1 (fun n => rfl) H
        have H : Ev none (e1 + 1) 59 60 [some (.ref 104), some (.int k), some (.ref (oI M (fR M 104 7 + 10) k)), c3] [.int (zI M (fR M 104 7) 19), .ref (fR M 104 7)] M v M' 0 0 := Ev.back 1 (gs_3 rfl rfl (gf_i hS.1 (hS.1.fr qa_104 qr_22_7).2 qi_8_19 rfl)) H
        have H : Ev none (e1 + 1) 59 62 [some (.ref 104), some (.int k), some (.ref (oI M (fR M 104 7 + 10) k)), c3] [.int ((zI M (fR M 104 7) 19) + 1), .ref (fR M 104 7)] M v M' 0 0 := Ev.back 2 (fun n => rfl) H
        obtain ⟨N10, eN10⟩ : ∃ N, N = (wF M (fR M 104 7) 19 ((zI M (fR M 104 7) 19) + 1)) := ⟨_, rfl⟩
        have hN10 : SQ N10 := by rw [eN10]; exact hS.kf
        have H : Ev none (e1 + 1) 59 65 [some (.ref 104), some (.int k), some (.ref (oI M (fR M 104 7 + 10) k)), c3] [] N10 v M' 0 0 := by rw [eN10]; exact Ev.pfi rfl rfl rfl hS.1 (hS.1.fr qa_104 qr_22_7).2 qi_8_19 H
        have H : Ev none (e1 + 1) 59 2 [some (.ref 104), some (.int (k + 1)), some (.ref (oI M (fR M 104 7 + 10) k)), c3] [] N10 v M' 0 0 := Ev.back 3 (fun n => rfl) H
        have HF := H
        subst eN10
        exact Or.inr (Or.inr (Or.inr (⟨h1, h4, h5, b2.1, HF⟩)))
theorem bgn_101 {e : Nat} {M M' : Mem} {v : Option Value} {k aw : Int32} {x : Nat} (hS : SQ M) (a_x : gNth sT x = some 20) (H : Ev none e 59 101 [some (.ref 104), some (.int k), some (.ref x), some (.int aw)] [] M v M' 0 0) : (0 ≤ aw.toInt ∧ aw.toInt < 256) ∧ (0 ≤ aw.toInt ∧ aw.toInt < 256) ∧ Ev none e 59 2 [some (.ref 104), some (.int (k + 1)), some (.ref x), some (.int aw)] [] (wI (wF M (fR M 104 7) 15 ((zI M (fR M 104 7) 15) + 1)) (fR M 104 7 + 8) aw.toNatClampNeg ((rI M (fR M 104 7 + 8) aw) + 1)) v M' 0 0 := by
  have H : Ev none e 59 102 [some (.ref 104), some (.int k), some (.ref x), some (.int aw)] [.ref 104] M v M' 0 0 := Ev.back 1 (fun n => rfl) H
  have H : Ev none e 59 105 [some (.ref 104), some (.int k), some (.ref x), some (.int aw)] [.ref (fR M 104 7)] M v M' 0 0 := Ev.back 1 (gs_3 rfl rfl (gf_r hS.1 qa_104 qr_22_7 rfl)) H
  have H : Ev none e 59 106 [some (.ref 104), some (.int k), some (.ref x), some (.int aw)] [.ref (fR M 104 7), .ref (fR M 104 7)] M v M' 0 0 := Ev.back 1 (fun n => rfl) H
  have H : Ev none e 59 109 [some (.ref 104), some (.int k), some (.ref x), some (.int aw)] [.int (zI M (fR M 104 7) 15), .ref (fR M 104 7)] M v M' 0 0 := Ev.back 1 (gs_3 rfl rfl (gf_i hS.1 (hS.1.fr qa_104 qr_22_7).2 qi_8_15 rfl)) H
  have H : Ev none e 59 111 [some (.ref 104), some (.int k), some (.ref x), some (.int aw)] [.int ((zI M (fR M 104 7) 15) + 1), .ref (fR M 104 7)] M v M' 0 0 := Ev.back 2 (fun n => rfl) H
  obtain ⟨N2, eN2⟩ : ∃ N, N = (wF M (fR M 104 7) 15 ((zI M (fR M 104 7) 15) + 1)) := ⟨_, rfl⟩
  have hN2 : SQ N2 := by rw [eN2]; exact hS.kf
  have H : Ev none e 59 114 [some (.ref 104), some (.int k), some (.ref x), some (.int aw)] [] N2 v M' 0 0 := by rw [eN2]; exact Ev.pfi rfl rfl rfl hS.1 (hS.1.fr qa_104 qr_22_7).2 qi_8_15 H
  have H : Ev none e 59 115 [some (.ref 104), some (.int k), some (.ref x), some (.int aw)] [.ref 104] N2 v M' 0 0 := Ev.back 1 (fun n => rfl) H
  have H : Ev none e 59 118 [some (.ref 104), some (.int k), some (.ref x), some (.int aw)] [.ref (fR N2 104 7)] N2 v M' 0 0 := Ev.back 1 (gs_3 rfl rfl (gf_r hN2.1 qa_104 qr_22_7 rfl)) H
  rw [show fR N2 104 7 = fR M 104 7 from by rw [eN2]; exact fR_wF] at H
  have H : Ev none e 59 121 [some (.ref 104), some (.int k), some (.ref x), some (.int aw)] [.ref (fR M 104 7 + 8)] N2 v M' 0 0 := Ev.back 1 (gs_3 rfl rfl (gf_x hN2.1 (hS.1.fr qa_104 qr_22_7).2 qo_8 (fx_l9 hN2 (hS.1.fr qa_104 qr_22_7).2) rfl)) H
  have H : Ev none e 59 123 [some (.ref 104), some (.int k), some (.ref x), some (.int aw)] [.int aw, .ref (fR M 104 7 + 8), .int aw, .ref (fR M 104 7 + 8)] N2 v M' 0 0 := Ev.back 2 (fun n => rfl) H
  obtain ⟨b3, H⟩ := Ev.ial rfl rfl hN2.1 (fx_h9 (hS.1.fr qa_104 qr_22_7).2) qw_16 H
  have H : Ev none e 59 124 [some (.ref 104), some (.int k), some (.ref x), some (.int aw)] [.int (rI N2 (fR M 104 7 + 8) aw), .int aw, .ref (fR M 104 7 + 8)] N2 v M' 0 0 := H
  rw [show rI N2 (fR M 104 7 + 8) aw = rI M (fR M 104 7 + 8) aw from by rw [eN2]; exact rN_wF] at H
  have H : Ev none e 59 126 [some (.ref 104), some (.int k), some (.ref x), some (.int aw)] [.int ((rI M (fR M 104 7 + 8) aw) + 1), .int aw, .ref (fR M 104 7 + 8)] N2 v M' 0 0 := Ev.back 2 (fun n => rfl) H
  obtain ⟨b4, H⟩ := Ev.ias rfl rfl hN2.1 (fx_h9 (hS.1.fr qa_104 qr_22_7).2) qw_16 H
  obtain ⟨N5, eN5⟩ : ∃ N, N = (wI N2 (fR M 104 7 + 8) aw.toNatClampNeg ((rI M (fR M 104 7 + 8) aw) + 1)) := ⟨_, rfl⟩
  have hN5 : SQ N5 := by rw [eN5]; exact hN2.ki
  have H : Ev none e 59 127 [some (.ref 104), some (.int k), some (.ref x), some (.int aw)] [] N5 v M' 0 0 := by rw [eN5]; exact H
  have H : Ev none e 59 2 [some (.ref 104), some (.int (k + 1)), some (.ref x), some (.int aw)] [] N5 v M' 0 0 := Ev.back 2 (fun n => rfl) H
  have HF := H
  subst eN2 eN5
  exact ⟨b3, b4, HF⟩
theorem lvd_0 {e : Nat} {M M' : Mem} {v : Option Value} {go : Int32} {b : Nat} (hS : SQ M) (a_b : gNth sT b = some 21) (H : Ev none e 60 0 [some (.ref 104), some (.ref b), some (.int go), none] [] M v M' 0 0) : ((zI M b 0) = go ∧ (0 ≤ (zI M b 0).toInt ∧ (zI M b 0).toInt < 256) ∧ (0 ≤ (zI M b 0).toInt ∧ (zI M b 0).toInt < 256) ∧ v = none ∧ M' = (wF (wI (wF (wF M (fR M 104 7) 17 ((zI M (fR M 104 7) 17) + 1)) (fR M 104 7) 18 ((zI M (fR M 104 7) 18) + 0)) (fR M 104 7 + 8) ((zI M b 0).toNatClampNeg) ((rI M (fR M 104 7 + 8) (zI M b 0)) - 1)) b 0 (-1))) ∨ (¬ ((zI M b 0) = go) ∧ 200 ≤ (zI M b 2) ∧ (0 ≤ (zI M b 0).toInt ∧ (zI M b 0).toInt < 256) ∧ (0 ≤ (zI M b 0).toInt ∧ (zI M b 0).toInt < 256) ∧ v = none ∧ M' = (wF (wI (wF (wF M (fR M 104 7) 17 ((zI M (fR M 104 7) 17) + 0)) (fR M 104 7) 18 ((zI M (fR M 104 7) 18) + 1)) (fR M 104 7 + 8) ((zI M b 0).toNatClampNeg) ((rI M (fR M 104 7 + 8) (zI M b 0)) - 1)) b 0 (-1))) ∨ (¬ ((zI M b 0) = go) ∧ ¬ (200 ≤ (zI M b 2)) ∧ v = none ∧ M' = M) := by
  have H : Ev none e 60 1 [some (.ref 104), some (.ref b), some (.int go), none] [.ref b] M v M' 0 0 := Ev.back 1 (fun n => rfl) H
  have H : Ev none e 60 4 [some (.ref 104), some (.ref b), some (.int go), none] [.int (zI M b 0)] M v M' 0 0 := Ev.back 1 (gs_3 rfl rfl (gf_i hS.1 a_b qi_21_0 rfl)) H
  have H : Ev none e 60 (if (zI M b 0) = go then 8 else 12) [some (.ref 104), some (.ref b), some (.int go), none] [] M v M' 0 0 := Ev.back 2 (fun n => rfl) H
  by_cases h1 : (zI M b 0) = go
  · rw [if_pos h1] at H
    have H : Ev none e 60 (if 1 = 0 then 18 else 29) [some (.ref 104), some (.ref b), some (.int go), some (.int 1)] [] M v M' 0 0 := Ev.back 5 (fun n => rfl) H
    rw [if_neg (by decide)] at H
    have H : Ev none e 60 30 [some (.ref 104), some (.ref b), some (.int go), some (.int 1)] [.ref 104] M v M' 0 0 := Ev.back 1 (fun n => rfl) H
    have H : Ev none e 60 33 [some (.ref 104), some (.ref b), some (.int go), some (.int 1)] [.ref (fR M 104 7)] M v M' 0 0 := Ev.back 1 (gs_3 rfl rfl (gf_r hS.1 qa_104 qr_22_7 rfl)) H
    have H : Ev none e 60 34 [some (.ref 104), some (.ref b), some (.int go), some (.int 1)] [.ref (fR M 104 7), .ref (fR M 104 7)] M v M' 0 0 := Ev.back 1 (fun n => rfl) H
    have H : Ev none e 60 37 [some (.ref 104), some (.ref b), some (.int go), some (.int 1)] [.int (zI M (fR M 104 7) 17), .ref (fR M 104 7)] M v M' 0 0 := Ev.back 1 (gs_3 rfl rfl (gf_i hS.1 (hS.1.fr qa_104 qr_22_7).2 qi_8_17 rfl)) H
    have H : Ev none e 60 (if 1 = 0 then 45 else 41) [some (.ref 104), some (.ref b), some (.int go), some (.int 1)] [.int (zI M (fR M 104 7) 17), .ref (fR M 104 7)] M v M' 0 0 := Ev.back 2 (fun n => rfl) H
    rw [if_neg (by decide)] at H
    have H : Ev none e 60 47 [some (.ref 104), some (.ref b), some (.int go), some (.int 1)] [.int ((zI M (fR M 104 7) 17) + 1), .ref (fR M 104 7)] M v M' 0 0 := Ev.back 3 (fun n => rfl) H
    obtain ⟨N3, eN3⟩ : ∃ N, N = (wF M (fR M 104 7) 17 ((zI M (fR M 104 7) 17) + 1)) := ⟨_, rfl⟩
    have hN3 : SQ N3 := by rw [eN3]; exact hS.kf
    have H : Ev none e 60 50 [some (.ref 104), some (.ref b), some (.int go), some (.int 1)] [] N3 v M' 0 0 := by rw [eN3]; exact Ev.pfi rfl rfl rfl hS.1 (hS.1.fr qa_104 qr_22_7).2 qi_8_17 H
    have H : Ev none e 60 51 [some (.ref 104), some (.ref b), some (.int go), some (.int 1)] [.ref 104] N3 v M' 0 0 := Ev.back 1 (fun n => rfl) H
    have H : Ev none e 60 54 [some (.ref 104), some (.ref b), some (.int go), some (.int 1)] [.ref (fR N3 104 7)] N3 v M' 0 0 := Ev.back 1 (gs_3 rfl rfl (gf_r hN3.1 qa_104 qr_22_7 rfl)) H
    rw [show fR N3 104 7 = fR M 104 7 from by rw [eN3]; exact fR_wF] at H
    have H : Ev none e 60 55 [some (.ref 104), some (.ref b), some (.int go), some (.int 1)] [.ref (fR M 104 7), .ref (fR M 104 7)] N3 v M' 0 0 := Ev.back 1 (fun n => rfl) H
    have H : Ev none e 60 58 [some (.ref 104), some (.ref b), some (.int go), some (.int 1)] [.int (zI N3 (fR M 104 7) 18), .ref (fR M 104 7)] N3 v M' 0 0 := Ev.back 1 (gs_3 rfl rfl (gf_i hN3.1 (hS.1.fr qa_104 qr_22_7).2 qi_8_18 rfl)) H
    rw [show zI N3 (fR M 104 7) 18 = zI M (fR M 104 7) 18 from by rw [eN3]; exact fI_wF_ne (fun q => absurd q.2 (by decide))] at H
    have H : Ev none e 60 (if 1 = 0 then 66 else 62) [some (.ref 104), some (.ref b), some (.int go), some (.int 1)] [.int (zI M (fR M 104 7) 18), .ref (fR M 104 7)] N3 v M' 0 0 := Ev.back 2 (fun n => rfl) H
    rw [if_neg (by decide)] at H
    have H : Ev none e 60 68 [some (.ref 104), some (.ref b), some (.int go), some (.int 1)] [.int ((zI M (fR M 104 7) 18) + 0), .ref (fR M 104 7)] N3 v M' 0 0 := Ev.back 3 (fun n => rfl) H
    obtain ⟨N5, eN5⟩ : ∃ N, N = (wF N3 (fR M 104 7) 18 ((zI M (fR M 104 7) 18) + 0)) := ⟨_, rfl⟩
    have hN5 : SQ N5 := by rw [eN5]; exact hN3.kf
    have H : Ev none e 60 71 [some (.ref 104), some (.ref b), some (.int go), some (.int 1)] [] N5 v M' 0 0 := by rw [eN5]; exact Ev.pfi rfl rfl rfl hN3.1 (hS.1.fr qa_104 qr_22_7).2 qi_8_18 H
    have H : Ev none e 60 72 [some (.ref 104), some (.ref b), some (.int go), some (.int 1)] [.ref 104] N5 v M' 0 0 := Ev.back 1 (fun n => rfl) H
    have H : Ev none e 60 75 [some (.ref 104), some (.ref b), some (.int go), some (.int 1)] [.ref (fR N5 104 7)] N5 v M' 0 0 := Ev.back 1 (gs_3 rfl rfl (gf_r hN5.1 qa_104 qr_22_7 rfl)) H
    rw [(show fR N5 104 7 = fR N3 104 7 from by rw [eN5]; exact fR_wF).trans (show fR N3 104 7 = fR M 104 7 from by rw [eN3]; exact fR_wF)] at H
    have H : Ev none e 60 78 [some (.ref 104), some (.ref b), some (.int go), some (.int 1)] [.ref (fR M 104 7 + 8)] N5 v M' 0 0 := Ev.back 1 (gs_3 rfl rfl (gf_x hN5.1 (hS.1.fr qa_104 qr_22_7).2 qo_8 (fx_l9 hN5 (hS.1.fr qa_104 qr_22_7).2) rfl)) H
    have H : Ev none e 60 79 [some (.ref 104), some (.ref b), some (.int go), some (.int 1)] [.ref b, .ref (fR M 104 7 + 8)] N5 v M' 0 0 := Ev.back 1 (fun n => rfl) H
    have H : Ev none e 60 82 [some (.ref 104), some (.ref b), some (.int go), some (.int 1)] [.int (zI N5 b 0), .ref (fR M 104 7 + 8)] N5 v M' 0 0 := Ev.back 1 (gs_3 rfl rfl (gf_i hN5.1 a_b qi_21_0 rfl)) H
    rw [(show zI N5 b 0 = zI N3 b 0 from by rw [eN5]; exact fI_wF_ne (fun q => absurd q.2 (by decide))).trans (show zI N3 b 0 = zI M b 0 from by rw [eN3]; exact fI_wF_ne (fun q => absurd q.2 (by decide)))] at H
    have H : Ev none e 60 83 [some (.ref 104), some (.ref b), some (.int go), some (.int 1)] [.int (zI M b 0), .ref (fR M 104 7 + 8), .int (zI M b 0), .ref (fR M 104 7 + 8)] N5 v M' 0 0 := Ev.back 1 (fun n => rfl) H
    obtain ⟨b6, H⟩ := Ev.ial rfl rfl hN5.1 (fx_h9 (hS.1.fr qa_104 qr_22_7).2) qw_16 H
    have H : Ev none e 60 84 [some (.ref 104), some (.ref b), some (.int go), some (.int 1)] [.int (rI N5 (fR M 104 7 + 8) (zI M b 0)), .int (zI M b 0), .ref (fR M 104 7 + 8)] N5 v M' 0 0 := H
    rw [(show rI N5 (fR M 104 7 + 8) (zI M b 0) = rI N3 (fR M 104 7 + 8) (zI M b 0) from by rw [eN5]; exact rN_wF).trans (show rI N3 (fR M 104 7 + 8) (zI M b 0) = rI M (fR M 104 7 + 8) (zI M b 0) from by rw [eN3]; exact rN_wF)] at H
    have H : Ev none e 60 86 [some (.ref 104), some (.ref b), some (.int go), some (.int 1)] [.int ((rI M (fR M 104 7 + 8) (zI M b 0)) - 1), .int (zI M b 0), .ref (fR M 104 7 + 8)] N5 v M' 0 0 := Ev.back 2 (fun n => rfl) H
    obtain ⟨b7, H⟩ := Ev.ias rfl rfl hN5.1 (fx_h9 (hS.1.fr qa_104 qr_22_7).2) qw_16 H
    obtain ⟨N8, eN8⟩ : ∃ N, N = (wI N5 (fR M 104 7 + 8) ((zI M b 0).toNatClampNeg) ((rI M (fR M 104 7 + 8) (zI M b 0)) - 1)) := ⟨_, rfl⟩
    have hN8 : SQ N8 := by rw [eN8]; exact hN5.ki
    have H : Ev none e 60 87 [some (.ref 104), some (.ref b), some (.int go), some (.int 1)] [] N8 v M' 0 0 := by rw [eN8]; exact H
    have H : Ev none e 60 89 [some (.ref 104), some (.ref b), some (.int go), some (.int 1)] [.int (-1), .ref b] N8 v M' 0 0 := Ev.back 2 (fun n => rfl) H
    obtain ⟨N10, eN10⟩ : ∃ N, N = (wF N8 b 0 (-1)) := ⟨_, rfl⟩
    have hN10 : SQ N10 := by rw [eN10]; exact hN8.kf
    have H : Ev none e 60 92 [some (.ref 104), some (.ref b), some (.int go), some (.int 1)] [] N10 v M' 0 0 := by rw [eN10]; exact Ev.pfi rfl rfl rfl hN8.1 a_b qi_21_0 H
    obtain ⟨z1, z2⟩ := Ev.retb (fun n => rfl) H
    subst eN3 eN5 eN8 eN10
    exact Or.inl ⟨h1, b6, b7, z1, z2⟩
  · rw [if_neg h1] at H
    have H : Ev none e 60 (if 0 = 0 then 18 else 29) [some (.ref 104), some (.ref b), some (.int go), some (.int 0)] [] M v M' 0 0 := Ev.back 4 (fun n => rfl) H
    rw [if_pos (by decide)] at H
    have H : Ev none e 60 19 [some (.ref 104), some (.ref b), some (.int go), some (.int 0)] [.ref b] M v M' 0 0 := Ev.back 1 (fun n => rfl) H
    have H : Ev none e 60 22 [some (.ref 104), some (.ref b), some (.int go), some (.int 0)] [.int (zI M b 2)] M v M' 0 0 := Ev.back 1 (gs_3 rfl rfl (gf_i hS.1 a_b qi_21_2 rfl)) H
    have H : Ev none e 60 (if 200 ≤ (zI M b 2) then 29 else 28) [some (.ref 104), some (.ref b), some (.int go), some (.int 0)] [] M v M' 0 0 := Ev.back 2 (fun n => rfl) H
    by_cases h11 : 200 ≤ (zI M b 2)
    · rw [if_pos h11] at H
      have H : Ev none e 60 30 [some (.ref 104), some (.ref b), some (.int go), some (.int 0)] [.ref 104] M v M' 0 0 := Ev.back 1 (fun n => rfl) H
      have H : Ev none e 60 33 [some (.ref 104), some (.ref b), some (.int go), some (.int 0)] [.ref (fR M 104 7)] M v M' 0 0 := Ev.back 1 (gs_3 rfl rfl (gf_r hS.1 qa_104 qr_22_7 rfl)) H
      have H : Ev none e 60 34 [some (.ref 104), some (.ref b), some (.int go), some (.int 0)] [.ref (fR M 104 7), .ref (fR M 104 7)] M v M' 0 0 := Ev.back 1 (fun n => rfl) H
      have H : Ev none e 60 37 [some (.ref 104), some (.ref b), some (.int go), some (.int 0)] [.int (zI M (fR M 104 7) 17), .ref (fR M 104 7)] M v M' 0 0 := Ev.back 1 (gs_3 rfl rfl (gf_i hS.1 (hS.1.fr qa_104 qr_22_7).2 qi_8_17 rfl)) H
      have H : Ev none e 60 (if 0 = 0 then 45 else 41) [some (.ref 104), some (.ref b), some (.int go), some (.int 0)] [.int (zI M (fR M 104 7) 17), .ref (fR M 104 7)] M v M' 0 0 := Ev.back 2 (fun n => rfl) H
      rw [if_pos (by decide)] at H
      have H : Ev none e 60 47 [some (.ref 104), some (.ref b), some (.int go), some (.int 0)] [.int ((zI M (fR M 104 7) 17) + 0), .ref (fR M 104 7)] M v M' 0 0 := Ev.back 2 (fun n => rfl) H
      obtain ⟨N13, eN13⟩ : ∃ N, N = (wF M (fR M 104 7) 17 ((zI M (fR M 104 7) 17) + 0)) := ⟨_, rfl⟩
      have hN13 : SQ N13 := by rw [eN13]; exact hS.kf
      have H : Ev none e 60 50 [some (.ref 104), some (.ref b), some (.int go), some (.int 0)] [] N13 v M' 0 0 := by rw [eN13]; exact Ev.pfi rfl rfl rfl hS.1 (hS.1.fr qa_104 qr_22_7).2 qi_8_17 H
      have H : Ev none e 60 51 [some (.ref 104), some (.ref b), some (.int go), some (.int 0)] [.ref 104] N13 v M' 0 0 := Ev.back 1 (fun n => rfl) H
      have H : Ev none e 60 54 [some (.ref 104), some (.ref b), some (.int go), some (.int 0)] [.ref (fR N13 104 7)] N13 v M' 0 0 := Ev.back 1 (gs_3 rfl rfl (gf_r hN13.1 qa_104 qr_22_7 rfl)) H
      rw [show fR N13 104 7 = fR M 104 7 from by rw [eN13]; exact fR_wF] at H
      have H : Ev none e 60 55 [some (.ref 104), some (.ref b), some (.int go), some (.int 0)] [.ref (fR M 104 7), .ref (fR M 104 7)] N13 v M' 0 0 := Ev.back 1 (fun n => rfl) H
      have H : Ev none e 60 58 [some (.ref 104), some (.ref b), some (.int go), some (.int 0)] [.int (zI N13 (fR M 104 7) 18), .ref (fR M 104 7)] N13 v M' 0 0 := Ev.back 1 (gs_3 rfl rfl (gf_i hN13.1 (hS.1.fr qa_104 qr_22_7).2 qi_8_18 rfl)) H
      rw [show zI N13 (fR M 104 7) 18 = zI M (fR M 104 7) 18 from by rw [eN13]; exact fI_wF_ne (fun q => absurd q.2 (by decide))] at H
      have H : Ev none e 60 (if 0 = 0 then 66 else 62) [some (.ref 104), some (.ref b), some (.int go), some (.int 0)] [.int (zI M (fR M 104 7) 18), .ref (fR M 104 7)] N13 v M' 0 0 := Ev.back 2 (fun n => rfl) H
      rw [if_pos (by decide)] at H
      have H : Ev none e 60 68 [some (.ref 104), some (.ref b), some (.int go), some (.int 0)] [.int ((zI M (fR M 104 7) 18) + 1), .ref (fR M 104 7)] N13 v M' 0 0 := Ev.back 2 (fun n => rfl) H
      obtain ⟨N15, eN15⟩ : ∃ N, N = (wF N13 (fR M 104 7) 18 ((zI M (fR M 104 7) 18) + 1)) := ⟨_, rfl⟩
      have hN15 : SQ N15 := by rw [eN15]; exact hN13.kf
      have H : Ev none e 60 71 [some (.ref 104), some (.ref b), some (.int go), some (.int 0)] [] N15 v M' 0 0 := by rw [eN15]; exact Ev.pfi rfl rfl rfl hN13.1 (hS.1.fr qa_104 qr_22_7).2 qi_8_18 H
      have H : Ev none e 60 72 [some (.ref 104), some (.ref b), some (.int go), some (.int 0)] [.ref 104] N15 v M' 0 0 := Ev.back 1 (fun n => rfl) H
      have H : Ev none e 60 75 [some (.ref 104), some (.ref b), some (.int go), some (.int 0)] [.ref (fR N15 104 7)] N15 v M' 0 0 := Ev.back 1 (gs_3 rfl rfl (gf_r hN15.1 qa_104 qr_22_7 rfl)) H
      rw [(show fR N15 104 7 = fR N13 104 7 from by rw [eN15]; exact fR_wF).trans (show fR N13 104 7 = fR M 104 7 from by rw [eN13]; exact fR_wF)] at H
      have H : Ev none e 60 78 [some (.ref 104), some (.ref b), some (.int go), some (.int 0)] [.ref (fR M 104 7 + 8)] N15 v M' 0 0 := Ev.back 1 (gs_3 rfl rfl (gf_x hN15.1 (hS.1.fr qa_104 qr_22_7).2 qo_8 (fx_l9 hN15 (hS.1.fr qa_104 qr_22_7).2) rfl)) H
      have H : Ev none e 60 79 [some (.ref 104), some (.ref b), some (.int go), some (.int 0)] [.ref b, .ref (fR M 104 7 + 8)] N15 v M' 0 0 := Ev.back 1 (fun n => rfl) H
      have H : Ev none e 60 82 [some (.ref 104), some (.ref b), some (.int go), some (.int 0)] [.int (zI N15 b 0), .ref (fR M 104 7 + 8)] N15 v M' 0 0 := Ev.back 1 (gs_3 rfl rfl (gf_i hN15.1 a_b qi_21_0 rfl)) H
      rw [(show zI N15 b 0 = zI N13 b 0 from by rw [eN15]; exact fI_wF_ne (fun q => absurd q.2 (by decide))).trans (show zI N13 b 0 = zI M b 0 from by rw [eN13]; exact fI_wF_ne (fun q => absurd q.2 (by decide)))] at H
      have H : Ev none e 60 83 [some (.ref 104), some (.ref b), some (.int go), some (.int 0)] [.int (zI M b 0), .ref (fR M 104 7 + 8), .int (zI M b 0), .ref (fR M 104 7 + 8)] N15 v M' 0 0 := Ev.back 1 (fun n => rfl) H
      obtain ⟨b16, H⟩ := Ev.ial rfl rfl hN15.1 (fx_h9 (hS.1.fr qa_104 qr_22_7).2) qw_16 H
      have H : Ev none e 60 84 [some (.ref 104), some (.ref b), some (.int go), some (.int 0)] [.int (rI N15 (fR M 104 7 + 8) (zI M b 0)), .int (zI M b 0), .ref (fR M 104 7 + 8)] N15 v M' 0 0 := H
      rw [(show rI N15 (fR M 104 7 + 8) (zI M b 0) = rI N13 (fR M 104 7 + 8) (zI M b 0) from by rw [eN15]; exact rN_wF).trans (show rI N13 (fR M 104 7 + 8) (zI M b 0) = rI M (fR M 104 7 + 8) (zI M b 0) from by rw [eN13]; exact rN_wF)] at H
      have H : Ev none e 60 86 [some (.ref 104), some (.ref b), some (.int go), some (.int 0)] [.int ((rI M (fR M 104 7 + 8) (zI M b 0)) - 1), .int (zI M b 0), .ref (fR M 104 7 + 8)] N15 v M' 0 0 := Ev.back 2 (fun n => rfl) H
      obtain ⟨b17, H⟩ := Ev.ias rfl rfl hN15.1 (fx_h9 (hS.1.fr qa_104 qr_22_7).2) qw_16 H
      obtain ⟨N18, eN18⟩ : ∃ N, N = (wI N15 (fR M 104 7 + 8) ((zI M b 0).toNatClampNeg) ((rI M (fR M 104 7 + 8) (zI M b 0)) - 1)) := ⟨_, rfl⟩
      have hN18 : SQ N18 := by rw [eN18]; exact hN15.ki
      have H : Ev none e 60 87 [some (.ref 104), some (.ref b), some (.int go), some (.int 0)] [] N18 v M' 0 0 := by rw [eN18]; exact H
      have H : Ev none e 60 89 [some (.ref 104), some (.ref b), some (.int go), some (.int 0)] [.int (-1), .ref b] N18 v M' 0 0 := Ev.back 2 (fun n => rfl) H
      obtain ⟨N20, eN20⟩ : ∃ N, N = (wF N18 b 0 (-1)) := ⟨_, rfl⟩
      have hN20 : SQ N20 := by rw [eN20]; exact hN18.kf
      have H : Ev none e 60 92 [some (.ref 104), some (.ref b), some (.int go), some (.int 0)] [] N20 v M' 0 0 := by rw [eN20]; exact Ev.pfi rfl rfl rfl hN18.1 a_b qi_21_0 H
      obtain ⟨z1, z2⟩ := Ev.retb (fun n => rfl) H
      subst eN13 eN15 eN18 eN20
      exact Or.inr (Or.inl ⟨h1, h11, b16, b17, z1, z2⟩)
    · rw [if_neg h11] at H
      obtain ⟨z1, z2⟩ := Ev.retb (fun n => rfl) H
      exact Or.inr (Or.inr (⟨h1, h11, z1, z2⟩))
theorem swp_0 {e : Nat} {M M' : Mem} {v : Option Value} (hS : SQ M) (H : Ev none e 61 0 [some (.ref 104), none, none, none] [] M v M' 0 0) : Ev none e 61 4 [some (.ref 104), some (.int 0), some (.int 0), none] [] M v M' 0 0 := by
  have H : Ev none e 61 4 [some (.ref 104), some (.int 0), some (.int 0), none] [] M v M' 0 0 := Ev.back 4 (fun n => rfl) H
  have HF := H
  exact HF
theorem swp_4 {e : Nat} {M M' : Mem} {v : Option Value} {sy i : Int32} {c3 : Option Value} (hS : SQ M) (H : Ev none e 61 4 [some (.ref 104), some (.int sy), some (.int i), c3] [] M v M' 0 0) : ((zI M (fR M 104 7) 15) ≤ i ∧ v = none ∧ M' = (wF M (fR M 104 7) 15 sy)) ∨ (¬ ((zI M (fR M 104 7) 15) ≤ i) ∧ (zI M (oI M (fR M 104 7 + 11) i) 0) = (-1) ∧ (0 ≤ i.toInt ∧ i.toInt < 60) ∧ Ev none e 61 4 [some (.ref 104), some (.int sy), some (.int (i + 1)), some (.ref (oI M (fR M 104 7 + 11) i))] [] M v M' 0 0) ∨ (¬ ((zI M (fR M 104 7) 15) ≤ i) ∧ ¬ ((zI M (oI M (fR M 104 7 + 11) i) 0) = (-1)) ∧ (0 ≤ i.toInt ∧ i.toInt < 60) ∧ (0 ≤ sy.toInt ∧ sy.toInt < 60) ∧ (0 ≤ i.toInt ∧ i.toInt < 60) ∧ (0 ≤ sy.toInt ∧ sy.toInt < 60) ∧ Ev none e 61 4 [some (.ref 104), some (.int (sy + 1)), some (.int (i + 1)), some (.ref (oI M (fR M 104 7 + 11) i))] [] (wO (wO M (fR M 104 7 + 11) i.toNatClampNeg (oI M (fR M 104 7 + 11) sy)) (fR M 104 7 + 11) sy.toNatClampNeg (oI M (fR M 104 7 + 11) i)) v M' 0 0) := by
  have H : Ev none e 61 6 [some (.ref 104), some (.int sy), some (.int i), c3] [.ref 104, .int i] M v M' 0 0 := Ev.back 2 (fun n => rfl) H
  have H : Ev none e 61 9 [some (.ref 104), some (.int sy), some (.int i), c3] [.ref (fR M 104 7), .int i] M v M' 0 0 := Ev.back 1 (gs_3 rfl rfl (gf_r hS.1 qa_104 qr_22_7 rfl)) H
  have H : Ev none e 61 12 [some (.ref 104), some (.int sy), some (.int i), c3] [.int (zI M (fR M 104 7) 15), .int i] M v M' 0 0 := Ev.back 1 (gs_3 rfl rfl (gf_i hS.1 (hS.1.fr qa_104 qr_22_7).2 qi_8_15 rfl)) H
  have H : Ev none e 61 (if (zI M (fR M 104 7) 15) ≤ i then 70 else 15) [some (.ref 104), some (.int sy), some (.int i), c3] [] M v M' 0 0 := Ev.back 1 (fun n => rfl) H
  by_cases h1 : (zI M (fR M 104 7) 15) ≤ i
  · rw [if_pos h1] at H
    have H : Ev none e 61 71 [some (.ref 104), some (.int sy), some (.int i), c3] [.ref 104] M v M' 0 0 := Ev.back 1 (fun n => rfl) H
    have H : Ev none e 61 74 [some (.ref 104), some (.int sy), some (.int i), c3] [.ref (fR M 104 7)] M v M' 0 0 := Ev.back 1 (gs_3 rfl rfl (gf_r hS.1 qa_104 qr_22_7 rfl)) H
    have H : Ev none e 61 75 [some (.ref 104), some (.int sy), some (.int i), c3] [.int sy, .ref (fR M 104 7)] M v M' 0 0 := Ev.back 1 (fun n => rfl) H
    obtain ⟨N3, eN3⟩ : ∃ N, N = (wF M (fR M 104 7) 15 sy) := ⟨_, rfl⟩
    have hN3 : SQ N3 := by rw [eN3]; exact hS.kf
    have H : Ev none e 61 78 [some (.ref 104), some (.int sy), some (.int i), c3] [] N3 v M' 0 0 := by rw [eN3]; exact Ev.pfi rfl rfl rfl hS.1 (hS.1.fr qa_104 qr_22_7).2 qi_8_15 H
    obtain ⟨z1, z2⟩ := Ev.retb (fun n => rfl) H
    subst eN3
    exact Or.inl ⟨h1, z1, z2⟩
  · rw [if_neg h1] at H
    have H : Ev none e 61 16 [some (.ref 104), some (.int sy), some (.int i), c3] [.ref 104] M v M' 0 0 := Ev.back 1 (fun n => rfl) H
    have H : Ev none e 61 19 [some (.ref 104), some (.int sy), some (.int i), c3] [.ref (fR M 104 7)] M v M' 0 0 := Ev.back 1 (gs_3 rfl rfl (gf_r hS.1 qa_104 qr_22_7 rfl)) H
    have H : Ev none e 61 22 [some (.ref 104), some (.int sy), some (.int i), c3] [.ref (fR M 104 7 + 11)] M v M' 0 0 := Ev.back 1 (gs_3 rfl rfl (gf_x hS.1 (hS.1.fr qa_104 qr_22_7).2 qo_8 (fx_l14 hS (hS.1.fr qa_104 qr_22_7).2) rfl)) H
    have H : Ev none e 61 23 [some (.ref 104), some (.int sy), some (.int i), c3] [.int i, .ref (fR M 104 7 + 11)] M v M' 0 0 := Ev.back 1 (fun n => rfl) H
    obtain ⟨b4, H⟩ := Ev.aal rfl rfl hS.1 (fx_h14 (hS.1.fr qa_104 qr_22_7).2) qz_19 H
    have H : Ev none e 61 24 [some (.ref 104), some (.int sy), some (.int i), c3] [.ref (oI M (fR M 104 7 + 11) i)] M v M' 0 0 := H
    have H : Ev none e 61 26 [some (.ref 104), some (.int sy), some (.int i), some (.ref (oI M (fR M 104 7 + 11) i))] [.ref (oI M (fR M 104 7 + 11) i)] M v M' 0 0 := Ev.back 2 (fun n => rfl) H
    have H : Ev none e 61 29 [some (.ref 104), some (.int sy), some (.int i), some (.ref (oI M (fR M 104 7 + 11) i))] [.int (zI M (oI M (fR M 104 7 + 11) i) 0)] M v M' 0 0 := Ev.back 1 (gs_3 rfl rfl (gf_i hS.1 b4.2 qi_21_0 rfl)) H
    have H : Ev none e 61 (if (zI M (oI M (fR M 104 7 + 11) i) 0) = (-1) then 64 else 33) [some (.ref 104), some (.int sy), some (.int i), some (.ref (oI M (fR M 104 7 + 11) i))] [] M v M' 0 0 := Ev.back 2 (fun n => rfl) H
    by_cases h5 : (zI M (oI M (fR M 104 7 + 11) i) 0) = (-1)
    · rw [if_pos h5] at H
      have H : Ev none e 61 4 [some (.ref 104), some (.int sy), some (.int (i + 1)), some (.ref (oI M (fR M 104 7 + 11) i))] [] M v M' 0 0 := Ev.back 2 (fun n => rfl) H
      have HF := H
      exact Or.inr (Or.inl ⟨h1, h5, b4.1, HF⟩)
    · rw [if_neg h5] at H
      have H : Ev none e 61 34 [some (.ref 104), some (.int sy), some (.int i), some (.ref (oI M (fR M 104 7 + 11) i))] [.ref 104] M v M' 0 0 := Ev.back 1 (fun n => rfl) H
      have H : Ev none e 61 37 [some (.ref 104), some (.int sy), some (.int i), some (.ref (oI M (fR M 104 7 + 11) i))] [.ref (fR M 104 7)] M v M' 0 0 := Ev.back 1 (gs_3 rfl rfl (gf_r hS.1 qa_104 qr_22_7 rfl)) H
      have H : Ev none e 61 40 [some (.ref 104), some (.int sy), some (.int i), some (.ref (oI M (fR M 104 7 + 11) i))] [.ref (fR M 104 7 + 11)] M v M' 0 0 := Ev.back 1 (gs_3 rfl rfl (gf_x hS.1 (hS.1.fr qa_104 qr_22_7).2 qo_8 (fx_l14 hS (hS.1.fr qa_104 qr_22_7).2) rfl)) H
      have H : Ev none e 61 42 [some (.ref 104), some (.int sy), some (.int i), some (.ref (oI M (fR M 104 7 + 11) i))] [.ref 104, .int i, .ref (fR M 104 7 + 11)] M v M' 0 0 := Ev.back 2 (fun n => rfl) H
      have H : Ev none e 61 45 [some (.ref 104), some (.int sy), some (.int i), some (.ref (oI M (fR M 104 7 + 11) i))] [.ref (fR M 104 7), .int i, .ref (fR M 104 7 + 11)] M v M' 0 0 := Ev.back 1 (gs_3 rfl rfl (gf_r hS.1 qa_104 qr_22_7 rfl)) H
      have H : Ev none e 61 48 [some (.ref 104), some (.int sy), some (.int i), some (.ref (oI M (fR M 104 7 + 11) i))] [.ref (fR M 104 7 + 11), .int i, .ref (fR M 104 7 + 11)] M v M' 0 0 := Ev.back 1 (gs_3 rfl rfl (gf_x hS.1 (hS.1.fr qa_104 qr_22_7).2 qo_8 (fx_l14 hS (hS.1.fr qa_104 qr_22_7).2) rfl)) H
      have H : Ev none e 61 49 [some (.ref 104), some (.int sy), some (.int i), some (.ref (oI M (fR M 104 7 + 11) i))] [.int sy, .ref (fR M 104 7 + 11), .int i, .ref (fR M 104 7 + 11)] M v M' 0 0 := Ev.back 1 (fun n => rfl) H
      obtain ⟨b6, H⟩ := Ev.aal rfl rfl hS.1 (fx_h14 (hS.1.fr qa_104 qr_22_7).2) qz_19 H
      have H : Ev none e 61 50 [some (.ref 104), some (.int sy), some (.int i), some (.ref (oI M (fR M 104 7 + 11) i))] [.ref (oI M (fR M 104 7 + 11) sy), .int i, .ref (fR M 104 7 + 11)] M v M' 0 0 := H
      obtain ⟨b7, H⟩ := Ev.aas rfl rfl hS.1 (fx_h14 (hS.1.fr qa_104 qr_22_7).2) qz_19 H
      obtain ⟨N8, eN8⟩ : ∃ N, N = (wO M (fR M 104 7 + 11) i.toNatClampNeg (oI M (fR M 104 7 + 11) sy)) := ⟨_, rfl⟩
      have hN8 : SQ N8 := by rw [eN8]; exact hS.ko (fx_h14 (hS.1.fr qa_104 qr_22_7).2) qz_19 b6.2
      have H : Ev none e 61 51 [some (.ref 104), some (.int sy), some (.int i), some (.ref (oI M (fR M 104 7 + 11) i))] [] N8 v M' 0 0 := by rw [eN8]; exact H
      have H : Ev none e 61 52 [some (.ref 104), some (.int sy), some (.int i), some (.ref (oI M (fR M 104 7 + 11) i))] [.ref 104] N8 v M' 0 0 := Ev.back 1 (fun n => rfl) H
      have H : Ev none e 61 55 [some (.ref 104), some (.int sy), some (.int i), some (.ref (oI M (fR M 104 7 + 11) i))] [.ref (fR N8 104 7)] N8 v M' 0 0 := Ev.back 1 (gs_3 rfl rfl (gf_r hN8.1 qa_104 qr_22_7 rfl)) H
      rw [show fR N8 104 7 = fR M 104 7 from by rw [eN8]; exact fR_wO] at H
      have H : Ev none e 61 58 [some (.ref 104), some (.int sy), some (.int i), some (.ref (oI M (fR M 104 7 + 11) i))] [.ref (fR M 104 7 + 11)] N8 v M' 0 0 := Ev.back 1 (gs_3 rfl rfl (gf_x hN8.1 (hS.1.fr qa_104 qr_22_7).2 qo_8 (fx_l14 hN8 (hS.1.fr qa_104 qr_22_7).2) rfl)) H
      have H : Ev none e 61 60 [some (.ref 104), some (.int sy), some (.int i), some (.ref (oI M (fR M 104 7 + 11) i))] [.ref (oI M (fR M 104 7 + 11) i), .int sy, .ref (fR M 104 7 + 11)] N8 v M' 0 0 := Ev.back 2 (fun n => rfl) H
      obtain ⟨b9, H⟩ := Ev.aas rfl rfl hN8.1 (fx_h14 (hS.1.fr qa_104 qr_22_7).2) qz_19 H
      obtain ⟨N10, eN10⟩ : ∃ N, N = (wO N8 (fR M 104 7 + 11) sy.toNatClampNeg (oI M (fR M 104 7 + 11) i)) := ⟨_, rfl⟩
      have hN10 : SQ N10 := by rw [eN10]; exact hN8.ko (fx_h14 (hS.1.fr qa_104 qr_22_7).2) qz_19 b4.2
      have H : Ev none e 61 61 [some (.ref 104), some (.int sy), some (.int i), some (.ref (oI M (fR M 104 7 + 11) i))] [] N10 v M' 0 0 := by rw [eN10]; exact H
      have H : Ev none e 61 4 [some (.ref 104), some (.int (sy + 1)), some (.int (i + 1)), some (.ref (oI M (fR M 104 7 + 11) i))] [] N10 v M' 0 0 := Ev.back 3 (fun n => rfl) H
      have HF := H
      subst eN8 eN10
      exact Or.inr (Or.inr (⟨h1, h5, b4.1, b6.1, b7, b9, HF⟩))
theorem goo_0 {e : Nat} {M M' : Mem} {v : Option Value} {ti : Int32} (hS : SQ M) (H : Ev none e 58 0 [some (.ref 104), some (.int ti), none, none, none, none, none, none, none] [] M v M' 0 0) : Ev none e 58 10 [some (.ref 104), some (.int ti), some (.int (zI M (fR M 104 7) 17)), some (.int 0), none, none, none, none, none] [] M v M' 0 0 := by
  have H : Ev none e 58 1 [some (.ref 104), some (.int ti), none, none, none, none, none, none, none] [.ref 104] M v M' 0 0 := Ev.back 1 (fun n => rfl) H
  have H : Ev none e 58 4 [some (.ref 104), some (.int ti), none, none, none, none, none, none, none] [.ref (fR M 104 7)] M v M' 0 0 := Ev.back 1 (gs_3 rfl rfl (gf_r hS.1 qa_104 qr_22_7 rfl)) H
  have H : Ev none e 58 7 [some (.ref 104), some (.int ti), none, none, none, none, none, none, none] [.int (zI M (fR M 104 7) 17)] M v M' 0 0 := Ev.back 1 (gs_3 rfl rfl (gf_i hS.1 (hS.1.fr qa_104 qr_22_7).2 qi_8_17 rfl)) H
  have H : Ev none e 58 10 [some (.ref 104), some (.int ti), some (.int (zI M (fR M 104 7) 17)), some (.int 0), none, none, none, none, none] [] M v M' 0 0 := Ev.back 3 (fun n => rfl) H
  have HF := H
  exact HF
theorem goo_10 {e : Nat} {M M' : Mem} {v : Option Value} {ti bf n : Int32} {c4 c5 c6 c7 c8 : Option Value} (hS : SQ M) (H : Ev none e 58 10 [some (.ref 104), some (.int ti), some (.int bf), some (.int n), c4, c5, c6, c7, c8] [] M v M' 0 0) : (ti ≤ n ∧ v = some (.int ((zI M (fR M 104 7) 17) - bf)) ∧ M' = M) ∨ (¬ (ti ≤ n) ∧ (zI M 104 10) = 0 ∧ (∃ e1 v1 M1, e = e1 + 1 ∧ Ev none e1 59 0 [some (.ref 104), none, none, none] [] M v1 M1 0 0 ∧ Ev none e 58 26 [some (.ref 104), some (.int ti), some (.int bf), some (.int n), c4, c5, c6, c7, c8] (v1.toList ++ []) M1 v M' 0 0)) ∨ (¬ (ti ≤ n) ∧ ¬ ((zI M 104 10) = 0) ∧ v = some (.int ((zI M (fR M 104 7) 17) - bf)) ∧ M' = M) := by
  have H : Ev none e 58 (if ti ≤ n then 221 else 15) [some (.ref 104), some (.int ti), some (.int bf), some (.int n), c4, c5, c6, c7, c8] [] M v M' 0 0 := Ev.back 3 (fun n => rfl) H
  by_cases h1 : ti ≤ n
  · rw [if_pos h1] at H
    have H : Ev none e 58 222 [some (.ref 104), some (.int ti), some (.int bf), some (.int n), c4, c5, c6, c7, c8] [.ref 104] M v M' 0 0 := Ev.back 1 (fun n => rfl) H
    have H : Ev none e 58 225 [some (.ref 104), some (.int ti), some (.int bf), some (.int n), c4, c5, c6, c7, c8] [.ref (fR M 104 7)] M v M' 0 0 := Ev.back 1 (gs_3 rfl rfl (gf_r hS.1 qa_104 qr_22_7 rfl)) H
    have H : Ev none e 58 228 [some (.ref 104), some (.int ti), some (.int bf), some (.int n), c4, c5, c6, c7, c8] [.int (zI M (fR M 104 7) 17)] M v M' 0 0 := Ev.back 1 (gs_3 rfl rfl (gf_i hS.1 (hS.1.fr qa_104 qr_22_7).2 qi_8_17 rfl)) H
    have H : Ev none e 58 230 [some (.ref 104), some (.int ti), some (.int bf), some (.int n), c4, c5, c6, c7, c8] [.int ((zI M (fR M 104 7) 17) - bf)] M v M' 0 0 := Ev.back 2 (fun n => rfl) H
    obtain ⟨z1, z2⟩ := Ev.retz rfl rfl H
    exact Or.inl ⟨h1, z1, z2⟩
  · rw [if_neg h1] at H
    have H : Ev none e 58 16 [some (.ref 104), some (.int ti), some (.int bf), some (.int n), c4, c5, c6, c7, c8] [.ref 104] M v M' 0 0 := Ev.back 1 (fun n => rfl) H
    have H : Ev none e 58 19 [some (.ref 104), some (.int ti), some (.int bf), some (.int n), c4, c5, c6, c7, c8] [.int (zI M 104 10)] M v M' 0 0 := Ev.back 1 (gs_3 rfl rfl (gf_i hS.1 qa_104 qi_22_10 rfl)) H
    have H : Ev none e 58 (if (zI M 104 10) = 0 then 22 else 221) [some (.ref 104), some (.int ti), some (.int bf), some (.int n), c4, c5, c6, c7, c8] [] M v M' 0 0 := Ev.back 1 (fun n => rfl) H
    by_cases h2 : (zI M 104 10) = 0
    · rw [if_pos h2] at H
      have H : Ev none e 58 23 [some (.ref 104), some (.int ti), some (.int bf), some (.int n), c4, c5, c6, c7, c8] [.ref 104] M v M' 0 0 := Ev.back 1 (fun n => rfl) H
      obtain ⟨e1, rfl⟩ := Ev.dpos rfl rfl H
      obtain ⟨vK3, MK3, K3, H⟩ := Ev.callb (fun n_ => gs_7 rfl rfl (show gCal (.invokevirtual 101) 7 (.ref 104 :: []) M = some (.inr (59, [some (.ref 104), none, none, none], [])) from by show @cond (Option ((List Value × Mem) ⊕ (Nat × Lo × List Value))) (true && gRecv M (.ref 104) 7 && gRoom [] && true) (some (.inr (59, [some (.ref 104), none, none, none], []))) none = _; rw [recv_s hS.1 qa_104 qo_22]; rfl)) H
      have K3 : Ev none e1 59 0 [some (.ref 104), none, none, none] [] M vK3 MK3 0 0 := K3
      have HF := H
      exact Or.inr (Or.inl ⟨h1, h2, ⟨e1, vK3, MK3, rfl, K3, HF⟩⟩)
    · rw [if_neg h2] at H
      have H : Ev none e 58 222 [some (.ref 104), some (.int ti), some (.int bf), some (.int n), c4, c5, c6, c7, c8] [.ref 104] M v M' 0 0 := Ev.back 1 (fun n => rfl) H
      have H : Ev none e 58 225 [some (.ref 104), some (.int ti), some (.int bf), some (.int n), c4, c5, c6, c7, c8] [.ref (fR M 104 7)] M v M' 0 0 := Ev.back 1 (gs_3 rfl rfl (gf_r hS.1 qa_104 qr_22_7 rfl)) H
      have H : Ev none e 58 228 [some (.ref 104), some (.int ti), some (.int bf), some (.int n), c4, c5, c6, c7, c8] [.int (zI M (fR M 104 7) 17)] M v M' 0 0 := Ev.back 1 (gs_3 rfl rfl (gf_i hS.1 (hS.1.fr qa_104 qr_22_7).2 qi_8_17 rfl)) H
      have H : Ev none e 58 230 [some (.ref 104), some (.int ti), some (.int bf), some (.int n), c4, c5, c6, c7, c8] [.int ((zI M (fR M 104 7) 17) - bf)] M v M' 0 0 := Ev.back 2 (fun n => rfl) H
      obtain ⟨z1, z2⟩ := Ev.retz rfl rfl H
      exact Or.inr (Or.inr (⟨h1, h2, z1, z2⟩))
theorem goo_26 {e : Nat} {M M' : Mem} {v : Option Value} {ti bf n : Int32} {c4 c5 c6 c7 c8 : Option Value} (hS : SQ M) (H : Ev none e 58 26 [some (.ref 104), some (.int ti), some (.int bf), some (.int n), c4, c5, c6, c7, c8] [] M v M' 0 0) : Ev none e 58 29 [some (.ref 104), some (.int ti), some (.int bf), some (.int n), some (.int 0), c5, c6, c7, c8] [] M v M' 0 0 := by
  have H : Ev none e 58 29 [some (.ref 104), some (.int ti), some (.int bf), some (.int n), some (.int 0), c5, c6, c7, c8] [] M v M' 0 0 := Ev.back 2 (fun n => rfl) H
  have HF := H
  exact HF
theorem goo_29 {e : Nat} {M M' : Mem} {v : Option Value} {ti bf n i : Int32} {c5 c6 c7 c8 : Option Value} (hS : SQ M) (H : Ev none e 58 29 [some (.ref 104), some (.int ti), some (.int bf), some (.int n), some (.int i), c5, c6, c7, c8] [] M v M' 0 0) : ((zI M (fR M 104 7) 15) ≤ i ∧ (∃ e1 v1 M1, e = e1 + 1 ∧ Ev none e1 61 0 [some (.ref 104), none, none, none] [] M v1 M1 0 0 ∧ Ev none e 58 202 [some (.ref 104), some (.int ti), some (.int bf), some (.int n), some (.int i), c5, c6, c7, c8] (v1.toList ++ []) M1 v M' 0 0)) ∨ (¬ ((zI M (fR M 104 7) 15) ≤ i) ∧ (0 ≤ i.toInt ∧ i.toInt < 60) ∧ (0 ≤ (zI M (oI M (fR M 104 7 + 11) i) 1).toInt ∧ (zI M (oI M (fR M 104 7 + 11) i) 1).toInt < 24) ∧ (0 ≤ (zI M (oI M (fR M 104 7 + 10) (zI M (oI M (fR M 104 7 + 11) i) 1)) 1).toInt ∧ (zI M (oI M (fR M 104 7 + 10) (zI M (oI M (fR M 104 7 + 11) i) 1)) 1).toInt < 9) ∧ (∃ e1 v1 M1, e = e1 + 1 ∧ Ev none e1 66 0 [some (.ref 104), some (.ref (oI M (fR M 104 7 + 11) i)), some (.int (rI M (fR M 104 7 + 9) (zI M (oI M (fR M 104 7 + 10) (zI M (oI M (fR M 104 7 + 11) i) 1)) 1))), some (.int (zI M (oI M (fR M 104 7 + 10) (zI M (oI M (fR M 104 7 + 11) i) 1)) 2)), none, none, none, none, none, none] [] M v1 M1 0 0 ∧ Ev none e 58 96 [some (.ref 104), some (.int ti), some (.int bf), some (.int n), some (.int i), some (.ref (oI M (fR M 104 7 + 11) i)), some (.ref (oI M (fR M 104 7 + 10) (zI M (oI M (fR M 104 7 + 11) i) 1))), some (.int (rI M (fR M 104 7 + 9) (zI M (oI M (fR M 104 7 + 10) (zI M (oI M (fR M 104 7 + 11) i) 1)) 1))), c8] (v1.toList ++ []) M1 v M' 0 0)) := by
  have H : Ev none e 58 32 [some (.ref 104), some (.int ti), some (.int bf), some (.int n), some (.int i), c5, c6, c7, c8] [.ref 104, .int i] M v M' 0 0 := Ev.back 2 (fun n => rfl) H
  have H : Ev none e 58 35 [some (.ref 104), some (.int ti), some (.int bf), some (.int n), some (.int i), c5, c6, c7, c8] [.ref (fR M 104 7), .int i] M v M' 0 0 := Ev.back 1 (gs_3 rfl rfl (gf_r hS.1 qa_104 qr_22_7 rfl)) H
  have H : Ev none e 58 38 [some (.ref 104), some (.int ti), some (.int bf), some (.int n), some (.int i), c5, c6, c7, c8] [.int (zI M (fR M 104 7) 15), .int i] M v M' 0 0 := Ev.back 1 (gs_3 rfl rfl (gf_i hS.1 (hS.1.fr qa_104 qr_22_7).2 qi_8_15 rfl)) H
  have H : Ev none e 58 (if (zI M (fR M 104 7) 15) ≤ i then 198 else 41) [some (.ref 104), some (.int ti), some (.int bf), some (.int n), some (.int i), c5, c6, c7, c8] [] M v M' 0 0 := Ev.back 1 (fun n => rfl) H
  by_cases h1 : (zI M (fR M 104 7) 15) ≤ i
  · rw [if_pos h1] at H
    have H : Ev none e 58 199 [some (.ref 104), some (.int ti), some (.int bf), some (.int n), some (.int i), c5, c6, c7, c8] [.ref 104] M v M' 0 0 := Ev.back 1 (fun n => rfl) H
    obtain ⟨e1, rfl⟩ := Ev.dpos rfl rfl H
    obtain ⟨vK2, MK2, K2, H⟩ := Ev.callb (fun n_ => gs_7 rfl rfl (show gCal (.invokevirtual 155) 7 (.ref 104 :: []) M = some (.inr (61, [some (.ref 104), none, none, none], [])) from by show @cond (Option ((List Value × Mem) ⊕ (Nat × Lo × List Value))) (true && gRecv M (.ref 104) 7 && gRoom [] && true) (some (.inr (61, [some (.ref 104), none, none, none], []))) none = _; rw [recv_s hS.1 qa_104 qo_22]; rfl)) H
    have K2 : Ev none e1 61 0 [some (.ref 104), none, none, none] [] M vK2 MK2 0 0 := K2
    have HF := H
    exact Or.inl ⟨h1, ⟨e1, vK2, MK2, rfl, K2, HF⟩⟩
  · rw [if_neg h1] at H
    have H : Ev none e 58 42 [some (.ref 104), some (.int ti), some (.int bf), some (.int n), some (.int i), c5, c6, c7, c8] [.ref 104] M v M' 0 0 := Ev.back 1 (fun n => rfl) H
    have H : Ev none e 58 45 [some (.ref 104), some (.int ti), some (.int bf), some (.int n), some (.int i), c5, c6, c7, c8] [.ref (fR M 104 7)] M v M' 0 0 := Ev.back 1 (gs_3 rfl rfl (gf_r hS.1 qa_104 qr_22_7 rfl)) H
    have H : Ev none e 58 48 [some (.ref 104), some (.int ti), some (.int bf), some (.int n), some (.int i), c5, c6, c7, c8] [.ref (fR M 104 7 + 11)] M v M' 0 0 := Ev.back 1 (gs_3 rfl rfl (gf_x hS.1 (hS.1.fr qa_104 qr_22_7).2 qo_8 (fx_l14 hS (hS.1.fr qa_104 qr_22_7).2) rfl)) H
    have H : Ev none e 58 50 [some (.ref 104), some (.int ti), some (.int bf), some (.int n), some (.int i), c5, c6, c7, c8] [.int i, .ref (fR M 104 7 + 11)] M v M' 0 0 := Ev.back 1 (fun n => rfl) H
    obtain ⟨b3, H⟩ := Ev.aal rfl rfl hS.1 (fx_h14 (hS.1.fr qa_104 qr_22_7).2) qz_19 H
    have H : Ev none e 58 51 [some (.ref 104), some (.int ti), some (.int bf), some (.int n), some (.int i), c5, c6, c7, c8] [.ref (oI M (fR M 104 7 + 11) i)] M v M' 0 0 := H
    have H : Ev none e 58 54 [some (.ref 104), some (.int ti), some (.int bf), some (.int n), some (.int i), some (.ref (oI M (fR M 104 7 + 11) i)), c6, c7, c8] [.ref 104] M v M' 0 0 := Ev.back 2 (fun n => rfl) H
    have H : Ev none e 58 57 [some (.ref 104), some (.int ti), some (.int bf), some (.int n), some (.int i), some (.ref (oI M (fR M 104 7 + 11) i)), c6, c7, c8] [.ref (fR M 104 7)] M v M' 0 0 := Ev.back 1 (gs_3 rfl rfl (gf_r hS.1 qa_104 qr_22_7 rfl)) H
    have H : Ev none e 58 60 [some (.ref 104), some (.int ti), some (.int bf), some (.int n), some (.int i), some (.ref (oI M (fR M 104 7 + 11) i)), c6, c7, c8] [.ref (fR M 104 7 + 10)] M v M' 0 0 := Ev.back 1 (gs_3 rfl rfl (gf_x hS.1 (hS.1.fr qa_104 qr_22_7).2 qo_8 (fx_l12 hS (hS.1.fr qa_104 qr_22_7).2) rfl)) H
    have H : Ev none e 58 62 [some (.ref 104), some (.int ti), some (.int bf), some (.int n), some (.int i), some (.ref (oI M (fR M 104 7 + 11) i)), c6, c7, c8] [.ref (oI M (fR M 104 7 + 11) i), .ref (fR M 104 7 + 10)] M v M' 0 0 := Ev.back 1 (fun n => rfl) H
    have H : Ev none e 58 65 [some (.ref 104), some (.int ti), some (.int bf), some (.int n), some (.int i), some (.ref (oI M (fR M 104 7 + 11) i)), c6, c7, c8] [.int (zI M (oI M (fR M 104 7 + 11) i) 1), .ref (fR M 104 7 + 10)] M v M' 0 0 := Ev.back 1 (gs_3 rfl rfl (gf_i hS.1 b3.2 qi_21_1 rfl)) H
    obtain ⟨b4, H⟩ := Ev.aal rfl rfl hS.1 (fx_h12 (hS.1.fr qa_104 qr_22_7).2) qz_18 H
    have H : Ev none e 58 66 [some (.ref 104), some (.int ti), some (.int bf), some (.int n), some (.int i), some (.ref (oI M (fR M 104 7 + 11) i)), c6, c7, c8] [.ref (oI M (fR M 104 7 + 10) (zI M (oI M (fR M 104 7 + 11) i) 1))] M v M' 0 0 := H
    have H : Ev none e 58 69 [some (.ref 104), some (.int ti), some (.int bf), some (.int n), some (.int i), some (.ref (oI M (fR M 104 7 + 11) i)), some (.ref (oI M (fR M 104 7 + 10) (zI M (oI M (fR M 104 7 + 11) i) 1))), c7, c8] [.ref 104] M v M' 0 0 := Ev.back 2 (fun n => rfl) H
    have H : Ev none e 58 72 [some (.ref 104), some (.int ti), some (.int bf), some (.int n), some (.int i), some (.ref (oI M (fR M 104 7 + 11) i)), some (.ref (oI M (fR M 104 7 + 10) (zI M (oI M (fR M 104 7 + 11) i) 1))), c7, c8] [.ref (fR M 104 7)] M v M' 0 0 := Ev.back 1 (gs_3 rfl rfl (gf_r hS.1 qa_104 qr_22_7 rfl)) H
    have H : Ev none e 58 75 [some (.ref 104), some (.int ti), some (.int bf), some (.int n), some (.int i), some (.ref (oI M (fR M 104 7 + 11) i)), some (.ref (oI M (fR M 104 7 + 10) (zI M (oI M (fR M 104 7 + 11) i) 1))), c7, c8] [.ref (fR M 104 7 + 9)] M v M' 0 0 := Ev.back 1 (gs_3 rfl rfl (gf_x hS.1 (hS.1.fr qa_104 qr_22_7).2 qo_8 (fx_l10 hS (hS.1.fr qa_104 qr_22_7).2) rfl)) H
    have H : Ev none e 58 77 [some (.ref 104), some (.int ti), some (.int bf), some (.int n), some (.int i), some (.ref (oI M (fR M 104 7 + 11) i)), some (.ref (oI M (fR M 104 7 + 10) (zI M (oI M (fR M 104 7 + 11) i) 1))), c7, c8] [.ref (oI M (fR M 104 7 + 10) (zI M (oI M (fR M 104 7 + 11) i) 1)), .ref (fR M 104 7 + 9)] M v M' 0 0 := Ev.back 1 (fun n => rfl) H
    have H : Ev none e 58 80 [some (.ref 104), some (.int ti), some (.int bf), some (.int n), some (.int i), some (.ref (oI M (fR M 104 7 + 11) i)), some (.ref (oI M (fR M 104 7 + 10) (zI M (oI M (fR M 104 7 + 11) i) 1))), c7, c8] [.int (zI M (oI M (fR M 104 7 + 10) (zI M (oI M (fR M 104 7 + 11) i) 1)) 1), .ref (fR M 104 7 + 9)] M v M' 0 0 := Ev.back 1 (gs_3 rfl rfl (gf_i hS.1 b4.2 qi_20_1 rfl)) H
    obtain ⟨b5, H⟩ := Ev.ial rfl rfl hS.1 (fx_h10 (hS.1.fr qa_104 qr_22_7).2) qw_17 H
    have H : Ev none e 58 81 [some (.ref 104), some (.int ti), some (.int bf), some (.int n), some (.int i), some (.ref (oI M (fR M 104 7 + 11) i)), some (.ref (oI M (fR M 104 7 + 10) (zI M (oI M (fR M 104 7 + 11) i) 1))), c7, c8] [.int (rI M (fR M 104 7 + 9) (zI M (oI M (fR M 104 7 + 10) (zI M (oI M (fR M 104 7 + 11) i) 1)) 1))] M v M' 0 0 := H
    have H : Ev none e 58 90 [some (.ref 104), some (.int ti), some (.int bf), some (.int n), some (.int i), some (.ref (oI M (fR M 104 7 + 11) i)), some (.ref (oI M (fR M 104 7 + 10) (zI M (oI M (fR M 104 7 + 11) i) 1))), some (.int (rI M (fR M 104 7 + 9) (zI M (oI M (fR M 104 7 + 10) (zI M (oI M (fR M 104 7 + 11) i) 1)) 1))), c8] [.ref (oI M (fR M 104 7 + 10) (zI M (oI M (fR M 104 7 + 11) i) 1)), .int (rI M (fR M 104 7 + 9) (zI M (oI M (fR M 104 7 + 10) (zI M (oI M (fR M 104 7 + 11) i) 1)) 1)), .ref (oI M (fR M 104 7 + 11) i), .ref 104] M v M' 0 0 := Ev.back 5 (fun n => rfl) H
    have H : Ev none e 58 93 [some (.ref 104), some (.int ti), some (.int bf), some (.int n), some (.int i), some (.ref (oI M (fR M 104 7 + 11) i)), some (.ref (oI M (fR M 104 7 + 10) (zI M (oI M (fR M 104 7 + 11) i) 1))), some (.int (rI M (fR M 104 7 + 9) (zI M (oI M (fR M 104 7 + 10) (zI M (oI M (fR M 104 7 + 11) i) 1)) 1))), c8] [.int (zI M (oI M (fR M 104 7 + 10) (zI M (oI M (fR M 104 7 + 11) i) 1)) 2), .int (rI M (fR M 104 7 + 9) (zI M (oI M (fR M 104 7 + 10) (zI M (oI M (fR M 104 7 + 11) i) 1)) 1)), .ref (oI M (fR M 104 7 + 11) i), .ref 104] M v M' 0 0 := Ev.back 1 (gs_3 rfl rfl (gf_i hS.1 b4.2 qi_20_2 rfl)) H
    obtain ⟨e1, rfl⟩ := Ev.dpos rfl rfl H
    obtain ⟨vK6, MK6, K6, H⟩ := Ev.callb (fun n_ => gs_7 rfl rfl (show gCal (.invokevirtual 128) 7 (.int (zI M (oI M (fR M 104 7 + 10) (zI M (oI M (fR M 104 7 + 11) i) 1)) 2) :: .int (rI M (fR M 104 7 + 9) (zI M (oI M (fR M 104 7 + 10) (zI M (oI M (fR M 104 7 + 11) i) 1)) 1)) :: .ref (oI M (fR M 104 7 + 11) i) :: .ref 104 :: []) M = some (.inr (66, [some (.ref 104), some (.ref (oI M (fR M 104 7 + 11) i)), some (.int (rI M (fR M 104 7 + 9) (zI M (oI M (fR M 104 7 + 10) (zI M (oI M (fR M 104 7 + 11) i) 1)) 1))), some (.int (zI M (oI M (fR M 104 7 + 10) (zI M (oI M (fR M 104 7 + 11) i) 1)) 2)), none, none, none, none, none, none], [])) from by show @cond (Option ((List Value × Mem) ⊕ (Nat × Lo × List Value))) (true && gRecv M (.ref 104) 7 && gRoom [] && true) (some (.inr (66, [some (.ref 104), some (.ref (oI M (fR M 104 7 + 11) i)), some (.int (rI M (fR M 104 7 + 9) (zI M (oI M (fR M 104 7 + 10) (zI M (oI M (fR M 104 7 + 11) i) 1)) 1))), some (.int (zI M (oI M (fR M 104 7 + 10) (zI M (oI M (fR M 104 7 + 11) i) 1)) 2)), none, none, none, none, none, none], []))) none = _; rw [recv_s hS.1 qa_104 qo_22]; rfl)) H
    have K6 : Ev none e1 66 0 [some (.ref 104), some (.ref (oI M (fR M 104 7 + 11) i)), some (.int (rI M (fR M 104 7 + 9) (zI M (oI M (fR M 104 7 + 10) (zI M (oI M (fR M 104 7 + 11) i) 1)) 1))), some (.int (zI M (oI M (fR M 104 7 + 10) (zI M (oI M (fR M 104 7 + 11) i) 1)) 2)), none, none, none, none, none, none] [] M vK6 MK6 0 0 := K6
    have HF := H
    exact Or.inr (⟨h1, b3.1, b4.1, b5, ⟨e1, vK6, MK6, rfl, K6, HF⟩⟩)
theorem goo_96 {e : Nat} {M M' : Mem} {v : Option Value} {ti bf n i go y : Int32} {b x : Nat} {c8 : Option Value} (hS : SQ M) (a_b : gNth sT b = some 21) (a_x : gNth sT x = some 20) (H : Ev none e 58 96 [some (.ref 104), some (.int ti), some (.int bf), some (.int n), some (.int i), some (.ref b), some (.ref x), some (.int go), c8] [.int y] M v M' 0 0) : (y = (-1) ∧ Ev none e 58 173 [some (.ref 104), some (.int ti), some (.int bf), some (.int n), some (.int i), some (.ref b), some (.ref x), some (.int go), some (.int y)] [] M v M' 0 0) ∨ (¬ (y = (-1)) ∧ (0 ≤ (zI M b 0).toInt ∧ (zI M b 0).toInt < 256) ∧ (0 ≤ (zI M b 0).toInt ∧ (zI M b 0).toInt < 256) ∧ (0 ≤ ((8 * (zI M b 0)) + y).toInt ∧ ((8 * (zI M b 0)) + y).toInt < 2048) ∧ (∃ e1 v1 M1, e = e1 + 1 ∧ Ev none e1 74 0 [some (.ref b), some (.int (rI (wI M (fR M 104 7 + 8) ((zI M b 0).toNatClampNeg) ((rI M (fR M 104 7 + 8) (zI M b 0)) - 1)) 108 ((8 * (zI M b 0)) + y))), some (.int y)] [] (wI M (fR M 104 7 + 8) ((zI M b 0).toNatClampNeg) ((rI M (fR M 104 7 + 8) (zI M b 0)) - 1)) v1 M1 0 0 ∧ Ev none e 58 147 [some (.ref 104), some (.int ti), some (.int bf), some (.int n), some (.int i), some (.ref b), some (.ref x), some (.int go), some (.int y)] (v1.toList ++ []) M1 v M' 0 0)) := by
  have H : Ev none e 58 (if y = (-1) then 173 else 104) [some (.ref 104), some (.int ti), some (.int bf), some (.int n), some (.int i), some (.ref b), some (.ref x), some (.int go), some (.int y)] [] M v M' 0 0 := Ev.back 4 (fun n => rfl) H
  by_cases h1 : y = (-1)
  · rw [if_pos h1] at H
    have HF := H
    exact Or.inl ⟨h1, HF⟩
  · rw [if_neg h1] at H
    have H : Ev none e 58 105 [some (.ref 104), some (.int ti), some (.int bf), some (.int n), some (.int i), some (.ref b), some (.ref x), some (.int go), some (.int y)] [.ref 104] M v M' 0 0 := Ev.back 1 (fun n => rfl) H
    have H : Ev none e 58 108 [some (.ref 104), some (.int ti), some (.int bf), some (.int n), some (.int i), some (.ref b), some (.ref x), some (.int go), some (.int y)] [.ref (fR M 104 7)] M v M' 0 0 := Ev.back 1 (gs_3 rfl rfl (gf_r hS.1 qa_104 qr_22_7 rfl)) H
    have H : Ev none e 58 111 [some (.ref 104), some (.int ti), some (.int bf), some (.int n), some (.int i), some (.ref b), some (.ref x), some (.int go), some (.int y)] [.ref (fR M 104 7 + 8)] M v M' 0 0 := Ev.back 1 (gs_3 rfl rfl (gf_x hS.1 (hS.1.fr qa_104 qr_22_7).2 qo_8 (fx_l9 hS (hS.1.fr qa_104 qr_22_7).2) rfl)) H
    have H : Ev none e 58 113 [some (.ref 104), some (.int ti), some (.int bf), some (.int n), some (.int i), some (.ref b), some (.ref x), some (.int go), some (.int y)] [.ref b, .ref (fR M 104 7 + 8)] M v M' 0 0 := Ev.back 1 (fun n => rfl) H
    have H : Ev none e 58 116 [some (.ref 104), some (.int ti), some (.int bf), some (.int n), some (.int i), some (.ref b), some (.ref x), some (.int go), some (.int y)] [.int (zI M b 0), .ref (fR M 104 7 + 8)] M v M' 0 0 := Ev.back 1 (gs_3 rfl rfl (gf_i hS.1 a_b qi_21_0 rfl)) H
    have H : Ev none e 58 117 [some (.ref 104), some (.int ti), some (.int bf), some (.int n), some (.int i), some (.ref b), some (.ref x), some (.int go), some (.int y)] [.int (zI M b 0), .ref (fR M 104 7 + 8), .int (zI M b 0), .ref (fR M 104 7 + 8)] M v M' 0 0 := Ev.back 1 (fun n => rfl) H
    obtain ⟨b2, H⟩ := Ev.ial rfl rfl hS.1 (fx_h9 (hS.1.fr qa_104 qr_22_7).2) qw_16 H
    have H : Ev none e 58 118 [some (.ref 104), some (.int ti), some (.int bf), some (.int n), some (.int i), some (.ref b), some (.ref x), some (.int go), some (.int y)] [.int (rI M (fR M 104 7 + 8) (zI M b 0)), .int (zI M b 0), .ref (fR M 104 7 + 8)] M v M' 0 0 := H
    have H : Ev none e 58 120 [some (.ref 104), some (.int ti), some (.int bf), some (.int n), some (.int i), some (.ref b), some (.ref x), some (.int go), some (.int y)] [.int ((rI M (fR M 104 7 + 8) (zI M b 0)) - 1), .int (zI M b 0), .ref (fR M 104 7 + 8)] M v M' 0 0 := Ev.back 2 (fun n => rfl) H
    obtain ⟨b3, H⟩ := Ev.ias rfl rfl hS.1 (fx_h9 (hS.1.fr qa_104 qr_22_7).2) qw_16 H
    obtain ⟨N4, eN4⟩ : ∃ N, N = (wI M (fR M 104 7 + 8) ((zI M b 0).toNatClampNeg) ((rI M (fR M 104 7 + 8) (zI M b 0)) - 1)) := ⟨_, rfl⟩
    have hN4 : SQ N4 := by rw [eN4]; exact hS.ki
    have H : Ev none e 58 121 [some (.ref 104), some (.int ti), some (.int bf), some (.int n), some (.int i), some (.ref b), some (.ref x), some (.int go), some (.int y)] [] N4 v M' 0 0 := by rw [eN4]; exact H
    have H : Ev none e 58 124 [some (.ref 104), some (.int ti), some (.int bf), some (.int n), some (.int i), some (.ref b), some (.ref x), some (.int go), some (.int y)] [.ref 104, .ref b] N4 v M' 0 0 := Ev.back 2 (fun n => rfl) H
    have H : Ev none e 58 127 [some (.ref 104), some (.int ti), some (.int bf), some (.int n), some (.int i), some (.ref b), some (.ref x), some (.int go), some (.int y)] [.ref 105, .ref b] N4 v M' 0 0 := Ev.back 1 (gs_3 rfl rfl (gf_u hN4.1 qa_104 qr_22_0 qu_23 rfl)) H
    have H : Ev none e 58 130 [some (.ref 104), some (.int ti), some (.int bf), some (.int n), some (.int i), some (.ref b), some (.ref x), some (.int go), some (.int y)] [.ref 108, .ref b] N4 v M' 0 0 := Ev.back 1 (gs_3 rfl rfl (gf_u hN4.1 qa_105 qr_23_2 qu_26 rfl)) H
    have H : Ev none e 58 134 [some (.ref 104), some (.int ti), some (.int bf), some (.int n), some (.int i), some (.ref b), some (.ref x), some (.int go), some (.int y)] [.ref b, .int 8, .ref 108, .ref b] N4 v M' 0 0 := Ev.back 2 (fun n => rfl) H
    have H : Ev none e 58 137 [some (.ref 104), some (.int ti), some (.int bf), some (.int n), some (.int i), some (.ref b), some (.ref x), some (.int go), some (.int y)] [.int (zI N4 b 0), .int 8, .ref 108, .ref b] N4 v M' 0 0 := Ev.back 1 (gs_3 rfl rfl (gf_i hN4.1 a_b qi_21_0 rfl)) H
    rw [show zI N4 b 0 = zI M b 0 from by rw [eN4]; exact fI_wI] at H
    have H : Ev none e 58 141 [some (.ref 104), some (.int ti), some (.int bf), some (.int n), some (.int i), some (.ref b), some (.ref x), some (.int go), some (.int y)] [.int ((8 * (zI M b 0)) + y), .ref 108, .ref b] N4 v M' 0 0 := Ev.back 3 (fun n => rfl) H
    obtain ⟨b5, H⟩ := Ev.ial rfl rfl hN4.1 qa_108 qw_26 H
    have H : Ev none e 58 142 [some (.ref 104), some (.int ti), some (.int bf), some (.int n), some (.int i), some (.ref b), some (.ref x), some (.int go), some (.int y)] [.int (rI N4 108 ((8 * (zI M b 0)) + y)), .ref b] N4 v M' 0 0 := H
    have H : Ev none e 58 144 [some (.ref 104), some (.int ti), some (.int bf), some (.int n), some (.int i), some (.ref b), some (.ref x), some (.int go), some (.int y)] [.int y, .int (rI N4 108 ((8 * (zI M b 0)) + y)), .ref b] N4 v M' 0 0 := Ev.back 1 (fun n => rfl) H
    obtain ⟨e1, rfl⟩ := Ev.dpos rfl rfl H
    obtain ⟨vK6, MK6, K6, H⟩ := Ev.callb (fun n_ => gs_7 rfl rfl (show gCal (.invokevirtual 141) 7 (.int y :: .int (rI N4 108 ((8 * (zI M b 0)) + y)) :: .ref b :: []) N4 = some (.inr (74, [some (.ref b), some (.int (rI N4 108 ((8 * (zI M b 0)) + y))), some (.int y)], [])) from by show @cond (Option ((List Value × Mem) ⊕ (Nat × Lo × List Value))) (true && gRecv N4 (.ref b) 8 && gRoom [] && true) (some (.inr (74, [some (.ref b), some (.int (rI N4 108 ((8 * (zI M b 0)) + y))), some (.int y)], []))) none = _; rw [recv_s hN4.1 a_b qo_21]; rfl)) H
    have K6 : Ev none e1 74 0 [some (.ref b), some (.int (rI N4 108 ((8 * (zI M b 0)) + y))), some (.int y)] [] N4 vK6 MK6 0 0 := K6
    have HF := H
    subst eN4
    exact Or.inr (⟨h1, b2, b3, b5, ⟨e1, vK6, MK6, rfl, K6, HF⟩⟩)
theorem goo_147 {e : Nat} {M M' : Mem} {v : Option Value} {ti bf n i go y : Int32} {b x : Nat} (hS : SQ M) (a_b : gNth sT b = some 21) (a_x : gNth sT x = some 20) (H : Ev none e 58 147 [some (.ref 104), some (.int ti), some (.int bf), some (.int n), some (.int i), some (.ref b), some (.ref x), some (.int go), some (.int y)] [] M v M' 0 0) : (0 ≤ (zI M b 0).toInt ∧ (zI M b 0).toInt < 256) ∧ (0 ≤ (zI M b 0).toInt ∧ (zI M b 0).toInt < 256) ∧ (∃ e1 v1 M1, e = e1 + 1 ∧ Ev none e1 62 0 [some (.ref 104), some (.int (zI M b 0)), none] [] (wI M (fR M 104 7 + 8) ((zI M b 0).toNatClampNeg) ((rI M (fR M 104 7 + 8) (zI M b 0)) + 1)) v1 M1 0 0 ∧ Ev none e 58 173 [some (.ref 104), some (.int ti), some (.int bf), some (.int n), some (.int i), some (.ref b), some (.ref x), some (.int go), some (.int y)] (v1.toList ++ []) M1 v M' 0 0) := by
  have H : Ev none e 58 148 [some (.ref 104), some (.int ti), some (.int bf), some (.int n), some (.int i), some (.ref b), some (.ref x), some (.int go), some (.int y)] [.ref 104] M v M' 0 0 := Ev.back 1 (fun n => rfl) H
  have H : Ev none e 58 151 [some (.ref 104), some (.int ti), some (.int bf), some (.int n), some (.int i), some (.ref b), some (.ref x), some (.int go), some (.int y)] [.ref (fR M 104 7)] M v M' 0 0 := Ev.back 1 (gs_3 rfl rfl (gf_r hS.1 qa_104 qr_22_7 rfl)) H
  have H : Ev none e 58 154 [some (.ref 104), some (.int ti), some (.int bf), some (.int n), some (.int i), some (.ref b), some (.ref x), some (.int go), some (.int y)] [.ref (fR M 104 7 + 8)] M v M' 0 0 := Ev.back 1 (gs_3 rfl rfl (gf_x hS.1 (hS.1.fr qa_104 qr_22_7).2 qo_8 (fx_l9 hS (hS.1.fr qa_104 qr_22_7).2) rfl)) H
  have H : Ev none e 58 156 [some (.ref 104), some (.int ti), some (.int bf), some (.int n), some (.int i), some (.ref b), some (.ref x), some (.int go), some (.int y)] [.ref b, .ref (fR M 104 7 + 8)] M v M' 0 0 := Ev.back 1 (fun n => rfl) H
  have H : Ev none e 58 159 [some (.ref 104), some (.int ti), some (.int bf), some (.int n), some (.int i), some (.ref b), some (.ref x), some (.int go), some (.int y)] [.int (zI M b 0), .ref (fR M 104 7 + 8)] M v M' 0 0 := Ev.back 1 (gs_3 rfl rfl (gf_i hS.1 a_b qi_21_0 rfl)) H
  have H : Ev none e 58 160 [some (.ref 104), some (.int ti), some (.int bf), some (.int n), some (.int i), some (.ref b), some (.ref x), some (.int go), some (.int y)] [.int (zI M b 0), .ref (fR M 104 7 + 8), .int (zI M b 0), .ref (fR M 104 7 + 8)] M v M' 0 0 := Ev.back 1 (fun n => rfl) H
  obtain ⟨b1, H⟩ := Ev.ial rfl rfl hS.1 (fx_h9 (hS.1.fr qa_104 qr_22_7).2) qw_16 H
  have H : Ev none e 58 161 [some (.ref 104), some (.int ti), some (.int bf), some (.int n), some (.int i), some (.ref b), some (.ref x), some (.int go), some (.int y)] [.int (rI M (fR M 104 7 + 8) (zI M b 0)), .int (zI M b 0), .ref (fR M 104 7 + 8)] M v M' 0 0 := H
  have H : Ev none e 58 163 [some (.ref 104), some (.int ti), some (.int bf), some (.int n), some (.int i), some (.ref b), some (.ref x), some (.int go), some (.int y)] [.int ((rI M (fR M 104 7 + 8) (zI M b 0)) + 1), .int (zI M b 0), .ref (fR M 104 7 + 8)] M v M' 0 0 := Ev.back 2 (fun n => rfl) H
  obtain ⟨b2, H⟩ := Ev.ias rfl rfl hS.1 (fx_h9 (hS.1.fr qa_104 qr_22_7).2) qw_16 H
  obtain ⟨N3, eN3⟩ : ∃ N, N = (wI M (fR M 104 7 + 8) ((zI M b 0).toNatClampNeg) ((rI M (fR M 104 7 + 8) (zI M b 0)) + 1)) := ⟨_, rfl⟩
  have hN3 : SQ N3 := by rw [eN3]; exact hS.ki
  have H : Ev none e 58 164 [some (.ref 104), some (.int ti), some (.int bf), some (.int n), some (.int i), some (.ref b), some (.ref x), some (.int go), some (.int y)] [] N3 v M' 0 0 := by rw [eN3]; exact H
  have H : Ev none e 58 167 [some (.ref 104), some (.int ti), some (.int bf), some (.int n), some (.int i), some (.ref b), some (.ref x), some (.int go), some (.int y)] [.ref b, .ref 104] N3 v M' 0 0 := Ev.back 2 (fun n => rfl) H
  have H : Ev none e 58 170 [some (.ref 104), some (.int ti), some (.int bf), some (.int n), some (.int i), some (.ref b), some (.ref x), some (.int go), some (.int y)] [.int (zI N3 b 0), .ref 104] N3 v M' 0 0 := Ev.back 1 (gs_3 rfl rfl (gf_i hN3.1 a_b qi_21_0 rfl)) H
  rw [show zI N3 b 0 = zI M b 0 from by rw [eN3]; exact fI_wI] at H
  obtain ⟨e1, rfl⟩ := Ev.dpos rfl rfl H
  obtain ⟨vK4, MK4, K4, H⟩ := Ev.callb (fun n_ => gs_7 rfl rfl (show gCal (.invokevirtual 144) 7 (.int (zI M b 0) :: .ref 104 :: []) N3 = some (.inr (62, [some (.ref 104), some (.int (zI M b 0)), none], [])) from by show @cond (Option ((List Value × Mem) ⊕ (Nat × Lo × List Value))) (true && gRecv N3 (.ref 104) 7 && gRoom [] && true) (some (.inr (62, [some (.ref 104), some (.int (zI M b 0)), none], []))) none = _; rw [recv_s hN3.1 qa_104 qo_22]; rfl)) H
  have K4 : Ev none e1 62 0 [some (.ref 104), some (.int (zI M b 0)), none] [] N3 vK4 MK4 0 0 := K4
  have HF := H
  subst eN3
  exact ⟨b1, b2, ⟨e1, vK4, MK4, rfl, K4, HF⟩⟩
theorem goo_173 {e : Nat} {M M' : Mem} {v : Option Value} {ti bf n i go : Int32} {b x : Nat} {c8 : Option Value} (hS : SQ M) (a_b : gNth sT b = some 21) (a_x : gNth sT x = some 20) (H : Ev none e 58 173 [some (.ref 104), some (.int ti), some (.int bf), some (.int n), some (.int i), some (.ref b), some (.ref x), some (.int go), c8] [] M v M' 0 0) : (∃ e1 v1 M1, e = e1 + 1 ∧ Ev none e1 60 0 [some (.ref 104), some (.ref b), some (.int go), none] [] (wF M b 2 ((zI M b 2) + 1)) v1 M1 0 0 ∧ Ev none e 58 192 [some (.ref 104), some (.int ti), some (.int bf), some (.int n), some (.int i), some (.ref b), some (.ref x), some (.int go), c8] (v1.toList ++ []) M1 v M' 0 0) := by
  have H : Ev none e 58 176 [some (.ref 104), some (.int ti), some (.int bf), some (.int n), some (.int i), some (.ref b), some (.ref x), some (.int go), c8] [.ref b, .ref b] M v M' 0 0 := Ev.back 2 (fun n => rfl) H
  have H : Ev none e 58 179 [some (.ref 104), some (.int ti), some (.int bf), some (.int n), some (.int i), some (.ref b), some (.ref x), some (.int go), c8] [.int (zI M b 2), .ref b] M v M' 0 0 := Ev.back 1 (gs_3 rfl rfl (gf_i hS.1 a_b qi_21_2 rfl)) H
  have H : Ev none e 58 181 [some (.ref 104), some (.int ti), some (.int bf), some (.int n), some (.int i), some (.ref b), some (.ref x), some (.int go), c8] [.int ((zI M b 2) + 1), .ref b] M v M' 0 0 := Ev.back 2 (fun n => rfl) H
  obtain ⟨N2, eN2⟩ : ∃ N, N = (wF M b 2 ((zI M b 2) + 1)) := ⟨_, rfl⟩
  have hN2 : SQ N2 := by rw [eN2]; exact hS.kf
  have H : Ev none e 58 184 [some (.ref 104), some (.int ti), some (.int bf), some (.int n), some (.int i), some (.ref b), some (.ref x), some (.int go), c8] [] N2 v M' 0 0 := by rw [eN2]; exact Ev.pfi rfl rfl rfl hS.1 a_b qi_21_2 H
  have H : Ev none e 58 189 [some (.ref 104), some (.int ti), some (.int bf), some (.int n), some (.int i), some (.ref b), some (.ref x), some (.int go), c8] [.int go, .ref b, .ref 104] N2 v M' 0 0 := Ev.back 3 (fun n => rfl) H
  obtain ⟨e1, rfl⟩ := Ev.dpos rfl rfl H
  obtain ⟨vK3, MK3, K3, H⟩ := Ev.callb (fun n_ => gs_7 rfl rfl (show gCal (.invokevirtual 151) 7 (.int go :: .ref b :: .ref 104 :: []) N2 = some (.inr (60, [some (.ref 104), some (.ref b), some (.int go), none], [])) from by show @cond (Option ((List Value × Mem) ⊕ (Nat × Lo × List Value))) (true && gRecv N2 (.ref 104) 7 && gRoom [] && true) (some (.inr (60, [some (.ref 104), some (.ref b), some (.int go), none], []))) none = _; rw [recv_s hN2.1 qa_104 qo_22]; rfl)) H
  have K3 : Ev none e1 60 0 [some (.ref 104), some (.ref b), some (.int go), none] [] N2 vK3 MK3 0 0 := K3
  have HF := H
  subst eN2
  exact ⟨e1, vK3, MK3, rfl, K3, HF⟩
theorem goo_192 {e : Nat} {M M' : Mem} {v : Option Value} {ti bf n i go : Int32} {b x : Nat} {c8 : Option Value} (hS : SQ M) (a_b : gNth sT b = some 21) (a_x : gNth sT x = some 20) (H : Ev none e 58 192 [some (.ref 104), some (.int ti), some (.int bf), some (.int n), some (.int i), some (.ref b), some (.ref x), some (.int go), c8] [] M v M' 0 0) : Ev none e 58 29 [some (.ref 104), some (.int ti), some (.int bf), some (.int n), some (.int (i + 1)), some (.ref b), some (.ref x), some (.int go), c8] [] M v M' 0 0 := by
  have H : Ev none e 58 29 [some (.ref 104), some (.int ti), some (.int bf), some (.int n), some (.int (i + 1)), some (.ref b), some (.ref x), some (.int go), c8] [] M v M' 0 0 := Ev.back 2 (fun n => rfl) H
  have HF := H
  exact HF
theorem goo_202 {e : Nat} {M M' : Mem} {v : Option Value} {ti bf n : Int32} {c4 c5 c6 c7 c8 : Option Value} (hS : SQ M) (H : Ev none e 58 202 [some (.ref 104), some (.int ti), some (.int bf), some (.int n), c4, c5, c6, c7, c8] [] M v M' 0 0) : Ev none e 58 10 [some (.ref 104), some (.int ti), some (.int bf), some (.int (n + 1)), c4, c5, c6, c7, c8] [] (wF M (fR M 104 7) 16 ((zI M (fR M 104 7) 16) + 1)) v M' 0 0 := by
  have H : Ev none e 58 203 [some (.ref 104), some (.int ti), some (.int bf), some (.int n), c4, c5, c6, c7, c8] [.ref 104] M v M' 0 0 := Ev.back 1 (fun n => rfl) H
  have H : Ev none e 58 206 [some (.ref 104), some (.int ti), some (.int bf), some (.int n), c4, c5, c6, c7, c8] [.ref (fR M 104 7)] M v M' 0 0 := Ev.back 1 (gs_3 rfl rfl (gf_r hS.1 qa_104 qr_22_7 rfl)) H
  have H : Ev none e 58 207 [some (.ref 104), some (.int ti), some (.int bf), some (.int n), c4, c5, c6, c7, c8] [.ref (fR M 104 7), .ref (fR M 104 7)] M v M' 0 0 := Ev.back 1 (fun n => rfl) H
  have H : Ev none e 58 210 [some (.ref 104), some (.int ti), some (.int bf), some (.int n), c4, c5, c6, c7, c8] [.int (zI M (fR M 104 7) 16), .ref (fR M 104 7)] M v M' 0 0 := Ev.back 1 (gs_3 rfl rfl (gf_i hS.1 (hS.1.fr qa_104 qr_22_7).2 qi_8_16 rfl)) H
  have H : Ev none e 58 212 [some (.ref 104), some (.int ti), some (.int bf), some (.int n), c4, c5, c6, c7, c8] [.int ((zI M (fR M 104 7) 16) + 1), .ref (fR M 104 7)] M v M' 0 0 := Ev.back 2 (fun n => rfl) H
  obtain ⟨N2, eN2⟩ : ∃ N, N = (wF M (fR M 104 7) 16 ((zI M (fR M 104 7) 16) + 1)) := ⟨_, rfl⟩
  have hN2 : SQ N2 := by rw [eN2]; exact hS.kf
  have H : Ev none e 58 215 [some (.ref 104), some (.int ti), some (.int bf), some (.int n), c4, c5, c6, c7, c8] [] N2 v M' 0 0 := by rw [eN2]; exact Ev.pfi rfl rfl rfl hS.1 (hS.1.fr qa_104 qr_22_7).2 qi_8_16 H
  have H : Ev none e 58 10 [some (.ref 104), some (.int ti), some (.int bf), some (.int (n + 1)), c4, c5, c6, c7, c8] [] N2 v M' 0 0 := Ev.back 2 (fun n => rfl) H
  have HF := H
  subst eN2
  exact HF
noncomputable def X_55 (M : Mem) : Mem := (wA M 128 (-1))
theorem g_55 {e : Nat} {M M' : Mem} {v : Option Value} (hS : SQ M) (H : Ev none e 55 0 [some (.ref 104)] [] M v M' 0 0) : v = none ∧ M' = X_55 M := by
  unfold X_55
  have H : Ev none e 55 1 [some (.ref 104)] [.ref 104] M v M' 0 0 := Ev.back 1 (fun n => rfl) H
  have H : Ev none e 55 4 [some (.ref 104)] [.ref 128] M v M' 0 0 := Ev.back 1 (gs_3 rfl rfl (gf_u hS.1 qa_104 qr_22_4 qu_37 rfl)) H
  have H : Ev none e 55 5 [some (.ref 104)] [.int (-1), .ref 128] M v M' 0 0 := Ev.back 1 (fun n => rfl) H
  have H := Ev.fil rfl rfl (fun _ _ => rfl) hS.1 qa_128 qw_37 H
  obtain ⟨N1, eN1⟩ : ∃ N, N = (wA M 128 (-1)) := ⟨_, rfl⟩
  have hN1 : SQ N1 := by rw [eN1]; exact hS.ka
  have H : Ev none e 55 8 [some (.ref 104)] [] N1 v M' 0 0 := by rw [eN1]; exact H
  obtain ⟨p1, p2⟩ := Ev.retb (fun n => rfl) H
  subst eN1
  exact ⟨p1, p2⟩
theorem X_55_sx {M : Mem} (hS : SQ M) : SQ (X_55 M) := by
  unfold X_55
  exact hS.ka
theorem ewk_0 {e : Nat} {M M' : Mem} {v : Option Value} (hS : SQ M) (H : Ev none e 63 0 [some (.ref 104), none, none] [] M v M' 0 0) : Ev none e 63 2 [some (.ref 104), some (.int 0), none] [] M v M' 0 0 := by
  have H : Ev none e 63 2 [some (.ref 104), some (.int 0), none] [] M v M' 0 0 := Ev.back 2 (fun n => rfl) H
  have HF := H
  exact HF
theorem ewk_2 {e : Nat} {M M' : Mem} {v : Option Value} {c : Int32} {c2 : Option Value} (hS : SQ M) (H : Ev none e 63 2 [some (.ref 104), some (.int c), c2] [] M v M' 0 0) : ((G_6 M (fR M 104 7)) ≤ c ∧ v = none ∧ M' = (X_55 (wA M (fR M 104 7 + 6) 0))) ∨ (¬ ((G_6 M (fR M 104 7)) ≤ c) ∧ (∃ e1 v1 M1, e = e1 + 1 ∧ Ev none e1 64 0 [some (.ref 104), some (.int 1), some (.int c), some (.int 10), none] [] M v1 M1 0 0 ∧ Ev none e 63 21 [some (.ref 104), some (.int c), c2] (v1.toList ++ []) M1 v M' 0 0)) := by
  have H : Ev none e 63 4 [some (.ref 104), some (.int c), c2] [.ref 104, .int c] M v M' 0 0 := Ev.back 2 (fun n => rfl) H
  have H : Ev none e 63 7 [some (.ref 104), some (.int c), c2] [.ref (fR M 104 7), .int c] M v M' 0 0 := Ev.back 1 (gs_3 rfl rfl (gf_r hS.1 qa_104 qr_22_7 rfl)) H
  obtain ⟨e1, rfl⟩ := Ev.dpos rfl rfl H
  obtain ⟨vK1, MK1, K1, H⟩ := Ev.callb (fun n_ => gs_7 rfl rfl (show gCal (.invokevirtual 90) 7 (.ref (fR M 104 7) :: [.int c]) M = some (.inr (6, [some (.ref (fR M 104 7))], [.int c])) from by show @cond (Option ((List Value × Mem) ⊕ (Nat × Lo × List Value))) (true && gRecv M (.ref (fR M 104 7)) 1 && gRoom [.int c] && true) (some (.inr (6, [some (.ref (fR M 104 7))], [.int c]))) none = _; rw [recv_s hS.1 (hS.1.fr qa_104 qr_22_7).2 qo_8]; rfl)) H
  obtain ⟨pK1, qK1⟩ := g_6 hS (hS.1.fr qa_104 qr_22_7).2 K1
  rw [pK1, qK1] at H
  have H : Ev none (e1 + 1) 63 10 [some (.ref 104), some (.int c), c2] [.int (G_6 M (fR M 104 7)), .int c] M v M' 0 0 := H
  have H : Ev none (e1 + 1) 63 (if (G_6 M (fR M 104 7)) ≤ c then 82 else 13) [some (.ref 104), some (.int c), c2] [] M v M' 0 0 := Ev.back 1 (fun n => rfl) H
  by_cases h2 : (G_6 M (fR M 104 7)) ≤ c
  · rw [if_pos h2] at H
    have H : Ev none (e1 + 1) 63 83 [some (.ref 104), some (.int c), c2] [.ref 104] M v M' 0 0 := Ev.back 1 (fun n => rfl) H
    have H : Ev none (e1 + 1) 63 86 [some (.ref 104), some (.int c), c2] [.ref (fR M 104 7)] M v M' 0 0 := Ev.back 1 (gs_3 rfl rfl (gf_r hS.1 qa_104 qr_22_7 rfl)) H
    have H : Ev none (e1 + 1) 63 89 [some (.ref 104), some (.int c), c2] [.ref (fR M 104 7 + 6)] M v M' 0 0 := Ev.back 1 (gs_3 rfl rfl (gf_x hS.1 (hS.1.fr qa_104 qr_22_7).2 qo_8 (fx_l7 hS (hS.1.fr qa_104 qr_22_7).2) rfl)) H
    have H : Ev none (e1 + 1) 63 90 [some (.ref 104), some (.int c), c2] [.int 0, .ref (fR M 104 7 + 6)] M v M' 0 0 := Ev.back 1 (fun n => rfl) H
    have H := Ev.fil rfl rfl (fun _ _ => rfl) hS.1 (fx_h7 (hS.1.fr qa_104 qr_22_7).2) qw_14 H
    obtain ⟨N3, eN3⟩ : ∃ N, N = (wA M (fR M 104 7 + 6) 0) := ⟨_, rfl⟩
    have hN3 : SQ N3 := by rw [eN3]; exact hS.ka
    have H : Ev none (e1 + 1) 63 93 [some (.ref 104), some (.int c), c2] [] N3 v M' 0 0 := by rw [eN3]; exact H
    have H : Ev none (e1 + 1) 63 94 [some (.ref 104), some (.int c), c2] [.ref 104] N3 v M' 0 0 := Ev.back 1 (fun n => rfl) H
    obtain ⟨vK4, MK4, K4, H⟩ := Ev.callb (fun n_ => gs_7 rfl rfl (show gCal (.invokevirtual 75) 7 (.ref 104 :: []) N3 = some (.inr (55, [some (.ref 104)], [])) from by show @cond (Option ((List Value × Mem) ⊕ (Nat × Lo × List Value))) (true && gRecv N3 (.ref 104) 7 && gRoom [] && true) (some (.inr (55, [some (.ref 104)], []))) none = _; rw [recv_s hN3.1 qa_104 qo_22]; rfl)) H
    obtain ⟨pK4, qK4⟩ := g_55 hN3 K4
    rw [pK4, qK4] at H
    obtain ⟨N5, eN5⟩ : ∃ N, N = (X_55 N3) := ⟨_, rfl⟩
    have hN5 : SQ N5 := by rw [eN5]; exact X_55_sx hN3
    rw [← eN5] at H
    have H : Ev none (e1 + 1) 63 97 [some (.ref 104), some (.int c), c2] [] N5 v M' 0 0 := H
    obtain ⟨z1, z2⟩ := Ev.retb (fun n => rfl) H
    subst eN3 eN5
    exact Or.inl ⟨h2, z1, z2⟩
  · rw [if_neg h2] at H
    have H : Ev none (e1 + 1) 63 18 [some (.ref 104), some (.int c), c2] [.int 10, .int c, .int 1, .ref 104] M v M' 0 0 := Ev.back 4 (fun n => rfl) H
    obtain ⟨vK6, MK6, K6, H⟩ := Ev.callb (fun n_ => gs_7 rfl rfl (show gCal (.invokevirtual 181) 7 (.int 10 :: .int c :: .int 1 :: .ref 104 :: []) M = some (.inr (64, [some (.ref 104), some (.int 1), some (.int c), some (.int 10), none], [])) from by show @cond (Option ((List Value × Mem) ⊕ (Nat × Lo × List Value))) (true && gRecv M (.ref 104) 7 && gRoom [] && true) (some (.inr (64, [some (.ref 104), some (.int 1), some (.int c), some (.int 10), none], []))) none = _; rw [recv_s hS.1 qa_104 qo_22]; rfl)) H
    have K6 : Ev none e1 64 0 [some (.ref 104), some (.int 1), some (.int c), some (.int 10), none] [] M vK6 MK6 0 0 := K6
    have HF := H
    exact Or.inr (⟨h2, ⟨e1, vK6, MK6, rfl, K6, HF⟩⟩)
theorem ewk_21 {e : Nat} {M M' : Mem} {v : Option Value} {c y : Int32} {c2 : Option Value} (hS : SQ M) (H : Ev none e 63 21 [some (.ref 104), some (.int c), c2] [.int y] M v M' 0 0) : (0 ≤ c.toInt ∧ c.toInt < 256) ∧ (0 ≤ c.toInt ∧ c.toInt < 256) ∧ (0 ≤ c.toInt ∧ c.toInt < 256) ∧ (0 ≤ c.toInt ∧ c.toInt < 256) ∧ Ev none e 63 2 [some (.ref 104), some (.int (c + 1)), some (.int y)] [] (wI (wI M (fR M 104 7 + 4) c.toNatClampNeg (if 0 < ((rI M (fR M 104 7 + 4) c) - y) then ((rI M (fR M 104 7 + 4) c) - y) else 0)) (fR M 104 7 + 5) c.toNatClampNeg (if 0 < ((rI M (fR M 104 7 + 5) c) - (zI M (fR M 104 2) 12)) then ((rI M (fR M 104 7 + 5) c) - (zI M (fR M 104 2) 12)) else 0)) v M' 0 0 := by
  have H : Ev none e 63 23 [some (.ref 104), some (.int c), some (.int y)] [.ref 104] M v M' 0 0 := Ev.back 2 (fun n => rfl) H
  have H : Ev none e 63 26 [some (.ref 104), some (.int c), some (.int y)] [.ref (fR M 104 7)] M v M' 0 0 := Ev.back 1 (gs_3 rfl rfl (gf_r hS.1 qa_104 qr_22_7 rfl)) H
  have H : Ev none e 63 29 [some (.ref 104), some (.int c), some (.int y)] [.ref (fR M 104 7 + 4)] M v M' 0 0 := Ev.back 1 (gs_3 rfl rfl (gf_x hS.1 (hS.1.fr qa_104 qr_22_7).2 qo_8 (fx_l5 hS (hS.1.fr qa_104 qr_22_7).2) rfl)) H
  have H : Ev none e 63 32 [some (.ref 104), some (.int c), some (.int y)] [.ref 104, .int 0, .int c, .ref (fR M 104 7 + 4)] M v M' 0 0 := Ev.back 3 (fun n => rfl) H
  have H : Ev none e 63 35 [some (.ref 104), some (.int c), some (.int y)] [.ref (fR M 104 7), .int 0, .int c, .ref (fR M 104 7 + 4)] M v M' 0 0 := Ev.back 1 (gs_3 rfl rfl (gf_r hS.1 qa_104 qr_22_7 rfl)) H
  have H : Ev none e 63 38 [some (.ref 104), some (.int c), some (.int y)] [.ref (fR M 104 7 + 4), .int 0, .int c, .ref (fR M 104 7 + 4)] M v M' 0 0 := Ev.back 1 (gs_3 rfl rfl (gf_x hS.1 (hS.1.fr qa_104 qr_22_7).2 qo_8 (fx_l5 hS (hS.1.fr qa_104 qr_22_7).2) rfl)) H
  have H : Ev none e 63 39 [some (.ref 104), some (.int c), some (.int y)] [.int c, .ref (fR M 104 7 + 4), .int 0, .int c, .ref (fR M 104 7 + 4)] M v M' 0 0 := Ev.back 1 (fun n => rfl) H
  obtain ⟨b1, H⟩ := Ev.ial rfl rfl hS.1 (fx_h5 (hS.1.fr qa_104 qr_22_7).2) qw_12 H
  have H : Ev none e 63 40 [some (.ref 104), some (.int c), some (.int y)] [.int (rI M (fR M 104 7 + 4) c), .int 0, .int c, .ref (fR M 104 7 + 4)] M v M' 0 0 := H
  have H : Ev none e 63 42 [some (.ref 104), some (.int c), some (.int y)] [.int ((rI M (fR M 104 7 + 4) c) - y), .int 0, .int c, .ref (fR M 104 7 + 4)] M v M' 0 0 := Ev.back 2 (fun n => rfl) H
  obtain ⟨e1, rfl⟩ := Ev.dpos rfl rfl H
  have H : Ev none (e1 + 1) 63 45 [some (.ref 104), some (.int c), some (.int y)] [.int (if 0 < ((rI M (fR M 104 7 + 4) c) - y) then ((rI M (fR M 104 7 + 4) c) - y) else 0), .int c, .ref (fR M 104 7 + 4)] M v M' 0 0 := Ev.back 1 (fun n => rfl) H
  obtain ⟨b2, H⟩ := Ev.ias rfl rfl hS.1 (fx_h5 (hS.1.fr qa_104 qr_22_7).2) qw_12 H
  obtain ⟨N3, eN3⟩ : ∃ N, N = (wI M (fR M 104 7 + 4) c.toNatClampNeg (if 0 < ((rI M (fR M 104 7 + 4) c) - y) then ((rI M (fR M 104 7 + 4) c) - y) else 0)) := ⟨_, rfl⟩
  have hN3 : SQ N3 := by rw [eN3]; exact hS.ki
  have H : Ev none (e1 + 1) 63 46 [some (.ref 104), some (.int c), some (.int y)] [] N3 v M' 0 0 := by rw [eN3]; exact H
  have H : Ev none (e1 + 1) 63 47 [some (.ref 104), some (.int c), some (.int y)] [.ref 104] N3 v M' 0 0 := Ev.back 1 (fun n => rfl) H
  have H : Ev none (e1 + 1) 63 50 [some (.ref 104), some (.int c), some (.int y)] [.ref (fR N3 104 7)] N3 v M' 0 0 := Ev.back 1 (gs_3 rfl rfl (gf_r hN3.1 qa_104 qr_22_7 rfl)) H
  rw [show fR N3 104 7 = fR M 104 7 from by rw [eN3]; exact fR_wI] at H
  have H : Ev none (e1 + 1) 63 53 [some (.ref 104), some (.int c), some (.int y)] [.ref (fR M 104 7 + 5)] N3 v M' 0 0 := Ev.back 1 (gs_3 rfl rfl (gf_x hN3.1 (hS.1.fr qa_104 qr_22_7).2 qo_8 (fx_l6 hN3 (hS.1.fr qa_104 qr_22_7).2) rfl)) H
  have H : Ev none (e1 + 1) 63 56 [some (.ref 104), some (.int c), some (.int y)] [.ref 104, .int 0, .int c, .ref (fR M 104 7 + 5)] N3 v M' 0 0 := Ev.back 3 (fun n => rfl) H
  have H : Ev none (e1 + 1) 63 59 [some (.ref 104), some (.int c), some (.int y)] [.ref (fR N3 104 7), .int 0, .int c, .ref (fR M 104 7 + 5)] N3 v M' 0 0 := Ev.back 1 (gs_3 rfl rfl (gf_r hN3.1 qa_104 qr_22_7 rfl)) H
  rw [show fR N3 104 7 = fR M 104 7 from by rw [eN3]; exact fR_wI] at H
  have H : Ev none (e1 + 1) 63 62 [some (.ref 104), some (.int c), some (.int y)] [.ref (fR M 104 7 + 5), .int 0, .int c, .ref (fR M 104 7 + 5)] N3 v M' 0 0 := Ev.back 1 (gs_3 rfl rfl (gf_x hN3.1 (hS.1.fr qa_104 qr_22_7).2 qo_8 (fx_l6 hN3 (hS.1.fr qa_104 qr_22_7).2) rfl)) H
  have H : Ev none (e1 + 1) 63 63 [some (.ref 104), some (.int c), some (.int y)] [.int c, .ref (fR M 104 7 + 5), .int 0, .int c, .ref (fR M 104 7 + 5)] N3 v M' 0 0 := Ev.back 1 (fun n => rfl) H
  obtain ⟨b4, H⟩ := Ev.ial rfl rfl hN3.1 (fx_h6 (hS.1.fr qa_104 qr_22_7).2) qw_13 H
  have H : Ev none (e1 + 1) 63 64 [some (.ref 104), some (.int c), some (.int y)] [.int (rI N3 (fR M 104 7 + 5) c), .int 0, .int c, .ref (fR M 104 7 + 5)] N3 v M' 0 0 := H
  rw [show rI N3 (fR M 104 7 + 5) c = rI M (fR M 104 7 + 5) c from by rw [eN3]; exact rN_wI_ne (fun q => absurd q.1 (by omega))] at H
  have H : Ev none (e1 + 1) 63 65 [some (.ref 104), some (.int c), some (.int y)] [.ref 104, .int (rI M (fR M 104 7 + 5) c), .int 0, .int c, .ref (fR M 104 7 + 5)] N3 v M' 0 0 := Ev.back 1 (fun n => rfl) H
  have H : Ev none (e1 + 1) 63 68 [some (.ref 104), some (.int c), some (.int y)] [.ref (fR N3 104 2), .int (rI M (fR M 104 7 + 5) c), .int 0, .int c, .ref (fR M 104 7 + 5)] N3 v M' 0 0 := Ev.back 1 (gs_3 rfl rfl (gf_r hN3.1 qa_104 qr_22_2 rfl)) H
  rw [show fR N3 104 2 = fR M 104 2 from by rw [eN3]; exact fR_wI] at H
  have hx5 : gNth sT (fR M 104 2) = some 28 := by rw [← show fR N3 104 2 = fR M 104 2 from by rw [eN3]; exact fR_wI]; exact (hN3.1.fr qa_104 qr_22_2).2
  have H : Ev none (e1 + 1) 63 71 [some (.ref 104), some (.int c), some (.int y)] [.int (zI N3 (fR M 104 2) 12), .int (rI M (fR M 104 7 + 5) c), .int 0, .int c, .ref (fR M 104 7 + 5)] N3 v M' 0 0 := Ev.back 1 (gs_3 rfl rfl (gf_i hN3.1 hx5 qi_28_12 rfl)) H
  rw [show zI N3 (fR M 104 2) 12 = zI M (fR M 104 2) 12 from by rw [eN3]; exact fI_wI] at H
  have H : Ev none (e1 + 1) 63 75 [some (.ref 104), some (.int c), some (.int y)] [.int (if 0 < ((rI M (fR M 104 7 + 5) c) - (zI M (fR M 104 2) 12)) then ((rI M (fR M 104 7 + 5) c) - (zI M (fR M 104 2) 12)) else 0), .int c, .ref (fR M 104 7 + 5)] N3 v M' 0 0 := Ev.back 2 (fun n => rfl) H
  obtain ⟨b6, H⟩ := Ev.ias rfl rfl hN3.1 (fx_h6 (hS.1.fr qa_104 qr_22_7).2) qw_13 H
  obtain ⟨N7, eN7⟩ : ∃ N, N = (wI N3 (fR M 104 7 + 5) c.toNatClampNeg (if 0 < ((rI M (fR M 104 7 + 5) c) - (zI M (fR M 104 2) 12)) then ((rI M (fR M 104 7 + 5) c) - (zI M (fR M 104 2) 12)) else 0)) := ⟨_, rfl⟩
  have hN7 : SQ N7 := by rw [eN7]; exact hN3.ki
  have H : Ev none (e1 + 1) 63 76 [some (.ref 104), some (.int c), some (.int y)] [] N7 v M' 0 0 := by rw [eN7]; exact H
  have H : Ev none (e1 + 1) 63 2 [some (.ref 104), some (.int (c + 1)), some (.int y)] [] N7 v M' 0 0 := Ev.back 2 (fun n => rfl) H
  have HF := H
  subst eN3 eN7
  exact ⟨b1, b2, b4, b6, HF⟩
theorem wcl_0 {e : Nat} {M M' : Mem} {v : Option Value} (hS : SQ M) (H : Ev none e 57 0 [some (.ref 104), none, none] [] M v M' 0 0) : Ev none e 57 4 [some (.ref 104), some (.int 0), some (.int 0)] [] M v M' 0 0 := by
  have H : Ev none e 57 4 [some (.ref 104), some (.int 0), some (.int 0)] [] M v M' 0 0 := Ev.back 4 (fun n => rfl) H
  have HF := H
  exact HF
theorem wcl_4 {e : Nat} {M M' : Mem} {v : Option Value} {n c : Int32} (hS : SQ M) (H : Ev none e 57 4 [some (.ref 104), some (.int n), some (.int c)] [] M v M' 0 0) : ((G_6 M (fR M 104 7)) ≤ c ∧ v = some (.int n) ∧ M' = M) ∨ (¬ ((G_6 M (fR M 104 7)) ≤ c) ∧ (G_56 M c) = 0 ∧ Ev none e 57 4 [some (.ref 104), some (.int (n + 0)), some (.int (c + 1))] [] M v M' 0 0) ∨ (¬ ((G_6 M (fR M 104 7)) ≤ c) ∧ ¬ ((G_56 M c) = 0) ∧ Ev none e 57 4 [some (.ref 104), some (.int (n + 1)), some (.int (c + 1))] [] M v M' 0 0) := by
  have H : Ev none e 57 6 [some (.ref 104), some (.int n), some (.int c)] [.ref 104, .int c] M v M' 0 0 := Ev.back 2 (fun n => rfl) H
  have H : Ev none e 57 9 [some (.ref 104), some (.int n), some (.int c)] [.ref (fR M 104 7), .int c] M v M' 0 0 := Ev.back 1 (gs_3 rfl rfl (gf_r hS.1 qa_104 qr_22_7 rfl)) H
  obtain ⟨e1, rfl⟩ := Ev.dpos rfl rfl H
  obtain ⟨vK1, MK1, K1, H⟩ := Ev.callb (fun n_ => gs_7 rfl rfl (show gCal (.invokevirtual 90) 7 (.ref (fR M 104 7) :: [.int c]) M = some (.inr (6, [some (.ref (fR M 104 7))], [.int c])) from by show @cond (Option ((List Value × Mem) ⊕ (Nat × Lo × List Value))) (true && gRecv M (.ref (fR M 104 7)) 1 && gRoom [.int c] && true) (some (.inr (6, [some (.ref (fR M 104 7))], [.int c]))) none = _; rw [recv_s hS.1 (hS.1.fr qa_104 qr_22_7).2 qo_8]; rfl)) H
  obtain ⟨pK1, qK1⟩ := g_6 hS (hS.1.fr qa_104 qr_22_7).2 K1
  rw [pK1, qK1] at H
  have H : Ev none (e1 + 1) 57 12 [some (.ref 104), some (.int n), some (.int c)] [.int (G_6 M (fR M 104 7)), .int c] M v M' 0 0 := H
  have H : Ev none (e1 + 1) 57 (if (G_6 M (fR M 104 7)) ≤ c then 37 else 15) [some (.ref 104), some (.int n), some (.int c)] [] M v M' 0 0 := Ev.back 1 (fun n => rfl) H
  by_cases h2 : (G_6 M (fR M 104 7)) ≤ c
  · rw [if_pos h2] at H
    have H : Ev none (e1 + 1) 57 38 [some (.ref 104), some (.int n), some (.int c)] [.int n] M v M' 0 0 := Ev.back 1 (fun n => rfl) H
    obtain ⟨z1, z2⟩ := Ev.retz rfl rfl H
    exact Or.inl ⟨h2, z1, z2⟩
  · rw [if_neg h2] at H
    have H : Ev none (e1 + 1) 57 18 [some (.ref 104), some (.int n), some (.int c)] [.int c, .ref 104, .int n] M v M' 0 0 := Ev.back 3 (fun n => rfl) H
    obtain ⟨vK3, MK3, K3, H⟩ := Ev.callb (fun n_ => gs_7 rfl rfl (show gCal (.invokevirtual 94) 7 (.int c :: .ref 104 :: [.int n]) M = some (.inr (56, [some (.ref 104), some (.int c)], [.int n])) from by show @cond (Option ((List Value × Mem) ⊕ (Nat × Lo × List Value))) (true && gRecv M (.ref 104) 7 && gRoom [.int n] && true) (some (.inr (56, [some (.ref 104), some (.int c)], [.int n]))) none = _; rw [recv_s hS.1 qa_104 qo_22]; rfl)) H
    obtain ⟨pK3, qK3⟩ := g_56 hS K3
    rw [pK3, qK3] at H
    have H : Ev none (e1 + 1) 57 21 [some (.ref 104), some (.int n), some (.int c)] [.int (G_56 M c), .int n] M v M' 0 0 := H
    have H : Ev none (e1 + 1) 57 (if (G_56 M c) = 0 then 28 else 24) [some (.ref 104), some (.int n), some (.int c)] [.int n] M v M' 0 0 := Ev.back 1 (fun n => rfl) H
    by_cases h4 : (G_56 M c) = 0
    · rw [if_pos h4] at H
      have H : Ev none (e1 + 1) 57 4 [some (.ref 104), some (.int (n + 0)), some (.int (c + 1))] [] M v M' 0 0 := Ev.back 5 (fun n => rfl) H
      have HF := H
      exact Or.inr (Or.inl ⟨h2, h4, HF⟩)
    · rw [if_neg h4] at H
      have H : Ev none (e1 + 1) 57 4 [some (.ref 104), some (.int (n + 1)), some (.int (c + 1))] [] M v M' 0 0 := Ev.back 6 (fun n => rfl) H
      have HF := H
      exact Or.inr (Or.inr (⟨h2, h4, HF⟩))
noncomputable def G_2 (M : Mem) (co : Int32) (ro : Int32) : Int32 := if (G_126 M co 0 ((zI M 105 3) - 1)) = 0 then (-1) else (if (G_126 M ro 0 ((zI M 105 4) - 1)) = 0 then (-1) else ((zI M 105 3) * ro) + co)
theorem g_2 {e : Nat} {M M' : Mem} {v : Option Value} {co ro : Int32} (hS : SQ M) (H : Ev none e 2 0 [some (.ref 105), some (.int co), some (.int ro)] [] M v M' 0 0) : v = some (.int (G_2 M co ro)) ∧ M' = M := by
  unfold G_2
  have H : Ev none e 2 3 [some (.ref 105), some (.int co), some (.int ro)] [.ref 105, .int 0, .int co] M v M' 0 0 := Ev.back 3 (fun n => rfl) H
  have H : Ev none e 2 6 [some (.ref 105), some (.int co), some (.int ro)] [.int (zI M 105 3), .int 0, .int co] M v M' 0 0 := Ev.back 1 (gs_3 rfl rfl (gf_i hS.1 qa_105 qi_23_3 rfl)) H
  have H : Ev none e 2 8 [some (.ref 105), some (.int co), some (.int ro)] [.int ((zI M 105 3) - 1), .int 0, .int co] M v M' 0 0 := Ev.back 2 (fun n => rfl) H
  obtain ⟨e1, rfl⟩ := Ev.dpos rfl rfl H
  obtain ⟨vK1, MK1, K1, H⟩ := Ev.callb (fun n => rfl) H
  obtain ⟨pK1, qK1⟩ := g_126 hS K1
  rw [pK1, qK1] at H
  have H : Ev none (e1 + 1) 2 11 [some (.ref 105), some (.int co), some (.int ro)] [.int (G_126 M co 0 ((zI M 105 3) - 1))] M v M' 0 0 := H
  have H : Ev none (e1 + 1) 2 (if (G_126 M co 0 ((zI M 105 3) - 1)) = 0 then 39 else 14) [some (.ref 105), some (.int co), some (.int ro)] [] M v M' 0 0 := Ev.back 1 (fun n => rfl) H
  by_cases h2 : (G_126 M co 0 ((zI M 105 3) - 1)) = 0
  · rw [if_pos h2] at H
    have H : Ev none (e1 + 1) 2 40 [some (.ref 105), some (.int co), some (.int ro)] [.int (-1)] M v M' 0 0 := Ev.back 1 (fun n => rfl) H
    obtain ⟨p1, p2⟩ := Ev.retz rfl rfl H
    exact ⟨by rw [if_pos h2]; exact p1, p2⟩
  · rw [if_neg h2] at H
    have H : Ev none (e1 + 1) 2 17 [some (.ref 105), some (.int co), some (.int ro)] [.ref 105, .int 0, .int ro] M v M' 0 0 := Ev.back 3 (fun n => rfl) H
    have H : Ev none (e1 + 1) 2 20 [some (.ref 105), some (.int co), some (.int ro)] [.int (zI M 105 4), .int 0, .int ro] M v M' 0 0 := Ev.back 1 (gs_3 rfl rfl (gf_i hS.1 qa_105 qi_23_4 rfl)) H
    have H : Ev none (e1 + 1) 2 22 [some (.ref 105), some (.int co), some (.int ro)] [.int ((zI M 105 4) - 1), .int 0, .int ro] M v M' 0 0 := Ev.back 2 (fun n => rfl) H
    obtain ⟨vK3, MK3, K3, H⟩ := Ev.callb (fun n => rfl) H
    obtain ⟨pK3, qK3⟩ := g_126 hS K3
    rw [pK3, qK3] at H
    have H : Ev none (e1 + 1) 2 25 [some (.ref 105), some (.int co), some (.int ro)] [.int (G_126 M ro 0 ((zI M 105 4) - 1))] M v M' 0 0 := H
    have H : Ev none (e1 + 1) 2 (if (G_126 M ro 0 ((zI M 105 4) - 1)) = 0 then 39 else 28) [some (.ref 105), some (.int co), some (.int ro)] [] M v M' 0 0 := Ev.back 1 (fun n => rfl) H
    by_cases h4 : (G_126 M ro 0 ((zI M 105 4) - 1)) = 0
    · rw [if_pos h4] at H
      have H : Ev none (e1 + 1) 2 40 [some (.ref 105), some (.int co), some (.int ro)] [.int (-1)] M v M' 0 0 := Ev.back 1 (fun n => rfl) H
      obtain ⟨p1, p2⟩ := Ev.retz rfl rfl H
      exact ⟨by rw [if_neg h2, if_pos h4]; exact p1, p2⟩
    · rw [if_neg h4] at H
      have H : Ev none (e1 + 1) 2 29 [some (.ref 105), some (.int co), some (.int ro)] [.ref 105] M v M' 0 0 := Ev.back 1 (fun n => rfl) H
      have H : Ev none (e1 + 1) 2 32 [some (.ref 105), some (.int co), some (.int ro)] [.int (zI M 105 3)] M v M' 0 0 := Ev.back 1 (gs_3 rfl rfl (gf_i hS.1 qa_105 qi_23_3 rfl)) H
      have H : Ev none (e1 + 1) 2 40 [some (.ref 105), some (.int co), some (.int ro)] [.int (((zI M 105 3) * ro) + co)] M v M' 0 0 := Ev.back 5 (fun n => rfl) H
      obtain ⟨p1, p2⟩ := Ev.retz rfl rfl H
      exact ⟨by rw [if_neg h2, if_neg h4]; exact p1, p2⟩
theorem shp_0 {e : Nat} {M M' : Mem} {v : Option Value} {wi de : Int32} (hS : SQ M) (H : Ev none e 1 0 [some (.ref 105), some (.int wi), some (.int de), none, none] [] M v M' 0 0) : (wi = (zI M 105 3) ∧ de = (zI M 105 4) ∧ v = none ∧ M' = M) ∨ (wi = (zI M 105 3) ∧ ¬ (de = (zI M 105 4)) ∧ Ev none e 1 29 [some (.ref 105), some (.int wi), some (.int de), some (.int 0), none] [] (wF (wF M 105 3 wi) 105 4 de) v M' 0 0) ∨ (¬ (wi = (zI M 105 3)) ∧ Ev none e 1 29 [some (.ref 105), some (.int wi), some (.int de), some (.int 0), none] [] (wF (wF M 105 3 wi) 105 4 de) v M' 0 0) := by
  have H : Ev none e 1 2 [some (.ref 105), some (.int wi), some (.int de), none, none] [.ref 105, .int wi] M v M' 0 0 := Ev.back 2 (fun n => rfl) H
  have H : Ev none e 1 5 [some (.ref 105), some (.int wi), some (.int de), none, none] [.int (zI M 105 3), .int wi] M v M' 0 0 := Ev.back 1 (gs_3 rfl rfl (gf_i hS.1 qa_105 qi_23_3 rfl)) H
  have H : Ev none e 1 (if wi = (zI M 105 3) then 8 else 17) [some (.ref 105), some (.int wi), some (.int de), none, none] [] M v M' 0 0 := Ev.back 1 (fun n => rfl) H
  by_cases h1 : wi = (zI M 105 3)
  · rw [if_pos h1] at H
    have H : Ev none e 1 10 [some (.ref 105), some (.int wi), some (.int de), none, none] [.ref 105, .int de] M v M' 0 0 := Ev.back 2 (fun n => rfl) H
    have H : Ev none e 1 13 [some (.ref 105), some (.int wi), some (.int de), none, none] [.int (zI M 105 4), .int de] M v M' 0 0 := Ev.back 1 (gs_3 rfl rfl (gf_i hS.1 qa_105 qi_23_4 rfl)) H
    have H : Ev none e 1 (if de = (zI M 105 4) then 16 else 17) [some (.ref 105), some (.int wi), some (.int de), none, none] [] M v M' 0 0 := Ev.back 1 (fun n => rfl) H
    by_cases h2 : de = (zI M 105 4)
    · rw [if_pos h2] at H
      obtain ⟨z1, z2⟩ := Ev.retb (fun n => rfl) H
      exact Or.inl ⟨h1, h2, z1, z2⟩
    · rw [if_neg h2] at H
      have H : Ev none e 1 19 [some (.ref 105), some (.int wi), some (.int de), none, none] [.int wi, .ref 105] M v M' 0 0 := Ev.back 2 (fun n => rfl) H
      obtain ⟨N4, eN4⟩ : ∃ N, N = (wF M 105 3 wi) := ⟨_, rfl⟩
      have hN4 : SQ N4 := by rw [eN4]; exact hS.kf
      have H : Ev none e 1 22 [some (.ref 105), some (.int wi), some (.int de), none, none] [] N4 v M' 0 0 := by rw [eN4]; exact Ev.pfi rfl rfl rfl hS.1 qa_105 qi_23_3 H
      have H : Ev none e 1 24 [some (.ref 105), some (.int wi), some (.int de), none, none] [.int de, .ref 105] N4 v M' 0 0 := Ev.back 2 (fun n => rfl) H
      obtain ⟨N6, eN6⟩ : ∃ N, N = (wF N4 105 4 de) := ⟨_, rfl⟩
      have hN6 : SQ N6 := by rw [eN6]; exact hN4.kf
      have H : Ev none e 1 27 [some (.ref 105), some (.int wi), some (.int de), none, none] [] N6 v M' 0 0 := by rw [eN6]; exact Ev.pfi rfl rfl rfl hN4.1 qa_105 qi_23_4 H
      have H : Ev none e 1 29 [some (.ref 105), some (.int wi), some (.int de), some (.int 0), none] [] N6 v M' 0 0 := Ev.back 2 (fun n => rfl) H
      have HF := H
      subst eN4 eN6
      exact Or.inr (Or.inl ⟨h1, h2, HF⟩)
  · rw [if_neg h1] at H
    have H : Ev none e 1 19 [some (.ref 105), some (.int wi), some (.int de), none, none] [.int wi, .ref 105] M v M' 0 0 := Ev.back 2 (fun n => rfl) H
    obtain ⟨N8, eN8⟩ : ∃ N, N = (wF M 105 3 wi) := ⟨_, rfl⟩
    have hN8 : SQ N8 := by rw [eN8]; exact hS.kf
    have H : Ev none e 1 22 [some (.ref 105), some (.int wi), some (.int de), none, none] [] N8 v M' 0 0 := by rw [eN8]; exact Ev.pfi rfl rfl rfl hS.1 qa_105 qi_23_3 H
    have H : Ev none e 1 24 [some (.ref 105), some (.int wi), some (.int de), none, none] [.int de, .ref 105] N8 v M' 0 0 := Ev.back 2 (fun n => rfl) H
    obtain ⟨N10, eN10⟩ : ∃ N, N = (wF N8 105 4 de) := ⟨_, rfl⟩
    have hN10 : SQ N10 := by rw [eN10]; exact hN8.kf
    have H : Ev none e 1 27 [some (.ref 105), some (.int wi), some (.int de), none, none] [] N10 v M' 0 0 := by rw [eN10]; exact Ev.pfi rfl rfl rfl hN8.1 qa_105 qi_23_4 H
    have H : Ev none e 1 29 [some (.ref 105), some (.int wi), some (.int de), some (.int 0), none] [] N10 v M' 0 0 := Ev.back 2 (fun n => rfl) H
    have HF := H
    subst eN8 eN10
    exact Or.inr (Or.inr (⟨h1, HF⟩))
theorem shp_29 {e : Nat} {M M' : Mem} {v : Option Value} {wi de c : Int32} {c4 : Option Value} (hS : SQ M) (H : Ev none e 1 29 [some (.ref 105), some (.int wi), some (.int de), some (.int c), c4] [] M v M' 0 0) : (((zI M 105 3) * (zI M 105 4)) ≤ c ∧ v = none ∧ M' = M) ∨ (¬ (((zI M 105 3) * (zI M 105 4)) ≤ c) ∧ 256 ≤ c ∧ v = none ∧ M' = M) ∨ (¬ (((zI M 105 3) * (zI M 105 4)) ≤ c) ∧ ¬ (256 ≤ c) ∧ ¬ (zI M 105 3) = 0 ∧ (0 ≤ c.toInt ∧ c.toInt < 256) ∧ ¬ (zI M 105 3) = 0 ∧ (0 ≤ c.toInt ∧ c.toInt < 256) ∧ Ev none e 1 76 [some (.ref 105), some (.int wi), some (.int de), some (.int c), some (.int 0)] [] (wI (wI M 106 c.toNatClampNeg (c - c / (zI M 105 3) * (zI M 105 3))) 107 c.toNatClampNeg (c / (zI M 105 3))) v M' 0 0) := by
  have H : Ev none e 1 31 [some (.ref 105), some (.int wi), some (.int de), some (.int c), c4] [.ref 105, .int c] M v M' 0 0 := Ev.back 2 (fun n => rfl) H
  have H : Ev none e 1 34 [some (.ref 105), some (.int wi), some (.int de), some (.int c), c4] [.int (zI M 105 3), .int c] M v M' 0 0 := Ev.back 1 (gs_3 rfl rfl (gf_i hS.1 qa_105 qi_23_3 rfl)) H
  have H : Ev none e 1 35 [some (.ref 105), some (.int wi), some (.int de), some (.int c), c4] [.ref 105, .int (zI M 105 3), .int c] M v M' 0 0 := Ev.back 1 (fun n => rfl) H
  have H : Ev none e 1 38 [some (.ref 105), some (.int wi), some (.int de), some (.int c), c4] [.int (zI M 105 4), .int (zI M 105 3), .int c] M v M' 0 0 := Ev.back 1 (gs_3 rfl rfl (gf_i hS.1 qa_105 qi_23_4 rfl)) H
  have H : Ev none e 1 (if ((zI M 105 3) * (zI M 105 4)) ≤ c then 137 else 42) [some (.ref 105), some (.int wi), some (.int de), some (.int c), c4] [] M v M' 0 0 := Ev.back 2 (fun n => rfl) H
  by_cases h1 : ((zI M 105 3) * (zI M 105 4)) ≤ c
  · rw [if_pos h1] at H
    obtain ⟨z1, z2⟩ := Ev.retb (fun n => rfl) H
    exact Or.inl ⟨h1, z1, z2⟩
  · rw [if_neg h1] at H
    have H : Ev none e 1 (if 256 ≤ c then 137 else 49) [some (.ref 105), some (.int wi), some (.int de), some (.int c), c4] [] M v M' 0 0 := Ev.back 3 (fun n => rfl) H
    by_cases h2 : 256 ≤ c
    · rw [if_pos h2] at H
      obtain ⟨z1, z2⟩ := Ev.retb (fun n => rfl) H
      exact Or.inr (Or.inl ⟨h1, h2, z1, z2⟩)
    · rw [if_neg h2] at H
      have H : Ev none e 1 50 [some (.ref 105), some (.int wi), some (.int de), some (.int c), c4] [.ref 105] M v M' 0 0 := Ev.back 1 (fun n => rfl) H
      have H : Ev none e 1 53 [some (.ref 105), some (.int wi), some (.int de), some (.int c), c4] [.ref 106] M v M' 0 0 := Ev.back 1 (gs_3 rfl rfl (gf_u hS.1 qa_105 qr_23_0 qu_24 rfl)) H
      have H : Ev none e 1 56 [some (.ref 105), some (.int wi), some (.int de), some (.int c), c4] [.ref 105, .int c, .int c, .ref 106] M v M' 0 0 := Ev.back 3 (fun n => rfl) H
      have H : Ev none e 1 59 [some (.ref 105), some (.int wi), some (.int de), some (.int c), c4] [.int (zI M 105 3), .int c, .int c, .ref 106] M v M' 0 0 := Ev.back 1 (gs_3 rfl rfl (gf_i hS.1 qa_105 qi_23_3 rfl)) H
      obtain ⟨nz3, H⟩ := rm_i H rfl rfl
      have H : Ev none e 1 60 [some (.ref 105), some (.int wi), some (.int de), some (.int c), c4] [.int (c - c / (zI M 105 3) * (zI M 105 3)), .int c, .ref 106] M v M' 0 0 := H
      obtain ⟨b4, H⟩ := Ev.ias rfl rfl hS.1 qa_106 qw_24 H
      obtain ⟨N5, eN5⟩ : ∃ N, N = (wI M 106 c.toNatClampNeg (c - c / (zI M 105 3) * (zI M 105 3))) := ⟨_, rfl⟩
      have hN5 : SQ N5 := by rw [eN5]; exact hS.ki
      have H : Ev none e 1 61 [some (.ref 105), some (.int wi), some (.int de), some (.int c), c4] [] N5 v M' 0 0 := by rw [eN5]; exact H
      have H : Ev none e 1 62 [some (.ref 105), some (.int wi), some (.int de), some (.int c), c4] [.ref 105] N5 v M' 0 0 := Ev.back 1 (fun n => rfl) H
      have H : Ev none e 1 65 [some (.ref 105), some (.int wi), some (.int de), some (.int c), c4] [.ref 107] N5 v M' 0 0 := Ev.back 1 (gs_3 rfl rfl (gf_u hN5.1 qa_105 qr_23_1 qu_25 rfl)) H
      have H : Ev none e 1 68 [some (.ref 105), some (.int wi), some (.int de), some (.int c), c4] [.ref 105, .int c, .int c, .ref 107] N5 v M' 0 0 := Ev.back 3 (fun n => rfl) H
      have H : Ev none e 1 71 [some (.ref 105), some (.int wi), some (.int de), some (.int c), c4] [.int (zI N5 105 3), .int c, .int c, .ref 107] N5 v M' 0 0 := Ev.back 1 (gs_3 rfl rfl (gf_i hN5.1 qa_105 qi_23_3 rfl)) H
      rw [show zI N5 105 3 = zI M 105 3 from by rw [eN5]; exact fI_wI] at H
      obtain ⟨nz6, H⟩ := dv_i H rfl rfl
      have H : Ev none e 1 72 [some (.ref 105), some (.int wi), some (.int de), some (.int c), c4] [.int (c / (zI M 105 3)), .int c, .ref 107] N5 v M' 0 0 := H
      obtain ⟨b7, H⟩ := Ev.ias rfl rfl hN5.1 qa_107 qw_25 H
      obtain ⟨N8, eN8⟩ : ∃ N, N = (wI N5 107 c.toNatClampNeg (c / (zI M 105 3))) := ⟨_, rfl⟩
      have hN8 : SQ N8 := by rw [eN8]; exact hN5.ki
      have H : Ev none e 1 73 [some (.ref 105), some (.int wi), some (.int de), some (.int c), c4] [] N8 v M' 0 0 := by rw [eN8]; exact H
      have H : Ev none e 1 76 [some (.ref 105), some (.int wi), some (.int de), some (.int c), some (.int 0)] [] N8 v M' 0 0 := Ev.back 2 (fun n => rfl) H
      have HF := H
      subst eN5 eN8
      exact Or.inr (Or.inr (⟨h1, h2, nz3, b4, nz6, b7, HF⟩))
theorem shp_76 {e : Nat} {M M' : Mem} {v : Option Value} {wi de c d : Int32} (hS : SQ M) (H : Ev none e 1 76 [some (.ref 105), some (.int wi), some (.int de), some (.int c), some (.int d)] [] M v M' 0 0) : (8 ≤ d ∧ Ev none e 1 29 [some (.ref 105), some (.int wi), some (.int de), some (.int (c + 1)), some (.int d)] [] M v M' 0 0) ∨ (¬ (8 ≤ d) ∧ (0 ≤ c.toInt ∧ c.toInt < 256) ∧ (0 ≤ c.toInt ∧ c.toInt < 256) ∧ (0 ≤ ((8 * c) + d).toInt ∧ ((8 * c) + d).toInt < 2048) ∧ Ev none e 1 76 [some (.ref 105), some (.int wi), some (.int de), some (.int c), some (.int (d + 1))] [] (wI M 108 (((8 * c) + d).toNatClampNeg) (G_2 M ((rI M 106 c) + (sI 1 d)) ((rI M 107 c) + (sI 2 d)))) v M' 0 0) := by
  have H : Ev none e 1 (if 8 ≤ d then 131 else 83) [some (.ref 105), some (.int wi), some (.int de), some (.int c), some (.int d)] [] M v M' 0 0 := Ev.back 3 (fun n => rfl) H
  by_cases h1 : 8 ≤ d
  · rw [if_pos h1] at H
    have H : Ev none e 1 29 [some (.ref 105), some (.int wi), some (.int de), some (.int (c + 1)), some (.int d)] [] M v M' 0 0 := Ev.back 2 (fun n => rfl) H
    have HF := H
    exact Or.inl ⟨h1, HF⟩
  · rw [if_neg h1] at H
    have H : Ev none e 1 84 [some (.ref 105), some (.int wi), some (.int de), some (.int c), some (.int d)] [.ref 105] M v M' 0 0 := Ev.back 1 (fun n => rfl) H
    have H : Ev none e 1 87 [some (.ref 105), some (.int wi), some (.int de), some (.int c), some (.int d)] [.ref 108] M v M' 0 0 := Ev.back 1 (gs_3 rfl rfl (gf_u hS.1 qa_105 qr_23_2 qu_26 rfl)) H
    have H : Ev none e 1 96 [some (.ref 105), some (.int wi), some (.int de), some (.int c), some (.int d)] [.ref 105, .ref 105, .int ((8 * c) + d), .ref 108] M v M' 0 0 := Ev.back 7 (fun n => rfl) H
    have H : Ev none e 1 99 [some (.ref 105), some (.int wi), some (.int de), some (.int c), some (.int d)] [.ref 106, .ref 105, .int ((8 * c) + d), .ref 108] M v M' 0 0 := Ev.back 1 (gs_3 rfl rfl (gf_u hS.1 qa_105 qr_23_0 qu_24 rfl)) H
    have H : Ev none e 1 100 [some (.ref 105), some (.int wi), some (.int de), some (.int c), some (.int d)] [.int c, .ref 106, .ref 105, .int ((8 * c) + d), .ref 108] M v M' 0 0 := Ev.back 1 (fun n => rfl) H
    obtain ⟨b2, H⟩ := Ev.ial rfl rfl hS.1 qa_106 qw_24 H
    have H : Ev none e 1 101 [some (.ref 105), some (.int wi), some (.int de), some (.int c), some (.int d)] [.int (rI M 106 c), .ref 105, .int ((8 * c) + d), .ref 108] M v M' 0 0 := H
    have H : Ev none e 1 106 [some (.ref 105), some (.int wi), some (.int de), some (.int c), some (.int d)] [.int d, .retAddr 1, .int (rI M 106 c), .ref 105, .int ((8 * c) + d), .ref 108] M v M' 0 0 := Ev.back 2 (fun n => rfl) H
    have H : Ev none e 1 107 [some (.ref 105), some (.int wi), some (.int de), some (.int c), some (.int d)] [.int (sI 1 d), .int (rI M 106 c), .ref 105, .int ((8 * c) + d), .ref 108] M v M' 0 0 := Ev.sal rfl rfl H
    have H : Ev none e 1 109 [some (.ref 105), some (.int wi), some (.int de), some (.int c), some (.int d)] [.ref 105, .int ((rI M 106 c) + (sI 1 d)), .ref 105, .int ((8 * c) + d), .ref 108] M v M' 0 0 := Ev.back 2 (fun n => rfl) H
    have H : Ev none e 1 112 [some (.ref 105), some (.int wi), some (.int de), some (.int c), some (.int d)] [.ref 107, .int ((rI M 106 c) + (sI 1 d)), .ref 105, .int ((8 * c) + d), .ref 108] M v M' 0 0 := Ev.back 1 (gs_3 rfl rfl (gf_u hS.1 qa_105 qr_23_1 qu_25 rfl)) H
    have H : Ev none e 1 113 [some (.ref 105), some (.int wi), some (.int de), some (.int c), some (.int d)] [.int c, .ref 107, .int ((rI M 106 c) + (sI 1 d)), .ref 105, .int ((8 * c) + d), .ref 108] M v M' 0 0 := Ev.back 1 (fun n => rfl) H
    obtain ⟨b3, H⟩ := Ev.ial rfl rfl hS.1 qa_107 qw_25 H
    have H : Ev none e 1 114 [some (.ref 105), some (.int wi), some (.int de), some (.int c), some (.int d)] [.int (rI M 107 c), .int ((rI M 106 c) + (sI 1 d)), .ref 105, .int ((8 * c) + d), .ref 108] M v M' 0 0 := H
    have H : Ev none e 1 119 [some (.ref 105), some (.int wi), some (.int de), some (.int c), some (.int d)] [.int d, .retAddr 2, .int (rI M 107 c), .int ((rI M 106 c) + (sI 1 d)), .ref 105, .int ((8 * c) + d), .ref 108] M v M' 0 0 := Ev.back 2 (fun n => rfl) H
    have H : Ev none e 1 120 [some (.ref 105), some (.int wi), some (.int de), some (.int c), some (.int d)] [.int (sI 2 d), .int (rI M 107 c), .int ((rI M 106 c) + (sI 1 d)), .ref 105, .int ((8 * c) + d), .ref 108] M v M' 0 0 := Ev.sal rfl rfl H
    have H : Ev none e 1 121 [some (.ref 105), some (.int wi), some (.int de), some (.int c), some (.int d)] [.int ((rI M 107 c) + (sI 2 d)), .int ((rI M 106 c) + (sI 1 d)), .ref 105, .int ((8 * c) + d), .ref 108] M v M' 0 0 := Ev.back 1 (fun n => rfl) H
    obtain ⟨e1, rfl⟩ := Ev.dpos rfl rfl H
    obtain ⟨vK4, MK4, K4, H⟩ := Ev.callb (fun n_ => gs_7 rfl rfl (show gCal (.invokevirtual 34) 0 (.int ((rI M 107 c) + (sI 2 d)) :: .int ((rI M 106 c) + (sI 1 d)) :: .ref 105 :: [.int ((8 * c) + d), .ref 108]) M = some (.inr (2, [some (.ref 105), some (.int ((rI M 106 c) + (sI 1 d))), some (.int ((rI M 107 c) + (sI 2 d)))], [.int ((8 * c) + d), .ref 108])) from by show @cond (Option ((List Value × Mem) ⊕ (Nat × Lo × List Value))) (true && gRecv M (.ref 105) 0 && gRoom [.int ((8 * c) + d), .ref 108] && true) (some (.inr (2, [some (.ref 105), some (.int ((rI M 106 c) + (sI 1 d))), some (.int ((rI M 107 c) + (sI 2 d)))], [.int ((8 * c) + d), .ref 108]))) none = _; rw [recv_s hS.1 qa_105 qo_23]; rfl)) H
    obtain ⟨pK4, qK4⟩ := g_2 hS K4
    rw [pK4, qK4] at H
    have H : Ev none (e1 + 1) 1 124 [some (.ref 105), some (.int wi), some (.int de), some (.int c), some (.int d)] [.int (G_2 M ((rI M 106 c) + (sI 1 d)) ((rI M 107 c) + (sI 2 d))), .int ((8 * c) + d), .ref 108] M v M' 0 0 := H
    obtain ⟨b5, H⟩ := Ev.ias rfl rfl hS.1 qa_108 qw_26 H
    obtain ⟨N6, eN6⟩ : ∃ N, N = (wI M 108 (((8 * c) + d).toNatClampNeg) (G_2 M ((rI M 106 c) + (sI 1 d)) ((rI M 107 c) + (sI 2 d)))) := ⟨_, rfl⟩
    have hN6 : SQ N6 := by rw [eN6]; exact hS.ki
    have H : Ev none (e1 + 1) 1 125 [some (.ref 105), some (.int wi), some (.int de), some (.int c), some (.int d)] [] N6 v M' 0 0 := by rw [eN6]; exact H
    have H : Ev none (e1 + 1) 1 76 [some (.ref 105), some (.int wi), some (.int de), some (.int c), some (.int (d + 1))] [] N6 v M' 0 0 := Ev.back 2 (fun n => rfl) H
    have HF := H
    subst eN6
    exact Or.inr (⟨h1, b2, b3, b5, HF⟩)
theorem ent_0 {e : Nat} {M M' : Mem} {v : Option Value} {L : Nat} (hS : SQ M) (a_L : gNth sT L = some 8) (H : Ev none e 54 0 [some (.ref 104), some (.ref L)] [] M v M' 0 0) : (∃ e1 v1 M1, e = e1 + 1 ∧ Ev none e1 1 0 [some (.ref 105), some (.int (zI M L 0)), some (.int (zI M L 1)), none, none] [] (wR M 104 7 L) v1 M1 0 0 ∧ Ev none e 54 26 [some (.ref 104), some (.ref L)] (v1.toList ++ []) M1 v M' 0 0) := by
  have H : Ev none e 54 2 [some (.ref 104), some (.ref L)] [.ref L, .ref 104] M v M' 0 0 := Ev.back 2 (fun n => rfl) H
  obtain ⟨N2, eN2⟩ : ∃ N, N = (wR M 104 7 L) := ⟨_, rfl⟩
  have hN2 : SQ N2 := by rw [eN2]; exact hS.kr_22_7 a_L
  have H : Ev none e 54 5 [some (.ref 104), some (.ref L)] [] N2 v M' 0 0 := by rw [eN2]; exact Ev.pfr rfl rfl rfl hS.1 qa_104 qo_22 H
  have H : Ev none e 54 6 [some (.ref 104), some (.ref L)] [.ref 104] N2 v M' 0 0 := Ev.back 1 (fun n => rfl) H
  have H : Ev none e 54 9 [some (.ref 104), some (.ref L)] [.ref 105] N2 v M' 0 0 := Ev.back 1 (gs_3 rfl rfl (gf_u hN2.1 qa_104 qr_22_0 qu_23 rfl)) H
  have H : Ev none e 54 10 [some (.ref 104), some (.ref L)] [.ref 104, .ref 105] N2 v M' 0 0 := Ev.back 1 (fun n => rfl) H
  have H : Ev none e 54 13 [some (.ref 104), some (.ref L)] [.ref (fR N2 104 7), .ref 105] N2 v M' 0 0 := Ev.back 1 (gs_3 rfl rfl (gf_r hN2.1 qa_104 qr_22_7 rfl)) H
  rw [show fR N2 104 7 = L from by rw [eN2]; exact fR_wR_eq hS.1 qa_104 qk_22_7] at H
  have H : Ev none e 54 16 [some (.ref 104), some (.ref L)] [.int (zI N2 L 0), .ref 105] N2 v M' 0 0 := Ev.back 1 (gs_3 rfl rfl (gf_i hN2.1 a_L qi_8_0 rfl)) H
  rw [show zI N2 L 0 = zI M L 0 from by rw [eN2]; exact fI_wR_ne (fun q => absurd q.2 (by decide))] at H
  have H : Ev none e 54 17 [some (.ref 104), some (.ref L)] [.ref 104, .int (zI M L 0), .ref 105] N2 v M' 0 0 := Ev.back 1 (fun n => rfl) H
  have H : Ev none e 54 20 [some (.ref 104), some (.ref L)] [.ref (fR N2 104 7), .int (zI M L 0), .ref 105] N2 v M' 0 0 := Ev.back 1 (gs_3 rfl rfl (gf_r hN2.1 qa_104 qr_22_7 rfl)) H
  rw [show fR N2 104 7 = L from by rw [eN2]; exact fR_wR_eq hS.1 qa_104 qk_22_7] at H
  have H : Ev none e 54 23 [some (.ref 104), some (.ref L)] [.int (zI N2 L 1), .int (zI M L 0), .ref 105] N2 v M' 0 0 := Ev.back 1 (gs_3 rfl rfl (gf_i hN2.1 a_L qi_8_1 rfl)) H
  rw [show zI N2 L 1 = zI M L 1 from by rw [eN2]; exact fI_wR_ne (fun q => absurd q.2 (by decide))] at H
  obtain ⟨e1, rfl⟩ := Ev.dpos rfl rfl H
  obtain ⟨vK3, MK3, K3, H⟩ := Ev.callb (fun n_ => gs_7 rfl rfl (show gCal (.invokevirtual 61) 7 (.int (zI M L 1) :: .int (zI M L 0) :: .ref 105 :: []) N2 = some (.inr (1, [some (.ref 105), some (.int (zI M L 0)), some (.int (zI M L 1)), none, none], [])) from by show @cond (Option ((List Value × Mem) ⊕ (Nat × Lo × List Value))) (true && gRecv N2 (.ref 105) 0 && gRoom [] && true) (some (.inr (1, [some (.ref 105), some (.int (zI M L 0)), some (.int (zI M L 1)), none, none], []))) none = _; rw [recv_s hN2.1 qa_105 qo_23]; rfl)) H
  have K3 : Ev none e1 1 0 [some (.ref 105), some (.int (zI M L 0)), some (.int (zI M L 1)), none, none] [] N2 vK3 MK3 0 0 := K3
  have HF := H
  subst eN2
  exact ⟨e1, vK3, MK3, rfl, K3, HF⟩
theorem ent_26 {e : Nat} {M M' : Mem} {v : Option Value} {L : Nat} (hS : SQ M) (a_L : gNth sT L = some 8) (H : Ev none e 54 26 [some (.ref 104), some (.ref L)] [] M v M' 0 0) : v = none ∧ M' = (X_55 (wF (wF (wF M 104 8 0) 104 9 (-1)) 104 10 0)) := by
  have H : Ev none e 54 28 [some (.ref 104), some (.ref L)] [.int 0, .ref 104] M v M' 0 0 := Ev.back 2 (fun n => rfl) H
  obtain ⟨N2, eN2⟩ : ∃ N, N = (wF M 104 8 0) := ⟨_, rfl⟩
  have hN2 : SQ N2 := by rw [eN2]; exact hS.kf
  have H : Ev none e 54 31 [some (.ref 104), some (.ref L)] [] N2 v M' 0 0 := by rw [eN2]; exact Ev.pfi rfl rfl rfl hS.1 qa_104 qi_22_8 H
  have H : Ev none e 54 33 [some (.ref 104), some (.ref L)] [.int (-1), .ref 104] N2 v M' 0 0 := Ev.back 2 (fun n => rfl) H
  obtain ⟨N4, eN4⟩ : ∃ N, N = (wF N2 104 9 (-1)) := ⟨_, rfl⟩
  have hN4 : SQ N4 := by rw [eN4]; exact hN2.kf
  have H : Ev none e 54 36 [some (.ref 104), some (.ref L)] [] N4 v M' 0 0 := by rw [eN4]; exact Ev.pfi rfl rfl rfl hN2.1 qa_104 qi_22_9 H
  have H : Ev none e 54 38 [some (.ref 104), some (.ref L)] [.int 0, .ref 104] N4 v M' 0 0 := Ev.back 2 (fun n => rfl) H
  obtain ⟨N6, eN6⟩ : ∃ N, N = (wF N4 104 10 0) := ⟨_, rfl⟩
  have hN6 : SQ N6 := by rw [eN6]; exact hN4.kf
  have H : Ev none e 54 41 [some (.ref 104), some (.ref L)] [] N6 v M' 0 0 := by rw [eN6]; exact Ev.pfi rfl rfl rfl hN4.1 qa_104 qi_22_10 H
  have H : Ev none e 54 42 [some (.ref 104), some (.ref L)] [.ref 104] N6 v M' 0 0 := Ev.back 1 (fun n => rfl) H
  obtain ⟨e1, rfl⟩ := Ev.dpos rfl rfl H
  obtain ⟨vK7, MK7, K7, H⟩ := Ev.callb (fun n_ => gs_7 rfl rfl (show gCal (.invokevirtual 75) 7 (.ref 104 :: []) N6 = some (.inr (55, [some (.ref 104)], [])) from by show @cond (Option ((List Value × Mem) ⊕ (Nat × Lo × List Value))) (true && gRecv N6 (.ref 104) 7 && gRoom [] && true) (some (.inr (55, [some (.ref 104)], []))) none = _; rw [recv_s hN6.1 qa_104 qo_22]; rfl)) H
  obtain ⟨pK7, qK7⟩ := g_55 hN6 K7
  rw [pK7, qK7] at H
  obtain ⟨N8, eN8⟩ : ∃ N, N = (X_55 N6) := ⟨_, rfl⟩
  have hN8 : SQ N8 := by rw [eN8]; exact X_55_sx hN6
  rw [← eN8] at H
  have H : Ev none (e1 + 1) 54 45 [some (.ref 104), some (.ref L)] [] N8 v M' 0 0 := H
  obtain ⟨z1, z2⟩ := Ev.retb (fun n => rfl) H
  subst eN2 eN4 eN6 eN8
  exact ⟨z1, z2⟩
