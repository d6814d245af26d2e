/-! THE CLASS'S game: pieces of its calls on the live land (made by gwal4.py) -/
theorem hsd_0 {e : Nat} {M M' : Mem} {v : Option Value} {c : Int32} {L : Nat} (hS : SQ M) (a_L : gNth sT L = some 8) (H : Ev none e 9 0 [some (.ref L), some (.int c), none] [] M v M' 0 0) : Ev none e 9 2 [some (.ref L), some (.int c), some (.int 0)] [] M v M' 0 0 := by
  have H : Ev none e 9 2 [some (.ref L), some (.int c), some (.int 0)] [] M v M' 0 0 := Ev.back 2 (fun n => rfl) H
  have HF := H
  exact HF
theorem hsd_2 {e : Nat} {M M' : Mem} {v : Option Value} {c k : Int32} {L : Nat} (hS : SQ M) (a_L : gNth sT L = some 8) (H : Ev none e 9 2 [some (.ref L), some (.int c), some (.int k)] [] M v M' 0 0) : ((zI M L 11) ≤ k ∧ v = some (.int 0) ∧ M' = M) ∨ (¬ ((zI M L 11) ≤ k) ∧ (rI M (L + 9) k) = c ∧ (0 ≤ k.toInt ∧ k.toInt < 9) ∧ v = some (.int 1) ∧ M' = M) ∨ (¬ ((zI M L 11) ≤ k) ∧ ¬ ((rI M (L + 9) k) = c) ∧ (0 ≤ k.toInt ∧ k.toInt < 9) ∧ Ev none e 9 2 [some (.ref L), some (.int c), some (.int (k + 1))] [] M v M' 0 0) := by
  have H : Ev none e 9 4 [some (.ref L), some (.int c), some (.int k)] [.ref L, .int k] M v M' 0 0 := Ev.back 2 (fun n => rfl) H
  have H : Ev none e 9 7 [some (.ref L), some (.int c), some (.int k)] [.int (zI M L 11), .int k] M v M' 0 0 := Ev.back 1 (gs_3 rfl rfl (gf_i hS.1 a_L qi_8_11 rfl)) H
  have H : Ev none e 9 (if (zI M L 11) ≤ k then 28 else 10) [some (.ref L), some (.int c), some (.int k)] [] M v M' 0 0 := Ev.back 1 (fun n => rfl) H
  by_cases h1 : (zI M L 11) ≤ k
  · rw [if_pos h1] at H
    have H : Ev none e 9 29 [some (.ref L), some (.int c), some (.int k)] [.int 0] M v M' 0 0 := Ev.back 1 (fun n => rfl) H
    obtain ⟨z1, z2⟩ := Ev.retz rfl rfl H
    exact Or.inl ⟨h1, z1, z2⟩
  · rw [if_neg h1] at H
    have H : Ev none e 9 11 [some (.ref L), some (.int c), some (.int k)] [.ref L] M v M' 0 0 := Ev.back 1 (fun n => rfl) H
    have H : Ev none e 9 14 [some (.ref L), some (.int c), some (.int k)] [.ref (L + 9)] M v M' 0 0 := Ev.back 1 (gs_3 rfl rfl (gf_x hS.1 a_L qo_8 (fx_l10 hS a_L) rfl)) H
    have H : Ev none e 9 15 [some (.ref L), some (.int c), some (.int k)] [.int k, .ref (L + 9)] M v M' 0 0 := Ev.back 1 (fun n => rfl) H
    obtain ⟨b2, H⟩ := Ev.ial rfl rfl hS.1 (fx_h10 a_L) qw_17 H
    have H : Ev none e 9 16 [some (.ref L), some (.int c), some (.int k)] [.int (rI M (L + 9) k)] M v M' 0 0 := H
    have H : Ev none e 9 (if (rI M (L + 9) k) = c then 20 else 22) [some (.ref L), some (.int c), some (.int k)] [] M v M' 0 0 := Ev.back 2 (fun n => rfl) H
    by_cases h3 : (rI M (L + 9) k) = c
    · rw [if_pos h3] at H
      have H : Ev none e 9 21 [some (.ref L), some (.int c), some (.int k)] [.int 1] M v M' 0 0 := Ev.back 1 (fun n => rfl) H
      obtain ⟨z1, z2⟩ := Ev.retz rfl rfl H
      exact Or.inr (Or.inl ⟨h1, h3, b2, z1, z2⟩)
    · rw [if_neg h3] at H
      have H : Ev none e 9 2 [some (.ref L), some (.int c), some (.int (k + 1))] [] M v M' 0 0 := Ev.back 2 (fun n => rfl) H
      have HF := H
      exact Or.inr (Or.inr (⟨h1, h3, b2, HF⟩))
noncomputable def X_10 (M : Mem) (L : Nat) (c : Int32) (k : Int32) : Mem := if (G_8 (wI M (L + 1) c.toNatClampNeg k) L c) = 0 then (wI (wI M (L + 1) c.toNatClampNeg k) (L + 4) c.toNatClampNeg 0) else (wI M (L + 1) c.toNatClampNeg k)
theorem g_10 {e : Nat} {M M' : Mem} {v : Option Value} {c k : Int32} {L : Nat} (hS : SQ M) (a_L : gNth sT L = some 8) (H : Ev none e 10 0 [some (.ref L), some (.int c), some (.int k)] [] M v M' 0 0) : v = none ∧ M' = X_10 M L c k := by
  unfold X_10
  have H : Ev none e 10 1 [some (.ref L), some (.int c), some (.int k)] [.ref L] M v M' 0 0 := Ev.back 1 (fun n => rfl) H
  have H : Ev none e 10 4 [some (.ref L), some (.int c), some (.int k)] [.ref (L + 1)] M v M' 0 0 := Ev.back 1 (gs_3 rfl rfl (gf_x hS.1 a_L qo_8 (fx_l2 hS a_L) rfl)) H
  have H : Ev none e 10 6 [some (.ref L), some (.int c), some (.int k)] [.int k, .int c, .ref (L + 1)] M v M' 0 0 := Ev.back 2 (fun n => rfl) H
  obtain ⟨b1, H⟩ := Ev.ias rfl rfl hS.1 (fx_h2 a_L) qw_9 H
  obtain ⟨N2, eN2⟩ : ∃ N, N = (wI M (L + 1) c.toNatClampNeg k) := ⟨_, rfl⟩
  have hN2 : SQ N2 := by rw [eN2]; exact hS.ki
  have H : Ev none e 10 7 [some (.ref L), some (.int c), some (.int k)] [] N2 v M' 0 0 := by rw [eN2]; exact H
  have H : Ev none e 10 9 [some (.ref L), some (.int c), some (.int k)] [.int c, .ref L] N2 v M' 0 0 := Ev.back 2 (fun n => rfl) H
  obtain ⟨e1, rfl⟩ := Ev.dpos rfl rfl H
  obtain ⟨vK3, MK3, K3, H⟩ := Ev.callb (fun n_ => gs_7 rfl rfl (show gCal (.invokevirtual 63) 1 (.int c :: .ref L :: []) N2 = some (.inr (8, [some (.ref L), some (.int c)], [])) from by show @cond (Option ((List Value × Mem) ⊕ (Nat × Lo × List Value))) (true && gRecv N2 (.ref L) 1 && gRoom [] && true) (some (.inr (8, [some (.ref L), some (.int c)], []))) none = _; rw [recv_s hN2.1 a_L qo_8]; rfl)) H
  obtain ⟨pK3, qK3⟩ := g_8 hN2 a_L K3
  rw [pK3, qK3] at H
  have H : Ev none (e1 + 1) 10 12 [some (.ref L), some (.int c), some (.int k)] [.int (G_8 N2 L c)] N2 v M' 0 0 := H
  have H : Ev none (e1 + 1) 10 (if (G_8 N2 L c) = 0 then 15 else 22) [some (.ref L), some (.int c), some (.int k)] [] N2 v M' 0 0 := Ev.back 1 (fun n => rfl) H
  by_cases h4 : (G_8 N2 L c) = 0
  · rw [if_pos h4] at H
    have H : Ev none (e1 + 1) 10 16 [some (.ref L), some (.int c), some (.int k)] [.ref L] N2 v M' 0 0 := Ev.back 1 (fun n => rfl) H
    have H : Ev none (e1 + 1) 10 19 [some (.ref L), some (.int c), some (.int k)] [.ref (L + 4)] N2 v M' 0 0 := Ev.back 1 (gs_3 rfl rfl (gf_x hN2.1 a_L qo_8 (fx_l5 hN2 a_L) rfl)) H
    have H : Ev none (e1 + 1) 10 21 [some (.ref L), some (.int c), some (.int k)] [.int 0, .int c, .ref (L + 4)] N2 v M' 0 0 := Ev.back 2 (fun n => rfl) H
    obtain ⟨b5, H⟩ := Ev.ias rfl rfl hN2.1 (fx_h5 a_L) qw_12 H
    obtain ⟨N6, eN6⟩ : ∃ N, N = (wI N2 (L + 4) c.toNatClampNeg 0) := ⟨_, rfl⟩
    have hN6 : SQ N6 := by rw [eN6]; exact hN2.ki
    have H : Ev none (e1 + 1) 10 22 [some (.ref L), some (.int c), some (.int k)] [] N6 v M' 0 0 := by rw [eN6]; exact H
    obtain ⟨p1, p2⟩ := Ev.retb (fun n => rfl) H
    subst eN2 eN6
    exact ⟨p1, by rw [if_pos h4]; exact p2⟩
  · rw [if_neg h4] at H
    obtain ⟨p1, p2⟩ := Ev.retb (fun n => rfl) H
    subst eN2
    exact ⟨p1, by rw [if_neg h4]; exact p2⟩
theorem X_10_sx {M : Mem} {c k : Int32} {L : Nat} (hS : SQ M) (a_L : gNth sT L = some 8) : SQ (X_10 M L c k) := by
  unfold X_10
  split
  · exact (hS.ki).ki
  · exact hS.ki
theorem isc_0 {e : Nat} {M M' : Mem} {v : Option Value} {c : Int32} (hS : SQ M) (hLd : fR M 0 2 = 8) (H : Ev none e 127 0 [some (.ref 0), some (.int c)] [] M v M' 0 0) : v = some (.int (G_126 M c 0 ((G_6 M 8) - 1))) ∧ M' = M := by
  have H : Ev none e 127 3 [some (.ref 0), some (.int c)] [.ref 0, .int 0, .int c] M v M' 0 0 := Ev.back 3 (fun n => rfl) H
  have H : Ev none e 127 6 [some (.ref 0), some (.int c)] [.ref (fR M 0 2), .int 0, .int c] M v M' 0 0 := Ev.back 1 (gs_3 rfl rfl (gf_r hS.1 qa_0 qr_0_2 rfl)) H
  rw [hLd] at H
  obtain ⟨e1, rfl⟩ := Ev.dpos rfl rfl H
  obtain ⟨vK1, MK1, K1, H⟩ := Ev.callb (fun n_ => gs_7 rfl rfl (show gCal (.invokevirtual 211) 10 (.ref 8 :: [.int 0, .int c]) M = some (.inr (6, [some (.ref 8)], [.int 0, .int c])) from by show @cond (Option ((List Value × Mem) ⊕ (Nat × Lo × List Value))) (true && gRecv M (.ref 8) 1 && gRoom [.int 0, .int c] && true) (some (.inr (6, [some (.ref 8)], [.int 0, .int c]))) none = _; rw [recv_s hS.1 qa_8 qo_8]; rfl)) H
  obtain ⟨pK1, qK1⟩ := g_6 hS qa_8 K1
  rw [pK1, qK1] at H
  have H : Ev none (e1 + 1) 127 9 [some (.ref 0), some (.int c)] [.int (G_6 M 8), .int 0, .int c] M v M' 0 0 := H
  have H : Ev none (e1 + 1) 127 11 [some (.ref 0), some (.int c)] [.int ((G_6 M 8) - 1), .int 0, .int c] M v M' 0 0 := Ev.back 2 (fun n => rfl) H
  obtain ⟨vK2, MK2, K2, H⟩ := Ev.callb (fun n => rfl) H
  obtain ⟨pK2, qK2⟩ := g_126 hS K2
  rw [pK2, qK2] at H
  have H : Ev none (e1 + 1) 127 14 [some (.ref 0), some (.int c)] [.int (G_126 M c 0 ((G_6 M 8) - 1))] M v M' 0 0 := H
  obtain ⟨z1, z2⟩ := Ev.retz rfl rfl H
  exact ⟨z1, z2⟩
theorem isd_0 {e : Nat} {M M' : Mem} {v : Option Value} {d : Int32} (hS : SQ M) (hLd : fR M 0 2 = 8) (H : Ev none e 128 0 [some (.ref 0), some (.int d)] [] M v M' 0 0) : v = some (.int (G_126 M d 0 ((zI M 8 11) - 1))) ∧ M' = M := by
  have H : Ev none e 128 3 [some (.ref 0), some (.int d)] [.ref 0, .int 0, .int d] M v M' 0 0 := Ev.back 3 (fun n => rfl) H
  have H : Ev none e 128 6 [some (.ref 0), some (.int d)] [.ref (fR M 0 2), .int 0, .int d] M v M' 0 0 := Ev.back 1 (gs_3 rfl rfl (gf_r hS.1 qa_0 qr_0_2 rfl)) H
  rw [hLd] at H
  have H : Ev none e 128 9 [some (.ref 0), some (.int d)] [.int (zI M 8 11), .int 0, .int d] M v M' 0 0 := Ev.back 1 (gs_3 rfl rfl (gf_i hS.1 qa_8 qi_8_11 rfl)) H
  have H : Ev none e 128 11 [some (.ref 0), some (.int d)] [.int ((zI M 8 11) - 1), .int 0, .int d] M v M' 0 0 := Ev.back 2 (fun n => rfl) H
  obtain ⟨e1, rfl⟩ := Ev.dpos rfl rfl H
  obtain ⟨vK1, MK1, K1, H⟩ := Ev.callb (fun n => rfl) H
  obtain ⟨pK1, qK1⟩ := g_126 hS K1
  rw [pK1, qK1] at H
  have H : Ev none (e1 + 1) 128 14 [some (.ref 0), some (.int d)] [.int (G_126 M d 0 ((zI M 8 11) - 1))] M v M' 0 0 := H
  obtain ⟨z1, z2⟩ := Ev.retz rfl rfl H
  exact ⟨z1, z2⟩
theorem twd_0 {e : Nat} {M M' : Mem} {v : Option Value} {x y : Int32} (hS : SQ M) (hLd : fR M 0 2 = 8) (H : Ev none e 129 0 [some (.ref 0), some (.int x), some (.int y)] [] M v M' 0 0) : (∃ e1 v1 M1, e = e1 + 1 ∧ Ev none e1 128 0 [some (.ref 0), some (.int x)] [] M v1 M1 0 0 ∧ Ev none e 129 5 [some (.ref 0), some (.int x), some (.int y)] (v1.toList ++ []) M1 v M' 0 0) := by
  have H : Ev none e 129 2 [some (.ref 0), some (.int x), some (.int y)] [.int x, .ref 0] M v M' 0 0 := Ev.back 2 (fun n => rfl) H
  obtain ⟨e1, rfl⟩ := Ev.dpos rfl rfl H
  obtain ⟨vK1, MK1, K1, H⟩ := Ev.callb (fun n_ => gs_7 rfl rfl (show gCal (.invokevirtual 302) 10 (.int x :: .ref 0 :: []) M = some (.inr (128, [some (.ref 0), some (.int x)], [])) from by show @cond (Option ((List Value × Mem) ⊕ (Nat × Lo × List Value))) (true && gRecv M (.ref 0) 10 && gRoom [] && true) (some (.inr (128, [some (.ref 0), some (.int x)], []))) none = _; rw [recv_s hS.1 qa_0 qo_0]; rfl)) H
  have K1 : Ev none e1 128 0 [some (.ref 0), some (.int x)] [] M vK1 MK1 0 0 := K1
  have HF := H
  exact ⟨e1, vK1, MK1, rfl, K1, HF⟩
theorem twd_5 {e : Nat} {M M' : Mem} {v : Option Value} {x y r : Int32} (hS : SQ M) (hLd : fR M 0 2 = 8) (H : Ev none e 129 5 [some (.ref 0), some (.int x), some (.int y)] [.int r] M v M' 0 0) : (r = 0 ∧ v = some (.int 0) ∧ M' = M) ∨ (¬ (r = 0) ∧ (∃ e1 v1 M1, e = e1 + 1 ∧ Ev none e1 128 0 [some (.ref 0), some (.int y)] [] M v1 M1 0 0 ∧ Ev none e 129 13 [some (.ref 0), some (.int x), some (.int y)] (v1.toList ++ []) M1 v M' 0 0)) := by
  have H : Ev none e 129 (if r = 0 then 25 else 8) [some (.ref 0), some (.int x), some (.int y)] [] M v M' 0 0 := Ev.back 1 (fun n => rfl) H
  by_cases h1 : r = 0
  · rw [if_pos h1] at H
    have H : Ev none e 129 26 [some (.ref 0), some (.int x), some (.int y)] [.int 0] M v M' 0 0 := Ev.back 1 (fun n => rfl) H
    obtain ⟨z1, z2⟩ := Ev.retz rfl rfl H
    exact Or.inl ⟨h1, z1, z2⟩
  · rw [if_neg h1] at H
    have H : Ev none e 129 10 [some (.ref 0), some (.int x), some (.int y)] [.int y, .ref 0] M v M' 0 0 := Ev.back 2 (fun n => rfl) H
    obtain ⟨e1, rfl⟩ := Ev.dpos rfl rfl H
    obtain ⟨vK2, MK2, K2, H⟩ := Ev.callb (fun n_ => gs_7 rfl rfl (show gCal (.invokevirtual 302) 10 (.int y :: .ref 0 :: []) M = some (.inr (128, [some (.ref 0), some (.int y)], [])) from by show @cond (Option ((List Value × Mem) ⊕ (Nat × Lo × List Value))) (true && gRecv M (.ref 0) 10 && gRoom [] && true) (some (.inr (128, [some (.ref 0), some (.int y)], []))) none = _; rw [recv_s hS.1 qa_0 qo_0]; rfl)) H
    have K2 : Ev none e1 128 0 [some (.ref 0), some (.int y)] [] M vK2 MK2 0 0 := K2
    have HF := H
    exact Or.inr (⟨h1, ⟨e1, vK2, MK2, rfl, K2, HF⟩⟩)
theorem twd_13 {e : Nat} {M M' : Mem} {v : Option Value} {x y r : Int32} (hS : SQ M) (hLd : fR M 0 2 = 8) (H : Ev none e 129 13 [some (.ref 0), some (.int x), some (.int y)] [.int r] M v M' 0 0) : (r = 0 ∧ v = some (.int 0) ∧ M' = M) ∨ (¬ (r = 0) ∧ x = y ∧ v = some (.int 0) ∧ M' = M) ∨ (¬ (r = 0) ∧ ¬ (x = y) ∧ v = some (.int 1) ∧ M' = M) := by
  have H : Ev none e 129 (if r = 0 then 25 else 16) [some (.ref 0), some (.int x), some (.int y)] [] M v M' 0 0 := Ev.back 1 (fun n => rfl) H
  by_cases h1 : r = 0
  · rw [if_pos h1] at H
    have H : Ev none e 129 26 [some (.ref 0), some (.int x), some (.int y)] [.int 0] M v M' 0 0 := Ev.back 1 (fun n => rfl) H
    obtain ⟨z1, z2⟩ := Ev.retz rfl rfl H
    exact Or.inl ⟨h1, z1, z2⟩
  · rw [if_neg h1] at H
    have H : Ev none e 129 (if x = y then 25 else 21) [some (.ref 0), some (.int x), some (.int y)] [] M v M' 0 0 := Ev.back 3 (fun n => rfl) H
    by_cases h2 : x = y
    · rw [if_pos h2] at H
      have H : Ev none e 129 26 [some (.ref 0), some (.int x), some (.int y)] [.int 0] M v M' 0 0 := Ev.back 1 (fun n => rfl) H
      obtain ⟨z1, z2⟩ := Ev.retz rfl rfl H
      exact Or.inr (Or.inl ⟨h1, h2, z1, z2⟩)
    · rw [if_neg h2] at H
      have H : Ev none e 129 26 [some (.ref 0), some (.int x), some (.int y)] [.int 1] M v M' 0 0 := Ev.back 2 (fun n => rfl) H
      obtain ⟨z1, z2⟩ := Ev.retz rfl rfl H
      exact Or.inr (Or.inr (⟨h1, h2, z1, z2⟩))
theorem isw_0 {e : Nat} {M M' : Mem} {v : Option Value} {k : Int32} (hS : SQ M) (hLd : fR M 0 2 = 8) (H : Ev none e 130 0 [some (.ref 0), some (.int k)] [] M v M' 0 0) : ((G_126 M k 0 ((zI M 8 13) - 1)) = 0 ∧ v = some (.int 0) ∧ M' = M) ∨ (¬ ((G_126 M k 0 ((zI M 8 13) - 1)) = 0) ∧ (zI M (oI M (8 + 10) k) 5) = 0 ∧ (0 ≤ k.toInt ∧ k.toInt < 24) ∧ v = some (.int 0) ∧ M' = M) ∨ (¬ ((G_126 M k 0 ((zI M 8 13) - 1)) = 0) ∧ ¬ ((zI M (oI M (8 + 10) k) 5) = 0) ∧ (0 ≤ k.toInt ∧ k.toInt < 24) ∧ v = some (.int 1) ∧ M' = M) := by
  have H : Ev none e 130 3 [some (.ref 0), some (.int k)] [.ref 0, .int 0, .int k] M v M' 0 0 := Ev.back 3 (fun n => rfl) H
  have H : Ev none e 130 6 [some (.ref 0), some (.int k)] [.ref (fR M 0 2), .int 0, .int k] M v M' 0 0 := Ev.back 1 (gs_3 rfl rfl (gf_r hS.1 qa_0 qr_0_2 rfl)) H
  rw [hLd] at H
  have H : Ev none e 130 9 [some (.ref 0), some (.int k)] [.int (zI M 8 13), .int 0, .int k] M v M' 0 0 := Ev.back 1 (gs_3 rfl rfl (gf_i hS.1 qa_8 qi_8_13 rfl)) H
  have H : Ev none e 130 11 [some (.ref 0), some (.int k)] [.int ((zI M 8 13) - 1), .int 0, .int k] M v M' 0 0 := Ev.back 2 (fun n => rfl) H
  obtain ⟨e1, rfl⟩ := Ev.dpos rfl rfl H
  obtain ⟨vK1, MK1, K1, H⟩ := Ev.callb (fun n => rfl) H
  obtain ⟨pK1, qK1⟩ := g_126 hS K1
  rw [pK1, qK1] at H
  have H : Ev none (e1 + 1) 130 14 [some (.ref 0), some (.int k)] [.int (G_126 M k 0 ((zI M 8 13) - 1))] M v M' 0 0 := H
  have H : Ev none (e1 + 1) 130 (if (G_126 M k 0 ((zI M 8 13) - 1)) = 0 then 36 else 17) [some (.ref 0), some (.int k)] [] M v M' 0 0 := Ev.back 1 (fun n => rfl) H
  by_cases h2 : (G_126 M k 0 ((zI M 8 13) - 1)) = 0
  · rw [if_pos h2] at H
    have H : Ev none (e1 + 1) 130 37 [some (.ref 0), some (.int k)] [.int 0] M v M' 0 0 := Ev.back 1 (fun n => rfl) H
    obtain ⟨z1, z2⟩ := Ev.retz rfl rfl H
    exact Or.inl ⟨h2, z1, z2⟩
  · rw [if_neg h2] at H
    have H : Ev none (e1 + 1) 130 18 [some (.ref 0), some (.int k)] [.ref 0] M v M' 0 0 := Ev.back 1 (fun n => rfl) H
    have H : Ev none (e1 + 1) 130 21 [some (.ref 0), some (.int k)] [.ref (fR M 0 2)] M v M' 0 0 := Ev.back 1 (gs_3 rfl rfl (gf_r hS.1 qa_0 qr_0_2 rfl)) H
    rw [hLd] at H
    have H : Ev none (e1 + 1) 130 24 [some (.ref 0), some (.int k)] [.ref (8 + 10)] M v M' 0 0 := Ev.back 1 (gs_3 rfl rfl (gf_x hS.1 qa_8 qo_8 (fx_l12 hS qa_8) rfl)) H
    have H : Ev none (e1 + 1) 130 25 [some (.ref 0), some (.int k)] [.int k, .ref (8 + 10)] M v M' 0 0 := Ev.back 1 (fun n => rfl) H
    obtain ⟨b3, H⟩ := Ev.aal rfl rfl hS.1 (fx_h12 qa_8) qz_18 H
    have H : Ev none (e1 + 1) 130 26 [some (.ref 0), some (.int k)] [.ref (oI M (8 + 10) k)] M v M' 0 0 := H
    have H : Ev none (e1 + 1) 130 29 [some (.ref 0), some (.int k)] [.int (zI M (oI M (8 + 10) k) 5)] M v M' 0 0 := Ev.back 1 (gs_3 rfl rfl (gf_i hS.1 b3.2 qi_20_5 rfl)) H
    have H : Ev none (e1 + 1) 130 (if (zI M (oI M (8 + 10) k) 5) = 0 then 36 else 32) [some (.ref 0), some (.int k)] [] M v M' 0 0 := Ev.back 1 (fun n => rfl) H
    by_cases h4 : (zI M (oI M (8 + 10) k) 5) = 0
    · rw [if_pos h4] at H
      have H : Ev none (e1 + 1) 130 37 [some (.ref 0), some (.int k)] [.int 0] M v M' 0 0 := Ev.back 1 (fun n => rfl) H
      obtain ⟨z1, z2⟩ := Ev.retz rfl rfl H
      exact Or.inr (Or.inl ⟨h2, h4, b3.1, z1, z2⟩)
    · rw [if_neg h4] at H
      have H : Ev none (e1 + 1) 130 37 [some (.ref 0), some (.int k)] [.int 1] M v M' 0 0 := Ev.back 2 (fun n => rfl) H
      obtain ⟨z1, z2⟩ := Ev.retz rfl rfl H
      exact Or.inr (Or.inr (⟨h2, h4, b3.1, z1, z2⟩))
theorem dor_0 {e : Nat} {M M' : Mem} {v : Option Value} {c : Int32} (hS : SQ M) (hLd : fR M 0 2 = 8) (H : Ev none e 84 0 [some (.ref 0), some (.int c)] [] M v M' 0 0) : ((zI M 8 11) = 9 ∧ v = some (.int (-1)) ∧ M' = M) ∨ (¬ ((zI M 8 11) = 9) ∧ (∃ e1 v1 M1, e = e1 + 1 ∧ Ev none e1 127 0 [some (.ref 0), some (.int c)] [] M v1 M1 0 0 ∧ Ev none e 84 17 [some (.ref 0), some (.int c)] (v1.toList ++ []) M1 v M' 0 0)) := by
  have H : Ev none e 84 1 [some (.ref 0), some (.int c)] [.ref 0] M v M' 0 0 := Ev.back 1 (fun n => rfl) H
  have H : Ev none e 84 4 [some (.ref 0), some (.int c)] [.ref (fR M 0 2)] M v M' 0 0 := Ev.back 1 (gs_3 rfl rfl (gf_r hS.1 qa_0 qr_0_2 rfl)) H
  rw [hLd] at H
  have H : Ev none e 84 7 [some (.ref 0), some (.int c)] [.int (zI M 8 11)] M v M' 0 0 := Ev.back 1 (gs_3 rfl rfl (gf_i hS.1 qa_8 qi_8_11 rfl)) H
  have H : Ev none e 84 (if (zI M 8 11) = 9 then 42 else 12) [some (.ref 0), some (.int c)] [] M v M' 0 0 := Ev.back 2 (fun n => rfl) H
  by_cases h1 : (zI M 8 11) = 9
  · rw [if_pos h1] at H
    have H : Ev none e 84 43 [some (.ref 0), some (.int c)] [.int (-1)] M v M' 0 0 := Ev.back 1 (fun n => rfl) H
    obtain ⟨z1, z2⟩ := Ev.retz rfl rfl H
    exact Or.inl ⟨h1, z1, z2⟩
  · rw [if_neg h1] at H
    have H : Ev none e 84 14 [some (.ref 0), some (.int c)] [.int c, .ref 0] M v M' 0 0 := Ev.back 2 (fun n => rfl) H
    obtain ⟨e1, rfl⟩ := Ev.dpos rfl rfl H
    obtain ⟨vK2, MK2, K2, H⟩ := Ev.callb (fun n_ => gs_7 rfl rfl (show gCal (.invokevirtual 113) 10 (.int c :: .ref 0 :: []) M = some (.inr (127, [some (.ref 0), some (.int c)], [])) from by show @cond (Option ((List Value × Mem) ⊕ (Nat × Lo × List Value))) (true && gRecv M (.ref 0) 10 && gRoom [] && true) (some (.inr (127, [some (.ref 0), some (.int c)], []))) none = _; rw [recv_s hS.1 qa_0 qo_0]; rfl)) H
    have K2 : Ev none e1 127 0 [some (.ref 0), some (.int c)] [] M vK2 MK2 0 0 := K2
    have HF := H
    exact Or.inr (⟨h1, ⟨e1, vK2, MK2, rfl, K2, HF⟩⟩)
theorem dor_17 {e : Nat} {M M' : Mem} {v : Option Value} {c r : Int32} (hS : SQ M) (hLd : fR M 0 2 = 8) (H : Ev none e 84 17 [some (.ref 0), some (.int c)] [.int r] M v M' 0 0) : (r = 0 ∧ v = some (.int (-1)) ∧ M' = M) ∨ (¬ (r = 0) ∧ (G_7 M 8 c) = 0 ∧ v = some (.int (-1)) ∧ M' = M) ∨ (¬ (r = 0) ∧ ¬ ((G_7 M 8 c) = 0) ∧ (∃ e1 v1 M1, e = e1 + 1 ∧ Ev none e1 9 0 [some (.ref 8), some (.int c), none] [] M v1 M1 0 0 ∧ Ev none e 84 39 [some (.ref 0), some (.int c)] (v1.toList ++ []) M1 v M' 0 0)) := by
  have H : Ev none e 84 (if r = 0 then 42 else 20) [some (.ref 0), some (.int c)] [] M v M' 0 0 := Ev.back 1 (fun n => rfl) H
  by_cases h1 : r = 0
  · rw [if_pos h1] at H
    have H : Ev none e 84 43 [some (.ref 0), some (.int c)] [.int (-1)] M v M' 0 0 := Ev.back 1 (fun n => rfl) H
    obtain ⟨z1, z2⟩ := Ev.retz rfl rfl H
    exact Or.inl ⟨h1, z1, z2⟩
  · rw [if_neg h1] at H
    have H : Ev none e 84 21 [some (.ref 0), some (.int c)] [.ref 0] M v M' 0 0 := Ev.back 1 (fun n => rfl) H
    have H : Ev none e 84 24 [some (.ref 0), some (.int c)] [.ref (fR M 0 2)] M v M' 0 0 := Ev.back 1 (gs_3 rfl rfl (gf_r hS.1 qa_0 qr_0_2 rfl)) H
    rw [hLd] at H
    have H : Ev none e 84 25 [some (.ref 0), some (.int c)] [.int c, .ref 8] M v M' 0 0 := Ev.back 1 (fun n => rfl) H
    obtain ⟨e1, rfl⟩ := Ev.dpos rfl rfl H
    obtain ⟨vK2, MK2, K2, H⟩ := Ev.callb (fun n_ => gs_7 rfl rfl (show gCal (.invokevirtual 117) 10 (.int c :: .ref 8 :: []) M = some (.inr (7, [some (.ref 8), some (.int c)], [])) from by show @cond (Option ((List Value × Mem) ⊕ (Nat × Lo × List Value))) (true && gRecv M (.ref 8) 1 && gRoom [] && true) (some (.inr (7, [some (.ref 8), some (.int c)], []))) none = _; rw [recv_s hS.1 qa_8 qo_8]; rfl)) H
    obtain ⟨pK2, qK2⟩ := g_7 hS qa_8 K2
    rw [pK2, qK2] at H
    have H : Ev none (e1 + 1) 84 28 [some (.ref 0), some (.int c)] [.int (G_7 M 8 c)] M v M' 0 0 := H
    have H : Ev none (e1 + 1) 84 (if (G_7 M 8 c) = 0 then 42 else 31) [some (.ref 0), some (.int c)] [] M v M' 0 0 := Ev.back 1 (fun n => rfl) H
    by_cases h3 : (G_7 M 8 c) = 0
    · rw [if_pos h3] at H
      have H : Ev none (e1 + 1) 84 43 [some (.ref 0), some (.int c)] [.int (-1)] M v M' 0 0 := Ev.back 1 (fun n => rfl) H
      obtain ⟨z1, z2⟩ := Ev.retz rfl rfl H
      exact Or.inr (Or.inl ⟨h1, h3, z1, z2⟩)
    · rw [if_neg h3] at H
      have H : Ev none (e1 + 1) 84 32 [some (.ref 0), some (.int c)] [.ref 0] M v M' 0 0 := Ev.back 1 (fun n => rfl) H
      have H : Ev none (e1 + 1) 84 35 [some (.ref 0), some (.int c)] [.ref (fR M 0 2)] M v M' 0 0 := Ev.back 1 (gs_3 rfl rfl (gf_r hS.1 qa_0 qr_0_2 rfl)) H
      rw [hLd] at H
      have H : Ev none (e1 + 1) 84 36 [some (.ref 0), some (.int c)] [.int c, .ref 8] M v M' 0 0 := Ev.back 1 (fun n => rfl) H
      obtain ⟨vK4, MK4, K4, H⟩ := Ev.callb (fun n_ => gs_7 rfl rfl (show gCal (.invokevirtual 120) 10 (.int c :: .ref 8 :: []) M = some (.inr (9, [some (.ref 8), some (.int c), none], [])) from by show @cond (Option ((List Value × Mem) ⊕ (Nat × Lo × List Value))) (true && gRecv M (.ref 8) 1 && gRoom [] && true) (some (.inr (9, [some (.ref 8), some (.int c), none], []))) none = _; rw [recv_s hS.1 qa_8 qo_8]; rfl)) H
      have K4 : Ev none e1 9 0 [some (.ref 8), some (.int c), none] [] M vK4 MK4 0 0 := K4
      have HF := H
      exact Or.inr (Or.inr (⟨h1, h3, ⟨e1, vK4, MK4, rfl, K4, HF⟩⟩))
theorem dor_39 {e : Nat} {M M' : Mem} {v : Option Value} {c r : Int32} (hS : SQ M) (hLd : fR M 0 2 = 8) (H : Ev none e 84 39 [some (.ref 0), some (.int c)] [.int r] M v M' 0 0) : (r = 0 ∧ (0 ≤ (zI M 8 11).toInt ∧ (zI M 8 11).toInt < 9) ∧ v = some (.int (zI M 8 11)) ∧ M' = (wF (wI M (8 + 9) ((zI M 8 11).toNatClampNeg) c) 8 11 ((zI M 8 11) + 1))) ∨ (¬ (r = 0) ∧ v = some (.int (-1)) ∧ M' = M) := by
  have H : Ev none e 84 (if r = 0 then 44 else 42) [some (.ref 0), some (.int c)] [] M v M' 0 0 := Ev.back 1 (fun n => rfl) H
  by_cases h1 : r = 0
  · rw [if_pos h1] at H
    have H : Ev none e 84 45 [some (.ref 0), some (.int c)] [.ref 0] M v M' 0 0 := Ev.back 1 (fun n => rfl) H
    have H : Ev none e 84 48 [some (.ref 0), some (.int c)] [.ref (fR M 0 2)] M v M' 0 0 := Ev.back 1 (gs_3 rfl rfl (gf_r hS.1 qa_0 qr_0_2 rfl)) H
    rw [hLd] at H
    have H : Ev none e 84 51 [some (.ref 0), some (.int c)] [.ref (8 + 9)] M v M' 0 0 := Ev.back 1 (gs_3 rfl rfl (gf_x hS.1 qa_8 qo_8 (fx_l10 hS qa_8) rfl)) H
    have H : Ev none e 84 52 [some (.ref 0), some (.int c)] [.ref 0, .ref (8 + 9)] M v M' 0 0 := Ev.back 1 (fun n => rfl) H
    have H : Ev none e 84 55 [some (.ref 0), some (.int c)] [.ref (fR M 0 2), .ref (8 + 9)] M v M' 0 0 := Ev.back 1 (gs_3 rfl rfl (gf_r hS.1 qa_0 qr_0_2 rfl)) H
    rw [hLd] at H
    have H : Ev none e 84 58 [some (.ref 0), some (.int c)] [.int (zI M 8 11), .ref (8 + 9)] M v M' 0 0 := Ev.back 1 (gs_3 rfl rfl (gf_i hS.1 qa_8 qi_8_11 rfl)) H
    have H : Ev none e 84 59 [some (.ref 0), some (.int c)] [.int c, .int (zI M 8 11), .ref (8 + 9)] M v M' 0 0 := Ev.back 1 (fun n => rfl) H
    obtain ⟨b2, H⟩ := Ev.ias rfl rfl hS.1 (fx_h10 qa_8) qw_17 H
    obtain ⟨N3, eN3⟩ : ∃ N, N = (wI M (8 + 9) ((zI M 8 11).toNatClampNeg) c) := ⟨_, rfl⟩
    have hN3 : SQ N3 := by rw [eN3]; exact hS.ki
    have H : Ev none e 84 60 [some (.ref 0), some (.int c)] [] N3 v M' 0 0 := by rw [eN3]; exact H
    have H : Ev none e 84 61 [some (.ref 0), some (.int c)] [.ref 0] N3 v M' 0 0 := Ev.back 1 (fun n => rfl) H
    have H : Ev none e 84 64 [some (.ref 0), some (.int c)] [.ref (fR N3 0 2)] N3 v M' 0 0 := Ev.back 1 (gs_3 rfl rfl (gf_r hN3.1 qa_0 qr_0_2 rfl)) H
    rw [show fR N3 0 2 = fR M 0 2 from by rw [eN3]; exact fR_wI] at H
    rw [hLd] at H
    have H : Ev none e 84 65 [some (.ref 0), some (.int c)] [.ref 8, .ref 8] N3 v M' 0 0 := Ev.back 1 (fun n => rfl) H
    have H : Ev none e 84 68 [some (.ref 0), some (.int c)] [.int (zI N3 8 11), .ref 8] N3 v M' 0 0 := Ev.back 1 (gs_3 rfl rfl (gf_i hN3.1 qa_8 qi_8_11 rfl)) H
    rw [show zI N3 8 11 = zI M 8 11 from by rw [eN3]; exact fI_wI] at H
    have H : Ev none e 84 71 [some (.ref 0), some (.int c)] [.int ((zI M 8 11) + 1), .ref 8, .int (zI M 8 11)] N3 v M' 0 0 := Ev.back 3 (fun n => rfl) H
    obtain ⟨N5, eN5⟩ : ∃ N, N = (wF N3 8 11 ((zI M 8 11) + 1)) := ⟨_, rfl⟩
    have hN5 : SQ N5 := by rw [eN5]; exact hN3.kf
    have H : Ev none e 84 74 [some (.ref 0), some (.int c)] [.int (zI M 8 11)] N5 v M' 0 0 := by rw [eN5]; exact Ev.pfi rfl rfl rfl hN3.1 qa_8 qi_8_11 H
    obtain ⟨z1, z2⟩ := Ev.retz rfl rfl H
    subst eN3 eN5
    exact Or.inl ⟨h1, b2, z1, z2⟩
  · rw [if_neg h1] at H
    have H : Ev none e 84 43 [some (.ref 0), some (.int c)] [.int (-1)] M v M' 0 0 := Ev.back 1 (fun n => rfl) H
    obtain ⟨z1, z2⟩ := Ev.retz rfl rfl H
    exact Or.inr (⟨h1, z1, z2⟩)
theorem wis_0 {e : Nat} {M M' : Mem} {v : Option Value} {a b h ev fi : Int32} (hS : SQ M) (hLd : fR M 0 2 = 8) (H : Ev none e 89 0 [some (.ref 0), some (.int a), some (.int b), some (.int h), some (.int ev), some (.int fi), none] [] M v M' 0 0) : ((zI M 8 13) = 24 ∧ v = some (.int (-1)) ∧ M' = M) ∨ (¬ ((zI M 8 13) = 24) ∧ (∃ e1 v1 M1, e = e1 + 1 ∧ Ev none e1 129 0 [some (.ref 0), some (.int a), some (.int b)] [] M v1 M1 0 0 ∧ Ev none e 89 18 [some (.ref 0), some (.int a), some (.int b), some (.int h), some (.int ev), some (.int fi), none] (v1.toList ++ []) M1 v M' 0 0)) := by
  have H : Ev none e 89 1 [some (.ref 0), some (.int a), some (.int b), some (.int h), some (.int ev), some (.int fi), none] [.ref 0] M v M' 0 0 := Ev.back 1 (fun n => rfl) H
  have H : Ev none e 89 4 [some (.ref 0), some (.int a), some (.int b), some (.int h), some (.int ev), some (.int fi), none] [.ref (fR M 0 2)] M v M' 0 0 := Ev.back 1 (gs_3 rfl rfl (gf_r hS.1 qa_0 qr_0_2 rfl)) H
  rw [hLd] at H
  have H : Ev none e 89 7 [some (.ref 0), some (.int a), some (.int b), some (.int h), some (.int ev), some (.int fi), none] [.int (zI M 8 13)] M v M' 0 0 := Ev.back 1 (gs_3 rfl rfl (gf_i hS.1 qa_8 qi_8_13 rfl)) H
  have H : Ev none e 89 (if (zI M 8 13) = 24 then 30 else 12) [some (.ref 0), some (.int a), some (.int b), some (.int h), some (.int ev), some (.int fi), none] [] M v M' 0 0 := Ev.back 2 (fun n => rfl) H
  by_cases h1 : (zI M 8 13) = 24
  · rw [if_pos h1] at H
    have H : Ev none e 89 31 [some (.ref 0), some (.int a), some (.int b), some (.int h), some (.int ev), some (.int fi), none] [.int (-1)] M v M' 0 0 := Ev.back 1 (fun n => rfl) H
    obtain ⟨z1, z2⟩ := Ev.retz rfl rfl H
    exact Or.inl ⟨h1, z1, z2⟩
  · rw [if_neg h1] at H
    have H : Ev none e 89 15 [some (.ref 0), some (.int a), some (.int b), some (.int h), some (.int ev), some (.int fi), none] [.int b, .int a, .ref 0] M v M' 0 0 := Ev.back 3 (fun n => rfl) H
    obtain ⟨e1, rfl⟩ := Ev.dpos rfl rfl H
    obtain ⟨vK2, MK2, K2, H⟩ := Ev.callb (fun n_ => gs_7 rfl rfl (show gCal (.invokevirtual 162) 10 (.int b :: .int a :: .ref 0 :: []) M = some (.inr (129, [some (.ref 0), some (.int a), some (.int b)], [])) from by show @cond (Option ((List Value × Mem) ⊕ (Nat × Lo × List Value))) (true && gRecv M (.ref 0) 10 && gRoom [] && true) (some (.inr (129, [some (.ref 0), some (.int a), some (.int b)], []))) none = _; rw [recv_s hS.1 qa_0 qo_0]; rfl)) H
    have K2 : Ev none e1 129 0 [some (.ref 0), some (.int a), some (.int b)] [] M vK2 MK2 0 0 := K2
    have HF := H
    exact Or.inr (⟨h1, ⟨e1, vK2, MK2, rfl, K2, HF⟩⟩)
theorem wis_18 {e : Nat} {M M' : Mem} {v : Option Value} {a b h ev fi r : Int32} (hS : SQ M) (hLd : fR M 0 2 = 8) (H : Ev none e 89 18 [some (.ref 0), some (.int a), some (.int b), some (.int h), some (.int ev), some (.int fi), none] [.int r] M v M' 0 0) : (r = 0 ∧ v = some (.int (-1)) ∧ M' = M) ∨ (¬ (r = 0) ∧ (G_126 M h 0 5) = 0 ∧ v = some (.int (-1)) ∧ M' = M) ∨ (¬ (r = 0) ∧ ¬ ((G_126 M h 0 5) = 0) ∧ (G_126 M ev 1 200) = 0 ∧ v = some (.int (-1)) ∧ M' = M) ∨ (¬ (r = 0) ∧ ¬ ((G_126 M h 0 5) = 0) ∧ ¬ ((G_126 M ev 1 200) = 0) ∧ (G_126 M fi 0 60000) = 0 ∧ v = some (.int (-1)) ∧ M' = M) ∨ (¬ (r = 0) ∧ ¬ ((G_126 M h 0 5) = 0) ∧ ¬ ((G_126 M ev 1 200) = 0) ∧ ¬ ((G_126 M fi 0 60000) = 0) ∧ (0 ≤ (zI M 8 13).toInt ∧ (zI M 8 13).toInt < 24) ∧ Ev none e 89 74 [some (.ref 0), some (.int a), some (.int b), some (.int h), some (.int ev), some (.int fi), some (.ref (oI M (8 + 10) (zI M 8 13)))] [] M v M' 0 0) := by
  have H : Ev none e 89 (if r = 0 then 30 else 21) [some (.ref 0), some (.int a), some (.int b), some (.int h), some (.int ev), some (.int fi), none] [] M v M' 0 0 := Ev.back 1 (fun n => rfl) H
  by_cases h1 : r = 0
  · rw [if_pos h1] at H
    have H : Ev none e 89 31 [some (.ref 0), some (.int a), some (.int b), some (.int h), some (.int ev), some (.int fi), none] [.int (-1)] M v M' 0 0 := Ev.back 1 (fun n => rfl) H
    obtain ⟨z1, z2⟩ := Ev.retz rfl rfl H
    exact Or.inl ⟨h1, z1, z2⟩
  · rw [if_neg h1] at H
    have H : Ev none e 89 24 [some (.ref 0), some (.int a), some (.int b), some (.int h), some (.int ev), some (.int fi), none] [.int 5, .int 0, .int h] M v M' 0 0 := Ev.back 3 (fun n => rfl) H
    obtain ⟨e1, rfl⟩ := Ev.dpos rfl rfl H
    obtain ⟨vK2, MK2, K2, H⟩ := Ev.callb (fun n => rfl) H
    obtain ⟨pK2, qK2⟩ := g_126 hS K2
    rw [pK2, qK2] at H
    have H : Ev none (e1 + 1) 89 27 [some (.ref 0), some (.int a), some (.int b), some (.int h), some (.int ev), some (.int fi), none] [.int (G_126 M h 0 5)] M v M' 0 0 := H
    have H : Ev none (e1 + 1) 89 (if (G_126 M h 0 5) = 0 then 30 else 32) [some (.ref 0), some (.int a), some (.int b), some (.int h), some (.int ev), some (.int fi), none] [] M v M' 0 0 := Ev.back 1 (fun n => rfl) H
    by_cases h3 : (G_126 M h 0 5) = 0
    · rw [if_pos h3] at H
      have H : Ev none (e1 + 1) 89 31 [some (.ref 0), some (.int a), some (.int b), some (.int h), some (.int ev), some (.int fi), none] [.int (-1)] M v M' 0 0 := Ev.back 1 (fun n => rfl) H
      obtain ⟨z1, z2⟩ := Ev.retz rfl rfl H
      exact Or.inr (Or.inl ⟨h1, h3, z1, z2⟩)
    · rw [if_neg h3] at H
      have H : Ev none (e1 + 1) 89 38 [some (.ref 0), some (.int a), some (.int b), some (.int h), some (.int ev), some (.int fi), none] [.int 200, .int 1, .int ev] M v M' 0 0 := Ev.back 3 (fun n => rfl) H
      obtain ⟨vK4, MK4, K4, H⟩ := Ev.callb (fun n => rfl) H
      obtain ⟨pK4, qK4⟩ := g_126 hS K4
      rw [pK4, qK4] at H
      have H : Ev none (e1 + 1) 89 41 [some (.ref 0), some (.int a), some (.int b), some (.int h), some (.int ev), some (.int fi), none] [.int (G_126 M ev 1 200)] M v M' 0 0 := H
      have H : Ev none (e1 + 1) 89 (if (G_126 M ev 1 200) = 0 then 55 else 44) [some (.ref 0), some (.int a), some (.int b), some (.int h), some (.int ev), some (.int fi), none] [] M v M' 0 0 := Ev.back 1 (fun n => rfl) H
      by_cases h5 : (G_126 M ev 1 200) = 0
      · rw [if_pos h5] at H
        have H : Ev none (e1 + 1) 89 56 [some (.ref 0), some (.int a), some (.int b), some (.int h), some (.int ev), some (.int fi), none] [.int (-1)] M v M' 0 0 := Ev.back 1 (fun n => rfl) H
        obtain ⟨z1, z2⟩ := Ev.retz rfl rfl H
        exact Or.inr (Or.inr (Or.inl ⟨h1, h3, h5, z1, z2⟩))
      · rw [if_neg h5] at H
        have H : Ev none (e1 + 1) 89 49 [some (.ref 0), some (.int a), some (.int b), some (.int h), some (.int ev), some (.int fi), none] [.int 60000, .int 0, .int fi] M v M' 0 0 := Ev.back 3 (fun n => rfl) H
        obtain ⟨vK6, MK6, K6, H⟩ := Ev.callb (fun n => rfl) H
        obtain ⟨pK6, qK6⟩ := g_126 hS K6
        rw [pK6, qK6] at H
        have H : Ev none (e1 + 1) 89 52 [some (.ref 0), some (.int a), some (.int b), some (.int h), some (.int ev), some (.int fi), none] [.int (G_126 M fi 0 60000)] M v M' 0 0 := H
        have H : Ev none (e1 + 1) 89 (if (G_126 M fi 0 60000) = 0 then 55 else 57) [some (.ref 0), some (.int a), some (.int b), some (.int h), some (.int ev), some (.int fi), none] [] M v M' 0 0 := Ev.back 1 (fun n => rfl) H
        by_cases h7 : (G_126 M fi 0 60000) = 0
        · rw [if_pos h7] at H
          have H : Ev none (e1 + 1) 89 56 [some (.ref 0), some (.int a), some (.int b), some (.int h), some (.int ev), some (.int fi), none] [.int (-1)] M v M' 0 0 := Ev.back 1 (fun n => rfl) H
          obtain ⟨z1, z2⟩ := Ev.retz rfl rfl H
          exact Or.inr (Or.inr (Or.inr (Or.inl ⟨h1, h3, h5, h7, z1, z2⟩)))
        · rw [if_neg h7] at H
          have H : Ev none (e1 + 1) 89 58 [some (.ref 0), some (.int a), some (.int b), some (.int h), some (.int ev), some (.int fi), none] [.ref 0] M v M' 0 0 := Ev.back 1 (fun n => rfl) H
          have H : Ev none (e1 + 1) 89 61 [some (.ref 0), some (.int a), some (.int b), some (.int h), some (.int ev), some (.int fi), none] [.ref (fR M 0 2)] M v M' 0 0 := Ev.back 1 (gs_3 rfl rfl (gf_r hS.1 qa_0 qr_0_2 rfl)) H
          rw [hLd] at H
          have H : Ev none (e1 + 1) 89 64 [some (.ref 0), some (.int a), some (.int b), some (.int h), some (.int ev), some (.int fi), none] [.ref (8 + 10)] M v M' 0 0 := Ev.back 1 (gs_3 rfl rfl (gf_x hS.1 qa_8 qo_8 (fx_l12 hS qa_8) rfl)) H
          have H : Ev none (e1 + 1) 89 65 [some (.ref 0), some (.int a), some (.int b), some (.int h), some (.int ev), some (.int fi), none] [.ref 0, .ref (8 + 10)] M v M' 0 0 := Ev.back 1 (fun n => rfl) H
          have H : Ev none (e1 + 1) 89 68 [some (.ref 0), some (.int a), some (.int b), some (.int h), some (.int ev), some (.int fi), none] [.ref (fR M 0 2), .ref (8 + 10)] M v M' 0 0 := Ev.back 1 (gs_3 rfl rfl (gf_r hS.1 qa_0 qr_0_2 rfl)) H
          rw [hLd] at H
          have H : Ev none (e1 + 1) 89 71 [some (.ref 0), some (.int a), some (.int b), some (.int h), some (.int ev), some (.int fi), none] [.int (zI M 8 13), .ref (8 + 10)] M v M' 0 0 := Ev.back 1 (gs_3 rfl rfl (gf_i hS.1 qa_8 qi_8_13 rfl)) H
          obtain ⟨b8, H⟩ := Ev.aal rfl rfl hS.1 (fx_h12 qa_8) qz_18 H
          have H : Ev none (e1 + 1) 89 72 [some (.ref 0), some (.int a), some (.int b), some (.int h), some (.int ev), some (.int fi), none] [.ref (oI M (8 + 10) (zI M 8 13))] M v M' 0 0 := H
          have H : Ev none (e1 + 1) 89 74 [some (.ref 0), some (.int a), some (.int b), some (.int h), some (.int ev), some (.int fi), some (.ref (oI M (8 + 10) (zI M 8 13)))] [] M v M' 0 0 := Ev.back 1 (fun n => rfl) H
          have HF := H
          exact Or.inr (Or.inr (Or.inr (Or.inr (⟨h1, h3, h5, h7, b8.1, HF⟩))))
theorem wis_74 {e : Nat} {M M' : Mem} {v : Option Value} {a b h ev fi : Int32} {x : Nat} (hS : SQ M) (a_x : gNth sT x = some 20) (hLd : fR M 0 2 = 8) (H : Ev none e 89 74 [some (.ref 0), some (.int a), some (.int b), some (.int h), some (.int ev), some (.int fi), some (.ref x)] [] M v M' 0 0) : v = some (.int (zI M 8 13)) ∧ M' = (wF (wF (wF (wF (wF (wF (wF M x 0 a) x 1 b) x 2 h) x 3 ev) x 4 fi) x 5 1) 8 13 ((zI M 8 13) + 1)) := by
  have H : Ev none e 89 77 [some (.ref 0), some (.int a), some (.int b), some (.int h), some (.int ev), some (.int fi), some (.ref x)] [.int a, .ref x] M v M' 0 0 := Ev.back 2 (fun n => rfl) H
  obtain ⟨N2, eN2⟩ : ∃ N, N = (wF M x 0 a) := ⟨_, rfl⟩
  have hN2 : SQ N2 := by rw [eN2]; exact hS.kf
  have H : Ev none e 89 80 [some (.ref 0), some (.int a), some (.int b), some (.int h), some (.int ev), some (.int fi), some (.ref x)] [] N2 v M' 0 0 := by rw [eN2]; exact Ev.pfi rfl rfl rfl hS.1 a_x qi_20_0 H
  have H : Ev none e 89 83 [some (.ref 0), some (.int a), some (.int b), some (.int h), some (.int ev), some (.int fi), some (.ref x)] [.int b, .ref x] N2 v M' 0 0 := Ev.back 2 (fun n => rfl) H
  obtain ⟨N4, eN4⟩ : ∃ N, N = (wF N2 x 1 b) := ⟨_, rfl⟩
  have hN4 : SQ N4 := by rw [eN4]; exact hN2.kf
  have H : Ev none e 89 86 [some (.ref 0), some (.int a), some (.int b), some (.int h), some (.int ev), some (.int fi), some (.ref x)] [] N4 v M' 0 0 := by rw [eN4]; exact Ev.pfi rfl rfl rfl hN2.1 a_x qi_20_1 H
  have H : Ev none e 89 89 [some (.ref 0), some (.int a), some (.int b), some (.int h), some (.int ev), some (.int fi), some (.ref x)] [.int h, .ref x] N4 v M' 0 0 := Ev.back 2 (fun n => rfl) H
  obtain ⟨N6, eN6⟩ : ∃ N, N = (wF N4 x 2 h) := ⟨_, rfl⟩
  have hN6 : SQ N6 := by rw [eN6]; exact hN4.kf
  have H : Ev none e 89 92 [some (.ref 0), some (.int a), some (.int b), some (.int h), some (.int ev), some (.int fi), some (.ref x)] [] N6 v M' 0 0 := by rw [eN6]; exact Ev.pfi rfl rfl rfl hN4.1 a_x qi_20_2 H
  have H : Ev none e 89 96 [some (.ref 0), some (.int a), some (.int b), some (.int h), some (.int ev), some (.int fi), some (.ref x)] [.int ev, .ref x] N6 v M' 0 0 := Ev.back 2 (fun n => rfl) H
  obtain ⟨N8, eN8⟩ : ∃ N, N = (wF N6 x 3 ev) := ⟨_, rfl⟩
  have hN8 : SQ N8 := by rw [eN8]; exact hN6.kf
  have H : Ev none e 89 99 [some (.ref 0), some (.int a), some (.int b), some (.int h), some (.int ev), some (.int fi), some (.ref x)] [] N8 v M' 0 0 := by rw [eN8]; exact Ev.pfi rfl rfl rfl hN6.1 a_x qi_20_3 H
  have H : Ev none e 89 103 [some (.ref 0), some (.int a), some (.int b), some (.int h), some (.int ev), some (.int fi), some (.ref x)] [.int fi, .ref x] N8 v M' 0 0 := Ev.back 2 (fun n => rfl) H
  obtain ⟨N10, eN10⟩ : ∃ N, N = (wF N8 x 4 fi) := ⟨_, rfl⟩
  have hN10 : SQ N10 := by rw [eN10]; exact hN8.kf
  have H : Ev none e 89 106 [some (.ref 0), some (.int a), some (.int b), some (.int h), some (.int ev), some (.int fi), some (.ref x)] [] N10 v M' 0 0 := by rw [eN10]; exact Ev.pfi rfl rfl rfl hN8.1 a_x qi_20_4 H
  have H : Ev none e 89 109 [some (.ref 0), some (.int a), some (.int b), some (.int h), some (.int ev), some (.int fi), some (.ref x)] [.int 1, .ref x] N10 v M' 0 0 := Ev.back 2 (fun n => rfl) H
  obtain ⟨N12, eN12⟩ : ∃ N, N = (wF N10 x 5 1) := ⟨_, rfl⟩
  have hN12 : SQ N12 := by rw [eN12]; exact hN10.kf
  have H : Ev none e 89 112 [some (.ref 0), some (.int a), some (.int b), some (.int h), some (.int ev), some (.int fi), some (.ref x)] [] N12 v M' 0 0 := by rw [eN12]; exact Ev.pfi rfl rfl rfl hN10.1 a_x qi_20_5 H
  have H : Ev none e 89 113 [some (.ref 0), some (.int a), some (.int b), some (.int h), some (.int ev), some (.int fi), some (.ref x)] [.ref 0] N12 v M' 0 0 := Ev.back 1 (fun n => rfl) H
  have H : Ev none e 89 116 [some (.ref 0), some (.int a), some (.int b), some (.int h), some (.int ev), some (.int fi), some (.ref x)] [.ref (fR N12 0 2)] N12 v M' 0 0 := Ev.back 1 (gs_3 rfl rfl (gf_r hN12.1 qa_0 qr_0_2 rfl)) H
  rw [(((((show fR N12 0 2 = fR N10 0 2 from by rw [eN12]; exact fR_wF).trans (show fR N10 0 2 = fR N8 0 2 from by rw [eN10]; exact fR_wF)).trans (show fR N8 0 2 = fR N6 0 2 from by rw [eN8]; exact fR_wF)).trans (show fR N6 0 2 = fR N4 0 2 from by rw [eN6]; exact fR_wF)).trans (show fR N4 0 2 = fR N2 0 2 from by rw [eN4]; exact fR_wF)).trans (show fR N2 0 2 = fR M 0 2 from by rw [eN2]; exact fR_wF)] at H
  have hx13 : gNth sT (fR M 0 2) = some 8 := by rw [← (((((show fR N12 0 2 = fR N10 0 2 from by rw [eN12]; exact fR_wF).trans (show fR N10 0 2 = fR N8 0 2 from by rw [eN10]; exact fR_wF)).trans (show fR N8 0 2 = fR N6 0 2 from by rw [eN8]; exact fR_wF)).trans (show fR N6 0 2 = fR N4 0 2 from by rw [eN6]; exact fR_wF)).trans (show fR N4 0 2 = fR N2 0 2 from by rw [eN4]; exact fR_wF)).trans (show fR N2 0 2 = fR M 0 2 from by rw [eN2]; exact fR_wF)]; exact (hN12.1.fr qa_0 qr_0_2).2
  rw [hLd] at H
  have H : Ev none e 89 117 [some (.ref 0), some (.int a), some (.int b), some (.int h), some (.int ev), some (.int fi), some (.ref x)] [.ref 8, .ref 8] N12 v M' 0 0 := Ev.back 1 (fun n => rfl) H
  have H : Ev none e 89 120 [some (.ref 0), some (.int a), some (.int b), some (.int h), some (.int ev), some (.int fi), some (.ref x)] [.int (zI N12 8 13), .ref 8] N12 v M' 0 0 := Ev.back 1 (gs_3 rfl rfl (gf_i hN12.1 qa_8 qi_8_13 rfl)) H
  rw [(((((show zI N12 8 13 = zI N10 8 13 from by rw [eN12]; exact fI_wF_ne (fun q => absurd q.2 (by decide))).trans (show zI N10 8 13 = zI N8 8 13 from by rw [eN10]; exact fI_wF_ne (fun q => absurd q.2 (by decide)))).trans (show zI N8 8 13 = zI N6 8 13 from by rw [eN8]; exact fI_wF_ne (fun q => absurd q.2 (by decide)))).trans (show zI N6 8 13 = zI N4 8 13 from by rw [eN6]; exact fI_wF_ne (fun q => absurd q.2 (by decide)))).trans (show zI N4 8 13 = zI N2 8 13 from by rw [eN4]; exact fI_wF_ne (fun q => absurd q.2 (by decide)))).trans (show zI N2 8 13 = zI M 8 13 from by rw [eN2]; exact fI_wF_ne (fun q => absurd q.2 (by decide)))] at H
  have H : Ev none e 89 123 [some (.ref 0), some (.int a), some (.int b), some (.int h), some (.int ev), some (.int fi), some (.ref x)] [.int ((zI M 8 13) + 1), .ref 8, .int (zI M 8 13)] N12 v M' 0 0 := Ev.back 3 (fun n => rfl) H
  obtain ⟨N15, eN15⟩ : ∃ N, N = (wF N12 8 13 ((zI M 8 13) + 1)) := ⟨_, rfl⟩
  have hN15 : SQ N15 := by rw [eN15]; exact hN12.kf
  have H : Ev none e 89 126 [some (.ref 0), some (.int a), some (.int b), some (.int h), some (.int ev), some (.int fi), some (.ref x)] [.int (zI M 8 13)] N15 v M' 0 0 := by rw [eN15]; exact Ev.pfi rfl rfl rfl hN12.1 qa_8 qi_8_13 H
  obtain ⟨z1, z2⟩ := Ev.retz rfl rfl H
  subst eN2 eN4 eN6 eN8 eN10 eN12 eN15
  exact ⟨z1, z2⟩
theorem drp_0 {e : Nat} {M M' : Mem} {v : Option Value} {k : Int32} (hS : SQ M) (hLd : fR M 0 2 = 8) (H : Ev none e 90 0 [some (.ref 0), some (.int k)] [] M v M' 0 0) : (∃ e1 v1 M1, e = e1 + 1 ∧ Ev none e1 130 0 [some (.ref 0), some (.int k)] [] M v1 M1 0 0 ∧ Ev none e 90 5 [some (.ref 0), some (.int k)] (v1.toList ++ []) M1 v M' 0 0) := by
  have H : Ev none e 90 2 [some (.ref 0), some (.int k)] [.int k, .ref 0] M v M' 0 0 := Ev.back 2 (fun n => rfl) H
  obtain ⟨e1, rfl⟩ := Ev.dpos rfl rfl H
  obtain ⟨vK1, MK1, K1, H⟩ := Ev.callb (fun n_ => gs_7 rfl rfl (show gCal (.invokevirtual 191) 10 (.int k :: .ref 0 :: []) M = some (.inr (130, [some (.ref 0), some (.int k)], [])) from by show @cond (Option ((List Value × Mem) ⊕ (Nat × Lo × List Value))) (true && gRecv M (.ref 0) 10 && gRoom [] && true) (some (.inr (130, [some (.ref 0), some (.int k)], []))) none = _; rw [recv_s hS.1 qa_0 qo_0]; rfl)) H
  have K1 : Ev none e1 130 0 [some (.ref 0), some (.int k)] [] M vK1 MK1 0 0 := K1
  have HF := H
  exact ⟨e1, vK1, MK1, rfl, K1, HF⟩
theorem drp_5 {e : Nat} {M M' : Mem} {v : Option Value} {k r : Int32} (hS : SQ M) (hLd : fR M 0 2 = 8) (H : Ev none e 90 5 [some (.ref 0), some (.int k)] [.int r] M v M' 0 0) : (r = 0 ∧ v = some (.int 0) ∧ M' = M) ∨ (¬ (r = 0) ∧ (0 ≤ k.toInt ∧ k.toInt < 24) ∧ v = some (.int 1) ∧ M' = (wF M (oI M (8 + 10) k) 5 0)) := by
  have H : Ev none e 90 (if r = 0 then 8 else 10) [some (.ref 0), some (.int k)] [] M v M' 0 0 := Ev.back 1 (fun n => rfl) H
  by_cases h1 : r = 0
  · rw [if_pos h1] at H
    have H : Ev none e 90 9 [some (.ref 0), some (.int k)] [.int 0] M v M' 0 0 := Ev.back 1 (fun n => rfl) H
    obtain ⟨z1, z2⟩ := Ev.retz rfl rfl H
    exact Or.inl ⟨h1, z1, z2⟩
  · rw [if_neg h1] at H
    have H : Ev none e 90 11 [some (.ref 0), some (.int k)] [.ref 0] M v M' 0 0 := Ev.back 1 (fun n => rfl) H
    have H : Ev none e 90 14 [some (.ref 0), some (.int k)] [.ref (fR M 0 2)] M v M' 0 0 := Ev.back 1 (gs_3 rfl rfl (gf_r hS.1 qa_0 qr_0_2 rfl)) H
    rw [hLd] at H
    have H : Ev none e 90 17 [some (.ref 0), some (.int k)] [.ref (8 + 10)] M v M' 0 0 := Ev.back 1 (gs_3 rfl rfl (gf_x hS.1 qa_8 qo_8 (fx_l12 hS qa_8) rfl)) H
    have H : Ev none e 90 18 [some (.ref 0), some (.int k)] [.int k, .ref (8 + 10)] M v M' 0 0 := Ev.back 1 (fun n => rfl) H
    obtain ⟨b2, H⟩ := Ev.aal rfl rfl hS.1 (fx_h12 qa_8) qz_18 H
    have H : Ev none e 90 19 [some (.ref 0), some (.int k)] [.ref (oI M (8 + 10) k)] M v M' 0 0 := H
    have H : Ev none e 90 20 [some (.ref 0), some (.int k)] [.int 0, .ref (oI M (8 + 10) k)] M v M' 0 0 := Ev.back 1 (fun n => rfl) H
    obtain ⟨N4, eN4⟩ : ∃ N, N = (wF M (oI M (8 + 10) k) 5 0) := ⟨_, rfl⟩
    have hN4 : SQ N4 := by rw [eN4]; exact hS.kf
    have H : Ev none e 90 23 [some (.ref 0), some (.int k)] [] N4 v M' 0 0 := by rw [eN4]; exact Ev.pfi rfl rfl rfl hS.1 b2.2 qi_20_5 H
    have H : Ev none e 90 24 [some (.ref 0), some (.int k)] [.int 1] N4 v M' 0 0 := Ev.back 1 (fun n => rfl) H
    obtain ⟨z1, z2⟩ := Ev.retz rfl rfl H
    subst eN4
    exact Or.inr (⟨h1, b2.1, z1, z2⟩)
theorem rnn_0 {e : Nat} {M M' : Mem} {v : Option Value} {t : Int32} (hS : SQ M) (hLd : fR M 0 2 = 8) (H : Ev none e 91 0 [some (.ref 0), some (.int t)] [] M v M' 0 0) : ((G_126 M t 1 400) = 0 ∧ v = some (.int (-1)) ∧ M' = M) ∨ (¬ ((G_126 M t 1 400) = 0) ∧ ((zI M 8 16) + t) ≤ 60000 ∧ (∃ e1 v1 M1, e = e1 + 1 ∧ Ev none e1 54 0 [some (.ref 104), some (.ref 8)] [] M v1 M1 0 0 ∧ Ev none e 91 38 [some (.ref 0), some (.int t)] (v1.toList ++ []) M1 v M' 0 0)) ∨ (¬ ((G_126 M t 1 400) = 0) ∧ ¬ (((zI M 8 16) + t) ≤ 60000) ∧ v = some (.int (-1)) ∧ M' = M) := by
  have H : Ev none e 91 5 [some (.ref 0), some (.int t)] [.int 400, .int 1, .int t] M v M' 0 0 := Ev.back 3 (fun n => rfl) H
  obtain ⟨e1, rfl⟩ := Ev.dpos rfl rfl H
  obtain ⟨vK1, MK1, K1, H⟩ := Ev.callb (fun n => rfl) H
  obtain ⟨pK1, qK1⟩ := g_126 hS K1
  rw [pK1, qK1] at H
  have H : Ev none (e1 + 1) 91 8 [some (.ref 0), some (.int t)] [.int (G_126 M t 1 400)] M v M' 0 0 := H
  have H : Ev none (e1 + 1) 91 (if (G_126 M t 1 400) = 0 then 25 else 11) [some (.ref 0), some (.int t)] [] M v M' 0 0 := Ev.back 1 (fun n => rfl) H
  by_cases h2 : (G_126 M t 1 400) = 0
  · rw [if_pos h2] at H
    have H : Ev none (e1 + 1) 91 26 [some (.ref 0), some (.int t)] [.int (-1)] M v M' 0 0 := Ev.back 1 (fun n => rfl) H
    obtain ⟨z1, z2⟩ := Ev.retz rfl rfl H
    exact Or.inl ⟨h2, z1, z2⟩
  · rw [if_neg h2] at H
    have H : Ev none (e1 + 1) 91 12 [some (.ref 0), some (.int t)] [.ref 0] M v M' 0 0 := Ev.back 1 (fun n => rfl) H
    have H : Ev none (e1 + 1) 91 15 [some (.ref 0), some (.int t)] [.ref (fR M 0 2)] M v M' 0 0 := Ev.back 1 (gs_3 rfl rfl (gf_r hS.1 qa_0 qr_0_2 rfl)) H
    rw [hLd] at H
    have H : Ev none (e1 + 1) 91 18 [some (.ref 0), some (.int t)] [.int (zI M 8 16)] M v M' 0 0 := Ev.back 1 (gs_3 rfl rfl (gf_i hS.1 qa_8 qi_8_16 rfl)) H
    have H : Ev none (e1 + 1) 91 (if ((zI M 8 16) + t) ≤ 60000 then 27 else 25) [some (.ref 0), some (.int t)] [] M v M' 0 0 := Ev.back 4 (fun n => rfl) H
    by_cases h3 : ((zI M 8 16) + t) ≤ 60000
    · rw [if_pos h3] at H
      have H : Ev none (e1 + 1) 91 28 [some (.ref 0), some (.int t)] [.ref 0] M v M' 0 0 := Ev.back 1 (fun n => rfl) H
      have H : Ev none (e1 + 1) 91 31 [some (.ref 0), some (.int t)] [.ref 104] M v M' 0 0 := Ev.back 1 (gs_3 rfl rfl (gf_u hS.1 qa_0 qr_0_3 qu_22 rfl)) H
      have H : Ev none (e1 + 1) 91 32 [some (.ref 0), some (.int t)] [.ref 0, .ref 104] M v M' 0 0 := Ev.back 1 (fun n => rfl) H
      have H : Ev none (e1 + 1) 91 35 [some (.ref 0), some (.int t)] [.ref (fR M 0 2), .ref 104] M v M' 0 0 := Ev.back 1 (gs_3 rfl rfl (gf_r hS.1 qa_0 qr_0_2 rfl)) H
      rw [hLd] at H
      obtain ⟨vK4, MK4, K4, H⟩ := Ev.callb (fun n_ => gs_7 rfl rfl (show gCal (.invokevirtual 197) 10 (.ref 8 :: .ref 104 :: []) M = some (.inr (54, [some (.ref 104), some (.ref 8)], [])) from by show @cond (Option ((List Value × Mem) ⊕ (Nat × Lo × List Value))) (true && gRecv M (.ref 104) 7 && gRoom [] && true) (some (.inr (54, [some (.ref 104), some (.ref 8)], []))) none = _; rw [recv_s hS.1 qa_104 qo_22]; rfl)) H
      have K4 : Ev none e1 54 0 [some (.ref 104), some (.ref 8)] [] M vK4 MK4 0 0 := K4
      have HF := H
      exact Or.inr (Or.inl ⟨h2, h3, ⟨e1, vK4, MK4, rfl, K4, HF⟩⟩)
    · rw [if_neg h3] at H
      have H : Ev none (e1 + 1) 91 26 [some (.ref 0), some (.int t)] [.int (-1)] M v M' 0 0 := Ev.back 1 (fun n => rfl) H
      obtain ⟨z1, z2⟩ := Ev.retz rfl rfl H
      exact Or.inr (Or.inr (⟨h2, h3, z1, z2⟩))
theorem rnn_38 {e : Nat} {M M' : Mem} {v : Option Value} {t : Int32} (hS : SQ M) (H : Ev none e 91 38 [some (.ref 0), some (.int t)] [] M v M' 0 0) : (∃ e1 v1 M1, e = e1 + 1 ∧ Ev none e1 58 0 [some (.ref 104), some (.int t), none, none, none, none, none, none, none] [] M v1 M1 0 0 ∧ Ev none e 91 46 [some (.ref 0), some (.int t)] (v1.toList ++ []) M1 v M' 0 0) := by
  have H : Ev none e 91 39 [some (.ref 0), some (.int t)] [.ref 0] M v M' 0 0 := Ev.back 1 (fun n => rfl) H
  have H : Ev none e 91 42 [some (.ref 0), some (.int t)] [.ref 104] M v M' 0 0 := Ev.back 1 (gs_3 rfl rfl (gf_u hS.1 qa_0 qr_0_3 qu_22 rfl)) H
  have H : Ev none e 91 43 [some (.ref 0), some (.int t)] [.int t, .ref 104] M v M' 0 0 := Ev.back 1 (fun n => rfl) H
  obtain ⟨e1, rfl⟩ := Ev.dpos rfl rfl H
  obtain ⟨vK1, MK1, K1, H⟩ := Ev.callb (fun n_ => gs_7 rfl rfl (show gCal (.invokevirtual 200) 10 (.int t :: .ref 104 :: []) M = some (.inr (58, [some (.ref 104), some (.int t), none, none, none, none, none, none, none], [])) from by show @cond (Option ((List Value × Mem) ⊕ (Nat × Lo × List Value))) (true && gRecv M (.ref 104) 7 && gRoom [] && true) (some (.inr (58, [some (.ref 104), some (.int t), none, none, none, none, none, none, none], []))) none = _; rw [recv_s hS.1 qa_104 qo_22]; rfl)) H
  have K1 : Ev none e1 58 0 [some (.ref 104), some (.int t), none, none, none, none, none, none, none] [] M vK1 MK1 0 0 := K1
  have HF := H
  exact ⟨e1, vK1, MK1, rfl, K1, HF⟩
theorem rnn_46 {e : Nat} {M M' : Mem} {v : Option Value} {t r : Int32} (hS : SQ M) (H : Ev none e 91 46 [some (.ref 0), some (.int t)] [.int r] M v M' 0 0) : v = some (.int r) ∧ M' = M := by
  obtain ⟨z1, z2⟩ := Ev.retz rfl rfl H
  exact ⟨z1, z2⟩
theorem wkk_0 {e : Nat} {M M' : Mem} {v : Option Value} (hS : SQ M) (hLd : fR M 0 2 = 8) (H : Ev none e 92 0 [some (.ref 0)] [] M v M' 0 0) : (∃ e1 v1 M1, e = e1 + 1 ∧ Ev none e1 54 0 [some (.ref 104), some (.ref 8)] [] M v1 M1 0 0 ∧ Ev none e 92 11 [some (.ref 0)] (v1.toList ++ []) M1 v M' 0 0) := by
  have H : Ev none e 92 1 [some (.ref 0)] [.ref 0] M v M' 0 0 := Ev.back 1 (fun n => rfl) H
  have H : Ev none e 92 4 [some (.ref 0)] [.ref 104] M v M' 0 0 := Ev.back 1 (gs_3 rfl rfl (gf_u hS.1 qa_0 qr_0_3 qu_22 rfl)) H
  have H : Ev none e 92 5 [some (.ref 0)] [.ref 0, .ref 104] M v M' 0 0 := Ev.back 1 (fun n => rfl) H
  have H : Ev none e 92 8 [some (.ref 0)] [.ref (fR M 0 2), .ref 104] M v M' 0 0 := Ev.back 1 (gs_3 rfl rfl (gf_r hS.1 qa_0 qr_0_2 rfl)) H
  rw [hLd] at H
  obtain ⟨e1, rfl⟩ := Ev.dpos rfl rfl H
  obtain ⟨vK1, MK1, K1, H⟩ := Ev.callb (fun n_ => gs_7 rfl rfl (show gCal (.invokevirtual 197) 10 (.ref 8 :: .ref 104 :: []) M = some (.inr (54, [some (.ref 104), some (.ref 8)], [])) from by show @cond (Option ((List Value × Mem) ⊕ (Nat × Lo × List Value))) (true && gRecv M (.ref 104) 7 && gRoom [] && true) (some (.inr (54, [some (.ref 104), some (.ref 8)], []))) none = _; rw [recv_s hS.1 qa_104 qo_22]; rfl)) H
  have K1 : Ev none e1 54 0 [some (.ref 104), some (.ref 8)] [] M vK1 MK1 0 0 := K1
  have HF := H
  exact ⟨e1, vK1, MK1, rfl, K1, HF⟩
theorem wkk_11 {e : Nat} {M M' : Mem} {v : Option Value} (hS : SQ M) (H : Ev none e 92 11 [some (.ref 0)] [] M v M' 0 0) : (∃ e1 v1 M1, e = e1 + 1 ∧ Ev none e1 63 0 [some (.ref 104), none, none] [] M v1 M1 0 0 ∧ Ev none e 92 18 [some (.ref 0)] (v1.toList ++ []) M1 v M' 0 0) := by
  have H : Ev none e 92 12 [some (.ref 0)] [.ref 0] M v M' 0 0 := Ev.back 1 (fun n => rfl) H
  have H : Ev none e 92 15 [some (.ref 0)] [.ref 104] M v M' 0 0 := Ev.back 1 (gs_3 rfl rfl (gf_u hS.1 qa_0 qr_0_3 qu_22 rfl)) H
  obtain ⟨e1, rfl⟩ := Ev.dpos rfl rfl H
  obtain ⟨vK1, MK1, K1, H⟩ := Ev.callb (fun n_ => gs_7 rfl rfl (show gCal (.invokevirtual 204) 10 (.ref 104 :: []) M = some (.inr (63, [some (.ref 104), none, none], [])) from by show @cond (Option ((List Value × Mem) ⊕ (Nat × Lo × List Value))) (true && gRecv M (.ref 104) 7 && gRoom [] && true) (some (.inr (63, [some (.ref 104), none, none], []))) none = _; rw [recv_s hS.1 qa_104 qo_22]; rfl)) H
  have K1 : Ev none e1 63 0 [some (.ref 104), none, none] [] M vK1 MK1 0 0 := K1
  have HF := H
  exact ⟨e1, vK1, MK1, rfl, K1, HF⟩
theorem wkk_18 {e : Nat} {M M' : Mem} {v : Option Value} (hS : SQ M) (H : Ev none e 92 18 [some (.ref 0)] [] M v M' 0 0) : (∃ e1 v1 M1, e = e1 + 1 ∧ Ev none e1 57 0 [some (.ref 104), none, none] [] M v1 M1 0 0 ∧ Ev none e 92 25 [some (.ref 0)] (v1.toList ++ []) M1 v M' 0 0) := by
  have H : Ev none e 92 19 [some (.ref 0)] [.ref 0] M v M' 0 0 := Ev.back 1 (fun n => rfl) H
  have H : Ev none e 92 22 [some (.ref 0)] [.ref 104] M v M' 0 0 := Ev.back 1 (gs_3 rfl rfl (gf_u hS.1 qa_0 qr_0_3 qu_22 rfl)) H
  obtain ⟨e1, rfl⟩ := Ev.dpos rfl rfl H
  obtain ⟨vK1, MK1, K1, H⟩ := Ev.callb (fun n_ => gs_7 rfl rfl (show gCal (.invokevirtual 207) 10 (.ref 104 :: []) M = some (.inr (57, [some (.ref 104), none, none], [])) from by show @cond (Option ((List Value × Mem) ⊕ (Nat × Lo × List Value))) (true && gRecv M (.ref 104) 7 && gRoom [] && true) (some (.inr (57, [some (.ref 104), none, none], []))) none = _; rw [recv_s hS.1 qa_104 qo_22]; rfl)) H
  have K1 : Ev none e1 57 0 [some (.ref 104), none, none] [] M vK1 MK1 0 0 := K1
  have HF := H
  exact ⟨e1, vK1, MK1, rfl, K1, HF⟩
theorem wkk_25 {e : Nat} {M M' : Mem} {v : Option Value} {r : Int32} (hS : SQ M) (H : Ev none e 92 25 [some (.ref 0)] [.int r] M v M' 0 0) : v = some (.int r) ∧ M' = M := by
  obtain ⟨z1, z2⟩ := Ev.retz rfl rfl H
  exact ⟨z1, z2⟩
theorem onk_0 {e : Nat} {M M' : Mem} {v : Option Value} {t : Int32} (hS : SQ M) (H : Ev none e 134 0 [some (.ref 0), some (.int t)] [] M v M' 0 0) : (∃ e1 v1 M1, e = e1 + 1 ∧ Ev none e1 58 0 [some (.ref 104), some (.int t), none, none, none, none, none, none, none] [] M v1 M1 0 0 ∧ Ev none e 134 8 [some (.ref 0), some (.int t)] (v1.toList ++ []) M1 v M' 0 0) := by
  have H : Ev none e 134 1 [some (.ref 0), some (.int t)] [.ref 0] M v M' 0 0 := Ev.back 1 (fun n => rfl) H
  have H : Ev none e 134 4 [some (.ref 0), some (.int t)] [.ref 104] M v M' 0 0 := Ev.back 1 (gs_3 rfl rfl (gf_u hS.1 qa_0 qr_0_3 qu_22 rfl)) H
  have H : Ev none e 134 5 [some (.ref 0), some (.int t)] [.int t, .ref 104] M v M' 0 0 := Ev.back 1 (fun n => rfl) H
  obtain ⟨e1, rfl⟩ := Ev.dpos rfl rfl H
  obtain ⟨vK1, MK1, K1, H⟩ := Ev.callb (fun n_ => gs_7 rfl rfl (show gCal (.invokevirtual 200) 10 (.int t :: .ref 104 :: []) M = some (.inr (58, [some (.ref 104), some (.int t), none, none, none, none, none, none, none], [])) from by show @cond (Option ((List Value × Mem) ⊕ (Nat × Lo × List Value))) (true && gRecv M (.ref 104) 7 && gRoom [] && true) (some (.inr (58, [some (.ref 104), some (.int t), none, none, none, none, none, none, none], []))) none = _; rw [recv_s hS.1 qa_104 qo_22]; rfl)) H
  have K1 : Ev none e1 58 0 [some (.ref 104), some (.int t), none, none, none, none, none, none, none] [] M vK1 MK1 0 0 := K1
  have HF := H
  exact ⟨e1, vK1, MK1, rfl, K1, HF⟩
theorem onk_8 {e : Nat} {M M' : Mem} {v : Option Value} {t r : Int32} (hS : SQ M) (H : Ev none e 134 8 [some (.ref 0), some (.int t)] [.int r] M v M' 0 0) : (∃ e1 v1 M1, e = e1 + 1 ∧ Ev none e1 63 0 [some (.ref 104), none, none] [] M v1 M1 0 0 ∧ Ev none e 134 16 [some (.ref 0), some (.int t)] (v1.toList ++ []) M1 v M' 0 0) := by
  have H : Ev none e 134 10 [some (.ref 0), some (.int t)] [.ref 0] M v M' 0 0 := Ev.back 2 (fun n => rfl) H
  have H : Ev none e 134 13 [some (.ref 0), some (.int t)] [.ref 104] M v M' 0 0 := Ev.back 1 (gs_3 rfl rfl (gf_u hS.1 qa_0 qr_0_3 qu_22 rfl)) H
  obtain ⟨e1, rfl⟩ := Ev.dpos rfl rfl H
  obtain ⟨vK1, MK1, K1, H⟩ := Ev.callb (fun n_ => gs_7 rfl rfl (show gCal (.invokevirtual 204) 10 (.ref 104 :: []) M = some (.inr (63, [some (.ref 104), none, none], [])) from by show @cond (Option ((List Value × Mem) ⊕ (Nat × Lo × List Value))) (true && gRecv M (.ref 104) 7 && gRoom [] && true) (some (.inr (63, [some (.ref 104), none, none], []))) none = _; rw [recv_s hS.1 qa_104 qo_22]; rfl)) H
  have K1 : Ev none e1 63 0 [some (.ref 104), none, none] [] M vK1 MK1 0 0 := K1
  have HF := H
  exact ⟨e1, vK1, MK1, rfl, K1, HF⟩
theorem onk_16 {e : Nat} {M M' : Mem} {v : Option Value} {t : Int32} (hS : SQ M) (H : Ev none e 134 16 [some (.ref 0), some (.int t)] [] M v M' 0 0) : v = none ∧ M' = M := by
  obtain ⟨z1, z2⟩ := Ev.retb (fun n => rfl) H
  exact ⟨z1, z2⟩
theorem rai_0 {e : Nat} {M M' : Mem} {v : Option Value} {n : Int32} (hS : SQ M) (hLd : fR M 0 2 = 8) (H : Ev none e 93 0 [some (.ref 0), some (.int n), none, none] [] M v M' 0 0) : ((G_126 M n 1 200) = 0 ∧ v = some (.int 0) ∧ M' = M) ∨ (¬ ((G_126 M n 1 200) = 0) ∧ Ev none e 93 15 [some (.ref 0), some (.int n), some (.int 0), none] [] M v M' 0 0) := by
  have H : Ev none e 93 5 [some (.ref 0), some (.int n), none, none] [.int 200, .int 1, .int n] M v M' 0 0 := Ev.back 3 (fun n => rfl) H
  obtain ⟨e1, rfl⟩ := Ev.dpos rfl rfl H
  obtain ⟨vK1, MK1, K1, H⟩ := Ev.callb (fun n => rfl) H
  obtain ⟨pK1, qK1⟩ := g_126 hS K1
  rw [pK1, qK1] at H
  have H : Ev none (e1 + 1) 93 8 [some (.ref 0), some (.int n), none, none] [.int (G_126 M n 1 200)] M v M' 0 0 := H
  have H : Ev none (e1 + 1) 93 (if (G_126 M n 1 200) = 0 then 11 else 13) [some (.ref 0), some (.int n), none, none] [] M v M' 0 0 := Ev.back 1 (fun n => rfl) H
  by_cases h2 : (G_126 M n 1 200) = 0
  · rw [if_pos h2] at H
    have H : Ev none (e1 + 1) 93 12 [some (.ref 0), some (.int n), none, none] [.int 0] M v M' 0 0 := Ev.back 1 (fun n => rfl) H
    obtain ⟨z1, z2⟩ := Ev.retz rfl rfl H
    exact Or.inl ⟨h2, z1, z2⟩
  · rw [if_neg h2] at H
    have H : Ev none (e1 + 1) 93 15 [some (.ref 0), some (.int n), some (.int 0), none] [] M v M' 0 0 := Ev.back 2 (fun n => rfl) H
    have HF := H
    exact Or.inr (⟨h2, HF⟩)
theorem rai_15 {e : Nat} {M M' : Mem} {v : Option Value} {n c : Int32} {c3 : Option Value} (hS : SQ M) (hLd : fR M 0 2 = 8) (H : Ev none e 93 15 [some (.ref 0), some (.int n), some (.int c), c3] [] M v M' 0 0) : ((G_6 M 8) ≤ c ∧ v = some (.int 1) ∧ M' = M) ∨ (¬ ((G_6 M 8) ≤ c) ∧ (rI M (8 + 1) c) = 0 ∧ (0 ≤ c.toInt ∧ c.toInt < 256) ∧ (0 ≤ c.toInt ∧ c.toInt < 256) ∧ (0 ≤ c.toInt ∧ c.toInt < 256) ∧ Ev none e 93 15 [some (.ref 0), some (.int n), some (.int (c + 1)), some (.int (rI M (8 + 1) c))] [] (wI M (8 + 5) c.toNatClampNeg (if ((rI M (8 + 5) c) + n) < 200 then ((rI M (8 + 5) c) + n) else 200)) v M' 0 0) ∨ (¬ ((G_6 M 8) ≤ c) ∧ ¬ ((rI M (8 + 1) c) = 0) ∧ (rI M (8 + 1) c) = 2 ∧ (0 ≤ c.toInt ∧ c.toInt < 256) ∧ (0 ≤ c.toInt ∧ c.toInt < 256) ∧ (0 ≤ c.toInt ∧ c.toInt < 256) ∧ Ev none e 93 15 [some (.ref 0), some (.int n), some (.int (c + 1)), some (.int (rI M (8 + 1) c))] [] (wI M (8 + 5) c.toNatClampNeg (if ((rI M (8 + 5) c) + n) < 200 then ((rI M (8 + 5) c) + n) else 200)) v M' 0 0) ∨ (¬ ((G_6 M 8) ≤ c) ∧ ¬ ((rI M (8 + 1) c) = 0) ∧ ¬ ((rI M (8 + 1) c) = 2) ∧ (rI M (8 + 1) c) = 1 ∧ (0 ≤ c.toInt ∧ c.toInt < 256) ∧ (0 ≤ c.toInt ∧ c.toInt < 256) ∧ (0 ≤ c.toInt ∧ c.toInt < 256) ∧ Ev none e 93 15 [some (.ref 0), some (.int n), some (.int (c + 1)), some (.int (rI M (8 + 1) c))] [] (wI M (8 + 5) c.toNatClampNeg (if ((rI M (8 + 5) c) + n) < 200 then ((rI M (8 + 5) c) + n) else 200)) v M' 0 0) ∨ (¬ ((G_6 M 8) ≤ c) ∧ ¬ ((rI M (8 + 1) c) = 0) ∧ ¬ ((rI M (8 + 1) c) = 2) ∧ ¬ ((rI M (8 + 1) c) = 1) ∧ (0 ≤ c.toInt ∧ c.toInt < 256) ∧ Ev none e 93 15 [some (.ref 0), some (.int n), some (.int (c + 1)), some (.int (rI M (8 + 1) c))] [] M v M' 0 0) := by
  have H : Ev none e 93 17 [some (.ref 0), some (.int n), some (.int c), c3] [.ref 0, .int c] M v M' 0 0 := Ev.back 2 (fun n => rfl) H
  have H : Ev none e 93 20 [some (.ref 0), some (.int n), some (.int c), c3] [.ref (fR M 0 2), .int c] M v M' 0 0 := Ev.back 1 (gs_3 rfl rfl (gf_r hS.1 qa_0 qr_0_2 rfl)) H
  rw [hLd] at H
  obtain ⟨e1, rfl⟩ := Ev.dpos rfl rfl H
  obtain ⟨vK1, MK1, K1, H⟩ := Ev.callb (fun n_ => gs_7 rfl rfl (show gCal (.invokevirtual 211) 10 (.ref 8 :: [.int c]) M = some (.inr (6, [some (.ref 8)], [.int c])) from by show @cond (Option ((List Value × Mem) ⊕ (Nat × Lo × List Value))) (true && gRecv M (.ref 8) 1 && gRoom [.int c] && true) (some (.inr (6, [some (.ref 8)], [.int c]))) none = _; rw [recv_s hS.1 qa_8 qo_8]; rfl)) H
  obtain ⟨pK1, qK1⟩ := g_6 hS qa_8 K1
  rw [pK1, qK1] at H
  have H : Ev none (e1 + 1) 93 23 [some (.ref 0), some (.int n), some (.int c), c3] [.int (G_6 M 8), .int c] M v M' 0 0 := H
  have H : Ev none (e1 + 1) 93 (if (G_6 M 8) ≤ c then 82 else 26) [some (.ref 0), some (.int n), some (.int c), c3] [] M v M' 0 0 := Ev.back 1 (fun n => rfl) H
  by_cases h2 : (G_6 M 8) ≤ c
  · rw [if_pos h2] at H
    have H : Ev none (e1 + 1) 93 83 [some (.ref 0), some (.int n), some (.int c), c3] [.int 1] M v M' 0 0 := Ev.back 1 (fun n => rfl) H
    obtain ⟨z1, z2⟩ := Ev.retz rfl rfl H
    exact Or.inl ⟨h2, z1, z2⟩
  · rw [if_neg h2] at H
    have H : Ev none (e1 + 1) 93 27 [some (.ref 0), some (.int n), some (.int c), c3] [.ref 0] M v M' 0 0 := Ev.back 1 (fun n => rfl) H
    have H : Ev none (e1 + 1) 93 30 [some (.ref 0), some (.int n), some (.int c), c3] [.ref (fR M 0 2)] M v M' 0 0 := Ev.back 1 (gs_3 rfl rfl (gf_r hS.1 qa_0 qr_0_2 rfl)) H
    rw [hLd] at H
    have H : Ev none (e1 + 1) 93 33 [some (.ref 0), some (.int n), some (.int c), c3] [.ref (8 + 1)] M v M' 0 0 := Ev.back 1 (gs_3 rfl rfl (gf_x hS.1 qa_8 qo_8 (fx_l2 hS qa_8) rfl)) H
    have H : Ev none (e1 + 1) 93 34 [some (.ref 0), some (.int n), some (.int c), c3] [.int c, .ref (8 + 1)] M v M' 0 0 := Ev.back 1 (fun n => rfl) H
    obtain ⟨b3, H⟩ := Ev.ial rfl rfl hS.1 (fx_h2 qa_8) qw_9 H
    have H : Ev none (e1 + 1) 93 35 [some (.ref 0), some (.int n), some (.int c), c3] [.int (rI M (8 + 1) c)] M v M' 0 0 := H
    have H : Ev none (e1 + 1) 93 (if (rI M (8 + 1) c) = 0 then 50 else 40) [some (.ref 0), some (.int n), some (.int c), some (.int (rI M (8 + 1) c))] [] M v M' 0 0 := Ev.back 3 (fun n => rfl) H
    by_cases h4 : (rI M (8 + 1) c) = 0
    · rw [if_pos h4] at H
      have H : Ev none (e1 + 1) 93 51 [some (.ref 0), some (.int n), some (.int c), some (.int (rI M (8 + 1) c))] [.ref 0] M v M' 0 0 := Ev.back 1 (fun n => rfl) H
      have H : Ev none (e1 + 1) 93 54 [some (.ref 0), some (.int n), some (.int c), some (.int (rI M (8 + 1) c))] [.ref (fR M 0 2)] M v M' 0 0 := Ev.back 1 (gs_3 rfl rfl (gf_r hS.1 qa_0 qr_0_2 rfl)) H
      rw [hLd] at H
      have H : Ev none (e1 + 1) 93 57 [some (.ref 0), some (.int n), some (.int c), some (.int (rI M (8 + 1) c))] [.ref (8 + 5)] M v M' 0 0 := Ev.back 1 (gs_3 rfl rfl (gf_x hS.1 qa_8 qo_8 (fx_l6 hS qa_8) rfl)) H
      have H : Ev none (e1 + 1) 93 62 [some (.ref 0), some (.int n), some (.int c), some (.int (rI M (8 + 1) c))] [.ref 0, .int 200, .int c, .ref (8 + 5)] M v M' 0 0 := Ev.back 3 (fun n => rfl) H
      have H : Ev none (e1 + 1) 93 65 [some (.ref 0), some (.int n), some (.int c), some (.int (rI M (8 + 1) c))] [.ref (fR M 0 2), .int 200, .int c, .ref (8 + 5)] M v M' 0 0 := Ev.back 1 (gs_3 rfl rfl (gf_r hS.1 qa_0 qr_0_2 rfl)) H
      rw [hLd] at H
      have H : Ev none (e1 + 1) 93 68 [some (.ref 0), some (.int n), some (.int c), some (.int (rI M (8 + 1) c))] [.ref (8 + 5), .int 200, .int c, .ref (8 + 5)] M v M' 0 0 := Ev.back 1 (gs_3 rfl rfl (gf_x hS.1 qa_8 qo_8 (fx_l6 hS qa_8) rfl)) H
      have H : Ev none (e1 + 1) 93 69 [some (.ref 0), some (.int n), some (.int c), some (.int (rI M (8 + 1) c))] [.int c, .ref (8 + 5), .int 200, .int c, .ref (8 + 5)] M v M' 0 0 := Ev.back 1 (fun n => rfl) H
      obtain ⟨b5, H⟩ := Ev.ial rfl rfl hS.1 (fx_h6 qa_8) qw_13 H
      have H : Ev none (e1 + 1) 93 70 [some (.ref 0), some (.int n), some (.int c), some (.int (rI M (8 + 1) c))] [.int (rI M (8 + 5) c), .int 200, .int c, .ref (8 + 5)] M v M' 0 0 := H
      have H : Ev none (e1 + 1) 93 75 [some (.ref 0), some (.int n), some (.int c), some (.int (rI M (8 + 1) c))] [.int (if ((rI M (8 + 5) c) + n) < 200 then ((rI M (8 + 5) c) + n) else 200), .int c, .ref (8 + 5)] M v M' 0 0 := Ev.back 3 (fun n => rfl) H
      obtain ⟨b6, H⟩ := Ev.ias rfl rfl hS.1 (fx_h6 qa_8) qw_13 H
      obtain ⟨N7, eN7⟩ : ∃ N, N = (wI M (8 + 5) c.toNatClampNeg (if ((rI M (8 + 5) c) + n) < 200 then ((rI M (8 + 5) c) + n) else 200)) := ⟨_, rfl⟩
      have hN7 : SQ N7 := by rw [eN7]; exact hS.ki
      have H : Ev none (e1 + 1) 93 76 [some (.ref 0), some (.int n), some (.int c), some (.int (rI M (8 + 1) c))] [] N7 v M' 0 0 := by rw [eN7]; exact H
      have H : Ev none (e1 + 1) 93 15 [some (.ref 0), some (.int n), some (.int (c + 1)), some (.int (rI M (8 + 1) c))] [] N7 v M' 0 0 := Ev.back 2 (fun n => rfl) H
      have HF := H
      subst eN7
      exact Or.inr (Or.inl ⟨h2, h4, b3, b5, b6, HF⟩)
    · rw [if_neg h4] at H
      have H : Ev none (e1 + 1) 93 (if (rI M (8 + 1) c) = 2 then 50 else 45) [some (.ref 0), some (.int n), some (.int c), some (.int (rI M (8 + 1) c))] [] M v M' 0 0 := Ev.back 3 (fun n => rfl) H
      by_cases h8 : (rI M (8 + 1) c) = 2
      · rw [if_pos h8] at H
        have H : Ev none (e1 + 1) 93 51 [some (.ref 0), some (.int n), some (.int c), some (.int (rI M (8 + 1) c))] [.ref 0] M v M' 0 0 := Ev.back 1 (fun n => rfl) H
        have H : Ev none (e1 + 1) 93 54 [some (.ref 0), some (.int n), some (.int c), some (.int (rI M (8 + 1) c))] [.ref (fR M 0 2)] M v M' 0 0 := Ev.back 1 (gs_3 rfl rfl (gf_r hS.1 qa_0 qr_0_2 rfl)) H
        rw [hLd] at H
        have H : Ev none (e1 + 1) 93 57 [some (.ref 0), some (.int n), some (.int c), some (.int (rI M (8 + 1) c))] [.ref (8 + 5)] M v M' 0 0 := Ev.back 1 (gs_3 rfl rfl (gf_x hS.1 qa_8 qo_8 (fx_l6 hS qa_8) rfl)) H
        have H : Ev none (e1 + 1) 93 62 [some (.ref 0), some (.int n), some (.int c), some (.int (rI M (8 + 1) c))] [.ref 0, .int 200, .int c, .ref (8 + 5)] M v M' 0 0 := Ev.back 3 (fun n => rfl) H
        have H : Ev none (e1 + 1) 93 65 [some (.ref 0), some (.int n), some (.int c), some (.int (rI M (8 + 1) c))] [.ref (fR M 0 2), .int 200, .int c, .ref (8 + 5)] M v M' 0 0 := Ev.back 1 (gs_3 rfl rfl (gf_r hS.1 qa_0 qr_0_2 rfl)) H
        rw [hLd] at H
        have H : Ev none (e1 + 1) 93 68 [some (.ref 0), some (.int n), some (.int c), some (.int (rI M (8 + 1) c))] [.ref (8 + 5), .int 200, .int c, .ref (8 + 5)] M v M' 0 0 := Ev.back 1 (gs_3 rfl rfl (gf_x hS.1 qa_8 qo_8 (fx_l6 hS qa_8) rfl)) H
        have H : Ev none (e1 + 1) 93 69 [some (.ref 0), some (.int n), some (.int c), some (.int (rI M (8 + 1) c))] [.int c, .ref (8 + 5), .int 200, .int c, .ref (8 + 5)] M v M' 0 0 := Ev.back 1 (fun n => rfl) H
        obtain ⟨b9, H⟩ := Ev.ial rfl rfl hS.1 (fx_h6 qa_8) qw_13 H
        have H : Ev none (e1 + 1) 93 70 [some (.ref 0), some (.int n), some (.int c), some (.int (rI M (8 + 1) c))] [.int (rI M (8 + 5) c), .int 200, .int c, .ref (8 + 5)] M v M' 0 0 := H
        have H : Ev none (e1 + 1) 93 75 [some (.ref 0), some (.int n), some (.int c), some (.int (rI M (8 + 1) c))] [.int (if ((rI M (8 + 5) c) + n) < 200 then ((rI M (8 + 5) c) + n) else 200), .int c, .ref (8 + 5)] M v M' 0 0 := Ev.back 3 (fun n => rfl) H
        obtain ⟨b10, H⟩ := Ev.ias rfl rfl hS.1 (fx_h6 qa_8) qw_13 H
        obtain ⟨N11, eN11⟩ : ∃ N, N = (wI M (8 + 5) c.toNatClampNeg (if ((rI M (8 + 5) c) + n) < 200 then ((rI M (8 + 5) c) + n) else 200)) := ⟨_, rfl⟩
        have hN11 : SQ N11 := by rw [eN11]; exact hS.ki
        have H : Ev none (e1 + 1) 93 76 [some (.ref 0), some (.int n), some (.int c), some (.int (rI M (8 + 1) c))] [] N11 v M' 0 0 := by rw [eN11]; exact H
        have H : Ev none (e1 + 1) 93 15 [some (.ref 0), some (.int n), some (.int (c + 1)), some (.int (rI M (8 + 1) c))] [] N11 v M' 0 0 := Ev.back 2 (fun n => rfl) H
        have HF := H
        subst eN11
        exact Or.inr (Or.inr (Or.inl ⟨h2, h4, h8, b3, b9, b10, HF⟩))
      · rw [if_neg h8] at H
        have H : Ev none (e1 + 1) 93 (if (rI M (8 + 1) c) = 1 then 50 else 76) [some (.ref 0), some (.int n), some (.int c), some (.int (rI M (8 + 1) c))] [] M v M' 0 0 := Ev.back 3 (fun n => rfl) H
        by_cases h12 : (rI M (8 + 1) c) = 1
        · rw [if_pos h12] at H
          have H : Ev none (e1 + 1) 93 51 [some (.ref 0), some (.int n), some (.int c), some (.int (rI M (8 + 1) c))] [.ref 0] M v M' 0 0 := Ev.back 1 (fun n => rfl) H
          have H : Ev none (e1 + 1) 93 54 [some (.ref 0), some (.int n), some (.int c), some (.int (rI M (8 + 1) c))] [.ref (fR M 0 2)] M v M' 0 0 := Ev.back 1 (gs_3 rfl rfl (gf_r hS.1 qa_0 qr_0_2 rfl)) H
          rw [hLd] at H
          have H : Ev none (e1 + 1) 93 57 [some (.ref 0), some (.int n), some (.int c), some (.int (rI M (8 + 1) c))] [.ref (8 + 5)] M v M' 0 0 := Ev.back 1 (gs_3 rfl rfl (gf_x hS.1 qa_8 qo_8 (fx_l6 hS qa_8) rfl)) H
          have H : Ev none (e1 + 1) 93 62 [some (.ref 0), some (.int n), some (.int c), some (.int (rI M (8 + 1) c))] [.ref 0, .int 200, .int c, .ref (8 + 5)] M v M' 0 0 := Ev.back 3 (fun n => rfl) H
          have H : Ev none (e1 + 1) 93 65 [some (.ref 0), some (.int n), some (.int c), some (.int (rI M (8 + 1) c))] [.ref (fR M 0 2), .int 200, .int c, .ref (8 + 5)] M v M' 0 0 := Ev.back 1 (gs_3 rfl rfl (gf_r hS.1 qa_0 qr_0_2 rfl)) H
          rw [hLd] at H
          have H : Ev none (e1 + 1) 93 68 [some (.ref 0), some (.int n), some (.int c), some (.int (rI M (8 + 1) c))] [.ref (8 + 5), .int 200, .int c, .ref (8 + 5)] M v M' 0 0 := Ev.back 1 (gs_3 rfl rfl (gf_x hS.1 qa_8 qo_8 (fx_l6 hS qa_8) rfl)) H
          have H : Ev none (e1 + 1) 93 69 [some (.ref 0), some (.int n), some (.int c), some (.int (rI M (8 + 1) c))] [.int c, .ref (8 + 5), .int 200, .int c, .ref (8 + 5)] M v M' 0 0 := Ev.back 1 (fun n => rfl) H
          obtain ⟨b13, H⟩ := Ev.ial rfl rfl hS.1 (fx_h6 qa_8) qw_13 H
          have H : Ev none (e1 + 1) 93 70 [some (.ref 0), some (.int n), some (.int c), some (.int (rI M (8 + 1) c))] [.int (rI M (8 + 5) c), .int 200, .int c, .ref (8 + 5)] M v M' 0 0 := H
          have H : Ev none (e1 + 1) 93 75 [some (.ref 0), some (.int n), some (.int c), some (.int (rI M (8 + 1) c))] [.int (if ((rI M (8 + 5) c) + n) < 200 then ((rI M (8 + 5) c) + n) else 200), .int c, .ref (8 + 5)] M v M' 0 0 := Ev.back 3 (fun n => rfl) H
          obtain ⟨b14, H⟩ := Ev.ias rfl rfl hS.1 (fx_h6 qa_8) qw_13 H
          obtain ⟨N15, eN15⟩ : ∃ N, N = (wI M (8 + 5) c.toNatClampNeg (if ((rI M (8 + 5) c) + n) < 200 then ((rI M (8 + 5) c) + n) else 200)) := ⟨_, rfl⟩
          have hN15 : SQ N15 := by rw [eN15]; exact hS.ki
          have H : Ev none (e1 + 1) 93 76 [some (.ref 0), some (.int n), some (.int c), some (.int (rI M (8 + 1) c))] [] N15 v M' 0 0 := by rw [eN15]; exact H
          have H : Ev none (e1 + 1) 93 15 [some (.ref 0), some (.int n), some (.int (c + 1)), some (.int (rI M (8 + 1) c))] [] N15 v M' 0 0 := Ev.back 2 (fun n => rfl) H
          have HF := H
          subst eN15
          exact Or.inr (Or.inr (Or.inr (Or.inl ⟨h2, h4, h8, h12, b3, b13, b14, HF⟩)))
        · rw [if_neg h12] at H
          have H : Ev none (e1 + 1) 93 15 [some (.ref 0), some (.int n), some (.int (c + 1)), some (.int (rI M (8 + 1) c))] [] M v M' 0 0 := Ev.back 2 (fun n => rfl) H
          have HF := H
          exact Or.inr (Or.inr (Or.inr (Or.inr (⟨h2, h4, h8, h12, b3, HF⟩))))
theorem sno_0 {e : Nat} {M M' : Mem} {v : Option Value} (hS : SQ M) (hLd : fR M 0 2 = 8) (H : Ev none e 94 0 [some (.ref 0)] [] M v M' 0 0) : v = none ∧ M' = (wA M (8 + 7) 0) := by
  have H : Ev none e 94 1 [some (.ref 0)] [.ref 0] M v M' 0 0 := Ev.back 1 (fun n => rfl) H
  have H : Ev none e 94 4 [some (.ref 0)] [.ref (fR M 0 2)] M v M' 0 0 := Ev.back 1 (gs_3 rfl rfl (gf_r hS.1 qa_0 qr_0_2 rfl)) H
  rw [hLd] at H
  have H : Ev none e 94 7 [some (.ref 0)] [.ref (8 + 7)] M v M' 0 0 := Ev.back 1 (gs_3 rfl rfl (gf_x hS.1 qa_8 qo_8 (fx_l8 hS qa_8) rfl)) H
  have H : Ev none e 94 8 [some (.ref 0)] [.int 0, .ref (8 + 7)] M v M' 0 0 := Ev.back 1 (fun n => rfl) H
  have H := Ev.fil rfl rfl (fun _ _ => rfl) hS.1 (fx_h8 qa_8) qw_15 H
  obtain ⟨N1, eN1⟩ : ∃ N, N = (wA M (8 + 7) 0) := ⟨_, rfl⟩
  have hN1 : SQ N1 := by rw [eN1]; exact hS.ka
  have H : Ev none e 94 11 [some (.ref 0)] [] N1 v M' 0 0 := by rw [eN1]; exact H
  obtain ⟨z1, z2⟩ := Ev.retb (fun n => rfl) H
  subst eN1
  exact ⟨z1, z2⟩
theorem lay_0 {e : Nat} {M M' : Mem} {v : Option Value} {c k : Int32} (hS : SQ M) (hLd : fR M 0 2 = 8) (H : Ev none e 95 0 [some (.ref 0), some (.int c), some (.int k)] [] M v M' 0 0) : (∃ e1 v1 M1, e = e1 + 1 ∧ Ev none e1 127 0 [some (.ref 0), some (.int c)] [] M v1 M1 0 0 ∧ Ev none e 95 5 [some (.ref 0), some (.int c), some (.int k)] (v1.toList ++ []) M1 v M' 0 0) := by
  have H : Ev none e 95 2 [some (.ref 0), some (.int c), some (.int k)] [.int c, .ref 0] M v M' 0 0 := Ev.back 2 (fun n => rfl) H
  obtain ⟨e1, rfl⟩ := Ev.dpos rfl rfl H
  obtain ⟨vK1, MK1, K1, H⟩ := Ev.callb (fun n_ => gs_7 rfl rfl (show gCal (.invokevirtual 113) 10 (.int c :: .ref 0 :: []) M = some (.inr (127, [some (.ref 0), some (.int c)], [])) from by show @cond (Option ((List Value × Mem) ⊕ (Nat × Lo × List Value))) (true && gRecv M (.ref 0) 10 && gRoom [] && true) (some (.inr (127, [some (.ref 0), some (.int c)], []))) none = _; rw [recv_s hS.1 qa_0 qo_0]; rfl)) H
  have K1 : Ev none e1 127 0 [some (.ref 0), some (.int c)] [] M vK1 MK1 0 0 := K1
  have HF := H
  exact ⟨e1, vK1, MK1, rfl, K1, HF⟩
theorem lay_5 {e : Nat} {M M' : Mem} {v : Option Value} {c k r : Int32} (hS : SQ M) (hLd : fR M 0 2 = 8) (H : Ev none e 95 5 [some (.ref 0), some (.int c), some (.int k)] [.int r] M v M' 0 0) : (r = 0 ∧ v = some (.int 0) ∧ M' = M) ∨ (¬ (r = 0) ∧ (G_126 M k 0 6) = 0 ∧ v = some (.int 0) ∧ M' = M) ∨ (¬ (r = 0) ∧ ¬ ((G_126 M k 0 6) = 0) ∧ k = 3 ∧ (∃ e1 v1 M1, e = e1 + 1 ∧ Ev none e1 9 0 [some (.ref 8), some (.int c), none] [] M v1 M1 0 0 ∧ Ev none e 95 39 [some (.ref 0), some (.int c), some (.int k)] (v1.toList ++ []) M1 v M' 0 0)) ∨ (¬ (r = 0) ∧ ¬ ((G_126 M k 0 6) = 0) ∧ ¬ (k = 3) ∧ k = 6 ∧ (∃ e1 v1 M1, e = e1 + 1 ∧ Ev none e1 9 0 [some (.ref 8), some (.int c), none] [] M v1 M1 0 0 ∧ Ev none e 95 39 [some (.ref 0), some (.int c), some (.int k)] (v1.toList ++ []) M1 v M' 0 0)) ∨ (¬ (r = 0) ∧ ¬ ((G_126 M k 0 6) = 0) ∧ ¬ (k = 3) ∧ ¬ (k = 6) ∧ v = some (.int 1) ∧ M' = (X_10 M 8 c k)) := by
  have H : Ev none e 95 (if r = 0 then 18 else 8) [some (.ref 0), some (.int c), some (.int k)] [] M v M' 0 0 := Ev.back 1 (fun n => rfl) H
  by_cases h1 : r = 0
  · rw [if_pos h1] at H
    have H : Ev none e 95 19 [some (.ref 0), some (.int c), some (.int k)] [.int 0] M v M' 0 0 := Ev.back 1 (fun n => rfl) H
    obtain ⟨z1, z2⟩ := Ev.retz rfl rfl H
    exact Or.inl ⟨h1, z1, z2⟩
  · rw [if_neg h1] at H
    have H : Ev none e 95 12 [some (.ref 0), some (.int c), some (.int k)] [.int 6, .int 0, .int k] M v M' 0 0 := Ev.back 3 (fun n => rfl) H
    obtain ⟨e1, rfl⟩ := Ev.dpos rfl rfl H
    obtain ⟨vK2, MK2, K2, H⟩ := Ev.callb (fun n => rfl) H
    obtain ⟨pK2, qK2⟩ := g_126 hS K2
    rw [pK2, qK2] at H
    have H : Ev none (e1 + 1) 95 15 [some (.ref 0), some (.int c), some (.int k)] [.int (G_126 M k 0 6)] M v M' 0 0 := H
    have H : Ev none (e1 + 1) 95 (if (G_126 M k 0 6) = 0 then 18 else 20) [some (.ref 0), some (.int c), some (.int k)] [] M v M' 0 0 := Ev.back 1 (fun n => rfl) H
    by_cases h3 : (G_126 M k 0 6) = 0
    · rw [if_pos h3] at H
      have H : Ev none (e1 + 1) 95 19 [some (.ref 0), some (.int c), some (.int k)] [.int 0] M v M' 0 0 := Ev.back 1 (fun n => rfl) H
      obtain ⟨z1, z2⟩ := Ev.retz rfl rfl H
      exact Or.inr (Or.inl ⟨h1, h3, z1, z2⟩)
    · rw [if_neg h3] at H
      have H : Ev none (e1 + 1) 95 (if k = 3 then 31 else 25) [some (.ref 0), some (.int c), some (.int k)] [] M v M' 0 0 := Ev.back 3 (fun n => rfl) H
      by_cases h4 : k = 3
      · rw [if_pos h4] at H
        have H : Ev none (e1 + 1) 95 32 [some (.ref 0), some (.int c), some (.int k)] [.ref 0] M v M' 0 0 := Ev.back 1 (fun n => rfl) H
        have H : Ev none (e1 + 1) 95 35 [some (.ref 0), some (.int c), some (.int k)] [.ref (fR M 0 2)] M v M' 0 0 := Ev.back 1 (gs_3 rfl rfl (gf_r hS.1 qa_0 qr_0_2 rfl)) H
        rw [hLd] at H
        have H : Ev none (e1 + 1) 95 36 [some (.ref 0), some (.int c), some (.int k)] [.int c, .ref 8] M v M' 0 0 := Ev.back 1 (fun n => rfl) H
        obtain ⟨vK5, MK5, K5, H⟩ := Ev.callb (fun n_ => gs_7 rfl rfl (show gCal (.invokevirtual 120) 10 (.int c :: .ref 8 :: []) M = some (.inr (9, [some (.ref 8), some (.int c), none], [])) from by show @cond (Option ((List Value × Mem) ⊕ (Nat × Lo × List Value))) (true && gRecv M (.ref 8) 1 && gRoom [] && true) (some (.inr (9, [some (.ref 8), some (.int c), none], []))) none = _; rw [recv_s hS.1 qa_8 qo_8]; rfl)) H
        have K5 : Ev none e1 9 0 [some (.ref 8), some (.int c), none] [] M vK5 MK5 0 0 := K5
        have HF := H
        exact Or.inr (Or.inr (Or.inl ⟨h1, h3, h4, ⟨e1, vK5, MK5, rfl, K5, HF⟩⟩))
      · rw [if_neg h4] at H
        have H : Ev none (e1 + 1) 95 (if k = 6 then 31 else 56) [some (.ref 0), some (.int c), some (.int k)] [] M v M' 0 0 := Ev.back 3 (fun n => rfl) H
        by_cases h6 : k = 6
        · rw [if_pos h6] at H
          have H : Ev none (e1 + 1) 95 32 [some (.ref 0), some (.int c), some (.int k)] [.ref 0] M v M' 0 0 := Ev.back 1 (fun n => rfl) H
          have H : Ev none (e1 + 1) 95 35 [some (.ref 0), some (.int c), some (.int k)] [.ref (fR M 0 2)] M v M' 0 0 := Ev.back 1 (gs_3 rfl rfl (gf_r hS.1 qa_0 qr_0_2 rfl)) H
          rw [hLd] at H
          have H : Ev none (e1 + 1) 95 36 [some (.ref 0), some (.int c), some (.int k)] [.int c, .ref 8] M v M' 0 0 := Ev.back 1 (fun n => rfl) H
          obtain ⟨vK7, MK7, K7, H⟩ := Ev.callb (fun n_ => gs_7 rfl rfl (show gCal (.invokevirtual 120) 10 (.int c :: .ref 8 :: []) M = some (.inr (9, [some (.ref 8), some (.int c), none], [])) from by show @cond (Option ((List Value × Mem) ⊕ (Nat × Lo × List Value))) (true && gRecv M (.ref 8) 1 && gRoom [] && true) (some (.inr (9, [some (.ref 8), some (.int c), none], []))) none = _; rw [recv_s hS.1 qa_8 qo_8]; rfl)) H
          have K7 : Ev none e1 9 0 [some (.ref 8), some (.int c), none] [] M vK7 MK7 0 0 := K7
          have HF := H
          exact Or.inr (Or.inr (Or.inr (Or.inl ⟨h1, h3, h4, h6, ⟨e1, vK7, MK7, rfl, K7, HF⟩⟩)))
        · rw [if_neg h6] at H
          have H : Ev none (e1 + 1) 95 57 [some (.ref 0), some (.int c), some (.int k)] [.ref 0] M v M' 0 0 := Ev.back 1 (fun n => rfl) H
          have H : Ev none (e1 + 1) 95 60 [some (.ref 0), some (.int c), some (.int k)] [.ref (fR M 0 2)] M v M' 0 0 := Ev.back 1 (gs_3 rfl rfl (gf_r hS.1 qa_0 qr_0_2 rfl)) H
          rw [hLd] at H
          have H : Ev none (e1 + 1) 95 62 [some (.ref 0), some (.int c), some (.int k)] [.int k, .int c, .ref 8] M v M' 0 0 := Ev.back 2 (fun n => rfl) H
          obtain ⟨vK8, MK8, K8, H⟩ := Ev.callb (fun n_ => gs_7 rfl rfl (show gCal (.invokevirtual 238) 10 (.int k :: .int c :: .ref 8 :: []) M = some (.inr (10, [some (.ref 8), some (.int c), some (.int k)], [])) from by show @cond (Option ((List Value × Mem) ⊕ (Nat × Lo × List Value))) (true && gRecv M (.ref 8) 1 && gRoom [] && true) (some (.inr (10, [some (.ref 8), some (.int c), some (.int k)], []))) none = _; rw [recv_s hS.1 qa_8 qo_8]; rfl)) H
          obtain ⟨pK8, qK8⟩ := g_10 hS qa_8 K8
          rw [pK8, qK8] at H
          obtain ⟨N9, eN9⟩ : ∃ N, N = (X_10 M 8 c k) := ⟨_, rfl⟩
          have hN9 : SQ N9 := by rw [eN9]; exact X_10_sx hS qa_8
          rw [← eN9] at H
          have H : Ev none (e1 + 1) 95 65 [some (.ref 0), some (.int c), some (.int k)] [] N9 v M' 0 0 := H
          have H : Ev none (e1 + 1) 95 66 [some (.ref 0), some (.int c), some (.int k)] [.int 1] N9 v M' 0 0 := Ev.back 1 (fun n => rfl) H
          obtain ⟨z1, z2⟩ := Ev.retz rfl rfl H
          subst eN9
          exact Or.inr (Or.inr (Or.inr (Or.inr (⟨h1, h3, h4, h6, z1, z2⟩))))
theorem lay_39 {e : Nat} {M M' : Mem} {v : Option Value} {c k r : Int32} (hS : SQ M) (hLd : fR M 0 2 = 8) (H : Ev none e 95 39 [some (.ref 0), some (.int c), some (.int k)] [.int r] M v M' 0 0) : (r = 0 ∧ (rI M (8 + 8) c) ≤ 0 ∧ (0 ≤ c.toInt ∧ c.toInt < 256) ∧ v = some (.int 1) ∧ M' = (X_10 M 8 c k)) ∨ (r = 0 ∧ ¬ ((rI M (8 + 8) c) ≤ 0) ∧ (0 ≤ c.toInt ∧ c.toInt < 256) ∧ v = some (.int 0) ∧ M' = M) ∨ (¬ (r = 0) ∧ v = some (.int 0) ∧ M' = M) := by
  have H : Ev none e 95 (if r = 0 then 42 else 54) [some (.ref 0), some (.int c), some (.int k)] [] M v M' 0 0 := Ev.back 1 (fun n => rfl) H
  by_cases h1 : r = 0
  · rw [if_pos h1] at H
    have H : Ev none e 95 43 [some (.ref 0), some (.int c), some (.int k)] [.ref 0] M v M' 0 0 := Ev.back 1 (fun n => rfl) H
    have H : Ev none e 95 46 [some (.ref 0), some (.int c), some (.int k)] [.ref (fR M 0 2)] M v M' 0 0 := Ev.back 1 (gs_3 rfl rfl (gf_r hS.1 qa_0 qr_0_2 rfl)) H
    rw [hLd] at H
    have H : Ev none e 95 49 [some (.ref 0), some (.int c), some (.int k)] [.ref (8 + 8)] M v M' 0 0 := Ev.back 1 (gs_3 rfl rfl (gf_x hS.1 qa_8 qo_8 (fx_l9 hS qa_8) rfl)) H
    have H : Ev none e 95 50 [some (.ref 0), some (.int c), some (.int k)] [.int c, .ref (8 + 8)] M v M' 0 0 := Ev.back 1 (fun n => rfl) H
    obtain ⟨b2, H⟩ := Ev.ial rfl rfl hS.1 (fx_h9 qa_8) qw_16 H
    have H : Ev none e 95 51 [some (.ref 0), some (.int c), some (.int k)] [.int (rI M (8 + 8) c)] M v M' 0 0 := H
    have H : Ev none e 95 (if (rI M (8 + 8) c) ≤ 0 then 56 else 54) [some (.ref 0), some (.int c), some (.int k)] [] M v M' 0 0 := Ev.back 1 (fun n => rfl) H
    by_cases h3 : (rI M (8 + 8) c) ≤ 0
    · rw [if_pos h3] at H
      have H : Ev none e 95 57 [some (.ref 0), some (.int c), some (.int k)] [.ref 0] M v M' 0 0 := Ev.back 1 (fun n => rfl) H
      have H : Ev none e 95 60 [some (.ref 0), some (.int c), some (.int k)] [.ref (fR M 0 2)] M v M' 0 0 := Ev.back 1 (gs_3 rfl rfl (gf_r hS.1 qa_0 qr_0_2 rfl)) H
      rw [hLd] at H
      have H : Ev none e 95 62 [some (.ref 0), some (.int c), some (.int k)] [.int k, .int c, .ref 8] M v M' 0 0 := Ev.back 2 (fun n => rfl) H
      obtain ⟨e1, rfl⟩ := Ev.dpos rfl rfl H
      obtain ⟨vK4, MK4, K4, H⟩ := Ev.callb (fun n_ => gs_7 rfl rfl (show gCal (.invokevirtual 238) 10 (.int k :: .int c :: .ref 8 :: []) M = some (.inr (10, [some (.ref 8), some (.int c), some (.int k)], [])) from by show @cond (Option ((List Value × Mem) ⊕ (Nat × Lo × List Value))) (true && gRecv M (.ref 8) 1 && gRoom [] && true) (some (.inr (10, [some (.ref 8), some (.int c), some (.int k)], []))) none = _; rw [recv_s hS.1 qa_8 qo_8]; rfl)) H
      obtain ⟨pK4, qK4⟩ := g_10 hS qa_8 K4
      rw [pK4, qK4] at H
      obtain ⟨N5, eN5⟩ : ∃ N, N = (X_10 M 8 c k) := ⟨_, rfl⟩
      have hN5 : SQ N5 := by rw [eN5]; exact X_10_sx hS qa_8
      rw [← eN5] at H
      have H : Ev none (e1 + 1) 95 65 [some (.ref 0), some (.int c), some (.int k)] [] N5 v M' 0 0 := H
      have H : Ev none (e1 + 1) 95 66 [some (.ref 0), some (.int c), some (.int k)] [.int 1] N5 v M' 0 0 := Ev.back 1 (fun n => rfl) H
      obtain ⟨z1, z2⟩ := Ev.retz rfl rfl H
      subst eN5
      exact Or.inl ⟨h1, h3, b2, z1, z2⟩
    · rw [if_neg h3] at H
      have H : Ev none e 95 55 [some (.ref 0), some (.int c), some (.int k)] [.int 0] M v M' 0 0 := Ev.back 1 (fun n => rfl) H
      obtain ⟨z1, z2⟩ := Ev.retz rfl rfl H
      exact Or.inr (Or.inl ⟨h1, h3, b2, z1, z2⟩)
  · rw [if_neg h1] at H
    have H : Ev none e 95 55 [some (.ref 0), some (.int c), some (.int k)] [.int 0] M v M' 0 0 := Ev.back 1 (fun n => rfl) H
    obtain ⟨z1, z2⟩ := Ev.retz rfl rfl H
    exact Or.inr (Or.inr (⟨h1, z1, z2⟩))
theorem prk_0 {e : Nat} {M M' : Mem} {v : Option Value} {a b : Int32} (hS : SQ M) (H : Ev none e 82 0 [some (.ref 0), some (.int a), some (.int b), none] [] M v M' 0 0) : (∃ e1 v1 M1, e = e1 + 1 ∧ Ev none e1 83 0 [some (.ref 0), some (.int a), some (.int b), none] [] M v1 M1 0 0 ∧ Ev none e 82 6 [some (.ref 0), some (.int a), some (.int b), none] (v1.toList ++ []) M1 v M' 0 0) := by
  have H : Ev none e 82 3 [some (.ref 0), some (.int a), some (.int b), none] [.int b, .int a, .ref 0] M v M' 0 0 := Ev.back 3 (fun n => rfl) H
  obtain ⟨e1, rfl⟩ := Ev.dpos rfl rfl H
  obtain ⟨vK1, MK1, K1, H⟩ := Ev.callb (fun n_ => gs_7 rfl rfl (show gCal (.invokevirtual 95) 10 (.int b :: .int a :: .ref 0 :: []) M = some (.inr (83, [some (.ref 0), some (.int a), some (.int b), none], [])) from by show @cond (Option ((List Value × Mem) ⊕ (Nat × Lo × List Value))) (true && gRecv M (.ref 0) 10 && gRoom [] && true) (some (.inr (83, [some (.ref 0), some (.int a), some (.int b), none], []))) none = _; rw [recv_s hS.1 qa_0 qo_0]; rfl)) H
  have K1 : Ev none e1 83 0 [some (.ref 0), some (.int a), some (.int b), none] [] M vK1 MK1 0 0 := K1
  have HF := H
  exact ⟨e1, vK1, MK1, rfl, K1, HF⟩
theorem prk_6 {e : Nat} {M M' : Mem} {v : Option Value} {a b r : Int32} (hS : SQ M) (hLd : fR M 0 2 = 8) (H : Ev none e 82 6 [some (.ref 0), some (.int a), some (.int b), none] [.int r] M v M' 0 0) : (r = 0 ∧ v = some (.int r) ∧ M' = (wF M 1 1 0)) ∨ (¬ (r = 0) ∧ (∃ e1 v1 M1, e = e1 + 1 ∧ Ev none e1 12 0 [some (.ref 8), some (.int a), some (.int b), some (.ref 1), none, none] [] M v1 M1 0 0 ∧ Ev none e 82 24 [some (.ref 0), some (.int a), some (.int b), some (.int r)] (v1.toList ++ []) M1 v M' 0 0)) := by
  have H : Ev none e 82 (if r = 0 then 24 else 11) [some (.ref 0), some (.int a), some (.int b), some (.int r)] [] M v M' 0 0 := Ev.back 3 (fun n => rfl) H
  by_cases h1 : r = 0
  · rw [if_pos h1] at H
    have H : Ev none e 82 25 [some (.ref 0), some (.int a), some (.int b), some (.int r)] [.ref 0] M v M' 0 0 := Ev.back 1 (fun n => rfl) H
    have H : Ev none e 82 28 [some (.ref 0), some (.int a), some (.int b), some (.int r)] [.ref 1] M v M' 0 0 := Ev.back 1 (gs_3 rfl rfl (gf_u hS.1 qa_0 qr_0_0 qu_1 rfl)) H
    have H : Ev none e 82 29 [some (.ref 0), some (.int a), some (.int b), some (.int r)] [.int 0, .ref 1] M v M' 0 0 := Ev.back 1 (fun n => rfl) H
    obtain ⟨N3, eN3⟩ : ∃ N, N = (wF M 1 1 0) := ⟨_, rfl⟩
    have hN3 : SQ N3 := by rw [eN3]; exact hS.kf
    have H : Ev none e 82 32 [some (.ref 0), some (.int a), some (.int b), some (.int r)] [] N3 v M' 0 0 := by rw [eN3]; exact Ev.pfi rfl rfl rfl hS.1 qa_1 qi_1_1 H
    have H : Ev none e 82 33 [some (.ref 0), some (.int a), some (.int b), some (.int r)] [.int r] N3 v M' 0 0 := Ev.back 1 (fun n => rfl) H
    obtain ⟨z1, z2⟩ := Ev.retz rfl rfl H
    subst eN3
    exact Or.inl ⟨h1, z1, z2⟩
  · rw [if_neg h1] at H
    have H : Ev none e 82 12 [some (.ref 0), some (.int a), some (.int b), some (.int r)] [.ref 0] M v M' 0 0 := Ev.back 1 (fun n => rfl) H
    have H : Ev none e 82 15 [some (.ref 0), some (.int a), some (.int b), some (.int r)] [.ref (fR M 0 2)] M v M' 0 0 := Ev.back 1 (gs_3 rfl rfl (gf_r hS.1 qa_0 qr_0_2 rfl)) H
    rw [hLd] at H
    have H : Ev none e 82 18 [some (.ref 0), some (.int a), some (.int b), some (.int r)] [.ref 0, .int b, .int a, .ref 8] M v M' 0 0 := Ev.back 3 (fun n => rfl) H
    have H : Ev none e 82 21 [some (.ref 0), some (.int a), some (.int b), some (.int r)] [.ref 1, .int b, .int a, .ref 8] M v M' 0 0 := Ev.back 1 (gs_3 rfl rfl (gf_u hS.1 qa_0 qr_0_0 qu_1 rfl)) H
    obtain ⟨e1, rfl⟩ := Ev.dpos rfl rfl H
    obtain ⟨vK4, MK4, K4, H⟩ := Ev.callb (fun n_ => gs_7 rfl rfl (show gCal (.invokevirtual 99) 10 (.ref 1 :: .int b :: .int a :: .ref 8 :: []) M = some (.inr (12, [some (.ref 8), some (.int a), some (.int b), some (.ref 1), none, none], [])) from by show @cond (Option ((List Value × Mem) ⊕ (Nat × Lo × List Value))) (true && gRecv M (.ref 8) 1 && gRoom [] && true) (some (.inr (12, [some (.ref 8), some (.int a), some (.int b), some (.ref 1), none, none], []))) none = _; rw [recv_s hS.1 qa_8 qo_8]; rfl)) H
    have K4 : Ev none e1 12 0 [some (.ref 8), some (.int a), some (.int b), some (.ref 1), none, none] [] M vK4 MK4 0 0 := K4
    have HF := H
    exact Or.inr (⟨h1, ⟨e1, vK4, MK4, rfl, K4, HF⟩⟩)
theorem prk_24 {e : Nat} {M M' : Mem} {v : Option Value} {a b r : Int32} (hS : SQ M) (H : Ev none e 82 24 [some (.ref 0), some (.int a), some (.int b), some (.int r)] [] M v M' 0 0) : v = some (.int r) ∧ M' = (wF M 1 1 0) := by
  have H : Ev none e 82 25 [some (.ref 0), some (.int a), some (.int b), some (.int r)] [.ref 0] M v M' 0 0 := Ev.back 1 (fun n => rfl) H
  have H : Ev none e 82 28 [some (.ref 0), some (.int a), some (.int b), some (.int r)] [.ref 1] M v M' 0 0 := Ev.back 1 (gs_3 rfl rfl (gf_u hS.1 qa_0 qr_0_0 qu_1 rfl)) H
  have H : Ev none e 82 29 [some (.ref 0), some (.int a), some (.int b), some (.int r)] [.int 0, .ref 1] M v M' 0 0 := Ev.back 1 (fun n => rfl) H
  obtain ⟨N2, eN2⟩ : ∃ N, N = (wF M 1 1 0) := ⟨_, rfl⟩
  have hN2 : SQ N2 := by rw [eN2]; exact hS.kf
  have H : Ev none e 82 32 [some (.ref 0), some (.int a), some (.int b), some (.int r)] [] N2 v M' 0 0 := by rw [eN2]; exact Ev.pfi rfl rfl rfl hS.1 qa_1 qi_1_1 H
  have H : Ev none e 82 33 [some (.ref 0), some (.int a), some (.int b), some (.int r)] [.int r] N2 v M' 0 0 := Ev.back 1 (fun n => rfl) H
  obtain ⟨z1, z2⟩ := Ev.retz rfl rfl H
  subst eN2
  exact ⟨z1, z2⟩
theorem img_0 {e : Nat} {M M' : Mem} {v : Option Value} {k : Int32} (hS : SQ M) (hLd : fR M 0 2 = 8) (H : Ev none e 123 0 [some (.ref 0), some (.int k)] [] M v M' 0 0) : ((G_126 M k 0 2) = 0 ∧ v = some (.int 0) ∧ M' = M) ∨ (¬ ((G_126 M k 0 2) = 0) ∧ (0 ≤ k.toInt ∧ k.toInt < 3) ∧ (∃ e1 v1 M1, e = e1 + 1 ∧ Ev none e1 13 0 [some (.ref (oI M 339 k)), some (.ref 8), none] [] M v1 M1 0 0 ∧ Ev none e 123 24 [some (.ref 0), some (.int k)] (v1.toList ++ []) M1 v M' 0 0)) := by
  have H : Ev none e 123 3 [some (.ref 0), some (.int k)] [.int 2, .int 0, .int k] M v M' 0 0 := Ev.back 3 (fun n => rfl) H
  obtain ⟨e1, rfl⟩ := Ev.dpos rfl rfl H
  obtain ⟨vK1, MK1, K1, H⟩ := Ev.callb (fun n => rfl) H
  obtain ⟨pK1, qK1⟩ := g_126 hS K1
  rw [pK1, qK1] at H
  have H : Ev none (e1 + 1) 123 6 [some (.ref 0), some (.int k)] [.int (G_126 M k 0 2)] M v M' 0 0 := H
  have H : Ev none (e1 + 1) 123 (if (G_126 M k 0 2) = 0 then 9 else 11) [some (.ref 0), some (.int k)] [] M v M' 0 0 := Ev.back 1 (fun n => rfl) H
  by_cases h2 : (G_126 M k 0 2) = 0
  · rw [if_pos h2] at H
    have H : Ev none (e1 + 1) 123 10 [some (.ref 0), some (.int k)] [.int 0] M v M' 0 0 := Ev.back 1 (fun n => rfl) H
    obtain ⟨z1, z2⟩ := Ev.retz rfl rfl H
    exact Or.inl ⟨h2, z1, z2⟩
  · rw [if_neg h2] at H
    have H : Ev none (e1 + 1) 123 12 [some (.ref 0), some (.int k)] [.ref 0] M v M' 0 0 := Ev.back 1 (fun n => rfl) H
    have H : Ev none (e1 + 1) 123 15 [some (.ref 0), some (.int k)] [.ref 339] M v M' 0 0 := Ev.back 1 (gs_3 rfl rfl (gf_u hS.1 qa_0 qr_0_7 qu_56 rfl)) H
    have H : Ev none (e1 + 1) 123 16 [some (.ref 0), some (.int k)] [.int k, .ref 339] M v M' 0 0 := Ev.back 1 (fun n => rfl) H
    obtain ⟨b3, H⟩ := Ev.aal rfl rfl hS.1 qa_339 qz_56 H
    have H : Ev none (e1 + 1) 123 17 [some (.ref 0), some (.int k)] [.ref (oI M 339 k)] M v M' 0 0 := H
    have H : Ev none (e1 + 1) 123 18 [some (.ref 0), some (.int k)] [.ref 0, .ref (oI M 339 k)] M v M' 0 0 := Ev.back 1 (fun n => rfl) H
    have H : Ev none (e1 + 1) 123 21 [some (.ref 0), some (.int k)] [.ref (fR M 0 2), .ref (oI M 339 k)] M v M' 0 0 := Ev.back 1 (gs_3 rfl rfl (gf_r hS.1 qa_0 qr_0_2 rfl)) H
    rw [hLd] at H
    obtain ⟨vK4, MK4, K4, H⟩ := Ev.callb (fun n_ => gs_7 rfl rfl (show gCal (.invokevirtual 390) 10 (.ref 8 :: .ref (oI M 339 k) :: []) M = some (.inr (13, [some (.ref (oI M 339 k)), some (.ref 8), none], [])) from by show @cond (Option ((List Value × Mem) ⊕ (Nat × Lo × List Value))) (true && gRecv M (.ref (oI M 339 k)) 1 && gRoom [] && true) (some (.inr (13, [some (.ref (oI M 339 k)), some (.ref 8), none], []))) none = _; rw [recv_s hS.1 b3.2 qo_8]; rfl)) H
    have K4 : Ev none e1 13 0 [some (.ref (oI M 339 k)), some (.ref 8), none] [] M vK4 MK4 0 0 := K4
    have HF := H
    exact Or.inr (⟨h2, b3.1, ⟨e1, vK4, MK4, rfl, K4, HF⟩⟩)
theorem img_24 {e : Nat} {M M' : Mem} {v : Option Value} {k : Int32} (hS : SQ M) (H : Ev none e 123 24 [some (.ref 0), some (.int k)] [] M v M' 0 0) : (0 ≤ k.toInt ∧ k.toInt < 3) ∧ v = some (.int 1) ∧ M' = (wI M 340 k.toNatClampNeg (vp_nar .boolean 1)) := by
  have H : Ev none e 123 25 [some (.ref 0), some (.int k)] [.ref 0] M v M' 0 0 := Ev.back 1 (fun n => rfl) H
  have H : Ev none e 123 28 [some (.ref 0), some (.int k)] [.ref 340] M v M' 0 0 := Ev.back 1 (gs_3 rfl rfl (gf_u hS.1 qa_0 qr_0_8 qu_57 rfl)) H
  have H : Ev none e 123 30 [some (.ref 0), some (.int k)] [.int 1, .int k, .ref 340] M v M' 0 0 := Ev.back 2 (fun n => rfl) H
  obtain ⟨b1, H⟩ := Ev.bas3 rfl rfl hS.1 qa_340 qw_57 H
  obtain ⟨N2, eN2⟩ : ∃ N, N = (wI M 340 k.toNatClampNeg (vp_nar .boolean 1)) := ⟨_, rfl⟩
  have hN2 : SQ N2 := by rw [eN2]; exact hS.ki
  have H : Ev none e 123 31 [some (.ref 0), some (.int k)] [] N2 v M' 0 0 := by rw [eN2]; exact H
  have H : Ev none e 123 32 [some (.ref 0), some (.int k)] [.int 1] N2 v M' 0 0 := Ev.back 1 (fun n => rfl) H
  obtain ⟨z1, z2⟩ := Ev.retz rfl rfl H
  subst eN2
  exact ⟨b1, z1, z2⟩
theorem rst_0 {e : Nat} {M M' : Mem} {v : Option Value} {k : Int32} (hS : SQ M) (hLd : fR M 0 2 = 8) (H : Ev none e 124 0 [some (.ref 0), some (.int k)] [] M v M' 0 0) : ((G_126 M k 0 2) = 0 ∧ v = some (.int 0) ∧ M' = M) ∨ (¬ ((G_126 M k 0 2) = 0) ∧ (rI M 340 k) = 0 ∧ (0 ≤ k.toInt ∧ k.toInt < 3) ∧ v = some (.int 0) ∧ M' = M) ∨ (¬ ((G_126 M k 0 2) = 0) ∧ ¬ ((rI M 340 k) = 0) ∧ (0 ≤ k.toInt ∧ k.toInt < 3) ∧ (0 ≤ k.toInt ∧ k.toInt < 3) ∧ (∃ e1 v1 M1, e = e1 + 1 ∧ Ev none e1 13 0 [some (.ref 8), some (.ref (oI M 339 k)), none] [] M v1 M1 0 0 ∧ Ev none e 124 33 [some (.ref 0), some (.int k)] (v1.toList ++ []) M1 v M' 0 0)) := by
  have H : Ev none e 124 3 [some (.ref 0), some (.int k)] [.int 2, .int 0, .int k] M v M' 0 0 := Ev.back 3 (fun n => rfl) H
  obtain ⟨e1, rfl⟩ := Ev.dpos rfl rfl H
  obtain ⟨vK1, MK1, K1, H⟩ := Ev.callb (fun n => rfl) H
  obtain ⟨pK1, qK1⟩ := g_126 hS K1
  rw [pK1, qK1] at H
  have H : Ev none (e1 + 1) 124 6 [some (.ref 0), some (.int k)] [.int (G_126 M k 0 2)] M v M' 0 0 := H
  have H : Ev none (e1 + 1) 124 (if (G_126 M k 0 2) = 0 then 18 else 9) [some (.ref 0), some (.int k)] [] M v M' 0 0 := Ev.back 1 (fun n => rfl) H
  by_cases h2 : (G_126 M k 0 2) = 0
  · rw [if_pos h2] at H
    have H : Ev none (e1 + 1) 124 19 [some (.ref 0), some (.int k)] [.int 0] M v M' 0 0 := Ev.back 1 (fun n => rfl) H
    obtain ⟨z1, z2⟩ := Ev.retz rfl rfl H
    exact Or.inl ⟨h2, z1, z2⟩
  · rw [if_neg h2] at H
    have H : Ev none (e1 + 1) 124 10 [some (.ref 0), some (.int k)] [.ref 0] M v M' 0 0 := Ev.back 1 (fun n => rfl) H
    have H : Ev none (e1 + 1) 124 13 [some (.ref 0), some (.int k)] [.ref 340] M v M' 0 0 := Ev.back 1 (gs_3 rfl rfl (gf_u hS.1 qa_0 qr_0_8 qu_57 rfl)) H
    have H : Ev none (e1 + 1) 124 14 [some (.ref 0), some (.int k)] [.int k, .ref 340] M v M' 0 0 := Ev.back 1 (fun n => rfl) H
    obtain ⟨b3, H⟩ := Ev.bal rfl rfl hS.1 qa_340 qw_57 (Or.inr rfl) H
    have H : Ev none (e1 + 1) 124 15 [some (.ref 0), some (.int k)] [.int (rI M 340 k)] M v M' 0 0 := H
    have H : Ev none (e1 + 1) 124 (if (rI M 340 k) = 0 then 18 else 20) [some (.ref 0), some (.int k)] [] M v M' 0 0 := Ev.back 1 (fun n => rfl) H
    by_cases h4 : (rI M 340 k) = 0
    · rw [if_pos h4] at H
      have H : Ev none (e1 + 1) 124 19 [some (.ref 0), some (.int k)] [.int 0] M v M' 0 0 := Ev.back 1 (fun n => rfl) H
      obtain ⟨z1, z2⟩ := Ev.retz rfl rfl H
      exact Or.inr (Or.inl ⟨h2, h4, b3, z1, z2⟩)
    · rw [if_neg h4] at H
      have H : Ev none (e1 + 1) 124 21 [some (.ref 0), some (.int k)] [.ref 0] M v M' 0 0 := Ev.back 1 (fun n => rfl) H
      have H : Ev none (e1 + 1) 124 24 [some (.ref 0), some (.int k)] [.ref (fR M 0 2)] M v M' 0 0 := Ev.back 1 (gs_3 rfl rfl (gf_r hS.1 qa_0 qr_0_2 rfl)) H
      rw [hLd] at H
      have H : Ev none (e1 + 1) 124 25 [some (.ref 0), some (.int k)] [.ref 0, .ref 8] M v M' 0 0 := Ev.back 1 (fun n => rfl) H
      have H : Ev none (e1 + 1) 124 28 [some (.ref 0), some (.int k)] [.ref 339, .ref 8] M v M' 0 0 := Ev.back 1 (gs_3 rfl rfl (gf_u hS.1 qa_0 qr_0_7 qu_56 rfl)) H
      have H : Ev none (e1 + 1) 124 29 [some (.ref 0), some (.int k)] [.int k, .ref 339, .ref 8] M v M' 0 0 := Ev.back 1 (fun n => rfl) H
      obtain ⟨b5, H⟩ := Ev.aal rfl rfl hS.1 qa_339 qz_56 H
      have H : Ev none (e1 + 1) 124 30 [some (.ref 0), some (.int k)] [.ref (oI M 339 k), .ref 8] M v M' 0 0 := H
      obtain ⟨vK6, MK6, K6, H⟩ := Ev.callb (fun n_ => gs_7 rfl rfl (show gCal (.invokevirtual 390) 10 (.ref (oI M 339 k) :: .ref 8 :: []) M = some (.inr (13, [some (.ref 8), some (.ref (oI M 339 k)), none], [])) from by show @cond (Option ((List Value × Mem) ⊕ (Nat × Lo × List Value))) (true && gRecv M (.ref 8) 1 && gRoom [] && true) (some (.inr (13, [some (.ref 8), some (.ref (oI M 339 k)), none], []))) none = _; rw [recv_s hS.1 qa_8 qo_8]; rfl)) H
      have K6 : Ev none e1 13 0 [some (.ref 8), some (.ref (oI M 339 k)), none] [] M vK6 MK6 0 0 := K6
      have HF := H
      exact Or.inr (Or.inr (⟨h2, h4, b3, b5.1, ⟨e1, vK6, MK6, rfl, K6, HF⟩⟩))
theorem rst_33 {e : Nat} {M M' : Mem} {v : Option Value} {k : Int32} (hS : SQ M) (H : Ev none e 124 33 [some (.ref 0), some (.int k)] [] M v M' 0 0) : v = some (.int 1) ∧ M' = M := by
  have H : Ev none e 124 34 [some (.ref 0), some (.int k)] [.int 1] M v M' 0 0 := Ev.back 1 (fun n => rfl) H
  obtain ⟨z1, z2⟩ := Ev.retz rfl rfl H
  exact ⟨z1, z2⟩
theorem opc_0 {e : Nat} {M M' : Mem} {v : Option Value} (hS : SQ M) (hLd : fR M 0 2 = 8) (hTr : fR M 0 6 = 243) (H : Ev none e 133 0 [some (.ref 0)] [] M v M' 0 0) : (∃ e1 v1 M1, e = e1 + 1 ∧ Ev none e1 13 0 [some (.ref 243), some (.ref 8), none] [] M v1 M1 0 0 ∧ Ev none e 133 11 [some (.ref 0)] (v1.toList ++ []) M1 v M' 0 0) := by
  have H : Ev none e 133 1 [some (.ref 0)] [.ref 0] M v M' 0 0 := Ev.back 1 (fun n => rfl) H
  have H : Ev none e 133 4 [some (.ref 0)] [.ref (fR M 0 6)] M v M' 0 0 := Ev.back 1 (gs_3 rfl rfl (gf_r hS.1 qa_0 qr_0_6 rfl)) H
  rw [hTr] at H
  have H : Ev none e 133 5 [some (.ref 0)] [.ref 0, .ref 243] M v M' 0 0 := Ev.back 1 (fun n => rfl) H
  have H : Ev none e 133 8 [some (.ref 0)] [.ref (fR M 0 2), .ref 243] M v M' 0 0 := Ev.back 1 (gs_3 rfl rfl (gf_r hS.1 qa_0 qr_0_2 rfl)) H
  rw [hLd] at H
  obtain ⟨e1, rfl⟩ := Ev.dpos rfl rfl H
  obtain ⟨vK1, MK1, K1, H⟩ := Ev.callb (fun n_ => gs_7 rfl rfl (show gCal (.invokevirtual 390) 10 (.ref 8 :: .ref 243 :: []) M = some (.inr (13, [some (.ref 243), some (.ref 8), none], [])) from by show @cond (Option ((List Value × Mem) ⊕ (Nat × Lo × List Value))) (true && gRecv M (.ref 243) 1 && gRoom [] && true) (some (.inr (13, [some (.ref 243), some (.ref 8), none], []))) none = _; rw [recv_s hS.1 qa_243 qo_8]; rfl)) H
  have K1 : Ev none e1 13 0 [some (.ref 243), some (.ref 8), none] [] M vK1 MK1 0 0 := K1
  have HF := H
  exact ⟨e1, vK1, MK1, rfl, K1, HF⟩
theorem opc_11 {e : Nat} {M M' : Mem} {v : Option Value} (hS : SQ M) (hLd : fR M 0 2 = 8) (hTr : fR M 0 6 = 243) (H : Ev none e 133 11 [some (.ref 0)] [] M v M' 0 0) : (∃ e1 v1 M1, e = e1 + 1 ∧ Ev none e1 54 0 [some (.ref 104), some (.ref 243)] [] M v1 M1 0 0 ∧ Ev none e 133 22 [some (.ref 0)] (v1.toList ++ []) M1 v M' 0 0) := by
  have H : Ev none e 133 12 [some (.ref 0)] [.ref 0] M v M' 0 0 := Ev.back 1 (fun n => rfl) H
  have H : Ev none e 133 15 [some (.ref 0)] [.ref 104] M v M' 0 0 := Ev.back 1 (gs_3 rfl rfl (gf_u hS.1 qa_0 qr_0_3 qu_22 rfl)) H
  have H : Ev none e 133 16 [some (.ref 0)] [.ref 0, .ref 104] M v M' 0 0 := Ev.back 1 (fun n => rfl) H
  have H : Ev none e 133 19 [some (.ref 0)] [.ref (fR M 0 6), .ref 104] M v M' 0 0 := Ev.back 1 (gs_3 rfl rfl (gf_r hS.1 qa_0 qr_0_6 rfl)) H
  rw [hTr] at H
  obtain ⟨e1, rfl⟩ := Ev.dpos rfl rfl H
  obtain ⟨vK1, MK1, K1, H⟩ := Ev.callb (fun n_ => gs_7 rfl rfl (show gCal (.invokevirtual 197) 10 (.ref 243 :: .ref 104 :: []) M = some (.inr (54, [some (.ref 104), some (.ref 243)], [])) from by show @cond (Option ((List Value × Mem) ⊕ (Nat × Lo × List Value))) (true && gRecv M (.ref 104) 7 && gRoom [] && true) (some (.inr (54, [some (.ref 104), some (.ref 243)], []))) none = _; rw [recv_s hS.1 qa_104 qo_22]; rfl)) H
  have K1 : Ev none e1 54 0 [some (.ref 104), some (.ref 243)] [] M vK1 MK1 0 0 := K1
  have HF := H
  exact ⟨e1, vK1, MK1, rfl, K1, HF⟩
theorem opc_22 {e : Nat} {M M' : Mem} {v : Option Value} (hS : SQ M) (H : Ev none e 133 22 [some (.ref 0)] [] M v M' 0 0) : v = none ∧ M' = M := by
  obtain ⟨z1, z2⟩ := Ev.retb (fun n => rfl) H
  exact ⟨z1, z2⟩
