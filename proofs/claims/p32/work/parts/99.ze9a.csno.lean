/-! THE CLASS'S reading of the SNOW: pieces (made by gwal12.py) -/
theorem stw_0 {e : Nat} {M M' : Mem} {v : Option Value} {i s : Int32} {r : Nat} (hS : SQ M) (a_r : gNth sT r = some 58) (H : Ev none e 42 0 [some (.ref 229), some (.int i), some (.ref r), some (.int s), none] [] M v M' 0 0) : (0 ≤ i.toInt ∧ i.toInt < 5) ∧ Ev none e 42 16 [some (.ref 229), some (.int i), some (.ref r), some (.int s), some (.int 0)] [] (wI M 236 i.toNatClampNeg (if 200 < s then 200 else s)) v M' 0 0 := by
  have H : Ev none e 42 1 [some (.ref 229), some (.int i), some (.ref r), some (.int s), none] [.ref 229] M v M' 0 0 := Ev.back 1 (fun n => rfl) H
  have H : Ev none e 42 4 [some (.ref 229), some (.int i), some (.ref r), some (.int s), none] [.ref 236] M v M' 0 0 := Ev.back 1 (gs_3 rfl rfl (gf_u hS.1 qa_229 qr_46_1 qu_49 rfl)) H
  have H : Ev none e 42 9 [some (.ref 229), some (.int i), some (.ref r), some (.int s), none] [.int 200, .int s, .int i, .ref 236] M v M' 0 0 := Ev.back 3 (fun n => rfl) H
  obtain ⟨e1, rfl⟩ := Ev.dpos rfl rfl H
  have H : Ev none (e1 + 1) 42 12 [some (.ref 229), some (.int i), some (.ref r), some (.int s), none] [.int (if 200 < s then 200 else s), .int i, .ref 236] M v M' 0 0 := Ev.back 1 (fun n => rfl) H
  obtain ⟨b1, H⟩ := Ev.ias rfl rfl hS.1 qa_236 qw_49 H
  obtain ⟨N2, eN2⟩ : ∃ N, N = (wI M 236 i.toNatClampNeg (if 200 < s then 200 else s)) := ⟨_, rfl⟩
  have hN2 : SQ N2 := by rw [eN2]; exact hS.ki
  have H : Ev none (e1 + 1) 42 13 [some (.ref 229), some (.int i), some (.ref r), some (.int s), none] [] N2 v M' 0 0 := by rw [eN2]; exact H
  have H : Ev none (e1 + 1) 42 16 [some (.ref 229), some (.int i), some (.ref r), some (.int s), some (.int 0)] [] N2 v M' 0 0 := Ev.back 2 (fun n => rfl) H
  have HF := H
  subst eN2
  exact ⟨b1, HF⟩
theorem stw_16 {e : Nat} {M M' : Mem} {v : Option Value} {i s n : Int32} {r : Nat} (hS : SQ M) (a_r : gNth sT r = some 58) (H : Ev none e 42 16 [some (.ref 229), some (.int i), some (.ref r), some (.int s), some (.int n)] [] M v M' 0 0) : ((rI M 236 i) ≤ n ∧ (0 ≤ i.toInt ∧ i.toInt < 5) ∧ v = none ∧ M' = M) ∨ (¬ ((rI M 236 i) ≤ n) ∧ (0 ≤ i.toInt ∧ i.toInt < 5) ∧ (0 ≤ i.toInt ∧ i.toInt < 5) ∧ (0 ≤ (n + 1).toInt ∧ (n + 1).toInt < 201) ∧ (0 ≤ n.toInt ∧ n.toInt < 200) ∧ Ev none e 42 16 [some (.ref 229), some (.int i), some (.ref r), some (.int s), some (.int (n + 1))] [] (wI M (oI M 230 i) n.toNatClampNeg (rI M r (n + 1))) v M' 0 0) := by
  have H : Ev none e 42 19 [some (.ref 229), some (.int i), some (.ref r), some (.int s), some (.int n)] [.ref 229, .int n] M v M' 0 0 := Ev.back 2 (fun n => rfl) H
  have H : Ev none e 42 22 [some (.ref 229), some (.int i), some (.ref r), some (.int s), some (.int n)] [.ref 236, .int n] M v M' 0 0 := Ev.back 1 (gs_3 rfl rfl (gf_u hS.1 qa_229 qr_46_1 qu_49 rfl)) H
  have H : Ev none e 42 23 [some (.ref 229), some (.int i), some (.ref r), some (.int s), some (.int n)] [.int i, .ref 236, .int n] M v M' 0 0 := Ev.back 1 (fun n => rfl) H
  obtain ⟨b1, H⟩ := Ev.ial rfl rfl hS.1 qa_236 qw_49 H
  have H : Ev none e 42 24 [some (.ref 229), some (.int i), some (.ref r), some (.int s), some (.int n)] [.int (rI M 236 i), .int n] M v M' 0 0 := H
  have H : Ev none e 42 (if (rI M 236 i) ≤ n then 48 else 27) [some (.ref 229), some (.int i), some (.ref r), some (.int s), some (.int n)] [] M v M' 0 0 := Ev.back 1 (fun n => rfl) H
  by_cases h2 : (rI M 236 i) ≤ n
  · rw [if_pos h2] at H
    obtain ⟨z1, z2⟩ := Ev.retb (fun n => rfl) H
    exact Or.inl ⟨h2, b1, z1, z2⟩
  · rw [if_neg h2] at H
    have H : Ev none e 42 28 [some (.ref 229), some (.int i), some (.ref r), some (.int s), some (.int n)] [.ref 229] M v M' 0 0 := Ev.back 1 (fun n => rfl) H
    have H : Ev none e 42 31 [some (.ref 229), some (.int i), some (.ref r), some (.int s), some (.int n)] [.ref 230] M v M' 0 0 := Ev.back 1 (gs_3 rfl rfl (gf_u hS.1 qa_229 qr_46_0 qu_47 rfl)) H
    have H : Ev none e 42 32 [some (.ref 229), some (.int i), some (.ref r), some (.int s), some (.int n)] [.int i, .ref 230] M v M' 0 0 := Ev.back 1 (fun n => rfl) H
    obtain ⟨b3, H⟩ := Ev.aal rfl rfl hS.1 qa_230 qz_47 H
    have H : Ev none e 42 33 [some (.ref 229), some (.int i), some (.ref r), some (.int s), some (.int n)] [.ref (oI M 230 i)] M v M' 0 0 := H
    have H : Ev none e 42 40 [some (.ref 229), some (.int i), some (.ref r), some (.int s), some (.int n)] [.int (n + 1), .ref r, .int n, .ref (oI M 230 i)] M v M' 0 0 := Ev.back 5 (fun n => rfl) H
    obtain ⟨b4, H⟩ := Ev.ial rfl rfl hS.1 a_r qw_58 H
    have H : Ev none e 42 41 [some (.ref 229), some (.int i), some (.ref r), some (.int s), some (.int n)] [.int (rI M r (n + 1)), .int n, .ref (oI M 230 i)] M v M' 0 0 := H
    obtain ⟨b5, H⟩ := Ev.ias rfl rfl hS.1 b3.2 qw_48 H
    obtain ⟨N6, eN6⟩ : ∃ N, N = (wI M (oI M 230 i) n.toNatClampNeg (rI M r (n + 1))) := ⟨_, rfl⟩
    have hN6 : SQ N6 := by rw [eN6]; exact hS.ki
    have H : Ev none e 42 42 [some (.ref 229), some (.int i), some (.ref r), some (.int s), some (.int n)] [] N6 v M' 0 0 := by rw [eN6]; exact H
    have H : Ev none e 42 16 [some (.ref 229), some (.int i), some (.ref r), some (.int s), some (.int (n + 1))] [] N6 v M' 0 0 := Ev.back 2 (fun n => rfl) H
    have HF := H
    subst eN6
    exact Or.inr (⟨h2, b1, b3.1, b4, b5, HF⟩)
theorem tls_0 {e : Nat} {M M' : Mem} {v : Option Value} {L : Nat} (hS : SQ M) (a_L : gNth sT L = some 8) (H : Ev none e 43 0 [some (.ref 229), some (.ref L), none] [] M v M' 0 0) : Ev none e 43 15 [some (.ref 229), some (.ref L), some (.int 0)] [] (wA (wF M 229 4 0) 237 0) v M' 0 0 := by
  have H : Ev none e 43 2 [some (.ref 229), some (.ref L), none] [.int 0, .ref 229] M v M' 0 0 := Ev.back 2 (fun n => rfl) H
  obtain ⟨N2, eN2⟩ : ∃ N, N = (wF M 229 4 0) := ⟨_, rfl⟩
  have hN2 : SQ N2 := by rw [eN2]; exact hS.kf
  have H : Ev none e 43 5 [some (.ref 229), some (.ref L), none] [] N2 v M' 0 0 := by rw [eN2]; exact Ev.pfi rfl rfl rfl hS.1 qa_229 qi_46_4 H
  have H : Ev none e 43 6 [some (.ref 229), some (.ref L), none] [.ref 229] N2 v M' 0 0 := Ev.back 1 (fun n => rfl) H
  have H : Ev none e 43 9 [some (.ref 229), some (.ref L), none] [.ref 237] N2 v M' 0 0 := Ev.back 1 (gs_3 rfl rfl (gf_u hN2.1 qa_229 qr_46_3 qu_50 rfl)) H
  have H : Ev none e 43 10 [some (.ref 229), some (.ref L), none] [.int 0, .ref 237] N2 v M' 0 0 := Ev.back 1 (fun n => rfl) H
  have H := Ev.fil rfl rfl (fun _ _ => rfl) hN2.1 qa_237 qw_50 H
  obtain ⟨N3, eN3⟩ : ∃ N, N = (wA N2 237 0) := ⟨_, rfl⟩
  have hN3 : SQ N3 := by rw [eN3]; exact hN2.ka
  have H : Ev none e 43 13 [some (.ref 229), some (.ref L), none] [] N3 v M' 0 0 := by rw [eN3]; exact H
  have H : Ev none e 43 15 [some (.ref 229), some (.ref L), some (.int 0)] [] N3 v M' 0 0 := Ev.back 2 (fun n => rfl) H
  have HF := H
  subst eN2 eN3
  exact HF
theorem tls_15 {e : Nat} {M M' : Mem} {v : Option Value} {c : Int32} {L : Nat} (hS : SQ M) (a_L : gNth sT L = some 8) (H : Ev none e 43 15 [some (.ref 229), some (.ref L), some (.int c)] [] M v M' 0 0) : ((G_6 M L) ≤ c ∧ (∃ e1 v1 M1, e = e1 + 1 ∧ Ev none e1 44 0 [some (.ref 229), some (.int 0), none, none, none] [] (wA (wA M 239 9) 240 0) v1 M1 0 0 ∧ Ev none e 43 78 [some (.ref 229), some (.ref L), some (.int c)] (v1.toList ++ []) M1 v M' 0 0)) ∨ (¬ ((G_6 M L) ≤ c) ∧ (0 ≤ c.toInt ∧ c.toInt < 256) ∧ (0 ≤ c.toInt ∧ c.toInt < 256) ∧ (0 ≤ c.toInt ∧ c.toInt < 256) ∧ Ev none e 43 15 [some (.ref 229), some (.ref L), some (.int (c + 1))] [] (wF (wI M 237 c.toNatClampNeg (rI M (L + 7) c)) 229 4 ((zI M 229 4) + (rI (wI M 237 c.toNatClampNeg (rI M (L + 7) c)) 237 c))) v M' 0 0) := by
  have H : Ev none e 43 17 [some (.ref 229), some (.ref L), some (.int c)] [.ref L, .int c] M v M' 0 0 := Ev.back 2 (fun n => rfl) H
  obtain ⟨e1, rfl⟩ := Ev.dpos rfl rfl H
  obtain ⟨vK1, MK1, K1, H⟩ := Ev.callb (fun n_ => gs_7 rfl rfl (show gCal (.invokevirtual 54) 4 (.ref L :: [.int c]) M = some (.inr (6, [some (.ref L)], [.int c])) from by show @cond (Option ((List Value × Mem) ⊕ (Nat × Lo × List Value))) (true && gRecv M (.ref L) 1 && gRoom [.int c] && true) (some (.inr (6, [some (.ref L)], [.int c]))) none = _; rw [recv_s hS.1 a_L qo_8]; rfl)) H
  obtain ⟨pK1, qK1⟩ := g_6 hS a_L K1
  rw [pK1, qK1] at H
  have H : Ev none (e1 + 1) 43 20 [some (.ref 229), some (.ref L), some (.int c)] [.int (G_6 M L), .int c] M v M' 0 0 := H
  have H : Ev none (e1 + 1) 43 (if (G_6 M L) ≤ c then 56 else 23) [some (.ref 229), some (.ref L), some (.int c)] [] M v M' 0 0 := Ev.back 1 (fun n => rfl) H
  by_cases h2 : (G_6 M L) ≤ c
  · rw [if_pos h2] at H
    have H : Ev none (e1 + 1) 43 57 [some (.ref 229), some (.ref L), some (.int c)] [.ref 229] M v M' 0 0 := Ev.back 1 (fun n => rfl) H
    have H : Ev none (e1 + 1) 43 60 [some (.ref 229), some (.ref L), some (.int c)] [.ref 239] M v M' 0 0 := Ev.back 1 (gs_3 rfl rfl (gf_u hS.1 qa_229 qr_46_6 qu_52 rfl)) H
    have H : Ev none (e1 + 1) 43 62 [some (.ref 229), some (.ref L), some (.int c)] [.int 9, .ref 239] M v M' 0 0 := Ev.back 1 (fun n => rfl) H
    have H := Ev.fil rfl rfl (fun _ _ => rfl) hS.1 qa_239 qw_52 H
    obtain ⟨N3, eN3⟩ : ∃ N, N = (wA M 239 9) := ⟨_, rfl⟩
    have hN3 : SQ N3 := by rw [eN3]; exact hS.ka
    have H : Ev none (e1 + 1) 43 65 [some (.ref 229), some (.ref L), some (.int c)] [] N3 v M' 0 0 := by rw [eN3]; exact H
    have H : Ev none (e1 + 1) 43 66 [some (.ref 229), some (.ref L), some (.int c)] [.ref 229] N3 v M' 0 0 := Ev.back 1 (fun n => rfl) H
    have H : Ev none (e1 + 1) 43 69 [some (.ref 229), some (.ref L), some (.int c)] [.ref 240] N3 v M' 0 0 := Ev.back 1 (gs_3 rfl rfl (gf_u hN3.1 qa_229 qr_46_7 qu_53 rfl)) H
    have H : Ev none (e1 + 1) 43 70 [some (.ref 229), some (.ref L), some (.int c)] [.int 0, .ref 240] N3 v M' 0 0 := Ev.back 1 (fun n => rfl) H
    have H := Ev.fil rfl rfl (fun _ _ => rfl) hN3.1 qa_240 qw_53 H
    obtain ⟨N4, eN4⟩ : ∃ N, N = (wA N3 240 0) := ⟨_, rfl⟩
    have hN4 : SQ N4 := by rw [eN4]; exact hN3.ka
    have H : Ev none (e1 + 1) 43 73 [some (.ref 229), some (.ref L), some (.int c)] [] N4 v M' 0 0 := by rw [eN4]; exact H
    have H : Ev none (e1 + 1) 43 75 [some (.ref 229), some (.ref L), some (.int c)] [.int 0, .ref 229] N4 v M' 0 0 := Ev.back 2 (fun n => rfl) H
    obtain ⟨vK5, MK5, K5, H⟩ := Ev.callb (fun n_ => gs_7 rfl rfl (show gCal (.invokevirtual 62) 4 (.int 0 :: .ref 229 :: []) N4 = some (.inr (44, [some (.ref 229), some (.int 0), none, none, none], [])) from by show @cond (Option ((List Value × Mem) ⊕ (Nat × Lo × List Value))) (true && gRecv N4 (.ref 229) 4 && gRoom [] && true) (some (.inr (44, [some (.ref 229), some (.int 0), none, none, none], []))) none = _; rw [recv_s hN4.1 qa_229 qo_46]; rfl)) H
    have K5 : Ev none e1 44 0 [some (.ref 229), some (.int 0), none, none, none] [] N4 vK5 MK5 0 0 := K5
    have HF := H
    subst eN3 eN4
    exact Or.inl ⟨h2, ⟨e1, vK5, MK5, rfl, K5, HF⟩⟩
  · rw [if_neg h2] at H
    have H : Ev none (e1 + 1) 43 24 [some (.ref 229), some (.ref L), some (.int c)] [.ref 229] M v M' 0 0 := Ev.back 1 (fun n => rfl) H
    have H : Ev none (e1 + 1) 43 27 [some (.ref 229), some (.ref L), some (.int c)] [.ref 237] M v M' 0 0 := Ev.back 1 (gs_3 rfl rfl (gf_u hS.1 qa_229 qr_46_3 qu_50 rfl)) H
    have H : Ev none (e1 + 1) 43 29 [some (.ref 229), some (.ref L), some (.int c)] [.ref L, .int c, .ref 237] M v M' 0 0 := Ev.back 2 (fun n => rfl) H
    have H : Ev none (e1 + 1) 43 32 [some (.ref 229), some (.ref L), some (.int c)] [.ref (L + 7), .int c, .ref 237] M v M' 0 0 := Ev.back 1 (gs_3 rfl rfl (gf_x hS.1 a_L qo_8 (fx_l8 hS a_L) rfl)) H
    have H : Ev none (e1 + 1) 43 33 [some (.ref 229), some (.ref L), some (.int c)] [.int c, .ref (L + 7), .int c, .ref 237] M v M' 0 0 := Ev.back 1 (fun n => rfl) H
    obtain ⟨b6, H⟩ := Ev.ial rfl rfl hS.1 (fx_h8 a_L) qw_15 H
    have H : Ev none (e1 + 1) 43 34 [some (.ref 229), some (.ref L), some (.int c)] [.int (rI M (L + 7) c), .int c, .ref 237] M v M' 0 0 := H
    obtain ⟨b7, H⟩ := Ev.ias rfl rfl hS.1 qa_237 qw_50 H
    obtain ⟨N8, eN8⟩ : ∃ N, N = (wI M 237 c.toNatClampNeg (rI M (L + 7) c)) := ⟨_, rfl⟩
    have hN8 : SQ N8 := by rw [eN8]; exact hS.ki
    have H : Ev none (e1 + 1) 43 35 [some (.ref 229), some (.ref L), some (.int c)] [] N8 v M' 0 0 := by rw [eN8]; exact H
    have H : Ev none (e1 + 1) 43 37 [some (.ref 229), some (.ref L), some (.int c)] [.ref 229, .ref 229] N8 v M' 0 0 := Ev.back 2 (fun n => rfl) H
    have H : Ev none (e1 + 1) 43 40 [some (.ref 229), some (.ref L), some (.int c)] [.int (zI N8 229 4), .ref 229] N8 v M' 0 0 := Ev.back 1 (gs_3 rfl rfl (gf_i hN8.1 qa_229 qi_46_4 rfl)) H
    rw [show zI N8 229 4 = zI M 229 4 from by rw [eN8]; exact fI_wI] at H
    have H : Ev none (e1 + 1) 43 41 [some (.ref 229), some (.ref L), some (.int c)] [.ref 229, .int (zI M 229 4), .ref 229] N8 v M' 0 0 := Ev.back 1 (fun n => rfl) H
    have H : Ev none (e1 + 1) 43 44 [some (.ref 229), some (.ref L), some (.int c)] [.ref 237, .int (zI M 229 4), .ref 229] N8 v M' 0 0 := Ev.back 1 (gs_3 rfl rfl (gf_u hN8.1 qa_229 qr_46_3 qu_50 rfl)) H
    have H : Ev none (e1 + 1) 43 45 [some (.ref 229), some (.ref L), some (.int c)] [.int c, .ref 237, .int (zI M 229 4), .ref 229] N8 v M' 0 0 := Ev.back 1 (fun n => rfl) H
    obtain ⟨b9, H⟩ := Ev.ial rfl rfl hN8.1 qa_237 qw_50 H
    have H : Ev none (e1 + 1) 43 46 [some (.ref 229), some (.ref L), some (.int c)] [.int (rI N8 237 c), .int (zI M 229 4), .ref 229] N8 v M' 0 0 := H
    have H : Ev none (e1 + 1) 43 47 [some (.ref 229), some (.ref L), some (.int c)] [.int ((zI M 229 4) + (rI N8 237 c)), .ref 229] N8 v M' 0 0 := Ev.back 1 (fun n => rfl) H
    obtain ⟨N11, eN11⟩ : ∃ N, N = (wF N8 229 4 ((zI M 229 4) + (rI N8 237 c))) := ⟨_, rfl⟩
    have hN11 : SQ N11 := by rw [eN11]; exact hN8.kf
    have H : Ev none (e1 + 1) 43 50 [some (.ref 229), some (.ref L), some (.int c)] [] N11 v M' 0 0 := by rw [eN11]; exact Ev.pfi rfl rfl rfl hN8.1 qa_229 qi_46_4 H
    have H : Ev none (e1 + 1) 43 15 [some (.ref 229), some (.ref L), some (.int (c + 1))] [] N11 v M' 0 0 := Ev.back 2 (fun n => rfl) H
    have HF := H
    subst eN8 eN11
    exact Or.inr (⟨h2, b6, b7, b9, HF⟩)
theorem tls_78 {e : Nat} {M M' : Mem} {v : Option Value} {c r : Int32} {L : Nat} (hS : SQ M) (a_L : gNth sT L = some 8) (H : Ev none e 43 78 [some (.ref 229), some (.ref L), some (.int c)] [.int r] M v M' 0 0) : (r ≤ 0 ∧ v = some (.int r) ∧ M' = M) ∨ (¬ (r ≤ 0) ∧ v = some (.int r) ∧ M' = (wC (wC (wF M 229 8 (zI M 229 2)) 239 241) 240 242)) := by
  have H : Ev none e 43 (if r ≤ 0 then 119 else 83) [some (.ref 229), some (.ref L), some (.int r)] [] M v M' 0 0 := Ev.back 3 (fun n => rfl) H
  by_cases h1 : r ≤ 0
  · rw [if_pos h1] at H
    have H : Ev none e 43 120 [some (.ref 229), some (.ref L), some (.int r)] [.int r] M v M' 0 0 := Ev.back 1 (fun n => rfl) H
    obtain ⟨z1, z2⟩ := Ev.retz rfl rfl H
    exact Or.inl ⟨h1, z1, z2⟩
  · rw [if_neg h1] at H
    have H : Ev none e 43 85 [some (.ref 229), some (.ref L), some (.int r)] [.ref 229, .ref 229] M v M' 0 0 := Ev.back 2 (fun n => rfl) H
    have H : Ev none e 43 88 [some (.ref 229), some (.ref L), some (.int r)] [.int (zI M 229 2), .ref 229] M v M' 0 0 := Ev.back 1 (gs_3 rfl rfl (gf_i hS.1 qa_229 qi_46_2 rfl)) H
    obtain ⟨N3, eN3⟩ : ∃ N, N = (wF M 229 8 (zI M 229 2)) := ⟨_, rfl⟩
    have hN3 : SQ N3 := by rw [eN3]; exact hS.kf
    have H : Ev none e 43 91 [some (.ref 229), some (.ref L), some (.int r)] [] N3 v M' 0 0 := by rw [eN3]; exact Ev.pfi rfl rfl rfl hS.1 qa_229 qi_46_8 H
    have H : Ev none e 43 92 [some (.ref 229), some (.ref L), some (.int r)] [.ref 229] N3 v M' 0 0 := Ev.back 1 (fun n => rfl) H
    have H : Ev none e 43 95 [some (.ref 229), some (.ref L), some (.int r)] [.ref 239] N3 v M' 0 0 := Ev.back 1 (gs_3 rfl rfl (gf_u hN3.1 qa_229 qr_46_6 qu_52 rfl)) H
    have H : Ev none e 43 97 [some (.ref 229), some (.ref L), some (.int r)] [.ref 229, .int 0, .ref 239] N3 v M' 0 0 := Ev.back 2 (fun n => rfl) H
    have H : Ev none e 43 100 [some (.ref 229), some (.ref L), some (.int r)] [.ref 241, .int 0, .ref 239] N3 v M' 0 0 := Ev.back 1 (gs_3 rfl rfl (gf_u hN3.1 qa_229 qr_46_9 qu_54 rfl)) H
    have H : Ev none e 43 102 [some (.ref 229), some (.ref L), some (.int r)] [.int 5, .int 0, .ref 241, .int 0, .ref 239] N3 v M' 0 0 := Ev.back 2 (fun n => rfl) H
    have H := Ev.cpy rfl rfl (fun _ _ => rfl) hN3.1 qa_239 qw_52 qa_241 qw_54 rfl H
    obtain ⟨N4, eN4⟩ : ∃ N, N = (wC N3 239 241) := ⟨_, rfl⟩
    have hN4 : SQ N4 := by rw [eN4]; exact hN3.kc qa_239 qw_52 qa_241 qw_54
    have H : Ev none e 43 105 [some (.ref 229), some (.ref L), some (.int r)] [] N4 v M' 0 0 := by rw [eN4]; exact H
    have H : Ev none e 43 106 [some (.ref 229), some (.ref L), some (.int r)] [.ref 229] N4 v M' 0 0 := Ev.back 1 (fun n => rfl) H
    have H : Ev none e 43 109 [some (.ref 229), some (.ref L), some (.int r)] [.ref 240] N4 v M' 0 0 := Ev.back 1 (gs_3 rfl rfl (gf_u hN4.1 qa_229 qr_46_7 qu_53 rfl)) H
    have H : Ev none e 43 111 [some (.ref 229), some (.ref L), some (.int r)] [.ref 229, .int 0, .ref 240] N4 v M' 0 0 := Ev.back 2 (fun n => rfl) H
    have H : Ev none e 43 114 [some (.ref 229), some (.ref L), some (.int r)] [.ref 242, .int 0, .ref 240] N4 v M' 0 0 := Ev.back 1 (gs_3 rfl rfl (gf_u hN4.1 qa_229 qr_46_10 qu_55 rfl)) H
    have H : Ev none e 43 116 [some (.ref 229), some (.ref L), some (.int r)] [.int 5, .int 0, .ref 242, .int 0, .ref 240] N4 v M' 0 0 := Ev.back 2 (fun n => rfl) H
    have H := Ev.cpy rfl rfl (fun _ _ => rfl) hN4.1 qa_240 qw_53 qa_242 qw_55 rfl H
    obtain ⟨N5, eN5⟩ : ∃ N, N = (wC N4 240 242) := ⟨_, rfl⟩
    have hN5 : SQ N5 := by rw [eN5]; exact hN4.kc qa_240 qw_53 qa_242 qw_55
    have H : Ev none e 43 119 [some (.ref 229), some (.ref L), some (.int r)] [] N5 v M' 0 0 := by rw [eN5]; exact H
    have H : Ev none e 43 120 [some (.ref 229), some (.ref L), some (.int r)] [.int r] N5 v M' 0 0 := Ev.back 1 (fun n => rfl) H
    obtain ⟨z1, z2⟩ := Ev.retz rfl rfl H
    subst eN3 eN4 eN5
    exact Or.inr (⟨h1, z1, z2⟩)
theorem tel_0 {e : Nat} {M M' : Mem} {v : Option Value} {i : Int32} (hS : SQ M) (H : Ev none e 44 0 [some (.ref 229), some (.int i), none, none, none] [] M v M' 0 0) : ((zI M 229 2) ≤ i ∧ (zI M 229 4) = 0 ∧ (∃ e1 v1 M1, e = e1 + 1 ∧ Ev none e1 47 0 [some (.ref 229), none] [] M v1 M1 0 0 ∧ Ev none e 44 24 [some (.ref 229), some (.int i), none, none, none] (v1.toList ++ []) M1 v M' 0 0)) ∨ ((zI M 229 2) ≤ i ∧ ¬ ((zI M 229 4) = 0) ∧ v = some (.int 0) ∧ M' = M) ∨ (¬ ((zI M 229 2) ≤ i) ∧ i < 5 ∧ Ev none e 44 36 [some (.ref 229), some (.int i), some (.int 0), some (.int 1), some (.int 0)] [] M v M' 0 0) ∨ (¬ ((zI M 229 2) ≤ i) ∧ ¬ (i < 5) ∧ (zI M 229 4) = 0 ∧ (∃ e1 v1 M1, e = e1 + 1 ∧ Ev none e1 47 0 [some (.ref 229), none] [] M v1 M1 0 0 ∧ Ev none e 44 24 [some (.ref 229), some (.int i), none, none, none] (v1.toList ++ []) M1 v M' 0 0)) ∨ (¬ ((zI M 229 2) ≤ i) ∧ ¬ (i < 5) ∧ ¬ ((zI M 229 4) = 0) ∧ v = some (.int 0) ∧ M' = M) := by
  have H : Ev none e 44 2 [some (.ref 229), some (.int i), none, none, none] [.ref 229, .int i] M v M' 0 0 := Ev.back 2 (fun n => rfl) H
  have H : Ev none e 44 5 [some (.ref 229), some (.int i), none, none, none] [.int (zI M 229 2), .int i] M v M' 0 0 := Ev.back 1 (gs_3 rfl rfl (gf_i hS.1 qa_229 qi_46_2 rfl)) H
  have H : Ev none e 44 (if (zI M 229 2) ≤ i then 13 else 8) [some (.ref 229), some (.int i), none, none, none] [] M v M' 0 0 := Ev.back 1 (fun n => rfl) H
  by_cases h1 : (zI M 229 2) ≤ i
  · rw [if_pos h1] at H
    have H : Ev none e 44 14 [some (.ref 229), some (.int i), none, none, none] [.ref 229] M v M' 0 0 := Ev.back 1 (fun n => rfl) H
    have H : Ev none e 44 17 [some (.ref 229), some (.int i), none, none, none] [.int (zI M 229 4)] M v M' 0 0 := Ev.back 1 (gs_3 rfl rfl (gf_i hS.1 qa_229 qi_46_4 rfl)) H
    have H : Ev none e 44 (if (zI M 229 4) = 0 then 20 else 27) [some (.ref 229), some (.int i), none, none, none] [] M v M' 0 0 := Ev.back 1 (fun n => rfl) H
    by_cases h2 : (zI M 229 4) = 0
    · rw [if_pos h2] at H
      have H : Ev none e 44 21 [some (.ref 229), some (.int i), none, none, none] [.ref 229] M v M' 0 0 := Ev.back 1 (fun n => rfl) H
      obtain ⟨e1, rfl⟩ := Ev.dpos rfl rfl H
      obtain ⟨vK3, MK3, K3, H⟩ := Ev.callb (fun n_ => gs_7 rfl rfl (show gCal (.invokevirtual 78) 4 (.ref 229 :: []) M = some (.inr (47, [some (.ref 229), none], [])) from by show @cond (Option ((List Value × Mem) ⊕ (Nat × Lo × List Value))) (true && gRecv M (.ref 229) 4 && gRoom [] && true) (some (.inr (47, [some (.ref 229), none], []))) none = _; rw [recv_s hS.1 qa_229 qo_46]; rfl)) H
      have K3 : Ev none e1 47 0 [some (.ref 229), none] [] M vK3 MK3 0 0 := K3
      have HF := H
      exact Or.inl ⟨h1, h2, ⟨e1, vK3, MK3, rfl, K3, HF⟩⟩
    · rw [if_neg h2] at H
      have H : Ev none e 44 28 [some (.ref 229), some (.int i), none, none, none] [.int 0] M v M' 0 0 := Ev.back 1 (fun n => rfl) H
      obtain ⟨z1, z2⟩ := Ev.retz rfl rfl H
      exact Or.inr (Or.inl ⟨h1, h2, z1, z2⟩)
  · rw [if_neg h1] at H
    have H : Ev none e 44 (if i < 5 then 29 else 13) [some (.ref 229), some (.int i), none, none, none] [] M v M' 0 0 := Ev.back 3 (fun n => rfl) H
    by_cases h4 : i < 5
    · rw [if_pos h4] at H
      have H : Ev none e 44 36 [some (.ref 229), some (.int i), some (.int 0), some (.int 1), some (.int 0)] [] M v M' 0 0 := Ev.back 6 (fun n => rfl) H
      have HF := H
      exact Or.inr (Or.inr (Or.inl ⟨h1, h4, HF⟩))
    · rw [if_neg h4] at H
      have H : Ev none e 44 14 [some (.ref 229), some (.int i), none, none, none] [.ref 229] M v M' 0 0 := Ev.back 1 (fun n => rfl) H
      have H : Ev none e 44 17 [some (.ref 229), some (.int i), none, none, none] [.int (zI M 229 4)] M v M' 0 0 := Ev.back 1 (gs_3 rfl rfl (gf_i hS.1 qa_229 qi_46_4 rfl)) H
      have H : Ev none e 44 (if (zI M 229 4) = 0 then 20 else 27) [some (.ref 229), some (.int i), none, none, none] [] M v M' 0 0 := Ev.back 1 (fun n => rfl) H
      by_cases h5 : (zI M 229 4) = 0
      · rw [if_pos h5] at H
        have H : Ev none e 44 21 [some (.ref 229), some (.int i), none, none, none] [.ref 229] M v M' 0 0 := Ev.back 1 (fun n => rfl) H
        obtain ⟨e1, rfl⟩ := Ev.dpos rfl rfl H
        obtain ⟨vK6, MK6, K6, H⟩ := Ev.callb (fun n_ => gs_7 rfl rfl (show gCal (.invokevirtual 78) 4 (.ref 229 :: []) M = some (.inr (47, [some (.ref 229), none], [])) from by show @cond (Option ((List Value × Mem) ⊕ (Nat × Lo × List Value))) (true && gRecv M (.ref 229) 4 && gRoom [] && true) (some (.inr (47, [some (.ref 229), none], []))) none = _; rw [recv_s hS.1 qa_229 qo_46]; rfl)) H
        have K6 : Ev none e1 47 0 [some (.ref 229), none] [] M vK6 MK6 0 0 := K6
        have HF := H
        exact Or.inr (Or.inr (Or.inr (Or.inl ⟨h1, h4, h5, ⟨e1, vK6, MK6, rfl, K6, HF⟩⟩)))
      · rw [if_neg h5] at H
        have H : Ev none e 44 28 [some (.ref 229), some (.int i), none, none, none] [.int 0] M v M' 0 0 := Ev.back 1 (fun n => rfl) H
        obtain ⟨z1, z2⟩ := Ev.retz rfl rfl H
        exact Or.inr (Or.inr (Or.inr (Or.inr (⟨h1, h4, h5, z1, z2⟩))))
theorem tel_24 {e : Nat} {M M' : Mem} {v : Option Value} {i r : Int32} (hS : SQ M) (H : Ev none e 44 24 [some (.ref 229), some (.int i), none, none, none] [.int r] M v M' 0 0) : v = some (.int r) ∧ M' = M := by
  have H : Ev none e 44 28 [some (.ref 229), some (.int i), none, none, none] [.int r] M v M' 0 0 := Ev.back 1 (fun n => rfl) H
  obtain ⟨z1, z2⟩ := Ev.retz rfl rfl H
  exact ⟨z1, z2⟩
theorem tel_36 {e : Nat} {M M' : Mem} {v : Option Value} {i f b n : Int32} (hS : SQ M) (H : Ev none e 44 36 [some (.ref 229), some (.int i), some (.int f), some (.int b), some (.int n)] [] M v M' 0 0) : (9 < n ∧ (0 ≤ i.toInt ∧ i.toInt < 5) ∧ Ev none e 44 110 [some (.ref 229), some (.int i), some (.int f), some (.int b), some (.int (rI M 238 i))] [] M v M' 0 0) ∨ (¬ (9 < n) ∧ b = 0 ∧ (0 ≤ i.toInt ∧ i.toInt < 5) ∧ Ev none e 44 110 [some (.ref 229), some (.int i), some (.int f), some (.int b), some (.int (rI M 238 i))] [] M v M' 0 0) ∨ (¬ (9 < n) ∧ ¬ (b = 0) ∧ (0 ≤ i.toInt ∧ i.toInt < 5) ∧ (∃ e1 v1 M1, e = e1 + 1 ∧ Ev none e1 45 0 [some (.ref 229), some (.int (i + 1)), none, none] [] (wI M 238 i.toNatClampNeg n) v1 M1 0 0 ∧ Ev none e 44 63 [some (.ref 229), some (.int i), some (.int f), some (.int b), some (.int n)] (v1.toList ++ [.int f]) M1 v M' 0 0)) := by
  have H : Ev none e 44 (if 9 < n then 102 else 43) [some (.ref 229), some (.int i), some (.int f), some (.int b), some (.int n)] [] M v M' 0 0 := Ev.back 3 (fun n => rfl) H
  by_cases h1 : 9 < n
  · rw [if_pos h1] at H
    have H : Ev none e 44 103 [some (.ref 229), some (.int i), some (.int f), some (.int b), some (.int n)] [.ref 229] M v M' 0 0 := Ev.back 1 (fun n => rfl) H
    have H : Ev none e 44 106 [some (.ref 229), some (.int i), some (.int f), some (.int b), some (.int n)] [.ref 238] M v M' 0 0 := Ev.back 1 (gs_3 rfl rfl (gf_u hS.1 qa_229 qr_46_5 qu_51 rfl)) H
    have H : Ev none e 44 107 [some (.ref 229), some (.int i), some (.int f), some (.int b), some (.int n)] [.int i, .ref 238] M v M' 0 0 := Ev.back 1 (fun n => rfl) H
    obtain ⟨b2, H⟩ := Ev.ial rfl rfl hS.1 qa_238 qw_51 H
    have H : Ev none e 44 108 [some (.ref 229), some (.int i), some (.int f), some (.int b), some (.int n)] [.int (rI M 238 i)] M v M' 0 0 := H
    have H : Ev none e 44 110 [some (.ref 229), some (.int i), some (.int f), some (.int b), some (.int (rI M 238 i))] [] M v M' 0 0 := Ev.back 1 (fun n => rfl) H
    have HF := H
    exact Or.inl ⟨h1, b2, HF⟩
  · rw [if_neg h1] at H
    have H : Ev none e 44 (if b = 0 then 102 else 47) [some (.ref 229), some (.int i), some (.int f), some (.int b), some (.int n)] [] M v M' 0 0 := Ev.back 2 (fun n => rfl) H
    by_cases h3 : b = 0
    · rw [if_pos h3] at H
      have H : Ev none e 44 103 [some (.ref 229), some (.int i), some (.int f), some (.int b), some (.int n)] [.ref 229] M v M' 0 0 := Ev.back 1 (fun n => rfl) H
      have H : Ev none e 44 106 [some (.ref 229), some (.int i), some (.int f), some (.int b), some (.int n)] [.ref 238] M v M' 0 0 := Ev.back 1 (gs_3 rfl rfl (gf_u hS.1 qa_229 qr_46_5 qu_51 rfl)) H
      have H : Ev none e 44 107 [some (.ref 229), some (.int i), some (.int f), some (.int b), some (.int n)] [.int i, .ref 238] M v M' 0 0 := Ev.back 1 (fun n => rfl) H
      obtain ⟨b4, H⟩ := Ev.ial rfl rfl hS.1 qa_238 qw_51 H
      have H : Ev none e 44 108 [some (.ref 229), some (.int i), some (.int f), some (.int b), some (.int n)] [.int (rI M 238 i)] M v M' 0 0 := H
      have H : Ev none e 44 110 [some (.ref 229), some (.int i), some (.int f), some (.int b), some (.int (rI M 238 i))] [] M v M' 0 0 := Ev.back 1 (fun n => rfl) H
      have HF := H
      exact Or.inr (Or.inl ⟨h1, h3, b4, HF⟩)
    · rw [if_neg h3] at H
      have H : Ev none e 44 48 [some (.ref 229), some (.int i), some (.int f), some (.int b), some (.int n)] [.ref 229] M v M' 0 0 := Ev.back 1 (fun n => rfl) H
      have H : Ev none e 44 51 [some (.ref 229), some (.int i), some (.int f), some (.int b), some (.int n)] [.ref 238] M v M' 0 0 := Ev.back 1 (gs_3 rfl rfl (gf_u hS.1 qa_229 qr_46_5 qu_51 rfl)) H
      have H : Ev none e 44 54 [some (.ref 229), some (.int i), some (.int f), some (.int b), some (.int n)] [.int n, .int i, .ref 238] M v M' 0 0 := Ev.back 2 (fun n => rfl) H
      obtain ⟨b5, H⟩ := Ev.ias rfl rfl hS.1 qa_238 qw_51 H
      obtain ⟨N6, eN6⟩ : ∃ N, N = (wI M 238 i.toNatClampNeg n) := ⟨_, rfl⟩
      have hN6 : SQ N6 := by rw [eN6]; exact hS.ki
      have H : Ev none e 44 55 [some (.ref 229), some (.int i), some (.int f), some (.int b), some (.int n)] [] N6 v M' 0 0 := by rw [eN6]; exact H
      have H : Ev none e 44 60 [some (.ref 229), some (.int i), some (.int f), some (.int b), some (.int n)] [.int (i + 1), .ref 229, .int f] N6 v M' 0 0 := Ev.back 5 (fun n => rfl) H
      obtain ⟨e1, rfl⟩ := Ev.dpos rfl rfl H
      obtain ⟨vK7, MK7, K7, H⟩ := Ev.callb (fun n_ => gs_7 rfl rfl (show gCal (.invokevirtual 81) 4 (.int (i + 1) :: .ref 229 :: [.int f]) N6 = some (.inr (45, [some (.ref 229), some (.int (i + 1)), none, none], [.int f])) from by show @cond (Option ((List Value × Mem) ⊕ (Nat × Lo × List Value))) (true && gRecv N6 (.ref 229) 4 && gRoom [.int f] && true) (some (.inr (45, [some (.ref 229), some (.int (i + 1)), none, none], [.int f]))) none = _; rw [recv_s hN6.1 qa_229 qo_46]; rfl)) H
      have K7 : Ev none e1 45 0 [some (.ref 229), some (.int (i + 1)), none, none] [] N6 vK7 MK7 0 0 := K7
      have HF := H
      subst eN6
      exact Or.inr (Or.inr (⟨h1, h3, b5, ⟨e1, vK7, MK7, rfl, K7, HF⟩⟩))
theorem tel_63 {e : Nat} {M M' : Mem} {v : Option Value} {i f b n y : Int32} (hS : SQ M) (H : Ev none e 44 63 [some (.ref 229), some (.int i), some (.int f), some (.int b), some (.int n)] [.int y, .int f] M v M' 0 0) : (y = 0 ∧ (∃ e1 v1 M1, e = e1 + 1 ∧ Ev none e1 46 0 [some (.ref 229), some (.int i), some (.int 1), none, none, none] [] M v1 M1 0 0 ∧ Ev none e 44 85 [some (.ref 229), some (.int i), some (.int (f + 0)), some (.int b), some (.int n)] (v1.toList ++ []) M1 v M' 0 0)) ∨ (¬ (y = 0) ∧ (∃ e1 v1 M1, e = e1 + 1 ∧ Ev none e1 44 0 [some (.ref 229), some (.int (i + 1)), none, none, none] [] M v1 M1 0 0 ∧ Ev none e 44 73 [some (.ref 229), some (.int i), some (.int f), some (.int b), some (.int n)] (v1.toList ++ [.int f]) M1 v M' 0 0)) := by
  have H : Ev none e 44 (if y = 0 then 76 else 66) [some (.ref 229), some (.int i), some (.int f), some (.int b), some (.int n)] [.int f] M v M' 0 0 := Ev.back 1 (fun n => rfl) H
  by_cases h1 : y = 0
  · rw [if_pos h1] at H
    have H : Ev none e 44 82 [some (.ref 229), some (.int i), some (.int (f + 0)), some (.int b), some (.int n)] [.int 1, .int i, .ref 229] M v M' 0 0 := Ev.back 6 (fun n => rfl) H
    obtain ⟨e1, rfl⟩ := Ev.dpos rfl rfl H
    obtain ⟨vK2, MK2, K2, H⟩ := Ev.callb (fun n_ => gs_7 rfl rfl (show gCal (.invokevirtual 85) 4 (.int 1 :: .int i :: .ref 229 :: []) M = some (.inr (46, [some (.ref 229), some (.int i), some (.int 1), none, none, none], [])) from by show @cond (Option ((List Value × Mem) ⊕ (Nat × Lo × List Value))) (true && gRecv M (.ref 229) 4 && gRoom [] && true) (some (.inr (46, [some (.ref 229), some (.int i), some (.int 1), none, none, none], []))) none = _; rw [recv_s hS.1 qa_229 qo_46]; rfl)) H
    have K2 : Ev none e1 46 0 [some (.ref 229), some (.int i), some (.int 1), none, none, none] [] M vK2 MK2 0 0 := K2
    have HF := H
    exact Or.inl ⟨h1, ⟨e1, vK2, MK2, rfl, K2, HF⟩⟩
  · rw [if_neg h1] at H
    have H : Ev none e 44 70 [some (.ref 229), some (.int i), some (.int f), some (.int b), some (.int n)] [.int (i + 1), .ref 229, .int f] M v M' 0 0 := Ev.back 4 (fun n => rfl) H
    obtain ⟨e1, rfl⟩ := Ev.dpos rfl rfl H
    obtain ⟨vK3, MK3, K3, H⟩ := Ev.callb (fun n_ => gs_7 rfl rfl (show gCal (.invokevirtual 62) 4 (.int (i + 1) :: .ref 229 :: [.int f]) M = some (.inr (44, [some (.ref 229), some (.int (i + 1)), none, none, none], [.int f])) from by show @cond (Option ((List Value × Mem) ⊕ (Nat × Lo × List Value))) (true && gRecv M (.ref 229) 4 && gRoom [.int f] && true) (some (.inr (44, [some (.ref 229), some (.int (i + 1)), none, none, none], [.int f]))) none = _; rw [recv_s hS.1 qa_229 qo_46]; rfl)) H
    have K3 : Ev none e1 44 0 [some (.ref 229), some (.int (i + 1)), none, none, none] [] M vK3 MK3 0 0 := K3
    have HF := H
    exact Or.inr (⟨h1, ⟨e1, vK3, MK3, rfl, K3, HF⟩⟩)
theorem tel_73 {e : Nat} {M M' : Mem} {v : Option Value} {i f b n y : Int32} (hS : SQ M) (H : Ev none e 44 73 [some (.ref 229), some (.int i), some (.int f), some (.int b), some (.int n)] [.int y, .int f] M v M' 0 0) : (∃ e1 v1 M1, e = e1 + 1 ∧ Ev none e1 46 0 [some (.ref 229), some (.int i), some (.int 1), none, none, none] [] M v1 M1 0 0 ∧ Ev none e 44 85 [some (.ref 229), some (.int i), some (.int (f + y)), some (.int b), some (.int n)] (v1.toList ++ []) M1 v M' 0 0) := by
  have H : Ev none e 44 82 [some (.ref 229), some (.int i), some (.int (f + y)), some (.int b), some (.int n)] [.int 1, .int i, .ref 229] M v M' 0 0 := Ev.back 6 (fun n => rfl) H
  obtain ⟨e1, rfl⟩ := Ev.dpos rfl rfl H
  obtain ⟨vK1, MK1, K1, H⟩ := Ev.callb (fun n_ => gs_7 rfl rfl (show gCal (.invokevirtual 85) 4 (.int 1 :: .int i :: .ref 229 :: []) M = some (.inr (46, [some (.ref 229), some (.int i), some (.int 1), none, none, none], [])) from by show @cond (Option ((List Value × Mem) ⊕ (Nat × Lo × List Value))) (true && gRecv M (.ref 229) 4 && gRoom [] && true) (some (.inr (46, [some (.ref 229), some (.int i), some (.int 1), none, none, none], []))) none = _; rw [recv_s hS.1 qa_229 qo_46]; rfl)) H
  have K1 : Ev none e1 46 0 [some (.ref 229), some (.int i), some (.int 1), none, none, none] [] M vK1 MK1 0 0 := K1
  have HF := H
  exact ⟨e1, vK1, MK1, rfl, K1, HF⟩
theorem tel_85 {e : Nat} {M M' : Mem} {v : Option Value} {i f b n y : Int32} (hS : SQ M) (H : Ev none e 44 85 [some (.ref 229), some (.int i), some (.int f), some (.int b), some (.int n)] [.int y] M v M' 0 0) : (0 ≤ i.toInt ∧ i.toInt < 5) ∧ Ev none e 44 36 [some (.ref 229), some (.int i), some (.int f), some (.int y), some (.int (n + 1))] [] (wI M 238 i.toNatClampNeg (n + 1)) v M' 0 0 := by
  have H : Ev none e 44 87 [some (.ref 229), some (.int i), some (.int f), some (.int y), some (.int n)] [.ref 229] M v M' 0 0 := Ev.back 2 (fun n => rfl) H
  have H : Ev none e 44 90 [some (.ref 229), some (.int i), some (.int f), some (.int y), some (.int n)] [.ref 238] M v M' 0 0 := Ev.back 1 (gs_3 rfl rfl (gf_u hS.1 qa_229 qr_46_5 qu_51 rfl)) H
  have H : Ev none e 44 95 [some (.ref 229), some (.int i), some (.int f), some (.int y), some (.int n)] [.int (n + 1), .int i, .ref 238] M v M' 0 0 := Ev.back 4 (fun n => rfl) H
  obtain ⟨b1, H⟩ := Ev.ias rfl rfl hS.1 qa_238 qw_51 H
  obtain ⟨N2, eN2⟩ : ∃ N, N = (wI M 238 i.toNatClampNeg (n + 1)) := ⟨_, rfl⟩
  have hN2 : SQ N2 := by rw [eN2]; exact hS.ki
  have H : Ev none e 44 96 [some (.ref 229), some (.int i), some (.int f), some (.int y), some (.int n)] [] N2 v M' 0 0 := by rw [eN2]; exact H
  have H : Ev none e 44 36 [some (.ref 229), some (.int i), some (.int f), some (.int y), some (.int (n + 1))] [] N2 v M' 0 0 := Ev.back 2 (fun n => rfl) H
  have HF := H
  subst eN2
  exact ⟨b1, HF⟩
theorem tel_110 {e : Nat} {M M' : Mem} {v : Option Value} {i f b n : Int32} (hS : SQ M) (H : Ev none e 44 110 [some (.ref 229), some (.int i), some (.int f), some (.int b), some (.int n)] [] M v M' 0 0) : (n ≤ 0 ∧ v = some (.int f) ∧ M' = M) ∨ (¬ (n ≤ 0) ∧ (∃ e1 v1 M1, e = e1 + 1 ∧ Ev none e1 46 0 [some (.ref 229), some (.int i), some (.int (-1)), none, none, none] [] M v1 M1 0 0 ∧ Ev none e 44 121 [some (.ref 229), some (.int i), some (.int f), some (.int b), some (.int n)] (v1.toList ++ []) M1 v M' 0 0)) := by
  have H : Ev none e 44 (if n ≤ 0 then 128 else 115) [some (.ref 229), some (.int i), some (.int f), some (.int b), some (.int n)] [] M v M' 0 0 := Ev.back 2 (fun n => rfl) H
  by_cases h1 : n ≤ 0
  · rw [if_pos h1] at H
    have H : Ev none e 44 129 [some (.ref 229), some (.int i), some (.int f), some (.int b), some (.int n)] [.int f] M v M' 0 0 := Ev.back 1 (fun n => rfl) H
    obtain ⟨z1, z2⟩ := Ev.retz rfl rfl H
    exact Or.inl ⟨h1, z1, z2⟩
  · rw [if_neg h1] at H
    have H : Ev none e 44 118 [some (.ref 229), some (.int i), some (.int f), some (.int b), some (.int n)] [.int (-1), .int i, .ref 229] M v M' 0 0 := Ev.back 3 (fun n => rfl) H
    obtain ⟨e1, rfl⟩ := Ev.dpos rfl rfl H
    obtain ⟨vK2, MK2, K2, H⟩ := Ev.callb (fun n_ => gs_7 rfl rfl (show gCal (.invokevirtual 85) 4 (.int (-1) :: .int i :: .ref 229 :: []) M = some (.inr (46, [some (.ref 229), some (.int i), some (.int (-1)), none, none, none], [])) from by show @cond (Option ((List Value × Mem) ⊕ (Nat × Lo × List Value))) (true && gRecv M (.ref 229) 4 && gRoom [] && true) (some (.inr (46, [some (.ref 229), some (.int i), some (.int (-1)), none, none, none], []))) none = _; rw [recv_s hS.1 qa_229 qo_46]; rfl)) H
    have K2 : Ev none e1 46 0 [some (.ref 229), some (.int i), some (.int (-1)), none, none, none] [] M vK2 MK2 0 0 := K2
    have HF := H
    exact Or.inr (⟨h1, ⟨e1, vK2, MK2, rfl, K2, HF⟩⟩)
theorem tel_121 {e : Nat} {M M' : Mem} {v : Option Value} {i f b n y : Int32} (hS : SQ M) (H : Ev none e 44 121 [some (.ref 229), some (.int i), some (.int f), some (.int b), some (.int n)] [.int y] M v M' 0 0) : Ev none e 44 110 [some (.ref 229), some (.int i), some (.int f), some (.int b), some (.int (n + Int32.ofInt (-1)))] [] M v M' 0 0 := by
  have H : Ev none e 44 122 [some (.ref 229), some (.int i), some (.int f), some (.int b), some (.int n)] [] M v M' 0 0 := Ev.back 1 (fun n => rfl) H
  have H : Ev none e 44 125 [some (.ref 229), some (.int i), some (.int f), some (.int b), some (.int (n + Int32.ofInt (-1)))] [] M v M' 0 0 := Ev.back 1 (gs_1 (i := .iinc 4 (-1)) rfl rfl rfl) H
  have H : Ev none e 44 110 [some (.ref 229), some (.int i), some (.int f), some (.int b), some (.int (n + Int32.ofInt (-1)))] [] M v M' 0 0 := Ev.back 1 (fun n => rfl) H
  have HF := H
  exact HF
theorem men_0 {e : Nat} {M M' : Mem} {v : Option Value} {i : Int32} (hS : SQ M) (H : Ev none e 45 0 [some (.ref 229), some (.int i), none, none] [] M v M' 0 0) : Ev none e 45 4 [some (.ref 229), some (.int i), some (.int 0), some (.int i)] [] M v M' 0 0 := by
  have H : Ev none e 45 4 [some (.ref 229), some (.int i), some (.int 0), some (.int i)] [] M v M' 0 0 := Ev.back 4 (fun n => rfl) H
  have HF := H
  exact HF
theorem men_4 {e : Nat} {M M' : Mem} {v : Option Value} {i c k : Int32} (hS : SQ M) (H : Ev none e 45 4 [some (.ref 229), some (.int i), some (.int c), some (.int k)] [] M v M' 0 0) : ((zI M 229 2) ≤ k ∧ c < (zI M 229 4) ∧ v = some (.int 0) ∧ M' = M) ∨ ((zI M 229 2) ≤ k ∧ ¬ (c < (zI M 229 4)) ∧ v = some (.int 1) ∧ M' = M) ∨ (¬ ((zI M 229 2) ≤ k) ∧ 5 ≤ k ∧ c < (zI M 229 4) ∧ v = some (.int 0) ∧ M' = M) ∨ (¬ ((zI M 229 2) ≤ k) ∧ 5 ≤ k ∧ ¬ (c < (zI M 229 4)) ∧ v = some (.int 1) ∧ M' = M) ∨ (¬ ((zI M 229 2) ≤ k) ∧ ¬ (5 ≤ k) ∧ (0 ≤ k.toInt ∧ k.toInt < 5) ∧ Ev none e 45 4 [some (.ref 229), some (.int i), some (.int (c + (9 * (rI M 236 k)))), some (.int (k + 1))] [] M v M' 0 0) := by
  have H : Ev none e 45 6 [some (.ref 229), some (.int i), some (.int c), some (.int k)] [.ref 229, .int k] M v M' 0 0 := Ev.back 2 (fun n => rfl) H
  have H : Ev none e 45 9 [some (.ref 229), some (.int i), some (.int c), some (.int k)] [.int (zI M 229 2), .int k] M v M' 0 0 := Ev.back 1 (gs_3 rfl rfl (gf_i hS.1 qa_229 qi_46_2 rfl)) H
  have H : Ev none e 45 (if (zI M 229 2) ≤ k then 35 else 12) [some (.ref 229), some (.int i), some (.int c), some (.int k)] [] M v M' 0 0 := Ev.back 1 (fun n => rfl) H
  by_cases h1 : (zI M 229 2) ≤ k
  · rw [if_pos h1] at H
    have H : Ev none e 45 36 [some (.ref 229), some (.int i), some (.int c), some (.int k)] [.ref 229] M v M' 0 0 := Ev.back 1 (fun n => rfl) H
    have H : Ev none e 45 39 [some (.ref 229), some (.int i), some (.int c), some (.int k)] [.int (zI M 229 4)] M v M' 0 0 := Ev.back 1 (gs_3 rfl rfl (gf_i hS.1 qa_229 qi_46_4 rfl)) H
    have H : Ev none e 45 (if c < (zI M 229 4) then 47 else 43) [some (.ref 229), some (.int i), some (.int c), some (.int k)] [] M v M' 0 0 := Ev.back 2 (fun n => rfl) H
    by_cases h2 : c < (zI M 229 4)
    · rw [if_pos h2] at H
      have H : Ev none e 45 48 [some (.ref 229), some (.int i), some (.int c), some (.int k)] [.int 0] M v M' 0 0 := Ev.back 1 (fun n => rfl) H
      obtain ⟨z1, z2⟩ := Ev.retz rfl rfl H
      exact Or.inl ⟨h1, h2, z1, z2⟩
    · rw [if_neg h2] at H
      have H : Ev none e 45 48 [some (.ref 229), some (.int i), some (.int c), some (.int k)] [.int 1] M v M' 0 0 := Ev.back 2 (fun n => rfl) H
      obtain ⟨z1, z2⟩ := Ev.retz rfl rfl H
      exact Or.inr (Or.inl ⟨h1, h2, z1, z2⟩)
  · rw [if_neg h1] at H
    have H : Ev none e 45 (if 5 ≤ k then 35 else 17) [some (.ref 229), some (.int i), some (.int c), some (.int k)] [] M v M' 0 0 := Ev.back 3 (fun n => rfl) H
    by_cases h3 : 5 ≤ k
    · rw [if_pos h3] at H
      have H : Ev none e 45 36 [some (.ref 229), some (.int i), some (.int c), some (.int k)] [.ref 229] M v M' 0 0 := Ev.back 1 (fun n => rfl) H
      have H : Ev none e 45 39 [some (.ref 229), some (.int i), some (.int c), some (.int k)] [.int (zI M 229 4)] M v M' 0 0 := Ev.back 1 (gs_3 rfl rfl (gf_i hS.1 qa_229 qi_46_4 rfl)) H
      have H : Ev none e 45 (if c < (zI M 229 4) then 47 else 43) [some (.ref 229), some (.int i), some (.int c), some (.int k)] [] M v M' 0 0 := Ev.back 2 (fun n => rfl) H
      by_cases h4 : c < (zI M 229 4)
      · rw [if_pos h4] at H
        have H : Ev none e 45 48 [some (.ref 229), some (.int i), some (.int c), some (.int k)] [.int 0] M v M' 0 0 := Ev.back 1 (fun n => rfl) H
        obtain ⟨z1, z2⟩ := Ev.retz rfl rfl H
        exact Or.inr (Or.inr (Or.inl ⟨h1, h3, h4, z1, z2⟩))
      · rw [if_neg h4] at H
        have H : Ev none e 45 48 [some (.ref 229), some (.int i), some (.int c), some (.int k)] [.int 1] M v M' 0 0 := Ev.back 2 (fun n => rfl) H
        obtain ⟨z1, z2⟩ := Ev.retz rfl rfl H
        exact Or.inr (Or.inr (Or.inr (Or.inl ⟨h1, h3, h4, z1, z2⟩)))
    · rw [if_neg h3] at H
      have H : Ev none e 45 21 [some (.ref 229), some (.int i), some (.int c), some (.int k)] [.ref 229, .int 9, .int c] M v M' 0 0 := Ev.back 3 (fun n => rfl) H
      have H : Ev none e 45 24 [some (.ref 229), some (.int i), some (.int c), some (.int k)] [.ref 236, .int 9, .int c] M v M' 0 0 := Ev.back 1 (gs_3 rfl rfl (gf_u hS.1 qa_229 qr_46_1 qu_49 rfl)) H
      have H : Ev none e 45 25 [some (.ref 229), some (.int i), some (.int c), some (.int k)] [.int k, .ref 236, .int 9, .int c] M v M' 0 0 := Ev.back 1 (fun n => rfl) H
      obtain ⟨b5, H⟩ := Ev.ial rfl rfl hS.1 qa_236 qw_49 H
      have H : Ev none e 45 26 [some (.ref 229), some (.int i), some (.int c), some (.int k)] [.int (rI M 236 k), .int 9, .int c] M v M' 0 0 := H
      have H : Ev none e 45 4 [some (.ref 229), some (.int i), some (.int (c + (9 * (rI M 236 k)))), some (.int (k + 1))] [] M v M' 0 0 := Ev.back 5 (fun n => rfl) H
      have HF := H
      exact Or.inr (Or.inr (Or.inr (Or.inr (⟨h1, h3, b5, HF⟩))))
theorem tak_0 {e : Nat} {M M' : Mem} {v : Option Value} {i t : Int32} (hS : SQ M) (H : Ev none e 46 0 [some (.ref 229), some (.int i), some (.int t), none, none, none] [] M v M' 0 0) : Ev none e 46 5 [some (.ref 229), some (.int i), some (.int t), some (.int 1), some (.int 0), none] [] M v M' 0 0 := by
  have H : Ev none e 46 5 [some (.ref 229), some (.int i), some (.int t), some (.int 1), some (.int 0), none] [] M v M' 0 0 := Ev.back 4 (fun n => rfl) H
  have HF := H
  exact HF
theorem tak_5 {e : Nat} {M M' : Mem} {v : Option Value} {i t b n : Int32} {o5 : Option Value} (hS : SQ M) (H : Ev none e 46 5 [some (.ref 229), some (.int i), some (.int t), some (.int b), some (.int n), o5] [] M v M' 0 0) : ((rI M 236 i) ≤ n ∧ (0 ≤ i.toInt ∧ i.toInt < 5) ∧ (0 ≤ i.toInt ∧ i.toInt < 5) ∧ v = some (.int b) ∧ M' = (wF M 229 4 ((zI M 229 4) - (t * (rI M 236 i))))) ∨ (¬ ((rI M 236 i) ≤ n) ∧ b = 0 ∧ (0 ≤ i.toInt ∧ i.toInt < 5) ∧ (0 ≤ i.toInt ∧ i.toInt < 5) ∧ (0 ≤ n.toInt ∧ n.toInt < 200) ∧ (0 ≤ (rI M (oI M 230 i) n).toInt ∧ (rI M (oI M 230 i) n).toInt < 256) ∧ (0 ≤ (rI M (oI M 230 i) n).toInt ∧ (rI M (oI M 230 i) n).toInt < 256) ∧ Ev none e 46 5 [some (.ref 229), some (.int i), some (.int t), some (.int 0), some (.int (n + 1)), some (.int (rI M (oI M 230 i) n))] [] (wI M 237 ((rI M (oI M 230 i) n).toNatClampNeg) ((rI M 237 (rI M (oI M 230 i) n)) - t)) v M' 0 0) ∨ (¬ ((rI M 236 i) ≤ n) ∧ ¬ (b = 0) ∧ (rI (wI M 237 ((rI M (oI M 230 i) n).toNatClampNeg) ((rI M 237 (rI M (oI M 230 i) n)) - t)) 237 (rI M (oI M 230 i) n)) < 0 ∧ (0 ≤ i.toInt ∧ i.toInt < 5) ∧ (0 ≤ i.toInt ∧ i.toInt < 5) ∧ (0 ≤ n.toInt ∧ n.toInt < 200) ∧ (0 ≤ (rI M (oI M 230 i) n).toInt ∧ (rI M (oI M 230 i) n).toInt < 256) ∧ (0 ≤ (rI M (oI M 230 i) n).toInt ∧ (rI M (oI M 230 i) n).toInt < 256) ∧ (0 ≤ (rI M (oI M 230 i) n).toInt ∧ (rI M (oI M 230 i) n).toInt < 256) ∧ Ev none e 46 5 [some (.ref 229), some (.int i), some (.int t), some (.int 0), some (.int (n + 1)), some (.int (rI M (oI M 230 i) n))] [] (wI M 237 ((rI M (oI M 230 i) n).toNatClampNeg) ((rI M 237 (rI M (oI M 230 i) n)) - t)) v M' 0 0) ∨ (¬ ((rI M 236 i) ≤ n) ∧ ¬ (b = 0) ∧ ¬ ((rI (wI M 237 ((rI M (oI M 230 i) n).toNatClampNeg) ((rI M 237 (rI M (oI M 230 i) n)) - t)) 237 (rI M (oI M 230 i) n)) < 0) ∧ (0 ≤ i.toInt ∧ i.toInt < 5) ∧ (0 ≤ i.toInt ∧ i.toInt < 5) ∧ (0 ≤ n.toInt ∧ n.toInt < 200) ∧ (0 ≤ (rI M (oI M 230 i) n).toInt ∧ (rI M (oI M 230 i) n).toInt < 256) ∧ (0 ≤ (rI M (oI M 230 i) n).toInt ∧ (rI M (oI M 230 i) n).toInt < 256) ∧ (0 ≤ (rI M (oI M 230 i) n).toInt ∧ (rI M (oI M 230 i) n).toInt < 256) ∧ Ev none e 46 5 [some (.ref 229), some (.int i), some (.int t), some (.int 1), some (.int (n + 1)), some (.int (rI M (oI M 230 i) n))] [] (wI M 237 ((rI M (oI M 230 i) n).toNatClampNeg) ((rI M 237 (rI M (oI M 230 i) n)) - t)) v M' 0 0) := by
  have H : Ev none e 46 8 [some (.ref 229), some (.int i), some (.int t), some (.int b), some (.int n), o5] [.ref 229, .int n] M v M' 0 0 := Ev.back 2 (fun n => rfl) H
  have H : Ev none e 46 11 [some (.ref 229), some (.int i), some (.int t), some (.int b), some (.int n), o5] [.ref 236, .int n] M v M' 0 0 := Ev.back 1 (gs_3 rfl rfl (gf_u hS.1 qa_229 qr_46_1 qu_49 rfl)) H
  have H : Ev none e 46 12 [some (.ref 229), some (.int i), some (.int t), some (.int b), some (.int n), o5] [.int i, .ref 236, .int n] M v M' 0 0 := Ev.back 1 (fun n => rfl) H
  obtain ⟨b1, H⟩ := Ev.ial rfl rfl hS.1 qa_236 qw_49 H
  have H : Ev none e 46 13 [some (.ref 229), some (.int i), some (.int t), some (.int b), some (.int n), o5] [.int (rI M 236 i), .int n] M v M' 0 0 := H
  have H : Ev none e 46 (if (rI M 236 i) ≤ n then 64 else 16) [some (.ref 229), some (.int i), some (.int t), some (.int b), some (.int n), o5] [] M v M' 0 0 := Ev.back 1 (fun n => rfl) H
  by_cases h2 : (rI M 236 i) ≤ n
  · rw [if_pos h2] at H
    have H : Ev none e 46 66 [some (.ref 229), some (.int i), some (.int t), some (.int b), some (.int n), o5] [.ref 229, .ref 229] M v M' 0 0 := Ev.back 2 (fun n => rfl) H
    have H : Ev none e 46 69 [some (.ref 229), some (.int i), some (.int t), some (.int b), some (.int n), o5] [.int (zI M 229 4), .ref 229] M v M' 0 0 := Ev.back 1 (gs_3 rfl rfl (gf_i hS.1 qa_229 qi_46_4 rfl)) H
    have H : Ev none e 46 71 [some (.ref 229), some (.int i), some (.int t), some (.int b), some (.int n), o5] [.ref 229, .int t, .int (zI M 229 4), .ref 229] M v M' 0 0 := Ev.back 2 (fun n => rfl) H
    have H : Ev none e 46 74 [some (.ref 229), some (.int i), some (.int t), some (.int b), some (.int n), o5] [.ref 236, .int t, .int (zI M 229 4), .ref 229] M v M' 0 0 := Ev.back 1 (gs_3 rfl rfl (gf_u hS.1 qa_229 qr_46_1 qu_49 rfl)) H
    have H : Ev none e 46 75 [some (.ref 229), some (.int i), some (.int t), some (.int b), some (.int n), o5] [.int i, .ref 236, .int t, .int (zI M 229 4), .ref 229] M v M' 0 0 := Ev.back 1 (fun n => rfl) H
    obtain ⟨b3, H⟩ := Ev.ial rfl rfl hS.1 qa_236 qw_49 H
    have H : Ev none e 46 76 [some (.ref 229), some (.int i), some (.int t), some (.int b), some (.int n), o5] [.int (rI M 236 i), .int t, .int (zI M 229 4), .ref 229] M v M' 0 0 := H
    have H : Ev none e 46 78 [some (.ref 229), some (.int i), some (.int t), some (.int b), some (.int n), o5] [.int ((zI M 229 4) - (t * (rI M 236 i))), .ref 229] M v M' 0 0 := Ev.back 2 (fun n => rfl) H
    obtain ⟨N5, eN5⟩ : ∃ N, N = (wF M 229 4 ((zI M 229 4) - (t * (rI M 236 i)))) := ⟨_, rfl⟩
    have hN5 : SQ N5 := by rw [eN5]; exact hS.kf
    have H : Ev none e 46 81 [some (.ref 229), some (.int i), some (.int t), some (.int b), some (.int n), o5] [] N5 v M' 0 0 := by rw [eN5]; exact Ev.pfi rfl rfl rfl hS.1 qa_229 qi_46_4 H
    have H : Ev none e 46 82 [some (.ref 229), some (.int i), some (.int t), some (.int b), some (.int n), o5] [.int b] N5 v M' 0 0 := Ev.back 1 (fun n => rfl) H
    obtain ⟨z1, z2⟩ := Ev.retz rfl rfl H
    subst eN5
    exact Or.inl ⟨h2, b1, b3, z1, z2⟩
  · rw [if_neg h2] at H
    have H : Ev none e 46 17 [some (.ref 229), some (.int i), some (.int t), some (.int b), some (.int n), o5] [.ref 229] M v M' 0 0 := Ev.back 1 (fun n => rfl) H
    have H : Ev none e 46 20 [some (.ref 229), some (.int i), some (.int t), some (.int b), some (.int n), o5] [.ref 230] M v M' 0 0 := Ev.back 1 (gs_3 rfl rfl (gf_u hS.1 qa_229 qr_46_0 qu_47 rfl)) H
    have H : Ev none e 46 21 [some (.ref 229), some (.int i), some (.int t), some (.int b), some (.int n), o5] [.int i, .ref 230] M v M' 0 0 := Ev.back 1 (fun n => rfl) H
    obtain ⟨b6, H⟩ := Ev.aal rfl rfl hS.1 qa_230 qz_47 H
    have H : Ev none e 46 22 [some (.ref 229), some (.int i), some (.int t), some (.int b), some (.int n), o5] [.ref (oI M 230 i)] M v M' 0 0 := H
    have H : Ev none e 46 24 [some (.ref 229), some (.int i), some (.int t), some (.int b), some (.int n), o5] [.int n, .ref (oI M 230 i)] M v M' 0 0 := Ev.back 1 (fun n => rfl) H
    obtain ⟨b7, H⟩ := Ev.ial rfl rfl hS.1 b6.2 qw_48 H
    have H : Ev none e 46 25 [some (.ref 229), some (.int i), some (.int t), some (.int b), some (.int n), o5] [.int (rI M (oI M 230 i) n)] M v M' 0 0 := H
    have H : Ev none e 46 28 [some (.ref 229), some (.int i), some (.int t), some (.int b), some (.int n), some (.int (rI M (oI M 230 i) n))] [.ref 229] M v M' 0 0 := Ev.back 2 (fun n => rfl) H
    have H : Ev none e 46 31 [some (.ref 229), some (.int i), some (.int t), some (.int b), some (.int n), some (.int (rI M (oI M 230 i) n))] [.ref 237] M v M' 0 0 := Ev.back 1 (gs_3 rfl rfl (gf_u hS.1 qa_229 qr_46_3 qu_50 rfl)) H
    have H : Ev none e 46 34 [some (.ref 229), some (.int i), some (.int t), some (.int b), some (.int n), some (.int (rI M (oI M 230 i) n))] [.int (rI M (oI M 230 i) n), .ref 237, .int (rI M (oI M 230 i) n), .ref 237] M v M' 0 0 := Ev.back 2 (fun n => rfl) H
    obtain ⟨b8, H⟩ := Ev.ial rfl rfl hS.1 qa_237 qw_50 H
    have H : Ev none e 46 35 [some (.ref 229), some (.int i), some (.int t), some (.int b), some (.int n), some (.int (rI M (oI M 230 i) n))] [.int (rI M 237 (rI M (oI M 230 i) n)), .int (rI M (oI M 230 i) n), .ref 237] M v M' 0 0 := H
    have H : Ev none e 46 37 [some (.ref 229), some (.int i), some (.int t), some (.int b), some (.int n), some (.int (rI M (oI M 230 i) n))] [.int ((rI M 237 (rI M (oI M 230 i) n)) - t), .int (rI M (oI M 230 i) n), .ref 237] M v M' 0 0 := Ev.back 2 (fun n => rfl) H
    obtain ⟨b9, H⟩ := Ev.ias rfl rfl hS.1 qa_237 qw_50 H
    obtain ⟨N10, eN10⟩ : ∃ N, N = (wI M 237 ((rI M (oI M 230 i) n).toNatClampNeg) ((rI M 237 (rI M (oI M 230 i) n)) - t)) := ⟨_, rfl⟩
    have hN10 : SQ N10 := by rw [eN10]; exact hS.ki
    have H : Ev none e 46 38 [some (.ref 229), some (.int i), some (.int t), some (.int b), some (.int n), some (.int (rI M (oI M 230 i) n))] [] N10 v M' 0 0 := by rw [eN10]; exact H
    have H : Ev none e 46 (if b = 0 then 56 else 42) [some (.ref 229), some (.int i), some (.int t), some (.int b), some (.int n), some (.int (rI M (oI M 230 i) n))] [] N10 v M' 0 0 := Ev.back 2 (fun n => rfl) H
    by_cases h11 : b = 0
    · rw [if_pos h11] at H
      have H : Ev none e 46 5 [some (.ref 229), some (.int i), some (.int t), some (.int 0), some (.int (n + 1)), some (.int (rI M (oI M 230 i) n))] [] N10 v M' 0 0 := Ev.back 4 (fun n => rfl) H
      have HF := H
      subst eN10
      exact Or.inr (Or.inl ⟨h2, h11, b1, b6.1, b7, b8, b9, HF⟩)
    · rw [if_neg h11] at H
      have H : Ev none e 46 43 [some (.ref 229), some (.int i), some (.int t), some (.int b), some (.int n), some (.int (rI M (oI M 230 i) n))] [.ref 229] N10 v M' 0 0 := Ev.back 1 (fun n => rfl) H
      have H : Ev none e 46 46 [some (.ref 229), some (.int i), some (.int t), some (.int b), some (.int n), some (.int (rI M (oI M 230 i) n))] [.ref 237] N10 v M' 0 0 := Ev.back 1 (gs_3 rfl rfl (gf_u hN10.1 qa_229 qr_46_3 qu_50 rfl)) H
      have H : Ev none e 46 48 [some (.ref 229), some (.int i), some (.int t), some (.int b), some (.int n), some (.int (rI M (oI M 230 i) n))] [.int (rI M (oI M 230 i) n), .ref 237] N10 v M' 0 0 := Ev.back 1 (fun n => rfl) H
      obtain ⟨b12, H⟩ := Ev.ial rfl rfl hN10.1 qa_237 qw_50 H
      have H : Ev none e 46 49 [some (.ref 229), some (.int i), some (.int t), some (.int b), some (.int n), some (.int (rI M (oI M 230 i) n))] [.int (rI N10 237 (rI M (oI M 230 i) n))] N10 v M' 0 0 := H
      have H : Ev none e 46 (if (rI N10 237 (rI M (oI M 230 i) n)) < 0 then 56 else 52) [some (.ref 229), some (.int i), some (.int t), some (.int b), some (.int n), some (.int (rI M (oI M 230 i) n))] [] N10 v M' 0 0 := Ev.back 1 (fun n => rfl) H
      by_cases h13 : (rI N10 237 (rI M (oI M 230 i) n)) < 0
      · rw [if_pos h13] at H
        have H : Ev none e 46 5 [some (.ref 229), some (.int i), some (.int t), some (.int 0), some (.int (n + 1)), some (.int (rI M (oI M 230 i) n))] [] N10 v M' 0 0 := Ev.back 4 (fun n => rfl) H
        have HF := H
        subst eN10
        exact Or.inr (Or.inr (Or.inl ⟨h2, h11, h13, b1, b6.1, b7, b8, b9, b12, HF⟩))
      · rw [if_neg h13] at H
        have H : Ev none e 46 5 [some (.ref 229), some (.int i), some (.int t), some (.int 1), some (.int (n + 1)), some (.int (rI M (oI M 230 i) n))] [] N10 v M' 0 0 := Ev.back 5 (fun n => rfl) H
        have HF := H
        subst eN10
        exact Or.inr (Or.inr (Or.inr (⟨h2, h11, h13, b1, b6.1, b7, b8, b9, b12, HF⟩)))
theorem not_0 {e : Nat} {M M' : Mem} {v : Option Value} (hS : SQ M) (H : Ev none e 47 0 [some (.ref 229), none] [] M v M' 0 0) : Ev none e 47 2 [some (.ref 229), some (.int 0)] [] M v M' 0 0 := by
  have H : Ev none e 47 2 [some (.ref 229), some (.int 0)] [] M v M' 0 0 := Ev.back 2 (fun n => rfl) H
  have HF := H
  exact HF
theorem not_2 {e : Nat} {M M' : Mem} {v : Option Value} {i : Int32} (hS : SQ M) (H : Ev none e 47 2 [some (.ref 229), some (.int i)] [] M v M' 0 0) : ((zI M 229 2) ≤ i ∧ v = some (.int 1) ∧ M' = M) ∨ (¬ ((zI M 229 2) ≤ i) ∧ 5 ≤ i ∧ v = some (.int 1) ∧ M' = M) ∨ (¬ ((zI M 229 2) ≤ i) ∧ ¬ (5 ≤ i) ∧ (0 ≤ i.toInt ∧ i.toInt < 5) ∧ (0 ≤ i.toInt ∧ i.toInt < 5) ∧ (0 ≤ i.toInt ∧ i.toInt < 5) ∧ (0 ≤ i.toInt ∧ i.toInt < 5) ∧ (0 ≤ i.toInt ∧ i.toInt < 5) ∧ (0 ≤ i.toInt ∧ i.toInt < 5) ∧ Ev none e 47 2 [some (.ref 229), some (.int (i + 1))] [] (wI (wI M 239 i.toNatClampNeg (if (rI M 238 i) < (rI M 239 i) then (rI M 238 i) else (rI M 239 i))) 240 i.toNatClampNeg (if (rI M 240 i) < (rI M 238 i) then (rI M 238 i) else (rI M 240 i))) v M' 0 0) := by
  have H : Ev none e 47 4 [some (.ref 229), some (.int i)] [.ref 229, .int i] M v M' 0 0 := Ev.back 2 (fun n => rfl) H
  have H : Ev none e 47 7 [some (.ref 229), some (.int i)] [.int (zI M 229 2), .int i] M v M' 0 0 := Ev.back 1 (gs_3 rfl rfl (gf_i hS.1 qa_229 qi_46_2 rfl)) H
  have H : Ev none e 47 (if (zI M 229 2) ≤ i then 63 else 10) [some (.ref 229), some (.int i)] [] M v M' 0 0 := Ev.back 1 (fun n => rfl) H
  by_cases h1 : (zI M 229 2) ≤ i
  · rw [if_pos h1] at H
    have H : Ev none e 47 64 [some (.ref 229), some (.int i)] [.int 1] M v M' 0 0 := Ev.back 1 (fun n => rfl) H
    obtain ⟨z1, z2⟩ := Ev.retz rfl rfl H
    exact Or.inl ⟨h1, z1, z2⟩
  · rw [if_neg h1] at H
    have H : Ev none e 47 (if 5 ≤ i then 63 else 15) [some (.ref 229), some (.int i)] [] M v M' 0 0 := Ev.back 3 (fun n => rfl) H
    by_cases h2 : 5 ≤ i
    · rw [if_pos h2] at H
      have H : Ev none e 47 64 [some (.ref 229), some (.int i)] [.int 1] M v M' 0 0 := Ev.back 1 (fun n => rfl) H
      obtain ⟨z1, z2⟩ := Ev.retz rfl rfl H
      exact Or.inr (Or.inl ⟨h1, h2, z1, z2⟩)
    · rw [if_neg h2] at H
      have H : Ev none e 47 16 [some (.ref 229), some (.int i)] [.ref 229] M v M' 0 0 := Ev.back 1 (fun n => rfl) H
      have H : Ev none e 47 19 [some (.ref 229), some (.int i)] [.ref 239] M v M' 0 0 := Ev.back 1 (gs_3 rfl rfl (gf_u hS.1 qa_229 qr_46_6 qu_52 rfl)) H
      have H : Ev none e 47 21 [some (.ref 229), some (.int i)] [.ref 229, .int i, .ref 239] M v M' 0 0 := Ev.back 2 (fun n => rfl) H
      have H : Ev none e 47 24 [some (.ref 229), some (.int i)] [.ref 239, .int i, .ref 239] M v M' 0 0 := Ev.back 1 (gs_3 rfl rfl (gf_u hS.1 qa_229 qr_46_6 qu_52 rfl)) H
      have H : Ev none e 47 25 [some (.ref 229), some (.int i)] [.int i, .ref 239, .int i, .ref 239] M v M' 0 0 := Ev.back 1 (fun n => rfl) H
      obtain ⟨b3, H⟩ := Ev.ial rfl rfl hS.1 qa_239 qw_52 H
      have H : Ev none e 47 26 [some (.ref 229), some (.int i)] [.int (rI M 239 i), .int i, .ref 239] M v M' 0 0 := H
      have H : Ev none e 47 27 [some (.ref 229), some (.int i)] [.ref 229, .int (rI M 239 i), .int i, .ref 239] M v M' 0 0 := Ev.back 1 (fun n => rfl) H
      have H : Ev none e 47 30 [some (.ref 229), some (.int i)] [.ref 238, .int (rI M 239 i), .int i, .ref 239] M v M' 0 0 := Ev.back 1 (gs_3 rfl rfl (gf_u hS.1 qa_229 qr_46_5 qu_51 rfl)) H
      have H : Ev none e 47 31 [some (.ref 229), some (.int i)] [.int i, .ref 238, .int (rI M 239 i), .int i, .ref 239] M v M' 0 0 := Ev.back 1 (fun n => rfl) H
      obtain ⟨b4, H⟩ := Ev.ial rfl rfl hS.1 qa_238 qw_51 H
      have H : Ev none e 47 32 [some (.ref 229), some (.int i)] [.int (rI M 238 i), .int (rI M 239 i), .int i, .ref 239] M v M' 0 0 := H
      obtain ⟨e1, rfl⟩ := Ev.dpos rfl rfl H
      have H : Ev none (e1 + 1) 47 35 [some (.ref 229), some (.int i)] [.int (if (rI M 238 i) < (rI M 239 i) then (rI M 238 i) else (rI M 239 i)), .int i, .ref 239] M v M' 0 0 := Ev.back 1 (fun n => rfl) H
      obtain ⟨b5, H⟩ := Ev.ias rfl rfl hS.1 qa_239 qw_52 H
      obtain ⟨N6, eN6⟩ : ∃ N, N = (wI M 239 i.toNatClampNeg (if (rI M 238 i) < (rI M 239 i) then (rI M 238 i) else (rI M 239 i))) := ⟨_, rfl⟩
      have hN6 : SQ N6 := by rw [eN6]; exact hS.ki
      have H : Ev none (e1 + 1) 47 36 [some (.ref 229), some (.int i)] [] N6 v M' 0 0 := by rw [eN6]; exact H
      have H : Ev none (e1 + 1) 47 37 [some (.ref 229), some (.int i)] [.ref 229] N6 v M' 0 0 := Ev.back 1 (fun n => rfl) H
      have H : Ev none (e1 + 1) 47 40 [some (.ref 229), some (.int i)] [.ref 240] N6 v M' 0 0 := Ev.back 1 (gs_3 rfl rfl (gf_u hN6.1 qa_229 qr_46_7 qu_53 rfl)) H
      have H : Ev none (e1 + 1) 47 42 [some (.ref 229), some (.int i)] [.ref 229, .int i, .ref 240] N6 v M' 0 0 := Ev.back 2 (fun n => rfl) H
      have H : Ev none (e1 + 1) 47 45 [some (.ref 229), some (.int i)] [.ref 240, .int i, .ref 240] N6 v M' 0 0 := Ev.back 1 (gs_3 rfl rfl (gf_u hN6.1 qa_229 qr_46_7 qu_53 rfl)) H
      have H : Ev none (e1 + 1) 47 46 [some (.ref 229), some (.int i)] [.int i, .ref 240, .int i, .ref 240] N6 v M' 0 0 := Ev.back 1 (fun n => rfl) H
      obtain ⟨b7, H⟩ := Ev.ial rfl rfl hN6.1 qa_240 qw_53 H
      have H : Ev none (e1 + 1) 47 47 [some (.ref 229), some (.int i)] [.int (rI N6 240 i), .int i, .ref 240] N6 v M' 0 0 := H
      rw [show rI N6 240 i = rI M 240 i from by rw [eN6]; exact rN_wI_ne (fun q => absurd q.1 (by decide))] at H
      have H : Ev none (e1 + 1) 47 48 [some (.ref 229), some (.int i)] [.ref 229, .int (rI M 240 i), .int i, .ref 240] N6 v M' 0 0 := Ev.back 1 (fun n => rfl) H
      have H : Ev none (e1 + 1) 47 51 [some (.ref 229), some (.int i)] [.ref 238, .int (rI M 240 i), .int i, .ref 240] N6 v M' 0 0 := Ev.back 1 (gs_3 rfl rfl (gf_u hN6.1 qa_229 qr_46_5 qu_51 rfl)) H
      have H : Ev none (e1 + 1) 47 52 [some (.ref 229), some (.int i)] [.int i, .ref 238, .int (rI M 240 i), .int i, .ref 240] N6 v M' 0 0 := Ev.back 1 (fun n => rfl) H
      obtain ⟨b8, H⟩ := Ev.ial rfl rfl hN6.1 qa_238 qw_51 H
      have H : Ev none (e1 + 1) 47 53 [some (.ref 229), some (.int i)] [.int (rI N6 238 i), .int (rI M 240 i), .int i, .ref 240] N6 v M' 0 0 := H
      rw [show rI N6 238 i = rI M 238 i from by rw [eN6]; exact rN_wI_ne (fun q => absurd q.1 (by decide))] at H
      have H : Ev none (e1 + 1) 47 56 [some (.ref 229), some (.int i)] [.int (if (rI M 240 i) < (rI M 238 i) then (rI M 238 i) else (rI M 240 i)), .int i, .ref 240] N6 v M' 0 0 := Ev.back 1 (fun n => rfl) H
      obtain ⟨b9, H⟩ := Ev.ias rfl rfl hN6.1 qa_240 qw_53 H
      obtain ⟨N10, eN10⟩ : ∃ N, N = (wI N6 240 i.toNatClampNeg (if (rI M 240 i) < (rI M 238 i) then (rI M 238 i) else (rI M 240 i))) := ⟨_, rfl⟩
      have hN10 : SQ N10 := by rw [eN10]; exact hN6.ki
      have H : Ev none (e1 + 1) 47 57 [some (.ref 229), some (.int i)] [] N10 v M' 0 0 := by rw [eN10]; exact H
      have H : Ev none (e1 + 1) 47 2 [some (.ref 229), some (.int (i + 1))] [] N10 v M' 0 0 := Ev.back 2 (fun n => rfl) H
      have HF := H
      subst eN6 eN10
      exact Or.inr (Or.inr (⟨h1, h2, b3, b4, b5, b7, b8, b9, HF⟩))
theorem rds_0 {e : Nat} {M M' : Mem} {v : Option Value} {i w : Int32} (hS : SQ M) (H : Ev none e 119 0 [some (.ref 0), some (.int i), some (.int w)] [] M v M' 0 0) : ((G_126 M i 0 ((zI M 229 8) - 1)) = 0 ∧ v = some (.int (-1)) ∧ M' = M) ∨ (¬ ((G_126 M i 0 ((zI M 229 8) - 1)) = 0) ∧ w = 0 ∧ (0 ≤ i.toInt ∧ i.toInt < 5) ∧ v = some (.int (rI M 241 i)) ∧ M' = M) ∨ (¬ ((G_126 M i 0 ((zI M 229 8) - 1)) = 0) ∧ ¬ (w = 0) ∧ w = 1 ∧ (0 ≤ i.toInt ∧ i.toInt < 5) ∧ v = some (.int (rI M 242 i)) ∧ M' = M) ∨ (¬ ((G_126 M i 0 ((zI M 229 8) - 1)) = 0) ∧ ¬ (w = 0) ∧ ¬ (w = 1) ∧ v = some (.int (-1)) ∧ M' = M) := by
  have H : Ev none e 119 3 [some (.ref 0), some (.int i), some (.int w)] [.ref 0, .int 0, .int i] M v M' 0 0 := Ev.back 3 (fun n => rfl) H
  have H : Ev none e 119 6 [some (.ref 0), some (.int i), some (.int w)] [.ref 229, .int 0, .int i] M v M' 0 0 := Ev.back 1 (gs_3 rfl rfl (gf_u hS.1 qa_0 qr_0_5 qu_46 rfl)) H
  have H : Ev none e 119 9 [some (.ref 0), some (.int i), some (.int w)] [.int (zI M 229 8), .int 0, .int i] M v M' 0 0 := Ev.back 1 (gs_3 rfl rfl (gf_i hS.1 qa_229 qi_46_8 rfl)) H
  have H : Ev none e 119 11 [some (.ref 0), some (.int i), some (.int w)] [.int ((zI M 229 8) - 1), .int 0, .int i] M v M' 0 0 := Ev.back 2 (fun n => rfl) H
  obtain ⟨e1, rfl⟩ := Ev.dpos rfl rfl H
  obtain ⟨vK1, MK1, K1, H⟩ := Ev.callb (fun n => rfl) H
  obtain ⟨pK1, qK1⟩ := g_126 hS K1
  rw [pK1, qK1] at H
  have H : Ev none (e1 + 1) 119 14 [some (.ref 0), some (.int i), some (.int w)] [.int (G_126 M i 0 ((zI M 229 8) - 1))] M v M' 0 0 := H
  have H : Ev none (e1 + 1) 119 (if (G_126 M i 0 ((zI M 229 8) - 1)) = 0 then 17 else 19) [some (.ref 0), some (.int i), some (.int w)] [] M v M' 0 0 := Ev.back 1 (fun n => rfl) H
  by_cases h2 : (G_126 M i 0 ((zI M 229 8) - 1)) = 0
  · rw [if_pos h2] at H
    have H : Ev none (e1 + 1) 119 18 [some (.ref 0), some (.int i), some (.int w)] [.int (-1)] M v M' 0 0 := Ev.back 1 (fun n => rfl) H
    obtain ⟨z1, z2⟩ := Ev.retz rfl rfl H
    exact Or.inl ⟨h2, z1, z2⟩
  · rw [if_neg h2] at H
    have H : Ev none (e1 + 1) 119 20 [some (.ref 0), some (.int i), some (.int w)] [.int w] M v M' 0 0 := Ev.back 1 (fun n => rfl) H
    by_cases h3 : w = 0
    · have H : Ev none (e1 + 1) 119 48 [some (.ref 0), some (.int i), some (.int w)] [] M v M' 0 0 := Ev.back 1 (by rw [h3]; exact fun n => rfl) H
      have H : Ev none (e1 + 1) 119 49 [some (.ref 0), some (.int i), some (.int w)] [.ref 0] M v M' 0 0 := Ev.back 1 (fun n => rfl) H
      have H : Ev none (e1 + 1) 119 52 [some (.ref 0), some (.int i), some (.int w)] [.ref 229] M v M' 0 0 := Ev.back 1 (gs_3 rfl rfl (gf_u hS.1 qa_0 qr_0_5 qu_46 rfl)) H
      have H : Ev none (e1 + 1) 119 55 [some (.ref 0), some (.int i), some (.int w)] [.ref 241] M v M' 0 0 := Ev.back 1 (gs_3 rfl rfl (gf_u hS.1 qa_229 qr_46_9 qu_54 rfl)) H
      have H : Ev none (e1 + 1) 119 56 [some (.ref 0), some (.int i), some (.int w)] [.int i, .ref 241] M v M' 0 0 := Ev.back 1 (fun n => rfl) H
      obtain ⟨b4, H⟩ := Ev.ial rfl rfl hS.1 qa_241 qw_54 H
      have H : Ev none (e1 + 1) 119 57 [some (.ref 0), some (.int i), some (.int w)] [.int (rI M 241 i)] M v M' 0 0 := H
      obtain ⟨z1, z2⟩ := Ev.retz rfl rfl H
      exact Or.inr (Or.inl ⟨h2, h3, b4, z1, z2⟩)
    · by_cases h5 : w = 1
      · have H : Ev none (e1 + 1) 119 58 [some (.ref 0), some (.int i), some (.int w)] [] M v M' 0 0 := Ev.back 1 (by rw [h5]; exact fun n => rfl) H
        have H : Ev none (e1 + 1) 119 59 [some (.ref 0), some (.int i), some (.int w)] [.ref 0] M v M' 0 0 := Ev.back 1 (fun n => rfl) H
        have H : Ev none (e1 + 1) 119 62 [some (.ref 0), some (.int i), some (.int w)] [.ref 229] M v M' 0 0 := Ev.back 1 (gs_3 rfl rfl (gf_u hS.1 qa_0 qr_0_5 qu_46 rfl)) H
        have H : Ev none (e1 + 1) 119 65 [some (.ref 0), some (.int i), some (.int w)] [.ref 242] M v M' 0 0 := Ev.back 1 (gs_3 rfl rfl (gf_u hS.1 qa_229 qr_46_10 qu_55 rfl)) H
        have H : Ev none (e1 + 1) 119 66 [some (.ref 0), some (.int i), some (.int w)] [.int i, .ref 242] M v M' 0 0 := Ev.back 1 (fun n => rfl) H
        obtain ⟨b6, H⟩ := Ev.ial rfl rfl hS.1 qa_242 qw_55 H
        have H : Ev none (e1 + 1) 119 67 [some (.ref 0), some (.int i), some (.int w)] [.int (rI M 242 i)] M v M' 0 0 := H
        obtain ⟨z1, z2⟩ := Ev.retz rfl rfl H
        exact Or.inr (Or.inr (Or.inl ⟨h2, h3, h5, b6, z1, z2⟩))
      · have H : Ev none (e1 + 1) 119 (gT 20 (if (0 : Int) = w.toInt then 28 else if (1 : Int) = w.toInt then 38 else 48)) [some (.ref 0), some (.int i), some (.int w)] [] M v M' 0 0 := Ev.back 1 (fun n => rfl) H
        have qh3 : w.toInt ≠ 0 := fun q => h3 (Int32.toInt_inj.mp q)
        have qh5 : w.toInt ≠ 1 := fun q => h5 (Int32.toInt_inj.mp q)
        rw [if_neg (show ¬ (0 : Int) = w.toInt from fun q => qh3 q.symm)] at H
        rw [if_neg (show ¬ (1 : Int) = w.toInt from fun q => qh5 q.symm)] at H
        have H : Ev none (e1 + 1) 119 68 [some (.ref 0), some (.int i), some (.int w)] [] M v M' 0 0 := H
        have H : Ev none (e1 + 1) 119 69 [some (.ref 0), some (.int i), some (.int w)] [.int (-1)] M v M' 0 0 := Ev.back 1 (fun n => rfl) H
        obtain ⟨z1, z2⟩ := Ev.retz rfl rfl H
        exact Or.inr (Or.inr (Or.inr (⟨h2, h3, h5, z1, z2⟩)))
