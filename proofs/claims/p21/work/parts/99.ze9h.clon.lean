/-! THE CLASS'S longer: pieces (made by gwal11.py) -/
theorem hdr_0 {e : Nat} {M M' : Mem} {v : Option Value} {x y : Int32} (hS : SQ M) (hL7 : fR M 104 7 = 8) (H : Ev none e 19 0 [some (.ref 192), some (.int x), some (.int y), none, none, none, none] [] M v M' 0 0) : Ev none e 19 11 [some (.ref 192), some (.int x), some (.int y), some (.ref 8), some (.int 0), none, none] [] M v M' 0 0 := by
  have H : Ev none e 19 1 [some (.ref 192), some (.int x), some (.int y), none, none, none, none] [.ref 192] M v M' 0 0 := Ev.back 1 (fun n => rfl) H
  have H : Ev none e 19 4 [some (.ref 192), some (.int x), some (.int y), none, none, none, none] [.ref 104] M v M' 0 0 := Ev.back 1 (gs_3 rfl rfl (gf_u hS.1 qa_192 qr_41_4 qu_22 rfl)) H
  have H : Ev none e 19 7 [some (.ref 192), some (.int x), some (.int y), none, none, none, none] [.ref (fR M 104 7)] M v M' 0 0 := Ev.back 1 (gs_3 rfl rfl (gf_r hS.1 qa_104 qr_22_7 rfl)) H
  rw [hL7] at H
  have H : Ev none e 19 11 [some (.ref 192), some (.int x), some (.int y), some (.ref 8), some (.int 0), none, none] [] M v M' 0 0 := Ev.back 3 (fun n => rfl) H
  have HF := H
  exact HF
theorem hdr_11 {e : Nat} {M M' : Mem} {v : Option Value} {x y c : Int32} {o5 o6 : Option Value} (hS : SQ M) (H : Ev none e 19 11 [some (.ref 192), some (.int x), some (.int y), some (.ref 8), some (.int c), o5, o6] [] M v M' 0 0) : ((G_6 M 8) ≤ c ∧ Ev none e 19 102 [some (.ref 192), some (.int x), some (.int y), some (.ref 8), some (.int c), o5, o6] [] M v M' 0 0) ∨ (¬ ((G_6 M 8) ≤ c) ∧ (G_56 M c) = 0 ∧ (rI M (8 + 1) c) = 1 ∧ (0 ≤ c.toInt ∧ c.toInt < 256) ∧ (0 ≤ c.toInt ∧ c.toInt < 256) ∧ Ev none e 19 11 [some (.ref 192), some (.int x), some (.int y), some (.ref 8), some (.int (c + 1)), some (.int (rI M (8 + 1) c)), some (.int 1)] [] (wI M 195 c.toNatClampNeg 0) v M' 0 0) ∨ (¬ ((G_6 M 8) ≤ c) ∧ (G_56 M c) = 0 ∧ ¬ ((rI M (8 + 1) c) = 1) ∧ (rI M (8 + 1) c) = 4 ∧ (0 ≤ c.toInt ∧ c.toInt < 256) ∧ (0 ≤ c.toInt ∧ c.toInt < 256) ∧ Ev none e 19 11 [some (.ref 192), some (.int x), some (.int y), some (.ref 8), some (.int (c + 1)), some (.int (rI M (8 + 1) c)), some (.int 1)] [] (wI M 195 c.toNatClampNeg 0) v M' 0 0) ∨ (¬ ((G_6 M 8) ≤ c) ∧ (G_56 M c) = 0 ∧ ¬ ((rI M (8 + 1) c) = 1) ∧ ¬ ((rI M (8 + 1) c) = 4) ∧ (rI M (8 + 1) c) = 5 ∧ (0 ≤ c.toInt ∧ c.toInt < 256) ∧ (0 ≤ c.toInt ∧ c.toInt < 256) ∧ Ev none e 19 11 [some (.ref 192), some (.int x), some (.int y), some (.ref 8), some (.int (c + 1)), some (.int (rI M (8 + 1) c)), some (.int 1)] [] (wI M 195 c.toNatClampNeg 0) v M' 0 0) ∨ (¬ ((G_6 M 8) ≤ c) ∧ (G_56 M c) = 0 ∧ ¬ ((rI M (8 + 1) c) = 1) ∧ ¬ ((rI M (8 + 1) c) = 4) ∧ ¬ ((rI M (8 + 1) c) = 5) ∧ c = x ∧ (0 ≤ c.toInt ∧ c.toInt < 256) ∧ (0 ≤ c.toInt ∧ c.toInt < 256) ∧ Ev none e 19 11 [some (.ref 192), some (.int x), some (.int y), some (.ref 8), some (.int (c + 1)), some (.int (rI M (8 + 1) c)), some (.int 0)] [] (wI M 195 c.toNatClampNeg 0) v M' 0 0) ∨ (¬ ((G_6 M 8) ≤ c) ∧ (G_56 M c) = 0 ∧ ¬ ((rI M (8 + 1) c) = 1) ∧ ¬ ((rI M (8 + 1) c) = 4) ∧ ¬ ((rI M (8 + 1) c) = 5) ∧ ¬ (c = x) ∧ c = y ∧ (0 ≤ c.toInt ∧ c.toInt < 256) ∧ (0 ≤ c.toInt ∧ c.toInt < 256) ∧ Ev none e 19 11 [some (.ref 192), some (.int x), some (.int y), some (.ref 8), some (.int (c + 1)), some (.int (rI M (8 + 1) c)), some (.int 0)] [] (wI M 195 c.toNatClampNeg 0) v M' 0 0) ∨ (¬ ((G_6 M 8) ≤ c) ∧ (G_56 M c) = 0 ∧ ¬ ((rI M (8 + 1) c) = 1) ∧ ¬ ((rI M (8 + 1) c) = 4) ∧ ¬ ((rI M (8 + 1) c) = 5) ∧ ¬ (c = x) ∧ ¬ (c = y) ∧ (0 ≤ c.toInt ∧ c.toInt < 256) ∧ (0 ≤ c.toInt ∧ c.toInt < 256) ∧ Ev none e 19 11 [some (.ref 192), some (.int x), some (.int y), some (.ref 8), some (.int (c + 1)), some (.int (rI M (8 + 1) c)), some (.int 0)] [] (wI M 195 c.toNatClampNeg 1000000) v M' 0 0) ∨ (¬ ((G_6 M 8) ≤ c) ∧ ¬ ((G_56 M c) = 0) ∧ (0 ≤ c.toInt ∧ c.toInt < 256) ∧ (0 ≤ c.toInt ∧ c.toInt < 256) ∧ Ev none e 19 11 [some (.ref 192), some (.int x), some (.int y), some (.ref 8), some (.int (c + 1)), some (.int (rI M (8 + 1) c)), some (.int 1)] [] (wI M 195 c.toNatClampNeg 0) v M' 0 0) := by
  have H : Ev none e 19 14 [some (.ref 192), some (.int x), some (.int y), some (.ref 8), some (.int c), o5, o6] [.ref 8, .int c] M v M' 0 0 := Ev.back 2 (fun n => rfl) H
  obtain ⟨e1, rfl⟩ := Ev.dpos rfl rfl H
  obtain ⟨vK1, MK1, K1, H⟩ := Ev.callb (fun n_ => gs_7 rfl rfl (show gCal (.invokevirtual 41) 2 (.ref 8 :: [.int c]) M = some (.inr (6, [some (.ref 8)], [.int c])) from by show @cond (Option ((List Value × Mem) ⊕ (Nat × Lo × List Value))) (true && gRecv M (.ref 8) 1 && gRoom [.int c] && true) (some (.inr (6, [some (.ref 8)], [.int c]))) none = _; rw [recv_s hS.1 qa_8 qo_8]; rfl)) H
  obtain ⟨pK1, qK1⟩ := g_6 hS qa_8 K1
  rw [pK1, qK1] at H
  have H : Ev none (e1 + 1) 19 17 [some (.ref 192), some (.int x), some (.int y), some (.ref 8), some (.int c), o5, o6] [.int (G_6 M 8), .int c] M v M' 0 0 := H
  have H : Ev none (e1 + 1) 19 (if (G_6 M 8) ≤ c then 102 else 20) [some (.ref 192), some (.int x), some (.int y), some (.ref 8), some (.int c), o5, o6] [] M v M' 0 0 := Ev.back 1 (fun n => rfl) H
  by_cases h2 : (G_6 M 8) ≤ c
  · rw [if_pos h2] at H
    have HF := H
    exact Or.inl ⟨h2, HF⟩
  · rw [if_neg h2] at H
    have H : Ev none (e1 + 1) 19 21 [some (.ref 192), some (.int x), some (.int y), some (.ref 8), some (.int c), o5, o6] [.ref 8] M v M' 0 0 := Ev.back 1 (fun n => rfl) H
    have H : Ev none (e1 + 1) 19 24 [some (.ref 192), some (.int x), some (.int y), some (.ref 8), some (.int c), o5, o6] [.ref (8 + 1)] M v M' 0 0 := Ev.back 1 (gs_3 rfl rfl (gf_x hS.1 qa_8 qo_8 (fx_l2 hS qa_8) rfl)) H
    have H : Ev none (e1 + 1) 19 26 [some (.ref 192), some (.int x), some (.int y), some (.ref 8), some (.int c), o5, o6] [.int c, .ref (8 + 1)] M v M' 0 0 := Ev.back 1 (fun n => rfl) H
    obtain ⟨b3, H⟩ := Ev.ial rfl rfl hS.1 (fx_h2 qa_8) qw_9 H
    have H : Ev none (e1 + 1) 19 27 [some (.ref 192), some (.int x), some (.int y), some (.ref 8), some (.int c), o5, o6] [.int (rI M (8 + 1) c)] M v M' 0 0 := H
    have H : Ev none (e1 + 1) 19 30 [some (.ref 192), some (.int x), some (.int y), some (.ref 8), some (.int c), some (.int (rI M (8 + 1) c)), o6] [.ref 192] M v M' 0 0 := Ev.back 2 (fun n => rfl) H
    have H : Ev none (e1 + 1) 19 33 [some (.ref 192), some (.int x), some (.int y), some (.ref 8), some (.int c), some (.int (rI M (8 + 1) c)), o6] [.ref 104] M v M' 0 0 := Ev.back 1 (gs_3 rfl rfl (gf_u hS.1 qa_192 qr_41_4 qu_22 rfl)) H
    have H : Ev none (e1 + 1) 19 35 [some (.ref 192), some (.int x), some (.int y), some (.ref 8), some (.int c), some (.int (rI M (8 + 1) c)), o6] [.int c, .ref 104] M v M' 0 0 := Ev.back 1 (fun n => rfl) H
    obtain ⟨vK4, MK4, K4, H⟩ := Ev.callb (fun n_ => gs_7 rfl rfl (show gCal (.invokevirtual 47) 2 (.int c :: .ref 104 :: []) M = some (.inr (56, [some (.ref 104), some (.int c)], [])) from by show @cond (Option ((List Value × Mem) ⊕ (Nat × Lo × List Value))) (true && gRecv M (.ref 104) 7 && gRoom [] && true) (some (.inr (56, [some (.ref 104), some (.int c)], []))) none = _; rw [recv_s hS.1 qa_104 qo_22]; rfl)) H
    obtain ⟨pK4, qK4⟩ := g_56 hS K4
    rw [pK4, qK4] at H
    have H : Ev none (e1 + 1) 19 38 [some (.ref 192), some (.int x), some (.int y), some (.ref 8), some (.int c), some (.int (rI M (8 + 1) c)), o6] [.int (G_56 M c)] M v M' 0 0 := H
    have H : Ev none (e1 + 1) 19 (if (G_56 M c) = 0 then 41 else 59) [some (.ref 192), some (.int x), some (.int y), some (.ref 8), some (.int c), some (.int (rI M (8 + 1) c)), o6] [] M v M' 0 0 := Ev.back 1 (fun n => rfl) H
    by_cases h5 : (G_56 M c) = 0
    · rw [if_pos h5] at H
      have H : Ev none (e1 + 1) 19 (if (rI M (8 + 1) c) = 1 then 59 else 47) [some (.ref 192), some (.int x), some (.int y), some (.ref 8), some (.int c), some (.int (rI M (8 + 1) c)), o6] [] M v M' 0 0 := Ev.back 3 (fun n => rfl) H
      by_cases h6 : (rI M (8 + 1) c) = 1
      · rw [if_pos h6] at H
        have H : Ev none (e1 + 1) 19 67 [some (.ref 192), some (.int x), some (.int y), some (.ref 8), some (.int c), some (.int (rI M (8 + 1) c)), some (.int 1)] [.ref 192] M v M' 0 0 := Ev.back 4 (fun n => rfl) H
        have H : Ev none (e1 + 1) 19 70 [some (.ref 192), some (.int x), some (.int y), some (.ref 8), some (.int c), some (.int (rI M (8 + 1) c)), some (.int 1)] [.ref 195] M v M' 0 0 := Ev.back 1 (gs_3 rfl rfl (gf_u hS.1 qa_192 qr_41_2 qu_44 rfl)) H
        have H : Ev none (e1 + 1) 19 (if 1 = 0 then 77 else 89) [some (.ref 192), some (.int x), some (.int y), some (.ref 8), some (.int c), some (.int (rI M (8 + 1) c)), some (.int 1)] [.int c, .ref 195] M v M' 0 0 := Ev.back 3 (fun n => rfl) H
        rw [if_neg (by decide)] at H
        have H : Ev none (e1 + 1) 19 95 [some (.ref 192), some (.int x), some (.int y), some (.ref 8), some (.int c), some (.int (rI M (8 + 1) c)), some (.int 1)] [.int 0, .int c, .ref 195] M v M' 0 0 := Ev.back 2 (fun n => rfl) H
        obtain ⟨b7, H⟩ := Ev.ias rfl rfl hS.1 qa_195 qw_44 H
        obtain ⟨N8, eN8⟩ : ∃ N, N = (wI M 195 c.toNatClampNeg 0) := ⟨_, rfl⟩
        have hN8 : SQ N8 := by rw [eN8]; exact hS.ki
        have H : Ev none (e1 + 1) 19 96 [some (.ref 192), some (.int x), some (.int y), some (.ref 8), some (.int c), some (.int (rI M (8 + 1) c)), some (.int 1)] [] N8 v M' 0 0 := by rw [eN8]; exact H
        have H : Ev none (e1 + 1) 19 11 [some (.ref 192), some (.int x), some (.int y), some (.ref 8), some (.int (c + 1)), some (.int (rI M (8 + 1) c)), some (.int 1)] [] N8 v M' 0 0 := Ev.back 2 (fun n => rfl) H
        have HF := H
        subst eN8
        exact Or.inr (Or.inl ⟨h2, h5, h6, b3, b7, HF⟩)
      · rw [if_neg h6] at H
        have H : Ev none (e1 + 1) 19 (if (rI M (8 + 1) c) = 4 then 59 else 53) [some (.ref 192), some (.int x), some (.int y), some (.ref 8), some (.int c), some (.int (rI M (8 + 1) c)), o6] [] M v M' 0 0 := Ev.back 3 (fun n => rfl) H
        by_cases h9 : (rI M (8 + 1) c) = 4
        · rw [if_pos h9] at H
          have H : Ev none (e1 + 1) 19 67 [some (.ref 192), some (.int x), some (.int y), some (.ref 8), some (.int c), some (.int (rI M (8 + 1) c)), some (.int 1)] [.ref 192] M v M' 0 0 := Ev.back 4 (fun n => rfl) H
          have H : Ev none (e1 + 1) 19 70 [some (.ref 192), some (.int x), some (.int y), some (.ref 8), some (.int c), some (.int (rI M (8 + 1) c)), some (.int 1)] [.ref 195] M v M' 0 0 := Ev.back 1 (gs_3 rfl rfl (gf_u hS.1 qa_192 qr_41_2 qu_44 rfl)) H
          have H : Ev none (e1 + 1) 19 (if 1 = 0 then 77 else 89) [some (.ref 192), some (.int x), some (.int y), some (.ref 8), some (.int c), some (.int (rI M (8 + 1) c)), some (.int 1)] [.int c, .ref 195] M v M' 0 0 := Ev.back 3 (fun n => rfl) H
          rw [if_neg (by decide)] at H
          have H : Ev none (e1 + 1) 19 95 [some (.ref 192), some (.int x), some (.int y), some (.ref 8), some (.int c), some (.int (rI M (8 + 1) c)), some (.int 1)] [.int 0, .int c, .ref 195] M v M' 0 0 := Ev.back 2 (fun n => rfl) H
          obtain ⟨b10, H⟩ := Ev.ias rfl rfl hS.1 qa_195 qw_44 H
          obtain ⟨N11, eN11⟩ : ∃ N, N = (wI M 195 c.toNatClampNeg 0) := ⟨_, rfl⟩
          have hN11 : SQ N11 := by rw [eN11]; exact hS.ki
          have H : Ev none (e1 + 1) 19 96 [some (.ref 192), some (.int x), some (.int y), some (.ref 8), some (.int c), some (.int (rI M (8 + 1) c)), some (.int 1)] [] N11 v M' 0 0 := by rw [eN11]; exact H
          have H : Ev none (e1 + 1) 19 11 [some (.ref 192), some (.int x), some (.int y), some (.ref 8), some (.int (c + 1)), some (.int (rI M (8 + 1) c)), some (.int 1)] [] N11 v M' 0 0 := Ev.back 2 (fun n => rfl) H
          have HF := H
          subst eN11
          exact Or.inr (Or.inr (Or.inl ⟨h2, h5, h6, h9, b3, b10, HF⟩))
        · rw [if_neg h9] at H
          have H : Ev none (e1 + 1) 19 (if (rI M (8 + 1) c) = 5 then 59 else 63) [some (.ref 192), some (.int x), some (.int y), some (.ref 8), some (.int c), some (.int (rI M (8 + 1) c)), o6] [] M v M' 0 0 := Ev.back 3 (fun n => rfl) H
          by_cases h12 : (rI M (8 + 1) c) = 5
          · rw [if_pos h12] at H
            have H : Ev none (e1 + 1) 19 67 [some (.ref 192), some (.int x), some (.int y), some (.ref 8), some (.int c), some (.int (rI M (8 + 1) c)), some (.int 1)] [.ref 192] M v M' 0 0 := Ev.back 4 (fun n => rfl) H
            have H : Ev none (e1 + 1) 19 70 [some (.ref 192), some (.int x), some (.int y), some (.ref 8), some (.int c), some (.int (rI M (8 + 1) c)), some (.int 1)] [.ref 195] M v M' 0 0 := Ev.back 1 (gs_3 rfl rfl (gf_u hS.1 qa_192 qr_41_2 qu_44 rfl)) H
            have H : Ev none (e1 + 1) 19 (if 1 = 0 then 77 else 89) [some (.ref 192), some (.int x), some (.int y), some (.ref 8), some (.int c), some (.int (rI M (8 + 1) c)), some (.int 1)] [.int c, .ref 195] M v M' 0 0 := Ev.back 3 (fun n => rfl) H
            rw [if_neg (by decide)] at H
            have H : Ev none (e1 + 1) 19 95 [some (.ref 192), some (.int x), some (.int y), some (.ref 8), some (.int c), some (.int (rI M (8 + 1) c)), some (.int 1)] [.int 0, .int c, .ref 195] M v M' 0 0 := Ev.back 2 (fun n => rfl) H
            obtain ⟨b13, H⟩ := Ev.ias rfl rfl hS.1 qa_195 qw_44 H
            obtain ⟨N14, eN14⟩ : ∃ N, N = (wI M 195 c.toNatClampNeg 0) := ⟨_, rfl⟩
            have hN14 : SQ N14 := by rw [eN14]; exact hS.ki
            have H : Ev none (e1 + 1) 19 96 [some (.ref 192), some (.int x), some (.int y), some (.ref 8), some (.int c), some (.int (rI M (8 + 1) c)), some (.int 1)] [] N14 v M' 0 0 := by rw [eN14]; exact H
            have H : Ev none (e1 + 1) 19 11 [some (.ref 192), some (.int x), some (.int y), some (.ref 8), some (.int (c + 1)), some (.int (rI M (8 + 1) c)), some (.int 1)] [] N14 v M' 0 0 := Ev.back 2 (fun n => rfl) H
            have HF := H
            subst eN14
            exact Or.inr (Or.inr (Or.inr (Or.inl ⟨h2, h5, h6, h9, h12, b3, b13, HF⟩)))
          · rw [if_neg h12] at H
            have H : Ev none (e1 + 1) 19 67 [some (.ref 192), some (.int x), some (.int y), some (.ref 8), some (.int c), some (.int (rI M (8 + 1) c)), some (.int 0)] [.ref 192] M v M' 0 0 := Ev.back 3 (fun n => rfl) H
            have H : Ev none (e1 + 1) 19 70 [some (.ref 192), some (.int x), some (.int y), some (.ref 8), some (.int c), some (.int (rI M (8 + 1) c)), some (.int 0)] [.ref 195] M v M' 0 0 := Ev.back 1 (gs_3 rfl rfl (gf_u hS.1 qa_192 qr_41_2 qu_44 rfl)) H
            have H : Ev none (e1 + 1) 19 (if 0 = 0 then 77 else 89) [some (.ref 192), some (.int x), some (.int y), some (.ref 8), some (.int c), some (.int (rI M (8 + 1) c)), some (.int 0)] [.int c, .ref 195] M v M' 0 0 := Ev.back 3 (fun n => rfl) H
            rw [if_pos (by decide)] at H
            have H : Ev none (e1 + 1) 19 (if c = x then 89 else 83) [some (.ref 192), some (.int x), some (.int y), some (.ref 8), some (.int c), some (.int (rI M (8 + 1) c)), some (.int 0)] [.int c, .ref 195] M v M' 0 0 := Ev.back 3 (fun n => rfl) H
            by_cases h15 : c = x
            · rw [if_pos h15] at H
              have H : Ev none (e1 + 1) 19 95 [some (.ref 192), some (.int x), some (.int y), some (.ref 8), some (.int c), some (.int (rI M (8 + 1) c)), some (.int 0)] [.int 0, .int c, .ref 195] M v M' 0 0 := Ev.back 2 (fun n => rfl) H
              obtain ⟨b16, H⟩ := Ev.ias rfl rfl hS.1 qa_195 qw_44 H
              obtain ⟨N17, eN17⟩ : ∃ N, N = (wI M 195 c.toNatClampNeg 0) := ⟨_, rfl⟩
              have hN17 : SQ N17 := by rw [eN17]; exact hS.ki
              have H : Ev none (e1 + 1) 19 96 [some (.ref 192), some (.int x), some (.int y), some (.ref 8), some (.int c), some (.int (rI M (8 + 1) c)), some (.int 0)] [] N17 v M' 0 0 := by rw [eN17]; exact H
              have H : Ev none (e1 + 1) 19 11 [some (.ref 192), some (.int x), some (.int y), some (.ref 8), some (.int (c + 1)), some (.int (rI M (8 + 1) c)), some (.int 0)] [] N17 v M' 0 0 := Ev.back 2 (fun n => rfl) H
              have HF := H
              subst eN17
              exact Or.inr (Or.inr (Or.inr (Or.inr (Or.inl ⟨h2, h5, h6, h9, h12, h15, b3, b16, HF⟩))))
            · rw [if_neg h15] at H
              have H : Ev none (e1 + 1) 19 (if c = y then 89 else 93) [some (.ref 192), some (.int x), some (.int y), some (.ref 8), some (.int c), some (.int (rI M (8 + 1) c)), some (.int 0)] [.int c, .ref 195] M v M' 0 0 := Ev.back 3 (fun n => rfl) H
              by_cases h18 : c = y
              · rw [if_pos h18] at H
                have H : Ev none (e1 + 1) 19 95 [some (.ref 192), some (.int x), some (.int y), some (.ref 8), some (.int c), some (.int (rI M (8 + 1) c)), some (.int 0)] [.int 0, .int c, .ref 195] M v M' 0 0 := Ev.back 2 (fun n => rfl) H
                obtain ⟨b19, H⟩ := Ev.ias rfl rfl hS.1 qa_195 qw_44 H
                obtain ⟨N20, eN20⟩ : ∃ N, N = (wI M 195 c.toNatClampNeg 0) := ⟨_, rfl⟩
                have hN20 : SQ N20 := by rw [eN20]; exact hS.ki
                have H : Ev none (e1 + 1) 19 96 [some (.ref 192), some (.int x), some (.int y), some (.ref 8), some (.int c), some (.int (rI M (8 + 1) c)), some (.int 0)] [] N20 v M' 0 0 := by rw [eN20]; exact H
                have H : Ev none (e1 + 1) 19 11 [some (.ref 192), some (.int x), some (.int y), some (.ref 8), some (.int (c + 1)), some (.int (rI M (8 + 1) c)), some (.int 0)] [] N20 v M' 0 0 := Ev.back 2 (fun n => rfl) H
                have HF := H
                subst eN20
                exact Or.inr (Or.inr (Or.inr (Or.inr (Or.inr (Or.inl ⟨h2, h5, h6, h9, h12, h15, h18, b3, b19, HF⟩)))))
              · rw [if_neg h18] at H
                have H : Ev none (e1 + 1) 19 95 [some (.ref 192), some (.int x), some (.int y), some (.ref 8), some (.int c), some (.int (rI M (8 + 1) c)), some (.int 0)] [.int 1000000, .int c, .ref 195] M v M' 0 0 := Ev.back 1 (fun n => rfl) H
                obtain ⟨b21, H⟩ := Ev.ias rfl rfl hS.1 qa_195 qw_44 H
                obtain ⟨N22, eN22⟩ : ∃ N, N = (wI M 195 c.toNatClampNeg 1000000) := ⟨_, rfl⟩
                have hN22 : SQ N22 := by rw [eN22]; exact hS.ki
                have H : Ev none (e1 + 1) 19 96 [some (.ref 192), some (.int x), some (.int y), some (.ref 8), some (.int c), some (.int (rI M (8 + 1) c)), some (.int 0)] [] N22 v M' 0 0 := by rw [eN22]; exact H
                have H : Ev none (e1 + 1) 19 11 [some (.ref 192), some (.int x), some (.int y), some (.ref 8), some (.int (c + 1)), some (.int (rI M (8 + 1) c)), some (.int 0)] [] N22 v M' 0 0 := Ev.back 2 (fun n => rfl) H
                have HF := H
                subst eN22
                exact Or.inr (Or.inr (Or.inr (Or.inr (Or.inr (Or.inr (Or.inl ⟨h2, h5, h6, h9, h12, h15, h18, b3, b21, HF⟩))))))
    · rw [if_neg h5] at H
      have H : Ev none (e1 + 1) 19 67 [some (.ref 192), some (.int x), some (.int y), some (.ref 8), some (.int c), some (.int (rI M (8 + 1) c)), some (.int 1)] [.ref 192] M v M' 0 0 := Ev.back 4 (fun n => rfl) H
      have H : Ev none (e1 + 1) 19 70 [some (.ref 192), some (.int x), some (.int y), some (.ref 8), some (.int c), some (.int (rI M (8 + 1) c)), some (.int 1)] [.ref 195] M v M' 0 0 := Ev.back 1 (gs_3 rfl rfl (gf_u hS.1 qa_192 qr_41_2 qu_44 rfl)) H
      have H : Ev none (e1 + 1) 19 (if 1 = 0 then 77 else 89) [some (.ref 192), some (.int x), some (.int y), some (.ref 8), some (.int c), some (.int (rI M (8 + 1) c)), some (.int 1)] [.int c, .ref 195] M v M' 0 0 := Ev.back 3 (fun n => rfl) H
      rw [if_neg (by decide)] at H
      have H : Ev none (e1 + 1) 19 95 [some (.ref 192), some (.int x), some (.int y), some (.ref 8), some (.int c), some (.int (rI M (8 + 1) c)), some (.int 1)] [.int 0, .int c, .ref 195] M v M' 0 0 := Ev.back 2 (fun n => rfl) H
      obtain ⟨b23, H⟩ := Ev.ias rfl rfl hS.1 qa_195 qw_44 H
      obtain ⟨N24, eN24⟩ : ∃ N, N = (wI M 195 c.toNatClampNeg 0) := ⟨_, rfl⟩
      have hN24 : SQ N24 := by rw [eN24]; exact hS.ki
      have H : Ev none (e1 + 1) 19 96 [some (.ref 192), some (.int x), some (.int y), some (.ref 8), some (.int c), some (.int (rI M (8 + 1) c)), some (.int 1)] [] N24 v M' 0 0 := by rw [eN24]; exact H
      have H : Ev none (e1 + 1) 19 11 [some (.ref 192), some (.int x), some (.int y), some (.ref 8), some (.int (c + 1)), some (.int (rI M (8 + 1) c)), some (.int 1)] [] N24 v M' 0 0 := Ev.back 2 (fun n => rfl) H
      have HF := H
      subst eN24
      exact Or.inr (Or.inr (Or.inr (Or.inr (Or.inr (Or.inr (Or.inr (⟨h2, h5, b3, b23, HF⟩)))))))
theorem hdr_102 {e : Nat} {M M' : Mem} {v : Option Value} {x y c : Int32} {o5 o6 : Option Value} (hS : SQ M) (H : Ev none e 19 102 [some (.ref 192), some (.int x), some (.int y), some (.ref 8), some (.int c), o5, o6] [] M v M' 0 0) : (∃ e1 v1 M1, e = e1 + 1 ∧ Ev none e1 20 0 [some (.ref 192), some (.int x), some (.int y)] [] M v1 M1 0 0 ∧ Ev none e 19 108 [some (.ref 192), some (.int x), some (.int y), some (.ref 8), some (.int c), o5, o6] (v1.toList ++ []) M1 v M' 0 0) := by
  have H : Ev none e 19 105 [some (.ref 192), some (.int x), some (.int y), some (.ref 8), some (.int c), o5, o6] [.int y, .int x, .ref 192] M v M' 0 0 := Ev.back 3 (fun n => rfl) H
  obtain ⟨e1, rfl⟩ := Ev.dpos rfl rfl H
  obtain ⟨vK1, MK1, K1, H⟩ := Ev.callb (fun n_ => gs_7 rfl rfl (show gCal (.invokevirtual 67) 2 (.int y :: .int x :: .ref 192 :: []) M = some (.inr (20, [some (.ref 192), some (.int x), some (.int y)], [])) from by show @cond (Option ((List Value × Mem) ⊕ (Nat × Lo × List Value))) (true && gRecv M (.ref 192) 2 && gRoom [] && true) (some (.inr (20, [some (.ref 192), some (.int x), some (.int y)], []))) none = _; rw [recv_s hS.1 qa_192 qo_41]; rfl)) H
  have K1 : Ev none e1 20 0 [some (.ref 192), some (.int x), some (.int y)] [] M vK1 MK1 0 0 := K1
  have HF := H
  exact ⟨e1, vK1, MK1, rfl, K1, HF⟩
theorem hdr_108 {e : Nat} {M M' : Mem} {v : Option Value} {x y c r : Int32} {o5 o6 : Option Value} (hS : SQ M) (H : Ev none e 19 108 [some (.ref 192), some (.int x), some (.int y), some (.ref 8), some (.int c), o5, o6] [.int r] M v M' 0 0) : Ev none e 19 113 [some (.ref 192), some (.int x), some (.int y), some (.ref 8), some (.int r), some (.int 0), o6] [] M v M' 0 0 := by
  have H : Ev none e 19 113 [some (.ref 192), some (.int x), some (.int y), some (.ref 8), some (.int r), some (.int 0), o6] [] M v M' 0 0 := Ev.back 3 (fun n => rfl) H
  have HF := H
  exact HF
theorem hdr_113 {e : Nat} {M M' : Mem} {v : Option Value} {x y al c : Int32} {o6 : Option Value} (hS : SQ M) (H : Ev none e 19 113 [some (.ref 192), some (.int x), some (.int y), some (.ref 8), some (.int al), some (.int c), o6] [] M v M' 0 0) : ((G_6 M 8) ≤ c ∧ (∃ e1 v1 M1, e = e1 + 1 ∧ Ev none e1 20 0 [some (.ref 192), some (.int x), some (.int y)] [] M v1 M1 0 0 ∧ Ev none e 19 156 [some (.ref 192), some (.int x), some (.int y), some (.ref 8), some (.int al), some (.int c), o6] (v1.toList ++ []) M1 v M' 0 0)) ∨ (¬ ((G_6 M 8) ≤ c) ∧ (G_7 M 8 c) = 0 ∧ (0 ≤ c.toInt ∧ c.toInt < 256) ∧ Ev none e 19 113 [some (.ref 192), some (.int x), some (.int y), some (.ref 8), some (.int al), some (.int (c + 1)), o6] [] (wI M 195 c.toNatClampNeg 1000000) v M' 0 0) ∨ (¬ ((G_6 M 8) ≤ c) ∧ ¬ ((G_7 M 8 c) = 0) ∧ (0 ≤ c.toInt ∧ c.toInt < 256) ∧ Ev none e 19 113 [some (.ref 192), some (.int x), some (.int y), some (.ref 8), some (.int al), some (.int (c + 1)), o6] [] (wI M 195 c.toNatClampNeg 0) v M' 0 0) := by
  have H : Ev none e 19 116 [some (.ref 192), some (.int x), some (.int y), some (.ref 8), some (.int al), some (.int c), o6] [.ref 8, .int c] M v M' 0 0 := Ev.back 2 (fun n => rfl) H
  obtain ⟨e1, rfl⟩ := Ev.dpos rfl rfl H
  obtain ⟨vK1, MK1, K1, H⟩ := Ev.callb (fun n_ => gs_7 rfl rfl (show gCal (.invokevirtual 41) 2 (.ref 8 :: [.int c]) M = some (.inr (6, [some (.ref 8)], [.int c])) from by show @cond (Option ((List Value × Mem) ⊕ (Nat × Lo × List Value))) (true && gRecv M (.ref 8) 1 && gRoom [.int c] && true) (some (.inr (6, [some (.ref 8)], [.int c]))) none = _; rw [recv_s hS.1 qa_8 qo_8]; rfl)) H
  obtain ⟨pK1, qK1⟩ := g_6 hS qa_8 K1
  rw [pK1, qK1] at H
  have H : Ev none (e1 + 1) 19 119 [some (.ref 192), some (.int x), some (.int y), some (.ref 8), some (.int al), some (.int c), o6] [.int (G_6 M 8), .int c] M v M' 0 0 := H
  have H : Ev none (e1 + 1) 19 (if (G_6 M 8) ≤ c then 150 else 122) [some (.ref 192), some (.int x), some (.int y), some (.ref 8), some (.int al), some (.int c), o6] [] M v M' 0 0 := Ev.back 1 (fun n => rfl) H
  by_cases h2 : (G_6 M 8) ≤ c
  · rw [if_pos h2] at H
    have H : Ev none (e1 + 1) 19 153 [some (.ref 192), some (.int x), some (.int y), some (.ref 8), some (.int al), some (.int c), o6] [.int y, .int x, .ref 192] M v M' 0 0 := Ev.back 3 (fun n => rfl) H
    obtain ⟨vK3, MK3, K3, H⟩ := Ev.callb (fun n_ => gs_7 rfl rfl (show gCal (.invokevirtual 67) 2 (.int y :: .int x :: .ref 192 :: []) M = some (.inr (20, [some (.ref 192), some (.int x), some (.int y)], [])) from by show @cond (Option ((List Value × Mem) ⊕ (Nat × Lo × List Value))) (true && gRecv M (.ref 192) 2 && gRoom [] && true) (some (.inr (20, [some (.ref 192), some (.int x), some (.int y)], []))) none = _; rw [recv_s hS.1 qa_192 qo_41]; rfl)) H
    have K3 : Ev none e1 20 0 [some (.ref 192), some (.int x), some (.int y)] [] M vK3 MK3 0 0 := K3
    have HF := H
    exact Or.inl ⟨h2, ⟨e1, vK3, MK3, rfl, K3, HF⟩⟩
  · rw [if_neg h2] at H
    have H : Ev none (e1 + 1) 19 123 [some (.ref 192), some (.int x), some (.int y), some (.ref 8), some (.int al), some (.int c), o6] [.ref 192] M v M' 0 0 := Ev.back 1 (fun n => rfl) H
    have H : Ev none (e1 + 1) 19 126 [some (.ref 192), some (.int x), some (.int y), some (.ref 8), some (.int al), some (.int c), o6] [.ref 195] M v M' 0 0 := Ev.back 1 (gs_3 rfl rfl (gf_u hS.1 qa_192 qr_41_2 qu_44 rfl)) H
    have H : Ev none (e1 + 1) 19 131 [some (.ref 192), some (.int x), some (.int y), some (.ref 8), some (.int al), some (.int c), o6] [.int c, .ref 8, .int c, .ref 195] M v M' 0 0 := Ev.back 3 (fun n => rfl) H
    obtain ⟨vK4, MK4, K4, H⟩ := Ev.callb (fun n_ => gs_7 rfl rfl (show gCal (.invokevirtual 71) 2 (.int c :: .ref 8 :: [.int c, .ref 195]) M = some (.inr (7, [some (.ref 8), some (.int c)], [.int c, .ref 195])) from by show @cond (Option ((List Value × Mem) ⊕ (Nat × Lo × List Value))) (true && gRecv M (.ref 8) 1 && gRoom [.int c, .ref 195] && true) (some (.inr (7, [some (.ref 8), some (.int c)], [.int c, .ref 195]))) none = _; rw [recv_s hS.1 qa_8 qo_8]; rfl)) H
    obtain ⟨pK4, qK4⟩ := g_7 hS qa_8 K4
    rw [pK4, qK4] at H
    have H : Ev none (e1 + 1) 19 134 [some (.ref 192), some (.int x), some (.int y), some (.ref 8), some (.int al), some (.int c), o6] [.int (G_7 M 8 c), .int c, .ref 195] M v M' 0 0 := H
    have H : Ev none (e1 + 1) 19 (if (G_7 M 8 c) = 0 then 141 else 137) [some (.ref 192), some (.int x), some (.int y), some (.ref 8), some (.int al), some (.int c), o6] [.int c, .ref 195] M v M' 0 0 := Ev.back 1 (fun n => rfl) H
    by_cases h5 : (G_7 M 8 c) = 0
    · rw [if_pos h5] at H
      have H : Ev none (e1 + 1) 19 143 [some (.ref 192), some (.int x), some (.int y), some (.ref 8), some (.int al), some (.int c), o6] [.int 1000000, .int c, .ref 195] M v M' 0 0 := Ev.back 1 (fun n => rfl) H
      obtain ⟨b6, H⟩ := Ev.ias rfl rfl hS.1 qa_195 qw_44 H
      obtain ⟨N7, eN7⟩ : ∃ N, N = (wI M 195 c.toNatClampNeg 1000000) := ⟨_, rfl⟩
      have hN7 : SQ N7 := by rw [eN7]; exact hS.ki
      have H : Ev none (e1 + 1) 19 144 [some (.ref 192), some (.int x), some (.int y), some (.ref 8), some (.int al), some (.int c), o6] [] N7 v M' 0 0 := by rw [eN7]; exact H
      have H : Ev none (e1 + 1) 19 113 [some (.ref 192), some (.int x), some (.int y), some (.ref 8), some (.int al), some (.int (c + 1)), o6] [] N7 v M' 0 0 := Ev.back 2 (fun n => rfl) H
      have HF := H
      subst eN7
      exact Or.inr (Or.inl ⟨h2, h5, b6, HF⟩)
    · rw [if_neg h5] at H
      have H : Ev none (e1 + 1) 19 143 [some (.ref 192), some (.int x), some (.int y), some (.ref 8), some (.int al), some (.int c), o6] [.int 0, .int c, .ref 195] M v M' 0 0 := Ev.back 2 (fun n => rfl) H
      obtain ⟨b8, H⟩ := Ev.ias rfl rfl hS.1 qa_195 qw_44 H
      obtain ⟨N9, eN9⟩ : ∃ N, N = (wI M 195 c.toNatClampNeg 0) := ⟨_, rfl⟩
      have hN9 : SQ N9 := by rw [eN9]; exact hS.ki
      have H : Ev none (e1 + 1) 19 144 [some (.ref 192), some (.int x), some (.int y), some (.ref 8), some (.int al), some (.int c), o6] [] N9 v M' 0 0 := by rw [eN9]; exact H
      have H : Ev none (e1 + 1) 19 113 [some (.ref 192), some (.int x), some (.int y), some (.ref 8), some (.int al), some (.int (c + 1)), o6] [] N9 v M' 0 0 := Ev.back 2 (fun n => rfl) H
      have HF := H
      subst eN9
      exact Or.inr (Or.inr (⟨h2, h5, b8, HF⟩))
theorem hdr_156 {e : Nat} {M M' : Mem} {v : Option Value} {x y al c r : Int32} {o6 : Option Value} (hS : SQ M) (H : Ev none e 19 156 [some (.ref 192), some (.int x), some (.int y), some (.ref 8), some (.int al), some (.int c), o6] [.int r] M v M' 0 0) : (1000000 ≤ al ∧ v = some (.int (-1)) ∧ M' = M) ∨ (¬ (1000000 ≤ al) ∧ 0 < r ∧ ¬ r = 0 ∧ v = some (.int ((100 * al) / r)) ∧ M' = M) ∨ (¬ (1000000 ≤ al) ∧ ¬ (0 < r) ∧ v = some (.int (-1)) ∧ M' = M) := by
  have H : Ev none e 19 (if 1000000 ≤ al then 170 else 165) [some (.ref 192), some (.int x), some (.int y), some (.ref 8), some (.int al), some (.int r), o6] [] M v M' 0 0 := Ev.back 4 (fun n => rfl) H
  by_cases h1 : 1000000 ≤ al
  · rw [if_pos h1] at H
    have H : Ev none e 19 182 [some (.ref 192), some (.int x), some (.int y), some (.ref 8), some (.int al), some (.int r), o6] [.int (-1)] M v M' 0 0 := Ev.back 2 (fun n => rfl) H
    obtain ⟨z1, z2⟩ := Ev.retz rfl rfl H
    exact Or.inl ⟨h1, z1, z2⟩
  · rw [if_neg h1] at H
    have H : Ev none e 19 (if 0 < r then 174 else 170) [some (.ref 192), some (.int x), some (.int y), some (.ref 8), some (.int al), some (.int r), o6] [] M v M' 0 0 := Ev.back 2 (fun n => rfl) H
    by_cases h2 : 0 < r
    · rw [if_pos h2] at H
      have H : Ev none e 19 181 [some (.ref 192), some (.int x), some (.int y), some (.ref 8), some (.int al), some (.int r), o6] [.int r, .int (100 * al)] M v M' 0 0 := Ev.back 4 (fun n => rfl) H
      obtain ⟨nz3, H⟩ := dv_i H rfl rfl
      have H : Ev none e 19 182 [some (.ref 192), some (.int x), some (.int y), some (.ref 8), some (.int al), some (.int r), o6] [.int ((100 * al) / r)] M v M' 0 0 := H
      obtain ⟨z1, z2⟩ := Ev.retz rfl rfl H
      exact Or.inr (Or.inl ⟨h1, h2, nz3, z1, z2⟩)
    · rw [if_neg h2] at H
      have H : Ev none e 19 182 [some (.ref 192), some (.int x), some (.int y), some (.ref 8), some (.int al), some (.int r), o6] [.int (-1)] M v M' 0 0 := Ev.back 2 (fun n => rfl) H
      obtain ⟨z1, z2⟩ := Ev.retz rfl rfl H
      exact Or.inr (Or.inr (⟨h1, h2, z1, z2⟩))
theorem shq_0 {e : Nat} {M M' : Mem} {v : Option Value} {x y : Int32} (hS : SQ M) (H : Ev none e 20 0 [some (.ref 192), some (.int x), some (.int y)] [] M v M' 0 0) : (0 ≤ x.toInt ∧ x.toInt < 256) ∧ (∃ e1 v1 M1, e = e1 + 1 ∧ Ev none e1 23 0 [some (.ref 192), some (.ref (fR M 192 1)), some (.int 10), some (.int 14), none, none, none, none] [] (wI (wA M (fR M 192 1) 1000000) (fR M 192 1) x.toNatClampNeg 0) v1 M1 0 0 ∧ Ev none e 20 28 [some (.ref 192), some (.int x), some (.int y)] (v1.toList ++ []) M1 v M' 0 0) := by
  have H : Ev none e 20 1 [some (.ref 192), some (.int x), some (.int y)] [.ref 192] M v M' 0 0 := Ev.back 1 (fun n => rfl) H
  have H : Ev none e 20 4 [some (.ref 192), some (.int x), some (.int y)] [.ref (fR M 192 1)] M v M' 0 0 := Ev.back 1 (gs_3 rfl rfl (gf_r hS.1 qa_192 qr_41_1 rfl)) H
  have H : Ev none e 20 6 [some (.ref 192), some (.int x), some (.int y)] [.int 1000000, .ref (fR M 192 1)] M v M' 0 0 := Ev.back 1 (fun n => rfl) H
  have H := Ev.fil rfl rfl (fun _ _ => rfl) hS.1 (hS.1.fr qa_192 qr_41_1).2 qw_43 H
  obtain ⟨N1, eN1⟩ : ∃ N, N = (wA M (fR M 192 1) 1000000) := ⟨_, rfl⟩
  have hN1 : SQ N1 := by rw [eN1]; exact hS.ka
  have H : Ev none e 20 9 [some (.ref 192), some (.int x), some (.int y)] [] N1 v M' 0 0 := by rw [eN1]; exact H
  have H : Ev none e 20 10 [some (.ref 192), some (.int x), some (.int y)] [.ref 192] N1 v M' 0 0 := Ev.back 1 (fun n => rfl) H
  have H : Ev none e 20 13 [some (.ref 192), some (.int x), some (.int y)] [.ref (fR N1 192 1)] N1 v M' 0 0 := Ev.back 1 (gs_3 rfl rfl (gf_r hN1.1 qa_192 qr_41_1 rfl)) H
  rw [show fR N1 192 1 = fR M 192 1 from by rw [eN1]; exact fR_wA] at H
  have H : Ev none e 20 15 [some (.ref 192), some (.int x), some (.int y)] [.int 0, .int x, .ref (fR M 192 1)] N1 v M' 0 0 := Ev.back 2 (fun n => rfl) H
  obtain ⟨b2, H⟩ := Ev.ias rfl rfl hN1.1 (hS.1.fr qa_192 qr_41_1).2 qw_43 H
  obtain ⟨N3, eN3⟩ : ∃ N, N = (wI N1 (fR M 192 1) x.toNatClampNeg 0) := ⟨_, rfl⟩
  have hN3 : SQ N3 := by rw [eN3]; exact hN1.ki
  have H : Ev none e 20 16 [some (.ref 192), some (.int x), some (.int y)] [] N3 v M' 0 0 := by rw [eN3]; exact H
  have H : Ev none e 20 18 [some (.ref 192), some (.int x), some (.int y)] [.ref 192, .ref 192] N3 v M' 0 0 := Ev.back 2 (fun n => rfl) H
  have H : Ev none e 20 21 [some (.ref 192), some (.int x), some (.int y)] [.ref (fR N3 192 1), .ref 192] N3 v M' 0 0 := Ev.back 1 (gs_3 rfl rfl (gf_r hN3.1 qa_192 qr_41_1 rfl)) H
  rw [(show fR N3 192 1 = fR N1 192 1 from by rw [eN3]; exact fR_wI).trans (show fR N1 192 1 = fR M 192 1 from by rw [eN1]; exact fR_wA)] at H
  have H : Ev none e 20 25 [some (.ref 192), some (.int x), some (.int y)] [.int 14, .int 10, .ref (fR M 192 1), .ref 192] N3 v M' 0 0 := Ev.back 2 (fun n => rfl) H
  obtain ⟨e1, rfl⟩ := Ev.dpos rfl rfl H
  obtain ⟨vK4, MK4, K4, H⟩ := Ev.callb (fun n_ => gs_7 rfl rfl (show gCal (.invokevirtual 60) 2 (.int 14 :: .int 10 :: .ref (fR M 192 1) :: .ref 192 :: []) N3 = some (.inr (23, [some (.ref 192), some (.ref (fR M 192 1)), some (.int 10), some (.int 14), none, none, none, none], [])) from by show @cond (Option ((List Value × Mem) ⊕ (Nat × Lo × List Value))) (true && gRecv N3 (.ref 192) 2 && gRoom [] && true) (some (.inr (23, [some (.ref 192), some (.ref (fR M 192 1)), some (.int 10), some (.int 14), none, none, none, none], []))) none = _; rw [recv_s hN3.1 qa_192 qo_41]; rfl)) H
  have K4 : Ev none e1 23 0 [some (.ref 192), some (.ref (fR M 192 1)), some (.int 10), some (.int 14), none, none, none, none] [] N3 vK4 MK4 0 0 := K4
  have HF := H
  subst eN1 eN3
  exact ⟨b2, ⟨e1, vK4, MK4, rfl, K4, HF⟩⟩
theorem shq_28 {e : Nat} {M M' : Mem} {v : Option Value} {x y : Int32} (hS : SQ M) (H : Ev none e 20 28 [some (.ref 192), some (.int x), some (.int y)] [] M v M' 0 0) : (0 ≤ y.toInt ∧ y.toInt < 256) ∧ v = some (.int (rI M (fR M 192 1) y)) ∧ M' = M := by
  have H : Ev none e 20 29 [some (.ref 192), some (.int x), some (.int y)] [.ref 192] M v M' 0 0 := Ev.back 1 (fun n => rfl) H
  have H : Ev none e 20 32 [some (.ref 192), some (.int x), some (.int y)] [.ref (fR M 192 1)] M v M' 0 0 := Ev.back 1 (gs_3 rfl rfl (gf_r hS.1 qa_192 qr_41_1 rfl)) H
  have H : Ev none e 20 33 [some (.ref 192), some (.int x), some (.int y)] [.int y, .ref (fR M 192 1)] M v M' 0 0 := Ev.back 1 (fun n => rfl) H
  obtain ⟨b1, H⟩ := Ev.ial rfl rfl hS.1 (hS.1.fr qa_192 qr_41_1).2 qw_43 H
  have H : Ev none e 20 34 [some (.ref 192), some (.int x), some (.int y)] [.int (rI M (fR M 192 1) y)] M v M' 0 0 := H
  obtain ⟨z1, z2⟩ := Ev.retz rfl rfl H
  exact ⟨b1, z1, z2⟩
