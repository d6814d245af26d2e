/-! THE REFERENCE'S longer: pieces (made by gwal11.py) -/
theorem rsh_0 {e : Nat} {M M' : Mem} {v : Option Value} {x y fm : Int32} (hS : SQ M) (H : Ev none e 227 0 [some (.ref 633), some (.int x), some (.int y), some (.int fm), none, none, none, none, none] [] M v M' 0 0) : Ev none e 227 3 [some (.ref 633), some (.int x), some (.int y), some (.int fm), some (.int 0), none, none, none, none] [] M v M' 0 0 := by
  have H : Ev none e 227 3 [some (.ref 633), some (.int x), some (.int y), some (.int fm), some (.int 0), none, none, none, none] [] M v M' 0 0 := Ev.back 2 (fun n => rfl) H
  have HF := H
  exact HF
theorem rsh_3 {e : Nat} {M M' : Mem} {v : Option Value} {x y fm c : Int32} (hS : SQ M) (H : Ev none e 227 3 [some (.ref 633), some (.int x), some (.int y), some (.int fm), some (.int c), none, none, none, none] [] M v M' 0 0) : ((G_144 M) ≤ c ∧ (0 ≤ x.toInt ∧ x.toInt < 256) ∧ Ev none e 227 38 [some (.ref 633), some (.int x), some (.int y), some (.int fm), some (.int 1), none, none, none, none] [] (wI M 655 x.toNatClampNeg 0) v M' 0 0) ∨ (¬ ((G_144 M) ≤ c) ∧ (0 ≤ c.toInt ∧ c.toInt < 256) ∧ Ev none e 227 3 [some (.ref 633), some (.int x), some (.int y), some (.int fm), some (.int (c + 1)), none, none, none, none] [] (wI M 655 c.toNatClampNeg 10000000) v M' 0 0) := by
  have H : Ev none e 227 6 [some (.ref 633), some (.int x), some (.int y), some (.int fm), some (.int c), none, none, none, none] [.ref 633, .int c] M v M' 0 0 := Ev.back 2 (fun n => rfl) H
  obtain ⟨e1, rfl⟩ := Ev.dpos rfl rfl H
  obtain ⟨vK1, MK1, K1, H⟩ := Ev.callb (fun n_ => gs_7 rfl rfl (show gCal (.invokevirtual 128) 11 (.ref 633 :: [.int c]) M = some (.inr (144, [some (.ref 633)], [.int c])) from by show @cond (Option ((List Value × Mem) ⊕ (Nat × Lo × List Value))) (true && gRecv M (.ref 633) 11 && gRoom [.int c] && true) (some (.inr (144, [some (.ref 633)], [.int c]))) none = _; rw [recv_s hS.1 qa_633 qo_61]; rfl)) H
  obtain ⟨pK1, qK1⟩ := g_144 hS K1
  rw [pK1, qK1] at H
  have H : Ev none (e1 + 1) 227 9 [some (.ref 633), some (.int x), some (.int y), some (.int fm), some (.int c), none, none, none, none] [.int (G_144 M), .int c] M v M' 0 0 := H
  have H : Ev none (e1 + 1) 227 (if (G_144 M) ≤ c then 28 else 12) [some (.ref 633), some (.int x), some (.int y), some (.int fm), some (.int c), none, none, none, none] [] M v M' 0 0 := Ev.back 1 (fun n => rfl) H
  by_cases h2 : (G_144 M) ≤ c
  · rw [if_pos h2] at H
    have H : Ev none (e1 + 1) 227 29 [some (.ref 633), some (.int x), some (.int y), some (.int fm), some (.int c), none, none, none, none] [.ref 633] M v M' 0 0 := Ev.back 1 (fun n => rfl) H
    have H : Ev none (e1 + 1) 227 32 [some (.ref 633), some (.int x), some (.int y), some (.int fm), some (.int c), none, none, none, none] [.ref 655] M v M' 0 0 := Ev.back 1 (gs_3 rfl rfl (gf_u hS.1 qa_633 qr_61_48 qu_83 rfl)) H
    have H : Ev none (e1 + 1) 227 34 [some (.ref 633), some (.int x), some (.int y), some (.int fm), some (.int c), none, none, none, none] [.int 0, .int x, .ref 655] M v M' 0 0 := Ev.back 2 (fun n => rfl) H
    obtain ⟨b3, H⟩ := Ev.ias rfl rfl hS.1 qa_655 qw_83 H
    obtain ⟨N4, eN4⟩ : ∃ N, N = (wI M 655 x.toNatClampNeg 0) := ⟨_, rfl⟩
    have hN4 : SQ N4 := by rw [eN4]; exact hS.ki
    have H : Ev none (e1 + 1) 227 35 [some (.ref 633), some (.int x), some (.int y), some (.int fm), some (.int c), none, none, none, none] [] N4 v M' 0 0 := by rw [eN4]; exact H
    have H : Ev none (e1 + 1) 227 38 [some (.ref 633), some (.int x), some (.int y), some (.int fm), some (.int 1), none, none, none, none] [] N4 v M' 0 0 := Ev.back 2 (fun n => rfl) H
    have HF := H
    subst eN4
    exact Or.inl ⟨h2, b3, HF⟩
  · rw [if_neg h2] at H
    have H : Ev none (e1 + 1) 227 13 [some (.ref 633), some (.int x), some (.int y), some (.int fm), some (.int c), none, none, none, none] [.ref 633] M v M' 0 0 := Ev.back 1 (fun n => rfl) H
    have H : Ev none (e1 + 1) 227 16 [some (.ref 633), some (.int x), some (.int y), some (.int fm), some (.int c), none, none, none, none] [.ref 655] M v M' 0 0 := Ev.back 1 (gs_3 rfl rfl (gf_u hS.1 qa_633 qr_61_48 qu_83 rfl)) H
    have H : Ev none (e1 + 1) 227 21 [some (.ref 633), some (.int x), some (.int y), some (.int fm), some (.int c), none, none, none, none] [.int 10000000, .int c, .ref 655] M v M' 0 0 := Ev.back 2 (fun n => rfl) H
    obtain ⟨b5, H⟩ := Ev.ias rfl rfl hS.1 qa_655 qw_83 H
    obtain ⟨N6, eN6⟩ : ∃ N, N = (wI M 655 c.toNatClampNeg 10000000) := ⟨_, rfl⟩
    have hN6 : SQ N6 := by rw [eN6]; exact hS.ki
    have H : Ev none (e1 + 1) 227 22 [some (.ref 633), some (.int x), some (.int y), some (.int fm), some (.int c), none, none, none, none] [] N6 v M' 0 0 := by rw [eN6]; exact H
    have H : Ev none (e1 + 1) 227 3 [some (.ref 633), some (.int x), some (.int y), some (.int fm), some (.int (c + 1)), none, none, none, none] [] N6 v M' 0 0 := Ev.back 2 (fun n => rfl) H
    have HF := H
    subst eN6
    exact Or.inr (⟨h2, b5, HF⟩)
theorem rsh_38 {e : Nat} {M M' : Mem} {v : Option Value} {x y fm mo : Int32} {o5 o6 o7 o8 : Option Value} (hS : SQ M) (H : Ev none e 227 38 [some (.ref 633), some (.int x), some (.int y), some (.int fm), some (.int mo), o5, o6, o7, o8] [] M v M' 0 0) : (mo = 0 ∧ (0 ≤ y.toInt ∧ y.toInt < 256) ∧ v = some (.int (rI M 655 y)) ∧ M' = M) ∨ (¬ (mo = 0) ∧ Ev none e 227 49 [some (.ref 633), some (.int x), some (.int y), some (.int fm), some (.int 0), some (.int 0), o6, o7, o8] [] M v M' 0 0) := by
  have H : Ev none e 227 (if mo = 0 then 201 else 43) [some (.ref 633), some (.int x), some (.int y), some (.int fm), some (.int mo), o5, o6, o7, o8] [] M v M' 0 0 := Ev.back 2 (fun n => rfl) H
  by_cases h1 : mo = 0
  · rw [if_pos h1] at H
    have H : Ev none e 227 202 [some (.ref 633), some (.int x), some (.int y), some (.int fm), some (.int mo), o5, o6, o7, o8] [.ref 633] M v M' 0 0 := Ev.back 1 (fun n => rfl) H
    have H : Ev none e 227 205 [some (.ref 633), some (.int x), some (.int y), some (.int fm), some (.int mo), o5, o6, o7, o8] [.ref 655] M v M' 0 0 := Ev.back 1 (gs_3 rfl rfl (gf_u hS.1 qa_633 qr_61_48 qu_83 rfl)) H
    have H : Ev none e 227 206 [some (.ref 633), some (.int x), some (.int y), some (.int fm), some (.int mo), o5, o6, o7, o8] [.int y, .ref 655] M v M' 0 0 := Ev.back 1 (fun n => rfl) H
    obtain ⟨b2, H⟩ := Ev.ial rfl rfl hS.1 qa_655 qw_83 H
    have H : Ev none e 227 207 [some (.ref 633), some (.int x), some (.int y), some (.int fm), some (.int mo), o5, o6, o7, o8] [.int (rI M 655 y)] M v M' 0 0 := H
    obtain ⟨z1, z2⟩ := Ev.retz rfl rfl H
    exact Or.inl ⟨h1, b2, z1, z2⟩
  · rw [if_neg h1] at H
    have H : Ev none e 227 49 [some (.ref 633), some (.int x), some (.int y), some (.int fm), some (.int 0), some (.int 0), o6, o7, o8] [] M v M' 0 0 := Ev.back 4 (fun n => rfl) H
    have HF := H
    exact Or.inr (⟨h1, HF⟩)
theorem rsh_49 {e : Nat} {M M' : Mem} {v : Option Value} {x y fm mo c : Int32} {o6 o7 o8 : Option Value} (hS : SQ M) (H : Ev none e 227 49 [some (.ref 633), some (.int x), some (.int y), some (.int fm), some (.int mo), some (.int c), o6, o7, o8] [] M v M' 0 0) : ((G_144 M) ≤ c ∧ Ev none e 227 38 [some (.ref 633), some (.int x), some (.int y), some (.int fm), some (.int mo), some (.int c), o6, o7, o8] [] M v M' 0 0) ∨ (¬ ((G_144 M) ≤ c) ∧ (G_148 M c) = 0 ∧ Ev none e 227 49 [some (.ref 633), some (.int x), some (.int y), some (.int fm), some (.int mo), some (.int (c + 1)), o6, o7, o8] [] M v M' 0 0) ∨ (¬ ((G_144 M) ≤ c) ∧ ¬ ((G_148 M c) = 0) ∧ fm = 0 ∧ Ev none e 227 107 [some (.ref 633), some (.int x), some (.int y), some (.int fm), some (.int mo), some (.int c), some (.int 0), o7, o8] [] M v M' 0 0) ∨ (¬ ((G_144 M) ≤ c) ∧ ¬ ((G_148 M c) = 0) ∧ ¬ (fm = 0) ∧ c = x ∧ Ev none e 227 107 [some (.ref 633), some (.int x), some (.int y), some (.int fm), some (.int mo), some (.int c), some (.int 0), o7, o8] [] M v M' 0 0) ∨ (¬ ((G_144 M) ≤ c) ∧ ¬ ((G_148 M c) = 0) ∧ ¬ (fm = 0) ∧ ¬ (c = x) ∧ c = y ∧ Ev none e 227 107 [some (.ref 633), some (.int x), some (.int y), some (.int fm), some (.int mo), some (.int c), some (.int 0), o7, o8] [] M v M' 0 0) ∨ (¬ ((G_144 M) ≤ c) ∧ ¬ ((G_148 M c) = 0) ∧ ¬ (fm = 0) ∧ ¬ (c = x) ∧ ¬ (c = y) ∧ (G_149 M c) = 0 ∧ Ev none e 227 107 [some (.ref 633), some (.int x), some (.int y), some (.int fm), some (.int mo), some (.int c), some (.int 0), o7, o8] [] M v M' 0 0) ∨ (¬ ((G_144 M) ≤ c) ∧ ¬ ((G_148 M c) = 0) ∧ ¬ (fm = 0) ∧ ¬ (c = x) ∧ ¬ (c = y) ∧ ¬ ((G_149 M c) = 0) ∧ (G_150 M c) = 0 ∧ Ev none e 227 49 [some (.ref 633), some (.int x), some (.int y), some (.int fm), some (.int mo), some (.int (c + 1)), o6, o7, o8] [] M v M' 0 0) ∨ (¬ ((G_144 M) ≤ c) ∧ ¬ ((G_148 M c) = 0) ∧ ¬ (fm = 0) ∧ ¬ (c = x) ∧ ¬ (c = y) ∧ ¬ ((G_149 M c) = 0) ∧ ¬ ((G_150 M c) = 0) ∧ Ev none e 227 107 [some (.ref 633), some (.int x), some (.int y), some (.int fm), some (.int mo), some (.int c), some (.int 0), o7, o8] [] M v M' 0 0) := by
  have H : Ev none e 227 52 [some (.ref 633), some (.int x), some (.int y), some (.int fm), some (.int mo), some (.int c), o6, o7, o8] [.ref 633, .int c] M v M' 0 0 := Ev.back 2 (fun n => rfl) H
  obtain ⟨e1, rfl⟩ := Ev.dpos rfl rfl H
  obtain ⟨vK1, MK1, K1, H⟩ := Ev.callb (fun n_ => gs_7 rfl rfl (show gCal (.invokevirtual 128) 11 (.ref 633 :: [.int c]) M = some (.inr (144, [some (.ref 633)], [.int c])) from by show @cond (Option ((List Value × Mem) ⊕ (Nat × Lo × List Value))) (true && gRecv M (.ref 633) 11 && gRoom [.int c] && true) (some (.inr (144, [some (.ref 633)], [.int c]))) none = _; rw [recv_s hS.1 qa_633 qo_61]; rfl)) H
  obtain ⟨pK1, qK1⟩ := g_144 hS K1
  rw [pK1, qK1] at H
  have H : Ev none (e1 + 1) 227 55 [some (.ref 633), some (.int x), some (.int y), some (.int fm), some (.int mo), some (.int c), o6, o7, o8] [.int (G_144 M), .int c] M v M' 0 0 := H
  have H : Ev none (e1 + 1) 227 (if (G_144 M) ≤ c then 198 else 58) [some (.ref 633), some (.int x), some (.int y), some (.int fm), some (.int mo), some (.int c), o6, o7, o8] [] M v M' 0 0 := Ev.back 1 (fun n => rfl) H
  by_cases h2 : (G_144 M) ≤ c
  · rw [if_pos h2] at H
    have H : Ev none (e1 + 1) 227 38 [some (.ref 633), some (.int x), some (.int y), some (.int fm), some (.int mo), some (.int c), o6, o7, o8] [] M v M' 0 0 := Ev.back 1 (fun n => rfl) H
    have HF := H
    exact Or.inl ⟨h2, HF⟩
  · rw [if_neg h2] at H
    have H : Ev none (e1 + 1) 227 61 [some (.ref 633), some (.int x), some (.int y), some (.int fm), some (.int mo), some (.int c), o6, o7, o8] [.int c, .ref 633] M v M' 0 0 := Ev.back 2 (fun n => rfl) H
    obtain ⟨vK3, MK3, K3, H⟩ := Ev.callb (fun n_ => gs_7 rfl rfl (show gCal (.invokevirtual 158) 11 (.int c :: .ref 633 :: []) M = some (.inr (148, [some (.ref 633), some (.int c)], [])) from by show @cond (Option ((List Value × Mem) ⊕ (Nat × Lo × List Value))) (true && gRecv M (.ref 633) 11 && gRoom [] && true) (some (.inr (148, [some (.ref 633), some (.int c)], []))) none = _; rw [recv_s hS.1 qa_633 qo_61]; rfl)) H
    obtain ⟨pK3, qK3⟩ := g_148 hS K3
    rw [pK3, qK3] at H
    have H : Ev none (e1 + 1) 227 64 [some (.ref 633), some (.int x), some (.int y), some (.int fm), some (.int mo), some (.int c), o6, o7, o8] [.int (G_148 M c)] M v M' 0 0 := H
    have H : Ev none (e1 + 1) 227 (if (G_148 M c) = 0 then 192 else 67) [some (.ref 633), some (.int x), some (.int y), some (.int fm), some (.int mo), some (.int c), o6, o7, o8] [] M v M' 0 0 := Ev.back 1 (fun n => rfl) H
    by_cases h4 : (G_148 M c) = 0
    · rw [if_pos h4] at H
      have H : Ev none (e1 + 1) 227 49 [some (.ref 633), some (.int x), some (.int y), some (.int fm), some (.int mo), some (.int (c + 1)), o6, o7, o8] [] M v M' 0 0 := Ev.back 2 (fun n => rfl) H
      have HF := H
      exact Or.inr (Or.inl ⟨h2, h4, HF⟩)
    · rw [if_neg h4] at H
      have H : Ev none (e1 + 1) 227 (if fm = 0 then 104 else 71) [some (.ref 633), some (.int x), some (.int y), some (.int fm), some (.int mo), some (.int c), o6, o7, o8] [] M v M' 0 0 := Ev.back 2 (fun n => rfl) H
      by_cases h5 : fm = 0
      · rw [if_pos h5] at H
        have H : Ev none (e1 + 1) 227 107 [some (.ref 633), some (.int x), some (.int y), some (.int fm), some (.int mo), some (.int c), some (.int 0), o7, o8] [] M v M' 0 0 := Ev.back 2 (fun n => rfl) H
        have HF := H
        exact Or.inr (Or.inr (Or.inl ⟨h2, h4, h5, HF⟩))
      · rw [if_neg h5] at H
        have H : Ev none (e1 + 1) 227 (if c = x then 104 else 77) [some (.ref 633), some (.int x), some (.int y), some (.int fm), some (.int mo), some (.int c), o6, o7, o8] [] M v M' 0 0 := Ev.back 3 (fun n => rfl) H
        by_cases h6 : c = x
        · rw [if_pos h6] at H
          have H : Ev none (e1 + 1) 227 107 [some (.ref 633), some (.int x), some (.int y), some (.int fm), some (.int mo), some (.int c), some (.int 0), o7, o8] [] M v M' 0 0 := Ev.back 2 (fun n => rfl) H
          have HF := H
          exact Or.inr (Or.inr (Or.inr (Or.inl ⟨h2, h4, h5, h6, HF⟩)))
        · rw [if_neg h6] at H
          have H : Ev none (e1 + 1) 227 (if c = y then 104 else 83) [some (.ref 633), some (.int x), some (.int y), some (.int fm), some (.int mo), some (.int c), o6, o7, o8] [] M v M' 0 0 := Ev.back 3 (fun n => rfl) H
          by_cases h7 : c = y
          · rw [if_pos h7] at H
            have H : Ev none (e1 + 1) 227 107 [some (.ref 633), some (.int x), some (.int y), some (.int fm), some (.int mo), some (.int c), some (.int 0), o7, o8] [] M v M' 0 0 := Ev.back 2 (fun n => rfl) H
            have HF := H
            exact Or.inr (Or.inr (Or.inr (Or.inr (Or.inl ⟨h2, h4, h5, h6, h7, HF⟩))))
          · rw [if_neg h7] at H
            have H : Ev none (e1 + 1) 227 86 [some (.ref 633), some (.int x), some (.int y), some (.int fm), some (.int mo), some (.int c), o6, o7, o8] [.int c, .ref 633] M v M' 0 0 := Ev.back 2 (fun n => rfl) H
            obtain ⟨vK8, MK8, K8, H⟩ := Ev.callb (fun n_ => gs_7 rfl rfl (show gCal (.invokevirtual 356) 11 (.int c :: .ref 633 :: []) M = some (.inr (149, [some (.ref 633), some (.int c)], [])) from by show @cond (Option ((List Value × Mem) ⊕ (Nat × Lo × List Value))) (true && gRecv M (.ref 633) 11 && gRoom [] && true) (some (.inr (149, [some (.ref 633), some (.int c)], []))) none = _; rw [recv_s hS.1 qa_633 qo_61]; rfl)) H
            obtain ⟨pK8, qK8⟩ := g_149 hS K8
            rw [pK8, qK8] at H
            have H : Ev none (e1 + 1) 227 89 [some (.ref 633), some (.int x), some (.int y), some (.int fm), some (.int mo), some (.int c), o6, o7, o8] [.int (G_149 M c)] M v M' 0 0 := H
            have H : Ev none (e1 + 1) 227 (if (G_149 M c) = 0 then 104 else 92) [some (.ref 633), some (.int x), some (.int y), some (.int fm), some (.int mo), some (.int c), o6, o7, o8] [] M v M' 0 0 := Ev.back 1 (fun n => rfl) H
            by_cases h9 : (G_149 M c) = 0
            · rw [if_pos h9] at H
              have H : Ev none (e1 + 1) 227 107 [some (.ref 633), some (.int x), some (.int y), some (.int fm), some (.int mo), some (.int c), some (.int 0), o7, o8] [] M v M' 0 0 := Ev.back 2 (fun n => rfl) H
              have HF := H
              exact Or.inr (Or.inr (Or.inr (Or.inr (Or.inr (Or.inl ⟨h2, h4, h5, h6, h7, h9, HF⟩)))))
            · rw [if_neg h9] at H
              have H : Ev none (e1 + 1) 227 95 [some (.ref 633), some (.int x), some (.int y), some (.int fm), some (.int mo), some (.int c), o6, o7, o8] [.int c, .ref 633] M v M' 0 0 := Ev.back 2 (fun n => rfl) H
              obtain ⟨vK10, MK10, K10, H⟩ := Ev.callb (fun n_ => gs_7 rfl rfl (show gCal (.invokevirtual 140) 11 (.int c :: .ref 633 :: []) M = some (.inr (150, [some (.ref 633), some (.int c)], [])) from by show @cond (Option ((List Value × Mem) ⊕ (Nat × Lo × List Value))) (true && gRecv M (.ref 633) 11 && gRoom [] && true) (some (.inr (150, [some (.ref 633), some (.int c)], []))) none = _; rw [recv_s hS.1 qa_633 qo_61]; rfl)) H
              obtain ⟨pK10, qK10⟩ := g_150 hS K10
              rw [pK10, qK10] at H
              have H : Ev none (e1 + 1) 227 98 [some (.ref 633), some (.int x), some (.int y), some (.int fm), some (.int mo), some (.int c), o6, o7, o8] [.int (G_150 M c)] M v M' 0 0 := H
              have H : Ev none (e1 + 1) 227 (if (G_150 M c) = 0 then 101 else 104) [some (.ref 633), some (.int x), some (.int y), some (.int fm), some (.int mo), some (.int c), o6, o7, o8] [] M v M' 0 0 := Ev.back 1 (fun n => rfl) H
              by_cases h11 : (G_150 M c) = 0
              · rw [if_pos h11] at H
                have H : Ev none (e1 + 1) 227 49 [some (.ref 633), some (.int x), some (.int y), some (.int fm), some (.int mo), some (.int (c + 1)), o6, o7, o8] [] M v M' 0 0 := Ev.back 3 (fun n => rfl) H
                have HF := H
                exact Or.inr (Or.inr (Or.inr (Or.inr (Or.inr (Or.inr (Or.inl ⟨h2, h4, h5, h6, h7, h9, h11, HF⟩))))))
              · rw [if_neg h11] at H
                have H : Ev none (e1 + 1) 227 107 [some (.ref 633), some (.int x), some (.int y), some (.int fm), some (.int mo), some (.int c), some (.int 0), o7, o8] [] M v M' 0 0 := Ev.back 2 (fun n => rfl) H
                have HF := H
                exact Or.inr (Or.inr (Or.inr (Or.inr (Or.inr (Or.inr (Or.inr (⟨h2, h4, h5, h6, h7, h9, h11, HF⟩)))))))
theorem rsh_107 {e : Nat} {M M' : Mem} {v : Option Value} {x y fm mo c d : Int32} {o7 o8 : Option Value} (hS : SQ M) (H : Ev none e 227 107 [some (.ref 633), some (.int x), some (.int y), some (.int fm), some (.int mo), some (.int c), some (.int d), o7, o8] [] M v M' 0 0) : (8 ≤ d ∧ Ev none e 227 49 [some (.ref 633), some (.int x), some (.int y), some (.int fm), some (.int mo), some (.int (c + 1)), some (.int d), o7, o8] [] M v M' 0 0) ∨ (¬ (8 ≤ d) ∧ 0 ≤ (G_194 M c d) ∧ (d - d / 2 * 2) = 0 ∧ ((rI M 655 (G_194 M c d)) + 10) < (rI M 655 c) ∧ (0 ≤ (G_194 M c d).toInt ∧ (G_194 M c d).toInt < 256) ∧ (0 ≤ c.toInt ∧ c.toInt < 256) ∧ (0 ≤ c.toInt ∧ c.toInt < 256) ∧ Ev none e 227 107 [some (.ref 633), some (.int x), some (.int y), some (.int fm), some (.int 1), some (.int c), some (.int (d + 1)), some (.int (G_194 M c d)), some (.int ((rI M 655 (G_194 M c d)) + 10))] [] (wI M 655 c.toNatClampNeg ((rI M 655 (G_194 M c d)) + 10)) v M' 0 0) ∨ (¬ (8 ≤ d) ∧ 0 ≤ (G_194 M c d) ∧ (d - d / 2 * 2) = 0 ∧ ¬ (((rI M 655 (G_194 M c d)) + 10) < (rI M 655 c)) ∧ (0 ≤ (G_194 M c d).toInt ∧ (G_194 M c d).toInt < 256) ∧ (0 ≤ c.toInt ∧ c.toInt < 256) ∧ Ev none e 227 107 [some (.ref 633), some (.int x), some (.int y), some (.int fm), some (.int mo), some (.int c), some (.int (d + 1)), some (.int (G_194 M c d)), some (.int ((rI M 655 (G_194 M c d)) + 10))] [] M v M' 0 0) ∨ (¬ (8 ≤ d) ∧ 0 ≤ (G_194 M c d) ∧ ¬ ((d - d / 2 * 2) = 0) ∧ ((rI M 655 (G_194 M c d)) + 14) < (rI M 655 c) ∧ (0 ≤ (G_194 M c d).toInt ∧ (G_194 M c d).toInt < 256) ∧ (0 ≤ c.toInt ∧ c.toInt < 256) ∧ (0 ≤ c.toInt ∧ c.toInt < 256) ∧ Ev none e 227 107 [some (.ref 633), some (.int x), some (.int y), some (.int fm), some (.int 1), some (.int c), some (.int (d + 1)), some (.int (G_194 M c d)), some (.int ((rI M 655 (G_194 M c d)) + 14))] [] (wI M 655 c.toNatClampNeg ((rI M 655 (G_194 M c d)) + 14)) v M' 0 0) ∨ (¬ (8 ≤ d) ∧ 0 ≤ (G_194 M c d) ∧ ¬ ((d - d / 2 * 2) = 0) ∧ ¬ (((rI M 655 (G_194 M c d)) + 14) < (rI M 655 c)) ∧ (0 ≤ (G_194 M c d).toInt ∧ (G_194 M c d).toInt < 256) ∧ (0 ≤ c.toInt ∧ c.toInt < 256) ∧ Ev none e 227 107 [some (.ref 633), some (.int x), some (.int y), some (.int fm), some (.int mo), some (.int c), some (.int (d + 1)), some (.int (G_194 M c d)), some (.int ((rI M 655 (G_194 M c d)) + 14))] [] M v M' 0 0) ∨ (¬ (8 ≤ d) ∧ ¬ (0 ≤ (G_194 M c d)) ∧ 10000000 < (rI M 655 c) ∧ (0 ≤ c.toInt ∧ c.toInt < 256) ∧ (0 ≤ c.toInt ∧ c.toInt < 256) ∧ Ev none e 227 107 [some (.ref 633), some (.int x), some (.int y), some (.int fm), some (.int 1), some (.int c), some (.int (d + 1)), some (.int (G_194 M c d)), some (.int 10000000)] [] (wI M 655 c.toNatClampNeg 10000000) v M' 0 0) ∨ (¬ (8 ≤ d) ∧ ¬ (0 ≤ (G_194 M c d)) ∧ ¬ (10000000 < (rI M 655 c)) ∧ (0 ≤ c.toInt ∧ c.toInt < 256) ∧ Ev none e 227 107 [some (.ref 633), some (.int x), some (.int y), some (.int fm), some (.int mo), some (.int c), some (.int (d + 1)), some (.int (G_194 M c d)), some (.int 10000000)] [] M v M' 0 0) := by
  have H : Ev none e 227 (if 8 ≤ d then 192 else 114) [some (.ref 633), some (.int x), some (.int y), some (.int fm), some (.int mo), some (.int c), some (.int d), o7, o8] [] M v M' 0 0 := Ev.back 3 (fun n => rfl) H
  by_cases h1 : 8 ≤ d
  · rw [if_pos h1] at H
    have H : Ev none e 227 49 [some (.ref 633), some (.int x), some (.int y), some (.int fm), some (.int mo), some (.int (c + 1)), some (.int d), o7, o8] [] M v M' 0 0 := Ev.back 2 (fun n => rfl) H
    have HF := H
    exact Or.inl ⟨h1, HF⟩
  · rw [if_neg h1] at H
    have H : Ev none e 227 119 [some (.ref 633), some (.int x), some (.int y), some (.int fm), some (.int mo), some (.int c), some (.int d), o7, o8] [.int d, .int c, .ref 633] M v M' 0 0 := Ev.back 3 (fun n => rfl) H
    obtain ⟨e1, rfl⟩ := Ev.dpos rfl rfl H
    obtain ⟨vK2, MK2, K2, H⟩ := Ev.callb (fun n_ => gs_7 rfl rfl (show gCal (.invokevirtual 380) 11 (.int d :: .int c :: .ref 633 :: []) M = some (.inr (194, [some (.ref 633), some (.int c), some (.int d), none, none], [])) from by show @cond (Option ((List Value × Mem) ⊕ (Nat × Lo × List Value))) (true && gRecv M (.ref 633) 11 && gRoom [] && true) (some (.inr (194, [some (.ref 633), some (.int c), some (.int d), none, none], []))) none = _; rw [recv_s hS.1 qa_633 qo_61]; rfl)) H
    obtain ⟨pK2, qK2⟩ := g_194 hS K2
    rw [pK2, qK2] at H
    have H : Ev none (e1 + 1) 227 122 [some (.ref 633), some (.int x), some (.int y), some (.int fm), some (.int mo), some (.int c), some (.int d), o7, o8] [.int (G_194 M c d)] M v M' 0 0 := H
    have H : Ev none (e1 + 1) 227 (if 0 ≤ (G_194 M c d) then 135 else 129) [some (.ref 633), some (.int x), some (.int y), some (.int fm), some (.int mo), some (.int c), some (.int d), some (.int (G_194 M c d)), o8] [] M v M' 0 0 := Ev.back 3 (fun n => rfl) H
    by_cases h3 : 0 ≤ (G_194 M c d)
    · rw [if_pos h3] at H
      have H : Ev none (e1 + 1) 227 136 [some (.ref 633), some (.int x), some (.int y), some (.int fm), some (.int mo), some (.int c), some (.int d), some (.int (G_194 M c d)), o8] [.ref 633] M v M' 0 0 := Ev.back 1 (fun n => rfl) H
      have H : Ev none (e1 + 1) 227 139 [some (.ref 633), some (.int x), some (.int y), some (.int fm), some (.int mo), some (.int c), some (.int d), some (.int (G_194 M c d)), o8] [.ref 655] M v M' 0 0 := Ev.back 1 (gs_3 rfl rfl (gf_u hS.1 qa_633 qr_61_48 qu_83 rfl)) H
      have H : Ev none (e1 + 1) 227 141 [some (.ref 633), some (.int x), some (.int y), some (.int fm), some (.int mo), some (.int c), some (.int d), some (.int (G_194 M c d)), o8] [.int (G_194 M c d), .ref 655] M v M' 0 0 := Ev.back 1 (fun n => rfl) H
      obtain ⟨b4, H⟩ := Ev.ial rfl rfl hS.1 qa_655 qw_83 H
      have H : Ev none (e1 + 1) 227 142 [some (.ref 633), some (.int x), some (.int y), some (.int fm), some (.int mo), some (.int c), some (.int d), some (.int (G_194 M c d)), o8] [.int (rI M 655 (G_194 M c d))] M v M' 0 0 := H
      have H : Ev none (e1 + 1) 227 (if (d - d / 2 * 2) = 0 then 149 else 154) [some (.ref 633), some (.int x), some (.int y), some (.int fm), some (.int mo), some (.int c), some (.int d), some (.int (G_194 M c d)), o8] [.int (rI M 655 (G_194 M c d))] M v M' 0 0 := Ev.back 4 (fun n => rfl) H
      by_cases h5 : (d - d / 2 * 2) = 0
      · rw [if_pos h5] at H
        have H : Ev none (e1 + 1) 227 162 [some (.ref 633), some (.int x), some (.int y), some (.int fm), some (.int mo), some (.int c), some (.int d), some (.int (G_194 M c d)), some (.int ((rI M 655 (G_194 M c d)) + 10))] [.ref 633, .int ((rI M 655 (G_194 M c d)) + 10)] M v M' 0 0 := Ev.back 6 (fun n => rfl) H
        have H : Ev none (e1 + 1) 227 165 [some (.ref 633), some (.int x), some (.int y), some (.int fm), some (.int mo), some (.int c), some (.int d), some (.int (G_194 M c d)), some (.int ((rI M 655 (G_194 M c d)) + 10))] [.ref 655, .int ((rI M 655 (G_194 M c d)) + 10)] M v M' 0 0 := Ev.back 1 (gs_3 rfl rfl (gf_u hS.1 qa_633 qr_61_48 qu_83 rfl)) H
        have H : Ev none (e1 + 1) 227 167 [some (.ref 633), some (.int x), some (.int y), some (.int fm), some (.int mo), some (.int c), some (.int d), some (.int (G_194 M c d)), some (.int ((rI M 655 (G_194 M c d)) + 10))] [.int c, .ref 655, .int ((rI M 655 (G_194 M c d)) + 10)] M v M' 0 0 := Ev.back 1 (fun n => rfl) H
        obtain ⟨b6, H⟩ := Ev.ial rfl rfl hS.1 qa_655 qw_83 H
        have H : Ev none (e1 + 1) 227 168 [some (.ref 633), some (.int x), some (.int y), some (.int fm), some (.int mo), some (.int c), some (.int d), some (.int (G_194 M c d)), some (.int ((rI M 655 (G_194 M c d)) + 10))] [.int (rI M 655 c), .int ((rI M 655 (G_194 M c d)) + 10)] M v M' 0 0 := H
        have H : Ev none (e1 + 1) 227 (if ((rI M 655 (G_194 M c d)) + 10) < (rI M 655 c) then 174 else 171) [some (.ref 633), some (.int x), some (.int y), some (.int fm), some (.int mo), some (.int c), some (.int d), some (.int (G_194 M c d)), some (.int ((rI M 655 (G_194 M c d)) + 10))] [] M v M' 0 0 := Ev.back 1 (fun n => rfl) H
        by_cases h7 : ((rI M 655 (G_194 M c d)) + 10) < (rI M 655 c)
        · rw [if_pos h7] at H
          have H : Ev none (e1 + 1) 227 175 [some (.ref 633), some (.int x), some (.int y), some (.int fm), some (.int mo), some (.int c), some (.int d), some (.int (G_194 M c d)), some (.int ((rI M 655 (G_194 M c d)) + 10))] [.ref 633] M v M' 0 0 := Ev.back 1 (fun n => rfl) H
          have H : Ev none (e1 + 1) 227 178 [some (.ref 633), some (.int x), some (.int y), some (.int fm), some (.int mo), some (.int c), some (.int d), some (.int (G_194 M c d)), some (.int ((rI M 655 (G_194 M c d)) + 10))] [.ref 655] M v M' 0 0 := Ev.back 1 (gs_3 rfl rfl (gf_u hS.1 qa_633 qr_61_48 qu_83 rfl)) H
          have H : Ev none (e1 + 1) 227 182 [some (.ref 633), some (.int x), some (.int y), some (.int fm), some (.int mo), some (.int c), some (.int d), some (.int (G_194 M c d)), some (.int ((rI M 655 (G_194 M c d)) + 10))] [.int ((rI M 655 (G_194 M c d)) + 10), .int c, .ref 655] M v M' 0 0 := Ev.back 2 (fun n => rfl) H
          obtain ⟨b8, H⟩ := Ev.ias rfl rfl hS.1 qa_655 qw_83 H
          obtain ⟨N9, eN9⟩ : ∃ N, N = (wI M 655 c.toNatClampNeg ((rI M 655 (G_194 M c d)) + 10)) := ⟨_, rfl⟩
          have hN9 : SQ N9 := by rw [eN9]; exact hS.ki
          have H : Ev none (e1 + 1) 227 183 [some (.ref 633), some (.int x), some (.int y), some (.int fm), some (.int mo), some (.int c), some (.int d), some (.int (G_194 M c d)), some (.int ((rI M 655 (G_194 M c d)) + 10))] [] N9 v M' 0 0 := by rw [eN9]; exact H
          have H : Ev none (e1 + 1) 227 107 [some (.ref 633), some (.int x), some (.int y), some (.int fm), some (.int 1), some (.int c), some (.int (d + 1)), some (.int (G_194 M c d)), some (.int ((rI M 655 (G_194 M c d)) + 10))] [] N9 v M' 0 0 := Ev.back 4 (fun n => rfl) H
          have HF := H
          subst eN9
          exact Or.inr (Or.inl ⟨h1, h3, h5, h7, b4, b6, b8, HF⟩)
        · rw [if_neg h7] at H
          have H : Ev none (e1 + 1) 227 107 [some (.ref 633), some (.int x), some (.int y), some (.int fm), some (.int mo), some (.int c), some (.int (d + 1)), some (.int (G_194 M c d)), some (.int ((rI M 655 (G_194 M c d)) + 10))] [] M v M' 0 0 := Ev.back 3 (fun n => rfl) H
          have HF := H
          exact Or.inr (Or.inr (Or.inl ⟨h1, h3, h5, h7, b4, b6, HF⟩))
      · rw [if_neg h5] at H
        have H : Ev none (e1 + 1) 227 162 [some (.ref 633), some (.int x), some (.int y), some (.int fm), some (.int mo), some (.int c), some (.int d), some (.int (G_194 M c d)), some (.int ((rI M 655 (G_194 M c d)) + 14))] [.ref 633, .int ((rI M 655 (G_194 M c d)) + 14)] M v M' 0 0 := Ev.back 5 (fun n => rfl) H
        have H : Ev none (e1 + 1) 227 165 [some (.ref 633), some (.int x), some (.int y), some (.int fm), some (.int mo), some (.int c), some (.int d), some (.int (G_194 M c d)), some (.int ((rI M 655 (G_194 M c d)) + 14))] [.ref 655, .int ((rI M 655 (G_194 M c d)) + 14)] M v M' 0 0 := Ev.back 1 (gs_3 rfl rfl (gf_u hS.1 qa_633 qr_61_48 qu_83 rfl)) H
        have H : Ev none (e1 + 1) 227 167 [some (.ref 633), some (.int x), some (.int y), some (.int fm), some (.int mo), some (.int c), some (.int d), some (.int (G_194 M c d)), some (.int ((rI M 655 (G_194 M c d)) + 14))] [.int c, .ref 655, .int ((rI M 655 (G_194 M c d)) + 14)] M v M' 0 0 := Ev.back 1 (fun n => rfl) H
        obtain ⟨b10, H⟩ := Ev.ial rfl rfl hS.1 qa_655 qw_83 H
        have H : Ev none (e1 + 1) 227 168 [some (.ref 633), some (.int x), some (.int y), some (.int fm), some (.int mo), some (.int c), some (.int d), some (.int (G_194 M c d)), some (.int ((rI M 655 (G_194 M c d)) + 14))] [.int (rI M 655 c), .int ((rI M 655 (G_194 M c d)) + 14)] M v M' 0 0 := H
        have H : Ev none (e1 + 1) 227 (if ((rI M 655 (G_194 M c d)) + 14) < (rI M 655 c) then 174 else 171) [some (.ref 633), some (.int x), some (.int y), some (.int fm), some (.int mo), some (.int c), some (.int d), some (.int (G_194 M c d)), some (.int ((rI M 655 (G_194 M c d)) + 14))] [] M v M' 0 0 := Ev.back 1 (fun n => rfl) H
        by_cases h11 : ((rI M 655 (G_194 M c d)) + 14) < (rI M 655 c)
        · rw [if_pos h11] at H
          have H : Ev none (e1 + 1) 227 175 [some (.ref 633), some (.int x), some (.int y), some (.int fm), some (.int mo), some (.int c), some (.int d), some (.int (G_194 M c d)), some (.int ((rI M 655 (G_194 M c d)) + 14))] [.ref 633] M v M' 0 0 := Ev.back 1 (fun n => rfl) H
          have H : Ev none (e1 + 1) 227 178 [some (.ref 633), some (.int x), some (.int y), some (.int fm), some (.int mo), some (.int c), some (.int d), some (.int (G_194 M c d)), some (.int ((rI M 655 (G_194 M c d)) + 14))] [.ref 655] M v M' 0 0 := Ev.back 1 (gs_3 rfl rfl (gf_u hS.1 qa_633 qr_61_48 qu_83 rfl)) H
          have H : Ev none (e1 + 1) 227 182 [some (.ref 633), some (.int x), some (.int y), some (.int fm), some (.int mo), some (.int c), some (.int d), some (.int (G_194 M c d)), some (.int ((rI M 655 (G_194 M c d)) + 14))] [.int ((rI M 655 (G_194 M c d)) + 14), .int c, .ref 655] M v M' 0 0 := Ev.back 2 (fun n => rfl) H
          obtain ⟨b12, H⟩ := Ev.ias rfl rfl hS.1 qa_655 qw_83 H
          obtain ⟨N13, eN13⟩ : ∃ N, N = (wI M 655 c.toNatClampNeg ((rI M 655 (G_194 M c d)) + 14)) := ⟨_, rfl⟩
          have hN13 : SQ N13 := by rw [eN13]; exact hS.ki
          have H : Ev none (e1 + 1) 227 183 [some (.ref 633), some (.int x), some (.int y), some (.int fm), some (.int mo), some (.int c), some (.int d), some (.int (G_194 M c d)), some (.int ((rI M 655 (G_194 M c d)) + 14))] [] N13 v M' 0 0 := by rw [eN13]; exact H
          have H : Ev none (e1 + 1) 227 107 [some (.ref 633), some (.int x), some (.int y), some (.int fm), some (.int 1), some (.int c), some (.int (d + 1)), some (.int (G_194 M c d)), some (.int ((rI M 655 (G_194 M c d)) + 14))] [] N13 v M' 0 0 := Ev.back 4 (fun n => rfl) H
          have HF := H
          subst eN13
          exact Or.inr (Or.inr (Or.inr (Or.inl ⟨h1, h3, h5, h11, b4, b10, b12, HF⟩)))
        · rw [if_neg h11] at H
          have H : Ev none (e1 + 1) 227 107 [some (.ref 633), some (.int x), some (.int y), some (.int fm), some (.int mo), some (.int c), some (.int (d + 1)), some (.int (G_194 M c d)), some (.int ((rI M 655 (G_194 M c d)) + 14))] [] M v M' 0 0 := Ev.back 3 (fun n => rfl) H
          have HF := H
          exact Or.inr (Or.inr (Or.inr (Or.inr (Or.inl ⟨h1, h3, h5, h11, b4, b10, HF⟩))))
    · rw [if_neg h3] at H
      have H : Ev none (e1 + 1) 227 162 [some (.ref 633), some (.int x), some (.int y), some (.int fm), some (.int mo), some (.int c), some (.int d), some (.int (G_194 M c d)), some (.int 10000000)] [.ref 633, .int 10000000] M v M' 0 0 := Ev.back 5 (fun n => rfl) H
      have H : Ev none (e1 + 1) 227 165 [some (.ref 633), some (.int x), some (.int y), some (.int fm), some (.int mo), some (.int c), some (.int d), some (.int (G_194 M c d)), some (.int 10000000)] [.ref 655, .int 10000000] M v M' 0 0 := Ev.back 1 (gs_3 rfl rfl (gf_u hS.1 qa_633 qr_61_48 qu_83 rfl)) H
      have H : Ev none (e1 + 1) 227 167 [some (.ref 633), some (.int x), some (.int y), some (.int fm), some (.int mo), some (.int c), some (.int d), some (.int (G_194 M c d)), some (.int 10000000)] [.int c, .ref 655, .int 10000000] M v M' 0 0 := Ev.back 1 (fun n => rfl) H
      obtain ⟨b14, H⟩ := Ev.ial rfl rfl hS.1 qa_655 qw_83 H
      have H : Ev none (e1 + 1) 227 168 [some (.ref 633), some (.int x), some (.int y), some (.int fm), some (.int mo), some (.int c), some (.int d), some (.int (G_194 M c d)), some (.int 10000000)] [.int (rI M 655 c), .int 10000000] M v M' 0 0 := H
      have H : Ev none (e1 + 1) 227 (if 10000000 < (rI M 655 c) then 174 else 171) [some (.ref 633), some (.int x), some (.int y), some (.int fm), some (.int mo), some (.int c), some (.int d), some (.int (G_194 M c d)), some (.int 10000000)] [] M v M' 0 0 := Ev.back 1 (fun n => rfl) H
      by_cases h15 : 10000000 < (rI M 655 c)
      · rw [if_pos h15] at H
        have H : Ev none (e1 + 1) 227 175 [some (.ref 633), some (.int x), some (.int y), some (.int fm), some (.int mo), some (.int c), some (.int d), some (.int (G_194 M c d)), some (.int 10000000)] [.ref 633] M v M' 0 0 := Ev.back 1 (fun n => rfl) H
        have H : Ev none (e1 + 1) 227 178 [some (.ref 633), some (.int x), some (.int y), some (.int fm), some (.int mo), some (.int c), some (.int d), some (.int (G_194 M c d)), some (.int 10000000)] [.ref 655] M v M' 0 0 := Ev.back 1 (gs_3 rfl rfl (gf_u hS.1 qa_633 qr_61_48 qu_83 rfl)) H
        have H : Ev none (e1 + 1) 227 182 [some (.ref 633), some (.int x), some (.int y), some (.int fm), some (.int mo), some (.int c), some (.int d), some (.int (G_194 M c d)), some (.int 10000000)] [.int 10000000, .int c, .ref 655] M v M' 0 0 := Ev.back 2 (fun n => rfl) H
        obtain ⟨b16, H⟩ := Ev.ias rfl rfl hS.1 qa_655 qw_83 H
        obtain ⟨N17, eN17⟩ : ∃ N, N = (wI M 655 c.toNatClampNeg 10000000) := ⟨_, rfl⟩
        have hN17 : SQ N17 := by rw [eN17]; exact hS.ki
        have H : Ev none (e1 + 1) 227 183 [some (.ref 633), some (.int x), some (.int y), some (.int fm), some (.int mo), some (.int c), some (.int d), some (.int (G_194 M c d)), some (.int 10000000)] [] N17 v M' 0 0 := by rw [eN17]; exact H
        have H : Ev none (e1 + 1) 227 107 [some (.ref 633), some (.int x), some (.int y), some (.int fm), some (.int 1), some (.int c), some (.int (d + 1)), some (.int (G_194 M c d)), some (.int 10000000)] [] N17 v M' 0 0 := Ev.back 4 (fun n => rfl) H
        have HF := H
        subst eN17
        exact Or.inr (Or.inr (Or.inr (Or.inr (Or.inr (Or.inl ⟨h1, h3, h15, b14, b16, HF⟩)))))
      · rw [if_neg h15] at H
        have H : Ev none (e1 + 1) 227 107 [some (.ref 633), some (.int x), some (.int y), some (.int fm), some (.int mo), some (.int c), some (.int (d + 1)), some (.int (G_194 M c d)), some (.int 10000000)] [] M v M' 0 0 := Ev.back 3 (fun n => rfl) H
        have HF := H
        exact Or.inr (Or.inr (Or.inr (Or.inr (Or.inr (Or.inr (⟨h1, h3, h15, b14, HF⟩))))))
theorem rlo_0 {e : Nat} {M M' : Mem} {v : Option Value} {x y : Int32} (hS : SQ M) (H : Ev none e 228 0 [some (.ref 633), some (.int x), some (.int y), none, none] [] M v M' 0 0) : ((G_152 (wF M 633 0 0) x) = 0 ∧ v = some (.int (-2)) ∧ M' = (wF M 633 0 0)) ∨ (¬ ((G_152 (wF M 633 0 0) x) = 0) ∧ (G_152 (wF M 633 0 0) y) = 0 ∧ v = some (.int (-2)) ∧ M' = (wF M 633 0 0)) ∨ (¬ ((G_152 (wF M 633 0 0) x) = 0) ∧ ¬ ((G_152 (wF M 633 0 0) y) = 0) ∧ x = y ∧ v = some (.int (-2)) ∧ M' = (wF M 633 0 0)) ∨ (¬ ((G_152 (wF M 633 0 0) x) = 0) ∧ ¬ ((G_152 (wF M 633 0 0) y) = 0) ∧ ¬ (x = y) ∧ (0 ≤ (3 + x).toInt ∧ (3 + x).toInt < 2314) ∧ (0 ≤ (3 + y).toInt ∧ (3 + y).toInt < 2314) ∧ (∃ e1 v1 M1, e = e1 + 1 ∧ Ev none e1 227 0 [some (.ref 633), some (.int (rI M 635 (3 + x))), some (.int (rI M 635 (3 + y))), some (.int 0), none, none, none, none, none] [] (wF M 633 0 0) v1 M1 0 0 ∧ Ev none e 228 50 [some (.ref 633), some (.int x), some (.int y), none, none] (v1.toList ++ []) M1 v M' 0 0)) := by
  have H : Ev none e 228 2 [some (.ref 633), some (.int x), some (.int y), none, none] [.int 0, .ref 633] M v M' 0 0 := Ev.back 2 (fun n => rfl) H
  obtain ⟨N2, eN2⟩ : ∃ N, N = (wF M 633 0 0) := ⟨_, rfl⟩
  have hN2 : SQ N2 := by rw [eN2]; exact hS.kf
  have H : Ev none e 228 5 [some (.ref 633), some (.int x), some (.int y), none, none] [] N2 v M' 0 0 := by rw [eN2]; exact Ev.pfi rfl rfl rfl hS.1 qa_633 qi_61_0 H
  have H : Ev none e 228 7 [some (.ref 633), some (.int x), some (.int y), none, none] [.int x, .ref 633] N2 v M' 0 0 := Ev.back 2 (fun n => rfl) H
  obtain ⟨e1, rfl⟩ := Ev.dpos rfl rfl H
  obtain ⟨vK3, MK3, K3, H⟩ := Ev.callb (fun n_ => gs_7 rfl rfl (show gCal (.invokevirtual 340) 11 (.int x :: .ref 633 :: []) N2 = some (.inr (152, [some (.ref 633), some (.int x)], [])) from by show @cond (Option ((List Value × Mem) ⊕ (Nat × Lo × List Value))) (true && gRecv N2 (.ref 633) 11 && gRoom [] && true) (some (.inr (152, [some (.ref 633), some (.int x)], []))) none = _; rw [recv_s hN2.1 qa_633 qo_61]; rfl)) H
  obtain ⟨pK3, qK3⟩ := g_152 hN2 K3
  rw [pK3, qK3] at H
  have H : Ev none (e1 + 1) 228 10 [some (.ref 633), some (.int x), some (.int y), none, none] [.int (G_152 N2 x)] N2 v M' 0 0 := H
  have H : Ev none (e1 + 1) 228 (if (G_152 N2 x) = 0 then 26 else 13) [some (.ref 633), some (.int x), some (.int y), none, none] [] N2 v M' 0 0 := Ev.back 1 (fun n => rfl) H
  by_cases h4 : (G_152 N2 x) = 0
  · rw [if_pos h4] at H
    have H : Ev none (e1 + 1) 228 28 [some (.ref 633), some (.int x), some (.int y), none, none] [.int (-2)] N2 v M' 0 0 := Ev.back 1 (fun n => rfl) H
    obtain ⟨z1, z2⟩ := Ev.retz rfl rfl H
    subst eN2
    exact Or.inl ⟨h4, z1, z2⟩
  · rw [if_neg h4] at H
    have H : Ev none (e1 + 1) 228 15 [some (.ref 633), some (.int x), some (.int y), none, none] [.int y, .ref 633] N2 v M' 0 0 := Ev.back 2 (fun n => rfl) H
    obtain ⟨vK5, MK5, K5, H⟩ := Ev.callb (fun n_ => gs_7 rfl rfl (show gCal (.invokevirtual 340) 11 (.int y :: .ref 633 :: []) N2 = some (.inr (152, [some (.ref 633), some (.int y)], [])) from by show @cond (Option ((List Value × Mem) ⊕ (Nat × Lo × List Value))) (true && gRecv N2 (.ref 633) 11 && gRoom [] && true) (some (.inr (152, [some (.ref 633), some (.int y)], []))) none = _; rw [recv_s hN2.1 qa_633 qo_61]; rfl)) H
    obtain ⟨pK5, qK5⟩ := g_152 hN2 K5
    rw [pK5, qK5] at H
    have H : Ev none (e1 + 1) 228 18 [some (.ref 633), some (.int x), some (.int y), none, none] [.int (G_152 N2 y)] N2 v M' 0 0 := H
    have H : Ev none (e1 + 1) 228 (if (G_152 N2 y) = 0 then 26 else 21) [some (.ref 633), some (.int x), some (.int y), none, none] [] N2 v M' 0 0 := Ev.back 1 (fun n => rfl) H
    by_cases h6 : (G_152 N2 y) = 0
    · rw [if_pos h6] at H
      have H : Ev none (e1 + 1) 228 28 [some (.ref 633), some (.int x), some (.int y), none, none] [.int (-2)] N2 v M' 0 0 := Ev.back 1 (fun n => rfl) H
      obtain ⟨z1, z2⟩ := Ev.retz rfl rfl H
      subst eN2
      exact Or.inr (Or.inl ⟨h4, h6, z1, z2⟩)
    · rw [if_neg h6] at H
      have H : Ev none (e1 + 1) 228 (if x = y then 26 else 29) [some (.ref 633), some (.int x), some (.int y), none, none] [] N2 v M' 0 0 := Ev.back 3 (fun n => rfl) H
      by_cases h7 : x = y
      · rw [if_pos h7] at H
        have H : Ev none (e1 + 1) 228 28 [some (.ref 633), some (.int x), some (.int y), none, none] [.int (-2)] N2 v M' 0 0 := Ev.back 1 (fun n => rfl) H
        obtain ⟨z1, z2⟩ := Ev.retz rfl rfl H
        subst eN2
        exact Or.inr (Or.inr (Or.inl ⟨h4, h6, h7, z1, z2⟩))
      · rw [if_neg h7] at H
        have H : Ev none (e1 + 1) 228 31 [some (.ref 633), some (.int x), some (.int y), none, none] [.ref 633, .ref 633] N2 v M' 0 0 := Ev.back 2 (fun n => rfl) H
        have H : Ev none (e1 + 1) 228 34 [some (.ref 633), some (.int x), some (.int y), none, none] [.ref 635, .ref 633] N2 v M' 0 0 := Ev.back 1 (gs_3 rfl rfl (gf_u hN2.1 qa_633 qr_61_5 qu_63 rfl)) H
        have H : Ev none (e1 + 1) 228 37 [some (.ref 633), some (.int x), some (.int y), none, none] [.int (3 + x), .ref 635, .ref 633] N2 v M' 0 0 := Ev.back 3 (fun n => rfl) H
        obtain ⟨b8, H⟩ := Ev.ial rfl rfl hN2.1 qa_635 qw_63 H
        have H : Ev none (e1 + 1) 228 38 [some (.ref 633), some (.int x), some (.int y), none, none] [.int (rI N2 635 (3 + x)), .ref 633] N2 v M' 0 0 := H
        rw [show rI N2 635 (3 + x) = rI M 635 (3 + x) from by rw [eN2]; exact rN_wF] at H
        have H : Ev none (e1 + 1) 228 39 [some (.ref 633), some (.int x), some (.int y), none, none] [.ref 633, .int (rI M 635 (3 + x)), .ref 633] N2 v M' 0 0 := Ev.back 1 (fun n => rfl) H
        have H : Ev none (e1 + 1) 228 42 [some (.ref 633), some (.int x), some (.int y), none, none] [.ref 635, .int (rI M 635 (3 + x)), .ref 633] N2 v M' 0 0 := Ev.back 1 (gs_3 rfl rfl (gf_u hN2.1 qa_633 qr_61_5 qu_63 rfl)) H
        have H : Ev none (e1 + 1) 228 45 [some (.ref 633), some (.int x), some (.int y), none, none] [.int (3 + y), .ref 635, .int (rI M 635 (3 + x)), .ref 633] N2 v M' 0 0 := Ev.back 3 (fun n => rfl) H
        obtain ⟨b9, H⟩ := Ev.ial rfl rfl hN2.1 qa_635 qw_63 H
        have H : Ev none (e1 + 1) 228 46 [some (.ref 633), some (.int x), some (.int y), none, none] [.int (rI N2 635 (3 + y)), .int (rI M 635 (3 + x)), .ref 633] N2 v M' 0 0 := H
        rw [show rI N2 635 (3 + y) = rI M 635 (3 + y) from by rw [eN2]; exact rN_wF] at H
        have H : Ev none (e1 + 1) 228 47 [some (.ref 633), some (.int x), some (.int y), none, none] [.int 0, .int (rI M 635 (3 + y)), .int (rI M 635 (3 + x)), .ref 633] N2 v M' 0 0 := Ev.back 1 (fun n => rfl) H
        obtain ⟨vK10, MK10, K10, H⟩ := Ev.callb (fun n_ => gs_7 rfl rfl (show gCal (.invokevirtual 469) 11 (.int 0 :: .int (rI M 635 (3 + y)) :: .int (rI M 635 (3 + x)) :: .ref 633 :: []) N2 = some (.inr (227, [some (.ref 633), some (.int (rI M 635 (3 + x))), some (.int (rI M 635 (3 + y))), some (.int 0), none, none, none, none, none], [])) from by show @cond (Option ((List Value × Mem) ⊕ (Nat × Lo × List Value))) (true && gRecv N2 (.ref 633) 11 && gRoom [] && true) (some (.inr (227, [some (.ref 633), some (.int (rI M 635 (3 + x))), some (.int (rI M 635 (3 + y))), some (.int 0), none, none, none, none, none], []))) none = _; rw [recv_s hN2.1 qa_633 qo_61]; rfl)) H
        have K10 : Ev none e1 227 0 [some (.ref 633), some (.int (rI M 635 (3 + x))), some (.int (rI M 635 (3 + y))), some (.int 0), none, none, none, none, none] [] N2 vK10 MK10 0 0 := K10
        have HF := H
        subst eN2
        exact Or.inr (Or.inr (Or.inr (⟨h4, h6, h7, b8, b9, ⟨e1, vK10, MK10, rfl, K10, HF⟩⟩)))
theorem rlo_50 {e : Nat} {M M' : Mem} {v : Option Value} {x y r : Int32} (hS : SQ M) (H : Ev none e 228 50 [some (.ref 633), some (.int x), some (.int y), none, none] [.int r] M v M' 0 0) : (0 ≤ (3 + x).toInt ∧ (3 + x).toInt < 2314) ∧ (0 ≤ (3 + y).toInt ∧ (3 + y).toInt < 2314) ∧ (∃ e1 v1 M1, e = e1 + 1 ∧ Ev none e1 227 0 [some (.ref 633), some (.int (rI M 635 (3 + x))), some (.int (rI M 635 (3 + y))), some (.int 1), none, none, none, none, none] [] M v1 M1 0 0 ∧ Ev none e 228 72 [some (.ref 633), some (.int x), some (.int y), some (.int r), none] (v1.toList ++ []) M1 v M' 0 0) := by
  have H : Ev none e 228 53 [some (.ref 633), some (.int x), some (.int y), some (.int r), none] [.ref 633, .ref 633] M v M' 0 0 := Ev.back 3 (fun n => rfl) H
  have H : Ev none e 228 56 [some (.ref 633), some (.int x), some (.int y), some (.int r), none] [.ref 635, .ref 633] M v M' 0 0 := Ev.back 1 (gs_3 rfl rfl (gf_u hS.1 qa_633 qr_61_5 qu_63 rfl)) H
  have H : Ev none e 228 59 [some (.ref 633), some (.int x), some (.int y), some (.int r), none] [.int (3 + x), .ref 635, .ref 633] M v M' 0 0 := Ev.back 3 (fun n => rfl) H
  obtain ⟨b1, H⟩ := Ev.ial rfl rfl hS.1 qa_635 qw_63 H
  have H : Ev none e 228 60 [some (.ref 633), some (.int x), some (.int y), some (.int r), none] [.int (rI M 635 (3 + x)), .ref 633] M v M' 0 0 := H
  have H : Ev none e 228 61 [some (.ref 633), some (.int x), some (.int y), some (.int r), none] [.ref 633, .int (rI M 635 (3 + x)), .ref 633] M v M' 0 0 := Ev.back 1 (fun n => rfl) H
  have H : Ev none e 228 64 [some (.ref 633), some (.int x), some (.int y), some (.int r), none] [.ref 635, .int (rI M 635 (3 + x)), .ref 633] M v M' 0 0 := Ev.back 1 (gs_3 rfl rfl (gf_u hS.1 qa_633 qr_61_5 qu_63 rfl)) H
  have H : Ev none e 228 67 [some (.ref 633), some (.int x), some (.int y), some (.int r), none] [.int (3 + y), .ref 635, .int (rI M 635 (3 + x)), .ref 633] M v M' 0 0 := Ev.back 3 (fun n => rfl) H
  obtain ⟨b2, H⟩ := Ev.ial rfl rfl hS.1 qa_635 qw_63 H
  have H : Ev none e 228 68 [some (.ref 633), some (.int x), some (.int y), some (.int r), none] [.int (rI M 635 (3 + y)), .int (rI M 635 (3 + x)), .ref 633] M v M' 0 0 := H
  have H : Ev none e 228 69 [some (.ref 633), some (.int x), some (.int y), some (.int r), none] [.int 1, .int (rI M 635 (3 + y)), .int (rI M 635 (3 + x)), .ref 633] M v M' 0 0 := Ev.back 1 (fun n => rfl) H
  obtain ⟨e1, rfl⟩ := Ev.dpos rfl rfl H
  obtain ⟨vK3, MK3, K3, H⟩ := Ev.callb (fun n_ => gs_7 rfl rfl (show gCal (.invokevirtual 469) 11 (.int 1 :: .int (rI M 635 (3 + y)) :: .int (rI M 635 (3 + x)) :: .ref 633 :: []) M = some (.inr (227, [some (.ref 633), some (.int (rI M 635 (3 + x))), some (.int (rI M 635 (3 + y))), some (.int 1), none, none, none, none, none], [])) from by show @cond (Option ((List Value × Mem) ⊕ (Nat × Lo × List Value))) (true && gRecv M (.ref 633) 11 && gRoom [] && true) (some (.inr (227, [some (.ref 633), some (.int (rI M 635 (3 + x))), some (.int (rI M 635 (3 + y))), some (.int 1), none, none, none, none, none], []))) none = _; rw [recv_s hS.1 qa_633 qo_61]; rfl)) H
  have K3 : Ev none e1 227 0 [some (.ref 633), some (.int (rI M 635 (3 + x))), some (.int (rI M 635 (3 + y))), some (.int 1), none, none, none, none, none] [] M vK3 MK3 0 0 := K3
  have HF := H
  exact ⟨b1, b2, ⟨e1, vK3, MK3, rfl, K3, HF⟩⟩
theorem rlo_72 {e : Nat} {M M' : Mem} {v : Option Value} {x y al r : Int32} (hS : SQ M) (H : Ev none e 228 72 [some (.ref 633), some (.int x), some (.int y), some (.int al), none] [.int r] M v M' 0 0) : (10000000 ≤ al ∧ v = some (.int (-1)) ∧ M' = M) ∨ (¬ (10000000 ≤ al) ∧ r < 10000000 ∧ ¬ al = 0 ∧ v = some (.int ((100 * r) / al)) ∧ M' = M) ∨ (¬ (10000000 ≤ al) ∧ ¬ (r < 10000000) ∧ v = some (.int (-1)) ∧ M' = M) := by
  have H : Ev none e 228 (if 10000000 ≤ al then 89 else 81) [some (.ref 633), some (.int x), some (.int y), some (.int al), some (.int r)] [] M v M' 0 0 := Ev.back 4 (fun n => rfl) H
  by_cases h1 : 10000000 ≤ al
  · rw [if_pos h1] at H
    have H : Ev none e 228 100 [some (.ref 633), some (.int x), some (.int y), some (.int al), some (.int r)] [.int (-1)] M v M' 0 0 := Ev.back 2 (fun n => rfl) H
    obtain ⟨z1, z2⟩ := Ev.retz rfl rfl H
    exact Or.inl ⟨h1, z1, z2⟩
  · rw [if_neg h1] at H
    have H : Ev none e 228 (if r < 10000000 then 93 else 89) [some (.ref 633), some (.int x), some (.int y), some (.int al), some (.int r)] [] M v M' 0 0 := Ev.back 3 (fun n => rfl) H
    by_cases h2 : r < 10000000
    · rw [if_pos h2] at H
      have H : Ev none e 228 99 [some (.ref 633), some (.int x), some (.int y), some (.int al), some (.int r)] [.int al, .int (100 * r)] M v M' 0 0 := Ev.back 4 (fun n => rfl) H
      obtain ⟨nz3, H⟩ := dv_i H rfl rfl
      have H : Ev none e 228 100 [some (.ref 633), some (.int x), some (.int y), some (.int al), some (.int r)] [.int ((100 * r) / al)] M v M' 0 0 := H
      obtain ⟨z1, z2⟩ := Ev.retz rfl rfl H
      exact Or.inr (Or.inl ⟨h1, h2, nz3, z1, z2⟩)
    · rw [if_neg h2] at H
      have H : Ev none e 228 100 [some (.ref 633), some (.int x), some (.int y), some (.int al), some (.int r)] [.int (-1)] M v M' 0 0 := Ev.back 2 (fun n => rfl) H
      obtain ⟨z1, z2⟩ := Ev.retz rfl rfl H
      exact Or.inr (Or.inr (⟨h1, h2, z1, z2⟩))
