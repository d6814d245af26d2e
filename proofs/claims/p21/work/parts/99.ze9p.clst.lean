/-! THE CLASS'S least: pieces (made by gwal13.py) -/
theorem lsc_0 {e : Nat} {M M' : Mem} {v : Option Value} {n : Int32} (hS : SQ M) (hL7 : fR M 104 7 = 8) (H : Ev none e 21 0 [some (.ref 192), some (.ref 344), some (.int n), none, none, none, none] [] M v M' 0 0) : Ev none e 21 11 [some (.ref 192), some (.ref 344), some (.int n), some (.ref 8), some (.int 0), none, none] [] M v M' 0 0 := by
  have H : Ev none e 21 1 [some (.ref 192), some (.ref 344), some (.int n), none, none, none, none] [.ref 192] M v M' 0 0 := Ev.back 1 (fun n => rfl) H
  have H : Ev none e 21 4 [some (.ref 192), some (.ref 344), some (.int n), none, none, none, none] [.ref 104] M v M' 0 0 := Ev.back 1 (gs_3 rfl rfl (gf_u hS.1 qa_192 qr_41_4 qu_22 rfl)) H
  have H : Ev none e 21 7 [some (.ref 192), some (.ref 344), some (.int n), none, none, none, none] [.ref (fR M 104 7)] M v M' 0 0 := Ev.back 1 (gs_3 rfl rfl (gf_r hS.1 qa_104 qr_22_7 rfl)) H
  rw [hL7] at H
  have H : Ev none e 21 11 [some (.ref 192), some (.ref 344), some (.int n), some (.ref 8), some (.int 0), none, none] [] M v M' 0 0 := Ev.back 3 (fun n => rfl) H
  have HF := H
  exact HF
theorem lsc_11 {e : Nat} {M M' : Mem} {v : Option Value} {n c : Int32} (hS : SQ M) (H : Ev none e 21 11 [some (.ref 192), some (.ref 344), some (.int n), some (.ref 8), some (.int c), none, none] [] M v M' 0 0) : ((G_6 M 8) ≤ c ∧ Ev none e 21 70 [some (.ref 192), some (.ref 344), some (.int n), some (.ref 8), some (.int (n - 1)), some (.int 1), none] [] M v M' 0 0) ∨ (¬ ((G_6 M 8) ≤ c) ∧ (G_7 M 8 c) = 0 ∧ (0 ≤ c.toInt ∧ c.toInt < 256) ∧ Ev none e 21 11 [some (.ref 192), some (.ref 344), some (.int n), some (.ref 8), some (.int (c + 1)), none, none] [] (wI M 195 c.toNatClampNeg 1000000) v M' 0 0) ∨ (¬ ((G_6 M 8) ≤ c) ∧ ¬ ((G_7 M 8 c) = 0) ∧ (G_8 M 8 c) = 0 ∧ (0 ≤ c.toInt ∧ c.toInt < 256) ∧ Ev none e 21 11 [some (.ref 192), some (.ref 344), some (.int n), some (.ref 8), some (.int (c + 1)), none, none] [] (wI M 195 c.toNatClampNeg 1) v M' 0 0) ∨ (¬ ((G_6 M 8) ≤ c) ∧ ¬ ((G_7 M 8 c) = 0) ∧ ¬ ((G_8 M 8 c) = 0) ∧ (0 ≤ c.toInt ∧ c.toInt < 256) ∧ Ev none e 21 11 [some (.ref 192), some (.ref 344), some (.int n), some (.ref 8), some (.int (c + 1)), none, none] [] (wI M 195 c.toNatClampNeg 21) v M' 0 0) := by
  have H : Ev none e 21 14 [some (.ref 192), some (.ref 344), some (.int n), some (.ref 8), some (.int c), none, none] [.ref 8, .int c] M v M' 0 0 := Ev.back 2 (fun n => rfl) H
  obtain ⟨e1, rfl⟩ := Ev.dpos rfl rfl H
  obtain ⟨vK1, MK1, K1, H⟩ := Ev.callb (fun n_ => gs_7 rfl rfl (show gCal (.invokevirtual 41) 2 (.ref 8 :: [.int c]) M = some (.inr (6, [some (.ref 8)], [.int c])) from by show @cond (Option ((List Value × Mem) ⊕ (Nat × Lo × List Value))) (true && gRecv M (.ref 8) 1 && gRoom [.int c] && true) (some (.inr (6, [some (.ref 8)], [.int c]))) none = _; rw [recv_s hS.1 qa_8 qo_8]; rfl)) H
  obtain ⟨pK1, qK1⟩ := g_6 hS qa_8 K1
  rw [pK1, qK1] at H
  have H : Ev none (e1 + 1) 21 17 [some (.ref 192), some (.ref 344), some (.int n), some (.ref 8), some (.int c), none, none] [.int (G_6 M 8), .int c] M v M' 0 0 := H
  have H : Ev none (e1 + 1) 21 (if (G_6 M 8) ≤ c then 62 else 20) [some (.ref 192), some (.ref 344), some (.int n), some (.ref 8), some (.int c), none, none] [] M v M' 0 0 := Ev.back 1 (fun n => rfl) H
  by_cases h2 : (G_6 M 8) ≤ c
  · rw [if_pos h2] at H
    have H : Ev none (e1 + 1) 21 70 [some (.ref 192), some (.ref 344), some (.int n), some (.ref 8), some (.int (n - 1)), some (.int 1), none] [] M v M' 0 0 := Ev.back 6 (fun n => rfl) H
    have HF := H
    exact Or.inl ⟨h2, HF⟩
  · rw [if_neg h2] at H
    have H : Ev none (e1 + 1) 21 21 [some (.ref 192), some (.ref 344), some (.int n), some (.ref 8), some (.int c), none, none] [.ref 192] M v M' 0 0 := Ev.back 1 (fun n => rfl) H
    have H : Ev none (e1 + 1) 21 24 [some (.ref 192), some (.ref 344), some (.int n), some (.ref 8), some (.int c), none, none] [.ref 195] M v M' 0 0 := Ev.back 1 (gs_3 rfl rfl (gf_u hS.1 qa_192 qr_41_2 qu_44 rfl)) H
    have H : Ev none (e1 + 1) 21 29 [some (.ref 192), some (.ref 344), some (.int n), some (.ref 8), some (.int c), none, none] [.int c, .ref 8, .int c, .ref 195] M v M' 0 0 := Ev.back 3 (fun n => rfl) H
    obtain ⟨vK3, MK3, K3, H⟩ := Ev.callb (fun n_ => gs_7 rfl rfl (show gCal (.invokevirtual 71) 2 (.int c :: .ref 8 :: [.int c, .ref 195]) M = some (.inr (7, [some (.ref 8), some (.int c)], [.int c, .ref 195])) from by show @cond (Option ((List Value × Mem) ⊕ (Nat × Lo × List Value))) (true && gRecv M (.ref 8) 1 && gRoom [.int c, .ref 195] && true) (some (.inr (7, [some (.ref 8), some (.int c)], [.int c, .ref 195]))) none = _; rw [recv_s hS.1 qa_8 qo_8]; rfl)) H
    obtain ⟨pK3, qK3⟩ := g_7 hS qa_8 K3
    rw [pK3, qK3] at H
    have H : Ev none (e1 + 1) 21 32 [some (.ref 192), some (.ref 344), some (.int n), some (.ref 8), some (.int c), none, none] [.int (G_7 M 8 c), .int c, .ref 195] M v M' 0 0 := H
    have H : Ev none (e1 + 1) 21 (if (G_7 M 8 c) = 0 then 35 else 40) [some (.ref 192), some (.ref 344), some (.int n), some (.ref 8), some (.int c), none, none] [.int c, .ref 195] M v M' 0 0 := Ev.back 1 (fun n => rfl) H
    by_cases h4 : (G_7 M 8 c) = 0
    · rw [if_pos h4] at H
      have H : Ev none (e1 + 1) 21 55 [some (.ref 192), some (.ref 344), some (.int n), some (.ref 8), some (.int c), none, none] [.int 1000000, .int c, .ref 195] M v M' 0 0 := Ev.back 2 (fun n => rfl) H
      obtain ⟨b5, H⟩ := Ev.ias rfl rfl hS.1 qa_195 qw_44 H
      obtain ⟨N6, eN6⟩ : ∃ N, N = (wI M 195 c.toNatClampNeg 1000000) := ⟨_, rfl⟩
      have hN6 : SQ N6 := by rw [eN6]; exact hS.ki
      have H : Ev none (e1 + 1) 21 56 [some (.ref 192), some (.ref 344), some (.int n), some (.ref 8), some (.int c), none, none] [] N6 v M' 0 0 := by rw [eN6]; exact H
      have H : Ev none (e1 + 1) 21 11 [some (.ref 192), some (.ref 344), some (.int n), some (.ref 8), some (.int (c + 1)), none, none] [] N6 v M' 0 0 := Ev.back 2 (fun n => rfl) H
      have HF := H
      subst eN6
      exact Or.inr (Or.inl ⟨h2, h4, b5, HF⟩)
    · rw [if_neg h4] at H
      have H : Ev none (e1 + 1) 21 43 [some (.ref 192), some (.ref 344), some (.int n), some (.ref 8), some (.int c), none, none] [.int c, .ref 8, .int c, .ref 195] M v M' 0 0 := Ev.back 2 (fun n => rfl) H
      obtain ⟨vK7, MK7, K7, H⟩ := Ev.callb (fun n_ => gs_7 rfl rfl (show gCal (.invokevirtual 80) 2 (.int c :: .ref 8 :: [.int c, .ref 195]) M = some (.inr (8, [some (.ref 8), some (.int c)], [.int c, .ref 195])) from by show @cond (Option ((List Value × Mem) ⊕ (Nat × Lo × List Value))) (true && gRecv M (.ref 8) 1 && gRoom [.int c, .ref 195] && true) (some (.inr (8, [some (.ref 8), some (.int c)], [.int c, .ref 195]))) none = _; rw [recv_s hS.1 qa_8 qo_8]; rfl)) H
      obtain ⟨pK7, qK7⟩ := g_8 hS qa_8 K7
      rw [pK7, qK7] at H
      have H : Ev none (e1 + 1) 21 46 [some (.ref 192), some (.ref 344), some (.int n), some (.ref 8), some (.int c), none, none] [.int (G_8 M 8 c), .int c, .ref 195] M v M' 0 0 := H
      have H : Ev none (e1 + 1) 21 (if (G_8 M 8 c) = 0 then 54 else 49) [some (.ref 192), some (.ref 344), some (.int n), some (.ref 8), some (.int c), none, none] [.int c, .ref 195] M v M' 0 0 := Ev.back 1 (fun n => rfl) H
      by_cases h8 : (G_8 M 8 c) = 0
      · rw [if_pos h8] at H
        have H : Ev none (e1 + 1) 21 55 [some (.ref 192), some (.ref 344), some (.int n), some (.ref 8), some (.int c), none, none] [.int 1, .int c, .ref 195] M v M' 0 0 := Ev.back 1 (fun n => rfl) H
        obtain ⟨b9, H⟩ := Ev.ias rfl rfl hS.1 qa_195 qw_44 H
        obtain ⟨N10, eN10⟩ : ∃ N, N = (wI M 195 c.toNatClampNeg 1) := ⟨_, rfl⟩
        have hN10 : SQ N10 := by rw [eN10]; exact hS.ki
        have H : Ev none (e1 + 1) 21 56 [some (.ref 192), some (.ref 344), some (.int n), some (.ref 8), some (.int c), none, none] [] N10 v M' 0 0 := by rw [eN10]; exact H
        have H : Ev none (e1 + 1) 21 11 [some (.ref 192), some (.ref 344), some (.int n), some (.ref 8), some (.int (c + 1)), none, none] [] N10 v M' 0 0 := Ev.back 2 (fun n => rfl) H
        have HF := H
        subst eN10
        exact Or.inr (Or.inr (Or.inl ⟨h2, h4, h8, b9, HF⟩))
      · rw [if_neg h8] at H
        have H : Ev none (e1 + 1) 21 55 [some (.ref 192), some (.ref 344), some (.int n), some (.ref 8), some (.int c), none, none] [.int 21, .int c, .ref 195] M v M' 0 0 := Ev.back 2 (fun n => rfl) H
        obtain ⟨b11, H⟩ := Ev.ias rfl rfl hS.1 qa_195 qw_44 H
        obtain ⟨N12, eN12⟩ : ∃ N, N = (wI M 195 c.toNatClampNeg 21) := ⟨_, rfl⟩
        have hN12 : SQ N12 := by rw [eN12]; exact hS.ki
        have H : Ev none (e1 + 1) 21 56 [some (.ref 192), some (.ref 344), some (.int n), some (.ref 8), some (.int c), none, none] [] N12 v M' 0 0 := by rw [eN12]; exact H
        have H : Ev none (e1 + 1) 21 11 [some (.ref 192), some (.ref 344), some (.int n), some (.ref 8), some (.int (c + 1)), none, none] [] N12 v M' 0 0 := Ev.back 2 (fun n => rfl) H
        have HF := H
        subst eN12
        exact Or.inr (Or.inr (Or.inr (⟨h2, h4, h8, b11, HF⟩)))
theorem lsc_70 {e : Nat} {M M' : Mem} {v : Option Value} {n la s : Int32} {o6 : Option Value} (hS : SQ M) (H : Ev none e 21 70 [some (.ref 192), some (.ref 344), some (.int n), some (.ref 8), some (.int la), some (.int s), o6] [] M v M' 0 0) : (((1 : Int32) <<< (la &&& 31)) ≤ s ∧ (rI M (oI M 196 (((1 : Int32) <<< (la &&& 31)) - 1)) (rI M 344 la)) < 1000000 ∧ (0 ≤ (((1 : Int32) <<< (la &&& 31)) - 1).toInt ∧ (((1 : Int32) <<< (la &&& 31)) - 1).toInt < 32) ∧ (0 ≤ la.toInt ∧ la.toInt < 6) ∧ (0 ≤ (rI M 344 la).toInt ∧ (rI M 344 la).toInt < 256) ∧ v = some (.int (rI M (oI M 196 (((1 : Int32) <<< (la &&& 31)) - 1)) (rI M 344 la))) ∧ M' = M) ∨ (((1 : Int32) <<< (la &&& 31)) ≤ s ∧ ¬ ((rI M (oI M 196 (((1 : Int32) <<< (la &&& 31)) - 1)) (rI M 344 la)) < 1000000) ∧ (0 ≤ (((1 : Int32) <<< (la &&& 31)) - 1).toInt ∧ (((1 : Int32) <<< (la &&& 31)) - 1).toInt < 32) ∧ (0 ≤ la.toInt ∧ la.toInt < 6) ∧ (0 ≤ (rI M 344 la).toInt ∧ (rI M 344 la).toInt < 256) ∧ v = some (.int (-1)) ∧ M' = M) ∨ (¬ (((1 : Int32) <<< (la &&& 31)) ≤ s) ∧ (0 ≤ s.toInt ∧ s.toInt < 32) ∧ Ev none e 21 94 [some (.ref 192), some (.ref 344), some (.int n), some (.ref 8), some (.int la), some (.int s), some (.int 0)] [] (wA M (oI M 196 s) 1000000) v M' 0 0) := by
  have H : Ev none e 21 (if ((1 : Int32) <<< (la &&& 31)) ≤ s then 190 else 79) [some (.ref 192), some (.ref 344), some (.int n), some (.ref 8), some (.int la), some (.int s), o6] [] M v M' 0 0 := Ev.back 5 (fun n => rfl) H
  by_cases h1 : ((1 : Int32) <<< (la &&& 31)) ≤ s
  · rw [if_pos h1] at H
    have H : Ev none e 21 191 [some (.ref 192), some (.ref 344), some (.int n), some (.ref 8), some (.int la), some (.int s), o6] [.ref 192] M v M' 0 0 := Ev.back 1 (fun n => rfl) H
    have H : Ev none e 21 194 [some (.ref 192), some (.ref 344), some (.int n), some (.ref 8), some (.int la), some (.int s), o6] [.ref 196] M v M' 0 0 := Ev.back 1 (gs_3 rfl rfl (gf_u hS.1 qa_192 qr_41_3 qu_45 rfl)) H
    have H : Ev none e 21 200 [some (.ref 192), some (.ref 344), some (.int n), some (.ref 8), some (.int la), some (.int s), o6] [.int (((1 : Int32) <<< (la &&& 31)) - 1), .ref 196] M v M' 0 0 := Ev.back 5 (fun n => rfl) H
    obtain ⟨b2, H⟩ := Ev.aal rfl rfl hS.1 qa_196 qz_45 H
    have H : Ev none e 21 201 [some (.ref 192), some (.ref 344), some (.int n), some (.ref 8), some (.int la), some (.int s), o6] [.ref (oI M 196 (((1 : Int32) <<< (la &&& 31)) - 1))] M v M' 0 0 := H
    have H : Ev none e 21 204 [some (.ref 192), some (.ref 344), some (.int n), some (.ref 8), some (.int la), some (.int s), o6] [.int la, .ref 344, .ref (oI M 196 (((1 : Int32) <<< (la &&& 31)) - 1))] M v M' 0 0 := Ev.back 2 (fun n => rfl) H
    obtain ⟨b3, H⟩ := Ev.ial rfl rfl hS.1 qa_344 qw_60 H
    have H : Ev none e 21 205 [some (.ref 192), some (.ref 344), some (.int n), some (.ref 8), some (.int la), some (.int s), o6] [.int (rI M 344 la), .ref (oI M 196 (((1 : Int32) <<< (la &&& 31)) - 1))] M v M' 0 0 := H
    obtain ⟨b4, H⟩ := Ev.ial rfl rfl hS.1 b2.2 qw_43 H
    have H : Ev none e 21 206 [some (.ref 192), some (.ref 344), some (.int n), some (.ref 8), some (.int la), some (.int s), o6] [.int (rI M (oI M 196 (((1 : Int32) <<< (la &&& 31)) - 1)) (rI M 344 la))] M v M' 0 0 := H
    have H : Ev none e 21 (if (rI M (oI M 196 (((1 : Int32) <<< (la &&& 31)) - 1)) (rI M 344 la)) < 1000000 then 219 else 215) [some (.ref 192), some (.ref 344), some (.int n), some (.ref 8), some (.int la), some (.int (rI M (oI M 196 (((1 : Int32) <<< (la &&& 31)) - 1)) (rI M 344 la))), o6] [] M v M' 0 0 := Ev.back 4 (fun n => rfl) H
    by_cases h5 : (rI M (oI M 196 (((1 : Int32) <<< (la &&& 31)) - 1)) (rI M 344 la)) < 1000000
    · rw [if_pos h5] at H
      have H : Ev none e 21 221 [some (.ref 192), some (.ref 344), some (.int n), some (.ref 8), some (.int la), some (.int (rI M (oI M 196 (((1 : Int32) <<< (la &&& 31)) - 1)) (rI M 344 la))), o6] [.int (rI M (oI M 196 (((1 : Int32) <<< (la &&& 31)) - 1)) (rI M 344 la))] M v M' 0 0 := Ev.back 1 (fun n => rfl) H
      obtain ⟨z1, z2⟩ := Ev.retz rfl rfl H
      exact Or.inl ⟨h1, h5, b2.1, b3, b4, z1, z2⟩
    · rw [if_neg h5] at H
      have H : Ev none e 21 221 [some (.ref 192), some (.ref 344), some (.int n), some (.ref 8), some (.int la), some (.int (rI M (oI M 196 (((1 : Int32) <<< (la &&& 31)) - 1)) (rI M 344 la))), o6] [.int (-1)] M v M' 0 0 := Ev.back 2 (fun n => rfl) H
      obtain ⟨z1, z2⟩ := Ev.retz rfl rfl H
      exact Or.inr (Or.inl ⟨h1, h5, b2.1, b3, b4, z1, z2⟩)
  · rw [if_neg h1] at H
    have H : Ev none e 21 80 [some (.ref 192), some (.ref 344), some (.int n), some (.ref 8), some (.int la), some (.int s), o6] [.ref 192] M v M' 0 0 := Ev.back 1 (fun n => rfl) H
    have H : Ev none e 21 83 [some (.ref 192), some (.ref 344), some (.int n), some (.ref 8), some (.int la), some (.int s), o6] [.ref 196] M v M' 0 0 := Ev.back 1 (gs_3 rfl rfl (gf_u hS.1 qa_192 qr_41_3 qu_45 rfl)) H
    have H : Ev none e 21 85 [some (.ref 192), some (.ref 344), some (.int n), some (.ref 8), some (.int la), some (.int s), o6] [.int s, .ref 196] M v M' 0 0 := Ev.back 1 (fun n => rfl) H
    obtain ⟨b6, H⟩ := Ev.aal rfl rfl hS.1 qa_196 qz_45 H
    have H : Ev none e 21 86 [some (.ref 192), some (.ref 344), some (.int n), some (.ref 8), some (.int la), some (.int s), o6] [.ref (oI M 196 s)] M v M' 0 0 := H
    have H : Ev none e 21 88 [some (.ref 192), some (.ref 344), some (.int n), some (.ref 8), some (.int la), some (.int s), o6] [.int 1000000, .ref (oI M 196 s)] M v M' 0 0 := Ev.back 1 (fun n => rfl) H
    have H := Ev.fil rfl rfl (fun _ _ => rfl) hS.1 b6.2 qw_43 H
    obtain ⟨N7, eN7⟩ : ∃ N, N = (wA M (oI M 196 s) 1000000) := ⟨_, rfl⟩
    have hN7 : SQ N7 := by rw [eN7]; exact hS.ka
    have H : Ev none e 21 91 [some (.ref 192), some (.ref 344), some (.int n), some (.ref 8), some (.int la), some (.int s), o6] [] N7 v M' 0 0 := by rw [eN7]; exact H
    have H : Ev none e 21 94 [some (.ref 192), some (.ref 344), some (.int n), some (.ref 8), some (.int la), some (.int s), some (.int 0)] [] N7 v M' 0 0 := Ev.back 2 (fun n => rfl) H
    have HF := H
    subst eN7
    exact Or.inr (Or.inr (⟨h1, b6.1, HF⟩))
theorem lsc_94 {e : Nat} {M M' : Mem} {v : Option Value} {n la s i : Int32} (hS : SQ M) (H : Ev none e 21 94 [some (.ref 192), some (.ref 344), some (.int n), some (.ref 8), some (.int la), some (.int s), some (.int i)] [] M v M' 0 0) : (la ≤ i ∧ Ev none e 21 146 [some (.ref 192), some (.ref 344), some (.int n), some (.ref 8), some (.int la), some (.int s), some (.int ((s - 1) &&& s))] [] M v M' 0 0) ∨ (¬ (la ≤ i) ∧ s = ((1 : Int32) <<< (i &&& 31)) ∧ (0 ≤ s.toInt ∧ s.toInt < 32) ∧ (0 ≤ i.toInt ∧ i.toInt < 6) ∧ (0 ≤ i.toInt ∧ i.toInt < 6) ∧ (0 ≤ (rI M 344 i).toInt ∧ (rI M 344 i).toInt < 256) ∧ (0 ≤ (rI M 344 i).toInt ∧ (rI M 344 i).toInt < 256) ∧ Ev none e 21 94 [some (.ref 192), some (.ref 344), some (.int n), some (.ref 8), some (.int la), some (.int s), some (.int (i + 1))] [] (wI M (oI M 196 s) ((rI M 344 i).toNatClampNeg) (rI M 195 (rI M 344 i))) v M' 0 0) ∨ (¬ (la ≤ i) ∧ ¬ (s = ((1 : Int32) <<< (i &&& 31))) ∧ Ev none e 21 94 [some (.ref 192), some (.ref 344), some (.int n), some (.ref 8), some (.int la), some (.int s), some (.int (i + 1))] [] M v M' 0 0) := by
  have H : Ev none e 21 (if la ≤ i then 137 else 101) [some (.ref 192), some (.ref 344), some (.int n), some (.ref 8), some (.int la), some (.int s), some (.int i)] [] M v M' 0 0 := Ev.back 3 (fun n => rfl) H
  by_cases h1 : la ≤ i
  · rw [if_pos h1] at H
    have H : Ev none e 21 146 [some (.ref 192), some (.ref 344), some (.int n), some (.ref 8), some (.int la), some (.int s), some (.int ((s - 1) &&& s))] [] M v M' 0 0 := Ev.back 6 (fun n => rfl) H
    have HF := H
    exact Or.inl ⟨h1, HF⟩
  · rw [if_neg h1] at H
    have H : Ev none e 21 (if s = ((1 : Int32) <<< (i &&& 31)) then 110 else 131) [some (.ref 192), some (.ref 344), some (.int n), some (.ref 8), some (.int la), some (.int s), some (.int i)] [] M v M' 0 0 := Ev.back 5 (fun n => rfl) H
    by_cases h2 : s = ((1 : Int32) <<< (i &&& 31))
    · rw [if_pos h2] at H
      have H : Ev none e 21 111 [some (.ref 192), some (.ref 344), some (.int n), some (.ref 8), some (.int la), some (.int s), some (.int i)] [.ref 192] M v M' 0 0 := Ev.back 1 (fun n => rfl) H
      have H : Ev none e 21 114 [some (.ref 192), some (.ref 344), some (.int n), some (.ref 8), some (.int la), some (.int s), some (.int i)] [.ref 196] M v M' 0 0 := Ev.back 1 (gs_3 rfl rfl (gf_u hS.1 qa_192 qr_41_3 qu_45 rfl)) H
      have H : Ev none e 21 116 [some (.ref 192), some (.ref 344), some (.int n), some (.ref 8), some (.int la), some (.int s), some (.int i)] [.int s, .ref 196] M v M' 0 0 := Ev.back 1 (fun n => rfl) H
      obtain ⟨b3, H⟩ := Ev.aal rfl rfl hS.1 qa_196 qz_45 H
      have H : Ev none e 21 117 [some (.ref 192), some (.ref 344), some (.int n), some (.ref 8), some (.int la), some (.int s), some (.int i)] [.ref (oI M 196 s)] M v M' 0 0 := H
      have H : Ev none e 21 120 [some (.ref 192), some (.ref 344), some (.int n), some (.ref 8), some (.int la), some (.int s), some (.int i)] [.int i, .ref 344, .ref (oI M 196 s)] M v M' 0 0 := Ev.back 2 (fun n => rfl) H
      obtain ⟨b4, H⟩ := Ev.ial rfl rfl hS.1 qa_344 qw_60 H
      have H : Ev none e 21 121 [some (.ref 192), some (.ref 344), some (.int n), some (.ref 8), some (.int la), some (.int s), some (.int i)] [.int (rI M 344 i), .ref (oI M 196 s)] M v M' 0 0 := H
      have H : Ev none e 21 122 [some (.ref 192), some (.ref 344), some (.int n), some (.ref 8), some (.int la), some (.int s), some (.int i)] [.ref 192, .int (rI M 344 i), .ref (oI M 196 s)] M v M' 0 0 := Ev.back 1 (fun n => rfl) H
      have H : Ev none e 21 125 [some (.ref 192), some (.ref 344), some (.int n), some (.ref 8), some (.int la), some (.int s), some (.int i)] [.ref 195, .int (rI M 344 i), .ref (oI M 196 s)] M v M' 0 0 := Ev.back 1 (gs_3 rfl rfl (gf_u hS.1 qa_192 qr_41_2 qu_44 rfl)) H
      have H : Ev none e 21 128 [some (.ref 192), some (.ref 344), some (.int n), some (.ref 8), some (.int la), some (.int s), some (.int i)] [.int i, .ref 344, .ref 195, .int (rI M 344 i), .ref (oI M 196 s)] M v M' 0 0 := Ev.back 2 (fun n => rfl) H
      obtain ⟨b5, H⟩ := Ev.ial rfl rfl hS.1 qa_344 qw_60 H
      have H : Ev none e 21 129 [some (.ref 192), some (.ref 344), some (.int n), some (.ref 8), some (.int la), some (.int s), some (.int i)] [.int (rI M 344 i), .ref 195, .int (rI M 344 i), .ref (oI M 196 s)] M v M' 0 0 := H
      obtain ⟨b6, H⟩ := Ev.ial rfl rfl hS.1 qa_195 qw_44 H
      have H : Ev none e 21 130 [some (.ref 192), some (.ref 344), some (.int n), some (.ref 8), some (.int la), some (.int s), some (.int i)] [.int (rI M 195 (rI M 344 i)), .int (rI M 344 i), .ref (oI M 196 s)] M v M' 0 0 := H
      obtain ⟨b7, H⟩ := Ev.ias rfl rfl hS.1 b3.2 qw_43 H
      obtain ⟨N8, eN8⟩ : ∃ N, N = (wI M (oI M 196 s) ((rI M 344 i).toNatClampNeg) (rI M 195 (rI M 344 i))) := ⟨_, rfl⟩
      have hN8 : SQ N8 := by rw [eN8]; exact hS.ki
      have H : Ev none e 21 131 [some (.ref 192), some (.ref 344), some (.int n), some (.ref 8), some (.int la), some (.int s), some (.int i)] [] N8 v M' 0 0 := by rw [eN8]; exact H
      have H : Ev none e 21 94 [some (.ref 192), some (.ref 344), some (.int n), some (.ref 8), some (.int la), some (.int s), some (.int (i + 1))] [] N8 v M' 0 0 := Ev.back 2 (fun n => rfl) H
      have HF := H
      subst eN8
      exact Or.inr (Or.inl ⟨h1, h2, b3.1, b4, b5, b6, b7, HF⟩)
    · rw [if_neg h2] at H
      have H : Ev none e 21 94 [some (.ref 192), some (.ref 344), some (.int n), some (.ref 8), some (.int la), some (.int s), some (.int (i + 1))] [] M v M' 0 0 := Ev.back 2 (fun n => rfl) H
      have HF := H
      exact Or.inr (Or.inr (⟨h1, h2, HF⟩))
theorem lsc_146 {e : Nat} {M M' : Mem} {v : Option Value} {n la s p : Int32} (hS : SQ M) (H : Ev none e 21 146 [some (.ref 192), some (.ref 344), some (.int n), some (.ref 8), some (.int la), some (.int s), some (.int p)] [] M v M' 0 0) : (p ≤ 0 ∧ (0 ≤ s.toInt ∧ s.toInt < 32) ∧ (∃ e1 v1 M1, e = e1 + 1 ∧ Ev none e1 23 0 [some (.ref 192), some (.ref (oI M 196 s)), some (.int 0), some (.int 0), none, none, none, none] [] M v1 M1 0 0 ∧ Ev none e 21 184 [some (.ref 192), some (.ref 344), some (.int n), some (.ref 8), some (.int la), some (.int s), some (.int p)] (v1.toList ++ []) M1 v M' 0 0)) ∨ (¬ (p ≤ 0) ∧ (∃ e1 v1 M1, e = e1 + 1 ∧ Ev none e1 22 0 [some (.ref 192), some (.int s), some (.int p), none, none, none] [] M v1 M1 0 0 ∧ Ev none e 21 159 [some (.ref 192), some (.ref 344), some (.int n), some (.ref 8), some (.int la), some (.int s), some (.int p)] (v1.toList ++ []) M1 v M' 0 0)) := by
  have H : Ev none e 21 (if p ≤ 0 then 171 else 151) [some (.ref 192), some (.ref 344), some (.int n), some (.ref 8), some (.int la), some (.int s), some (.int p)] [] M v M' 0 0 := Ev.back 2 (fun n => rfl) H
  by_cases h1 : p ≤ 0
  · rw [if_pos h1] at H
    have H : Ev none e 21 173 [some (.ref 192), some (.ref 344), some (.int n), some (.ref 8), some (.int la), some (.int s), some (.int p)] [.ref 192, .ref 192] M v M' 0 0 := Ev.back 2 (fun n => rfl) H
    have H : Ev none e 21 176 [some (.ref 192), some (.ref 344), some (.int n), some (.ref 8), some (.int la), some (.int s), some (.int p)] [.ref 196, .ref 192] M v M' 0 0 := Ev.back 1 (gs_3 rfl rfl (gf_u hS.1 qa_192 qr_41_3 qu_45 rfl)) H
    have H : Ev none e 21 178 [some (.ref 192), some (.ref 344), some (.int n), some (.ref 8), some (.int la), some (.int s), some (.int p)] [.int s, .ref 196, .ref 192] M v M' 0 0 := Ev.back 1 (fun n => rfl) H
    obtain ⟨b2, H⟩ := Ev.aal rfl rfl hS.1 qa_196 qz_45 H
    have H : Ev none e 21 179 [some (.ref 192), some (.ref 344), some (.int n), some (.ref 8), some (.int la), some (.int s), some (.int p)] [.ref (oI M 196 s), .ref 192] M v M' 0 0 := H
    have H : Ev none e 21 181 [some (.ref 192), some (.ref 344), some (.int n), some (.ref 8), some (.int la), some (.int s), some (.int p)] [.int 0, .int 0, .ref (oI M 196 s), .ref 192] M v M' 0 0 := Ev.back 2 (fun n => rfl) H
    obtain ⟨e1, rfl⟩ := Ev.dpos rfl rfl H
    obtain ⟨vK3, MK3, K3, H⟩ := Ev.callb (fun n_ => gs_7 rfl rfl (show gCal (.invokevirtual 60) 2 (.int 0 :: .int 0 :: .ref (oI M 196 s) :: .ref 192 :: []) M = some (.inr (23, [some (.ref 192), some (.ref (oI M 196 s)), some (.int 0), some (.int 0), none, none, none, none], [])) from by show @cond (Option ((List Value × Mem) ⊕ (Nat × Lo × List Value))) (true && gRecv M (.ref 192) 2 && gRoom [] && true) (some (.inr (23, [some (.ref 192), some (.ref (oI M 196 s)), some (.int 0), some (.int 0), none, none, none, none], []))) none = _; rw [recv_s hS.1 qa_192 qo_41]; rfl)) H
    have K3 : Ev none e1 23 0 [some (.ref 192), some (.ref (oI M 196 s)), some (.int 0), some (.int 0), none, none, none, none] [] M vK3 MK3 0 0 := K3
    have HF := H
    exact Or.inl ⟨h1, b2.1, ⟨e1, vK3, MK3, rfl, K3, HF⟩⟩
  · rw [if_neg h1] at H
    have H : Ev none e 21 156 [some (.ref 192), some (.ref 344), some (.int n), some (.ref 8), some (.int la), some (.int s), some (.int p)] [.int p, .int s, .ref 192] M v M' 0 0 := Ev.back 3 (fun n => rfl) H
    obtain ⟨e1, rfl⟩ := Ev.dpos rfl rfl H
    obtain ⟨vK4, MK4, K4, H⟩ := Ev.callb (fun n_ => gs_7 rfl rfl (show gCal (.invokevirtual 83) 2 (.int p :: .int s :: .ref 192 :: []) M = some (.inr (22, [some (.ref 192), some (.int s), some (.int p), none, none, none], [])) from by show @cond (Option ((List Value × Mem) ⊕ (Nat × Lo × List Value))) (true && gRecv M (.ref 192) 2 && gRoom [] && true) (some (.inr (22, [some (.ref 192), some (.int s), some (.int p), none, none, none], []))) none = _; rw [recv_s hS.1 qa_192 qo_41]; rfl)) H
    have K4 : Ev none e1 22 0 [some (.ref 192), some (.int s), some (.int p), none, none, none] [] M vK4 MK4 0 0 := K4
    have HF := H
    exact Or.inr (⟨h1, ⟨e1, vK4, MK4, rfl, K4, HF⟩⟩)
theorem lsc_159 {e : Nat} {M M' : Mem} {v : Option Value} {n la s p : Int32} (hS : SQ M) (H : Ev none e 21 159 [some (.ref 192), some (.ref 344), some (.int n), some (.ref 8), some (.int la), some (.int s), some (.int p)] [] M v M' 0 0) : Ev none e 21 146 [some (.ref 192), some (.ref 344), some (.int n), some (.ref 8), some (.int la), some (.int s), some (.int ((p - 1) &&& s))] [] M v M' 0 0 := by
  have H : Ev none e 21 146 [some (.ref 192), some (.ref 344), some (.int n), some (.ref 8), some (.int la), some (.int s), some (.int ((p - 1) &&& s))] [] M v M' 0 0 := Ev.back 7 (fun n => rfl) H
  have HF := H
  exact HF
theorem lsc_184 {e : Nat} {M M' : Mem} {v : Option Value} {n la s p : Int32} (hS : SQ M) (H : Ev none e 21 184 [some (.ref 192), some (.ref 344), some (.int n), some (.ref 8), some (.int la), some (.int s), some (.int p)] [] M v M' 0 0) : Ev none e 21 70 [some (.ref 192), some (.ref 344), some (.int n), some (.ref 8), some (.int la), some (.int (s + 1)), some (.int p)] [] M v M' 0 0 := by
  have H : Ev none e 21 70 [some (.ref 192), some (.ref 344), some (.int n), some (.ref 8), some (.int la), some (.int (s + 1)), some (.int p)] [] M v M' 0 0 := Ev.back 2 (fun n => rfl) H
  have HF := H
  exact HF
theorem mee_0 {e : Nat} {M M' : Mem} {v : Option Value} {s p : Int32} (hS : SQ M) (hL7 : fR M 104 7 = 8) (H : Ev none e 22 0 [some (.ref 192), some (.int s), some (.int p), none, none, none] [] M v M' 0 0) : (0 ≤ p.toInt ∧ p.toInt < 32) ∧ (0 ≤ (s ^^^ p).toInt ∧ (s ^^^ p).toInt < 32) ∧ Ev none e 22 20 [some (.ref 192), some (.int s), some (.int p), some (.ref (oI M 196 p)), some (.ref (oI M 196 (s ^^^ p))), some (.int 0)] [] M v M' 0 0 := by
  have H : Ev none e 22 1 [some (.ref 192), some (.int s), some (.int p), none, none, none] [.ref 192] M v M' 0 0 := Ev.back 1 (fun n => rfl) H
  have H : Ev none e 22 4 [some (.ref 192), some (.int s), some (.int p), none, none, none] [.ref 196] M v M' 0 0 := Ev.back 1 (gs_3 rfl rfl (gf_u hS.1 qa_192 qr_41_3 qu_45 rfl)) H
  have H : Ev none e 22 5 [some (.ref 192), some (.int s), some (.int p), none, none, none] [.int p, .ref 196] M v M' 0 0 := Ev.back 1 (fun n => rfl) H
  obtain ⟨b1, H⟩ := Ev.aal rfl rfl hS.1 qa_196 qz_45 H
  have H : Ev none e 22 6 [some (.ref 192), some (.int s), some (.int p), none, none, none] [.ref (oI M 196 p)] M v M' 0 0 := H
  have H : Ev none e 22 8 [some (.ref 192), some (.int s), some (.int p), some (.ref (oI M 196 p)), none, none] [.ref 192] M v M' 0 0 := Ev.back 2 (fun n => rfl) H
  have H : Ev none e 22 11 [some (.ref 192), some (.int s), some (.int p), some (.ref (oI M 196 p)), none, none] [.ref 196] M v M' 0 0 := Ev.back 1 (gs_3 rfl rfl (gf_u hS.1 qa_192 qr_41_3 qu_45 rfl)) H
  have H : Ev none e 22 14 [some (.ref 192), some (.int s), some (.int p), some (.ref (oI M 196 p)), none, none] [.int (s ^^^ p), .ref 196] M v M' 0 0 := Ev.back 3 (fun n => rfl) H
  obtain ⟨b2, H⟩ := Ev.aal rfl rfl hS.1 qa_196 qz_45 H
  have H : Ev none e 22 15 [some (.ref 192), some (.int s), some (.int p), some (.ref (oI M 196 p)), none, none] [.ref (oI M 196 (s ^^^ p))] M v M' 0 0 := H
  have H : Ev none e 22 20 [some (.ref 192), some (.int s), some (.int p), some (.ref (oI M 196 p)), some (.ref (oI M 196 (s ^^^ p))), some (.int 0)] [] M v M' 0 0 := Ev.back 3 (fun n => rfl) H
  have HF := H
  exact ⟨b1.1, b2.1, HF⟩
theorem mee_20 {e : Nat} {M M' : Mem} {v : Option Value} {s p c : Int32} {a b : Nat} (hS : SQ M) (a_a : gNth sT a = some 43) (a_b : gNth sT b = some 43) (hL7 : fR M 104 7 = 8) (H : Ev none e 22 20 [some (.ref 192), some (.int s), some (.int p), some (.ref a), some (.ref b), some (.int c)] [] M v M' 0 0) : ((G_6 M 8) ≤ c ∧ v = none ∧ M' = M) ∨ (¬ ((G_6 M 8) ≤ c) ∧ 1000000 ≤ (rI M a c) ∧ (0 ≤ c.toInt ∧ c.toInt < 256) ∧ Ev none e 22 20 [some (.ref 192), some (.int s), some (.int p), some (.ref a), some (.ref b), some (.int (c + 1))] [] M v M' 0 0) ∨ (¬ ((G_6 M 8) ≤ c) ∧ ¬ (1000000 ≤ (rI M a c)) ∧ 1000000 ≤ (rI M b c) ∧ (0 ≤ c.toInt ∧ c.toInt < 256) ∧ (0 ≤ c.toInt ∧ c.toInt < 256) ∧ Ev none e 22 20 [some (.ref 192), some (.int s), some (.int p), some (.ref a), some (.ref b), some (.int (c + 1))] [] M v M' 0 0) ∨ (¬ ((G_6 M 8) ≤ c) ∧ ¬ (1000000 ≤ (rI M a c)) ∧ ¬ (1000000 ≤ (rI M b c)) ∧ (0 ≤ c.toInt ∧ c.toInt < 256) ∧ (0 ≤ c.toInt ∧ c.toInt < 256) ∧ (0 ≤ s.toInt ∧ s.toInt < 32) ∧ (0 ≤ s.toInt ∧ s.toInt < 32) ∧ (0 ≤ c.toInt ∧ c.toInt < 256) ∧ (0 ≤ c.toInt ∧ c.toInt < 256) ∧ (0 ≤ c.toInt ∧ c.toInt < 256) ∧ (0 ≤ c.toInt ∧ c.toInt < 256) ∧ (0 ≤ c.toInt ∧ c.toInt < 256) ∧ Ev none e 22 20 [some (.ref 192), some (.int s), some (.int p), some (.ref a), some (.ref b), some (.int (c + 1))] [] (wI M (oI M 196 s) c.toNatClampNeg (if (((rI M a c) + (rI M b c)) - (rI M 195 c)) < (rI M (oI M 196 s) c) then (((rI M a c) + (rI M b c)) - (rI M 195 c)) else (rI M (oI M 196 s) c))) v M' 0 0) := by
  have H : Ev none e 22 23 [some (.ref 192), some (.int s), some (.int p), some (.ref a), some (.ref b), some (.int c)] [.ref 192, .int c] M v M' 0 0 := Ev.back 2 (fun n => rfl) H
  have H : Ev none e 22 26 [some (.ref 192), some (.int s), some (.int p), some (.ref a), some (.ref b), some (.int c)] [.ref 104, .int c] M v M' 0 0 := Ev.back 1 (gs_3 rfl rfl (gf_u hS.1 qa_192 qr_41_4 qu_22 rfl)) H
  have H : Ev none e 22 29 [some (.ref 192), some (.int s), some (.int p), some (.ref a), some (.ref b), some (.int c)] [.ref (fR M 104 7), .int c] M v M' 0 0 := Ev.back 1 (gs_3 rfl rfl (gf_r hS.1 qa_104 qr_22_7 rfl)) H
  rw [hL7] at H
  obtain ⟨e1, rfl⟩ := Ev.dpos rfl rfl H
  obtain ⟨vK1, MK1, K1, H⟩ := Ev.callb (fun n_ => gs_7 rfl rfl (show gCal (.invokevirtual 41) 2 (.ref 8 :: [.int c]) M = some (.inr (6, [some (.ref 8)], [.int c])) from by show @cond (Option ((List Value × Mem) ⊕ (Nat × Lo × List Value))) (true && gRecv M (.ref 8) 1 && gRoom [.int c] && true) (some (.inr (6, [some (.ref 8)], [.int c]))) none = _; rw [recv_s hS.1 qa_8 qo_8]; rfl)) H
  obtain ⟨pK1, qK1⟩ := g_6 hS qa_8 K1
  rw [pK1, qK1] at H
  have H : Ev none (e1 + 1) 22 32 [some (.ref 192), some (.int s), some (.int p), some (.ref a), some (.ref b), some (.int c)] [.int (G_6 M 8), .int c] M v M' 0 0 := H
  have H : Ev none (e1 + 1) 22 (if (G_6 M 8) ≤ c then 99 else 35) [some (.ref 192), some (.int s), some (.int p), some (.ref a), some (.ref b), some (.int c)] [] M v M' 0 0 := Ev.back 1 (fun n => rfl) H
  by_cases h2 : (G_6 M 8) ≤ c
  · rw [if_pos h2] at H
    obtain ⟨z1, z2⟩ := Ev.retb (fun n => rfl) H
    exact Or.inl ⟨h2, z1, z2⟩
  · rw [if_neg h2] at H
    have H : Ev none (e1 + 1) 22 38 [some (.ref 192), some (.int s), some (.int p), some (.ref a), some (.ref b), some (.int c)] [.int c, .ref a] M v M' 0 0 := Ev.back 2 (fun n => rfl) H
    obtain ⟨b3, H⟩ := Ev.ial rfl rfl hS.1 a_a qw_43 H
    have H : Ev none (e1 + 1) 22 39 [some (.ref 192), some (.int s), some (.int p), some (.ref a), some (.ref b), some (.int c)] [.int (rI M a c)] M v M' 0 0 := H
    have H : Ev none (e1 + 1) 22 (if 1000000 ≤ (rI M a c) then 93 else 44) [some (.ref 192), some (.int s), some (.int p), some (.ref a), some (.ref b), some (.int c)] [] M v M' 0 0 := Ev.back 2 (fun n => rfl) H
    by_cases h4 : 1000000 ≤ (rI M a c)
    · rw [if_pos h4] at H
      have H : Ev none (e1 + 1) 22 20 [some (.ref 192), some (.int s), some (.int p), some (.ref a), some (.ref b), some (.int (c + 1))] [] M v M' 0 0 := Ev.back 2 (fun n => rfl) H
      have HF := H
      exact Or.inr (Or.inl ⟨h2, h4, b3, HF⟩)
    · rw [if_neg h4] at H
      have H : Ev none (e1 + 1) 22 48 [some (.ref 192), some (.int s), some (.int p), some (.ref a), some (.ref b), some (.int c)] [.int c, .ref b] M v M' 0 0 := Ev.back 2 (fun n => rfl) H
      obtain ⟨b5, H⟩ := Ev.ial rfl rfl hS.1 a_b qw_43 H
      have H : Ev none (e1 + 1) 22 49 [some (.ref 192), some (.int s), some (.int p), some (.ref a), some (.ref b), some (.int c)] [.int (rI M b c)] M v M' 0 0 := H
      have H : Ev none (e1 + 1) 22 (if 1000000 ≤ (rI M b c) then 93 else 54) [some (.ref 192), some (.int s), some (.int p), some (.ref a), some (.ref b), some (.int c)] [] M v M' 0 0 := Ev.back 2 (fun n => rfl) H
      by_cases h6 : 1000000 ≤ (rI M b c)
      · rw [if_pos h6] at H
        have H : Ev none (e1 + 1) 22 20 [some (.ref 192), some (.int s), some (.int p), some (.ref a), some (.ref b), some (.int (c + 1))] [] M v M' 0 0 := Ev.back 2 (fun n => rfl) H
        have HF := H
        exact Or.inr (Or.inr (Or.inl ⟨h2, h4, h6, b3, b5, HF⟩))
      · rw [if_neg h6] at H
        have H : Ev none (e1 + 1) 22 55 [some (.ref 192), some (.int s), some (.int p), some (.ref a), some (.ref b), some (.int c)] [.ref 192] M v M' 0 0 := Ev.back 1 (fun n => rfl) H
        have H : Ev none (e1 + 1) 22 58 [some (.ref 192), some (.int s), some (.int p), some (.ref a), some (.ref b), some (.int c)] [.ref 196] M v M' 0 0 := Ev.back 1 (gs_3 rfl rfl (gf_u hS.1 qa_192 qr_41_3 qu_45 rfl)) H
        have H : Ev none (e1 + 1) 22 59 [some (.ref 192), some (.int s), some (.int p), some (.ref a), some (.ref b), some (.int c)] [.int s, .ref 196] M v M' 0 0 := Ev.back 1 (fun n => rfl) H
        obtain ⟨b7, H⟩ := Ev.aal rfl rfl hS.1 qa_196 qz_45 H
        have H : Ev none (e1 + 1) 22 60 [some (.ref 192), some (.int s), some (.int p), some (.ref a), some (.ref b), some (.int c)] [.ref (oI M 196 s)] M v M' 0 0 := H
        have H : Ev none (e1 + 1) 22 63 [some (.ref 192), some (.int s), some (.int p), some (.ref a), some (.ref b), some (.int c)] [.ref 192, .int c, .ref (oI M 196 s)] M v M' 0 0 := Ev.back 2 (fun n => rfl) H
        have H : Ev none (e1 + 1) 22 66 [some (.ref 192), some (.int s), some (.int p), some (.ref a), some (.ref b), some (.int c)] [.ref 196, .int c, .ref (oI M 196 s)] M v M' 0 0 := Ev.back 1 (gs_3 rfl rfl (gf_u hS.1 qa_192 qr_41_3 qu_45 rfl)) H
        have H : Ev none (e1 + 1) 22 67 [some (.ref 192), some (.int s), some (.int p), some (.ref a), some (.ref b), some (.int c)] [.int s, .ref 196, .int c, .ref (oI M 196 s)] M v M' 0 0 := Ev.back 1 (fun n => rfl) H
        obtain ⟨b8, H⟩ := Ev.aal rfl rfl hS.1 qa_196 qz_45 H
        have H : Ev none (e1 + 1) 22 68 [some (.ref 192), some (.int s), some (.int p), some (.ref a), some (.ref b), some (.int c)] [.ref (oI M 196 s), .int c, .ref (oI M 196 s)] M v M' 0 0 := H
        have H : Ev none (e1 + 1) 22 70 [some (.ref 192), some (.int s), some (.int p), some (.ref a), some (.ref b), some (.int c)] [.int c, .ref (oI M 196 s), .int c, .ref (oI M 196 s)] M v M' 0 0 := Ev.back 1 (fun n => rfl) H
        obtain ⟨b9, H⟩ := Ev.ial rfl rfl hS.1 b8.2 qw_43 H
        have H : Ev none (e1 + 1) 22 71 [some (.ref 192), some (.int s), some (.int p), some (.ref a), some (.ref b), some (.int c)] [.int (rI M (oI M 196 s) c), .int c, .ref (oI M 196 s)] M v M' 0 0 := H
        have H : Ev none (e1 + 1) 22 74 [some (.ref 192), some (.int s), some (.int p), some (.ref a), some (.ref b), some (.int c)] [.int c, .ref a, .int (rI M (oI M 196 s) c), .int c, .ref (oI M 196 s)] M v M' 0 0 := Ev.back 2 (fun n => rfl) H
        obtain ⟨b10, H⟩ := Ev.ial rfl rfl hS.1 a_a qw_43 H
        have H : Ev none (e1 + 1) 22 75 [some (.ref 192), some (.int s), some (.int p), some (.ref a), some (.ref b), some (.int c)] [.int (rI M a c), .int (rI M (oI M 196 s) c), .int c, .ref (oI M 196 s)] M v M' 0 0 := H
        have H : Ev none (e1 + 1) 22 79 [some (.ref 192), some (.int s), some (.int p), some (.ref a), some (.ref b), some (.int c)] [.int c, .ref b, .int (rI M a c), .int (rI M (oI M 196 s) c), .int c, .ref (oI M 196 s)] M v M' 0 0 := Ev.back 2 (fun n => rfl) H
        obtain ⟨b11, H⟩ := Ev.ial rfl rfl hS.1 a_b qw_43 H
        have H : Ev none (e1 + 1) 22 80 [some (.ref 192), some (.int s), some (.int p), some (.ref a), some (.ref b), some (.int c)] [.int (rI M b c), .int (rI M a c), .int (rI M (oI M 196 s) c), .int c, .ref (oI M 196 s)] M v M' 0 0 := H
        have H : Ev none (e1 + 1) 22 82 [some (.ref 192), some (.int s), some (.int p), some (.ref a), some (.ref b), some (.int c)] [.ref 192, .int ((rI M a c) + (rI M b c)), .int (rI M (oI M 196 s) c), .int c, .ref (oI M 196 s)] M v M' 0 0 := Ev.back 2 (fun n => rfl) H
        have H : Ev none (e1 + 1) 22 85 [some (.ref 192), some (.int s), some (.int p), some (.ref a), some (.ref b), some (.int c)] [.ref 195, .int ((rI M a c) + (rI M b c)), .int (rI M (oI M 196 s) c), .int c, .ref (oI M 196 s)] M v M' 0 0 := Ev.back 1 (gs_3 rfl rfl (gf_u hS.1 qa_192 qr_41_2 qu_44 rfl)) H
        have H : Ev none (e1 + 1) 22 87 [some (.ref 192), some (.int s), some (.int p), some (.ref a), some (.ref b), some (.int c)] [.int c, .ref 195, .int ((rI M a c) + (rI M b c)), .int (rI M (oI M 196 s) c), .int c, .ref (oI M 196 s)] M v M' 0 0 := Ev.back 1 (fun n => rfl) H
        obtain ⟨b12, H⟩ := Ev.ial rfl rfl hS.1 qa_195 qw_44 H
        have H : Ev none (e1 + 1) 22 88 [some (.ref 192), some (.int s), some (.int p), some (.ref a), some (.ref b), some (.int c)] [.int (rI M 195 c), .int ((rI M a c) + (rI M b c)), .int (rI M (oI M 196 s) c), .int c, .ref (oI M 196 s)] M v M' 0 0 := H
        have H : Ev none (e1 + 1) 22 92 [some (.ref 192), some (.int s), some (.int p), some (.ref a), some (.ref b), some (.int c)] [.int (if (((rI M a c) + (rI M b c)) - (rI M 195 c)) < (rI M (oI M 196 s) c) then (((rI M a c) + (rI M b c)) - (rI M 195 c)) else (rI M (oI M 196 s) c)), .int c, .ref (oI M 196 s)] M v M' 0 0 := Ev.back 2 (fun n => rfl) H
        obtain ⟨b13, H⟩ := Ev.ias rfl rfl hS.1 b8.2 qw_43 H
        obtain ⟨N14, eN14⟩ : ∃ N, N = (wI M (oI M 196 s) c.toNatClampNeg (if (((rI M a c) + (rI M b c)) - (rI M 195 c)) < (rI M (oI M 196 s) c) then (((rI M a c) + (rI M b c)) - (rI M 195 c)) else (rI M (oI M 196 s) c))) := ⟨_, rfl⟩
        have hN14 : SQ N14 := by rw [eN14]; exact hS.ki
        have H : Ev none (e1 + 1) 22 93 [some (.ref 192), some (.int s), some (.int p), some (.ref a), some (.ref b), some (.int c)] [] N14 v M' 0 0 := by rw [eN14]; exact H
        have H : Ev none (e1 + 1) 22 20 [some (.ref 192), some (.int s), some (.int p), some (.ref a), some (.ref b), some (.int (c + 1))] [] N14 v M' 0 0 := Ev.back 2 (fun n => rfl) H
        have HF := H
        subst eN14
        exact Or.inr (Or.inr (Or.inr (⟨h2, h4, h6, b3, b5, b7.1, b8.1, b9, b10, b11, b12, b13, HF⟩)))
