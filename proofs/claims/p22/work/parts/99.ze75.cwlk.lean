/-! THE CLASS'S walking: pieces (made by gwal.py) -/
noncomputable def G_6 (M : Mem) (L : Nat) : Int32 := (zI M L 0) * (zI M L 1)
theorem g_6 {e : Nat} {M M' : Mem} {v : Option Value} {L : Nat} (hS : SQ M) (a_L : gNth sT L = some 8) (H : Ev none e 6 0 [some (.ref L)] [] M v M' 0 0) : v = some (.int (G_6 M L)) ∧ M' = M := by
  unfold G_6
  have H : Ev none e 6 1 [some (.ref L)] [.ref L] M v M' 0 0 := Ev.back 1 (fun n => rfl) H
  have H : Ev none e 6 4 [some (.ref L)] [.int (zI M L 0)] M v M' 0 0 := Ev.back 1 (gs_3 rfl rfl (gf_i hS.1 a_L qi_8_0 rfl)) H
  have H : Ev none e 6 5 [some (.ref L)] [.ref L, .int (zI M L 0)] M v M' 0 0 := Ev.back 1 (fun n => rfl) H
  have H : Ev none e 6 8 [some (.ref L)] [.int (zI M L 1), .int (zI M L 0)] M v M' 0 0 := Ev.back 1 (gs_3 rfl rfl (gf_i hS.1 a_L qi_8_1 rfl)) H
  have H : Ev none e 6 9 [some (.ref L)] [.int ((zI M L 0) * (zI M L 1))] M v M' 0 0 := Ev.back 1 (fun n => rfl) H
  obtain ⟨p1, p2⟩ := Ev.retz rfl rfl H
  exact ⟨p1, p2⟩
noncomputable def G_7 (M : Mem) (L : Nat) (c : Int32) : Int32 := if (rI M (L + 1) c) = 3 then 0 else (if (rI M (L + 1) c) = 6 then 0 else 1)
theorem g_7 {e : Nat} {M M' : Mem} {v : Option Value} {c : Int32} {L : Nat} (hS : SQ M) (a_L : gNth sT L = some 8) (H : Ev none e 7 0 [some (.ref L), some (.int c)] [] M v M' 0 0) : v = some (.int (G_7 M L c)) ∧ M' = M := by
  unfold G_7
  have H : Ev none e 7 1 [some (.ref L), some (.int c)] [.ref L] M v M' 0 0 := Ev.back 1 (fun n => rfl) H
  have H : Ev none e 7 4 [some (.ref L), some (.int c)] [.ref (L + 1)] M v M' 0 0 := Ev.back 1 (gs_3 rfl rfl (gf_x hS.1 a_L qo_8 (fx_l2 hS a_L) rfl)) H
  have H : Ev none e 7 5 [some (.ref L), some (.int c)] [.int c, .ref (L + 1)] M v M' 0 0 := Ev.back 1 (fun n => rfl) H
  obtain ⟨b1, H⟩ := Ev.ial rfl rfl hS.1 (fx_h2 a_L) qw_9 H
  have H : Ev none e 7 6 [some (.ref L), some (.int c)] [.int (rI M (L + 1) c)] M v M' 0 0 := H
  have H : Ev none e 7 (if (rI M (L + 1) c) = 3 then 25 else 10) [some (.ref L), some (.int c)] [] M v M' 0 0 := Ev.back 2 (fun n => rfl) H
  by_cases h2 : (rI M (L + 1) c) = 3
  · rw [if_pos h2] at H
    have H : Ev none e 7 26 [some (.ref L), some (.int c)] [.int 0] M v M' 0 0 := Ev.back 1 (fun n => rfl) H
    obtain ⟨p1, p2⟩ := Ev.retz rfl rfl H
    exact ⟨by rw [if_pos h2]; exact p1, p2⟩
  · rw [if_neg h2] at H
    have H : Ev none e 7 11 [some (.ref L), some (.int c)] [.ref L] M v M' 0 0 := Ev.back 1 (fun n => rfl) H
    have H : Ev none e 7 14 [some (.ref L), some (.int c)] [.ref (L + 1)] M v M' 0 0 := Ev.back 1 (gs_3 rfl rfl (gf_x hS.1 a_L qo_8 (fx_l2 hS a_L) rfl)) H
    have H : Ev none e 7 15 [some (.ref L), some (.int c)] [.int c, .ref (L + 1)] M v M' 0 0 := Ev.back 1 (fun n => rfl) H
    obtain ⟨b3, H⟩ := Ev.ial rfl rfl hS.1 (fx_h2 a_L) qw_9 H
    have H : Ev none e 7 16 [some (.ref L), some (.int c)] [.int (rI M (L + 1) c)] M v M' 0 0 := H
    have H : Ev none e 7 (if (rI M (L + 1) c) = 6 then 25 else 21) [some (.ref L), some (.int c)] [] M v M' 0 0 := Ev.back 2 (fun n => rfl) H
    by_cases h4 : (rI M (L + 1) c) = 6
    · rw [if_pos h4] at H
      have H : Ev none e 7 26 [some (.ref L), some (.int c)] [.int 0] M v M' 0 0 := Ev.back 1 (fun n => rfl) H
      obtain ⟨p1, p2⟩ := Ev.retz rfl rfl H
      exact ⟨by rw [if_neg h2, if_pos h4]; exact p1, p2⟩
    · rw [if_neg h4] at H
      have H : Ev none e 7 26 [some (.ref L), some (.int c)] [.int 1] M v M' 0 0 := Ev.back 2 (fun n => rfl) H
      obtain ⟨p1, p2⟩ := Ev.retz rfl rfl H
      exact ⟨by rw [if_neg h2, if_neg h4]; exact p1, p2⟩
noncomputable def G_8 (M : Mem) (L : Nat) (c : Int32) : Int32 := if (rI M (L + 1) c) = 0 then 1 else (if (rI M (L + 1) c) = 2 then 1 else 0)
theorem g_8 {e : Nat} {M M' : Mem} {v : Option Value} {c : Int32} {L : Nat} (hS : SQ M) (a_L : gNth sT L = some 8) (H : Ev none e 8 0 [some (.ref L), some (.int c)] [] M v M' 0 0) : v = some (.int (G_8 M L c)) ∧ M' = M := by
  unfold G_8
  have H : Ev none e 8 1 [some (.ref L), some (.int c)] [.ref L] M v M' 0 0 := Ev.back 1 (fun n => rfl) H
  have H : Ev none e 8 4 [some (.ref L), some (.int c)] [.ref (L + 1)] M v M' 0 0 := Ev.back 1 (gs_3 rfl rfl (gf_x hS.1 a_L qo_8 (fx_l2 hS a_L) rfl)) H
  have H : Ev none e 8 5 [some (.ref L), some (.int c)] [.int c, .ref (L + 1)] M v M' 0 0 := Ev.back 1 (fun n => rfl) H
  obtain ⟨b1, H⟩ := Ev.ial rfl rfl hS.1 (fx_h2 a_L) qw_9 H
  have H : Ev none e 8 6 [some (.ref L), some (.int c)] [.int (rI M (L + 1) c)] M v M' 0 0 := H
  have H : Ev none e 8 (if (rI M (L + 1) c) = 0 then 19 else 9) [some (.ref L), some (.int c)] [] M v M' 0 0 := Ev.back 1 (fun n => rfl) H
  by_cases h2 : (rI M (L + 1) c) = 0
  · rw [if_pos h2] at H
    have H : Ev none e 8 24 [some (.ref L), some (.int c)] [.int 1] M v M' 0 0 := Ev.back 2 (fun n => rfl) H
    obtain ⟨p1, p2⟩ := Ev.retz rfl rfl H
    exact ⟨by rw [if_pos h2]; exact p1, p2⟩
  · rw [if_neg h2] at H
    have H : Ev none e 8 10 [some (.ref L), some (.int c)] [.ref L] M v M' 0 0 := Ev.back 1 (fun n => rfl) H
    have H : Ev none e 8 13 [some (.ref L), some (.int c)] [.ref (L + 1)] M v M' 0 0 := Ev.back 1 (gs_3 rfl rfl (gf_x hS.1 a_L qo_8 (fx_l2 hS a_L) rfl)) H
    have H : Ev none e 8 14 [some (.ref L), some (.int c)] [.int c, .ref (L + 1)] M v M' 0 0 := Ev.back 1 (fun n => rfl) H
    obtain ⟨b3, H⟩ := Ev.ial rfl rfl hS.1 (fx_h2 a_L) qw_9 H
    have H : Ev none e 8 15 [some (.ref L), some (.int c)] [.int (rI M (L + 1) c)] M v M' 0 0 := H
    have H : Ev none e 8 (if (rI M (L + 1) c) = 2 then 19 else 23) [some (.ref L), some (.int c)] [] M v M' 0 0 := Ev.back 2 (fun n => rfl) H
    by_cases h4 : (rI M (L + 1) c) = 2
    · rw [if_pos h4] at H
      have H : Ev none e 8 24 [some (.ref L), some (.int c)] [.int 1] M v M' 0 0 := Ev.back 2 (fun n => rfl) H
      obtain ⟨p1, p2⟩ := Ev.retz rfl rfl H
      exact ⟨by rw [if_neg h2, if_pos h4]; exact p1, p2⟩
    · rw [if_neg h4] at H
      have H : Ev none e 8 24 [some (.ref L), some (.int c)] [.int 0] M v M' 0 0 := Ev.back 1 (fun n => rfl) H
      obtain ⟨p1, p2⟩ := Ev.retz rfl rfl H
      exact ⟨by rw [if_neg h2, if_neg h4]; exact p1, p2⟩
noncomputable def G_56 (M : Mem) (c : Int32) : Int32 := if (rI M (fR M 104 7 + 4) c) < (zI M (fR M 104 2) 10) then 0 else 1
theorem g_56 {e : Nat} {M M' : Mem} {v : Option Value} {c : Int32} (hS : SQ M) (H : Ev none e 56 0 [some (.ref 104), some (.int c)] [] M v M' 0 0) : v = some (.int (G_56 M c)) ∧ M' = M := by
  unfold G_56
  have H : Ev none e 56 1 [some (.ref 104), some (.int c)] [.ref 104] M v M' 0 0 := Ev.back 1 (fun n => rfl) H
  have H : Ev none e 56 4 [some (.ref 104), some (.int c)] [.ref (fR M 104 7)] M v M' 0 0 := Ev.back 1 (gs_3 rfl rfl (gf_r hS.1 qa_104 qr_22_7 rfl)) H
  have H : Ev none e 56 7 [some (.ref 104), some (.int c)] [.ref (fR M 104 7 + 4)] M v M' 0 0 := Ev.back 1 (gs_3 rfl rfl (gf_x hS.1 (hS.1.fr qa_104 qr_22_7).2 qo_8 (fx_l5 hS (hS.1.fr qa_104 qr_22_7).2) rfl)) H
  have H : Ev none e 56 8 [some (.ref 104), some (.int c)] [.int c, .ref (fR M 104 7 + 4)] M v M' 0 0 := Ev.back 1 (fun n => rfl) H
  obtain ⟨b1, H⟩ := Ev.ial rfl rfl hS.1 (fx_h5 (hS.1.fr qa_104 qr_22_7).2) qw_12 H
  have H : Ev none e 56 9 [some (.ref 104), some (.int c)] [.int (rI M (fR M 104 7 + 4) c)] M v M' 0 0 := H
  have H : Ev none e 56 10 [some (.ref 104), some (.int c)] [.ref 104, .int (rI M (fR M 104 7 + 4) c)] M v M' 0 0 := Ev.back 1 (fun n => rfl) H
  have H : Ev none e 56 13 [some (.ref 104), some (.int c)] [.ref (fR M 104 2), .int (rI M (fR M 104 7 + 4) c)] M v M' 0 0 := Ev.back 1 (gs_3 rfl rfl (gf_r hS.1 qa_104 qr_22_2 rfl)) H
  have H : Ev none e 56 16 [some (.ref 104), some (.int c)] [.int (zI M (fR M 104 2) 10), .int (rI M (fR M 104 7 + 4) c)] M v M' 0 0 := Ev.back 1 (gs_3 rfl rfl (gf_i hS.1 (hS.1.fr qa_104 qr_22_2).2 qi_28_10 rfl)) H
  have H : Ev none e 56 (if (rI M (fR M 104 7 + 4) c) < (zI M (fR M 104 2) 10) then 23 else 19) [some (.ref 104), some (.int c)] [] M v M' 0 0 := Ev.back 1 (fun n => rfl) H
  by_cases h2 : (rI M (fR M 104 7 + 4) c) < (zI M (fR M 104 2) 10)
  · rw [if_pos h2] at H
    have H : Ev none e 56 24 [some (.ref 104), some (.int c)] [.int 0] M v M' 0 0 := Ev.back 1 (fun n => rfl) H
    obtain ⟨p1, p2⟩ := Ev.retz rfl rfl H
    exact ⟨by rw [if_pos h2]; exact p1, p2⟩
  · rw [if_neg h2] at H
    have H : Ev none e 56 24 [some (.ref 104), some (.int c)] [.int 1] M v M' 0 0 := Ev.back 2 (fun n => rfl) H
    obtain ⟨p1, p2⟩ := Ev.retz rfl rfl H
    exact ⟨by rw [if_neg h2]; exact p1, p2⟩
theorem fnb_0 {e : Nat} {M M' : Mem} {v : Option Value} {wh c wo : Int32} (hS : SQ M) (H : Ev none e 64 0 [some (.ref 104), some (.int wh), some (.int c), some (.int wo), none] [] M v M' 0 0) : Ev none e 64 3 [some (.ref 104), some (.int wh), some (.int c), some (.int wo), some (.int 0)] [] M v M' 0 0 := by
  have H : Ev none e 64 3 [some (.ref 104), some (.int wh), some (.int c), some (.int wo), some (.int 0)] [] M v M' 0 0 := Ev.back 2 (fun n => rfl) H
  have HF := H
  exact HF
theorem fnb_3 {e : Nat} {M M' : Mem} {v : Option Value} {wh c wo i : Int32} (hS : SQ M) (H : Ev none e 64 3 [some (.ref 104), some (.int wh), some (.int c), some (.int wo), some (.int i)] [] M v M' 0 0) : ((zI M (fR M 104 2) 8) ≤ i ∧ v = some (.int wo) ∧ M' = M) ∨ (¬ ((zI M (fR M 104 2) 8) ≤ i) ∧ (rI M (fR M 104 2 + 1) i) = wh ∧ (0 ≤ i.toInt ∧ i.toInt < 16) ∧ (∃ e1 v1 M1, e = e1 + 1 ∧ Ev none e1 70 0 [some (.ref 104), some (.ref (fR M 104 2)), some (.int i), some (.int c), none, none, none, none, none] [] M v1 M1 0 0 ∧ Ev none e 64 40 [some (.ref 104), some (.int wh), some (.int c), some (.int wo), some (.int i)] (v1.toList ++ []) M1 v M' 0 0)) ∨ (¬ ((zI M (fR M 104 2) 8) ≤ i) ∧ ¬ ((rI M (fR M 104 2 + 1) i) = wh) ∧ (0 ≤ i.toInt ∧ i.toInt < 16) ∧ Ev none e 64 3 [some (.ref 104), some (.int wh), some (.int c), some (.int wo), some (.int (i + 1))] [] M v M' 0 0) := by
  have H : Ev none e 64 6 [some (.ref 104), some (.int wh), some (.int c), some (.int wo), some (.int i)] [.ref 104, .int i] M v M' 0 0 := Ev.back 2 (fun n => rfl) H
  have H : Ev none e 64 9 [some (.ref 104), some (.int wh), some (.int c), some (.int wo), some (.int i)] [.ref (fR M 104 2), .int i] M v M' 0 0 := Ev.back 1 (gs_3 rfl rfl (gf_r hS.1 qa_104 qr_22_2 rfl)) H
  have H : Ev none e 64 12 [some (.ref 104), some (.int wh), some (.int c), some (.int wo), some (.int i)] [.int (zI M (fR M 104 2) 8), .int i] M v M' 0 0 := Ev.back 1 (gs_3 rfl rfl (gf_i hS.1 (hS.1.fr qa_104 qr_22_2).2 qi_28_8 rfl)) H
  have H : Ev none e 64 (if (zI M (fR M 104 2) 8) ≤ i then 60 else 15) [some (.ref 104), some (.int wh), some (.int c), some (.int wo), some (.int i)] [] M v M' 0 0 := Ev.back 1 (fun n => rfl) H
  by_cases h1 : (zI M (fR M 104 2) 8) ≤ i
  · rw [if_pos h1] at H
    have H : Ev none e 64 61 [some (.ref 104), some (.int wh), some (.int c), some (.int wo), some (.int i)] [.int wo] M v M' 0 0 := Ev.back 1 (fun n => rfl) H
    obtain ⟨z1, z2⟩ := Ev.retz rfl rfl H
    exact Or.inl ⟨h1, z1, z2⟩
  · rw [if_neg h1] at H
    have H : Ev none e 64 16 [some (.ref 104), some (.int wh), some (.int c), some (.int wo), some (.int i)] [.ref 104] M v M' 0 0 := Ev.back 1 (fun n => rfl) H
    have H : Ev none e 64 19 [some (.ref 104), some (.int wh), some (.int c), some (.int wo), some (.int i)] [.ref (fR M 104 2)] M v M' 0 0 := Ev.back 1 (gs_3 rfl rfl (gf_r hS.1 qa_104 qr_22_2 rfl)) H
    have H : Ev none e 64 22 [some (.ref 104), some (.int wh), some (.int c), some (.int wo), some (.int i)] [.ref (fR M 104 2 + 1)] M v M' 0 0 := Ev.back 1 (gs_3 rfl rfl (gf_x hS.1 (hS.1.fr qa_104 qr_22_2).2 qo_28 (fx_t0 hS (hS.1.fr qa_104 qr_22_2).2) rfl)) H
    have H : Ev none e 64 24 [some (.ref 104), some (.int wh), some (.int c), some (.int wo), some (.int i)] [.int i, .ref (fR M 104 2 + 1)] M v M' 0 0 := Ev.back 1 (fun n => rfl) H
    obtain ⟨b2, H⟩ := Ev.ial rfl rfl hS.1 (fx_g0 (hS.1.fr qa_104 qr_22_2).2) qw_29 H
    have H : Ev none e 64 25 [some (.ref 104), some (.int wh), some (.int c), some (.int wo), some (.int i)] [.int (rI M (fR M 104 2 + 1) i)] M v M' 0 0 := H
    have H : Ev none e 64 (if (rI M (fR M 104 2 + 1) i) = wh then 29 else 54) [some (.ref 104), some (.int wh), some (.int c), some (.int wo), some (.int i)] [] M v M' 0 0 := Ev.back 2 (fun n => rfl) H
    by_cases h3 : (rI M (fR M 104 2 + 1) i) = wh
    · rw [if_pos h3] at H
      have H : Ev none e 64 31 [some (.ref 104), some (.int wh), some (.int c), some (.int wo), some (.int i)] [.ref 104, .ref 104] M v M' 0 0 := Ev.back 2 (fun n => rfl) H
      have H : Ev none e 64 34 [some (.ref 104), some (.int wh), some (.int c), some (.int wo), some (.int i)] [.ref (fR M 104 2), .ref 104] M v M' 0 0 := Ev.back 1 (gs_3 rfl rfl (gf_r hS.1 qa_104 qr_22_2 rfl)) H
      have H : Ev none e 64 37 [some (.ref 104), some (.int wh), some (.int c), some (.int wo), some (.int i)] [.int c, .int i, .ref (fR M 104 2), .ref 104] M v M' 0 0 := Ev.back 2 (fun n => rfl) H
      obtain ⟨e1, rfl⟩ := Ev.dpos rfl rfl H
      obtain ⟨vK4, MK4, K4, H⟩ := Ev.callb (fun n_ => gs_7 rfl rfl (show gCal (.invokevirtual 212) 7 (.int c :: .int i :: .ref (fR M 104 2) :: .ref 104 :: []) M = some (.inr (70, [some (.ref 104), some (.ref (fR M 104 2)), some (.int i), some (.int c), none, none, none, none, none], [])) from by show @cond (Option ((List Value × Mem) ⊕ (Nat × Lo × List Value))) (true && gRecv M (.ref 104) 7 && gRoom [] && true) (some (.inr (70, [some (.ref 104), some (.ref (fR M 104 2)), some (.int i), some (.int c), none, none, none, none, none], []))) none = _; rw [recv_s hS.1 qa_104 qo_22]; rfl)) H
      have K4 : Ev none e1 70 0 [some (.ref 104), some (.ref (fR M 104 2)), some (.int i), some (.int c), none, none, none, none, none] [] M vK4 MK4 0 0 := K4
      have HF := H
      exact Or.inr (Or.inl ⟨h1, h3, b2, ⟨e1, vK4, MK4, rfl, K4, HF⟩⟩)
    · rw [if_neg h3] at H
      have H : Ev none e 64 3 [some (.ref 104), some (.int wh), some (.int c), some (.int wo), some (.int (i + 1))] [] M v M' 0 0 := Ev.back 2 (fun n => rfl) H
      have HF := H
      exact Or.inr (Or.inr (⟨h1, h3, b2, HF⟩))
theorem fnb_40 {e : Nat} {M M' : Mem} {v : Option Value} {wh c wo i y : Int32} (hS : SQ M) (H : Ev none e 64 40 [some (.ref 104), some (.int wh), some (.int c), some (.int wo), some (.int i)] [.int y] M v M' 0 0) : (y = 0 ∧ Ev none e 64 3 [some (.ref 104), some (.int wh), some (.int c), some (.int wo), some (.int (i + 1))] [] M v M' 0 0) ∨ (¬ (y = 0) ∧ (0 ≤ i.toInt ∧ i.toInt < 16) ∧ v = some (.int (rI M (fR M 104 2 + 3) i)) ∧ M' = M) := by
  have H : Ev none e 64 (if y = 0 then 54 else 43) [some (.ref 104), some (.int wh), some (.int c), some (.int wo), some (.int i)] [] M v M' 0 0 := Ev.back 1 (fun n => rfl) H
  by_cases h1 : y = 0
  · rw [if_pos h1] at H
    have H : Ev none e 64 3 [some (.ref 104), some (.int wh), some (.int c), some (.int wo), some (.int (i + 1))] [] M v M' 0 0 := Ev.back 2 (fun n => rfl) H
    have HF := H
    exact Or.inl ⟨h1, HF⟩
  · rw [if_neg h1] at H
    have H : Ev none e 64 44 [some (.ref 104), some (.int wh), some (.int c), some (.int wo), some (.int i)] [.ref 104] M v M' 0 0 := Ev.back 1 (fun n => rfl) H
    have H : Ev none e 64 47 [some (.ref 104), some (.int wh), some (.int c), some (.int wo), some (.int i)] [.ref (fR M 104 2)] M v M' 0 0 := Ev.back 1 (gs_3 rfl rfl (gf_r hS.1 qa_104 qr_22_2 rfl)) H
    have H : Ev none e 64 50 [some (.ref 104), some (.int wh), some (.int c), some (.int wo), some (.int i)] [.ref (fR M 104 2 + 3)] M v M' 0 0 := Ev.back 1 (gs_3 rfl rfl (gf_x hS.1 (hS.1.fr qa_104 qr_22_2).2 qo_28 (fx_t2 hS (hS.1.fr qa_104 qr_22_2).2) rfl)) H
    have H : Ev none e 64 52 [some (.ref 104), some (.int wh), some (.int c), some (.int wo), some (.int i)] [.int i, .ref (fR M 104 2 + 3)] M v M' 0 0 := Ev.back 1 (fun n => rfl) H
    obtain ⟨b2, H⟩ := Ev.ial rfl rfl hS.1 (fx_g2 (hS.1.fr qa_104 qr_22_2).2) qw_31 H
    have H : Ev none e 64 53 [some (.ref 104), some (.int wh), some (.int c), some (.int wo), some (.int i)] [.int (rI M (fR M 104 2 + 3) i)] M v M' 0 0 := H
    obtain ⟨z1, z2⟩ := Ev.retz rfl rfl H
    exact Or.inr (⟨h1, b2, z1, z2⟩)
theorem wha_0 {e : Nat} {M M' : Mem} {v : Option Value} {c d si : Int32} (hS : SQ M) (H : Ev none e 69 0 [some (.ref 104), some (.int c), some (.int d), some (.int si), none, none, none] [] M v M' 0 0) : Ev none e 69 9 [some (.ref 104), some (.int c), some (.int d), some (.int si), some (.int 0), some (.int c), some (.int 0)] [] M v M' 0 0 := by
  have H : Ev none e 69 9 [some (.ref 104), some (.int c), some (.int d), some (.int si), some (.int 0), some (.int c), some (.int 0)] [] M v M' 0 0 := Ev.back 6 (fun n => rfl) H
  have HF := H
  exact HF
theorem wha_9 {e : Nat} {M M' : Mem} {v : Option Value} {c d si nn av k : Int32} (hS : SQ M) (H : Ev none e 69 9 [some (.ref 104), some (.int c), some (.int d), some (.int si), some (.int nn), some (.int av), some (.int k)] [] M v M' 0 0) : (si ≤ k ∧ v = some (.int nn) ∧ M' = M) ∨ (¬ (si ≤ k) ∧ av = (-1) ∧ v = some (.int nn) ∧ M' = M) ∨ (¬ (si ≤ k) ∧ ¬ (av = (-1)) ∧ (G_7 M (fR M 104 7) av) = 0 ∧ v = some (.int nn) ∧ M' = M) ∨ (¬ (si ≤ k) ∧ ¬ (av = (-1)) ∧ ¬ ((G_7 M (fR M 104 7) av) = 0) ∧ (G_56 M av) = 0 ∧ (0 ≤ ((8 * av) + d).toInt ∧ ((8 * av) + d).toInt < 2048) ∧ Ev none e 69 9 [some (.ref 104), some (.int c), some (.int d), some (.int si), some (.int (nn + 0)), some (.int (rI M 108 ((8 * av) + d))), some (.int (k + 1))] [] M v M' 0 0) ∨ (¬ (si ≤ k) ∧ ¬ (av = (-1)) ∧ ¬ ((G_7 M (fR M 104 7) av) = 0) ∧ ¬ ((G_56 M av) = 0) ∧ (0 ≤ ((8 * av) + d).toInt ∧ ((8 * av) + d).toInt < 2048) ∧ Ev none e 69 9 [some (.ref 104), some (.int c), some (.int d), some (.int si), some (.int (nn + 1)), some (.int (rI M 108 ((8 * av) + d))), some (.int (k + 1))] [] M v M' 0 0) := by
  have H : Ev none e 69 (if si ≤ k then 75 else 15) [some (.ref 104), some (.int c), some (.int d), some (.int si), some (.int nn), some (.int av), some (.int k)] [] M v M' 0 0 := Ev.back 3 (fun n => rfl) H
  by_cases h1 : si ≤ k
  · rw [if_pos h1] at H
    have H : Ev none e 69 77 [some (.ref 104), some (.int c), some (.int d), some (.int si), some (.int nn), some (.int av), some (.int k)] [.int nn] M v M' 0 0 := Ev.back 1 (fun n => rfl) H
    obtain ⟨z1, z2⟩ := Ev.retz rfl rfl H
    exact Or.inl ⟨h1, z1, z2⟩
  · rw [if_neg h1] at H
    have H : Ev none e 69 (if av = (-1) then 75 else 21) [some (.ref 104), some (.int c), some (.int d), some (.int si), some (.int nn), some (.int av), some (.int k)] [] M v M' 0 0 := Ev.back 3 (fun n => rfl) H
    by_cases h2 : av = (-1)
    · rw [if_pos h2] at H
      have H : Ev none e 69 77 [some (.ref 104), some (.int c), some (.int d), some (.int si), some (.int nn), some (.int av), some (.int k)] [.int nn] M v M' 0 0 := Ev.back 1 (fun n => rfl) H
      obtain ⟨z1, z2⟩ := Ev.retz rfl rfl H
      exact Or.inr (Or.inl ⟨h1, h2, z1, z2⟩)
    · rw [if_neg h2] at H
      have H : Ev none e 69 22 [some (.ref 104), some (.int c), some (.int d), some (.int si), some (.int nn), some (.int av), some (.int k)] [.ref 104] M v M' 0 0 := Ev.back 1 (fun n => rfl) H
      have H : Ev none e 69 25 [some (.ref 104), some (.int c), some (.int d), some (.int si), some (.int nn), some (.int av), some (.int k)] [.ref (fR M 104 7)] M v M' 0 0 := Ev.back 1 (gs_3 rfl rfl (gf_r hS.1 qa_104 qr_22_7 rfl)) H
      have H : Ev none e 69 27 [some (.ref 104), some (.int c), some (.int d), some (.int si), some (.int nn), some (.int av), some (.int k)] [.int av, .ref (fR M 104 7)] M v M' 0 0 := Ev.back 1 (fun n => rfl) H
      obtain ⟨e1, rfl⟩ := Ev.dpos rfl rfl H
      obtain ⟨vK3, MK3, K3, H⟩ := Ev.callb (fun n_ => gs_7 rfl rfl (show gCal (.invokevirtual 225) 7 (.int av :: .ref (fR M 104 7) :: []) M = some (.inr (7, [some (.ref (fR M 104 7)), some (.int av)], [])) from by show @cond (Option ((List Value × Mem) ⊕ (Nat × Lo × List Value))) (true && gRecv M (.ref (fR M 104 7)) 1 && gRoom [] && true) (some (.inr (7, [some (.ref (fR M 104 7)), some (.int av)], []))) none = _; rw [recv_s hS.1 (hS.1.fr qa_104 qr_22_7).2 qo_8]; rfl)) H
      obtain ⟨pK3, qK3⟩ := g_7 hS (hS.1.fr qa_104 qr_22_7).2 K3
      rw [pK3, qK3] at H
      have H : Ev none (e1 + 1) 69 30 [some (.ref 104), some (.int c), some (.int d), some (.int si), some (.int nn), some (.int av), some (.int k)] [.int (G_7 M (fR M 104 7) av)] M v M' 0 0 := H
      have H : Ev none (e1 + 1) 69 (if (G_7 M (fR M 104 7) av) = 0 then 75 else 33) [some (.ref 104), some (.int c), some (.int d), some (.int si), some (.int nn), some (.int av), some (.int k)] [] M v M' 0 0 := Ev.back 1 (fun n => rfl) H
      by_cases h4 : (G_7 M (fR M 104 7) av) = 0
      · rw [if_pos h4] at H
        have H : Ev none (e1 + 1) 69 77 [some (.ref 104), some (.int c), some (.int d), some (.int si), some (.int nn), some (.int av), some (.int k)] [.int nn] M v M' 0 0 := Ev.back 1 (fun n => rfl) H
        obtain ⟨z1, z2⟩ := Ev.retz rfl rfl H
        exact Or.inr (Or.inr (Or.inl ⟨h1, h2, h4, z1, z2⟩))
      · rw [if_neg h4] at H
        have H : Ev none (e1 + 1) 69 38 [some (.ref 104), some (.int c), some (.int d), some (.int si), some (.int nn), some (.int av), some (.int k)] [.int av, .ref 104, .int nn] M v M' 0 0 := Ev.back 3 (fun n => rfl) H
        obtain ⟨vK5, MK5, K5, H⟩ := Ev.callb (fun n_ => gs_7 rfl rfl (show gCal (.invokevirtual 94) 7 (.int av :: .ref 104 :: [.int nn]) M = some (.inr (56, [some (.ref 104), some (.int av)], [.int nn])) from by show @cond (Option ((List Value × Mem) ⊕ (Nat × Lo × List Value))) (true && gRecv M (.ref 104) 7 && gRoom [.int nn] && true) (some (.inr (56, [some (.ref 104), some (.int av)], [.int nn]))) none = _; rw [recv_s hS.1 qa_104 qo_22]; rfl)) H
        obtain ⟨pK5, qK5⟩ := g_56 hS K5
        rw [pK5, qK5] at H
        have H : Ev none (e1 + 1) 69 41 [some (.ref 104), some (.int c), some (.int d), some (.int si), some (.int nn), some (.int av), some (.int k)] [.int (G_56 M av), .int nn] M v M' 0 0 := H
        have H : Ev none (e1 + 1) 69 (if (G_56 M av) = 0 then 48 else 44) [some (.ref 104), some (.int c), some (.int d), some (.int si), some (.int nn), some (.int av), some (.int k)] [.int nn] M v M' 0 0 := Ev.back 1 (fun n => rfl) H
        by_cases h6 : (G_56 M av) = 0
        · rw [if_pos h6] at H
          have H : Ev none (e1 + 1) 69 53 [some (.ref 104), some (.int c), some (.int d), some (.int si), some (.int (nn + 0)), some (.int av), some (.int k)] [.ref 104] M v M' 0 0 := Ev.back 4 (fun n => rfl) H
          have H : Ev none (e1 + 1) 69 56 [some (.ref 104), some (.int c), some (.int d), some (.int si), some (.int (nn + 0)), some (.int av), some (.int k)] [.ref 105] M v M' 0 0 := Ev.back 1 (gs_3 rfl rfl (gf_u hS.1 qa_104 qr_22_0 qu_23 rfl)) H
          have H : Ev none (e1 + 1) 69 59 [some (.ref 104), some (.int c), some (.int d), some (.int si), some (.int (nn + 0)), some (.int av), some (.int k)] [.ref 108] M v M' 0 0 := Ev.back 1 (gs_3 rfl rfl (gf_u hS.1 qa_105 qr_23_2 qu_26 rfl)) H
          have H : Ev none (e1 + 1) 69 66 [some (.ref 104), some (.int c), some (.int d), some (.int si), some (.int (nn + 0)), some (.int av), some (.int k)] [.int ((8 * av) + d), .ref 108] M v M' 0 0 := Ev.back 5 (fun n => rfl) H
          obtain ⟨b7, H⟩ := Ev.ial rfl rfl hS.1 qa_108 qw_26 H
          have H : Ev none (e1 + 1) 69 67 [some (.ref 104), some (.int c), some (.int d), some (.int si), some (.int (nn + 0)), some (.int av), some (.int k)] [.int (rI M 108 ((8 * av) + d))] M v M' 0 0 := H
          have H : Ev none (e1 + 1) 69 9 [some (.ref 104), some (.int c), some (.int d), some (.int si), some (.int (nn + 0)), some (.int (rI M 108 ((8 * av) + d))), some (.int (k + 1))] [] M v M' 0 0 := Ev.back 3 (fun n => rfl) H
          have HF := H
          exact Or.inr (Or.inr (Or.inr (Or.inl ⟨h1, h2, h4, h6, b7, HF⟩)))
        · rw [if_neg h6] at H
          have H : Ev none (e1 + 1) 69 53 [some (.ref 104), some (.int c), some (.int d), some (.int si), some (.int (nn + 1)), some (.int av), some (.int k)] [.ref 104] M v M' 0 0 := Ev.back 5 (fun n => rfl) H
          have H : Ev none (e1 + 1) 69 56 [some (.ref 104), some (.int c), some (.int d), some (.int si), some (.int (nn + 1)), some (.int av), some (.int k)] [.ref 105] M v M' 0 0 := Ev.back 1 (gs_3 rfl rfl (gf_u hS.1 qa_104 qr_22_0 qu_23 rfl)) H
          have H : Ev none (e1 + 1) 69 59 [some (.ref 104), some (.int c), some (.int d), some (.int si), some (.int (nn + 1)), some (.int av), some (.int k)] [.ref 108] M v M' 0 0 := Ev.back 1 (gs_3 rfl rfl (gf_u hS.1 qa_105 qr_23_2 qu_26 rfl)) H
          have H : Ev none (e1 + 1) 69 66 [some (.ref 104), some (.int c), some (.int d), some (.int si), some (.int (nn + 1)), some (.int av), some (.int k)] [.int ((8 * av) + d), .ref 108] M v M' 0 0 := Ev.back 5 (fun n => rfl) H
          obtain ⟨b8, H⟩ := Ev.ial rfl rfl hS.1 qa_108 qw_26 H
          have H : Ev none (e1 + 1) 69 67 [some (.ref 104), some (.int c), some (.int d), some (.int si), some (.int (nn + 1)), some (.int av), some (.int k)] [.int (rI M 108 ((8 * av) + d))] M v M' 0 0 := H
          have H : Ev none (e1 + 1) 69 9 [some (.ref 104), some (.int c), some (.int d), some (.int si), some (.int (nn + 1)), some (.int (rI M 108 ((8 * av) + d))), some (.int (k + 1))] [] M v M' 0 0 := Ev.back 3 (fun n => rfl) H
          have HF := H
          exact Or.inr (Or.inr (Or.inr (Or.inr (⟨h1, h2, h4, h6, b8, HF⟩))))
theorem tre_0 {e : Nat} {M M' : Mem} {v : Option Value} {c : Int32} (hS : SQ M) (H : Ev none e 62 0 [some (.ref 104), some (.int c), none] [] M v M' 0 0) : ((G_8 M (fR M 104 7) c) = 0 ∧ (0 ≤ c.toInt ∧ c.toInt < 256) ∧ (0 ≤ c.toInt ∧ c.toInt < 256) ∧ (0 ≤ c.toInt ∧ c.toInt < 256) ∧ (0 ≤ c.toInt ∧ c.toInt < 256) ∧ Ev none e 62 73 [some (.ref 104), some (.int c), some (.int 0)] [] (wI (wI M (fR M 104 7 + 6) c.toNatClampNeg ((rI M (fR M 104 7 + 6) c) + 1)) (fR M 104 7 + 7) c.toNatClampNeg ((rI M (fR M 104 7 + 7) c) + 1)) v M' 0 0) ∨ (¬ ((G_8 M (fR M 104 7) c) = 0) ∧ (∃ e1 v1 M1, e = e1 + 1 ∧ Ev none e1 64 0 [some (.ref 104), some (.int 0), some (.int c), some (.int 5), none] [] M v1 M1 0 0 ∧ Ev none e 62 18 [some (.ref 104), some (.int c), none] (v1.toList ++ []) M1 v M' 0 0)) := by
  have H : Ev none e 62 1 [some (.ref 104), some (.int c), none] [.ref 104] M v M' 0 0 := Ev.back 1 (fun n => rfl) H
  have H : Ev none e 62 4 [some (.ref 104), some (.int c), none] [.ref (fR M 104 7)] M v M' 0 0 := Ev.back 1 (gs_3 rfl rfl (gf_r hS.1 qa_104 qr_22_7 rfl)) H
  have H : Ev none e 62 5 [some (.ref 104), some (.int c), none] [.int c, .ref (fR M 104 7)] M v M' 0 0 := Ev.back 1 (fun n => rfl) H
  obtain ⟨e1, rfl⟩ := Ev.dpos rfl rfl H
  obtain ⟨vK1, MK1, K1, H⟩ := Ev.callb (fun n_ => gs_7 rfl rfl (show gCal (.invokevirtual 178) 7 (.int c :: .ref (fR M 104 7) :: []) M = some (.inr (8, [some (.ref (fR M 104 7)), some (.int c)], [])) from by show @cond (Option ((List Value × Mem) ⊕ (Nat × Lo × List Value))) (true && gRecv M (.ref (fR M 104 7)) 1 && gRoom [] && true) (some (.inr (8, [some (.ref (fR M 104 7)), some (.int c)], []))) none = _; rw [recv_s hS.1 (hS.1.fr qa_104 qr_22_7).2 qo_8]; rfl)) H
  obtain ⟨pK1, qK1⟩ := g_8 hS (hS.1.fr qa_104 qr_22_7).2 K1
  rw [pK1, qK1] at H
  have H : Ev none (e1 + 1) 62 8 [some (.ref 104), some (.int c), none] [.int (G_8 M (fR M 104 7) c)] M v M' 0 0 := H
  have H : Ev none (e1 + 1) 62 (if (G_8 M (fR M 104 7) c) = 0 then 45 else 11) [some (.ref 104), some (.int c), none] [] M v M' 0 0 := Ev.back 1 (fun n => rfl) H
  by_cases h2 : (G_8 M (fR M 104 7) c) = 0
  · rw [if_pos h2] at H
    have H : Ev none (e1 + 1) 62 46 [some (.ref 104), some (.int c), none] [.ref 104] M v M' 0 0 := Ev.back 1 (fun n => rfl) H
    have H : Ev none (e1 + 1) 62 49 [some (.ref 104), some (.int c), none] [.ref (fR M 104 7)] M v M' 0 0 := Ev.back 1 (gs_3 rfl rfl (gf_r hS.1 qa_104 qr_22_7 rfl)) H
    have H : Ev none (e1 + 1) 62 52 [some (.ref 104), some (.int c), none] [.ref (fR M 104 7 + 6)] M v M' 0 0 := Ev.back 1 (gs_3 rfl rfl (gf_x hS.1 (hS.1.fr qa_104 qr_22_7).2 qo_8 (fx_l7 hS (hS.1.fr qa_104 qr_22_7).2) rfl)) H
    have H : Ev none (e1 + 1) 62 54 [some (.ref 104), some (.int c), none] [.int c, .ref (fR M 104 7 + 6), .int c, .ref (fR M 104 7 + 6)] M v M' 0 0 := Ev.back 2 (fun n => rfl) H
    obtain ⟨b3, H⟩ := Ev.ial rfl rfl hS.1 (fx_h7 (hS.1.fr qa_104 qr_22_7).2) qw_14 H
    have H : Ev none (e1 + 1) 62 55 [some (.ref 104), some (.int c), none] [.int (rI M (fR M 104 7 + 6) c), .int c, .ref (fR M 104 7 + 6)] M v M' 0 0 := H
    have H : Ev none (e1 + 1) 62 57 [some (.ref 104), some (.int c), none] [.int ((rI M (fR M 104 7 + 6) c) + 1), .int c, .ref (fR M 104 7 + 6)] M v M' 0 0 := Ev.back 2 (fun n => rfl) H
    obtain ⟨b4, H⟩ := Ev.ias rfl rfl hS.1 (fx_h7 (hS.1.fr qa_104 qr_22_7).2) qw_14 H
    obtain ⟨N5, eN5⟩ : ∃ N, N = (wI M (fR M 104 7 + 6) c.toNatClampNeg ((rI M (fR M 104 7 + 6) c) + 1)) := ⟨_, rfl⟩
    have hN5 : SQ N5 := by rw [eN5]; exact hS.ki
    have H : Ev none (e1 + 1) 62 58 [some (.ref 104), some (.int c), none] [] N5 v M' 0 0 := by rw [eN5]; exact H
    have H : Ev none (e1 + 1) 62 59 [some (.ref 104), some (.int c), none] [.ref 104] N5 v M' 0 0 := Ev.back 1 (fun n => rfl) H
    have H : Ev none (e1 + 1) 62 62 [some (.ref 104), some (.int c), none] [.ref (fR N5 104 7)] N5 v M' 0 0 := Ev.back 1 (gs_3 rfl rfl (gf_r hN5.1 qa_104 qr_22_7 rfl)) H
    rw [show fR N5 104 7 = fR M 104 7 from by rw [eN5]; exact fR_wI] at H
    have H : Ev none (e1 + 1) 62 65 [some (.ref 104), some (.int c), none] [.ref (fR M 104 7 + 7)] N5 v M' 0 0 := Ev.back 1 (gs_3 rfl rfl (gf_x hN5.1 (hS.1.fr qa_104 qr_22_7).2 qo_8 (fx_l8 hN5 (hS.1.fr qa_104 qr_22_7).2) rfl)) H
    have H : Ev none (e1 + 1) 62 67 [some (.ref 104), some (.int c), none] [.int c, .ref (fR M 104 7 + 7), .int c, .ref (fR M 104 7 + 7)] N5 v M' 0 0 := Ev.back 2 (fun n => rfl) H
    obtain ⟨b6, H⟩ := Ev.ial rfl rfl hN5.1 (fx_h8 (hS.1.fr qa_104 qr_22_7).2) qw_15 H
    have H : Ev none (e1 + 1) 62 68 [some (.ref 104), some (.int c), none] [.int (rI N5 (fR M 104 7 + 7) c), .int c, .ref (fR M 104 7 + 7)] N5 v M' 0 0 := H
    rw [show rI N5 (fR M 104 7 + 7) c = rI M (fR M 104 7 + 7) c from by rw [eN5]; exact rN_wI_ne (fun q => absurd q.1 (by omega))] at H
    have H : Ev none (e1 + 1) 62 70 [some (.ref 104), some (.int c), none] [.int ((rI M (fR M 104 7 + 7) c) + 1), .int c, .ref (fR M 104 7 + 7)] N5 v M' 0 0 := Ev.back 2 (fun n => rfl) H
    obtain ⟨b7, H⟩ := Ev.ias rfl rfl hN5.1 (fx_h8 (hS.1.fr qa_104 qr_22_7).2) qw_15 H
    obtain ⟨N8, eN8⟩ : ∃ N, N = (wI N5 (fR M 104 7 + 7) c.toNatClampNeg ((rI M (fR M 104 7 + 7) c) + 1)) := ⟨_, rfl⟩
    have hN8 : SQ N8 := by rw [eN8]; exact hN5.ki
    have H : Ev none (e1 + 1) 62 71 [some (.ref 104), some (.int c), none] [] N8 v M' 0 0 := by rw [eN8]; exact H
    have H : Ev none (e1 + 1) 62 73 [some (.ref 104), some (.int c), some (.int 0)] [] N8 v M' 0 0 := Ev.back 2 (fun n => rfl) H
    have HF := H
    subst eN5 eN8
    exact Or.inl ⟨h2, b3, b4, b6, b7, HF⟩
  · rw [if_neg h2] at H
    have H : Ev none (e1 + 1) 62 15 [some (.ref 104), some (.int c), none] [.int 5, .int c, .int 0, .ref 104] M v M' 0 0 := Ev.back 4 (fun n => rfl) H
    obtain ⟨vK9, MK9, K9, H⟩ := Ev.callb (fun n_ => gs_7 rfl rfl (show gCal (.invokevirtual 181) 7 (.int 5 :: .int c :: .int 0 :: .ref 104 :: []) M = some (.inr (64, [some (.ref 104), some (.int 0), some (.int c), some (.int 5), none], [])) from by show @cond (Option ((List Value × Mem) ⊕ (Nat × Lo × List Value))) (true && gRecv M (.ref 104) 7 && gRoom [] && true) (some (.inr (64, [some (.ref 104), some (.int 0), some (.int c), some (.int 5), none], []))) none = _; rw [recv_s hS.1 qa_104 qo_22]; rfl)) H
    have K9 : Ev none e1 64 0 [some (.ref 104), some (.int 0), some (.int c), some (.int 5), none] [] M vK9 MK9 0 0 := K9
    have HF := H
    exact Or.inr (⟨h2, ⟨e1, vK9, MK9, rfl, K9, HF⟩⟩)
theorem tre_18 {e : Nat} {M M' : Mem} {v : Option Value} {c y : Int32} (hS : SQ M) (H : Ev none e 62 18 [some (.ref 104), some (.int c), none] [.int y] M v M' 0 0) : (0 ≤ c.toInt ∧ c.toInt < 256) ∧ (0 ≤ c.toInt ∧ c.toInt < 256) ∧ Ev none e 62 45 [some (.ref 104), some (.int c), some (.int y)] [] (wI M (fR M 104 7 + 4) c.toNatClampNeg (if ((rI M (fR M 104 7 + 4) c) + y) < 999 then ((rI M (fR M 104 7 + 4) c) + y) else 999)) v M' 0 0 := by
  have H : Ev none e 62 20 [some (.ref 104), some (.int c), some (.int y)] [.ref 104] M v M' 0 0 := Ev.back 2 (fun n => rfl) H
  have H : Ev none e 62 23 [some (.ref 104), some (.int c), some (.int y)] [.ref (fR M 104 7)] M v M' 0 0 := Ev.back 1 (gs_3 rfl rfl (gf_r hS.1 qa_104 qr_22_7 rfl)) H
  have H : Ev none e 62 26 [some (.ref 104), some (.int c), some (.int y)] [.ref (fR M 104 7 + 4)] M v M' 0 0 := Ev.back 1 (gs_3 rfl rfl (gf_x hS.1 (hS.1.fr qa_104 qr_22_7).2 qo_8 (fx_l5 hS (hS.1.fr qa_104 qr_22_7).2) rfl)) H
  have H : Ev none e 62 31 [some (.ref 104), some (.int c), some (.int y)] [.ref 104, .int 999, .int c, .ref (fR M 104 7 + 4)] M v M' 0 0 := Ev.back 3 (fun n => rfl) H
  have H : Ev none e 62 34 [some (.ref 104), some (.int c), some (.int y)] [.ref (fR M 104 7), .int 999, .int c, .ref (fR M 104 7 + 4)] M v M' 0 0 := Ev.back 1 (gs_3 rfl rfl (gf_r hS.1 qa_104 qr_22_7 rfl)) H
  have H : Ev none e 62 37 [some (.ref 104), some (.int c), some (.int y)] [.ref (fR M 104 7 + 4), .int 999, .int c, .ref (fR M 104 7 + 4)] M v M' 0 0 := Ev.back 1 (gs_3 rfl rfl (gf_x hS.1 (hS.1.fr qa_104 qr_22_7).2 qo_8 (fx_l5 hS (hS.1.fr qa_104 qr_22_7).2) rfl)) H
  have H : Ev none e 62 38 [some (.ref 104), some (.int c), some (.int y)] [.int c, .ref (fR M 104 7 + 4), .int 999, .int c, .ref (fR M 104 7 + 4)] M v M' 0 0 := Ev.back 1 (fun n => rfl) H
  obtain ⟨b1, H⟩ := Ev.ial rfl rfl hS.1 (fx_h5 (hS.1.fr qa_104 qr_22_7).2) qw_12 H
  have H : Ev none e 62 39 [some (.ref 104), some (.int c), some (.int y)] [.int (rI M (fR M 104 7 + 4) c), .int 999, .int c, .ref (fR M 104 7 + 4)] M v M' 0 0 := H
  have H : Ev none e 62 41 [some (.ref 104), some (.int c), some (.int y)] [.int ((rI M (fR M 104 7 + 4) c) + y), .int 999, .int c, .ref (fR M 104 7 + 4)] M v M' 0 0 := Ev.back 2 (fun n => rfl) H
  obtain ⟨e1, rfl⟩ := Ev.dpos rfl rfl H
  have H : Ev none (e1 + 1) 62 44 [some (.ref 104), some (.int c), some (.int y)] [.int (if ((rI M (fR M 104 7 + 4) c) + y) < 999 then ((rI M (fR M 104 7 + 4) c) + y) else 999), .int c, .ref (fR M 104 7 + 4)] M v M' 0 0 := Ev.back 1 (fun n => rfl) H
  obtain ⟨b2, H⟩ := Ev.ias rfl rfl hS.1 (fx_h5 (hS.1.fr qa_104 qr_22_7).2) qw_12 H
  obtain ⟨N3, eN3⟩ : ∃ N, N = (wI M (fR M 104 7 + 4) c.toNatClampNeg (if ((rI M (fR M 104 7 + 4) c) + y) < 999 then ((rI M (fR M 104 7 + 4) c) + y) else 999)) := ⟨_, rfl⟩
  have hN3 : SQ N3 := by rw [eN3]; exact hS.ki
  have H : Ev none (e1 + 1) 62 45 [some (.ref 104), some (.int c), some (.int y)] [] N3 v M' 0 0 := by rw [eN3]; exact H
  have HF := H
  subst eN3
  exact ⟨b1, b2, HF⟩
theorem tre_45 {e : Nat} {M M' : Mem} {v : Option Value} {c : Int32} {c2 : Option Value} (hS : SQ M) (H : Ev none e 62 45 [some (.ref 104), some (.int c), c2] [] M v M' 0 0) : (0 ≤ c.toInt ∧ c.toInt < 256) ∧ (0 ≤ c.toInt ∧ c.toInt < 256) ∧ (0 ≤ c.toInt ∧ c.toInt < 256) ∧ (0 ≤ c.toInt ∧ c.toInt < 256) ∧ Ev none e 62 73 [some (.ref 104), some (.int c), some (.int 0)] [] (wI (wI M (fR M 104 7 + 6) c.toNatClampNeg ((rI M (fR M 104 7 + 6) c) + 1)) (fR M 104 7 + 7) c.toNatClampNeg ((rI M (fR M 104 7 + 7) c) + 1)) v M' 0 0 := by
  have H : Ev none e 62 46 [some (.ref 104), some (.int c), c2] [.ref 104] M v M' 0 0 := Ev.back 1 (fun n => rfl) H
  have H : Ev none e 62 49 [some (.ref 104), some (.int c), c2] [.ref (fR M 104 7)] M v M' 0 0 := Ev.back 1 (gs_3 rfl rfl (gf_r hS.1 qa_104 qr_22_7 rfl)) H
  have H : Ev none e 62 52 [some (.ref 104), some (.int c), c2] [.ref (fR M 104 7 + 6)] M v M' 0 0 := Ev.back 1 (gs_3 rfl rfl (gf_x hS.1 (hS.1.fr qa_104 qr_22_7).2 qo_8 (fx_l7 hS (hS.1.fr qa_104 qr_22_7).2) rfl)) H
  have H : Ev none e 62 54 [some (.ref 104), some (.int c), c2] [.int c, .ref (fR M 104 7 + 6), .int c, .ref (fR M 104 7 + 6)] M v M' 0 0 := Ev.back 2 (fun n => rfl) H
  obtain ⟨b1, H⟩ := Ev.ial rfl rfl hS.1 (fx_h7 (hS.1.fr qa_104 qr_22_7).2) qw_14 H
  have H : Ev none e 62 55 [some (.ref 104), some (.int c), c2] [.int (rI M (fR M 104 7 + 6) c), .int c, .ref (fR M 104 7 + 6)] M v M' 0 0 := H
  have H : Ev none e 62 57 [some (.ref 104), some (.int c), c2] [.int ((rI M (fR M 104 7 + 6) c) + 1), .int c, .ref (fR M 104 7 + 6)] M v M' 0 0 := Ev.back 2 (fun n => rfl) H
  obtain ⟨b2, H⟩ := Ev.ias rfl rfl hS.1 (fx_h7 (hS.1.fr qa_104 qr_22_7).2) qw_14 H
  obtain ⟨N3, eN3⟩ : ∃ N, N = (wI M (fR M 104 7 + 6) c.toNatClampNeg ((rI M (fR M 104 7 + 6) c) + 1)) := ⟨_, rfl⟩
  have hN3 : SQ N3 := by rw [eN3]; exact hS.ki
  have H : Ev none e 62 58 [some (.ref 104), some (.int c), c2] [] N3 v M' 0 0 := by rw [eN3]; exact H
  have H : Ev none e 62 59 [some (.ref 104), some (.int c), c2] [.ref 104] N3 v M' 0 0 := Ev.back 1 (fun n => rfl) H
  have H : Ev none e 62 62 [some (.ref 104), some (.int c), c2] [.ref (fR N3 104 7)] N3 v M' 0 0 := Ev.back 1 (gs_3 rfl rfl (gf_r hN3.1 qa_104 qr_22_7 rfl)) H
  rw [show fR N3 104 7 = fR M 104 7 from by rw [eN3]; exact fR_wI] at H
  have H : Ev none e 62 65 [some (.ref 104), some (.int c), c2] [.ref (fR M 104 7 + 7)] N3 v M' 0 0 := Ev.back 1 (gs_3 rfl rfl (gf_x hN3.1 (hS.1.fr qa_104 qr_22_7).2 qo_8 (fx_l8 hN3 (hS.1.fr qa_104 qr_22_7).2) rfl)) H
  have H : Ev none e 62 67 [some (.ref 104), some (.int c), c2] [.int c, .ref (fR M 104 7 + 7), .int c, .ref (fR M 104 7 + 7)] N3 v M' 0 0 := Ev.back 2 (fun n => rfl) H
  obtain ⟨b4, H⟩ := Ev.ial rfl rfl hN3.1 (fx_h8 (hS.1.fr qa_104 qr_22_7).2) qw_15 H
  have H : Ev none e 62 68 [some (.ref 104), some (.int c), c2] [.int (rI N3 (fR M 104 7 + 7) c), .int c, .ref (fR M 104 7 + 7)] N3 v M' 0 0 := H
  rw [show rI N3 (fR M 104 7 + 7) c = rI M (fR M 104 7 + 7) c from by rw [eN3]; exact rN_wI_ne (fun q => absurd q.1 (by omega))] at H
  have H : Ev none e 62 70 [some (.ref 104), some (.int c), c2] [.int ((rI M (fR M 104 7 + 7) c) + 1), .int c, .ref (fR M 104 7 + 7)] N3 v M' 0 0 := Ev.back 2 (fun n => rfl) H
  obtain ⟨b5, H⟩ := Ev.ias rfl rfl hN3.1 (fx_h8 (hS.1.fr qa_104 qr_22_7).2) qw_15 H
  obtain ⟨N6, eN6⟩ : ∃ N, N = (wI N3 (fR M 104 7 + 7) c.toNatClampNeg ((rI M (fR M 104 7 + 7) c) + 1)) := ⟨_, rfl⟩
  have hN6 : SQ N6 := by rw [eN6]; exact hN3.ki
  have H : Ev none e 62 71 [some (.ref 104), some (.int c), c2] [] N6 v M' 0 0 := by rw [eN6]; exact H
  have H : Ev none e 62 73 [some (.ref 104), some (.int c), some (.int 0)] [] N6 v M' 0 0 := Ev.back 2 (fun n => rfl) H
  have HF := H
  subst eN3 eN6
  exact ⟨b1, b2, b4, b5, HF⟩
theorem tre_73 {e : Nat} {M M' : Mem} {v : Option Value} {c k : Int32} (hS : SQ M) (H : Ev none e 62 73 [some (.ref 104), some (.int c), some (.int k)] [] M v M' 0 0) : (6 ≤ k ∧ c = (zI M 104 9) ∧ v = none ∧ M' = (wF M 104 10 1)) ∨ (6 ≤ k ∧ ¬ (c = (zI M 104 9)) ∧ v = none ∧ M' = M) ∨ (¬ (6 ≤ k) ∧ (0 ≤ ((256 * k) + c).toInt ∧ ((256 * k) + c).toInt < 1536) ∧ Ev none e 62 73 [some (.ref 104), some (.int c), some (.int (k + 1))] [] (wI M 128 (((256 * k) + c).toNatClampNeg) (-1)) v M' 0 0) := by
  have H : Ev none e 62 (if 6 ≤ k then 98 else 79) [some (.ref 104), some (.int c), some (.int k)] [] M v M' 0 0 := Ev.back 3 (fun n => rfl) H
  by_cases h1 : 6 ≤ k
  · rw [if_pos h1] at H
    have H : Ev none e 62 100 [some (.ref 104), some (.int c), some (.int k)] [.ref 104, .int c] M v M' 0 0 := Ev.back 2 (fun n => rfl) H
    have H : Ev none e 62 103 [some (.ref 104), some (.int c), some (.int k)] [.int (zI M 104 9), .int c] M v M' 0 0 := Ev.back 1 (gs_3 rfl rfl (gf_i hS.1 qa_104 qi_22_9 rfl)) H
    have H : Ev none e 62 (if c = (zI M 104 9) then 106 else 111) [some (.ref 104), some (.int c), some (.int k)] [] M v M' 0 0 := Ev.back 1 (fun n => rfl) H
    by_cases h2 : c = (zI M 104 9)
    · rw [if_pos h2] at H
      have H : Ev none e 62 108 [some (.ref 104), some (.int c), some (.int k)] [.int 1, .ref 104] M v M' 0 0 := Ev.back 2 (fun n => rfl) H
      obtain ⟨N4, eN4⟩ : ∃ N, N = (wF M 104 10 1) := ⟨_, rfl⟩
      have hN4 : SQ N4 := by rw [eN4]; exact hS.kf
      have H : Ev none e 62 111 [some (.ref 104), some (.int c), some (.int k)] [] N4 v M' 0 0 := by rw [eN4]; exact Ev.pfi rfl rfl rfl hS.1 qa_104 qi_22_10 H
      obtain ⟨z1, z2⟩ := Ev.retb (fun n => rfl) H
      subst eN4
      exact Or.inl ⟨h1, h2, z1, z2⟩
    · rw [if_neg h2] at H
      obtain ⟨z1, z2⟩ := Ev.retb (fun n => rfl) H
      exact Or.inr (Or.inl ⟨h1, h2, z1, z2⟩)
  · rw [if_neg h1] at H
    have H : Ev none e 62 80 [some (.ref 104), some (.int c), some (.int k)] [.ref 104] M v M' 0 0 := Ev.back 1 (fun n => rfl) H
    have H : Ev none e 62 83 [some (.ref 104), some (.int c), some (.int k)] [.ref 128] M v M' 0 0 := Ev.back 1 (gs_3 rfl rfl (gf_u hS.1 qa_104 qr_22_4 qu_37 rfl)) H
    have H : Ev none e 62 91 [some (.ref 104), some (.int c), some (.int k)] [.int (-1), .int ((256 * k) + c), .ref 128] M v M' 0 0 := Ev.back 6 (fun n => rfl) H
    obtain ⟨b5, H⟩ := Ev.ias rfl rfl hS.1 qa_128 qw_37 H
    obtain ⟨N6, eN6⟩ : ∃ N, N = (wI M 128 (((256 * k) + c).toNatClampNeg) (-1)) := ⟨_, rfl⟩
    have hN6 : SQ N6 := by rw [eN6]; exact hS.ki
    have H : Ev none e 62 92 [some (.ref 104), some (.int c), some (.int k)] [] N6 v M' 0 0 := by rw [eN6]; exact H
    have H : Ev none e 62 73 [some (.ref 104), some (.int c), some (.int (k + 1))] [] N6 v M' 0 0 := Ev.back 2 (fun n => rfl) H
    have HF := H
    subst eN6
    exact Or.inr (Or.inr (⟨h1, b5, HF⟩))
theorem loo_0 {e : Nat} {M M' : Mem} {v : Option Value} {av c : Int32} {t : Nat} (hS : SQ M) (a_t : gNth sT t = some 28) (H : Ev none e 67 0 [some (.ref 104), some (.ref t), some (.int av), some (.int c), none, none] [] M v M' 0 0) : (0 ≤ av.toInt ∧ av.toInt < 1536) ∧ Ev none e 67 10 [some (.ref 104), some (.ref t), some (.int av), some (.int c), some (.int 0), none] [] (wI M 128 av.toNatClampNeg 0) v M' 0 0 := by
  have H : Ev none e 67 1 [some (.ref 104), some (.ref t), some (.int av), some (.int c), none, none] [.ref 104] M v M' 0 0 := Ev.back 1 (fun n => rfl) H
  have H : Ev none e 67 4 [some (.ref 104), some (.ref t), some (.int av), some (.int c), none, none] [.ref 128] M v M' 0 0 := Ev.back 1 (gs_3 rfl rfl (gf_u hS.1 qa_104 qr_22_4 qu_37 rfl)) H
  have H : Ev none e 67 6 [some (.ref 104), some (.ref t), some (.int av), some (.int c), none, none] [.int 0, .int av, .ref 128] M v M' 0 0 := Ev.back 2 (fun n => rfl) H
  obtain ⟨b1, H⟩ := Ev.ias rfl rfl hS.1 qa_128 qw_37 H
  obtain ⟨N2, eN2⟩ : ∃ N, N = (wI M 128 av.toNatClampNeg 0) := ⟨_, rfl⟩
  have hN2 : SQ N2 := by rw [eN2]; exact hS.ki
  have H : Ev none e 67 7 [some (.ref 104), some (.ref t), some (.int av), some (.int c), none, none] [] N2 v M' 0 0 := by rw [eN2]; exact H
  have H : Ev none e 67 10 [some (.ref 104), some (.ref t), some (.int av), some (.int c), some (.int 0), none] [] N2 v M' 0 0 := Ev.back 2 (fun n => rfl) H
  have HF := H
  subst eN2
  exact ⟨b1, HF⟩
theorem loo_10 {e : Nat} {M M' : Mem} {v : Option Value} {av c i : Int32} {t : Nat} {c5 : Option Value} (hS : SQ M) (a_t : gNth sT t = some 28) (H : Ev none e 67 10 [some (.ref 104), some (.ref t), some (.int av), some (.int c), some (.int i), c5] [] M v M' 0 0) : (7 ≤ i ∧ Ev none e 67 36 [some (.ref 104), some (.ref t), some (.int av), some (.int c), some (.int 0), c5] [] M v M' 0 0) ∨ (¬ (7 ≤ i) ∧ (0 ≤ i.toInt ∧ i.toInt < 7) ∧ (0 ≤ av.toInt ∧ av.toInt < 1536) ∧ Ev none e 67 10 [some (.ref 104), some (.ref t), some (.int av), some (.int c), some (.int (i + 1)), c5] [] (wI M (oI M 129 i) av.toNatClampNeg 0) v M' 0 0) := by
  have H : Ev none e 67 (if 7 ≤ i then 33 else 17) [some (.ref 104), some (.ref t), some (.int av), some (.int c), some (.int i), c5] [] M v M' 0 0 := Ev.back 3 (fun n => rfl) H
  by_cases h1 : 7 ≤ i
  · rw [if_pos h1] at H
    have H : Ev none e 67 36 [some (.ref 104), some (.ref t), some (.int av), some (.int c), some (.int 0), c5] [] M v M' 0 0 := Ev.back 2 (fun n => rfl) H
    have HF := H
    exact Or.inl ⟨h1, HF⟩
  · rw [if_neg h1] at H
    have H : Ev none e 67 18 [some (.ref 104), some (.ref t), some (.int av), some (.int c), some (.int i), c5] [.ref 104] M v M' 0 0 := Ev.back 1 (fun n => rfl) H
    have H : Ev none e 67 21 [some (.ref 104), some (.ref t), some (.int av), some (.int c), some (.int i), c5] [.ref 129] M v M' 0 0 := Ev.back 1 (gs_3 rfl rfl (gf_u hS.1 qa_104 qr_22_5 qu_38 rfl)) H
    have H : Ev none e 67 23 [some (.ref 104), some (.ref t), some (.int av), some (.int c), some (.int i), c5] [.int i, .ref 129] M v M' 0 0 := Ev.back 1 (fun n => rfl) H
    obtain ⟨b2, H⟩ := Ev.aal rfl rfl hS.1 qa_129 qz_38 H
    have H : Ev none e 67 24 [some (.ref 104), some (.ref t), some (.int av), some (.int c), some (.int i), c5] [.ref (oI M 129 i)] M v M' 0 0 := H
    have H : Ev none e 67 26 [some (.ref 104), some (.ref t), some (.int av), some (.int c), some (.int i), c5] [.int 0, .int av, .ref (oI M 129 i)] M v M' 0 0 := Ev.back 2 (fun n => rfl) H
    obtain ⟨b3, H⟩ := Ev.ias rfl rfl hS.1 b2.2 qw_39 H
    obtain ⟨N4, eN4⟩ : ∃ N, N = (wI M (oI M 129 i) av.toNatClampNeg 0) := ⟨_, rfl⟩
    have hN4 : SQ N4 := by rw [eN4]; exact hS.ki
    have H : Ev none e 67 27 [some (.ref 104), some (.ref t), some (.int av), some (.int c), some (.int i), c5] [] N4 v M' 0 0 := by rw [eN4]; exact H
    have H : Ev none e 67 10 [some (.ref 104), some (.ref t), some (.int av), some (.int c), some (.int (i + 1)), c5] [] N4 v M' 0 0 := Ev.back 2 (fun n => rfl) H
    have HF := H
    subst eN4
    exact Or.inr (⟨h1, b2.1, b3, HF⟩)
theorem loo_36 {e : Nat} {M M' : Mem} {v : Option Value} {av c i : Int32} {t : Nat} {c5 : Option Value} (hS : SQ M) (a_t : gNth sT t = some 28) (H : Ev none e 67 36 [some (.ref 104), some (.ref t), some (.int av), some (.int c), some (.int i), c5] [] M v M' 0 0) : ((zI M t 8) ≤ i ∧ v = none ∧ M' = M) ∨ (¬ ((zI M t 8) ≤ i) ∧ (rI M (t + 1) i) = 5 ∧ (0 ≤ i.toInt ∧ i.toInt < 16) ∧ (∃ e1 v1 M1, e = e1 + 1 ∧ Ev none e1 70 0 [some (.ref 104), some (.ref t), some (.int i), some (.int c), none, none, none, none, none] [] M v1 M1 0 0 ∧ Ev none e 67 88 [some (.ref 104), some (.ref t), some (.int av), some (.int c), some (.int i), some (.int 1)] (v1.toList ++ []) M1 v M' 0 0)) ∨ (¬ ((zI M t 8) ≤ i) ∧ ¬ ((rI M (t + 1) i) = 5) ∧ (rI M (t + 1) i) = 6 ∧ (0 ≤ i.toInt ∧ i.toInt < 16) ∧ (0 ≤ i.toInt ∧ i.toInt < 16) ∧ (∃ e1 v1 M1, e = e1 + 1 ∧ Ev none e1 70 0 [some (.ref 104), some (.ref t), some (.int i), some (.int c), none, none, none, none, none] [] M v1 M1 0 0 ∧ Ev none e 67 88 [some (.ref 104), some (.ref t), some (.int av), some (.int c), some (.int i), some (.int 1)] (v1.toList ++ []) M1 v M' 0 0)) ∨ (¬ ((zI M t 8) ≤ i) ∧ ¬ ((rI M (t + 1) i) = 5) ∧ ¬ ((rI M (t + 1) i) = 6) ∧ (0 ≤ i.toInt ∧ i.toInt < 16) ∧ (0 ≤ i.toInt ∧ i.toInt < 16) ∧ Ev none e 67 36 [some (.ref 104), some (.ref t), some (.int av), some (.int c), some (.int (i + 1)), some (.int 0)] [] M v M' 0 0) := by
  have H : Ev none e 67 39 [some (.ref 104), some (.ref t), some (.int av), some (.int c), some (.int i), c5] [.ref t, .int i] M v M' 0 0 := Ev.back 2 (fun n => rfl) H
  have H : Ev none e 67 42 [some (.ref 104), some (.ref t), some (.int av), some (.int c), some (.int i), c5] [.int (zI M t 8), .int i] M v M' 0 0 := Ev.back 1 (gs_3 rfl rfl (gf_i hS.1 a_t qi_28_8 rfl)) H
  have H : Ev none e 67 (if (zI M t 8) ≤ i then 143 else 45) [some (.ref 104), some (.ref t), some (.int av), some (.int c), some (.int i), c5] [] M v M' 0 0 := Ev.back 1 (fun n => rfl) H
  by_cases h1 : (zI M t 8) ≤ i
  · rw [if_pos h1] at H
    obtain ⟨z1, z2⟩ := Ev.retb (fun n => rfl) H
    exact Or.inl ⟨h1, z1, z2⟩
  · rw [if_neg h1] at H
    have H : Ev none e 67 46 [some (.ref 104), some (.ref t), some (.int av), some (.int c), some (.int i), c5] [.ref t] M v M' 0 0 := Ev.back 1 (fun n => rfl) H
    have H : Ev none e 67 49 [some (.ref 104), some (.ref t), some (.int av), some (.int c), some (.int i), c5] [.ref (t + 1)] M v M' 0 0 := Ev.back 1 (gs_3 rfl rfl (gf_x hS.1 a_t qo_28 (fx_t0 hS a_t) rfl)) H
    have H : Ev none e 67 51 [some (.ref 104), some (.ref t), some (.int av), some (.int c), some (.int i), c5] [.int i, .ref (t + 1)] M v M' 0 0 := Ev.back 1 (fun n => rfl) H
    obtain ⟨b2, H⟩ := Ev.ial rfl rfl hS.1 (fx_g0 a_t) qw_29 H
    have H : Ev none e 67 52 [some (.ref 104), some (.ref t), some (.int av), some (.int c), some (.int i), c5] [.int (rI M (t + 1) i)] M v M' 0 0 := H
    have H : Ev none e 67 (if (rI M (t + 1) i) = 5 then 68 else 56) [some (.ref 104), some (.ref t), some (.int av), some (.int c), some (.int i), c5] [] M v M' 0 0 := Ev.back 2 (fun n => rfl) H
    by_cases h3 : (rI M (t + 1) i) = 5
    · rw [if_pos h3] at H
      have H : Ev none e 67 (if 1 = 0 then 137 else 80) [some (.ref 104), some (.ref t), some (.int av), some (.int c), some (.int i), some (.int 1)] [] M v M' 0 0 := Ev.back 5 (fun n => rfl) H
      rw [if_neg (by decide)] at H
      have H : Ev none e 67 85 [some (.ref 104), some (.ref t), some (.int av), some (.int c), some (.int i), some (.int 1)] [.int c, .int i, .ref t, .ref 104] M v M' 0 0 := Ev.back 4 (fun n => rfl) H
      obtain ⟨e1, rfl⟩ := Ev.dpos rfl rfl H
      obtain ⟨vK4, MK4, K4, H⟩ := Ev.callb (fun n_ => gs_7 rfl rfl (show gCal (.invokevirtual 212) 7 (.int c :: .int i :: .ref t :: .ref 104 :: []) M = some (.inr (70, [some (.ref 104), some (.ref t), some (.int i), some (.int c), none, none, none, none, none], [])) from by show @cond (Option ((List Value × Mem) ⊕ (Nat × Lo × List Value))) (true && gRecv M (.ref 104) 7 && gRoom [] && true) (some (.inr (70, [some (.ref 104), some (.ref t), some (.int i), some (.int c), none, none, none, none, none], []))) none = _; rw [recv_s hS.1 qa_104 qo_22]; rfl)) H
      have K4 : Ev none e1 70 0 [some (.ref 104), some (.ref t), some (.int i), some (.int c), none, none, none, none, none] [] M vK4 MK4 0 0 := K4
      have HF := H
      exact Or.inr (Or.inl ⟨h1, h3, b2, ⟨e1, vK4, MK4, rfl, K4, HF⟩⟩)
    · rw [if_neg h3] at H
      have H : Ev none e 67 57 [some (.ref 104), some (.ref t), some (.int av), some (.int c), some (.int i), c5] [.ref t] M v M' 0 0 := Ev.back 1 (fun n => rfl) H
      have H : Ev none e 67 60 [some (.ref 104), some (.ref t), some (.int av), some (.int c), some (.int i), c5] [.ref (t + 1)] M v M' 0 0 := Ev.back 1 (gs_3 rfl rfl (gf_x hS.1 a_t qo_28 (fx_t0 hS a_t) rfl)) H
      have H : Ev none e 67 62 [some (.ref 104), some (.ref t), some (.int av), some (.int c), some (.int i), c5] [.int i, .ref (t + 1)] M v M' 0 0 := Ev.back 1 (fun n => rfl) H
      obtain ⟨b5, H⟩ := Ev.ial rfl rfl hS.1 (fx_g0 a_t) qw_29 H
      have H : Ev none e 67 63 [some (.ref 104), some (.ref t), some (.int av), some (.int c), some (.int i), c5] [.int (rI M (t + 1) i)] M v M' 0 0 := H
      have H : Ev none e 67 (if (rI M (t + 1) i) = 6 then 68 else 72) [some (.ref 104), some (.ref t), some (.int av), some (.int c), some (.int i), c5] [] M v M' 0 0 := Ev.back 2 (fun n => rfl) H
      by_cases h6 : (rI M (t + 1) i) = 6
      · rw [if_pos h6] at H
        have H : Ev none e 67 (if 1 = 0 then 137 else 80) [some (.ref 104), some (.ref t), some (.int av), some (.int c), some (.int i), some (.int 1)] [] M v M' 0 0 := Ev.back 5 (fun n => rfl) H
        rw [if_neg (by decide)] at H
        have H : Ev none e 67 85 [some (.ref 104), some (.ref t), some (.int av), some (.int c), some (.int i), some (.int 1)] [.int c, .int i, .ref t, .ref 104] M v M' 0 0 := Ev.back 4 (fun n => rfl) H
        obtain ⟨e1, rfl⟩ := Ev.dpos rfl rfl H
        obtain ⟨vK7, MK7, K7, H⟩ := Ev.callb (fun n_ => gs_7 rfl rfl (show gCal (.invokevirtual 212) 7 (.int c :: .int i :: .ref t :: .ref 104 :: []) M = some (.inr (70, [some (.ref 104), some (.ref t), some (.int i), some (.int c), none, none, none, none, none], [])) from by show @cond (Option ((List Value × Mem) ⊕ (Nat × Lo × List Value))) (true && gRecv M (.ref 104) 7 && gRoom [] && true) (some (.inr (70, [some (.ref 104), some (.ref t), some (.int i), some (.int c), none, none, none, none, none], []))) none = _; rw [recv_s hS.1 qa_104 qo_22]; rfl)) H
        have K7 : Ev none e1 70 0 [some (.ref 104), some (.ref t), some (.int i), some (.int c), none, none, none, none, none] [] M vK7 MK7 0 0 := K7
        have HF := H
        exact Or.inr (Or.inr (Or.inl ⟨h1, h3, h6, b2, b5, ⟨e1, vK7, MK7, rfl, K7, HF⟩⟩))
      · rw [if_neg h6] at H
        have H : Ev none e 67 (if 0 = 0 then 137 else 80) [some (.ref 104), some (.ref t), some (.int av), some (.int c), some (.int i), some (.int 0)] [] M v M' 0 0 := Ev.back 4 (fun n => rfl) H
        rw [if_pos (by decide)] at H
        have H : Ev none e 67 36 [some (.ref 104), some (.ref t), some (.int av), some (.int c), some (.int (i + 1)), some (.int 0)] [] M v M' 0 0 := Ev.back 2 (fun n => rfl) H
        have HF := H
        exact Or.inr (Or.inr (Or.inr (⟨h1, h3, h6, b2, b5, HF⟩)))
theorem loo_88 {e : Nat} {M M' : Mem} {v : Option Value} {av c i y : Int32} {t : Nat} {c5 : Option Value} (hS : SQ M) (a_t : gNth sT t = some 28) (H : Ev none e 67 88 [some (.ref 104), some (.ref t), some (.int av), some (.int c), some (.int i), c5] [.int y] M v M' 0 0) : (y = 0 ∧ Ev none e 67 36 [some (.ref 104), some (.ref t), some (.int av), some (.int c), some (.int (i + 1)), c5] [] M v M' 0 0) ∨ (¬ (y = 0) ∧ (rI M (t + 1) i) = 6 ∧ (0 ≤ i.toInt ∧ i.toInt < 16) ∧ (0 ≤ av.toInt ∧ av.toInt < 1536) ∧ Ev none e 67 36 [some (.ref 104), some (.ref t), some (.int av), some (.int c), some (.int (i + 1)), c5] [] (wI M 128 av.toNatClampNeg 1) v M' 0 0) ∨ (¬ (y = 0) ∧ ¬ ((rI M (t + 1) i) = 6) ∧ (0 ≤ i.toInt ∧ i.toInt < 16) ∧ (0 ≤ i.toInt ∧ i.toInt < 16) ∧ (0 ≤ (rI M (t + 2) i).toInt ∧ (rI M (t + 2) i).toInt < 7) ∧ (0 ≤ av.toInt ∧ av.toInt < 1536) ∧ (0 ≤ i.toInt ∧ i.toInt < 16) ∧ (0 ≤ av.toInt ∧ av.toInt < 1536) ∧ Ev none e 67 36 [some (.ref 104), some (.ref t), some (.int av), some (.int c), some (.int (i + 1)), c5] [] (wI M (oI M 129 (rI M (t + 2) i)) av.toNatClampNeg ((rI M (oI M 129 (rI M (t + 2) i)) av) + (rI M (t + 3) i))) v M' 0 0) := by
  have H : Ev none e 67 (if y = 0 then 137 else 91) [some (.ref 104), some (.ref t), some (.int av), some (.int c), some (.int i), c5] [] M v M' 0 0 := Ev.back 1 (fun n => rfl) H
  by_cases h1 : y = 0
  · rw [if_pos h1] at H
    have H : Ev none e 67 36 [some (.ref 104), some (.ref t), some (.int av), some (.int c), some (.int (i + 1)), c5] [] M v M' 0 0 := Ev.back 2 (fun n => rfl) H
    have HF := H
    exact Or.inl ⟨h1, HF⟩
  · rw [if_neg h1] at H
    have H : Ev none e 67 92 [some (.ref 104), some (.ref t), some (.int av), some (.int c), some (.int i), c5] [.ref t] M v M' 0 0 := Ev.back 1 (fun n => rfl) H
    have H : Ev none e 67 95 [some (.ref 104), some (.ref t), some (.int av), some (.int c), some (.int i), c5] [.ref (t + 1)] M v M' 0 0 := Ev.back 1 (gs_3 rfl rfl (gf_x hS.1 a_t qo_28 (fx_t0 hS a_t) rfl)) H
    have H : Ev none e 67 97 [some (.ref 104), some (.ref t), some (.int av), some (.int c), some (.int i), c5] [.int i, .ref (t + 1)] M v M' 0 0 := Ev.back 1 (fun n => rfl) H
    obtain ⟨b2, H⟩ := Ev.ial rfl rfl hS.1 (fx_g0 a_t) qw_29 H
    have H : Ev none e 67 98 [some (.ref 104), some (.ref t), some (.int av), some (.int c), some (.int i), c5] [.int (rI M (t + 1) i)] M v M' 0 0 := H
    have H : Ev none e 67 (if (rI M (t + 1) i) = 6 then 103 else 113) [some (.ref 104), some (.ref t), some (.int av), some (.int c), some (.int i), c5] [] M v M' 0 0 := Ev.back 2 (fun n => rfl) H
    by_cases h3 : (rI M (t + 1) i) = 6
    · rw [if_pos h3] at H
      have H : Ev none e 67 104 [some (.ref 104), some (.ref t), some (.int av), some (.int c), some (.int i), c5] [.ref 104] M v M' 0 0 := Ev.back 1 (fun n => rfl) H
      have H : Ev none e 67 107 [some (.ref 104), some (.ref t), some (.int av), some (.int c), some (.int i), c5] [.ref 128] M v M' 0 0 := Ev.back 1 (gs_3 rfl rfl (gf_u hS.1 qa_104 qr_22_4 qu_37 rfl)) H
      have H : Ev none e 67 109 [some (.ref 104), some (.ref t), some (.int av), some (.int c), some (.int i), c5] [.int 1, .int av, .ref 128] M v M' 0 0 := Ev.back 2 (fun n => rfl) H
      obtain ⟨b4, H⟩ := Ev.ias rfl rfl hS.1 qa_128 qw_37 H
      obtain ⟨N5, eN5⟩ : ∃ N, N = (wI M 128 av.toNatClampNeg 1) := ⟨_, rfl⟩
      have hN5 : SQ N5 := by rw [eN5]; exact hS.ki
      have H : Ev none e 67 110 [some (.ref 104), some (.ref t), some (.int av), some (.int c), some (.int i), c5] [] N5 v M' 0 0 := by rw [eN5]; exact H
      have H : Ev none e 67 36 [some (.ref 104), some (.ref t), some (.int av), some (.int c), some (.int (i + 1)), c5] [] N5 v M' 0 0 := Ev.back 3 (fun n => rfl) H
      have HF := H
      subst eN5
      exact Or.inr (Or.inl ⟨h1, h3, b2, b4, HF⟩)
    · rw [if_neg h3] at H
      have H : Ev none e 67 114 [some (.ref 104), some (.ref t), some (.int av), some (.int c), some (.int i), c5] [.ref 104] M v M' 0 0 := Ev.back 1 (fun n => rfl) H
      have H : Ev none e 67 117 [some (.ref 104), some (.ref t), some (.int av), some (.int c), some (.int i), c5] [.ref 129] M v M' 0 0 := Ev.back 1 (gs_3 rfl rfl (gf_u hS.1 qa_104 qr_22_5 qu_38 rfl)) H
      have H : Ev none e 67 118 [some (.ref 104), some (.ref t), some (.int av), some (.int c), some (.int i), c5] [.ref t, .ref 129] M v M' 0 0 := Ev.back 1 (fun n => rfl) H
      have H : Ev none e 67 121 [some (.ref 104), some (.ref t), some (.int av), some (.int c), some (.int i), c5] [.ref (t + 2), .ref 129] M v M' 0 0 := Ev.back 1 (gs_3 rfl rfl (gf_x hS.1 a_t qo_28 (fx_t1 hS a_t) rfl)) H
      have H : Ev none e 67 123 [some (.ref 104), some (.ref t), some (.int av), some (.int c), some (.int i), c5] [.int i, .ref (t + 2), .ref 129] M v M' 0 0 := Ev.back 1 (fun n => rfl) H
      obtain ⟨b6, H⟩ := Ev.ial rfl rfl hS.1 (fx_g1 a_t) qw_30 H
      have H : Ev none e 67 124 [some (.ref 104), some (.ref t), some (.int av), some (.int c), some (.int i), c5] [.int (rI M (t + 2) i), .ref 129] M v M' 0 0 := H
      obtain ⟨b7, H⟩ := Ev.aal rfl rfl hS.1 qa_129 qz_38 H
      have H : Ev none e 67 125 [some (.ref 104), some (.ref t), some (.int av), some (.int c), some (.int i), c5] [.ref (oI M 129 (rI M (t + 2) i))] M v M' 0 0 := H
      have H : Ev none e 67 127 [some (.ref 104), some (.ref t), some (.int av), some (.int c), some (.int i), c5] [.int av, .ref (oI M 129 (rI M (t + 2) i)), .int av, .ref (oI M 129 (rI M (t + 2) i))] M v M' 0 0 := Ev.back 2 (fun n => rfl) H
      obtain ⟨b8, H⟩ := Ev.ial rfl rfl hS.1 b7.2 qw_39 H
      have H : Ev none e 67 128 [some (.ref 104), some (.ref t), some (.int av), some (.int c), some (.int i), c5] [.int (rI M (oI M 129 (rI M (t + 2) i)) av), .int av, .ref (oI M 129 (rI M (t + 2) i))] M v M' 0 0 := H
      have H : Ev none e 67 129 [some (.ref 104), some (.ref t), some (.int av), some (.int c), some (.int i), c5] [.ref t, .int (rI M (oI M 129 (rI M (t + 2) i)) av), .int av, .ref (oI M 129 (rI M (t + 2) i))] M v M' 0 0 := Ev.back 1 (fun n => rfl) H
      have H : Ev none e 67 132 [some (.ref 104), some (.ref t), some (.int av), some (.int c), some (.int i), c5] [.ref (t + 3), .int (rI M (oI M 129 (rI M (t + 2) i)) av), .int av, .ref (oI M 129 (rI M (t + 2) i))] M v M' 0 0 := Ev.back 1 (gs_3 rfl rfl (gf_x hS.1 a_t qo_28 (fx_t2 hS a_t) rfl)) H
      have H : Ev none e 67 134 [some (.ref 104), some (.ref t), some (.int av), some (.int c), some (.int i), c5] [.int i, .ref (t + 3), .int (rI M (oI M 129 (rI M (t + 2) i)) av), .int av, .ref (oI M 129 (rI M (t + 2) i))] M v M' 0 0 := Ev.back 1 (fun n => rfl) H
      obtain ⟨b9, H⟩ := Ev.ial rfl rfl hS.1 (fx_g2 a_t) qw_31 H
      have H : Ev none e 67 135 [some (.ref 104), some (.ref t), some (.int av), some (.int c), some (.int i), c5] [.int (rI M (t + 3) i), .int (rI M (oI M 129 (rI M (t + 2) i)) av), .int av, .ref (oI M 129 (rI M (t + 2) i))] M v M' 0 0 := H
      have H : Ev none e 67 136 [some (.ref 104), some (.ref t), some (.int av), some (.int c), some (.int i), c5] [.int ((rI M (oI M 129 (rI M (t + 2) i)) av) + (rI M (t + 3) i)), .int av, .ref (oI M 129 (rI M (t + 2) i))] M v M' 0 0 := Ev.back 1 (fun n => rfl) H
      obtain ⟨b10, H⟩ := Ev.ias rfl rfl hS.1 b7.2 qw_39 H
      obtain ⟨N11, eN11⟩ : ∃ N, N = (wI M (oI M 129 (rI M (t + 2) i)) av.toNatClampNeg ((rI M (oI M 129 (rI M (t + 2) i)) av) + (rI M (t + 3) i))) := ⟨_, rfl⟩
      have hN11 : SQ N11 := by rw [eN11]; exact hS.ki
      have H : Ev none e 67 137 [some (.ref 104), some (.ref t), some (.int av), some (.int c), some (.int i), c5] [] N11 v M' 0 0 := by rw [eN11]; exact H
      have H : Ev none e 67 36 [some (.ref 104), some (.ref t), some (.int av), some (.int c), some (.int (i + 1)), c5] [] N11 v M' 0 0 := Ev.back 2 (fun n => rfl) H
      have HF := H
      subst eN11
      exact Or.inr (Or.inr (⟨h1, h3, b2, b6, b7.1, b8, b9, b10, HF⟩))
