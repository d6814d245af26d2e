/-! THE CLASS'S holds: pieces (made by gwal.py) -/
theorem hs0_0 {e : Nat} {M M' : Mem} {v : Option Value} {c : Int32} (hS : SQ M) (H : Ev none e 71 0 [some (.ref 104), some (.int 0), some (.int c)] [] M v M' 0 0) : (0 ≤ c.toInt ∧ c.toInt < 256) ∧ v = some (.int (rI M (fR M 104 7 + 1) c)) ∧ M' = M := by
  have H : Ev none e 71 45 [some (.ref 104), some (.int 0), some (.int c)] [.ref 104] M v M' 0 0 := Ev.back 3 (fun n => rfl) H
  have H : Ev none e 71 48 [some (.ref 104), some (.int 0), some (.int c)] [.ref (fR M 104 7)] M v M' 0 0 := Ev.back 1 (gs_3 rfl rfl (gf_r hS.1 qa_104 qr_22_7 rfl)) H
  have H : Ev none e 71 51 [some (.ref 104), some (.int 0), some (.int c)] [.ref (fR M 104 7 + 1)] M v M' 0 0 := Ev.back 1 (gs_3 rfl rfl (gf_x hS.1 (hS.1.fr qa_104 qr_22_7).2 qo_8 (fx_l2 hS (hS.1.fr qa_104 qr_22_7).2) rfl)) H
  have H : Ev none e 71 52 [some (.ref 104), some (.int 0), some (.int c)] [.int c, .ref (fR M 104 7 + 1)] M v M' 0 0 := Ev.back 1 (fun n => rfl) H
  obtain ⟨b1, H⟩ := Ev.ial rfl rfl hS.1 (fx_h2 (hS.1.fr qa_104 qr_22_7).2) qw_9 H
  have H : Ev none e 71 53 [some (.ref 104), some (.int 0), some (.int c)] [.int (rI M (fR M 104 7 + 1) c)] M v M' 0 0 := H
  obtain ⟨z1, z2⟩ := Ev.retz rfl rfl H
  exact ⟨b1, z1, z2⟩
theorem hs1_0 {e : Nat} {M M' : Mem} {v : Option Value} {c : Int32} (hS : SQ M) (H : Ev none e 71 0 [some (.ref 104), some (.int 1), some (.int c)] [] M v M' 0 0) : (0 ≤ c.toInt ∧ c.toInt < 256) ∧ v = some (.int (rI M (fR M 104 7 + 2) c)) ∧ M' = M := by
  have H : Ev none e 71 55 [some (.ref 104), some (.int 1), some (.int c)] [.ref 104] M v M' 0 0 := Ev.back 3 (fun n => rfl) H
  have H : Ev none e 71 58 [some (.ref 104), some (.int 1), some (.int c)] [.ref (fR M 104 7)] M v M' 0 0 := Ev.back 1 (gs_3 rfl rfl (gf_r hS.1 qa_104 qr_22_7 rfl)) H
  have H : Ev none e 71 61 [some (.ref 104), some (.int 1), some (.int c)] [.ref (fR M 104 7 + 2)] M v M' 0 0 := Ev.back 1 (gs_3 rfl rfl (gf_x hS.1 (hS.1.fr qa_104 qr_22_7).2 qo_8 (fx_l3 hS (hS.1.fr qa_104 qr_22_7).2) rfl)) H
  have H : Ev none e 71 62 [some (.ref 104), some (.int 1), some (.int c)] [.int c, .ref (fR M 104 7 + 2)] M v M' 0 0 := Ev.back 1 (fun n => rfl) H
  obtain ⟨b1, H⟩ := Ev.ial rfl rfl hS.1 (fx_h3 (hS.1.fr qa_104 qr_22_7).2) qw_10 H
  have H : Ev none e 71 63 [some (.ref 104), some (.int 1), some (.int c)] [.int (rI M (fR M 104 7 + 2) c)] M v M' 0 0 := H
  obtain ⟨z1, z2⟩ := Ev.retz rfl rfl H
  exact ⟨b1, z1, z2⟩
theorem hs2_0 {e : Nat} {M M' : Mem} {v : Option Value} {c : Int32} (hS : SQ M) (H : Ev none e 71 0 [some (.ref 104), some (.int 2), some (.int c)] [] M v M' 0 0) : ((rI M (fR M 104 7 + 4) c) < (zI M (fR M 104 2) 10) ∧ (0 ≤ c.toInt ∧ c.toInt < 256) ∧ v = some (.int 0) ∧ M' = M) ∨ (¬ ((rI M (fR M 104 7 + 4) c) < (zI M (fR M 104 2) 10)) ∧ (rI M (fR M 104 7 + 5) c) < (zI M (fR M 104 2) 11) ∧ (0 ≤ c.toInt ∧ c.toInt < 256) ∧ (0 ≤ c.toInt ∧ c.toInt < 256) ∧ v = some (.int 0) ∧ M' = M) ∨ (¬ ((rI M (fR M 104 7 + 4) c) < (zI M (fR M 104 2) 10)) ∧ ¬ ((rI M (fR M 104 7 + 5) c) < (zI M (fR M 104 2) 11)) ∧ (0 ≤ c.toInt ∧ c.toInt < 256) ∧ (0 ≤ c.toInt ∧ c.toInt < 256) ∧ v = some (.int 1) ∧ M' = M) := by
  have H : Ev none e 71 65 [some (.ref 104), some (.int 2), some (.int c)] [.ref 104] M v M' 0 0 := Ev.back 3 (fun n => rfl) H
  have H : Ev none e 71 68 [some (.ref 104), some (.int 2), some (.int c)] [.ref (fR M 104 7)] M v M' 0 0 := Ev.back 1 (gs_3 rfl rfl (gf_r hS.1 qa_104 qr_22_7 rfl)) H
  have H : Ev none e 71 71 [some (.ref 104), some (.int 2), some (.int c)] [.ref (fR M 104 7 + 4)] M v M' 0 0 := Ev.back 1 (gs_3 rfl rfl (gf_x hS.1 (hS.1.fr qa_104 qr_22_7).2 qo_8 (fx_l5 hS (hS.1.fr qa_104 qr_22_7).2) rfl)) H
  have H : Ev none e 71 72 [some (.ref 104), some (.int 2), some (.int c)] [.int c, .ref (fR M 104 7 + 4)] M v M' 0 0 := Ev.back 1 (fun n => rfl) H
  obtain ⟨b1, H⟩ := Ev.ial rfl rfl hS.1 (fx_h5 (hS.1.fr qa_104 qr_22_7).2) qw_12 H
  have H : Ev none e 71 73 [some (.ref 104), some (.int 2), some (.int c)] [.int (rI M (fR M 104 7 + 4) c)] M v M' 0 0 := H
  have H : Ev none e 71 74 [some (.ref 104), some (.int 2), some (.int c)] [.ref 104, .int (rI M (fR M 104 7 + 4) c)] M v M' 0 0 := Ev.back 1 (fun n => rfl) H
  have H : Ev none e 71 77 [some (.ref 104), some (.int 2), some (.int c)] [.ref (fR M 104 2), .int (rI M (fR M 104 7 + 4) c)] M v M' 0 0 := Ev.back 1 (gs_3 rfl rfl (gf_r hS.1 qa_104 qr_22_2 rfl)) H
  have H : Ev none e 71 80 [some (.ref 104), some (.int 2), some (.int c)] [.int (zI M (fR M 104 2) 10), .int (rI M (fR M 104 7 + 4) c)] M v M' 0 0 := Ev.back 1 (gs_3 rfl rfl (gf_i hS.1 (hS.1.fr qa_104 qr_22_2).2 qi_28_10 rfl)) H
  have H : Ev none e 71 (if (rI M (fR M 104 7 + 4) c) < (zI M (fR M 104 2) 10) then 106 else 83) [some (.ref 104), some (.int 2), some (.int c)] [] M v M' 0 0 := Ev.back 1 (fun n => rfl) H
  by_cases h2 : (rI M (fR M 104 7 + 4) c) < (zI M (fR M 104 2) 10)
  · rw [if_pos h2] at H
    have H : Ev none e 71 107 [some (.ref 104), some (.int 2), some (.int c)] [.int 0] M v M' 0 0 := Ev.back 1 (fun n => rfl) H
    obtain ⟨z1, z2⟩ := Ev.retz rfl rfl H
    exact Or.inl ⟨h2, b1, z1, z2⟩
  · rw [if_neg h2] at H
    have H : Ev none e 71 84 [some (.ref 104), some (.int 2), some (.int c)] [.ref 104] M v M' 0 0 := Ev.back 1 (fun n => rfl) H
    have H : Ev none e 71 87 [some (.ref 104), some (.int 2), some (.int c)] [.ref (fR M 104 7)] M v M' 0 0 := Ev.back 1 (gs_3 rfl rfl (gf_r hS.1 qa_104 qr_22_7 rfl)) H
    have H : Ev none e 71 90 [some (.ref 104), some (.int 2), some (.int c)] [.ref (fR M 104 7 + 5)] M v M' 0 0 := Ev.back 1 (gs_3 rfl rfl (gf_x hS.1 (hS.1.fr qa_104 qr_22_7).2 qo_8 (fx_l6 hS (hS.1.fr qa_104 qr_22_7).2) rfl)) H
    have H : Ev none e 71 91 [some (.ref 104), some (.int 2), some (.int c)] [.int c, .ref (fR M 104 7 + 5)] M v M' 0 0 := Ev.back 1 (fun n => rfl) H
    obtain ⟨b3, H⟩ := Ev.ial rfl rfl hS.1 (fx_h6 (hS.1.fr qa_104 qr_22_7).2) qw_13 H
    have H : Ev none e 71 92 [some (.ref 104), some (.int 2), some (.int c)] [.int (rI M (fR M 104 7 + 5) c)] M v M' 0 0 := H
    have H : Ev none e 71 93 [some (.ref 104), some (.int 2), some (.int c)] [.ref 104, .int (rI M (fR M 104 7 + 5) c)] M v M' 0 0 := Ev.back 1 (fun n => rfl) H
    have H : Ev none e 71 96 [some (.ref 104), some (.int 2), some (.int c)] [.ref (fR M 104 2), .int (rI M (fR M 104 7 + 5) c)] M v M' 0 0 := Ev.back 1 (gs_3 rfl rfl (gf_r hS.1 qa_104 qr_22_2 rfl)) H
    have H : Ev none e 71 99 [some (.ref 104), some (.int 2), some (.int c)] [.int (zI M (fR M 104 2) 11), .int (rI M (fR M 104 7 + 5) c)] M v M' 0 0 := Ev.back 1 (gs_3 rfl rfl (gf_i hS.1 (hS.1.fr qa_104 qr_22_2).2 qi_28_11 rfl)) H
    have H : Ev none e 71 (if (rI M (fR M 104 7 + 5) c) < (zI M (fR M 104 2) 11) then 106 else 102) [some (.ref 104), some (.int 2), some (.int c)] [] M v M' 0 0 := Ev.back 1 (fun n => rfl) H
    by_cases h4 : (rI M (fR M 104 7 + 5) c) < (zI M (fR M 104 2) 11)
    · rw [if_pos h4] at H
      have H : Ev none e 71 107 [some (.ref 104), some (.int 2), some (.int c)] [.int 0] M v M' 0 0 := Ev.back 1 (fun n => rfl) H
      obtain ⟨z1, z2⟩ := Ev.retz rfl rfl H
      exact Or.inr (Or.inl ⟨h2, h4, b1, b3, z1, z2⟩)
    · rw [if_neg h4] at H
      have H : Ev none e 71 107 [some (.ref 104), some (.int 2), some (.int c)] [.int 1] M v M' 0 0 := Ev.back 2 (fun n => rfl) H
      obtain ⟨z1, z2⟩ := Ev.retz rfl rfl H
      exact Or.inr (Or.inr (⟨h2, h4, b1, b3, z1, z2⟩))
theorem hs3_0 {e : Nat} {M M' : Mem} {v : Option Value} {c : Int32} (hS : SQ M) (H : Ev none e 71 0 [some (.ref 104), some (.int 3), some (.int c)] [] M v M' 0 0) : ((rI M (fR M 104 7 + 4) c) < (zI M (fR M 104 2) 10) ∧ (0 ≤ c.toInt ∧ c.toInt < 256) ∧ v = some (.int 0) ∧ M' = M) ∨ (¬ ((rI M (fR M 104 7 + 4) c) < (zI M (fR M 104 2) 10)) ∧ (0 ≤ c.toInt ∧ c.toInt < 256) ∧ v = some (.int 1) ∧ M' = M) := by
  have H : Ev none e 71 109 [some (.ref 104), some (.int 3), some (.int c)] [.ref 104] M v M' 0 0 := Ev.back 3 (fun n => rfl) H
  have H : Ev none e 71 112 [some (.ref 104), some (.int 3), some (.int c)] [.ref (fR M 104 7)] M v M' 0 0 := Ev.back 1 (gs_3 rfl rfl (gf_r hS.1 qa_104 qr_22_7 rfl)) H
  have H : Ev none e 71 115 [some (.ref 104), some (.int 3), some (.int c)] [.ref (fR M 104 7 + 4)] M v M' 0 0 := Ev.back 1 (gs_3 rfl rfl (gf_x hS.1 (hS.1.fr qa_104 qr_22_7).2 qo_8 (fx_l5 hS (hS.1.fr qa_104 qr_22_7).2) rfl)) H
  have H : Ev none e 71 116 [some (.ref 104), some (.int 3), some (.int c)] [.int c, .ref (fR M 104 7 + 4)] M v M' 0 0 := Ev.back 1 (fun n => rfl) H
  obtain ⟨b1, H⟩ := Ev.ial rfl rfl hS.1 (fx_h5 (hS.1.fr qa_104 qr_22_7).2) qw_12 H
  have H : Ev none e 71 117 [some (.ref 104), some (.int 3), some (.int c)] [.int (rI M (fR M 104 7 + 4) c)] M v M' 0 0 := H
  have H : Ev none e 71 118 [some (.ref 104), some (.int 3), some (.int c)] [.ref 104, .int (rI M (fR M 104 7 + 4) c)] M v M' 0 0 := Ev.back 1 (fun n => rfl) H
  have H : Ev none e 71 121 [some (.ref 104), some (.int 3), some (.int c)] [.ref (fR M 104 2), .int (rI M (fR M 104 7 + 4) c)] M v M' 0 0 := Ev.back 1 (gs_3 rfl rfl (gf_r hS.1 qa_104 qr_22_2 rfl)) H
  have H : Ev none e 71 124 [some (.ref 104), some (.int 3), some (.int c)] [.int (zI M (fR M 104 2) 10), .int (rI M (fR M 104 7 + 4) c)] M v M' 0 0 := Ev.back 1 (gs_3 rfl rfl (gf_i hS.1 (hS.1.fr qa_104 qr_22_2).2 qi_28_10 rfl)) H
  have H : Ev none e 71 (if (rI M (fR M 104 7 + 4) c) < (zI M (fR M 104 2) 10) then 131 else 127) [some (.ref 104), some (.int 3), some (.int c)] [] M v M' 0 0 := Ev.back 1 (fun n => rfl) H
  by_cases h2 : (rI M (fR M 104 7 + 4) c) < (zI M (fR M 104 2) 10)
  · rw [if_pos h2] at H
    have H : Ev none e 71 132 [some (.ref 104), some (.int 3), some (.int c)] [.int 0] M v M' 0 0 := Ev.back 1 (fun n => rfl) H
    obtain ⟨z1, z2⟩ := Ev.retz rfl rfl H
    exact Or.inl ⟨h2, b1, z1, z2⟩
  · rw [if_neg h2] at H
    have H : Ev none e 71 132 [some (.ref 104), some (.int 3), some (.int c)] [.int 1] M v M' 0 0 := Ev.back 2 (fun n => rfl) H
    obtain ⟨z1, z2⟩ := Ev.retz rfl rfl H
    exact Or.inr (⟨h2, b1, z1, z2⟩)
theorem hs4_0 {e : Nat} {M M' : Mem} {v : Option Value} {c : Int32} (hS : SQ M) (H : Ev none e 71 0 [some (.ref 104), some (.int 4), some (.int c)] [] M v M' 0 0) : (0 ≤ c.toInt ∧ c.toInt < 256) ∧ v = some (.int (rI M (fR M 104 7 + 4) c)) ∧ M' = M := by
  have H : Ev none e 71 134 [some (.ref 104), some (.int 4), some (.int c)] [.ref 104] M v M' 0 0 := Ev.back 3 (fun n => rfl) H
  have H : Ev none e 71 137 [some (.ref 104), some (.int 4), some (.int c)] [.ref (fR M 104 7)] M v M' 0 0 := Ev.back 1 (gs_3 rfl rfl (gf_r hS.1 qa_104 qr_22_7 rfl)) H
  have H : Ev none e 71 140 [some (.ref 104), some (.int 4), some (.int c)] [.ref (fR M 104 7 + 4)] M v M' 0 0 := Ev.back 1 (gs_3 rfl rfl (gf_x hS.1 (hS.1.fr qa_104 qr_22_7).2 qo_8 (fx_l5 hS (hS.1.fr qa_104 qr_22_7).2) rfl)) H
  have H : Ev none e 71 141 [some (.ref 104), some (.int 4), some (.int c)] [.int c, .ref (fR M 104 7 + 4)] M v M' 0 0 := Ev.back 1 (fun n => rfl) H
  obtain ⟨b1, H⟩ := Ev.ial rfl rfl hS.1 (fx_h5 (hS.1.fr qa_104 qr_22_7).2) qw_12 H
  have H : Ev none e 71 142 [some (.ref 104), some (.int 4), some (.int c)] [.int (rI M (fR M 104 7 + 4) c)] M v M' 0 0 := H
  obtain ⟨z1, z2⟩ := Ev.retz rfl rfl H
  exact ⟨b1, z1, z2⟩
theorem hs5_0 {e : Nat} {M M' : Mem} {v : Option Value} {c : Int32} (hS : SQ M) (H : Ev none e 71 0 [some (.ref 104), some (.int 5), some (.int c)] [] M v M' 0 0) : (0 ≤ c.toInt ∧ c.toInt < 256) ∧ v = some (.int (rI M (fR M 104 7 + 5) c)) ∧ M' = M := by
  have H : Ev none e 71 144 [some (.ref 104), some (.int 5), some (.int c)] [.ref 104] M v M' 0 0 := Ev.back 3 (fun n => rfl) H
  have H : Ev none e 71 147 [some (.ref 104), some (.int 5), some (.int c)] [.ref (fR M 104 7)] M v M' 0 0 := Ev.back 1 (gs_3 rfl rfl (gf_r hS.1 qa_104 qr_22_7 rfl)) H
  have H : Ev none e 71 150 [some (.ref 104), some (.int 5), some (.int c)] [.ref (fR M 104 7 + 5)] M v M' 0 0 := Ev.back 1 (gs_3 rfl rfl (gf_x hS.1 (hS.1.fr qa_104 qr_22_7).2 qo_8 (fx_l6 hS (hS.1.fr qa_104 qr_22_7).2) rfl)) H
  have H : Ev none e 71 151 [some (.ref 104), some (.int 5), some (.int c)] [.int c, .ref (fR M 104 7 + 5)] M v M' 0 0 := Ev.back 1 (fun n => rfl) H
  obtain ⟨b1, H⟩ := Ev.ial rfl rfl hS.1 (fx_h6 (hS.1.fr qa_104 qr_22_7).2) qw_13 H
  have H : Ev none e 71 152 [some (.ref 104), some (.int 5), some (.int c)] [.int (rI M (fR M 104 7 + 5) c)] M v M' 0 0 := H
  obtain ⟨z1, z2⟩ := Ev.retz rfl rfl H
  exact ⟨b1, z1, z2⟩
theorem hs6_0 {e : Nat} {M M' : Mem} {v : Option Value} {c : Int32} (hS : SQ M) (H : Ev none e 71 0 [some (.ref 104), some (.int 6), some (.int c)] [] M v M' 0 0) : (0 ≤ c.toInt ∧ c.toInt < 256) ∧ v = some (.int (rI M (fR M 104 7 + 3) c)) ∧ M' = M := by
  have H : Ev none e 71 154 [some (.ref 104), some (.int 6), some (.int c)] [.ref 104] M v M' 0 0 := Ev.back 3 (fun n => rfl) H
  have H : Ev none e 71 157 [some (.ref 104), some (.int 6), some (.int c)] [.ref (fR M 104 7)] M v M' 0 0 := Ev.back 1 (gs_3 rfl rfl (gf_r hS.1 qa_104 qr_22_7 rfl)) H
  have H : Ev none e 71 160 [some (.ref 104), some (.int 6), some (.int c)] [.ref (fR M 104 7 + 3)] M v M' 0 0 := Ev.back 1 (gs_3 rfl rfl (gf_x hS.1 (hS.1.fr qa_104 qr_22_7).2 qo_8 (fx_l4 hS (hS.1.fr qa_104 qr_22_7).2) rfl)) H
  have H : Ev none e 71 161 [some (.ref 104), some (.int 6), some (.int c)] [.int c, .ref (fR M 104 7 + 3)] M v M' 0 0 := Ev.back 1 (fun n => rfl) H
  obtain ⟨b1, H⟩ := Ev.ial rfl rfl hS.1 (fx_h4 (hS.1.fr qa_104 qr_22_7).2) qw_11 H
  have H : Ev none e 71 162 [some (.ref 104), some (.int 6), some (.int c)] [.int (rI M (fR M 104 7 + 3) c)] M v M' 0 0 := H
  obtain ⟨z1, z2⟩ := Ev.retz rfl rfl H
  exact ⟨b1, z1, z2⟩
theorem hs7_0 {e : Nat} {M M' : Mem} {v : Option Value} {c : Int32} (hS : SQ M) (H : Ev none e 71 0 [some (.ref 104), some (.int 7), some (.int c)] [] M v M' 0 0) : (0 ≤ c.toInt ∧ c.toInt < 256) ∧ v = some (.int (rI M (fR M 104 7 + 6) c)) ∧ M' = M := by
  have H : Ev none e 71 164 [some (.ref 104), some (.int 7), some (.int c)] [.ref 104] M v M' 0 0 := Ev.back 3 (fun n => rfl) H
  have H : Ev none e 71 167 [some (.ref 104), some (.int 7), some (.int c)] [.ref (fR M 104 7)] M v M' 0 0 := Ev.back 1 (gs_3 rfl rfl (gf_r hS.1 qa_104 qr_22_7 rfl)) H
  have H : Ev none e 71 170 [some (.ref 104), some (.int 7), some (.int c)] [.ref (fR M 104 7 + 6)] M v M' 0 0 := Ev.back 1 (gs_3 rfl rfl (gf_x hS.1 (hS.1.fr qa_104 qr_22_7).2 qo_8 (fx_l7 hS (hS.1.fr qa_104 qr_22_7).2) rfl)) H
  have H : Ev none e 71 171 [some (.ref 104), some (.int 7), some (.int c)] [.int c, .ref (fR M 104 7 + 6)] M v M' 0 0 := Ev.back 1 (fun n => rfl) H
  obtain ⟨b1, H⟩ := Ev.ial rfl rfl hS.1 (fx_h7 (hS.1.fr qa_104 qr_22_7).2) qw_14 H
  have H : Ev none e 71 172 [some (.ref 104), some (.int 7), some (.int c)] [.int (rI M (fR M 104 7 + 6) c)] M v M' 0 0 := H
  obtain ⟨z1, z2⟩ := Ev.retz rfl rfl H
  exact ⟨b1, z1, z2⟩
theorem hw_0 {e : Nat} {M M' : Mem} {v : Option Value} {i c : Int32} {t : Nat} (hS : SQ M) (a_t : gNth sT t = some 28) (H : Ev none e 70 0 [some (.ref 104), some (.ref t), some (.int i), some (.int c), none, none, none, none, none] [] M v M' 0 0) : ((rI M (t + 4) i) = (rI M (t + 5) i) ∧ (0 ≤ i.toInt ∧ i.toInt < 16) ∧ (0 ≤ i.toInt ∧ i.toInt < 16) ∧ v = some (.int 1) ∧ M' = M) ∨ (¬ ((rI M (t + 4) i) = (rI M (t + 5) i)) ∧ (0 ≤ i.toInt ∧ i.toInt < 16) ∧ (0 ≤ i.toInt ∧ i.toInt < 16) ∧ (0 ≤ i.toInt ∧ i.toInt < 16) ∧ Ev none e 70 28 [some (.ref 104), some (.ref t), some (.int i), some (.int c), some (.int 0), some (.int (rI M (t + 4) i)), none, none, none] [] M v M' 0 0) := by
  have H : Ev none e 70 1 [some (.ref 104), some (.ref t), some (.int i), some (.int c), none, none, none, none, none] [.ref t] M v M' 0 0 := Ev.back 1 (fun n => rfl) H
  have H : Ev none e 70 4 [some (.ref 104), some (.ref t), some (.int i), some (.int c), none, none, none, none, none] [.ref (t + 4)] M v M' 0 0 := Ev.back 1 (gs_3 rfl rfl (gf_x hS.1 a_t qo_28 (fx_t3 hS a_t) rfl)) H
  have H : Ev none e 70 5 [some (.ref 104), some (.ref t), some (.int i), some (.int c), none, none, none, none, none] [.int i, .ref (t + 4)] M v M' 0 0 := Ev.back 1 (fun n => rfl) H
  obtain ⟨b1, H⟩ := Ev.ial rfl rfl hS.1 (fx_g3 a_t) qw_32 H
  have H : Ev none e 70 6 [some (.ref 104), some (.ref t), some (.int i), some (.int c), none, none, none, none, none] [.int (rI M (t + 4) i)] M v M' 0 0 := H
  have H : Ev none e 70 7 [some (.ref 104), some (.ref t), some (.int i), some (.int c), none, none, none, none, none] [.ref t, .int (rI M (t + 4) i)] M v M' 0 0 := Ev.back 1 (fun n => rfl) H
  have H : Ev none e 70 10 [some (.ref 104), some (.ref t), some (.int i), some (.int c), none, none, none, none, none] [.ref (t + 5), .int (rI M (t + 4) i)] M v M' 0 0 := Ev.back 1 (gs_3 rfl rfl (gf_x hS.1 a_t qo_28 (fx_t4 hS a_t) rfl)) H
  have H : Ev none e 70 11 [some (.ref 104), some (.ref t), some (.int i), some (.int c), none, none, none, none, none] [.int i, .ref (t + 5), .int (rI M (t + 4) i)] M v M' 0 0 := Ev.back 1 (fun n => rfl) H
  obtain ⟨b2, H⟩ := Ev.ial rfl rfl hS.1 (fx_g4 a_t) qw_33 H
  have H : Ev none e 70 12 [some (.ref 104), some (.ref t), some (.int i), some (.int c), none, none, none, none, none] [.int (rI M (t + 5) i), .int (rI M (t + 4) i)] M v M' 0 0 := H
  have H : Ev none e 70 (if (rI M (t + 4) i) = (rI M (t + 5) i) then 15 else 17) [some (.ref 104), some (.ref t), some (.int i), some (.int c), none, none, none, none, none] [] M v M' 0 0 := Ev.back 1 (fun n => rfl) H
  by_cases h3 : (rI M (t + 4) i) = (rI M (t + 5) i)
  · rw [if_pos h3] at H
    have H : Ev none e 70 16 [some (.ref 104), some (.ref t), some (.int i), some (.int c), none, none, none, none, none] [.int 1] M v M' 0 0 := Ev.back 1 (fun n => rfl) H
    obtain ⟨z1, z2⟩ := Ev.retz rfl rfl H
    exact Or.inl ⟨h3, b1, b2, z1, z2⟩
  · rw [if_neg h3] at H
    have H : Ev none e 70 21 [some (.ref 104), some (.ref t), some (.int i), some (.int c), some (.int 0), none, none, none, none] [.ref t] M v M' 0 0 := Ev.back 3 (fun n => rfl) H
    have H : Ev none e 70 24 [some (.ref 104), some (.ref t), some (.int i), some (.int c), some (.int 0), none, none, none, none] [.ref (t + 4)] M v M' 0 0 := Ev.back 1 (gs_3 rfl rfl (gf_x hS.1 a_t qo_28 (fx_t3 hS a_t) rfl)) H
    have H : Ev none e 70 25 [some (.ref 104), some (.ref t), some (.int i), some (.int c), some (.int 0), none, none, none, none] [.int i, .ref (t + 4)] M v M' 0 0 := Ev.back 1 (fun n => rfl) H
    obtain ⟨b4, H⟩ := Ev.ial rfl rfl hS.1 (fx_g3 a_t) qw_32 H
    have H : Ev none e 70 26 [some (.ref 104), some (.ref t), some (.int i), some (.int c), some (.int 0), none, none, none, none] [.int (rI M (t + 4) i)] M v M' 0 0 := H
    have H : Ev none e 70 28 [some (.ref 104), some (.ref t), some (.int i), some (.int c), some (.int 0), some (.int (rI M (t + 4) i)), none, none, none] [] M v M' 0 0 := Ev.back 1 (fun n => rfl) H
    have HF := H
    exact Or.inr (⟨h3, b1, b2, b4, HF⟩)
theorem hw_28 {e : Nat} {M M' : Mem} {v : Option Value} {i c sk n : Int32} {t : Nat} {c6 c7 c8 : Option Value} (hS : SQ M) (a_t : gNth sT t = some 28) (H : Ev none e 70 28 [some (.ref 104), some (.ref t), some (.int i), some (.int c), some (.int sk), some (.int n), c6, c7, c8] [] M v M' 0 0) : ((rI M (t + 5) i) ≤ n ∧ (0 ≤ i.toInt ∧ i.toInt < 16) ∧ Ev none e 70 169 [some (.ref 104), some (.ref t), some (.int i), some (.int c), some (.int sk), some (.int n), c6, c7, c8] [] M v M' 0 0) ∨ (¬ ((rI M (t + 5) i) ≤ n) ∧ 96 ≤ n ∧ (0 ≤ i.toInt ∧ i.toInt < 16) ∧ Ev none e 70 169 [some (.ref 104), some (.ref t), some (.int i), some (.int c), some (.int sk), some (.int n), c6, c7, c8] [] M v M' 0 0) ∨ (¬ ((rI M (t + 5) i) ≤ n) ∧ ¬ (96 ≤ n) ∧ (rI M (t + 6) n) = 8 ∧ (0 ≤ i.toInt ∧ i.toInt < 16) ∧ (0 ≤ n.toInt ∧ n.toInt < 96) ∧ Ev none e 70 28 [some (.ref 104), some (.ref t), some (.int i), some (.int c), some (.int (sk ^^^ 1)), some (.int (n + 1)), some (.int (rI M (t + 6) n)), some (.int (sk &&& 1)), c8] [] M v M' 0 0) ∨ (¬ ((rI M (t + 5) i) ≤ n) ∧ ¬ (96 ≤ n) ∧ ¬ ((rI M (t + 6) n) = 8) ∧ (rI M (t + 6) n) = 10 ∧ (0 ≤ i.toInt ∧ i.toInt < 16) ∧ (0 ≤ n.toInt ∧ n.toInt < 96) ∧ Ev none e 70 28 [some (.ref 104), some (.ref t), some (.int i), some (.int c), some (.int (((sk.toUInt32 >>> ((1 : Int32).toUInt32 &&& Int32.toUInt32 31)).toInt32) ||| (sk &&& 1))), some (.int (n + 1)), some (.int (rI M (t + 6) n)), some (.int (sk &&& 1)), c8] [] M v M' 0 0) ∨ (¬ ((rI M (t + 5) i) ≤ n) ∧ ¬ (96 ≤ n) ∧ ¬ ((rI M (t + 6) n) = 8) ∧ ¬ ((rI M (t + 6) n) = 10) ∧ (rI M (t + 6) n) = 9 ∧ (0 ≤ i.toInt ∧ i.toInt < 16) ∧ (0 ≤ n.toInt ∧ n.toInt < 96) ∧ Ev none e 70 28 [some (.ref 104), some (.ref t), some (.int i), some (.int c), some (.int (((sk.toUInt32 >>> ((1 : Int32).toUInt32 &&& Int32.toUInt32 31)).toInt32) &&& ((-2) ||| (sk &&& 1)))), some (.int (n + 1)), some (.int (rI M (t + 6) n)), some (.int (sk &&& 1)), c8] [] M v M' 0 0) ∨ (¬ ((rI M (t + 5) i) ≤ n) ∧ ¬ (96 ≤ n) ∧ ¬ ((rI M (t + 6) n) = 8) ∧ ¬ ((rI M (t + 6) n) = 10) ∧ ¬ ((rI M (t + 6) n) = 9) ∧ (0 ≤ i.toInt ∧ i.toInt < 16) ∧ (0 ≤ n.toInt ∧ n.toInt < 96) ∧ (∃ e1 v1 M1, e = e1 + 1 ∧ Ev none e1 71 0 [some (.ref 104), some (.int (rI M (t + 6) n)), some (.int c)] [] M v1 M1 0 0 ∧ Ev none e 70 125 [some (.ref 104), some (.ref t), some (.int i), some (.int c), some (.int sk), some (.int n), some (.int (rI M (t + 6) n)), some (.int (sk &&& 1)), c8] (v1.toList ++ []) M1 v M' 0 0)) := by
  have H : Ev none e 70 31 [some (.ref 104), some (.ref t), some (.int i), some (.int c), some (.int sk), some (.int n), c6, c7, c8] [.ref t, .int n] M v M' 0 0 := Ev.back 2 (fun n => rfl) H
  have H : Ev none e 70 34 [some (.ref 104), some (.ref t), some (.int i), some (.int c), some (.int sk), some (.int n), c6, c7, c8] [.ref (t + 5), .int n] M v M' 0 0 := Ev.back 1 (gs_3 rfl rfl (gf_x hS.1 a_t qo_28 (fx_t4 hS a_t) rfl)) H
  have H : Ev none e 70 35 [some (.ref 104), some (.ref t), some (.int i), some (.int c), some (.int sk), some (.int n), c6, c7, c8] [.int i, .ref (t + 5), .int n] M v M' 0 0 := Ev.back 1 (fun n => rfl) H
  obtain ⟨b1, H⟩ := Ev.ial rfl rfl hS.1 (fx_g4 a_t) qw_33 H
  have H : Ev none e 70 36 [some (.ref 104), some (.ref t), some (.int i), some (.int c), some (.int sk), some (.int n), c6, c7, c8] [.int (rI M (t + 5) i), .int n] M v M' 0 0 := H
  have H : Ev none e 70 (if (rI M (t + 5) i) ≤ n then 169 else 39) [some (.ref 104), some (.ref t), some (.int i), some (.int c), some (.int sk), some (.int n), c6, c7, c8] [] M v M' 0 0 := Ev.back 1 (fun n => rfl) H
  by_cases h2 : (rI M (t + 5) i) ≤ n
  · rw [if_pos h2] at H
    have HF := H
    exact Or.inl ⟨h2, b1, HF⟩
  · rw [if_neg h2] at H
    have H : Ev none e 70 (if 96 ≤ n then 169 else 46) [some (.ref 104), some (.ref t), some (.int i), some (.int c), some (.int sk), some (.int n), c6, c7, c8] [] M v M' 0 0 := Ev.back 3 (fun n => rfl) H
    by_cases h3 : 96 ≤ n
    · rw [if_pos h3] at H
      have HF := H
      exact Or.inr (Or.inl ⟨h2, h3, b1, HF⟩)
    · rw [if_neg h3] at H
      have H : Ev none e 70 47 [some (.ref 104), some (.ref t), some (.int i), some (.int c), some (.int sk), some (.int n), c6, c7, c8] [.ref t] M v M' 0 0 := Ev.back 1 (fun n => rfl) H
      have H : Ev none e 70 50 [some (.ref 104), some (.ref t), some (.int i), some (.int c), some (.int sk), some (.int n), c6, c7, c8] [.ref (t + 6)] M v M' 0 0 := Ev.back 1 (gs_3 rfl rfl (gf_x hS.1 a_t qo_28 (fx_t5 hS a_t) rfl)) H
      have H : Ev none e 70 52 [some (.ref 104), some (.ref t), some (.int i), some (.int c), some (.int sk), some (.int n), c6, c7, c8] [.int n, .ref (t + 6)] M v M' 0 0 := Ev.back 1 (fun n => rfl) H
      obtain ⟨b4, H⟩ := Ev.ial rfl rfl hS.1 (fx_g5 a_t) qw_34 H
      have H : Ev none e 70 53 [some (.ref 104), some (.ref t), some (.int i), some (.int c), some (.int sk), some (.int n), c6, c7, c8] [.int (rI M (t + 6) n)] M v M' 0 0 := H
      have H : Ev none e 70 (if (rI M (t + 6) n) = 8 then 68 else 77) [some (.ref 104), some (.ref t), some (.int i), some (.int c), some (.int sk), some (.int n), some (.int (rI M (t + 6) n)), some (.int (sk &&& 1)), c8] [] M v M' 0 0 := Ev.back 8 (fun n => rfl) H
      by_cases h5 : (rI M (t + 6) n) = 8
      · rw [if_pos h5] at H
        have H : Ev none e 70 28 [some (.ref 104), some (.ref t), some (.int i), some (.int c), some (.int (sk ^^^ 1)), some (.int (n + 1)), some (.int (rI M (t + 6) n)), some (.int (sk &&& 1)), c8] [] M v M' 0 0 := Ev.back 7 (fun n => rfl) H
        have HF := H
        exact Or.inr (Or.inr (Or.inl ⟨h2, h3, h5, b1, b4, HF⟩))
      · rw [if_neg h5] at H
        have H : Ev none e 70 (if (rI M (t + 6) n) = 10 then 84 else 96) [some (.ref 104), some (.ref t), some (.int i), some (.int c), some (.int sk), some (.int n), some (.int (rI M (t + 6) n)), some (.int (sk &&& 1)), c8] [] M v M' 0 0 := Ev.back 3 (fun n => rfl) H
        by_cases h6 : (rI M (t + 6) n) = 10
        · rw [if_pos h6] at H
          have H : Ev none e 70 28 [some (.ref 104), some (.ref t), some (.int i), some (.int c), some (.int (((sk.toUInt32 >>> ((1 : Int32).toUInt32 &&& Int32.toUInt32 31)).toInt32) ||| (sk &&& 1))), some (.int (n + 1)), some (.int (rI M (t + 6) n)), some (.int (sk &&& 1)), c8] [] M v M' 0 0 := Ev.back 9 (fun n => rfl) H
          have HF := H
          exact Or.inr (Or.inr (Or.inr (Or.inl ⟨h2, h3, h5, h6, b1, b4, HF⟩)))
        · rw [if_neg h6] at H
          have H : Ev none e 70 (if (rI M (t + 6) n) = 9 then 103 else 118) [some (.ref 104), some (.ref t), some (.int i), some (.int c), some (.int sk), some (.int n), some (.int (rI M (t + 6) n)), some (.int (sk &&& 1)), c8] [] M v M' 0 0 := Ev.back 3 (fun n => rfl) H
          by_cases h7 : (rI M (t + 6) n) = 9
          · rw [if_pos h7] at H
            have H : Ev none e 70 28 [some (.ref 104), some (.ref t), some (.int i), some (.int c), some (.int (((sk.toUInt32 >>> ((1 : Int32).toUInt32 &&& Int32.toUInt32 31)).toInt32) &&& ((-2) ||| (sk &&& 1)))), some (.int (n + 1)), some (.int (rI M (t + 6) n)), some (.int (sk &&& 1)), c8] [] M v M' 0 0 := Ev.back 11 (fun n => rfl) H
            have HF := H
            exact Or.inr (Or.inr (Or.inr (Or.inr (Or.inl ⟨h2, h3, h5, h6, h7, b1, b4, HF⟩))))
          · rw [if_neg h7] at H
            have H : Ev none e 70 122 [some (.ref 104), some (.ref t), some (.int i), some (.int c), some (.int sk), some (.int n), some (.int (rI M (t + 6) n)), some (.int (sk &&& 1)), c8] [.int c, .int (rI M (t + 6) n), .ref 104] M v M' 0 0 := Ev.back 3 (fun n => rfl) H
            obtain ⟨e1, rfl⟩ := Ev.dpos rfl rfl H
            obtain ⟨vK8, MK8, K8, H⟩ := Ev.callb (fun n_ => gs_7 rfl rfl (show gCal (.invokevirtual 270) 7 (.int c :: .int (rI M (t + 6) n) :: .ref 104 :: []) M = some (.inr (71, [some (.ref 104), some (.int (rI M (t + 6) n)), some (.int c)], [])) from by show @cond (Option ((List Value × Mem) ⊕ (Nat × Lo × List Value))) (true && gRecv M (.ref 104) 7 && gRoom [] && true) (some (.inr (71, [some (.ref 104), some (.int (rI M (t + 6) n)), some (.int c)], []))) none = _; rw [recv_s hS.1 qa_104 qo_22]; rfl)) H
            have K8 : Ev none e1 71 0 [some (.ref 104), some (.int (rI M (t + 6) n)), some (.int c)] [] M vK8 MK8 0 0 := K8
            have HF := H
            exact Or.inr (Or.inr (Or.inr (Or.inr (Or.inr (⟨h2, h3, h5, h6, h7, b1, b4, ⟨e1, vK8, MK8, rfl, K8, HF⟩⟩)))))
theorem hw_125 {e : Nat} {M M' : Mem} {v : Option Value} {i c sk n ak tp y : Int32} {t : Nat} {c8 : Option Value} (hS : SQ M) (a_t : gNth sT t = some 28) (H : Ev none e 70 125 [some (.ref 104), some (.ref t), some (.int i), some (.int c), some (.int sk), some (.int n), some (.int ak), some (.int tp), c8] [.int y] M v M' 0 0) : (y < (rI M (t + 7) n) ∧ (0 ≤ n.toInt ∧ n.toInt < 96) ∧ Ev none e 70 28 [some (.ref 104), some (.ref t), some (.int i), some (.int c), some (.int ((sk <<< ((1 : Int32) &&& 31)) ||| 0)), some (.int (n + 1)), some (.int ak), some (.int tp), some (.int y)] [] M v M' 0 0) ∨ (¬ (y < (rI M (t + 7) n)) ∧ (rI M (t + 8) n) < y ∧ (0 ≤ n.toInt ∧ n.toInt < 96) ∧ (0 ≤ n.toInt ∧ n.toInt < 96) ∧ Ev none e 70 28 [some (.ref 104), some (.ref t), some (.int i), some (.int c), some (.int ((sk <<< ((1 : Int32) &&& 31)) ||| 0)), some (.int (n + 1)), some (.int ak), some (.int tp), some (.int y)] [] M v M' 0 0) ∨ (¬ (y < (rI M (t + 7) n)) ∧ ¬ ((rI M (t + 8) n) < y) ∧ (0 ≤ n.toInt ∧ n.toInt < 96) ∧ (0 ≤ n.toInt ∧ n.toInt < 96) ∧ Ev none e 70 28 [some (.ref 104), some (.ref t), some (.int i), some (.int c), some (.int ((sk <<< ((1 : Int32) &&& 31)) ||| 1)), some (.int (n + 1)), some (.int ak), some (.int tp), some (.int y)] [] M v M' 0 0) := by
  have H : Ev none e 70 134 [some (.ref 104), some (.ref t), some (.int i), some (.int c), some (.int sk), some (.int n), some (.int ak), some (.int tp), some (.int y)] [.ref t, .int y, .int (sk <<< ((1 : Int32) &&& 31))] M v M' 0 0 := Ev.back 6 (fun n => rfl) H
  have H : Ev none e 70 137 [some (.ref 104), some (.ref t), some (.int i), some (.int c), some (.int sk), some (.int n), some (.int ak), some (.int tp), some (.int y)] [.ref (t + 7), .int y, .int (sk <<< ((1 : Int32) &&& 31))] M v M' 0 0 := Ev.back 1 (gs_3 rfl rfl (gf_x hS.1 a_t qo_28 (fx_t6 hS a_t) rfl)) H
  have H : Ev none e 70 139 [some (.ref 104), some (.ref t), some (.int i), some (.int c), some (.int sk), some (.int n), some (.int ak), some (.int tp), some (.int y)] [.int n, .ref (t + 7), .int y, .int (sk <<< ((1 : Int32) &&& 31))] M v M' 0 0 := Ev.back 1 (fun n => rfl) H
  obtain ⟨b1, H⟩ := Ev.ial rfl rfl hS.1 (fx_g6 a_t) qw_35 H
  have H : Ev none e 70 140 [some (.ref 104), some (.ref t), some (.int i), some (.int c), some (.int sk), some (.int n), some (.int ak), some (.int tp), some (.int y)] [.int (rI M (t + 7) n), .int y, .int (sk <<< ((1 : Int32) &&& 31))] M v M' 0 0 := H
  have H : Ev none e 70 (if y < (rI M (t + 7) n) then 159 else 143) [some (.ref 104), some (.ref t), some (.int i), some (.int c), some (.int sk), some (.int n), some (.int ak), some (.int tp), some (.int y)] [.int (sk <<< ((1 : Int32) &&& 31))] M v M' 0 0 := Ev.back 1 (fun n => rfl) H
  by_cases h2 : y < (rI M (t + 7) n)
  · rw [if_pos h2] at H
    have H : Ev none e 70 28 [some (.ref 104), some (.ref t), some (.int i), some (.int c), some (.int ((sk <<< ((1 : Int32) &&& 31)) ||| 0)), some (.int (n + 1)), some (.int ak), some (.int tp), some (.int y)] [] M v M' 0 0 := Ev.back 5 (fun n => rfl) H
    have HF := H
    exact Or.inl ⟨h2, b1, HF⟩
  · rw [if_neg h2] at H
    have H : Ev none e 70 146 [some (.ref 104), some (.ref t), some (.int i), some (.int c), some (.int sk), some (.int n), some (.int ak), some (.int tp), some (.int y)] [.ref t, .int y, .int (sk <<< ((1 : Int32) &&& 31))] M v M' 0 0 := Ev.back 2 (fun n => rfl) H
    have H : Ev none e 70 149 [some (.ref 104), some (.ref t), some (.int i), some (.int c), some (.int sk), some (.int n), some (.int ak), some (.int tp), some (.int y)] [.ref (t + 8), .int y, .int (sk <<< ((1 : Int32) &&& 31))] M v M' 0 0 := Ev.back 1 (gs_3 rfl rfl (gf_x hS.1 a_t qo_28 (fx_t7 hS a_t) rfl)) H
    have H : Ev none e 70 151 [some (.ref 104), some (.ref t), some (.int i), some (.int c), some (.int sk), some (.int n), some (.int ak), some (.int tp), some (.int y)] [.int n, .ref (t + 8), .int y, .int (sk <<< ((1 : Int32) &&& 31))] M v M' 0 0 := Ev.back 1 (fun n => rfl) H
    obtain ⟨b3, H⟩ := Ev.ial rfl rfl hS.1 (fx_g7 a_t) qw_36 H
    have H : Ev none e 70 152 [some (.ref 104), some (.ref t), some (.int i), some (.int c), some (.int sk), some (.int n), some (.int ak), some (.int tp), some (.int y)] [.int (rI M (t + 8) n), .int y, .int (sk <<< ((1 : Int32) &&& 31))] M v M' 0 0 := H
    have H : Ev none e 70 (if (rI M (t + 8) n) < y then 159 else 155) [some (.ref 104), some (.ref t), some (.int i), some (.int c), some (.int sk), some (.int n), some (.int ak), some (.int tp), some (.int y)] [.int (sk <<< ((1 : Int32) &&& 31))] M v M' 0 0 := Ev.back 1 (fun n => rfl) H
    by_cases h4 : (rI M (t + 8) n) < y
    · rw [if_pos h4] at H
      have H : Ev none e 70 28 [some (.ref 104), some (.ref t), some (.int i), some (.int c), some (.int ((sk <<< ((1 : Int32) &&& 31)) ||| 0)), some (.int (n + 1)), some (.int ak), some (.int tp), some (.int y)] [] M v M' 0 0 := Ev.back 5 (fun n => rfl) H
      have HF := H
      exact Or.inr (Or.inl ⟨h2, h4, b1, b3, HF⟩)
    · rw [if_neg h4] at H
      have H : Ev none e 70 28 [some (.ref 104), some (.ref t), some (.int i), some (.int c), some (.int ((sk <<< ((1 : Int32) &&& 31)) ||| 1)), some (.int (n + 1)), some (.int ak), some (.int tp), some (.int y)] [] M v M' 0 0 := Ev.back 6 (fun n => rfl) H
      have HF := H
      exact Or.inr (Or.inr (⟨h2, h4, b1, b3, HF⟩))
theorem hw_169 {e : Nat} {M M' : Mem} {v : Option Value} {i c sk n : Int32} {t : Nat} {c6 c7 c8 : Option Value} (hS : SQ M) (a_t : gNth sT t = some 28) (H : Ev none e 70 169 [some (.ref 104), some (.ref t), some (.int i), some (.int c), some (.int sk), some (.int n), c6, c7, c8] [] M v M' 0 0) : ((sk &&& 1) = 1 ∧ v = some (.int 1) ∧ M' = M) ∨ (¬ ((sk &&& 1) = 1) ∧ v = some (.int 0) ∧ M' = M) := by
  have H : Ev none e 70 (if (sk &&& 1) = 1 then 177 else 181) [some (.ref 104), some (.ref t), some (.int i), some (.int c), some (.int sk), some (.int n), c6, c7, c8] [] M v M' 0 0 := Ev.back 5 (fun n => rfl) H
  by_cases h1 : (sk &&& 1) = 1
  · rw [if_pos h1] at H
    have H : Ev none e 70 182 [some (.ref 104), some (.ref t), some (.int i), some (.int c), some (.int sk), some (.int n), c6, c7, c8] [.int 1] M v M' 0 0 := Ev.back 2 (fun n => rfl) H
    obtain ⟨z1, z2⟩ := Ev.retz rfl rfl H
    exact Or.inl ⟨h1, z1, z2⟩
  · rw [if_neg h1] at H
    have H : Ev none e 70 182 [some (.ref 104), some (.ref t), some (.int i), some (.int c), some (.int sk), some (.int n), c6, c7, c8] [.int 0] M v M' 0 0 := Ev.back 1 (fun n => rfl) H
    obtain ⟨z1, z2⟩ := Ev.retz rfl rfl H
    exact Or.inr (⟨h1, z1, z2⟩)
