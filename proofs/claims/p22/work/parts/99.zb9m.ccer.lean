/-! THE REFERENCE'S READER: pieces of cond and one (made by gre.py) -/
noncomputable def A_163 (M : Mem) (k : Int32) : Int32 := 0
noncomputable def X_163 (M : Mem) (k : Int32) : Mem := (wF (wF M 633 26 k) 633 27 (zI M 633 23))
theorem g_163 {e : Nat} {M M' : Mem} {v : Option Value} {k : Int32} (hS : SQ M) (H : Ev none e 163 0 [some (.ref 633), some (.int k)] [] M v M' 0 0) : v = some (.int (A_163 M k)) ∧ M' = X_163 M k := by
  unfold A_163 X_163
  have H : Ev none e 163 2 [some (.ref 633), some (.int k)] [.int k, .ref 633] M v M' 0 0 := Ev.back 2 (fun n => rfl) H
  obtain ⟨N2, eN2⟩ : ∃ N, N = (wF M 633 26 k) := ⟨_, rfl⟩
  have hN2 : SQ N2 := by rw [eN2]; exact hS.kf
  have H : Ev none e 163 5 [some (.ref 633), some (.int k)] [] N2 v M' 0 0 := by rw [eN2]; exact Ev.pfi rfl rfl rfl hS.1 qa_633 qi_61_26 H
  have H : Ev none e 163 7 [some (.ref 633), some (.int k)] [.ref 633, .ref 633] N2 v M' 0 0 := Ev.back 2 (fun n => rfl) H
  have H : Ev none e 163 10 [some (.ref 633), some (.int k)] [.int (zI N2 633 23), .ref 633] N2 v M' 0 0 := Ev.back 1 (gs_3 rfl rfl (gf_i hN2.1 qa_633 qi_61_23 rfl)) H
  rw [show zI N2 633 23 = zI M 633 23 from by rw [eN2]; exact fI_wF_ne (fun q => absurd q.2 (by decide))] at H
  obtain ⟨N4, eN4⟩ : ∃ N, N = (wF N2 633 27 (zI M 633 23)) := ⟨_, rfl⟩
  have hN4 : SQ N4 := by rw [eN4]; exact hN2.kf
  have H : Ev none e 163 13 [some (.ref 633), some (.int k)] [] N4 v M' 0 0 := by rw [eN4]; exact Ev.pfi rfl rfl rfl hN2.1 qa_633 qi_61_27 H
  have H : Ev none e 163 14 [some (.ref 633), some (.int k)] [.int 0] N4 v M' 0 0 := Ev.back 1 (fun n => rfl) H
  obtain ⟨p1, p2⟩ := Ev.retz rfl rfl H
  subst eN2 eN4
  exact ⟨p1, p2⟩
theorem X_163_sx {M : Mem} {k : Int32} (hS : SQ M) : SQ (X_163 M k) := by
  unfold X_163
  exact (hS.kf).kf
noncomputable def G_164 (M : Mem) (w : Int64) : Int32 := if (zI M 633 22) = 1 then (if (lg_cmp (fL M 633 31) w) = 0 then 1 else 0) else 0
theorem g_164 {e : Nat} {M M' : Mem} {v : Option Value} {w : Int64} (hS : SQ M) (H : Ev none e 164 0 [some (.ref 633), some (.long w), none] [] M v M' 0 0) : v = some (.int (G_164 M w)) ∧ M' = M := by
  unfold G_164
  have H : Ev none e 164 1 [some (.ref 633), some (.long w), none] [.ref 633] M v M' 0 0 := Ev.back 1 (fun n => rfl) H
  have H : Ev none e 164 4 [some (.ref 633), some (.long w), none] [.int (zI M 633 22)] M v M' 0 0 := Ev.back 1 (gs_3 rfl rfl (gf_i hS.1 qa_633 qi_61_22 rfl)) H
  have H : Ev none e 164 (if (zI M 633 22) = 1 then 8 else 21) [some (.ref 633), some (.long w), none] [] M v M' 0 0 := Ev.back 2 (fun n => rfl) H
  by_cases h1 : (zI M 633 22) = 1
  · rw [if_pos h1] at H
    have H : Ev none e 164 9 [some (.ref 633), some (.long w), none] [.ref 633] M v M' 0 0 := Ev.back 1 (fun n => rfl) H
    have H : Ev none e 164 12 [some (.ref 633), some (.long w), none] [.long (fL M 633 31)] M v M' 0 0 := Ev.back 1 (gs_3 rfl rfl (gf_l hS.1 qa_633 ql_61_31 rfl)) H
    have H : Ev none e 164 (if (lg_cmp (fL M 633 31) w) = 0 then 17 else 21) [some (.ref 633), some (.long w), none] [] M v M' 0 0 := Ev.back 3 (fun n => rfl) H
    by_cases h2 : (lg_cmp (fL M 633 31) w) = 0
    · rw [if_pos h2] at H
      have H : Ev none e 164 22 [some (.ref 633), some (.long w), none] [.int 1] M v M' 0 0 := Ev.back 2 (fun n => rfl) H
      obtain ⟨p1, p2⟩ := Ev.retz rfl rfl H
      exact ⟨by rw [if_pos h1, if_pos h2]; exact p1, p2⟩
    · rw [if_neg h2] at H
      have H : Ev none e 164 22 [some (.ref 633), some (.long w), none] [.int 0] M v M' 0 0 := Ev.back 1 (fun n => rfl) H
      obtain ⟨p1, p2⟩ := Ev.retz rfl rfl H
      exact ⟨by rw [if_pos h1, if_neg h2]; exact p1, p2⟩
  · rw [if_neg h1] at H
    have H : Ev none e 164 22 [some (.ref 633), some (.long w), none] [.int 0] M v M' 0 0 := Ev.back 1 (fun n => rfl) H
    obtain ⟨p1, p2⟩ := Ev.retz rfl rfl H
    exact ⟨by rw [if_neg h1]; exact p1, p2⟩
noncomputable def G_165 (M : Mem) (c : Int32) : Int32 := if (zI M 633 22) = 3 then (if (zI M 633 25) = c then 1 else 0) else 0
theorem g_165 {e : Nat} {M M' : Mem} {v : Option Value} {c : Int32} (hS : SQ M) (H : Ev none e 165 0 [some (.ref 633), some (.int c)] [] M v M' 0 0) : v = some (.int (G_165 M c)) ∧ M' = M := by
  unfold G_165
  have H : Ev none e 165 1 [some (.ref 633), some (.int c)] [.ref 633] M v M' 0 0 := Ev.back 1 (fun n => rfl) H
  have H : Ev none e 165 4 [some (.ref 633), some (.int c)] [.int (zI M 633 22)] M v M' 0 0 := Ev.back 1 (gs_3 rfl rfl (gf_i hS.1 qa_633 qi_61_22 rfl)) H
  have H : Ev none e 165 (if (zI M 633 22) = 3 then 8 else 20) [some (.ref 633), some (.int c)] [] M v M' 0 0 := Ev.back 2 (fun n => rfl) H
  by_cases h1 : (zI M 633 22) = 3
  · rw [if_pos h1] at H
    have H : Ev none e 165 9 [some (.ref 633), some (.int c)] [.ref 633] M v M' 0 0 := Ev.back 1 (fun n => rfl) H
    have H : Ev none e 165 12 [some (.ref 633), some (.int c)] [.int (zI M 633 25)] M v M' 0 0 := Ev.back 1 (gs_3 rfl rfl (gf_i hS.1 qa_633 qi_61_25 rfl)) H
    have H : Ev none e 165 (if (zI M 633 25) = c then 16 else 20) [some (.ref 633), some (.int c)] [] M v M' 0 0 := Ev.back 2 (fun n => rfl) H
    by_cases h2 : (zI M 633 25) = c
    · rw [if_pos h2] at H
      have H : Ev none e 165 21 [some (.ref 633), some (.int c)] [.int 1] M v M' 0 0 := Ev.back 2 (fun n => rfl) H
      obtain ⟨p1, p2⟩ := Ev.retz rfl rfl H
      exact ⟨by rw [if_pos h1, if_pos h2]; exact p1, p2⟩
    · rw [if_neg h2] at H
      have H : Ev none e 165 21 [some (.ref 633), some (.int c)] [.int 0] M v M' 0 0 := Ev.back 1 (fun n => rfl) H
      obtain ⟨p1, p2⟩ := Ev.retz rfl rfl H
      exact ⟨by rw [if_pos h1, if_neg h2]; exact p1, p2⟩
  · rw [if_neg h1] at H
    have H : Ev none e 165 21 [some (.ref 633), some (.int c)] [.int 0] M v M' 0 0 := Ev.back 1 (fun n => rfl) H
    obtain ⟨p1, p2⟩ := Ev.retz rfl rfl H
    exact ⟨by rw [if_neg h1]; exact p1, p2⟩
noncomputable def G_173 (M : Mem) : Int32 := if (zI M 633 22) = 1 then (if (lg_cmp (fL M 633 31) 444300620659) = 0 then 0 else (if (lg_cmp (fL M 633 31) 113740959081836) = 0 then 1 else (if (lg_cmp (fL M 633 31) 6448484) = 0 then 2 else (if (lg_cmp (fL M 633 31) 482671486308) = 0 then 3 else (if (lg_cmp (fL M 633 31) 495874044019) = 0 then 4 else (if (lg_cmp (fL M 633 31) 1936287598) = 0 then 5 else (if (lg_cmp (fL M 633 31) 470120948857) = 0 then 6 else (if (lg_cmp (fL M 633 31) 2003792494) = 0 then 7 else (if (lg_cmp (fL M 633 31) 2003132786) = 0 then 8 else (if (lg_cmp (fL M 633 31) 7824756) = 0 then 9 else (if (lg_cmp (fL M 633 31) 114784769370228) = 0 then 10 else (if (lg_cmp (fL M 633 31) 1953656676) = 0 then 11 else (-1))))))))))))) else (-1)
theorem g_173 {e : Nat} {M M' : Mem} {v : Option Value} (hS : SQ M) (H : Ev none e 173 0 [some (.ref 633)] [] M v M' 0 0) : v = some (.int (G_173 M)) ∧ M' = M := by
  unfold G_173
  have H : Ev none e 173 1 [some (.ref 633)] [.ref 633] M v M' 0 0 := Ev.back 1 (fun n => rfl) H
  have H : Ev none e 173 4 [some (.ref 633)] [.int (zI M 633 22)] M v M' 0 0 := Ev.back 1 (gs_3 rfl rfl (gf_i hS.1 qa_633 qi_61_22 rfl)) H
  have H : Ev none e 173 (if (zI M 633 22) = 1 then 10 else 8) [some (.ref 633)] [] M v M' 0 0 := Ev.back 2 (fun n => rfl) H
  by_cases h1 : (zI M 633 22) = 1
  · rw [if_pos h1] at H
    have H : Ev none e 173 11 [some (.ref 633)] [.ref 633] M v M' 0 0 := Ev.back 1 (fun n => rfl) H
    have H : Ev none e 173 14 [some (.ref 633)] [.long (fL M 633 31)] M v M' 0 0 := Ev.back 1 (gs_3 rfl rfl (gf_l hS.1 qa_633 ql_61_31 rfl)) H
    have H : Ev none e 173 (if (lg_cmp (fL M 633 31) 444300620659) = 0 then 21 else 23) [some (.ref 633)] [] M v M' 0 0 := Ev.back 3 (fun n => rfl) H
    by_cases h2 : (lg_cmp (fL M 633 31) 444300620659) = 0
    · rw [if_pos h2] at H
      have H : Ev none e 173 22 [some (.ref 633)] [.int 0] M v M' 0 0 := Ev.back 1 (fun n => rfl) H
      obtain ⟨p1, p2⟩ := Ev.retz rfl rfl H
      exact ⟨by rw [if_pos h1, if_pos h2]; exact p1, p2⟩
    · rw [if_neg h2] at H
      have H : Ev none e 173 24 [some (.ref 633)] [.ref 633] M v M' 0 0 := Ev.back 1 (fun n => rfl) H
      have H : Ev none e 173 27 [some (.ref 633)] [.long (fL M 633 31)] M v M' 0 0 := Ev.back 1 (gs_3 rfl rfl (gf_l hS.1 qa_633 ql_61_31 rfl)) H
      have H : Ev none e 173 (if (lg_cmp (fL M 633 31) 113740959081836) = 0 then 34 else 36) [some (.ref 633)] [] M v M' 0 0 := Ev.back 3 (fun n => rfl) H
      by_cases h3 : (lg_cmp (fL M 633 31) 113740959081836) = 0
      · rw [if_pos h3] at H
        have H : Ev none e 173 35 [some (.ref 633)] [.int 1] M v M' 0 0 := Ev.back 1 (fun n => rfl) H
        obtain ⟨p1, p2⟩ := Ev.retz rfl rfl H
        exact ⟨by rw [if_pos h1, if_neg h2, if_pos h3]; exact p1, p2⟩
      · rw [if_neg h3] at H
        have H : Ev none e 173 37 [some (.ref 633)] [.ref 633] M v M' 0 0 := Ev.back 1 (fun n => rfl) H
        have H : Ev none e 173 40 [some (.ref 633)] [.long (fL M 633 31)] M v M' 0 0 := Ev.back 1 (gs_3 rfl rfl (gf_l hS.1 qa_633 ql_61_31 rfl)) H
        have H : Ev none e 173 (if (lg_cmp (fL M 633 31) 6448484) = 0 then 47 else 49) [some (.ref 633)] [] M v M' 0 0 := Ev.back 3 (fun n => rfl) H
        by_cases h4 : (lg_cmp (fL M 633 31) 6448484) = 0
        · rw [if_pos h4] at H
          have H : Ev none e 173 48 [some (.ref 633)] [.int 2] M v M' 0 0 := Ev.back 1 (fun n => rfl) H
          obtain ⟨p1, p2⟩ := Ev.retz rfl rfl H
          exact ⟨by rw [if_pos h1, if_neg h2, if_neg h3, if_pos h4]; exact p1, p2⟩
        · rw [if_neg h4] at H
          have H : Ev none e 173 50 [some (.ref 633)] [.ref 633] M v M' 0 0 := Ev.back 1 (fun n => rfl) H
          have H : Ev none e 173 53 [some (.ref 633)] [.long (fL M 633 31)] M v M' 0 0 := Ev.back 1 (gs_3 rfl rfl (gf_l hS.1 qa_633 ql_61_31 rfl)) H
          have H : Ev none e 173 (if (lg_cmp (fL M 633 31) 482671486308) = 0 then 60 else 62) [some (.ref 633)] [] M v M' 0 0 := Ev.back 3 (fun n => rfl) H
          by_cases h5 : (lg_cmp (fL M 633 31) 482671486308) = 0
          · rw [if_pos h5] at H
            have H : Ev none e 173 61 [some (.ref 633)] [.int 3] M v M' 0 0 := Ev.back 1 (fun n => rfl) H
            obtain ⟨p1, p2⟩ := Ev.retz rfl rfl H
            exact ⟨by rw [if_pos h1, if_neg h2, if_neg h3, if_neg h4, if_pos h5]; exact p1, p2⟩
          · rw [if_neg h5] at H
            have H : Ev none e 173 63 [some (.ref 633)] [.ref 633] M v M' 0 0 := Ev.back 1 (fun n => rfl) H
            have H : Ev none e 173 66 [some (.ref 633)] [.long (fL M 633 31)] M v M' 0 0 := Ev.back 1 (gs_3 rfl rfl (gf_l hS.1 qa_633 ql_61_31 rfl)) H
            have H : Ev none e 173 (if (lg_cmp (fL M 633 31) 495874044019) = 0 then 73 else 75) [some (.ref 633)] [] M v M' 0 0 := Ev.back 3 (fun n => rfl) H
            by_cases h6 : (lg_cmp (fL M 633 31) 495874044019) = 0
            · rw [if_pos h6] at H
              have H : Ev none e 173 74 [some (.ref 633)] [.int 4] M v M' 0 0 := Ev.back 1 (fun n => rfl) H
              obtain ⟨p1, p2⟩ := Ev.retz rfl rfl H
              exact ⟨by rw [if_pos h1, if_neg h2, if_neg h3, if_neg h4, if_neg h5, if_pos h6]; exact p1, p2⟩
            · rw [if_neg h6] at H
              have H : Ev none e 173 76 [some (.ref 633)] [.ref 633] M v M' 0 0 := Ev.back 1 (fun n => rfl) H
              have H : Ev none e 173 79 [some (.ref 633)] [.long (fL M 633 31)] M v M' 0 0 := Ev.back 1 (gs_3 rfl rfl (gf_l hS.1 qa_633 ql_61_31 rfl)) H
              have H : Ev none e 173 (if (lg_cmp (fL M 633 31) 1936287598) = 0 then 86 else 88) [some (.ref 633)] [] M v M' 0 0 := Ev.back 3 (fun n => rfl) H
              by_cases h7 : (lg_cmp (fL M 633 31) 1936287598) = 0
              · rw [if_pos h7] at H
                have H : Ev none e 173 87 [some (.ref 633)] [.int 5] M v M' 0 0 := Ev.back 1 (fun n => rfl) H
                obtain ⟨p1, p2⟩ := Ev.retz rfl rfl H
                exact ⟨by rw [if_pos h1, if_neg h2, if_neg h3, if_neg h4, if_neg h5, if_neg h6, if_pos h7]; exact p1, p2⟩
              · rw [if_neg h7] at H
                have H : Ev none e 173 89 [some (.ref 633)] [.ref 633] M v M' 0 0 := Ev.back 1 (fun n => rfl) H
                have H : Ev none e 173 92 [some (.ref 633)] [.long (fL M 633 31)] M v M' 0 0 := Ev.back 1 (gs_3 rfl rfl (gf_l hS.1 qa_633 ql_61_31 rfl)) H
                have H : Ev none e 173 (if (lg_cmp (fL M 633 31) 470120948857) = 0 then 99 else 102) [some (.ref 633)] [] M v M' 0 0 := Ev.back 3 (fun n => rfl) H
                by_cases h8 : (lg_cmp (fL M 633 31) 470120948857) = 0
                · rw [if_pos h8] at H
                  have H : Ev none e 173 101 [some (.ref 633)] [.int 6] M v M' 0 0 := Ev.back 1 (fun n => rfl) H
                  obtain ⟨p1, p2⟩ := Ev.retz rfl rfl H
                  exact ⟨by rw [if_pos h1, if_neg h2, if_neg h3, if_neg h4, if_neg h5, if_neg h6, if_neg h7, if_pos h8]; exact p1, p2⟩
                · rw [if_neg h8] at H
                  have H : Ev none e 173 103 [some (.ref 633)] [.ref 633] M v M' 0 0 := Ev.back 1 (fun n => rfl) H
                  have H : Ev none e 173 106 [some (.ref 633)] [.long (fL M 633 31)] M v M' 0 0 := Ev.back 1 (gs_3 rfl rfl (gf_l hS.1 qa_633 ql_61_31 rfl)) H
                  have H : Ev none e 173 (if (lg_cmp (fL M 633 31) 2003792494) = 0 then 113 else 116) [some (.ref 633)] [] M v M' 0 0 := Ev.back 3 (fun n => rfl) H
                  by_cases h9 : (lg_cmp (fL M 633 31) 2003792494) = 0
                  · rw [if_pos h9] at H
                    have H : Ev none e 173 115 [some (.ref 633)] [.int 7] M v M' 0 0 := Ev.back 1 (fun n => rfl) H
                    obtain ⟨p1, p2⟩ := Ev.retz rfl rfl H
                    exact ⟨by rw [if_pos h1, if_neg h2, if_neg h3, if_neg h4, if_neg h5, if_neg h6, if_neg h7, if_neg h8, if_pos h9]; exact p1, p2⟩
                  · rw [if_neg h9] at H
                    have H : Ev none e 173 117 [some (.ref 633)] [.ref 633] M v M' 0 0 := Ev.back 1 (fun n => rfl) H
                    have H : Ev none e 173 120 [some (.ref 633)] [.long (fL M 633 31)] M v M' 0 0 := Ev.back 1 (gs_3 rfl rfl (gf_l hS.1 qa_633 ql_61_31 rfl)) H
                    have H : Ev none e 173 (if (lg_cmp (fL M 633 31) 2003132786) = 0 then 127 else 132) [some (.ref 633)] [] M v M' 0 0 := Ev.back 3 (fun n => rfl) H
                    by_cases h10 : (lg_cmp (fL M 633 31) 2003132786) = 0
                    · rw [if_pos h10] at H
                      have H : Ev none e 173 181 [some (.ref 633)] [.int 8] M v M' 0 0 := Ev.back 2 (fun n => rfl) H
                      obtain ⟨p1, p2⟩ := Ev.retz rfl rfl H
                      exact ⟨by rw [if_pos h1, if_neg h2, if_neg h3, if_neg h4, if_neg h5, if_neg h6, if_neg h7, if_neg h8, if_neg h9, if_pos h10]; exact p1, p2⟩
                    · rw [if_neg h10] at H
                      have H : Ev none e 173 133 [some (.ref 633)] [.ref 633] M v M' 0 0 := Ev.back 1 (fun n => rfl) H
                      have H : Ev none e 173 136 [some (.ref 633)] [.long (fL M 633 31)] M v M' 0 0 := Ev.back 1 (gs_3 rfl rfl (gf_l hS.1 qa_633 ql_61_31 rfl)) H
                      have H : Ev none e 173 (if (lg_cmp (fL M 633 31) 7824756) = 0 then 143 else 148) [some (.ref 633)] [] M v M' 0 0 := Ev.back 3 (fun n => rfl) H
                      by_cases h11 : (lg_cmp (fL M 633 31) 7824756) = 0
                      · rw [if_pos h11] at H
                        have H : Ev none e 173 181 [some (.ref 633)] [.int 9] M v M' 0 0 := Ev.back 2 (fun n => rfl) H
                        obtain ⟨p1, p2⟩ := Ev.retz rfl rfl H
                        exact ⟨by rw [if_pos h1, if_neg h2, if_neg h3, if_neg h4, if_neg h5, if_neg h6, if_neg h7, if_neg h8, if_neg h9, if_neg h10, if_pos h11]; exact p1, p2⟩
                      · rw [if_neg h11] at H
                        have H : Ev none e 173 149 [some (.ref 633)] [.ref 633] M v M' 0 0 := Ev.back 1 (fun n => rfl) H
                        have H : Ev none e 173 152 [some (.ref 633)] [.long (fL M 633 31)] M v M' 0 0 := Ev.back 1 (gs_3 rfl rfl (gf_l hS.1 qa_633 ql_61_31 rfl)) H
                        have H : Ev none e 173 (if (lg_cmp (fL M 633 31) 114784769370228) = 0 then 159 else 164) [some (.ref 633)] [] M v M' 0 0 := Ev.back 3 (fun n => rfl) H
                        by_cases h12 : (lg_cmp (fL M 633 31) 114784769370228) = 0
                        · rw [if_pos h12] at H
                          have H : Ev none e 173 181 [some (.ref 633)] [.int 10] M v M' 0 0 := Ev.back 2 (fun n => rfl) H
                          obtain ⟨p1, p2⟩ := Ev.retz rfl rfl H
                          exact ⟨by rw [if_pos h1, if_neg h2, if_neg h3, if_neg h4, if_neg h5, if_neg h6, if_neg h7, if_neg h8, if_neg h9, if_neg h10, if_neg h11, if_pos h12]; exact p1, p2⟩
                        · rw [if_neg h12] at H
                          have H : Ev none e 173 165 [some (.ref 633)] [.ref 633] M v M' 0 0 := Ev.back 1 (fun n => rfl) H
                          have H : Ev none e 173 168 [some (.ref 633)] [.long (fL M 633 31)] M v M' 0 0 := Ev.back 1 (gs_3 rfl rfl (gf_l hS.1 qa_633 ql_61_31 rfl)) H
                          have H : Ev none e 173 (if (lg_cmp (fL M 633 31) 1953656676) = 0 then 175 else 180) [some (.ref 633)] [] M v M' 0 0 := Ev.back 3 (fun n => rfl) H
                          by_cases h13 : (lg_cmp (fL M 633 31) 1953656676) = 0
                          · rw [if_pos h13] at H
                            have H : Ev none e 173 181 [some (.ref 633)] [.int 11] M v M' 0 0 := Ev.back 2 (fun n => rfl) H
                            obtain ⟨p1, p2⟩ := Ev.retz rfl rfl H
                            exact ⟨by rw [if_pos h1, if_neg h2, if_neg h3, if_neg h4, if_neg h5, if_neg h6, if_neg h7, if_neg h8, if_neg h9, if_neg h10, if_neg h11, if_neg h12, if_pos h13]; exact p1, p2⟩
                          · rw [if_neg h13] at H
                            have H : Ev none e 173 181 [some (.ref 633)] [.int (-1)] M v M' 0 0 := Ev.back 1 (fun n => rfl) H
                            obtain ⟨p1, p2⟩ := Ev.retz rfl rfl H
                            exact ⟨by rw [if_pos h1, if_neg h2, if_neg h3, if_neg h4, if_neg h5, if_neg h6, if_neg h7, if_neg h8, if_neg h9, if_neg h10, if_neg h11, if_neg h12, if_neg h13]; exact p1, p2⟩
  · rw [if_neg h1] at H
    have H : Ev none e 173 9 [some (.ref 633)] [.int (-1)] M v M' 0 0 := Ev.back 1 (fun n => rfl) H
    obtain ⟨p1, p2⟩ := Ev.retz rfl rfl H
    exact ⟨by rw [if_neg h1]; exact p1, p2⟩
noncomputable def G_176 (M : Mem) (k : Int32) : Int32 := if k = 20 then 3 else (if k = 21 then 2 else 1)
theorem g_176 {e : Nat} {M M' : Mem} {v : Option Value} {k : Int32} (hS : SQ M) (H : Ev none e 176 0 [some (.int k)] [] M v M' 0 0) : v = some (.int (G_176 M k)) ∧ M' = M := by
  unfold G_176
  have H : Ev none e 176 (if k = 20 then 6 else 10) [some (.int k)] [] M v M' 0 0 := Ev.back 3 (fun n => rfl) H
  by_cases h1 : k = 20
  · rw [if_pos h1] at H
    have H : Ev none e 176 21 [some (.int k)] [.int 3] M v M' 0 0 := Ev.back 2 (fun n => rfl) H
    obtain ⟨p1, p2⟩ := Ev.retz rfl rfl H
    exact ⟨by rw [if_pos h1]; exact p1, p2⟩
  · rw [if_neg h1] at H
    have H : Ev none e 176 (if k = 21 then 16 else 20) [some (.int k)] [] M v M' 0 0 := Ev.back 3 (fun n => rfl) H
    by_cases h2 : k = 21
    · rw [if_pos h2] at H
      have H : Ev none e 176 21 [some (.int k)] [.int 2] M v M' 0 0 := Ev.back 2 (fun n => rfl) H
      obtain ⟨p1, p2⟩ := Ev.retz rfl rfl H
      exact ⟨by rw [if_neg h1, if_pos h2]; exact p1, p2⟩
    · rw [if_neg h2] at H
      have H : Ev none e 176 21 [some (.int k)] [.int 1] M v M' 0 0 := Ev.back 1 (fun n => rfl) H
      obtain ⟨p1, p2⟩ := Ev.retz rfl rfl H
      exact ⟨by rw [if_neg h1, if_neg h2]; exact p1, p2⟩
theorem wt_0 {e : Nat} {M M' : Mem} {v : Option Value} {x y z : Int32} (hS : SQ M) (H : Ev none e 174 0 [some (.ref 633), some (.int x), some (.int y), some (.int z)] [] M v M' 0 0) : (0 ≤ (1400 + (zI M 633 19)).toInt ∧ (1400 + (zI M 633 19)).toInt < 1600) ∧ (0 ≤ (1400 + (zI M 633 19)).toInt ∧ (1400 + (zI M 633 19)).toInt < 1600) ∧ (0 ≤ (1400 + (zI M 633 19)).toInt ∧ (1400 + (zI M 633 19)).toInt < 1600) ∧ v = none ∧ M' = (wF (wI (wI (wI M 645 ((1400 + (zI M 633 19)).toNatClampNeg) x) 646 ((1400 + (zI M 633 19)).toNatClampNeg) y) 647 ((1400 + (zI M 633 19)).toNatClampNeg) z) 633 19 ((zI M 633 19) + 1)) := by
  have H : Ev none e 174 1 [some (.ref 633), some (.int x), some (.int y), some (.int z)] [.ref 633] M v M' 0 0 := Ev.back 1 (fun n => rfl) H
  have H : Ev none e 174 4 [some (.ref 633), some (.int x), some (.int y), some (.int z)] [.ref 645] M v M' 0 0 := Ev.back 1 (gs_3 rfl rfl (gf_u hS.1 qa_633 qr_61_15 qu_73 rfl)) H
  have H : Ev none e 174 8 [some (.ref 633), some (.int x), some (.int y), some (.int z)] [.ref 633, .int 1400, .ref 645] M v M' 0 0 := Ev.back 2 (fun n => rfl) H
  have H : Ev none e 174 11 [some (.ref 633), some (.int x), some (.int y), some (.int z)] [.int (zI M 633 19), .int 1400, .ref 645] M v M' 0 0 := Ev.back 1 (gs_3 rfl rfl (gf_i hS.1 qa_633 qi_61_19 rfl)) H
  have H : Ev none e 174 13 [some (.ref 633), some (.int x), some (.int y), some (.int z)] [.int x, .int (1400 + (zI M 633 19)), .ref 645] M v M' 0 0 := Ev.back 2 (fun n => rfl) H
  obtain ⟨b1, H⟩ := Ev.ias rfl rfl hS.1 qa_645 qw_73 H
  obtain ⟨N2, eN2⟩ : ∃ N, N = (wI M 645 ((1400 + (zI M 633 19)).toNatClampNeg) x) := ⟨_, rfl⟩
  have hN2 : SQ N2 := by rw [eN2]; exact hS.ki
  have H : Ev none e 174 14 [some (.ref 633), some (.int x), some (.int y), some (.int z)] [] N2 v M' 0 0 := by rw [eN2]; exact H
  have H : Ev none e 174 15 [some (.ref 633), some (.int x), some (.int y), some (.int z)] [.ref 633] N2 v M' 0 0 := Ev.back 1 (fun n => rfl) H
  have H : Ev none e 174 18 [some (.ref 633), some (.int x), some (.int y), some (.int z)] [.ref 646] N2 v M' 0 0 := Ev.back 1 (gs_3 rfl rfl (gf_u hN2.1 qa_633 qr_61_16 qu_74 rfl)) H
  have H : Ev none e 174 22 [some (.ref 633), some (.int x), some (.int y), some (.int z)] [.ref 633, .int 1400, .ref 646] N2 v M' 0 0 := Ev.back 2 (fun n => rfl) H
  have H : Ev none e 174 25 [some (.ref 633), some (.int x), some (.int y), some (.int z)] [.int (zI N2 633 19), .int 1400, .ref 646] N2 v M' 0 0 := Ev.back 1 (gs_3 rfl rfl (gf_i hN2.1 qa_633 qi_61_19 rfl)) H
  rw [show zI N2 633 19 = zI M 633 19 from by rw [eN2]; exact fI_wI] at H
  have H : Ev none e 174 27 [some (.ref 633), some (.int x), some (.int y), some (.int z)] [.int y, .int (1400 + (zI M 633 19)), .ref 646] N2 v M' 0 0 := Ev.back 2 (fun n => rfl) H
  obtain ⟨b3, H⟩ := Ev.ias rfl rfl hN2.1 qa_646 qw_74 H
  obtain ⟨N4, eN4⟩ : ∃ N, N = (wI N2 646 ((1400 + (zI M 633 19)).toNatClampNeg) y) := ⟨_, rfl⟩
  have hN4 : SQ N4 := by rw [eN4]; exact hN2.ki
  have H : Ev none e 174 28 [some (.ref 633), some (.int x), some (.int y), some (.int z)] [] N4 v M' 0 0 := by rw [eN4]; exact H
  have H : Ev none e 174 29 [some (.ref 633), some (.int x), some (.int y), some (.int z)] [.ref 633] N4 v M' 0 0 := Ev.back 1 (fun n => rfl) H
  have H : Ev none e 174 32 [some (.ref 633), some (.int x), some (.int y), some (.int z)] [.ref 647] N4 v M' 0 0 := Ev.back 1 (gs_3 rfl rfl (gf_u hN4.1 qa_633 qr_61_17 qu_75 rfl)) H
  have H : Ev none e 174 36 [some (.ref 633), some (.int x), some (.int y), some (.int z)] [.ref 633, .int 1400, .ref 647] N4 v M' 0 0 := Ev.back 2 (fun n => rfl) H
  have H : Ev none e 174 39 [some (.ref 633), some (.int x), some (.int y), some (.int z)] [.int (zI N4 633 19), .int 1400, .ref 647] N4 v M' 0 0 := Ev.back 1 (gs_3 rfl rfl (gf_i hN4.1 qa_633 qi_61_19 rfl)) H
  rw [(show zI N4 633 19 = zI N2 633 19 from by rw [eN4]; exact fI_wI).trans (show zI N2 633 19 = zI M 633 19 from by rw [eN2]; exact fI_wI)] at H
  have H : Ev none e 174 41 [some (.ref 633), some (.int x), some (.int y), some (.int z)] [.int z, .int (1400 + (zI M 633 19)), .ref 647] N4 v M' 0 0 := Ev.back 2 (fun n => rfl) H
  obtain ⟨b5, H⟩ := Ev.ias rfl rfl hN4.1 qa_647 qw_75 H
  obtain ⟨N6, eN6⟩ : ∃ N, N = (wI N4 647 ((1400 + (zI M 633 19)).toNatClampNeg) z) := ⟨_, rfl⟩
  have hN6 : SQ N6 := by rw [eN6]; exact hN4.ki
  have H : Ev none e 174 42 [some (.ref 633), some (.int x), some (.int y), some (.int z)] [] N6 v M' 0 0 := by rw [eN6]; exact H
  have H : Ev none e 174 44 [some (.ref 633), some (.int x), some (.int y), some (.int z)] [.ref 633, .ref 633] N6 v M' 0 0 := Ev.back 2 (fun n => rfl) H
  have H : Ev none e 174 47 [some (.ref 633), some (.int x), some (.int y), some (.int z)] [.int (zI N6 633 19), .ref 633] N6 v M' 0 0 := Ev.back 1 (gs_3 rfl rfl (gf_i hN6.1 qa_633 qi_61_19 rfl)) H
  rw [((show zI N6 633 19 = zI N4 633 19 from by rw [eN6]; exact fI_wI).trans (show zI N4 633 19 = zI N2 633 19 from by rw [eN4]; exact fI_wI)).trans (show zI N2 633 19 = zI M 633 19 from by rw [eN2]; exact fI_wI)] at H
  have H : Ev none e 174 49 [some (.ref 633), some (.int x), some (.int y), some (.int z)] [.int ((zI M 633 19) + 1), .ref 633] N6 v M' 0 0 := Ev.back 2 (fun n => rfl) H
  obtain ⟨N8, eN8⟩ : ∃ N, N = (wF N6 633 19 ((zI M 633 19) + 1)) := ⟨_, rfl⟩
  have hN8 : SQ N8 := by rw [eN8]; exact hN6.kf
  have H : Ev none e 174 52 [some (.ref 633), some (.int x), some (.int y), some (.int z)] [] N8 v M' 0 0 := by rw [eN8]; exact Ev.pfi rfl rfl rfl hN6.1 qa_633 qi_61_19 H
  obtain ⟨z1, z2⟩ := Ev.retb (fun n => rfl) H
  subst eN2 eN4 eN6 eN8
  exact ⟨b1, b3, b5, z1, z2⟩
theorem wdq_0 {e : Nat} {M M' : Mem} {v : Option Value} {le : Int32} (hS : SQ M) (H : Ev none e 175 0 [some (.ref 633), some (.int le)] [] M v M' 0 0) : ((zI M 633 20) ≤ 0 ∧ v = none ∧ M' = M) ∨ (¬ ((zI M 633 20) ≤ 0) ∧ (rI M 648 ((zI M 633 20) - 1)) = 23 ∧ v = none ∧ M' = M) ∨ (¬ ((zI M 633 20) ≤ 0) ∧ ¬ ((rI M 648 ((zI M 633 20) - 1)) = 23) ∧ (G_176 M (rI M 648 ((zI M 633 20) - 1))) < le ∧ v = none ∧ M' = M) ∨ (¬ ((zI M 633 20) ≤ 0) ∧ ¬ ((rI M 648 ((zI M 633 20) - 1)) = 23) ∧ ¬ ((G_176 M (rI M 648 ((zI M 633 20) - 1))) < le) ∧ (∃ e1 v1 M1, e = e1 + 1 ∧ Ev none e1 174 0 [some (.ref 633), some (.int (rI M 648 ((zI M 633 20) - 1))), some (.int 0), some (.int 0)] [] (wF M 633 20 ((zI M 633 20) - 1)) v1 M1 0 0 ∧ Ev none e 175 66 [some (.ref 633), some (.int le)] (v1.toList ++ []) M1 v M' 0 0)) := by
  have H : Ev none e 175 1 [some (.ref 633), some (.int le)] [.ref 633] M v M' 0 0 := Ev.back 1 (fun n => rfl) H
  have H : Ev none e 175 4 [some (.ref 633), some (.int le)] [.int (zI M 633 20)] M v M' 0 0 := Ev.back 1 (gs_3 rfl rfl (gf_i hS.1 qa_633 qi_61_20 rfl)) H
  have H : Ev none e 175 (if (zI M 633 20) ≤ 0 then 69 else 7) [some (.ref 633), some (.int le)] [] M v M' 0 0 := Ev.back 1 (fun n => rfl) H
  by_cases h1 : (zI M 633 20) ≤ 0
  · rw [if_pos h1] at H
    obtain ⟨z1, z2⟩ := Ev.retb (fun n => rfl) H
    exact Or.inl ⟨h1, z1, z2⟩
  · rw [if_neg h1] at H
    have H : Ev none e 175 8 [some (.ref 633), some (.int le)] [.ref 633] M v M' 0 0 := Ev.back 1 (fun n => rfl) H
    have H : Ev none e 175 11 [some (.ref 633), some (.int le)] [.ref 648] M v M' 0 0 := Ev.back 1 (gs_3 rfl rfl (gf_u hS.1 qa_633 qr_61_18 qu_76 rfl)) H
    have H : Ev none e 175 12 [some (.ref 633), some (.int le)] [.ref 633, .ref 648] M v M' 0 0 := Ev.back 1 (fun n => rfl) H
    have H : Ev none e 175 15 [some (.ref 633), some (.int le)] [.int (zI M 633 20), .ref 648] M v M' 0 0 := Ev.back 1 (gs_3 rfl rfl (gf_i hS.1 qa_633 qi_61_20 rfl)) H
    have H : Ev none e 175 17 [some (.ref 633), some (.int le)] [.int ((zI M 633 20) - 1), .ref 648] M v M' 0 0 := Ev.back 2 (fun n => rfl) H
    obtain ⟨b2, H⟩ := Ev.ial rfl rfl hS.1 qa_648 qw_76 H
    have H : Ev none e 175 18 [some (.ref 633), some (.int le)] [.int (rI M 648 ((zI M 633 20) - 1))] M v M' 0 0 := H
    have H : Ev none e 175 (if (rI M 648 ((zI M 633 20) - 1)) = 23 then 69 else 23) [some (.ref 633), some (.int le)] [] M v M' 0 0 := Ev.back 2 (fun n => rfl) H
    by_cases h3 : (rI M 648 ((zI M 633 20) - 1)) = 23
    · rw [if_pos h3] at H
      obtain ⟨z1, z2⟩ := Ev.retb (fun n => rfl) H
      exact Or.inr (Or.inl ⟨h1, h3, z1, z2⟩)
    · rw [if_neg h3] at H
      have H : Ev none e 175 24 [some (.ref 633), some (.int le)] [.ref 633] M v M' 0 0 := Ev.back 1 (fun n => rfl) H
      have H : Ev none e 175 27 [some (.ref 633), some (.int le)] [.ref 648] M v M' 0 0 := Ev.back 1 (gs_3 rfl rfl (gf_u hS.1 qa_633 qr_61_18 qu_76 rfl)) H
      have H : Ev none e 175 28 [some (.ref 633), some (.int le)] [.ref 633, .ref 648] M v M' 0 0 := Ev.back 1 (fun n => rfl) H
      have H : Ev none e 175 31 [some (.ref 633), some (.int le)] [.int (zI M 633 20), .ref 648] M v M' 0 0 := Ev.back 1 (gs_3 rfl rfl (gf_i hS.1 qa_633 qi_61_20 rfl)) H
      have H : Ev none e 175 33 [some (.ref 633), some (.int le)] [.int ((zI M 633 20) - 1), .ref 648] M v M' 0 0 := Ev.back 2 (fun n => rfl) H
      obtain ⟨b4, H⟩ := Ev.ial rfl rfl hS.1 qa_648 qw_76 H
      have H : Ev none e 175 34 [some (.ref 633), some (.int le)] [.int (rI M 648 ((zI M 633 20) - 1))] M v M' 0 0 := H
      obtain ⟨e1, rfl⟩ := Ev.dpos rfl rfl H
      obtain ⟨vK5, MK5, K5, H⟩ := Ev.callb (fun n => rfl) H
      obtain ⟨pK5, qK5⟩ := g_176 hS K5
      rw [pK5, qK5] at H
      have H : Ev none (e1 + 1) 175 37 [some (.ref 633), some (.int le)] [.int (G_176 M (rI M 648 ((zI M 633 20) - 1)))] M v M' 0 0 := H
      have H : Ev none (e1 + 1) 175 (if (G_176 M (rI M 648 ((zI M 633 20) - 1))) < le then 69 else 41) [some (.ref 633), some (.int le)] [] M v M' 0 0 := Ev.back 2 (fun n => rfl) H
      by_cases h6 : (G_176 M (rI M 648 ((zI M 633 20) - 1))) < le
      · rw [if_pos h6] at H
        obtain ⟨z1, z2⟩ := Ev.retb (fun n => rfl) H
        exact Or.inr (Or.inr (Or.inl ⟨h1, h3, h6, z1, z2⟩))
      · rw [if_neg h6] at H
        have H : Ev none (e1 + 1) 175 43 [some (.ref 633), some (.int le)] [.ref 633, .ref 633] M v M' 0 0 := Ev.back 2 (fun n => rfl) H
        have H : Ev none (e1 + 1) 175 46 [some (.ref 633), some (.int le)] [.int (zI M 633 20), .ref 633] M v M' 0 0 := Ev.back 1 (gs_3 rfl rfl (gf_i hS.1 qa_633 qi_61_20 rfl)) H
        have H : Ev none (e1 + 1) 175 48 [some (.ref 633), some (.int le)] [.int ((zI M 633 20) - 1), .ref 633] M v M' 0 0 := Ev.back 2 (fun n => rfl) H
        obtain ⟨N8, eN8⟩ : ∃ N, N = (wF M 633 20 ((zI M 633 20) - 1)) := ⟨_, rfl⟩
        have hN8 : SQ N8 := by rw [eN8]; exact hS.kf
        have H : Ev none (e1 + 1) 175 51 [some (.ref 633), some (.int le)] [] N8 v M' 0 0 := by rw [eN8]; exact Ev.pfi rfl rfl rfl hS.1 qa_633 qi_61_20 H
        have H : Ev none (e1 + 1) 175 53 [some (.ref 633), some (.int le)] [.ref 633, .ref 633] N8 v M' 0 0 := Ev.back 2 (fun n => rfl) H
        have H : Ev none (e1 + 1) 175 56 [some (.ref 633), some (.int le)] [.ref 648, .ref 633] N8 v M' 0 0 := Ev.back 1 (gs_3 rfl rfl (gf_u hN8.1 qa_633 qr_61_18 qu_76 rfl)) H
        have H : Ev none (e1 + 1) 175 57 [some (.ref 633), some (.int le)] [.ref 633, .ref 648, .ref 633] N8 v M' 0 0 := Ev.back 1 (fun n => rfl) H
        have H : Ev none (e1 + 1) 175 60 [some (.ref 633), some (.int le)] [.int (zI N8 633 20), .ref 648, .ref 633] N8 v M' 0 0 := Ev.back 1 (gs_3 rfl rfl (gf_i hN8.1 qa_633 qi_61_20 rfl)) H
        rw [show zI N8 633 20 = (zI M 633 20) - 1 from by rw [eN8]; exact fI_wF_eq hS.1 qa_633 qi_61_20] at H
        obtain ⟨b9, H⟩ := Ev.ial rfl rfl hN8.1 qa_648 qw_76 H
        have H : Ev none (e1 + 1) 175 61 [some (.ref 633), some (.int le)] [.int (rI N8 648 ((zI M 633 20) - 1)), .ref 633] N8 v M' 0 0 := H
        rw [show rI N8 648 ((zI M 633 20) - 1) = rI M 648 ((zI M 633 20) - 1) from by rw [eN8]; exact rN_wF] at H
        have H : Ev none (e1 + 1) 175 63 [some (.ref 633), some (.int le)] [.int 0, .int 0, .int (rI M 648 ((zI M 633 20) - 1)), .ref 633] N8 v M' 0 0 := Ev.back 2 (fun n => rfl) H
        obtain ⟨vK10, MK10, K10, H⟩ := Ev.callb (fun n => gs_7 rfl rfl (show gCal (.invokevirtual 294) 11 (.int 0 :: .int 0 :: .int (rI M 648 ((zI M 633 20) - 1)) :: .ref 633 :: []) N8 = some (.inr (174, [some (.ref 633), some (.int (rI M 648 ((zI M 633 20) - 1))), some (.int 0), some (.int 0)], [])) from by show @cond (Option ((List Value × Mem) ⊕ (Nat × Lo × List Value))) (true && gRecv N8 (.ref 633) 11 && gRoom [] && true) (some (.inr (174, [some (.ref 633), some (.int (rI M 648 ((zI M 633 20) - 1))), some (.int 0), some (.int 0)], []))) none = _; rw [recv_s hN8.1 qa_633 qo_61]; rfl)) H
        have K10 : Ev none e1 174 0 [some (.ref 633), some (.int (rI M 648 ((zI M 633 20) - 1))), some (.int 0), some (.int 0)] [] N8 vK10 MK10 0 0 := K10
        have HF := H
        subst eN8
        exact Or.inr (Or.inr (Or.inr (⟨h1, h3, h6, ⟨e1, vK10, MK10, rfl, K10, HF⟩⟩)))
theorem wdq_66 {e : Nat} {M M' : Mem} {v : Option Value} {le : Int32} (hS : SQ M) (H : Ev none e 175 66 [some (.ref 633), some (.int le)] [] M v M' 0 0) : Ev none e 175 0 [some (.ref 633), some (.int le)] [] M v M' 0 0 := by
  have H : Ev none e 175 0 [some (.ref 633), some (.int le)] [] M v M' 0 0 := Ev.back 1 (fun n => rfl) H
  have HF := H
  exact HF
theorem op_0 {e : Nat} {M M' : Mem} {v : Option Value} (hS : SQ M) (H : Ev none e 177 0 [some (.ref 633), none, none] [] M v M' 0 0) : Ev none e 177 4 [some (.ref 633), some (.int 0), some (.int 0)] [] M v M' 0 0 := by
  have H : Ev none e 177 4 [some (.ref 633), some (.int 0), some (.int 0)] [] M v M' 0 0 := Ev.back 4 (fun n => rfl) H
  have HF := H
  exact HF
theorem op_4 {e : Nat} {M M' : Mem} {v : Option Value} {nn k : Int32} (hS : SQ M) (H : Ev none e 177 4 [some (.ref 633), some (.int nn), some (.int k)] [] M v M' 0 0) : ((zI M 633 20) ≤ k ∧ v = some (.int nn) ∧ M' = M) ∨ (¬ ((zI M 633 20) ≤ k) ∧ (rI M 648 k) = 20 ∧ Ev none e 177 4 [some (.ref 633), some (.int (nn + 1)), some (.int (k + 1))] [] M v M' 0 0) ∨ (¬ ((zI M 633 20) ≤ k) ∧ ¬ ((rI M 648 k) = 20) ∧ (rI M 648 k) = 23 ∧ Ev none e 177 4 [some (.ref 633), some (.int (nn + 1)), some (.int (k + 1))] [] M v M' 0 0) ∨ (¬ ((zI M 633 20) ≤ k) ∧ ¬ ((rI M 648 k) = 20) ∧ ¬ ((rI M 648 k) = 23) ∧ Ev none e 177 4 [some (.ref 633), some (.int (nn + 0)), some (.int (k + 1))] [] M v M' 0 0) := by
  have H : Ev none e 177 6 [some (.ref 633), some (.int nn), some (.int k)] [.ref 633, .int k] M v M' 0 0 := Ev.back 2 (fun n => rfl) H
  have H : Ev none e 177 9 [some (.ref 633), some (.int nn), some (.int k)] [.int (zI M 633 20), .int k] M v M' 0 0 := Ev.back 1 (gs_3 rfl rfl (gf_i hS.1 qa_633 qi_61_20 rfl)) H
  have H : Ev none e 177 (if (zI M 633 20) ≤ k then 48 else 12) [some (.ref 633), some (.int nn), some (.int k)] [] M v M' 0 0 := Ev.back 1 (fun n => rfl) H
  by_cases h1 : (zI M 633 20) ≤ k
  · rw [if_pos h1] at H
    have H : Ev none e 177 49 [some (.ref 633), some (.int nn), some (.int k)] [.int nn] M v M' 0 0 := Ev.back 1 (fun n => rfl) H
    obtain ⟨z1, z2⟩ := Ev.retz rfl rfl H
    exact Or.inl ⟨h1, z1, z2⟩
  · rw [if_neg h1] at H
    have H : Ev none e 177 14 [some (.ref 633), some (.int nn), some (.int k)] [.ref 633, .int nn] M v M' 0 0 := Ev.back 2 (fun n => rfl) H
    have H : Ev none e 177 17 [some (.ref 633), some (.int nn), some (.int k)] [.ref 648, .int nn] M v M' 0 0 := Ev.back 1 (gs_3 rfl rfl (gf_u hS.1 qa_633 qr_61_18 qu_76 rfl)) H
    have H : Ev none e 177 18 [some (.ref 633), some (.int nn), some (.int k)] [.int k, .ref 648, .int nn] M v M' 0 0 := Ev.back 1 (fun n => rfl) H
    obtain ⟨b2, H⟩ := Ev.ial rfl rfl hS.1 qa_648 qw_76 H
    have H : Ev none e 177 19 [some (.ref 633), some (.int nn), some (.int k)] [.int (rI M 648 k), .int nn] M v M' 0 0 := H
    have H : Ev none e 177 (if (rI M 648 k) = 20 then 35 else 24) [some (.ref 633), some (.int nn), some (.int k)] [.int nn] M v M' 0 0 := Ev.back 2 (fun n => rfl) H
    by_cases h3 : (rI M 648 k) = 20
    · rw [if_pos h3] at H
      have H : Ev none e 177 4 [some (.ref 633), some (.int (nn + 1)), some (.int (k + 1))] [] M v M' 0 0 := Ev.back 6 (fun n => rfl) H
      have HF := H
      exact Or.inr (Or.inl ⟨h1, h3, HF⟩)
    · rw [if_neg h3] at H
      have H : Ev none e 177 25 [some (.ref 633), some (.int nn), some (.int k)] [.ref 633, .int nn] M v M' 0 0 := Ev.back 1 (fun n => rfl) H
      have H : Ev none e 177 28 [some (.ref 633), some (.int nn), some (.int k)] [.ref 648, .int nn] M v M' 0 0 := Ev.back 1 (gs_3 rfl rfl (gf_u hS.1 qa_633 qr_61_18 qu_76 rfl)) H
      have H : Ev none e 177 29 [some (.ref 633), some (.int nn), some (.int k)] [.int k, .ref 648, .int nn] M v M' 0 0 := Ev.back 1 (fun n => rfl) H
      obtain ⟨b4, H⟩ := Ev.ial rfl rfl hS.1 qa_648 qw_76 H
      have H : Ev none e 177 30 [some (.ref 633), some (.int nn), some (.int k)] [.int (rI M 648 k), .int nn] M v M' 0 0 := H
      have H : Ev none e 177 (if (rI M 648 k) = 23 then 35 else 39) [some (.ref 633), some (.int nn), some (.int k)] [.int nn] M v M' 0 0 := Ev.back 2 (fun n => rfl) H
      by_cases h5 : (rI M 648 k) = 23
      · rw [if_pos h5] at H
        have H : Ev none e 177 4 [some (.ref 633), some (.int (nn + 1)), some (.int (k + 1))] [] M v M' 0 0 := Ev.back 6 (fun n => rfl) H
        have HF := H
        exact Or.inr (Or.inr (Or.inl ⟨h1, h3, h5, HF⟩))
      · rw [if_neg h5] at H
        have H : Ev none e 177 4 [some (.ref 633), some (.int (nn + 0)), some (.int (k + 1))] [] M v M' 0 0 := Ev.back 5 (fun n => rfl) H
        have HF := H
        exact Or.inr (Or.inr (Or.inr (⟨h1, h3, h5, HF⟩)))
theorem ioq_0 {e : Nat} {M M' : Mem} {v : Option Value} (hS : SQ M) (H : Ev none e 178 0 [some (.ref 633), none] [] M v M' 0 0) : Ev none e 178 2 [some (.ref 633), some (.int 0)] [] M v M' 0 0 := by
  have H : Ev none e 178 2 [some (.ref 633), some (.int 0)] [] M v M' 0 0 := Ev.back 2 (fun n => rfl) H
  have HF := H
  exact HF
theorem ioq_2 {e : Nat} {M M' : Mem} {v : Option Value} {k : Int32} (hS : SQ M) (H : Ev none e 178 2 [some (.ref 633), some (.int k)] [] M v M' 0 0) : ((zI M 633 20) ≤ k ∧ v = some (.int 0) ∧ M' = M) ∨ (¬ ((zI M 633 20) ≤ k) ∧ (rI M 648 k) = 23 ∧ v = some (.int 1) ∧ M' = M) ∨ (¬ ((zI M 633 20) ≤ k) ∧ ¬ ((rI M 648 k) = 23) ∧ Ev none e 178 2 [some (.ref 633), some (.int (k + 1))] [] M v M' 0 0) := by
  have H : Ev none e 178 4 [some (.ref 633), some (.int k)] [.ref 633, .int k] M v M' 0 0 := Ev.back 2 (fun n => rfl) H
  have H : Ev none e 178 7 [some (.ref 633), some (.int k)] [.int (zI M 633 20), .int k] M v M' 0 0 := Ev.back 1 (gs_3 rfl rfl (gf_i hS.1 qa_633 qi_61_20 rfl)) H
  have H : Ev none e 178 (if (zI M 633 20) ≤ k then 29 else 10) [some (.ref 633), some (.int k)] [] M v M' 0 0 := Ev.back 1 (fun n => rfl) H
  by_cases h1 : (zI M 633 20) ≤ k
  · rw [if_pos h1] at H
    have H : Ev none e 178 30 [some (.ref 633), some (.int k)] [.int 0] M v M' 0 0 := Ev.back 1 (fun n => rfl) H
    obtain ⟨z1, z2⟩ := Ev.retz rfl rfl H
    exact Or.inl ⟨h1, z1, z2⟩
  · rw [if_neg h1] at H
    have H : Ev none e 178 11 [some (.ref 633), some (.int k)] [.ref 633] M v M' 0 0 := Ev.back 1 (fun n => rfl) H
    have H : Ev none e 178 14 [some (.ref 633), some (.int k)] [.ref 648] M v M' 0 0 := Ev.back 1 (gs_3 rfl rfl (gf_u hS.1 qa_633 qr_61_18 qu_76 rfl)) H
    have H : Ev none e 178 15 [some (.ref 633), some (.int k)] [.int k, .ref 648] M v M' 0 0 := Ev.back 1 (fun n => rfl) H
    obtain ⟨b2, H⟩ := Ev.ial rfl rfl hS.1 qa_648 qw_76 H
    have H : Ev none e 178 16 [some (.ref 633), some (.int k)] [.int (rI M 648 k)] M v M' 0 0 := H
    have H : Ev none e 178 (if (rI M 648 k) = 23 then 21 else 23) [some (.ref 633), some (.int k)] [] M v M' 0 0 := Ev.back 2 (fun n => rfl) H
    by_cases h3 : (rI M 648 k) = 23
    · rw [if_pos h3] at H
      have H : Ev none e 178 22 [some (.ref 633), some (.int k)] [.int 1] M v M' 0 0 := Ev.back 1 (fun n => rfl) H
      obtain ⟨z1, z2⟩ := Ev.retz rfl rfl H
      exact Or.inr (Or.inl ⟨h1, h3, z1, z2⟩)
    · rw [if_neg h3] at H
      have H : Ev none e 178 2 [some (.ref 633), some (.int (k + 1))] [] M v M' 0 0 := Ev.back 2 (fun n => rfl) H
      have HF := H
      exact Or.inr (Or.inr (⟨h1, h3, HF⟩))
theorem oe_0 {e : Nat} {M M' : Mem} {v : Option Value} {c1 c2 c3 : Option Value} (hS : SQ M) (H : Ev none e 180 0 [some (.ref 633), c1, c2, c3] [] M v M' 0 0) : ((G_164 M 7237492) = 0 ∧ 0 ≤ (G_173 M) ∧ (zI M 633 21) = 40 ∧ (∃ e1 v1 M1, e = e1 + 1 ∧ Ev none e1 163 0 [some (.ref 633), some (.int 4)] [] M v1 M1 0 0 ∧ Ev none e 180 59 [some (.ref 633), some (.int (G_164 M 7237492)), some (.int (G_173 M)), c3] (v1.toList ++ []) M1 v M' 0 0)) ∨ ((G_164 M 7237492) = 0 ∧ 0 ≤ (G_173 M) ∧ ¬ ((zI M 633 21) = 40) ∧ (∃ e1 v1 M1, e = e1 + 1 ∧ Ev none e1 177 0 [some (.ref 633), none, none] [] M v1 M1 0 0 ∧ Ev none e 180 49 [some (.ref 633), some (.int (G_164 M 7237492)), some (.int (G_173 M)), c3] (v1.toList ++ []) M1 v M' 0 0)) ∨ ((G_164 M 7237492) = 0 ∧ ¬ (0 ≤ (G_173 M)) ∧ (G_165 M 40) = 0 ∧ (∃ e1 v1 M1, e = e1 + 1 ∧ Ev none e1 163 0 [some (.ref 633), some (.int 1)] [] M v1 M1 0 0 ∧ Ev none e 180 35 [some (.ref 633), some (.int (G_164 M 7237492)), some (.int (G_173 M)), c3] (v1.toList ++ []) M1 v M' 0 0)) ∨ ((G_164 M 7237492) = 0 ∧ ¬ (0 ≤ (G_173 M)) ∧ ¬ ((G_165 M 40) = 0) ∧ (zI M 633 21) = 40 ∧ (∃ e1 v1 M1, e = e1 + 1 ∧ Ev none e1 163 0 [some (.ref 633), some (.int 4)] [] M v1 M1 0 0 ∧ Ev none e 180 59 [some (.ref 633), some (.int (G_164 M 7237492)), some (.int (G_173 M)), c3] (v1.toList ++ []) M1 v M' 0 0)) ∨ ((G_164 M 7237492) = 0 ∧ ¬ (0 ≤ (G_173 M)) ∧ ¬ ((G_165 M 40) = 0) ∧ ¬ ((zI M 633 21) = 40) ∧ (∃ e1 v1 M1, e = e1 + 1 ∧ Ev none e1 177 0 [some (.ref 633), none, none] [] M v1 M1 0 0 ∧ Ev none e 180 49 [some (.ref 633), some (.int (G_164 M 7237492)), some (.int (G_173 M)), c3] (v1.toList ++ []) M1 v M' 0 0)) ∨ (¬ ((G_164 M 7237492) = 0) ∧ (zI M 633 21) = 40 ∧ (∃ e1 v1 M1, e = e1 + 1 ∧ Ev none e1 163 0 [some (.ref 633), some (.int 4)] [] M v1 M1 0 0 ∧ Ev none e 180 59 [some (.ref 633), some (.int (G_164 M 7237492)), some (.int (G_173 M)), c3] (v1.toList ++ []) M1 v M' 0 0)) ∨ (¬ ((G_164 M 7237492) = 0) ∧ ¬ ((zI M 633 21) = 40) ∧ (∃ e1 v1 M1, e = e1 + 1 ∧ Ev none e1 177 0 [some (.ref 633), none, none] [] M v1 M1 0 0 ∧ Ev none e 180 49 [some (.ref 633), some (.int (G_164 M 7237492)), some (.int (G_173 M)), c3] (v1.toList ++ []) M1 v M' 0 0)) := by
  have H : Ev none e 180 4 [some (.ref 633), c1, c2, c3] [.long 7237492, .ref 633] M v M' 0 0 := Ev.back 2 (fun n => rfl) H
  obtain ⟨e1, rfl⟩ := Ev.dpos rfl rfl H
  obtain ⟨vK1, MK1, K1, H⟩ := Ev.callb (fun n => gs_7 rfl rfl (show gCal (.invokevirtual 248) 11 (.long 7237492 :: .ref 633 :: []) M = some (.inr (164, [some (.ref 633), some (.long 7237492), none], [])) from by show @cond (Option ((List Value × Mem) ⊕ (Nat × Lo × List Value))) (true && gRecv M (.ref 633) 11 && gRoom [] && true) (some (.inr (164, [some (.ref 633), some (.long 7237492), none], []))) none = _; rw [recv_s hS.1 qa_633 qo_61]; rfl)) H
  obtain ⟨pK1, qK1⟩ := g_164 hS K1
  rw [pK1, qK1] at H
  have H : Ev none (e1 + 1) 180 7 [some (.ref 633), c1, c2, c3] [.int (G_164 M 7237492)] M v M' 0 0 := H
  have H : Ev none (e1 + 1) 180 9 [some (.ref 633), some (.int (G_164 M 7237492)), c2, c3] [.ref 633] M v M' 0 0 := Ev.back 2 (fun n => rfl) H
  obtain ⟨vK2, MK2, K2, H⟩ := Ev.callb (fun n => gs_7 rfl rfl (show gCal (.invokevirtual 312) 11 (.ref 633 :: []) M = some (.inr (173, [some (.ref 633)], [])) from by show @cond (Option ((List Value × Mem) ⊕ (Nat × Lo × List Value))) (true && gRecv M (.ref 633) 11 && gRoom [] && true) (some (.inr (173, [some (.ref 633)], []))) none = _; rw [recv_s hS.1 qa_633 qo_61]; rfl)) H
  obtain ⟨pK2, qK2⟩ := g_173 hS K2
  rw [pK2, qK2] at H
  have H : Ev none (e1 + 1) 180 12 [some (.ref 633), some (.int (G_164 M 7237492)), c2, c3] [.int (G_173 M)] M v M' 0 0 := H
  have H : Ev none (e1 + 1) 180 (if (G_164 M 7237492) = 0 then 17 else 36) [some (.ref 633), some (.int (G_164 M 7237492)), some (.int (G_173 M)), c3] [] M v M' 0 0 := Ev.back 3 (fun n => rfl) H
  by_cases h3 : (G_164 M 7237492) = 0
  · rw [if_pos h3] at H
    have H : Ev none (e1 + 1) 180 (if 0 ≤ (G_173 M) then 36 else 21) [some (.ref 633), some (.int (G_164 M 7237492)), some (.int (G_173 M)), c3] [] M v M' 0 0 := Ev.back 2 (fun n => rfl) H
    by_cases h4 : 0 ≤ (G_173 M)
    · rw [if_pos h4] at H
      have H : Ev none (e1 + 1) 180 37 [some (.ref 633), some (.int (G_164 M 7237492)), some (.int (G_173 M)), c3] [.ref 633] M v M' 0 0 := Ev.back 1 (fun n => rfl) H
      have H : Ev none (e1 + 1) 180 40 [some (.ref 633), some (.int (G_164 M 7237492)), some (.int (G_173 M)), c3] [.int (zI M 633 21)] M v M' 0 0 := Ev.back 1 (gs_3 rfl rfl (gf_i hS.1 qa_633 qi_61_21 rfl)) H
      have H : Ev none (e1 + 1) 180 (if (zI M 633 21) = 40 then 54 else 45) [some (.ref 633), some (.int (G_164 M 7237492)), some (.int (G_173 M)), c3] [] M v M' 0 0 := Ev.back 2 (fun n => rfl) H
      by_cases h5 : (zI M 633 21) = 40
      · rw [if_pos h5] at H
        have H : Ev none (e1 + 1) 180 56 [some (.ref 633), some (.int (G_164 M 7237492)), some (.int (G_173 M)), c3] [.int 4, .ref 633] M v M' 0 0 := Ev.back 2 (fun n => rfl) H
        obtain ⟨vK6, MK6, K6, H⟩ := Ev.callb (fun n => gs_7 rfl rfl (show gCal (.invokevirtual 198) 11 (.int 4 :: .ref 633 :: []) M = some (.inr (163, [some (.ref 633), some (.int 4)], [])) from by show @cond (Option ((List Value × Mem) ⊕ (Nat × Lo × List Value))) (true && gRecv M (.ref 633) 11 && gRoom [] && true) (some (.inr (163, [some (.ref 633), some (.int 4)], []))) none = _; rw [recv_s hS.1 qa_633 qo_61]; rfl)) H
        have K6 : Ev none e1 163 0 [some (.ref 633), some (.int 4)] [] M vK6 MK6 0 0 := K6
        have HF := H
        exact Or.inl ⟨h3, h4, h5, ⟨e1, vK6, MK6, rfl, K6, HF⟩⟩
      · rw [if_neg h5] at H
        have H : Ev none (e1 + 1) 180 46 [some (.ref 633), some (.int (G_164 M 7237492)), some (.int (G_173 M)), c3] [.ref 633] M v M' 0 0 := Ev.back 1 (fun n => rfl) H
        obtain ⟨vK7, MK7, K7, H⟩ := Ev.callb (fun n => gs_7 rfl rfl (show gCal (.invokevirtual 318) 11 (.ref 633 :: []) M = some (.inr (177, [some (.ref 633), none, none], [])) from by show @cond (Option ((List Value × Mem) ⊕ (Nat × Lo × List Value))) (true && gRecv M (.ref 633) 11 && gRoom [] && true) (some (.inr (177, [some (.ref 633), none, none], []))) none = _; rw [recv_s hS.1 qa_633 qo_61]; rfl)) H
        have K7 : Ev none e1 177 0 [some (.ref 633), none, none] [] M vK7 MK7 0 0 := K7
        have HF := H
        exact Or.inr (Or.inl ⟨h3, h4, h5, ⟨e1, vK7, MK7, rfl, K7, HF⟩⟩)
    · rw [if_neg h4] at H
      have H : Ev none (e1 + 1) 180 24 [some (.ref 633), some (.int (G_164 M 7237492)), some (.int (G_173 M)), c3] [.int 40, .ref 633] M v M' 0 0 := Ev.back 2 (fun n => rfl) H
      obtain ⟨vK8, MK8, K8, H⟩ := Ev.callb (fun n => gs_7 rfl rfl (show gCal (.invokevirtual 195) 11 (.int 40 :: .ref 633 :: []) M = some (.inr (165, [some (.ref 633), some (.int 40)], [])) from by show @cond (Option ((List Value × Mem) ⊕ (Nat × Lo × List Value))) (true && gRecv M (.ref 633) 11 && gRoom [] && true) (some (.inr (165, [some (.ref 633), some (.int 40)], []))) none = _; rw [recv_s hS.1 qa_633 qo_61]; rfl)) H
      obtain ⟨pK8, qK8⟩ := g_165 hS K8
      rw [pK8, qK8] at H
      have H : Ev none (e1 + 1) 180 27 [some (.ref 633), some (.int (G_164 M 7237492)), some (.int (G_173 M)), c3] [.int (G_165 M 40)] M v M' 0 0 := H
      have H : Ev none (e1 + 1) 180 (if (G_165 M 40) = 0 then 30 else 36) [some (.ref 633), some (.int (G_164 M 7237492)), some (.int (G_173 M)), c3] [] M v M' 0 0 := Ev.back 1 (fun n => rfl) H
      by_cases h9 : (G_165 M 40) = 0
      · rw [if_pos h9] at H
        have H : Ev none (e1 + 1) 180 32 [some (.ref 633), some (.int (G_164 M 7237492)), some (.int (G_173 M)), c3] [.int 1, .ref 633] M v M' 0 0 := Ev.back 2 (fun n => rfl) H
        obtain ⟨vK10, MK10, K10, H⟩ := Ev.callb (fun n => gs_7 rfl rfl (show gCal (.invokevirtual 198) 11 (.int 1 :: .ref 633 :: []) M = some (.inr (163, [some (.ref 633), some (.int 1)], [])) from by show @cond (Option ((List Value × Mem) ⊕ (Nat × Lo × List Value))) (true && gRecv M (.ref 633) 11 && gRoom [] && true) (some (.inr (163, [some (.ref 633), some (.int 1)], []))) none = _; rw [recv_s hS.1 qa_633 qo_61]; rfl)) H
        have K10 : Ev none e1 163 0 [some (.ref 633), some (.int 1)] [] M vK10 MK10 0 0 := K10
        have HF := H
        exact Or.inr (Or.inr (Or.inl ⟨h3, h4, h9, ⟨e1, vK10, MK10, rfl, K10, HF⟩⟩))
      · rw [if_neg h9] at H
        have H : Ev none (e1 + 1) 180 37 [some (.ref 633), some (.int (G_164 M 7237492)), some (.int (G_173 M)), c3] [.ref 633] M v M' 0 0 := Ev.back 1 (fun n => rfl) H
        have H : Ev none (e1 + 1) 180 40 [some (.ref 633), some (.int (G_164 M 7237492)), some (.int (G_173 M)), c3] [.int (zI M 633 21)] M v M' 0 0 := Ev.back 1 (gs_3 rfl rfl (gf_i hS.1 qa_633 qi_61_21 rfl)) H
        have H : Ev none (e1 + 1) 180 (if (zI M 633 21) = 40 then 54 else 45) [some (.ref 633), some (.int (G_164 M 7237492)), some (.int (G_173 M)), c3] [] M v M' 0 0 := Ev.back 2 (fun n => rfl) H
        by_cases h11 : (zI M 633 21) = 40
        · rw [if_pos h11] at H
          have H : Ev none (e1 + 1) 180 56 [some (.ref 633), some (.int (G_164 M 7237492)), some (.int (G_173 M)), c3] [.int 4, .ref 633] M v M' 0 0 := Ev.back 2 (fun n => rfl) H
          obtain ⟨vK12, MK12, K12, H⟩ := Ev.callb (fun n => gs_7 rfl rfl (show gCal (.invokevirtual 198) 11 (.int 4 :: .ref 633 :: []) M = some (.inr (163, [some (.ref 633), some (.int 4)], [])) from by show @cond (Option ((List Value × Mem) ⊕ (Nat × Lo × List Value))) (true && gRecv M (.ref 633) 11 && gRoom [] && true) (some (.inr (163, [some (.ref 633), some (.int 4)], []))) none = _; rw [recv_s hS.1 qa_633 qo_61]; rfl)) H
          have K12 : Ev none e1 163 0 [some (.ref 633), some (.int 4)] [] M vK12 MK12 0 0 := K12
          have HF := H
          exact Or.inr (Or.inr (Or.inr (Or.inl ⟨h3, h4, h9, h11, ⟨e1, vK12, MK12, rfl, K12, HF⟩⟩)))
        · rw [if_neg h11] at H
          have H : Ev none (e1 + 1) 180 46 [some (.ref 633), some (.int (G_164 M 7237492)), some (.int (G_173 M)), c3] [.ref 633] M v M' 0 0 := Ev.back 1 (fun n => rfl) H
          obtain ⟨vK13, MK13, K13, H⟩ := Ev.callb (fun n => gs_7 rfl rfl (show gCal (.invokevirtual 318) 11 (.ref 633 :: []) M = some (.inr (177, [some (.ref 633), none, none], [])) from by show @cond (Option ((List Value × Mem) ⊕ (Nat × Lo × List Value))) (true && gRecv M (.ref 633) 11 && gRoom [] && true) (some (.inr (177, [some (.ref 633), none, none], []))) none = _; rw [recv_s hS.1 qa_633 qo_61]; rfl)) H
          have K13 : Ev none e1 177 0 [some (.ref 633), none, none] [] M vK13 MK13 0 0 := K13
          have HF := H
          exact Or.inr (Or.inr (Or.inr (Or.inr (Or.inl ⟨h3, h4, h9, h11, ⟨e1, vK13, MK13, rfl, K13, HF⟩⟩))))
  · rw [if_neg h3] at H
    have H : Ev none (e1 + 1) 180 37 [some (.ref 633), some (.int (G_164 M 7237492)), some (.int (G_173 M)), c3] [.ref 633] M v M' 0 0 := Ev.back 1 (fun n => rfl) H
    have H : Ev none (e1 + 1) 180 40 [some (.ref 633), some (.int (G_164 M 7237492)), some (.int (G_173 M)), c3] [.int (zI M 633 21)] M v M' 0 0 := Ev.back 1 (gs_3 rfl rfl (gf_i hS.1 qa_633 qi_61_21 rfl)) H
    have H : Ev none (e1 + 1) 180 (if (zI M 633 21) = 40 then 54 else 45) [some (.ref 633), some (.int (G_164 M 7237492)), some (.int (G_173 M)), c3] [] M v M' 0 0 := Ev.back 2 (fun n => rfl) H
    by_cases h14 : (zI M 633 21) = 40
    · rw [if_pos h14] at H
      have H : Ev none (e1 + 1) 180 56 [some (.ref 633), some (.int (G_164 M 7237492)), some (.int (G_173 M)), c3] [.int 4, .ref 633] M v M' 0 0 := Ev.back 2 (fun n => rfl) H
      obtain ⟨vK15, MK15, K15, H⟩ := Ev.callb (fun n => gs_7 rfl rfl (show gCal (.invokevirtual 198) 11 (.int 4 :: .ref 633 :: []) M = some (.inr (163, [some (.ref 633), some (.int 4)], [])) from by show @cond (Option ((List Value × Mem) ⊕ (Nat × Lo × List Value))) (true && gRecv M (.ref 633) 11 && gRoom [] && true) (some (.inr (163, [some (.ref 633), some (.int 4)], []))) none = _; rw [recv_s hS.1 qa_633 qo_61]; rfl)) H
      have K15 : Ev none e1 163 0 [some (.ref 633), some (.int 4)] [] M vK15 MK15 0 0 := K15
      have HF := H
      exact Or.inr (Or.inr (Or.inr (Or.inr (Or.inr (Or.inl ⟨h3, h14, ⟨e1, vK15, MK15, rfl, K15, HF⟩⟩)))))
    · rw [if_neg h14] at H
      have H : Ev none (e1 + 1) 180 46 [some (.ref 633), some (.int (G_164 M 7237492)), some (.int (G_173 M)), c3] [.ref 633] M v M' 0 0 := Ev.back 1 (fun n => rfl) H
      obtain ⟨vK16, MK16, K16, H⟩ := Ev.callb (fun n => gs_7 rfl rfl (show gCal (.invokevirtual 318) 11 (.ref 633 :: []) M = some (.inr (177, [some (.ref 633), none, none], [])) from by show @cond (Option ((List Value × Mem) ⊕ (Nat × Lo × List Value))) (true && gRecv M (.ref 633) 11 && gRoom [] && true) (some (.inr (177, [some (.ref 633), none, none], []))) none = _; rw [recv_s hS.1 qa_633 qo_61]; rfl)) H
      have K16 : Ev none e1 177 0 [some (.ref 633), none, none] [] M vK16 MK16 0 0 := K16
      have HF := H
      exact Or.inr (Or.inr (Or.inr (Or.inr (Or.inr (Or.inr (⟨h3, h14, ⟨e1, vK16, MK16, rfl, K16, HF⟩⟩))))))
theorem oe_35 {e : Nat} {M M' : Mem} {v : Option Value} {nt a y : Int32} {c3 : Option Value} (hS : SQ M) (H : Ev none e 180 35 [some (.ref 633), some (.int nt), some (.int a), c3] [.int y] M v M' 0 0) : v = some (.int y) ∧ M' = M := by
  obtain ⟨z1, z2⟩ := Ev.retz rfl rfl H
  exact ⟨z1, z2⟩
theorem oe_49 {e : Nat} {M M' : Mem} {v : Option Value} {nt a y : Int32} {c3 : Option Value} (hS : SQ M) (H : Ev none e 180 49 [some (.ref 633), some (.int nt), some (.int a), c3] [.int y] M v M' 0 0) : (y = 10 ∧ (∃ e1 v1 M1, e = e1 + 1 ∧ Ev none e1 163 0 [some (.ref 633), some (.int 4)] [] M v1 M1 0 0 ∧ Ev none e 180 59 [some (.ref 633), some (.int nt), some (.int a), c3] (v1.toList ++ []) M1 v M' 0 0)) ∨ (¬ (y = 10) ∧ (∃ e1 v1 M1, e = e1 + 1 ∧ Ev none e1 162 0 [some (.ref 633), none, none, none] [] (wF M 633 21 ((zI M 633 21) + 1)) v1 M1 0 0 ∧ Ev none e 180 74 [some (.ref 633), some (.int nt), some (.int a), c3] (v1.toList ++ []) M1 v M' 0 0)) := by
  have H : Ev none e 180 (if y = 10 then 54 else 60) [some (.ref 633), some (.int nt), some (.int a), c3] [] M v M' 0 0 := Ev.back 2 (fun n => rfl) H
  by_cases h1 : y = 10
  · rw [if_pos h1] at H
    have H : Ev none e 180 56 [some (.ref 633), some (.int nt), some (.int a), c3] [.int 4, .ref 633] M v M' 0 0 := Ev.back 2 (fun n => rfl) H
    obtain ⟨e1, rfl⟩ := Ev.dpos rfl rfl H
    obtain ⟨vK2, MK2, K2, H⟩ := Ev.callb (fun n => gs_7 rfl rfl (show gCal (.invokevirtual 198) 11 (.int 4 :: .ref 633 :: []) M = some (.inr (163, [some (.ref 633), some (.int 4)], [])) from by show @cond (Option ((List Value × Mem) ⊕ (Nat × Lo × List Value))) (true && gRecv M (.ref 633) 11 && gRoom [] && true) (some (.inr (163, [some (.ref 633), some (.int 4)], []))) none = _; rw [recv_s hS.1 qa_633 qo_61]; rfl)) H
    have K2 : Ev none e1 163 0 [some (.ref 633), some (.int 4)] [] M vK2 MK2 0 0 := K2
    have HF := H
    exact Or.inl ⟨h1, ⟨e1, vK2, MK2, rfl, K2, HF⟩⟩
  · rw [if_neg h1] at H
    have H : Ev none e 180 62 [some (.ref 633), some (.int nt), some (.int a), c3] [.ref 633, .ref 633] M v M' 0 0 := Ev.back 2 (fun n => rfl) H
    have H : Ev none e 180 65 [some (.ref 633), some (.int nt), some (.int a), c3] [.int (zI M 633 21), .ref 633] M v M' 0 0 := Ev.back 1 (gs_3 rfl rfl (gf_i hS.1 qa_633 qi_61_21 rfl)) H
    have H : Ev none e 180 67 [some (.ref 633), some (.int nt), some (.int a), c3] [.int ((zI M 633 21) + 1), .ref 633] M v M' 0 0 := Ev.back 2 (fun n => rfl) H
    obtain ⟨N4, eN4⟩ : ∃ N, N = (wF M 633 21 ((zI M 633 21) + 1)) := ⟨_, rfl⟩
    have hN4 : SQ N4 := by rw [eN4]; exact hS.kf
    have H : Ev none e 180 70 [some (.ref 633), some (.int nt), some (.int a), c3] [] N4 v M' 0 0 := by rw [eN4]; exact Ev.pfi rfl rfl rfl hS.1 qa_633 qi_61_21 H
    have H : Ev none e 180 71 [some (.ref 633), some (.int nt), some (.int a), c3] [.ref 633] N4 v M' 0 0 := Ev.back 1 (fun n => rfl) H
    obtain ⟨e1, rfl⟩ := Ev.dpos rfl rfl H
    obtain ⟨vK5, MK5, K5, H⟩ := Ev.callb (fun n => gs_7 rfl rfl (show gCal (.invokevirtual 201) 11 (.ref 633 :: []) N4 = some (.inr (162, [some (.ref 633), none, none, none], [])) from by show @cond (Option ((List Value × Mem) ⊕ (Nat × Lo × List Value))) (true && gRecv N4 (.ref 633) 11 && gRoom [] && true) (some (.inr (162, [some (.ref 633), none, none, none], []))) none = _; rw [recv_s hN4.1 qa_633 qo_61]; rfl)) H
    have K5 : Ev none e1 162 0 [some (.ref 633), none, none, none] [] N4 vK5 MK5 0 0 := K5
    have HF := H
    subst eN4
    exact Or.inr (⟨h1, ⟨e1, vK5, MK5, rfl, K5, HF⟩⟩)
theorem oe_59 {e : Nat} {M M' : Mem} {v : Option Value} {nt a y : Int32} {c3 : Option Value} (hS : SQ M) (H : Ev none e 180 59 [some (.ref 633), some (.int nt), some (.int a), c3] [.int y] M v M' 0 0) : v = some (.int y) ∧ M' = M := by
  obtain ⟨z1, z2⟩ := Ev.retz rfl rfl H
  exact ⟨z1, z2⟩
theorem oe_74 {e : Nat} {M M' : Mem} {v : Option Value} {nt a : Int32} {c3 : Option Value} (hS : SQ M) (H : Ev none e 180 74 [some (.ref 633), some (.int nt), some (.int a), c3] [] M v M' 0 0) : (0 ≤ a ∧ 8 ≤ a ∧ (G_165 M 60) = 0 ∧ (G_165 M 61) = 0 ∧ (G_165 M 62) = 0 ∧ (∃ e1 v1 M1, e = e1 + 1 ∧ Ev none e1 163 0 [some (.ref 633), some (.int 1)] [] M v1 M1 0 0 ∧ Ev none e 180 159 [some (.ref 633), some (.int nt), some (.int a), c3] (v1.toList ++ []) M1 v M' 0 0)) ∨ (0 ≤ a ∧ 8 ≤ a ∧ (G_165 M 60) = 0 ∧ (G_165 M 61) = 0 ∧ ¬ ((G_165 M 62) = 0) ∧ (∃ e1 v1 M1, e = e1 + 1 ∧ Ev none e1 162 0 [some (.ref 633), none, none, none] [] M v1 M1 0 0 ∧ Ev none e 180 169 [some (.ref 633), some (.int nt), some (.int a), some (.int (zI M 633 25))] (v1.toList ++ []) M1 v M' 0 0)) ∨ (0 ≤ a ∧ 8 ≤ a ∧ (G_165 M 60) = 0 ∧ ¬ ((G_165 M 61) = 0) ∧ (∃ e1 v1 M1, e = e1 + 1 ∧ Ev none e1 162 0 [some (.ref 633), none, none, none] [] M v1 M1 0 0 ∧ Ev none e 180 169 [some (.ref 633), some (.int nt), some (.int a), some (.int (zI M 633 25))] (v1.toList ++ []) M1 v M' 0 0)) ∨ (0 ≤ a ∧ 8 ≤ a ∧ ¬ ((G_165 M 60) = 0) ∧ (∃ e1 v1 M1, e = e1 + 1 ∧ Ev none e1 162 0 [some (.ref 633), none, none, none] [] M v1 M1 0 0 ∧ Ev none e 180 169 [some (.ref 633), some (.int nt), some (.int a), some (.int (zI M 633 25))] (v1.toList ++ []) M1 v M' 0 0)) ∨ (0 ≤ a ∧ ¬ (8 ≤ a) ∧ (∃ e1 v1 M1, e = e1 + 1 ∧ Ev none e1 174 0 [some (.ref 633), some (.int a), some (.int 0), some (.int 0)] [] M v1 M1 0 0 ∧ Ev none e 180 124 [some (.ref 633), some (.int nt), some (.int a), c3] (v1.toList ++ []) M1 v M' 0 0)) ∨ (¬ (0 ≤ a) ∧ nt = 0 ∧ (0 ≤ (zI M 633 20).toInt ∧ (zI M 633 20).toInt < 100) ∧ Ev none e 180 0 [some (.ref 633), some (.int nt), some (.int a), c3] [] (wF (wI M 648 ((zI M 633 20).toNatClampNeg) 23) 633 20 ((zI M 633 20) + 1)) v M' 0 0) ∨ (¬ (0 ≤ a) ∧ ¬ (nt = 0) ∧ (0 ≤ (zI M 633 20).toInt ∧ (zI M 633 20).toInt < 100) ∧ Ev none e 180 0 [some (.ref 633), some (.int nt), some (.int a), c3] [] (wF (wI M 648 ((zI M 633 20).toNatClampNeg) 20) 633 20 ((zI M 633 20) + 1)) v M' 0 0) := by
  have H : Ev none e 180 (if 0 ≤ a then 111 else 78) [some (.ref 633), some (.int nt), some (.int a), c3] [] M v M' 0 0 := Ev.back 2 (fun n => rfl) H
  by_cases h1 : 0 ≤ a
  · rw [if_pos h1] at H
    have H : Ev none e 180 (if 8 ≤ a then 127 else 117) [some (.ref 633), some (.int nt), some (.int a), c3] [] M v M' 0 0 := Ev.back 3 (fun n => rfl) H
    by_cases h2 : 8 ≤ a
    · rw [if_pos h2] at H
      have H : Ev none e 180 130 [some (.ref 633), some (.int nt), some (.int a), c3] [.int 60, .ref 633] M v M' 0 0 := Ev.back 2 (fun n => rfl) H
      obtain ⟨e1, rfl⟩ := Ev.dpos rfl rfl H
      obtain ⟨vK3, MK3, K3, H⟩ := Ev.callb (fun n => gs_7 rfl rfl (show gCal (.invokevirtual 195) 11 (.int 60 :: .ref 633 :: []) M = some (.inr (165, [some (.ref 633), some (.int 60)], [])) from by show @cond (Option ((List Value × Mem) ⊕ (Nat × Lo × List Value))) (true && gRecv M (.ref 633) 11 && gRoom [] && true) (some (.inr (165, [some (.ref 633), some (.int 60)], []))) none = _; rw [recv_s hS.1 qa_633 qo_61]; rfl)) H
      obtain ⟨pK3, qK3⟩ := g_165 hS K3
      rw [pK3, qK3] at H
      have H : Ev none (e1 + 1) 180 133 [some (.ref 633), some (.int nt), some (.int a), c3] [.int (G_165 M 60)] M v M' 0 0 := H
      have H : Ev none (e1 + 1) 180 (if (G_165 M 60) = 0 then 136 else 160) [some (.ref 633), some (.int nt), some (.int a), c3] [] M v M' 0 0 := Ev.back 1 (fun n => rfl) H
      by_cases h4 : (G_165 M 60) = 0
      · rw [if_pos h4] at H
        have H : Ev none (e1 + 1) 180 139 [some (.ref 633), some (.int nt), some (.int a), c3] [.int 61, .ref 633] M v M' 0 0 := Ev.back 2 (fun n => rfl) H
        obtain ⟨vK5, MK5, K5, H⟩ := Ev.callb (fun n => gs_7 rfl rfl (show gCal (.invokevirtual 195) 11 (.int 61 :: .ref 633 :: []) M = some (.inr (165, [some (.ref 633), some (.int 61)], [])) from by show @cond (Option ((List Value × Mem) ⊕ (Nat × Lo × List Value))) (true && gRecv M (.ref 633) 11 && gRoom [] && true) (some (.inr (165, [some (.ref 633), some (.int 61)], []))) none = _; rw [recv_s hS.1 qa_633 qo_61]; rfl)) H
        obtain ⟨pK5, qK5⟩ := g_165 hS K5
        rw [pK5, qK5] at H
        have H : Ev none (e1 + 1) 180 142 [some (.ref 633), some (.int nt), some (.int a), c3] [.int (G_165 M 61)] M v M' 0 0 := H
        have H : Ev none (e1 + 1) 180 (if (G_165 M 61) = 0 then 145 else 160) [some (.ref 633), some (.int nt), some (.int a), c3] [] M v M' 0 0 := Ev.back 1 (fun n => rfl) H
        by_cases h6 : (G_165 M 61) = 0
        · rw [if_pos h6] at H
          have H : Ev none (e1 + 1) 180 148 [some (.ref 633), some (.int nt), some (.int a), c3] [.int 62, .ref 633] M v M' 0 0 := Ev.back 2 (fun n => rfl) H
          obtain ⟨vK7, MK7, K7, H⟩ := Ev.callb (fun n => gs_7 rfl rfl (show gCal (.invokevirtual 195) 11 (.int 62 :: .ref 633 :: []) M = some (.inr (165, [some (.ref 633), some (.int 62)], [])) from by show @cond (Option ((List Value × Mem) ⊕ (Nat × Lo × List Value))) (true && gRecv M (.ref 633) 11 && gRoom [] && true) (some (.inr (165, [some (.ref 633), some (.int 62)], []))) none = _; rw [recv_s hS.1 qa_633 qo_61]; rfl)) H
          obtain ⟨pK7, qK7⟩ := g_165 hS K7
          rw [pK7, qK7] at H
          have H : Ev none (e1 + 1) 180 151 [some (.ref 633), some (.int nt), some (.int a), c3] [.int (G_165 M 62)] M v M' 0 0 := H
          have H : Ev none (e1 + 1) 180 (if (G_165 M 62) = 0 then 154 else 160) [some (.ref 633), some (.int nt), some (.int a), c3] [] M v M' 0 0 := Ev.back 1 (fun n => rfl) H
          by_cases h8 : (G_165 M 62) = 0
          · rw [if_pos h8] at H
            have H : Ev none (e1 + 1) 180 156 [some (.ref 633), some (.int nt), some (.int a), c3] [.int 1, .ref 633] M v M' 0 0 := Ev.back 2 (fun n => rfl) H
            obtain ⟨vK9, MK9, K9, H⟩ := Ev.callb (fun n => gs_7 rfl rfl (show gCal (.invokevirtual 198) 11 (.int 1 :: .ref 633 :: []) M = some (.inr (163, [some (.ref 633), some (.int 1)], [])) from by show @cond (Option ((List Value × Mem) ⊕ (Nat × Lo × List Value))) (true && gRecv M (.ref 633) 11 && gRoom [] && true) (some (.inr (163, [some (.ref 633), some (.int 1)], []))) none = _; rw [recv_s hS.1 qa_633 qo_61]; rfl)) H
            have K9 : Ev none e1 163 0 [some (.ref 633), some (.int 1)] [] M vK9 MK9 0 0 := K9
            have HF := H
            exact Or.inl ⟨h1, h2, h4, h6, h8, ⟨e1, vK9, MK9, rfl, K9, HF⟩⟩
          · rw [if_neg h8] at H
            have H : Ev none (e1 + 1) 180 161 [some (.ref 633), some (.int nt), some (.int a), c3] [.ref 633] M v M' 0 0 := Ev.back 1 (fun n => rfl) H
            have H : Ev none (e1 + 1) 180 164 [some (.ref 633), some (.int nt), some (.int a), c3] [.int (zI M 633 25)] M v M' 0 0 := Ev.back 1 (gs_3 rfl rfl (gf_i hS.1 qa_633 qi_61_25 rfl)) H
            have H : Ev none (e1 + 1) 180 166 [some (.ref 633), some (.int nt), some (.int a), some (.int (zI M 633 25))] [.ref 633] M v M' 0 0 := Ev.back 2 (fun n => rfl) H
            obtain ⟨vK10, MK10, K10, H⟩ := Ev.callb (fun n => gs_7 rfl rfl (show gCal (.invokevirtual 201) 11 (.ref 633 :: []) M = some (.inr (162, [some (.ref 633), none, none, none], [])) from by show @cond (Option ((List Value × Mem) ⊕ (Nat × Lo × List Value))) (true && gRecv M (.ref 633) 11 && gRoom [] && true) (some (.inr (162, [some (.ref 633), none, none, none], []))) none = _; rw [recv_s hS.1 qa_633 qo_61]; rfl)) H
            have K10 : Ev none e1 162 0 [some (.ref 633), none, none, none] [] M vK10 MK10 0 0 := K10
            have HF := H
            exact Or.inr (Or.inl ⟨h1, h2, h4, h6, h8, ⟨e1, vK10, MK10, rfl, K10, HF⟩⟩)
        · rw [if_neg h6] at H
          have H : Ev none (e1 + 1) 180 161 [some (.ref 633), some (.int nt), some (.int a), c3] [.ref 633] M v M' 0 0 := Ev.back 1 (fun n => rfl) H
          have H : Ev none (e1 + 1) 180 164 [some (.ref 633), some (.int nt), some (.int a), c3] [.int (zI M 633 25)] M v M' 0 0 := Ev.back 1 (gs_3 rfl rfl (gf_i hS.1 qa_633 qi_61_25 rfl)) H
          have H : Ev none (e1 + 1) 180 166 [some (.ref 633), some (.int nt), some (.int a), some (.int (zI M 633 25))] [.ref 633] M v M' 0 0 := Ev.back 2 (fun n => rfl) H
          obtain ⟨vK11, MK11, K11, H⟩ := Ev.callb (fun n => gs_7 rfl rfl (show gCal (.invokevirtual 201) 11 (.ref 633 :: []) M = some (.inr (162, [some (.ref 633), none, none, none], [])) from by show @cond (Option ((List Value × Mem) ⊕ (Nat × Lo × List Value))) (true && gRecv M (.ref 633) 11 && gRoom [] && true) (some (.inr (162, [some (.ref 633), none, none, none], []))) none = _; rw [recv_s hS.1 qa_633 qo_61]; rfl)) H
          have K11 : Ev none e1 162 0 [some (.ref 633), none, none, none] [] M vK11 MK11 0 0 := K11
          have HF := H
          exact Or.inr (Or.inr (Or.inl ⟨h1, h2, h4, h6, ⟨e1, vK11, MK11, rfl, K11, HF⟩⟩))
      · rw [if_neg h4] at H
        have H : Ev none (e1 + 1) 180 161 [some (.ref 633), some (.int nt), some (.int a), c3] [.ref 633] M v M' 0 0 := Ev.back 1 (fun n => rfl) H
        have H : Ev none (e1 + 1) 180 164 [some (.ref 633), some (.int nt), some (.int a), c3] [.int (zI M 633 25)] M v M' 0 0 := Ev.back 1 (gs_3 rfl rfl (gf_i hS.1 qa_633 qi_61_25 rfl)) H
        have H : Ev none (e1 + 1) 180 166 [some (.ref 633), some (.int nt), some (.int a), some (.int (zI M 633 25))] [.ref 633] M v M' 0 0 := Ev.back 2 (fun n => rfl) H
        obtain ⟨vK12, MK12, K12, H⟩ := Ev.callb (fun n => gs_7 rfl rfl (show gCal (.invokevirtual 201) 11 (.ref 633 :: []) M = some (.inr (162, [some (.ref 633), none, none, none], [])) from by show @cond (Option ((List Value × Mem) ⊕ (Nat × Lo × List Value))) (true && gRecv M (.ref 633) 11 && gRoom [] && true) (some (.inr (162, [some (.ref 633), none, none, none], []))) none = _; rw [recv_s hS.1 qa_633 qo_61]; rfl)) H
        have K12 : Ev none e1 162 0 [some (.ref 633), none, none, none] [] M vK12 MK12 0 0 := K12
        have HF := H
        exact Or.inr (Or.inr (Or.inr (Or.inl ⟨h1, h2, h4, ⟨e1, vK12, MK12, rfl, K12, HF⟩⟩)))
    · rw [if_neg h2] at H
      have H : Ev none e 180 121 [some (.ref 633), some (.int nt), some (.int a), c3] [.int 0, .int 0, .int a, .ref 633] M v M' 0 0 := Ev.back 4 (fun n => rfl) H
      obtain ⟨e1, rfl⟩ := Ev.dpos rfl rfl H
      obtain ⟨vK13, MK13, K13, H⟩ := Ev.callb (fun n => gs_7 rfl rfl (show gCal (.invokevirtual 294) 11 (.int 0 :: .int 0 :: .int a :: .ref 633 :: []) M = some (.inr (174, [some (.ref 633), some (.int a), some (.int 0), some (.int 0)], [])) from by show @cond (Option ((List Value × Mem) ⊕ (Nat × Lo × List Value))) (true && gRecv M (.ref 633) 11 && gRoom [] && true) (some (.inr (174, [some (.ref 633), some (.int a), some (.int 0), some (.int 0)], []))) none = _; rw [recv_s hS.1 qa_633 qo_61]; rfl)) H
      have K13 : Ev none e1 174 0 [some (.ref 633), some (.int a), some (.int 0), some (.int 0)] [] M vK13 MK13 0 0 := K13
      have HF := H
      exact Or.inr (Or.inr (Or.inr (Or.inr (Or.inl ⟨h1, h2, ⟨e1, vK13, MK13, rfl, K13, HF⟩⟩))))
  · rw [if_neg h1] at H
    have H : Ev none e 180 79 [some (.ref 633), some (.int nt), some (.int a), c3] [.ref 633] M v M' 0 0 := Ev.back 1 (fun n => rfl) H
    have H : Ev none e 180 82 [some (.ref 633), some (.int nt), some (.int a), c3] [.ref 648] M v M' 0 0 := Ev.back 1 (gs_3 rfl rfl (gf_u hS.1 qa_633 qr_61_18 qu_76 rfl)) H
    have H : Ev none e 180 83 [some (.ref 633), some (.int nt), some (.int a), c3] [.ref 633, .ref 648] M v M' 0 0 := Ev.back 1 (fun n => rfl) H
    have H : Ev none e 180 86 [some (.ref 633), some (.int nt), some (.int a), c3] [.int (zI M 633 20), .ref 648] M v M' 0 0 := Ev.back 1 (gs_3 rfl rfl (gf_i hS.1 qa_633 qi_61_20 rfl)) H
    have H : Ev none e 180 (if nt = 0 then 95 else 90) [some (.ref 633), some (.int nt), some (.int a), c3] [.int (zI M 633 20), .ref 648] M v M' 0 0 := Ev.back 2 (fun n => rfl) H
    by_cases h14 : nt = 0
    · rw [if_pos h14] at H
      have H : Ev none e 180 97 [some (.ref 633), some (.int nt), some (.int a), c3] [.int 23, .int (zI M 633 20), .ref 648] M v M' 0 0 := Ev.back 1 (fun n => rfl) H
      obtain ⟨b15, H⟩ := Ev.ias rfl rfl hS.1 qa_648 qw_76 H
      obtain ⟨N16, eN16⟩ : ∃ N, N = (wI M 648 ((zI M 633 20).toNatClampNeg) 23) := ⟨_, rfl⟩
      have hN16 : SQ N16 := by rw [eN16]; exact hS.ki
      have H : Ev none e 180 98 [some (.ref 633), some (.int nt), some (.int a), c3] [] N16 v M' 0 0 := by rw [eN16]; exact H
      have H : Ev none e 180 100 [some (.ref 633), some (.int nt), some (.int a), c3] [.ref 633, .ref 633] N16 v M' 0 0 := Ev.back 2 (fun n => rfl) H
      have H : Ev none e 180 103 [some (.ref 633), some (.int nt), some (.int a), c3] [.int (zI N16 633 20), .ref 633] N16 v M' 0 0 := Ev.back 1 (gs_3 rfl rfl (gf_i hN16.1 qa_633 qi_61_20 rfl)) H
      rw [show zI N16 633 20 = zI M 633 20 from by rw [eN16]; exact fI_wI] at H
      have H : Ev none e 180 105 [some (.ref 633), some (.int nt), some (.int a), c3] [.int ((zI M 633 20) + 1), .ref 633] N16 v M' 0 0 := Ev.back 2 (fun n => rfl) H
      obtain ⟨N18, eN18⟩ : ∃ N, N = (wF N16 633 20 ((zI M 633 20) + 1)) := ⟨_, rfl⟩
      have hN18 : SQ N18 := by rw [eN18]; exact hN16.kf
      have H : Ev none e 180 108 [some (.ref 633), some (.int nt), some (.int a), c3] [] N18 v M' 0 0 := by rw [eN18]; exact Ev.pfi rfl rfl rfl hN16.1 qa_633 qi_61_20 H
      have H : Ev none e 180 0 [some (.ref 633), some (.int nt), some (.int a), c3] [] N18 v M' 0 0 := Ev.back 1 (fun n => rfl) H
      have HF := H
      subst eN16 eN18
      exact Or.inr (Or.inr (Or.inr (Or.inr (Or.inr (Or.inl ⟨h1, h14, b15, HF⟩)))))
    · rw [if_neg h14] at H
      have H : Ev none e 180 97 [some (.ref 633), some (.int nt), some (.int a), c3] [.int 20, .int (zI M 633 20), .ref 648] M v M' 0 0 := Ev.back 2 (fun n => rfl) H
      obtain ⟨b19, H⟩ := Ev.ias rfl rfl hS.1 qa_648 qw_76 H
      obtain ⟨N20, eN20⟩ : ∃ N, N = (wI M 648 ((zI M 633 20).toNatClampNeg) 20) := ⟨_, rfl⟩
      have hN20 : SQ N20 := by rw [eN20]; exact hS.ki
      have H : Ev none e 180 98 [some (.ref 633), some (.int nt), some (.int a), c3] [] N20 v M' 0 0 := by rw [eN20]; exact H
      have H : Ev none e 180 100 [some (.ref 633), some (.int nt), some (.int a), c3] [.ref 633, .ref 633] N20 v M' 0 0 := Ev.back 2 (fun n => rfl) H
      have H : Ev none e 180 103 [some (.ref 633), some (.int nt), some (.int a), c3] [.int (zI N20 633 20), .ref 633] N20 v M' 0 0 := Ev.back 1 (gs_3 rfl rfl (gf_i hN20.1 qa_633 qi_61_20 rfl)) H
      rw [show zI N20 633 20 = zI M 633 20 from by rw [eN20]; exact fI_wI] at H
      have H : Ev none e 180 105 [some (.ref 633), some (.int nt), some (.int a), c3] [.int ((zI M 633 20) + 1), .ref 633] N20 v M' 0 0 := Ev.back 2 (fun n => rfl) H
      obtain ⟨N22, eN22⟩ : ∃ N, N = (wF N20 633 20 ((zI M 633 20) + 1)) := ⟨_, rfl⟩
      have hN22 : SQ N22 := by rw [eN22]; exact hN20.kf
      have H : Ev none e 180 108 [some (.ref 633), some (.int nt), some (.int a), c3] [] N22 v M' 0 0 := by rw [eN22]; exact Ev.pfi rfl rfl rfl hN20.1 qa_633 qi_61_20 H
      have H : Ev none e 180 0 [some (.ref 633), some (.int nt), some (.int a), c3] [] N22 v M' 0 0 := Ev.back 1 (fun n => rfl) H
      have HF := H
      subst eN20 eN22
      exact Or.inr (Or.inr (Or.inr (Or.inr (Or.inr (Or.inr (⟨h1, h14, b19, HF⟩))))))
theorem oe_124 {e : Nat} {M M' : Mem} {v : Option Value} {nt a : Int32} {c3 : Option Value} (hS : SQ M) (H : Ev none e 180 124 [some (.ref 633), some (.int nt), some (.int a), c3] [] M v M' 0 0) : (∃ e1 v1 M1, e = e1 + 1 ∧ Ev none e1 175 0 [some (.ref 633), some (.int 3)] [] M v1 M1 0 0 ∧ Ev none e 180 202 [some (.ref 633), some (.int nt), some (.int a), c3] (v1.toList ++ []) M1 v M' 0 0) := by
  have H : Ev none e 180 199 [some (.ref 633), some (.int nt), some (.int a), c3] [.int 3, .ref 633] M v M' 0 0 := Ev.back 3 (fun n => rfl) H
  obtain ⟨e1, rfl⟩ := Ev.dpos rfl rfl H
  obtain ⟨vK1, MK1, K1, H⟩ := Ev.callb (fun n => gs_7 rfl rfl (show gCal (.invokevirtual 303) 11 (.int 3 :: .ref 633 :: []) M = some (.inr (175, [some (.ref 633), some (.int 3)], [])) from by show @cond (Option ((List Value × Mem) ⊕ (Nat × Lo × List Value))) (true && gRecv M (.ref 633) 11 && gRoom [] && true) (some (.inr (175, [some (.ref 633), some (.int 3)], []))) none = _; rw [recv_s hS.1 qa_633 qo_61]; rfl)) H
  have K1 : Ev none e1 175 0 [some (.ref 633), some (.int 3)] [] M vK1 MK1 0 0 := K1
  have HF := H
  exact ⟨e1, vK1, MK1, rfl, K1, HF⟩
theorem oe_193 {e : Nat} {M M' : Mem} {v : Option Value} {nt a sg : Int32} (hS : SQ M) (H : Ev none e 180 193 [some (.ref 633), some (.int nt), some (.int a), some (.int sg)] [] M v M' 0 0) : (∃ e1 v1 M1, e = e1 + 1 ∧ Ev none e1 162 0 [some (.ref 633), none, none, none] [] M v1 M1 0 0 ∧ Ev none e 180 197 [some (.ref 633), some (.int nt), some (.int a), some (.int sg)] (v1.toList ++ []) M1 v M' 0 0) := by
  have H : Ev none e 180 194 [some (.ref 633), some (.int nt), some (.int a), some (.int sg)] [.ref 633] M v M' 0 0 := Ev.back 1 (fun n => rfl) H
  obtain ⟨e1, rfl⟩ := Ev.dpos rfl rfl H
  obtain ⟨vK1, MK1, K1, H⟩ := Ev.callb (fun n => gs_7 rfl rfl (show gCal (.invokevirtual 201) 11 (.ref 633 :: []) M = some (.inr (162, [some (.ref 633), none, none, none], [])) from by show @cond (Option ((List Value × Mem) ⊕ (Nat × Lo × List Value))) (true && gRecv M (.ref 633) 11 && gRoom [] && true) (some (.inr (162, [some (.ref 633), none, none, none], []))) none = _; rw [recv_s hS.1 qa_633 qo_61]; rfl)) H
  have K1 : Ev none e1 162 0 [some (.ref 633), none, none, none] [] M vK1 MK1 0 0 := K1
  have HF := H
  exact ⟨e1, vK1, MK1, rfl, K1, HF⟩
theorem oe_159 {e : Nat} {M M' : Mem} {v : Option Value} {nt a y : Int32} {c3 : Option Value} (hS : SQ M) (H : Ev none e 180 159 [some (.ref 633), some (.int nt), some (.int a), c3] [.int y] M v M' 0 0) : v = some (.int y) ∧ M' = M := by
  obtain ⟨z1, z2⟩ := Ev.retz rfl rfl H
  exact ⟨z1, z2⟩
theorem oe_169 {e : Nat} {M M' : Mem} {v : Option Value} {nt a sg : Int32} (hS : SQ M) (H : Ev none e 180 169 [some (.ref 633), some (.int nt), some (.int a), some (.int sg)] [] M v M' 0 0) : ((zI M 633 22) = 2 ∧ (∃ e1 v1 M1, e = e1 + 1 ∧ Ev none e1 174 0 [some (.ref 633), some (.int a), some (.int sg), some (.int (zI M 633 25))] [] M v1 M1 0 0 ∧ Ev none e 180 193 [some (.ref 633), some (.int nt), some (.int a), some (.int sg)] (v1.toList ++ []) M1 v M' 0 0)) ∨ (¬ ((zI M 633 22) = 2) ∧ (∃ e1 v1 M1, e = e1 + 1 ∧ Ev none e1 163 0 [some (.ref 633), some (.int 1)] [] M v1 M1 0 0 ∧ Ev none e 180 182 [some (.ref 633), some (.int nt), some (.int a), some (.int sg)] (v1.toList ++ []) M1 v M' 0 0)) := by
  have H : Ev none e 180 170 [some (.ref 633), some (.int nt), some (.int a), some (.int sg)] [.ref 633] M v M' 0 0 := Ev.back 1 (fun n => rfl) H
  have H : Ev none e 180 173 [some (.ref 633), some (.int nt), some (.int a), some (.int sg)] [.int (zI M 633 22)] M v M' 0 0 := Ev.back 1 (gs_3 rfl rfl (gf_i hS.1 qa_633 qi_61_22 rfl)) H
  have H : Ev none e 180 (if (zI M 633 22) = 2 then 183 else 177) [some (.ref 633), some (.int nt), some (.int a), some (.int sg)] [] M v M' 0 0 := Ev.back 2 (fun n => rfl) H
  by_cases h1 : (zI M 633 22) = 2
  · rw [if_pos h1] at H
    have H : Ev none e 180 187 [some (.ref 633), some (.int nt), some (.int a), some (.int sg)] [.ref 633, .int sg, .int a, .ref 633] M v M' 0 0 := Ev.back 4 (fun n => rfl) H
    have H : Ev none e 180 190 [some (.ref 633), some (.int nt), some (.int a), some (.int sg)] [.int (zI M 633 25), .int sg, .int a, .ref 633] M v M' 0 0 := Ev.back 1 (gs_3 rfl rfl (gf_i hS.1 qa_633 qi_61_25 rfl)) H
    obtain ⟨e1, rfl⟩ := Ev.dpos rfl rfl H
    obtain ⟨vK2, MK2, K2, H⟩ := Ev.callb (fun n => gs_7 rfl rfl (show gCal (.invokevirtual 294) 11 (.int (zI M 633 25) :: .int sg :: .int a :: .ref 633 :: []) M = some (.inr (174, [some (.ref 633), some (.int a), some (.int sg), some (.int (zI M 633 25))], [])) from by show @cond (Option ((List Value × Mem) ⊕ (Nat × Lo × List Value))) (true && gRecv M (.ref 633) 11 && gRoom [] && true) (some (.inr (174, [some (.ref 633), some (.int a), some (.int sg), some (.int (zI M 633 25))], []))) none = _; rw [recv_s hS.1 qa_633 qo_61]; rfl)) H
    have K2 : Ev none e1 174 0 [some (.ref 633), some (.int a), some (.int sg), some (.int (zI M 633 25))] [] M vK2 MK2 0 0 := K2
    have HF := H
    exact Or.inl ⟨h1, ⟨e1, vK2, MK2, rfl, K2, HF⟩⟩
  · rw [if_neg h1] at H
    have H : Ev none e 180 179 [some (.ref 633), some (.int nt), some (.int a), some (.int sg)] [.int 1, .ref 633] M v M' 0 0 := Ev.back 2 (fun n => rfl) H
    obtain ⟨e1, rfl⟩ := Ev.dpos rfl rfl H
    obtain ⟨vK3, MK3, K3, H⟩ := Ev.callb (fun n => gs_7 rfl rfl (show gCal (.invokevirtual 198) 11 (.int 1 :: .ref 633 :: []) M = some (.inr (163, [some (.ref 633), some (.int 1)], [])) from by show @cond (Option ((List Value × Mem) ⊕ (Nat × Lo × List Value))) (true && gRecv M (.ref 633) 11 && gRoom [] && true) (some (.inr (163, [some (.ref 633), some (.int 1)], []))) none = _; rw [recv_s hS.1 qa_633 qo_61]; rfl)) H
    have K3 : Ev none e1 163 0 [some (.ref 633), some (.int 1)] [] M vK3 MK3 0 0 := K3
    have HF := H
    exact Or.inr (⟨h1, ⟨e1, vK3, MK3, rfl, K3, HF⟩⟩)
theorem oe_182 {e : Nat} {M M' : Mem} {v : Option Value} {nt a sg y : Int32} (hS : SQ M) (H : Ev none e 180 182 [some (.ref 633), some (.int nt), some (.int a), some (.int sg)] [.int y] M v M' 0 0) : v = some (.int y) ∧ M' = M := by
  obtain ⟨z1, z2⟩ := Ev.retz rfl rfl H
  exact ⟨z1, z2⟩
theorem oe_197 {e : Nat} {M M' : Mem} {v : Option Value} {nt a : Int32} {c3 : Option Value} (hS : SQ M) (H : Ev none e 180 197 [some (.ref 633), some (.int nt), some (.int a), c3] [] M v M' 0 0) : (∃ e1 v1 M1, e = e1 + 1 ∧ Ev none e1 175 0 [some (.ref 633), some (.int 3)] [] M v1 M1 0 0 ∧ Ev none e 180 202 [some (.ref 633), some (.int nt), some (.int a), c3] (v1.toList ++ []) M1 v M' 0 0) := by
  have H : Ev none e 180 199 [some (.ref 633), some (.int nt), some (.int a), c3] [.int 3, .ref 633] M v M' 0 0 := Ev.back 2 (fun n => rfl) H
  obtain ⟨e1, rfl⟩ := Ev.dpos rfl rfl H
  obtain ⟨vK1, MK1, K1, H⟩ := Ev.callb (fun n => gs_7 rfl rfl (show gCal (.invokevirtual 303) 11 (.int 3 :: .ref 633 :: []) M = some (.inr (175, [some (.ref 633), some (.int 3)], [])) from by show @cond (Option ((List Value × Mem) ⊕ (Nat × Lo × List Value))) (true && gRecv M (.ref 633) 11 && gRoom [] && true) (some (.inr (175, [some (.ref 633), some (.int 3)], []))) none = _; rw [recv_s hS.1 qa_633 qo_61]; rfl)) H
  have K1 : Ev none e1 175 0 [some (.ref 633), some (.int 3)] [] M vK1 MK1 0 0 := K1
  have HF := H
  exact ⟨e1, vK1, MK1, rfl, K1, HF⟩
theorem oe_202 {e : Nat} {M M' : Mem} {v : Option Value} {nt a : Int32} {c3 : Option Value} (hS : SQ M) (H : Ev none e 180 202 [some (.ref 633), some (.int nt), some (.int a), c3] [] M v M' 0 0) : v = some (.int 1) ∧ M' = M := by
  have H : Ev none e 180 203 [some (.ref 633), some (.int nt), some (.int a), c3] [.int 1] M v M' 0 0 := Ev.back 1 (fun n => rfl) H
  obtain ⟨z1, z2⟩ := Ev.retz rfl rfl H
  exact ⟨z1, z2⟩
theorem ceq_0 {e : Nat} {M M' : Mem} {v : Option Value} {c1 : Option Value} (hS : SQ M) (H : Ev none e 179 0 [some (.ref 633), c1] [] M v M' 0 0) : Ev none e 179 5 [some (.ref 633), c1] [] (wF M 633 20 0) v M' 0 0 := by
  have H : Ev none e 179 2 [some (.ref 633), c1] [.int 0, .ref 633] M v M' 0 0 := Ev.back 2 (fun n => rfl) H
  obtain ⟨N2, eN2⟩ : ∃ N, N = (wF M 633 20 0) := ⟨_, rfl⟩
  have hN2 : SQ N2 := by rw [eN2]; exact hS.kf
  have H : Ev none e 179 5 [some (.ref 633), c1] [] N2 v M' 0 0 := by rw [eN2]; exact Ev.pfi rfl rfl rfl hS.1 qa_633 qi_61_20 H
  have HF := H
  subst eN2
  exact HF
theorem ceq_5 {e : Nat} {M M' : Mem} {v : Option Value} {c1 : Option Value} (hS : SQ M) (H : Ev none e 179 5 [some (.ref 633), c1] [] M v M' 0 0) : (∃ e1 v1 M1, e = e1 + 1 ∧ Ev none e1 180 0 [some (.ref 633), none, none, none] [] M v1 M1 0 0 ∧ Ev none e 179 9 [some (.ref 633), c1] (v1.toList ++ []) M1 v M' 0 0) := by
  have H : Ev none e 179 6 [some (.ref 633), c1] [.ref 633] M v M' 0 0 := Ev.back 1 (fun n => rfl) H
  obtain ⟨e1, rfl⟩ := Ev.dpos rfl rfl H
  obtain ⟨vK1, MK1, K1, H⟩ := Ev.callb (fun n => gs_7 rfl rfl (show gCal (.invokevirtual 297) 11 (.ref 633 :: []) M = some (.inr (180, [some (.ref 633), none, none, none], [])) from by show @cond (Option ((List Value × Mem) ⊕ (Nat × Lo × List Value))) (true && gRecv M (.ref 633) 11 && gRoom [] && true) (some (.inr (180, [some (.ref 633), none, none, none], []))) none = _; rw [recv_s hS.1 qa_633 qo_61]; rfl)) H
  have K1 : Ev none e1 180 0 [some (.ref 633), none, none, none] [] M vK1 MK1 0 0 := K1
  have HF := H
  exact ⟨e1, vK1, MK1, rfl, K1, HF⟩
theorem ceq_9 {e : Nat} {M M' : Mem} {v : Option Value} {y : Int32} {c1 : Option Value} (hS : SQ M) (H : Ev none e 179 9 [some (.ref 633), c1] [.int y] M v M' 0 0) : (y = 0 ∧ v = some (.int 0) ∧ M' = M) ∨ (¬ (y = 0) ∧ Ev none e 179 14 [some (.ref 633), c1] [] M v M' 0 0) := by
  have H : Ev none e 179 (if y = 0 then 12 else 14) [some (.ref 633), c1] [] M v M' 0 0 := Ev.back 1 (fun n => rfl) H
  by_cases h1 : y = 0
  · rw [if_pos h1] at H
    have H : Ev none e 179 13 [some (.ref 633), c1] [.int 0] M v M' 0 0 := Ev.back 1 (fun n => rfl) H
    obtain ⟨z1, z2⟩ := Ev.retz rfl rfl H
    exact Or.inl ⟨h1, z1, z2⟩
  · rw [if_neg h1] at H
    have HF := H
    exact Or.inr (⟨h1, HF⟩)
theorem ceq_14 {e : Nat} {M M' : Mem} {v : Option Value} {c1 : Option Value} (hS : SQ M) (H : Ev none e 179 14 [some (.ref 633), c1] [] M v M' 0 0) : ((G_165 M 41) = 0 ∧ Ev none e 179 57 [some (.ref 633), c1] [] M v M' 0 0) ∨ (¬ ((G_165 M 41) = 0) ∧ (∃ e1 v1 M1, e = e1 + 1 ∧ Ev none e1 178 0 [some (.ref 633), none] [] M v1 M1 0 0 ∧ Ev none e 179 27 [some (.ref 633), c1] (v1.toList ++ []) M1 v M' 0 0)) := by
  have H : Ev none e 179 17 [some (.ref 633), c1] [.int 41, .ref 633] M v M' 0 0 := Ev.back 2 (fun n => rfl) H
  obtain ⟨e1, rfl⟩ := Ev.dpos rfl rfl H
  obtain ⟨vK1, MK1, K1, H⟩ := Ev.callb (fun n => gs_7 rfl rfl (show gCal (.invokevirtual 195) 11 (.int 41 :: .ref 633 :: []) M = some (.inr (165, [some (.ref 633), some (.int 41)], [])) from by show @cond (Option ((List Value × Mem) ⊕ (Nat × Lo × List Value))) (true && gRecv M (.ref 633) 11 && gRoom [] && true) (some (.inr (165, [some (.ref 633), some (.int 41)], []))) none = _; rw [recv_s hS.1 qa_633 qo_61]; rfl)) H
  obtain ⟨pK1, qK1⟩ := g_165 hS K1
  rw [pK1, qK1] at H
  have H : Ev none (e1 + 1) 179 20 [some (.ref 633), c1] [.int (G_165 M 41)] M v M' 0 0 := H
  have H : Ev none (e1 + 1) 179 (if (G_165 M 41) = 0 then 57 else 23) [some (.ref 633), c1] [] M v M' 0 0 := Ev.back 1 (fun n => rfl) H
  by_cases h2 : (G_165 M 41) = 0
  · rw [if_pos h2] at H
    have HF := H
    exact Or.inl ⟨h2, HF⟩
  · rw [if_neg h2] at H
    have H : Ev none (e1 + 1) 179 24 [some (.ref 633), c1] [.ref 633] M v M' 0 0 := Ev.back 1 (fun n => rfl) H
    obtain ⟨vK3, MK3, K3, H⟩ := Ev.callb (fun n => gs_7 rfl rfl (show gCal (.invokevirtual 300) 11 (.ref 633 :: []) M = some (.inr (178, [some (.ref 633), none], [])) from by show @cond (Option ((List Value × Mem) ⊕ (Nat × Lo × List Value))) (true && gRecv M (.ref 633) 11 && gRoom [] && true) (some (.inr (178, [some (.ref 633), none], []))) none = _; rw [recv_s hS.1 qa_633 qo_61]; rfl)) H
    have K3 : Ev none e1 178 0 [some (.ref 633), none] [] M vK3 MK3 0 0 := K3
    have HF := H
    exact Or.inr (⟨h2, ⟨e1, vK3, MK3, rfl, K3, HF⟩⟩)
theorem ceq_27 {e : Nat} {M M' : Mem} {v : Option Value} {y : Int32} {c1 : Option Value} (hS : SQ M) (H : Ev none e 179 27 [some (.ref 633), c1] [.int y] M v M' 0 0) : (y = 0 ∧ Ev none e 179 57 [some (.ref 633), c1] [] M v M' 0 0) ∨ (¬ (y = 0) ∧ (∃ e1 v1 M1, e = e1 + 1 ∧ Ev none e1 175 0 [some (.ref 633), some (.int 1)] [] M v1 M1 0 0 ∧ Ev none e 179 35 [some (.ref 633), c1] (v1.toList ++ []) M1 v M' 0 0)) := by
  have H : Ev none e 179 (if y = 0 then 57 else 30) [some (.ref 633), c1] [] M v M' 0 0 := Ev.back 1 (fun n => rfl) H
  by_cases h1 : y = 0
  · rw [if_pos h1] at H
    have HF := H
    exact Or.inl ⟨h1, HF⟩
  · rw [if_neg h1] at H
    have H : Ev none e 179 32 [some (.ref 633), c1] [.int 1, .ref 633] M v M' 0 0 := Ev.back 2 (fun n => rfl) H
    obtain ⟨e1, rfl⟩ := Ev.dpos rfl rfl H
    obtain ⟨vK2, MK2, K2, H⟩ := Ev.callb (fun n => gs_7 rfl rfl (show gCal (.invokevirtual 303) 11 (.int 1 :: .ref 633 :: []) M = some (.inr (175, [some (.ref 633), some (.int 1)], [])) from by show @cond (Option ((List Value × Mem) ⊕ (Nat × Lo × List Value))) (true && gRecv M (.ref 633) 11 && gRoom [] && true) (some (.inr (175, [some (.ref 633), some (.int 1)], []))) none = _; rw [recv_s hS.1 qa_633 qo_61]; rfl)) H
    have K2 : Ev none e1 175 0 [some (.ref 633), some (.int 1)] [] M vK2 MK2 0 0 := K2
    have HF := H
    exact Or.inr (⟨h1, ⟨e1, vK2, MK2, rfl, K2, HF⟩⟩)
theorem ceq_35 {e : Nat} {M M' : Mem} {v : Option Value} {c1 : Option Value} (hS : SQ M) (H : Ev none e 179 35 [some (.ref 633), c1] [] M v M' 0 0) : (∃ e1 v1 M1, e = e1 + 1 ∧ Ev none e1 175 0 [some (.ref 633), some (.int 3)] [] (wF M 633 20 ((zI M 633 20) - 1)) v1 M1 0 0 ∧ Ev none e 179 50 [some (.ref 633), c1] (v1.toList ++ []) M1 v M' 0 0) := by
  have H : Ev none e 179 37 [some (.ref 633), c1] [.ref 633, .ref 633] M v M' 0 0 := Ev.back 2 (fun n => rfl) H
  have H : Ev none e 179 40 [some (.ref 633), c1] [.int (zI M 633 20), .ref 633] M v M' 0 0 := Ev.back 1 (gs_3 rfl rfl (gf_i hS.1 qa_633 qi_61_20 rfl)) H
  have H : Ev none e 179 42 [some (.ref 633), c1] [.int ((zI M 633 20) - 1), .ref 633] M v M' 0 0 := Ev.back 2 (fun n => rfl) H
  obtain ⟨N2, eN2⟩ : ∃ N, N = (wF M 633 20 ((zI M 633 20) - 1)) := ⟨_, rfl⟩
  have hN2 : SQ N2 := by rw [eN2]; exact hS.kf
  have H : Ev none e 179 45 [some (.ref 633), c1] [] N2 v M' 0 0 := by rw [eN2]; exact Ev.pfi rfl rfl rfl hS.1 qa_633 qi_61_20 H
  have H : Ev none e 179 47 [some (.ref 633), c1] [.int 3, .ref 633] N2 v M' 0 0 := Ev.back 2 (fun n => rfl) H
  obtain ⟨e1, rfl⟩ := Ev.dpos rfl rfl H
  obtain ⟨vK3, MK3, K3, H⟩ := Ev.callb (fun n => gs_7 rfl rfl (show gCal (.invokevirtual 303) 11 (.int 3 :: .ref 633 :: []) N2 = some (.inr (175, [some (.ref 633), some (.int 3)], [])) from by show @cond (Option ((List Value × Mem) ⊕ (Nat × Lo × List Value))) (true && gRecv N2 (.ref 633) 11 && gRoom [] && true) (some (.inr (175, [some (.ref 633), some (.int 3)], []))) none = _; rw [recv_s hN2.1 qa_633 qo_61]; rfl)) H
  have K3 : Ev none e1 175 0 [some (.ref 633), some (.int 3)] [] N2 vK3 MK3 0 0 := K3
  have HF := H
  subst eN2
  exact ⟨e1, vK3, MK3, rfl, K3, HF⟩
theorem ceq_50 {e : Nat} {M M' : Mem} {v : Option Value} {c1 : Option Value} (hS : SQ M) (H : Ev none e 179 50 [some (.ref 633), c1] [] M v M' 0 0) : (∃ e1 v1 M1, e = e1 + 1 ∧ Ev none e1 162 0 [some (.ref 633), none, none, none] [] M v1 M1 0 0 ∧ Ev none e 179 54 [some (.ref 633), c1] (v1.toList ++ []) M1 v M' 0 0) := by
  have H : Ev none e 179 51 [some (.ref 633), c1] [.ref 633] M v M' 0 0 := Ev.back 1 (fun n => rfl) H
  obtain ⟨e1, rfl⟩ := Ev.dpos rfl rfl H
  obtain ⟨vK1, MK1, K1, H⟩ := Ev.callb (fun n => gs_7 rfl rfl (show gCal (.invokevirtual 201) 11 (.ref 633 :: []) M = some (.inr (162, [some (.ref 633), none, none, none], [])) from by show @cond (Option ((List Value × Mem) ⊕ (Nat × Lo × List Value))) (true && gRecv M (.ref 633) 11 && gRoom [] && true) (some (.inr (162, [some (.ref 633), none, none, none], []))) none = _; rw [recv_s hS.1 qa_633 qo_61]; rfl)) H
  have K1 : Ev none e1 162 0 [some (.ref 633), none, none, none] [] M vK1 MK1 0 0 := K1
  have HF := H
  exact ⟨e1, vK1, MK1, rfl, K1, HF⟩
theorem ceq_54 {e : Nat} {M M' : Mem} {v : Option Value} {c1 : Option Value} (hS : SQ M) (H : Ev none e 179 54 [some (.ref 633), c1] [] M v M' 0 0) : Ev none e 179 14 [some (.ref 633), c1] [] M v M' 0 0 := by
  have H : Ev none e 179 14 [some (.ref 633), c1] [] M v M' 0 0 := Ev.back 1 (fun n => rfl) H
  have HF := H
  exact HF
theorem ceq_57 {e : Nat} {M M' : Mem} {v : Option Value} {c1 : Option Value} (hS : SQ M) (H : Ev none e 179 57 [some (.ref 633), c1] [] M v M' 0 0) : ((G_164 M 6385252) = 0 ∧ (G_164 M 28530) = 0 ∧ (∃ e1 v1 M1, e = e1 + 1 ∧ Ev none e1 178 0 [some (.ref 633), none] [] M v1 M1 0 0 ∧ Ev none e 179 83 [some (.ref 633), some (.int (G_164 M 6385252))] (v1.toList ++ []) M1 v M' 0 0)) ∨ ((G_164 M 6385252) = 0 ∧ ¬ ((G_164 M 28530) = 0) ∧ (∃ e1 v1 M1, e = e1 + 1 ∧ Ev none e1 175 0 [some (.ref 633), some (.int 1)] [] M v1 M1 0 0 ∧ Ev none e 179 112 [some (.ref 633), some (.int (G_164 M 6385252))] (v1.toList ++ []) M1 v M' 0 0)) ∨ (¬ ((G_164 M 6385252) = 0) ∧ (∃ e1 v1 M1, e = e1 + 1 ∧ Ev none e1 175 0 [some (.ref 633), some (.int 2)] [] M v1 M1 0 0 ∧ Ev none e 179 112 [some (.ref 633), some (.int (G_164 M 6385252))] (v1.toList ++ []) M1 v M' 0 0)) := by
  have H : Ev none e 179 61 [some (.ref 633), c1] [.long 6385252, .ref 633] M v M' 0 0 := Ev.back 2 (fun n => rfl) H
  obtain ⟨e1, rfl⟩ := Ev.dpos rfl rfl H
  obtain ⟨vK1, MK1, K1, H⟩ := Ev.callb (fun n => gs_7 rfl rfl (show gCal (.invokevirtual 248) 11 (.long 6385252 :: .ref 633 :: []) M = some (.inr (164, [some (.ref 633), some (.long 6385252), none], [])) from by show @cond (Option ((List Value × Mem) ⊕ (Nat × Lo × List Value))) (true && gRecv M (.ref 633) 11 && gRoom [] && true) (some (.inr (164, [some (.ref 633), some (.long 6385252), none], []))) none = _; rw [recv_s hS.1 qa_633 qo_61]; rfl)) H
  obtain ⟨pK1, qK1⟩ := g_164 hS K1
  rw [pK1, qK1] at H
  have H : Ev none (e1 + 1) 179 64 [some (.ref 633), c1] [.int (G_164 M 6385252)] M v M' 0 0 := H
  have H : Ev none (e1 + 1) 179 (if (G_164 M 6385252) = 0 then 69 else 99) [some (.ref 633), some (.int (G_164 M 6385252))] [] M v M' 0 0 := Ev.back 3 (fun n => rfl) H
  by_cases h2 : (G_164 M 6385252) = 0
  · rw [if_pos h2] at H
    have H : Ev none (e1 + 1) 179 73 [some (.ref 633), some (.int (G_164 M 6385252))] [.long 28530, .ref 633] M v M' 0 0 := Ev.back 2 (fun n => rfl) H
    obtain ⟨vK3, MK3, K3, H⟩ := Ev.callb (fun n => gs_7 rfl rfl (show gCal (.invokevirtual 248) 11 (.long 28530 :: .ref 633 :: []) M = some (.inr (164, [some (.ref 633), some (.long 28530), none], [])) from by show @cond (Option ((List Value × Mem) ⊕ (Nat × Lo × List Value))) (true && gRecv M (.ref 633) 11 && gRoom [] && true) (some (.inr (164, [some (.ref 633), some (.long 28530), none], []))) none = _; rw [recv_s hS.1 qa_633 qo_61]; rfl)) H
    obtain ⟨pK3, qK3⟩ := g_164 hS K3
    rw [pK3, qK3] at H
    have H : Ev none (e1 + 1) 179 76 [some (.ref 633), some (.int (G_164 M 6385252))] [.int (G_164 M 28530)] M v M' 0 0 := H
    have H : Ev none (e1 + 1) 179 (if (G_164 M 28530) = 0 then 79 else 99) [some (.ref 633), some (.int (G_164 M 6385252))] [] M v M' 0 0 := Ev.back 1 (fun n => rfl) H
    by_cases h4 : (G_164 M 28530) = 0
    · rw [if_pos h4] at H
      have H : Ev none (e1 + 1) 179 80 [some (.ref 633), some (.int (G_164 M 6385252))] [.ref 633] M v M' 0 0 := Ev.back 1 (fun n => rfl) H
      obtain ⟨vK5, MK5, K5, H⟩ := Ev.callb (fun n => gs_7 rfl rfl (show gCal (.invokevirtual 300) 11 (.ref 633 :: []) M = some (.inr (178, [some (.ref 633), none], [])) from by show @cond (Option ((List Value × Mem) ⊕ (Nat × Lo × List Value))) (true && gRecv M (.ref 633) 11 && gRoom [] && true) (some (.inr (178, [some (.ref 633), none], []))) none = _; rw [recv_s hS.1 qa_633 qo_61]; rfl)) H
      have K5 : Ev none e1 178 0 [some (.ref 633), none] [] M vK5 MK5 0 0 := K5
      have HF := H
      exact Or.inl ⟨h2, h4, ⟨e1, vK5, MK5, rfl, K5, HF⟩⟩
    · rw [if_neg h4] at H
      have H : Ev none (e1 + 1) 179 (if (G_164 M 6385252) = 0 then 108 else 104) [some (.ref 633), some (.int (G_164 M 6385252))] [.ref 633] M v M' 0 0 := Ev.back 3 (fun n => rfl) H
      rw [if_pos h2] at H
      have H : Ev none (e1 + 1) 179 109 [some (.ref 633), some (.int (G_164 M 6385252))] [.int 1, .ref 633] M v M' 0 0 := Ev.back 1 (fun n => rfl) H
      obtain ⟨vK6, MK6, K6, H⟩ := Ev.callb (fun n => gs_7 rfl rfl (show gCal (.invokevirtual 303) 11 (.int 1 :: .ref 633 :: []) M = some (.inr (175, [some (.ref 633), some (.int 1)], [])) from by show @cond (Option ((List Value × Mem) ⊕ (Nat × Lo × List Value))) (true && gRecv M (.ref 633) 11 && gRoom [] && true) (some (.inr (175, [some (.ref 633), some (.int 1)], []))) none = _; rw [recv_s hS.1 qa_633 qo_61]; rfl)) H
      have K6 : Ev none e1 175 0 [some (.ref 633), some (.int 1)] [] M vK6 MK6 0 0 := K6
      have HF := H
      exact Or.inr (Or.inl ⟨h2, h4, ⟨e1, vK6, MK6, rfl, K6, HF⟩⟩)
  · rw [if_neg h2] at H
    have H : Ev none (e1 + 1) 179 (if (G_164 M 6385252) = 0 then 108 else 104) [some (.ref 633), some (.int (G_164 M 6385252))] [.ref 633] M v M' 0 0 := Ev.back 3 (fun n => rfl) H
    rw [if_neg h2] at H
    have H : Ev none (e1 + 1) 179 109 [some (.ref 633), some (.int (G_164 M 6385252))] [.int 2, .ref 633] M v M' 0 0 := Ev.back 2 (fun n => rfl) H
    obtain ⟨vK7, MK7, K7, H⟩ := Ev.callb (fun n => gs_7 rfl rfl (show gCal (.invokevirtual 303) 11 (.int 2 :: .ref 633 :: []) M = some (.inr (175, [some (.ref 633), some (.int 2)], [])) from by show @cond (Option ((List Value × Mem) ⊕ (Nat × Lo × List Value))) (true && gRecv M (.ref 633) 11 && gRoom [] && true) (some (.inr (175, [some (.ref 633), some (.int 2)], []))) none = _; rw [recv_s hS.1 qa_633 qo_61]; rfl)) H
    have K7 : Ev none e1 175 0 [some (.ref 633), some (.int 2)] [] M vK7 MK7 0 0 := K7
    have HF := H
    exact Or.inr (Or.inr (⟨h2, ⟨e1, vK7, MK7, rfl, K7, HF⟩⟩))
theorem ceq_83 {e : Nat} {M M' : Mem} {v : Option Value} {an y : Int32} (hS : SQ M) (H : Ev none e 179 83 [some (.ref 633), some (.int an)] [.int y] M v M' 0 0) : (y = 0 ∧ (∃ e1 v1 M1, e = e1 + 1 ∧ Ev none e1 175 0 [some (.ref 633), some (.int 1)] [] M v1 M1 0 0 ∧ Ev none e 179 97 [some (.ref 633), some (.int an)] (v1.toList ++ []) M1 v M' 0 0)) ∨ (¬ (y = 0) ∧ (∃ e1 v1 M1, e = e1 + 1 ∧ Ev none e1 163 0 [some (.ref 633), some (.int 1)] [] M v1 M1 0 0 ∧ Ev none e 179 91 [some (.ref 633), some (.int an)] (v1.toList ++ []) M1 v M' 0 0)) := by
  have H : Ev none e 179 (if y = 0 then 92 else 86) [some (.ref 633), some (.int an)] [] M v M' 0 0 := Ev.back 1 (fun n => rfl) H
  by_cases h1 : y = 0
  · rw [if_pos h1] at H
    have H : Ev none e 179 94 [some (.ref 633), some (.int an)] [.int 1, .ref 633] M v M' 0 0 := Ev.back 2 (fun n => rfl) H
    obtain ⟨e1, rfl⟩ := Ev.dpos rfl rfl H
    obtain ⟨vK2, MK2, K2, H⟩ := Ev.callb (fun n => gs_7 rfl rfl (show gCal (.invokevirtual 303) 11 (.int 1 :: .ref 633 :: []) M = some (.inr (175, [some (.ref 633), some (.int 1)], [])) from by show @cond (Option ((List Value × Mem) ⊕ (Nat × Lo × List Value))) (true && gRecv M (.ref 633) 11 && gRoom [] && true) (some (.inr (175, [some (.ref 633), some (.int 1)], []))) none = _; rw [recv_s hS.1 qa_633 qo_61]; rfl)) H
    have K2 : Ev none e1 175 0 [some (.ref 633), some (.int 1)] [] M vK2 MK2 0 0 := K2
    have HF := H
    exact Or.inl ⟨h1, ⟨e1, vK2, MK2, rfl, K2, HF⟩⟩
  · rw [if_neg h1] at H
    have H : Ev none e 179 88 [some (.ref 633), some (.int an)] [.int 1, .ref 633] M v M' 0 0 := Ev.back 2 (fun n => rfl) H
    obtain ⟨e1, rfl⟩ := Ev.dpos rfl rfl H
    obtain ⟨vK3, MK3, K3, H⟩ := Ev.callb (fun n => gs_7 rfl rfl (show gCal (.invokevirtual 198) 11 (.int 1 :: .ref 633 :: []) M = some (.inr (163, [some (.ref 633), some (.int 1)], [])) from by show @cond (Option ((List Value × Mem) ⊕ (Nat × Lo × List Value))) (true && gRecv M (.ref 633) 11 && gRoom [] && true) (some (.inr (163, [some (.ref 633), some (.int 1)], []))) none = _; rw [recv_s hS.1 qa_633 qo_61]; rfl)) H
    have K3 : Ev none e1 163 0 [some (.ref 633), some (.int 1)] [] M vK3 MK3 0 0 := K3
    have HF := H
    exact Or.inr (⟨h1, ⟨e1, vK3, MK3, rfl, K3, HF⟩⟩)
theorem ceq_91 {e : Nat} {M M' : Mem} {v : Option Value} {an y : Int32} (hS : SQ M) (H : Ev none e 179 91 [some (.ref 633), some (.int an)] [.int y] M v M' 0 0) : v = some (.int y) ∧ M' = M := by
  obtain ⟨z1, z2⟩ := Ev.retz rfl rfl H
  exact ⟨z1, z2⟩
theorem ceq_97 {e : Nat} {M M' : Mem} {v : Option Value} {an : Int32} (hS : SQ M) (H : Ev none e 179 97 [some (.ref 633), some (.int an)] [] M v M' 0 0) : v = some (.int 1) ∧ M' = M := by
  have H : Ev none e 179 98 [some (.ref 633), some (.int an)] [.int 1] M v M' 0 0 := Ev.back 1 (fun n => rfl) H
  obtain ⟨z1, z2⟩ := Ev.retz rfl rfl H
  exact ⟨z1, z2⟩
theorem ceq_112 {e : Nat} {M M' : Mem} {v : Option Value} {an : Int32} (hS : SQ M) (H : Ev none e 179 112 [some (.ref 633), some (.int an)] [] M v M' 0 0) : (an = 0 ∧ (0 ≤ (zI M 633 20).toInt ∧ (zI M 633 20).toInt < 100) ∧ (∃ e1 v1 M1, e = e1 + 1 ∧ Ev none e1 162 0 [some (.ref 633), none, none, none] [] (wF (wI M 648 ((zI M 633 20).toNatClampNeg) 22) 633 20 ((zI M 633 20) + 1)) v1 M1 0 0 ∧ Ev none e 179 146 [some (.ref 633), some (.int an)] (v1.toList ++ []) M1 v M' 0 0)) ∨ (¬ (an = 0) ∧ (0 ≤ (zI M 633 20).toInt ∧ (zI M 633 20).toInt < 100) ∧ (∃ e1 v1 M1, e = e1 + 1 ∧ Ev none e1 162 0 [some (.ref 633), none, none, none] [] (wF (wI M 648 ((zI M 633 20).toNatClampNeg) 21) 633 20 ((zI M 633 20) + 1)) v1 M1 0 0 ∧ Ev none e 179 146 [some (.ref 633), some (.int an)] (v1.toList ++ []) M1 v M' 0 0)) := by
  have H : Ev none e 179 113 [some (.ref 633), some (.int an)] [.ref 633] M v M' 0 0 := Ev.back 1 (fun n => rfl) H
  have H : Ev none e 179 116 [some (.ref 633), some (.int an)] [.ref 648] M v M' 0 0 := Ev.back 1 (gs_3 rfl rfl (gf_u hS.1 qa_633 qr_61_18 qu_76 rfl)) H
  have H : Ev none e 179 117 [some (.ref 633), some (.int an)] [.ref 633, .ref 648] M v M' 0 0 := Ev.back 1 (fun n => rfl) H
  have H : Ev none e 179 120 [some (.ref 633), some (.int an)] [.int (zI M 633 20), .ref 648] M v M' 0 0 := Ev.back 1 (gs_3 rfl rfl (gf_i hS.1 qa_633 qi_61_20 rfl)) H
  have H : Ev none e 179 (if an = 0 then 129 else 124) [some (.ref 633), some (.int an)] [.int (zI M 633 20), .ref 648] M v M' 0 0 := Ev.back 2 (fun n => rfl) H
  by_cases h1 : an = 0
  · rw [if_pos h1] at H
    have H : Ev none e 179 131 [some (.ref 633), some (.int an)] [.int 22, .int (zI M 633 20), .ref 648] M v M' 0 0 := Ev.back 1 (fun n => rfl) H
    obtain ⟨b2, H⟩ := Ev.ias rfl rfl hS.1 qa_648 qw_76 H
    obtain ⟨N3, eN3⟩ : ∃ N, N = (wI M 648 ((zI M 633 20).toNatClampNeg) 22) := ⟨_, rfl⟩
    have hN3 : SQ N3 := by rw [eN3]; exact hS.ki
    have H : Ev none e 179 132 [some (.ref 633), some (.int an)] [] N3 v M' 0 0 := by rw [eN3]; exact H
    have H : Ev none e 179 134 [some (.ref 633), some (.int an)] [.ref 633, .ref 633] N3 v M' 0 0 := Ev.back 2 (fun n => rfl) H
    have H : Ev none e 179 137 [some (.ref 633), some (.int an)] [.int (zI N3 633 20), .ref 633] N3 v M' 0 0 := Ev.back 1 (gs_3 rfl rfl (gf_i hN3.1 qa_633 qi_61_20 rfl)) H
    rw [show zI N3 633 20 = zI M 633 20 from by rw [eN3]; exact fI_wI] at H
    have H : Ev none e 179 139 [some (.ref 633), some (.int an)] [.int ((zI M 633 20) + 1), .ref 633] N3 v M' 0 0 := Ev.back 2 (fun n => rfl) H
    obtain ⟨N5, eN5⟩ : ∃ N, N = (wF N3 633 20 ((zI M 633 20) + 1)) := ⟨_, rfl⟩
    have hN5 : SQ N5 := by rw [eN5]; exact hN3.kf
    have H : Ev none e 179 142 [some (.ref 633), some (.int an)] [] N5 v M' 0 0 := by rw [eN5]; exact Ev.pfi rfl rfl rfl hN3.1 qa_633 qi_61_20 H
    have H : Ev none e 179 143 [some (.ref 633), some (.int an)] [.ref 633] N5 v M' 0 0 := Ev.back 1 (fun n => rfl) H
    obtain ⟨e1, rfl⟩ := Ev.dpos rfl rfl H
    obtain ⟨vK6, MK6, K6, H⟩ := Ev.callb (fun n => gs_7 rfl rfl (show gCal (.invokevirtual 201) 11 (.ref 633 :: []) N5 = some (.inr (162, [some (.ref 633), none, none, none], [])) from by show @cond (Option ((List Value × Mem) ⊕ (Nat × Lo × List Value))) (true && gRecv N5 (.ref 633) 11 && gRoom [] && true) (some (.inr (162, [some (.ref 633), none, none, none], []))) none = _; rw [recv_s hN5.1 qa_633 qo_61]; rfl)) H
    have K6 : Ev none e1 162 0 [some (.ref 633), none, none, none] [] N5 vK6 MK6 0 0 := K6
    have HF := H
    subst eN3 eN5
    exact Or.inl ⟨h1, b2, ⟨e1, vK6, MK6, rfl, K6, HF⟩⟩
  · rw [if_neg h1] at H
    have H : Ev none e 179 131 [some (.ref 633), some (.int an)] [.int 21, .int (zI M 633 20), .ref 648] M v M' 0 0 := Ev.back 2 (fun n => rfl) H
    obtain ⟨b7, H⟩ := Ev.ias rfl rfl hS.1 qa_648 qw_76 H
    obtain ⟨N8, eN8⟩ : ∃ N, N = (wI M 648 ((zI M 633 20).toNatClampNeg) 21) := ⟨_, rfl⟩
    have hN8 : SQ N8 := by rw [eN8]; exact hS.ki
    have H : Ev none e 179 132 [some (.ref 633), some (.int an)] [] N8 v M' 0 0 := by rw [eN8]; exact H
    have H : Ev none e 179 134 [some (.ref 633), some (.int an)] [.ref 633, .ref 633] N8 v M' 0 0 := Ev.back 2 (fun n => rfl) H
    have H : Ev none e 179 137 [some (.ref 633), some (.int an)] [.int (zI N8 633 20), .ref 633] N8 v M' 0 0 := Ev.back 1 (gs_3 rfl rfl (gf_i hN8.1 qa_633 qi_61_20 rfl)) H
    rw [show zI N8 633 20 = zI M 633 20 from by rw [eN8]; exact fI_wI] at H
    have H : Ev none e 179 139 [some (.ref 633), some (.int an)] [.int ((zI M 633 20) + 1), .ref 633] N8 v M' 0 0 := Ev.back 2 (fun n => rfl) H
    obtain ⟨N10, eN10⟩ : ∃ N, N = (wF N8 633 20 ((zI M 633 20) + 1)) := ⟨_, rfl⟩
    have hN10 : SQ N10 := by rw [eN10]; exact hN8.kf
    have H : Ev none e 179 142 [some (.ref 633), some (.int an)] [] N10 v M' 0 0 := by rw [eN10]; exact Ev.pfi rfl rfl rfl hN8.1 qa_633 qi_61_20 H
    have H : Ev none e 179 143 [some (.ref 633), some (.int an)] [.ref 633] N10 v M' 0 0 := Ev.back 1 (fun n => rfl) H
    obtain ⟨e1, rfl⟩ := Ev.dpos rfl rfl H
    obtain ⟨vK11, MK11, K11, H⟩ := Ev.callb (fun n => gs_7 rfl rfl (show gCal (.invokevirtual 201) 11 (.ref 633 :: []) N10 = some (.inr (162, [some (.ref 633), none, none, none], [])) from by show @cond (Option ((List Value × Mem) ⊕ (Nat × Lo × List Value))) (true && gRecv N10 (.ref 633) 11 && gRoom [] && true) (some (.inr (162, [some (.ref 633), none, none, none], []))) none = _; rw [recv_s hN10.1 qa_633 qo_61]; rfl)) H
    have K11 : Ev none e1 162 0 [some (.ref 633), none, none, none] [] N10 vK11 MK11 0 0 := K11
    have HF := H
    subst eN8 eN10
    exact Or.inr (⟨h1, b7, ⟨e1, vK11, MK11, rfl, K11, HF⟩⟩)
theorem ceq_146 {e : Nat} {M M' : Mem} {v : Option Value} {an : Int32} (hS : SQ M) (H : Ev none e 179 146 [some (.ref 633), some (.int an)] [] M v M' 0 0) : Ev none e 179 5 [some (.ref 633), some (.int an)] [] M v M' 0 0 := by
  have H : Ev none e 179 5 [some (.ref 633), some (.int an)] [] M v M' 0 0 := Ev.back 1 (fun n => rfl) H
  have HF := H
  exact HF
