/-! THE REFERENCE'S READER: pieces of cond and one (made by gre.py) -/
noncomputable def A_163 (M : Mem) (k : Int32) : Int32 := 0
noncomputable def X_163 (M : Mem) (k : Int32) : Mem := (wF (wF M 633 26 k) 633 27 (zI M 633 23))
theorem g_163 {e : Nat} {M M' : Mem} {v : Option Value} {k : Int32} (hS : SQ M) (H : Ev none e 163 0 [some (.ref 633), some (.int k)] [] M v M' 0 0) : v = some (.int (A_163 M k)) ∧ M' = X_163 M k := by
  unfold A_163 X_163
  have H : Ev none e 163 2 [some (.ref 633), some (.int k)] [.int k, .ref 633] M v M' 0 0 := Ev.back 2 (fun n => rfl) H
  obtain ⟨N2, eN2⟩ : ∃ N, N = (wF M 633 26 k) := ⟨_, rfl⟩
  have hN2 : SQ N2 := by rw [eN2]; exact hS.kf
  have H : Ev none e 163 5 [some (.ref 633), some (.int k)] [] N2 v M' 0 0 := by rw [eN2]; exact Ev.pfi rfl rfl rfl hS.1 qa_633 qi_61_26 H
  have H : Ev none e 163 7 [some (.ref 633), some (.int k)] [.ref 633, .ref 633] N2 v M' 0 0 := Ev.back 2 (fun n => rfl) H
  have H : Ev none e 163 10 [some (.ref 633), some (.int k)] [.int (zI N2 633 23), .ref 633] N2 v M' 0 0 := Ev.back 1 (gs_3 rfl rfl (gf_i hN2.1 qa_633 qi_61_23 rfl)) H
  rw [show zI N2 633 23 = zI M 633 23 from by rw [eN2]; exact fI_wF_ne (fun q => absurd q.2 (by decide))] at H
  obtain ⟨N4, eN4⟩ : ∃ N, N = (wF N2 633 27 (zI M 633 23)) := ⟨_, rfl⟩
  have hN4 : SQ N4 := by rw [eN4]; exact hN2.kf
  have H : Ev none e 163 13 [some (.ref 633), some (.int k)] [] N4 v M' 0 0 := by rw [eN4]; exact Ev.pfi rfl rfl rfl hN2.1 qa_633 qi_61_27 H
  have H : Ev none e 163 14 [some (.ref 633), some (.int k)] [.int 0] N4 v M' 0 0 := Ev.back 1 (fun n => rfl) H
  obtain ⟨p1, p2⟩ := Ev.retz rfl rfl H
  subst eN2 eN4
  exact ⟨p1, p2⟩
theorem X_163_sx {M : Mem} {k : Int32} (hS : SQ M) : SQ (X_163 M k) := by
  unfold X_163
  exact (hS.kf).kf
noncomputable def G_164 (M : Mem) (w : Int64) : Int32 := if (zI M 633 22) = 1 then (if (lg_cmp (fL M 633 31) w) = 0 then 1 else 0) else 0
theorem g_164 {e : Nat} {M M' : Mem} {v : Option Value} {w : Int64} (hS : SQ M) (H : Ev none e 164 0 [some (.ref 633), some (.long w), none] [] M v M' 0 0) : v = some (.int (G_164 M w)) ∧ M' = M := by
  unfold G_164
  have H : Ev none e 164 1 [some (.ref 633), some (.long w), none] [.ref 633] M v M' 0 0 := Ev.back 1 (fun n => rfl) H
  have H : Ev none e 164 4 [some (.ref 633), some (.long w), none] [.int (zI M 633 22)] M v M' 0 0 := Ev.back 1 (gs_3 rfl rfl (gf_i hS.1 qa_633 qi_61_22 rfl)) H
  have H : Ev none e 164 (if (zI M 633 22) = 1 then 8 else 21) [some (.ref 633), some (.long w), none] [] M v M' 0 0 := Ev.back 2 (fun n => rfl) H
  by_cases h1 : (zI M 633 22) = 1
  · rw [if_pos h1] at H
    have H : Ev none e 164 9 [some (.ref 633), some (.long w), none] [.ref 633] M v M' 0 0 := Ev.back 1 (fun n => rfl) H
    have H : Ev none e 164 12 [some (.ref 633), some (.long w), none] [.long (fL M 633 31)] M v M' 0 0 := Ev.back 1 (gs_3 rfl rfl (gf_l hS.1 qa_633 ql_61_31 rfl)) H
    have H : Ev none e 164 (if (lg_cmp (fL M 633 31) w) = 0 then 17 else 21) [some (.ref 633), some (.long w), none] [] M v M' 0 0 := Ev.back 3 (fun n => rfl) H
    by_cases h2 : (lg_cmp (fL M 633 31) w) = 0
    · rw [if_pos h2] at H
      have H : Ev none e 164 22 [some (.ref 633), some (.long w), none] [.int 1] M v M' 0 0 := Ev.back 2 (fun n => rfl) H
      obtain ⟨p1, p2⟩ := Ev.retz rfl rfl H
      exact ⟨by rw [if_pos h1, if_pos h2]; exact p1, p2⟩
    · rw [if_neg h2] at H
      have H : Ev none e 164 22 [some (.ref 633), some (.long w), none] [.int 0] M v M' 0 0 := Ev.back 1 (fun n => rfl) H
      obtain ⟨p1, p2⟩ := Ev.retz rfl rfl H
      exact ⟨by rw [if_pos h1, if_neg h2]; exact p1, p2⟩
  · rw [if_neg h1] at H
    have H : Ev none e 164 22 [some (.ref 633), some (.long w), none] [.int 0] M v M' 0 0 := Ev.back 1 (fun n => rfl) H
    obtain ⟨p1, p2⟩ := Ev.retz rfl rfl H
    exact ⟨by rw [if_neg h1]; exact p1, p2⟩
noncomputable def G_165 (M : Mem) (c : Int32) : Int32 := if (zI M 633 22) = 3 then (if (zI M 633 25) = c then 1 else 0) else 0
theorem g_165 {e : Nat} {M M' : Mem} {v : Option Value} {c : Int32} (hS : SQ M) (H : Ev none e 165 0 [some (.ref 633), some (.int c)] [] M v M' 0 0) : v = some (.int (G_165 M c)) ∧ M' = M := by
  unfold G_165
  have H : Ev none e 165 1 [some (.ref 633), some (.int c)] [.ref 633] M v M' 0 0 := Ev.back 1 (fun n => rfl) H
  have H : Ev none e 165 4 [some (.ref 633), some (.int c)] [.int (zI M 633 22)] M v M' 0 0 := Ev.back 1 (gs_3 rfl rfl (gf_i hS.1 qa_633 qi_61_22 rfl)) H
  have H : Ev none e 165 (if (zI M 633 22) = 3 then 8 else 20) [some (.ref 633), some (.int c)] [] M v M' 0 0 := Ev.back 2 (fun n => rfl) H
  by_cases h1 : (zI M 633 22) = 3
  · rw [if_pos h1] at H
    have H : Ev none e 165 9 [some (.ref 633), some (.int c)] [.ref 633] M v M' 0 0 := Ev.back 1 (fun n => rfl) H
    have H : Ev none e 165 12 [some (.ref 633), some (.int c)] [.int (zI M 633 25)] M v M' 0 0 := Ev.back 1 (gs_3 rfl rfl (gf_i hS.1 qa_633 qi_61_25 rfl)) H
    have H : Ev none e 165 (if (zI M 633 25) = c then 16 else 20) [some (.ref 633), some (.int c)] [] M v M' 0 0 := Ev.back 2 (fun n => rfl) H
    by_cases h2 : (zI M 633 25) = c
    · rw [if_pos h2] at H
      have H : Ev none e 165 21 [some (.ref 633), some (.int c)] [.int 1] M v M' 0 0 := Ev.back 2 (fun n => rfl) H
      obtain ⟨p1, p2⟩ := Ev.retz rfl rfl H
      exact ⟨by rw [if_pos h1, if_pos h2]; exact p1, p2⟩
    · rw [if_neg h2] at H
      have H : Ev none e 165 21 [some (.ref 633), some (.int c)] [.int 0] M v M' 0 0 := Ev.back 1 (fun n => rfl) H
      obtain ⟨p1, p2⟩ := Ev.retz rfl rfl H
      exact ⟨by rw [if_pos h1, if_neg h2]; exact p1, p2⟩
  · rw [if_neg h1] at H
    have H : Ev none e 165 21 [some (.ref 633), some (.int c)] [.int 0] M v M' 0 0 := Ev.back 1 (fun n => rfl) H
    obtain ⟨p1, p2⟩ := Ev.retz rfl rfl H
    exact ⟨by rw [if_neg h1]; exact p1, p2⟩
noncomputable def G_173 (M : Mem) : Int32 := if (zI M 633 22) = 1 then (if (lg_cmp (fL M 633 31) 444300620659) = 0 then 0 else (if (lg_cmp (fL M 633 31) 113740959081836) = 0 then 1 else (if (lg_cmp (fL M 633 31) 6448484) = 0 then 2 else (if (lg_cmp (fL M 633 31) 482671486308) = 0 then 3 else (if (lg_cmp (fL M 633 31) 495874044019) = 0 then 4 else (if (lg_cmp (fL M 633 31) 1936287598) = 0 then 5 else (if (lg_cmp (fL M 633 31) 470120948857) = 0 then 6 else (if (lg_cmp (fL M 633 31) 2003792494) = 0 then 7 else (if (lg_cmp (fL M 633 31) 2003132786) = 0 then 8 else (if (lg_cmp (fL M 633 31) 7824756) = 0 then 9 else (if (lg_cmp (fL M 633 31) 114784769370228) = 0 then 10 else (if (lg_cmp (fL M 633 31) 1953656676) = 0 then 11 else (-1))))))))))))) else (-1)
theorem g_173 {e : Nat} {M M' : Mem} {v : Option Value} (hS : SQ M) (H : Ev none e 173 0 [some (.ref 633)] [] M v M' 0 0) : v = some (.int (G_173 M)) ∧ M' = M := by
  unfold G_173
  have H : Ev none e 173 1 [some (.ref 633)] [.ref 633] M v M' 0 0 := Ev.back 1 (fun n => rfl) H
  have H : Ev none e 173 4 [some (.ref 633)] [.int (zI M 633 22)] M v M' 0 0 := Ev.back 1 (gs_3 rfl rfl (gf_i hS.1 qa_633 qi_61_22 rfl)) H
  have H : Ev none e 173 (if (zI M 633 22) = 1 then 10 else 8) [some (.ref 633)] [] M v M' 0 0 := Ev.back 2 (fun n => rfl) H
  by_cases h1 : (zI M 633 22) = 1
  · rw [if_pos h1] at H
    have H : Ev none e 173 11 [some (.ref 633)] [.ref 633] M v M' 0 0 := Ev.back 1 (fun n => rfl) H
    have H : Ev none e 173 14 [some (.ref 633)] [.long (fL M 633 31)] M v M' 0 0 := Ev.back 1 (gs_3 rfl rfl (gf_l hS.1 qa_633 ql_61_31 rfl)) H
    have H : Ev none e 173 (if (lg_cmp (fL M 633 31) 444300620659) = 0 then 21 else 23) [some (.ref 633)] [] M v M' 0 0 := Ev.back 3 (fun n => rfl) H
    by_cases h2 : (lg_cmp (fL M 633 31) 444300620659) = 0
    · rw [if_pos h2] at H
      have H : Ev none e 173 22 [some (.ref 633)] [.int 0] M v M' 0 0 := Ev.back 1 (fun n => rfl) H
      obtain ⟨p1, p2⟩ := Ev.retz rfl rfl H
      exact ⟨by rw [if_pos h1, if_pos h2]; exact p1, p2⟩
    · rw [if_neg h2] at H
      have H : Ev none e 173 24 [some (.ref 633)] [.ref 633] M v M' 0 0 := Ev.back 1 (fun n => rfl) H
      have H : Ev none e 173 27 [some (.ref 633)] [.long (fL M 633 31)] M v M' 0 0 := Ev.back 1 (gs_3 rfl rfl (gf_l hS.1 qa_633 ql_61_31 rfl)) H
      have H : Ev none e 173 (if (lg_cmp (fL M 633 31) 113740959081836) = 0 then 34 else 36) [some (.ref 633)] [] M v M' 0 0 := Ev.back 3 (fun n => rfl) H
      by_cases h3 : (lg_cmp (fL M 633 31) 113740959081836) = 0
      · rw [if_pos h3] at H
        have H : Ev none e 173 35 [some (.ref 633)] [.int 1] M v M' 0 0 := Ev.back 1 (fun n => rfl) H
        obtain ⟨p1, p2⟩ := Ev.retz rfl rfl H
        exact ⟨by rw [if_pos h1, if_neg h2, if_pos h3]; exact p1, p2⟩
      · rw [if_neg h3] at H
        have H : Ev none e 173 37 [some (.ref 633)] [.ref 633] M v M' 0 0 := Ev.back 1 (fun n => rfl) H
        have H : Ev none e 173 40 [some (.ref 633)] [.long (fL M 633 31)] M v M' 0 0 := Ev.back 1 (gs_3 rfl rfl (gf_l hS.1 qa_633 ql_61_31 rfl)) H
        have H : Ev none e 173 (if (lg_cmp (fL M 633 31) 6448484) = 0 then 47 else 49) [some (.ref 633)] [] M v M' 0 0 := Ev.back 3 (fun n => rfl) H
        by_cases h4 : (lg_cmp (fL M 633 31) 6448484) = 0
        · rw [if_pos h4] at H
          have H : Ev none e 173 48 [some (.ref 633)] [.int 2] M v M' 0 0 := Ev.back 1 (fun n => rfl) H
          obtain ⟨p1, p2⟩ := Ev.retz rfl rfl H
          exact ⟨by rw [if_pos h1, if_neg h2, if_neg h3, if_pos h4]; exact p1, p2⟩
        · rw [if_neg h4] at H
          have H : Ev none e 173 50 [some (.ref 633)] [.ref 633] M v M' 0 0 := Ev.back 1 (fun n => rfl) H
          have H : Ev none e 173 53 [some (.ref 633)] [.long (fL M 633 31)] M v M' 0 0 := Ev.back 1 (gs_3 rfl rfl (gf_l hS.1 qa_633 ql_61_31 rfl)) H
          have H : Ev none e 173 (if (lg_cmp (fL M 633 31) 482671486308) = 0 then 60 else 62) [some (.ref 633)] [] M v M' 0 0 := Ev.back 3 (fun n => rfl) H
          by_cases h5 : (lg_cmp (fL M 633 31) 482671486308) = 0
          · rw [if_pos h5] at H
            have H : Ev none e 173 61 [some (.ref 633)] [.int 3] M v M' 0 0 := Ev.back 1 (fun n => rfl) H
            obtain ⟨p1, p2⟩ := Ev.retz rfl rfl H
            exact ⟨by rw [if_pos h1, if_neg h2, if_neg h3, if_neg h4, if_pos h5]; exact p1, p2⟩
          · rw [if_neg h5] at H
            have H : Ev none e 173 63 [some (.ref 633)] [.ref 633] M v M' 0 0 := Ev.back 1 (fun n => rfl) H
            have H : Ev none e 173 66 [some (.ref 633)] [.long (fL M 633 31)] M v M' 0 0 := Ev.back 1 (gs_3 rfl rfl (gf_l hS.1 qa_633 ql_61_31 rfl)) H
            have H : Ev none e 173 (if (lg_cmp (fL M 633 31) 495874044019) = 0 then 73 else 75) [some (.ref 633)] [] M v M' 0 0 := Ev.back 3 (fun n => rfl) H
            by_cases h6 : (lg_cmp (fL M 633 31) 495874044019) = 0
            · rw [if_pos h6] at H
              have H : Ev none e 173 74 [some (.ref 633)] [.int 4] M v M' 0 0 := Ev.back 1 (fun n => rfl) H
              obtain ⟨p1, p2⟩ := Ev.retz rfl rfl H
              exact ⟨by rw [if_pos h1, if_neg h2, if_neg h3, if_neg h4, if_neg h5, if_pos h6]; exact p1, p2⟩
            · rw [if_neg h6] at H
              have H : Ev none e 173 76 [some (.ref 633)] [.ref 633] M v M' 0 0 := Ev.back 1 (fun n => rfl) H
              have H : Ev none e 173 79 [some (.ref 633)] [.long (fL M 633 31)] M v M' 0 0 := Ev.back 1 (gs_3 rfl rfl (gf_l hS.1 qa_633 ql_61_31 rfl)) H
              have H : Ev none e 173 (if (lg_cmp (fL M 633 31) 1936287598) = 0 then 86 else 88) [some (.ref 633)] [] M v M' 0 0 := Ev.back 3 (fun n => rfl) H
              by_cases h7 : (lg_cmp (fL M 633 31) 1936287598) = 0
              · rw [if_pos h7] at H
                have H : Ev none e 173 87 [some (.ref 633)] [.int 5] M v M' 0 0 := Ev.back 1 (fun n => rfl) H
                obtain ⟨p1, p2⟩ := Ev.retz rfl rfl H
                exact ⟨by rw [if_pos h1, if_neg h2, if_neg h3, if_neg h4, if_neg h5, if_neg h6, if_pos h7]; exact p1, p2⟩
              · rw [if_neg h7] at H
                have H : Ev none e 173 89 [some (.ref 633)] [.ref 633] M v M' 0 0 := Ev.back 1 (fun n => rfl) H
                have H : Ev none e 173 92 [some (.ref 633)] [.long (fL M 633 31)] M v M' 0 0 := Ev.back 1 (gs_3 rfl rfl (gf_l hS.1 qa_633 ql_61_31 rfl)) H
                have H : Ev none e 173 (if (lg_cmp (fL M 633 31) 470120948857) = 0 then 99 else 102) [some (.ref 633)] [] M v M' 0 0 := Ev.back 3 (fun n => rfl) H
                by_cases h8 : (lg_cmp (fL M 633 31) 470120948857) = 0
                · rw [if_pos h8] at H
                  have H : Ev none e 173 101 [some (.ref 633)] [.int 6] M v M' 0 0 := Ev.back 1 (fun n => rfl) H
                  obtain ⟨p1, p2⟩ := Ev.retz rfl rfl H
                  exact ⟨by rw [if_pos h1, if_neg h2, if_neg h3, if_neg h4, if_neg h5, if_neg h6, if_neg h7, if_pos h8]; exact p1, p2⟩
                · rw [if_neg h8] at H
                  have H : Ev none e 173 103 [some (.ref 633)] [.ref 633] M v M' 0 0 := Ev.back 1 (fun n => rfl) H
                  have H : Ev none e 173 106 [some (.ref 633)] [.long (fL M 633 31)] M v M' 0 0 := Ev.back 1 (gs_3 rfl rfl (gf_l hS.1 qa_633 ql_61_31 rfl)) H
                  have H : Ev none e 173 (if (lg_cmp (fL M 633 31) 2003792494) = 0 then 113 else 116) [some (.ref 633)] [] M v M' 0 0 := Ev.back 3 (fun n => rfl) H
                  by_cases h9 : (lg_cmp (fL M 633 31) 2003792494) = 0
                  · rw [if_pos h9] at H
                    have H : Ev none e 173 115 [some (.ref 633)] [.int 7] M v M' 0 0 := Ev.back 1 (fun n => rfl) H
                    obtain ⟨p1, p2⟩ := Ev.retz rfl rfl H
                    exact ⟨by rw [if_pos h1, if_neg h2, if_neg h3, if_neg h4, if_neg h5, if_neg h6, if_neg h7, if_neg h8, if_pos h9]; exact p1, p2⟩
                  · rw [if_neg h9] at H
                    have H : Ev none e 173 117 [some (.ref 633)] [.ref 633] M v M' 0 0 := Ev.back 1 (fun n => rfl) H
                    have H : Ev none e 173 120 [some (.ref 633)] [.long (fL M 633 31)] M v M' 0 0 := Ev.back 1 (gs_3 rfl rfl (gf_l hS.1 qa_633 ql_61_31 rfl)) H
                    have H : Ev none e 173 (if (lg_cmp (fL M 633 31) 2003132786) = 0 then 127 else 132) [some (.ref 633)] [] M v M' 0 0 := Ev.back 3 (fun n => rfl) H
                    by_cases h10 : (lg_cmp (fL M 633 31) 2003132786) = 0
                    · rw [if_pos h10] at H
                      have H : Ev none e 173 181 [some (.ref 633)] [.int 8] M v M' 0 0 := Ev.back 2 (fun n => rfl) H
                      obtain ⟨p1, p2⟩ := Ev.retz rfl rfl H
                      exact ⟨by rw [if_pos h1, if_neg h2, if_neg h3, if_neg h4, if_neg h5, if_neg h6, if_neg h7, if_neg h8, if_neg h9, if_pos h10]; exact p1, p2⟩
                    · rw [if_neg h10] at H
                      have H : Ev none e 173 133 [some (.ref 633)] [.ref 633] M v M' 0 0 := Ev.back 1 (fun n => rfl) H
                      have H : Ev none e 173 136 [some (.ref 633)] [.long (fL M 633 31)] M v M' 0 0 := Ev.back 1 (gs_3 rfl rfl (gf_l hS.1 qa_633 ql_61_31 rfl)) H
                      have H : Ev none e 173 (if (lg_cmp (fL M 633 31) 7824756) = 0 then 143 else 148) [some (.ref 633)] [] M v M' 0 0 := Ev.back 3 (fun n => rfl) H
                      by_cases h11 : (lg_cmp (fL M 633 31) 7824756) = 0
                      · rw [if_pos h11] at H
                        have H : Ev none e 173 181 [some (.ref 633)] [.int 9] M v M' 0 0 := Ev.back 2 (fun n => rfl) H
                        obtain ⟨p1, p2⟩ := Ev.retz rfl rfl H
                        exact ⟨by rw [if_pos h1, if_neg h2, if_neg h3, if_neg h4, if_neg h5, if_neg h6, if_neg h7, if_neg h8, if_neg h9, if_neg h10, if_pos h11]; exact p1, p2⟩
                      · rw [if_neg h11] at H
                        have H : Ev none e 173 149 [some (.ref 633)] [.ref 633] M v M' 0 0 := Ev.back 1 (fun n => rfl) H
                        have H : Ev none e 173 152 [some (.ref 633)] [.long (fL M 633 31)] M v M' 0 0 := Ev.back 1 (gs_3 rfl rfl (gf_l hS.1 qa_633 ql_61_31 rfl)) H
                        have H : Ev none e 173 (if (lg_cmp (fL M 633 31) 114784769370228) = 0 then 159 else 164) [some (.ref 633)] [] M v M' 0 0 := Ev.back 3 (fun n => rfl) H
                        by_cases h12 : (lg_cmp (fL M 633 31) 114784769370228) = 0
                        · rw [if_pos h12] at H
                          have H : Ev none e 173 181 [some (.ref 633)] [.int 10] M v M' 0 0 := Ev.back 2 (fun n => rfl) H
                          obtain ⟨p1, p2⟩ := Ev.retz rfl rfl H
                          exact ⟨by rw [if_pos h1, if_neg h2, if_neg h3, if_neg h4, if_neg h5, if_neg h6, if_neg h7, if_neg h8, if_neg h9, if_neg h10, if_neg h11, if_pos h12]; exact p1, p2⟩
                        · rw [if_neg h12] at H
                          have H : Ev none e 173 165 [some (.ref 633)] [.ref 633] M v M' 0 0 := Ev.back 1 (fun n => rfl) H
                          have H : Ev none e 173 168 [some (.ref 633)] [.long (fL M 633 31)] M v M' 0 0 := Ev.back 1 (gs_3 rfl rfl (gf_l hS.1 qa_633 ql_61_31 rfl)) H
                          have H : Ev none e 173 (if (lg_cmp (fL M 633 31) 1953656676) = 0 then 175 else 180) [some (.ref 633)] [] M v M' 0 0 := Ev.back 3 (fun n => rfl) H
                          by_cases h13 : (lg_cmp (fL M 633 31) 1953656676) = 0
                          · rw [if_pos h13] at H
                            have H : Ev none e 173 181 [some (.ref 633)] [.int 11] M v M' 0 0 := Ev.back 2 (fun n => rfl) H
                            obtain ⟨p1, p2⟩ := Ev.retz rfl rfl H
                            exact ⟨by rw [if_pos h1, if_neg h2, if_neg h3, if_neg h4, if_neg h5, if_neg h6, if_neg h7, if_neg h8, if_neg h9, if_neg h10, if_neg h11, if_neg h12, if_pos h13]; exact p1, p2⟩
                          · rw [if_neg h13] at H
                            have H : Ev none e 173 181 [some (.ref 633)] [.int (-1)] M v M' 0 0 := Ev.back 1 (fun n => rfl) H
                            obtain ⟨p1, p2⟩ := Ev.retz rfl rfl H
                            exact ⟨by rw [if_pos h1, if_neg h2, if_neg h3, if_neg h4, if_neg h5, if_neg h6, if_neg h7, if_neg h8, if_neg h9, if_neg h10, if_neg h11, if_neg h12, if_neg h13]; exact p1, p2⟩
  · rw [if_neg h1] at H
    have H : Ev none e 173 9 [some (.ref 633)] [.int (-1)] M v M' 0 0 := Ev.back 1 (fun n => rfl) H
    obtain ⟨p1, p2⟩ := Ev.retz rfl rfl H
    exact ⟨by rw [if_neg h1]; exact p1, p2⟩
noncomputable def G_176 (M : Mem) (k : Int32) : Int32 := if k = 20 then 3 else (if k = 21 then 2 else 1)
theorem g_176 {e : Nat} {M M' : Mem} {v : Option Value} {k : Int32} (hS : SQ M) (H : Ev none e 176 0 [some (.int k)] [] M v M' 0 0) : v = some (.int (G_176 M k)) ∧ M' = M := by
  unfold G_176
  have H : Ev none e 176 (if k = 20 then 6 else 10) [some (.int k)] [] M v M' 0 0 := Ev.back 3 (fun n => rfl) H
  by_cases h1 : k = 20
  · rw [if_pos h1] at H
    have H : Ev none e 176 21 [some (.int k)] [.int 3] M v M' 0 0 := Ev.back 2 (fun n => rfl) H
    obtain ⟨p1, p2⟩ := Ev.retz rfl rfl H
    exact ⟨by rw [if_pos h1]; exact p1, p2⟩
  · rw [if_neg h1] at H
    have H : Ev none e 176 (if k = 21 then 16 else 20) [some (.int k)] [] M v M' 0 0 := Ev.back 3 (fun n => rfl) H
    by_cases h2 : k = 21
    · rw [if_pos h2] at H
      have H : Ev none e 176 21 [some (.int k)] [.int 2] M v M' 0 0 := Ev.back 2 (fun n => rfl) H
      obtain ⟨p1, p2⟩ := Ev.retz rfl rfl H
      exact ⟨by rw [if_neg h1, if_pos h2]; exact p1, p2⟩
    · rw [if_neg h2] at H
      have H : Ev none e 176 21 [some (.int k)] [.int 1] M v M' 0 0 := Ev.back 1 (fun n => rfl) H
      obtain ⟨p1, p2⟩ := Ev.retz rfl rfl H
      exact ⟨by rw [if_neg h1, if_neg h2]; exact p1, p2⟩
theorem wt_0 {e : Nat} {M M' : Mem} {v : Option Value} {x y z : Int32} (hS : SQ M) (H : Ev none e 174 0 [some (.ref 633), some (.int x), some (.int y), some (.int z)] [] M v M' 0 0) : (0 ≤ (1400 + (zI M 633 19)).toInt ∧ (1400 + (zI M 633 19)).toInt < 1600) ∧ (0 ≤ (1400 + (zI M 633 19)).toInt ∧ (1400 + (zI M 633 19)).toInt < 1600) ∧ (0 ≤ (1400 + (zI M 633 19)).toInt ∧ (1400 + (zI M 633 19)).toInt < 1600) ∧ v = none ∧ M' = (wF (wI (wI (wI M 645 ((1400 + (zI M 633 19)).toNatClampNeg) x) 646 ((1400 + (zI M 633 19)).toNatClampNeg) y) 647 ((1400 + (zI M 633 19)).toNatClampNeg) z) 633 19 ((zI M 633 19) + 1)) := by
  have H : Ev none e 174 1 [some (.ref 633), some (.int x), some (.int y), some (.int z)] [.ref 633] M v M' 0 0 := Ev.back 1 (fun n => rfl) H
  have H : Ev none e 174 4 [some (.ref 633), some (.int x), some (.int y), some (.int z)] [.ref 645] M v M' 0 0 := Ev.back 1 (gs_3 rfl rfl (gf_u hS.1 qa_633 qr_61_15 qu_73 rfl)) H
  have H : Ev none e 174 8 [some (.ref 633), some (.int x), some (.int y), some (.int z)] [.ref 633, .int 1400, .ref 645] M v M' 0 0 := Ev.back 2 (fun n => rfl) H
  have H : Ev none e 174 11 [some (.ref 633), some (.int x), some (.int y), some (.int z)] [.int (zI M 633 19), .int 1400, .ref 645] M v M' 0 0 := Ev.back 1 (gs_3 rfl rfl (gf_i hS.1 qa_633 qi_61_19 rfl)) H
  have H : Ev none e 174 13 [some (.ref 633), some (.int x), some (.int y), some (.int z)] [.int x, .int (1400 + (zI M 633 19)), .ref 645] M v M' 0 0 := Ev.back 2 (fun n => rfl) H
  obtain ⟨b1, H⟩ := Ev.ias rfl rfl hS.1 qa_645 qw_73 H
  obtain ⟨N2, eN2⟩ : ∃ N, N = (wI M 645 ((1400 + (zI M 633 19)).toNatClampNeg) x) := ⟨_, rfl⟩
  have hN2 : SQ N2 := by rw [eN2]; exact hS.ki
  have H : Ev none e 174 14 [some (.ref 633), some (.int x), some (.int y), some (.int z)] [] N2 v M' 0 0 := by rw [eN2]; exact H
  have H : Ev none e 174 15 [some (.ref 633), some (.int x), some (.int y), some (.int z)] [.ref 633] N2 v M' 0 0 := Ev.back 1 (fun n => rfl) H
  have H : Ev none e 174 18 [some (.ref 633), some (.int x), some (.int y), some (.int z)] [.ref 646] N2 v M' 0 0 := Ev.back 1 (gs_3 rfl rfl (gf_u hN2.1 qa_633 qr_61_16 qu_74 rfl)) H
  have H : Ev none e 174 22 [some (.ref 633), some (.int x), some (.int y), some (.int z)] [.ref 633, .int 1400, .ref 646] N2 v M' 0 0 := Ev.back 2 (fun n => rfl) H
  have H : Ev none e 174 25 [some (.ref 633), some (.int x), some (.int y), some (.int z)] [.int (zI N2 633 19), .int 1400, .ref 646] N2 v M' 0 0 := Ev.back 1 (gs_3 rfl rfl (gf_i hN2.1 qa_633 qi_61_19 rfl)) H
  rw [show zI N2 633 19 = zI M 633 19 from by rw [eN2]; exact fI_wI] at H
  have H : Ev none e 174 27 [some (.ref 633), some (.int x), some (.int y), some (.int z)] [.int y, .int (1400 + (zI M 633 19)), .ref 646] N2 v M' 0 0 := Ev.back 2 (fun n => rfl) H
  obtain ⟨b3, H⟩ := Ev.ias rfl rfl hN2.1 qa_646 qw_74 H
  obtain ⟨N4, eN4⟩ : ∃ N, N = (wI N2 646 ((1400 + (zI M 633 19)).toNatClampNeg) y) := ⟨_, rfl⟩
  have hN4 : SQ N4 := by rw [eN4]; exact hN2.ki
  have H : Ev none e 174 28 [some (.ref 633), some (.int x), some (.int y), some (.int z)] [] N4 v M' 0 0 := by rw [eN4]; exact H
  have H : Ev none e 174 29 [some (.ref 633), some (.int x), some (.int y), some (.int z)] [.ref 633] N4 v M' 0 0 := Ev.back 1 (fun n => rfl) H
  have H : Ev none e 174 32 [some (.ref 633), some (.int x), some (.int y), some (.int z)] [.ref 647] N4 v M' 0 0 := Ev.back 1 (gs_3 rfl rfl (gf_u hN4.1 qa_633 qr_61_17 qu_75 rfl)) H
  have H : Ev none e 174 36 [some (.ref 633), some (.int x), some (.int y), some (.int z)] [.ref 633, .int 1400, .ref 647] N4 v M' 0 0 := Ev.back 2 (fun n => rfl) H
  have H : Ev none e 174 39 [some (.ref 633), some (.int x), some (.int y), some (.int z)] [.int (zI N4 633 19), .int 1400, .ref 647] N4 v M' 0 0 := Ev.back 1 (gs_3 rfl rfl (gf_i hN4.1 qa_633 qi_61_19 rfl)) H
  rw [(show zI N4 633 19 = zI N2 633 19 from by rw [eN4]; exact fI_wI).trans (show zI N2 633 19 = zI M 633 19 from by rw [eN2]; exact fI_wI)] at H
  have H : Ev none e 174 41 [some (.ref 633), some (.int x), some (.int y), some (.int z)] [.int z, .int (1400 + (zI M 633 19)), .ref 647] N4 v M' 0 0 := Ev.back 2 (fun n => rfl) H
  obtain ⟨b5, H⟩ := Ev.ias rfl rfl hN4.1 qa_647 qw_75 H
  obtain ⟨N6, eN6⟩ : ∃ N, N = (wI N4 647 ((1400 + (zI M 633 19)).toNatClampNeg) z) := ⟨_, rfl⟩
  have hN6 : SQ N6 := by rw [eN6]; exact hN4.ki
  have H : Ev none e 174 42 [some (.ref 633), some (.int x), some (.int y), some (.int z)] [] N6 v M' 0 0 := by rw [eN6]; exact H
  have H : Ev none e 174 44 [some (.ref 633), some (.int x), some (.int y), some (.int z)] [.ref 633, .ref 633] N6 v M' 0 0 := Ev.back 2 (fun n => rfl) H
  have H : Ev none e 174 47 [some (.ref 633), some (.int x), some (.int y), some (.int z)] [.int (zI N6 633 19), .ref 633] N6 v M' 0 0 := Ev.back 1 (gs_3 rfl rfl (gf_i hN6.1 qa_633 qi_61_19 rfl)) H
  rw [((show zI N6 633 19 = zI N4 633 19 from by rw [eN6]; exact fI_wI).trans (show zI N4 633 19 = zI N2 633 19 from by rw [eN4]; exact fI_wI)).trans (show zI N2 633 19 = zI M 633 19 from by rw [eN2]; exact fI_wI)] at H
  have H : Ev none e 174 49 [some (.ref 633), some (.int x), some (.int y), some (.int z)] [.int ((zI M 633 19) + 1), .ref 633] N6 v M' 0 0 := Ev.back 2 (fun n => rfl) H
  obtain ⟨N8, eN8⟩ : ∃ N, N = (wF N6 633 19 ((zI M 633 19) + 1)) := ⟨_, rfl⟩
  have hN8 : SQ N8 := by rw [eN8]; exact hN6.kf
  have H : Ev none e 174 52 [some (.ref 633), some (.int x), some (.int y), some (.int z)] [] N8 v M' 0 0 := by rw [eN8]; exact Ev.pfi rfl rfl rfl hN6.1 qa_633 qi_61_19 H
  obtain ⟨z1, z2⟩ := Ev.retb (fun n => rfl) H
  subst eN2 eN4 eN6 eN8
  exact ⟨b1, b3, b5, z1, z2⟩
theorem wdq_0 {e : Nat} {M M' : Mem} {v : Option Value} {le : Int32} (hS : SQ M) (H : Ev none e 175 0 [some (.ref 633), some (.int le)] [] M v M' 0 0) : ((zI M 633 20) ≤ 0 ∧ v = none ∧ M' = M) ∨ (¬ ((zI M 633 20) ≤ 0) ∧ (rI M 648 ((zI M 633 20) - 1)) = 23 ∧ v = none ∧ M' = M) ∨ (¬ ((zI M 633 20) ≤ 0) ∧ ¬ ((rI M 648 ((zI M 633 20) - 1)) = 23) ∧ (G_176 M (rI M 648 ((zI M 633 20) - 1))) < le ∧ v = none ∧ M' = M) ∨ (¬ ((zI M 633 20) ≤ 0) ∧ ¬ ((rI M 648 ((zI M 633 20) - 1)) = 23) ∧ ¬ ((G_176 M (rI M 648 ((zI M 633 20) - 1))) < le) ∧ (∃ e1 v1 M1, e = e1 + 1 ∧ Ev none e1 174 0 [some (.ref 633), some (.int (rI M 648 ((zI M 633 20) - 1))), some (.int 0), some (.int 0)] [] (wF M 633 20 ((zI M 633 20) - 1)) v1 M1 0 0 ∧ Ev none e 175 66 [some (.ref 633), some (.int le)] (v1.toList ++ []) M1 v M' 0 0)) := by
  have H : Ev none e 175 1 [some (.ref 633), some (.int le)] [.ref 633] M v M' 0 0 := Ev.back 1 (fun n => rfl) H
  have H : Ev none e 175 4 [some (.ref 633), some (.int le)] [.int (zI M 633 20)] M v M' 0 0 := Ev.back 1 (gs_3 rfl rfl (gf_i hS.1 qa_633 qi_61_20 rfl)) H
  have H : Ev none e 175 (if (zI M 633 20) ≤ 0 then 69 else 7) [some (.ref 633), some (.int le)] [] M v M' 0 0 := Ev.back 1 (fun n => rfl) H
  by_cases h1 : (zI M 633 20) ≤ 0
  · rw [if_pos h1] at H
    obtain ⟨z1, z2⟩ := Ev.retb (fun n => rfl) H
    exact Or.inl ⟨h1, z1, z2⟩
  · rw [if_neg h1] at H
    have H : Ev none e 175 8 [some (.ref 633), some (.int le)] [.ref 633] M v M' 0 0 := Ev.back 1 (fun n => rfl) H
    have H : Ev none e 175 11 [some (.ref 633), some (.int le)] [.ref 648] M v M' 0 0 := Ev.back 1 (gs_3 rfl rfl (gf_u hS.1 qa_633 qr_61_18 qu_76 rfl)) H
    have H : Ev none e 175 12 [some (.ref 633), some (.int le)] [.ref 633, .ref 648] M v M' 0 0 := Ev.back 1 (fun n => rfl) H
    have H : Ev none e 175 15 [some (.ref 633), some (.int le)] [.int (zI M 633 20), .ref 648] M v M' 0 0 := Ev.back 1 (gs_3 rfl rfl (gf_i hS.1 qa_633 qi_61_20 rfl)) H
    have H : Ev none e 175 17 [some (.ref 633), some (.int le)] [.int ((zI M 633 20) - 1), .ref 648] M v M' 0 0 := Ev.back 2 (fun n => rfl) H
    obtain ⟨b2, H⟩ := Ev.ial rfl rfl hS.1 qa_648 qw_76 H
    have H : Ev none e 175 18 [some (.ref 633), some (.int le)] [.int (rI M 648 ((zI M 633 20) - 1))] M v M' 0 0 := H
    have H : Ev none e 175 (if (rI M 648 ((zI M 633 20) - 1)) = 23 then 69 else 23) [some (.ref 633), some (.int le)] [] M v M' 0 0 := Ev.back 2 (fun n => rfl) H
    by_cases h3 : (rI M 648 ((zI M 633 20) - 1)) = 23
    · rw [if_pos h3] at H
      obtain ⟨z1, z2⟩ := Ev.retb (fun n => rfl) H
      exact Or.inr (Or.inl ⟨h1, h3, z1, z2⟩)
    · rw [if_neg h3] at H
      have H : Ev none e 175 24 [some (.ref 633), some (.int le)] [.ref 633] M v M' 0 0 := Ev.back 1 (fun n => rfl) H
      have H : Ev none e 175 27 [some (.ref 633), some (.int le)] [.ref 648] M v M' 0 0 := Ev.back 1 (gs_3 rfl rfl (gf_u hS.1 qa_633 qr_61_18 qu_76 rfl)) H
      have H : Ev none e 175 28 [some (.ref 633), some (.int le)] [.ref 633, .ref 648] M v M' 0 0 := Ev.back 1 (fun n => rfl) H
      have H : Ev none e 175 31 [some (.ref 633), some (.int le)] [.int (zI M 633 20), .ref 648] M v M' 0 0 := Ev.back 1 (gs_3 rfl rfl (gf_i hS.1 qa_633 qi_61_20 rfl)) H
      have H : Ev none e 175 33 [some (.ref 633), some (.int le)] [.int ((zI M 633 20) - 1), .ref 648] M v M' 0 0 := Ev.back 2 (fun n => rfl) H
      obtain ⟨b4, H⟩ := Ev.ial rfl rfl hS.1 qa_648 qw_76 H
      have H : Ev none e 175 34 [some (.ref 633), some (.int le)] [.int (rI M 648 ((zI M 633 20) - 1))] M v M' 0 0 := H
      obtain ⟨e1, rfl⟩ := Ev.dpos rfl rfl H
      obtain ⟨vK5, MK5, K5, H⟩ := Ev.callb (fun n => rfl) H
      obtain ⟨pK5, qK5⟩ := g_176 hS K5
      rw [pK5, qK5] at H
      have H : Ev none (e1 + 1) 175 37 [some (.ref 633), some (.int le)] [.int (G_176 M (rI M 648 ((zI M 633 20) - 1)))] M v M' 0 0 := H
      have H : Ev none (e1 + 1) 175 (if (G_176 M (rI M 648 ((zI M 633 20) - 1))) < le then 69 else 41) [some (.ref 633), some (.int le)] [] M v M' 0 0 := Ev.back 2 (fun n => rfl) H
      by_cases h6 : (G_176 M (rI M 648 ((zI M 633 20) - 1))) < le
      · rw [if_pos h6] at H
        obtain ⟨z1, z2⟩ := Ev.retb (fun n => rfl) H
        exact Or.inr (Or.inr (Or.inl ⟨h1, h3, h6, z1, z2⟩))
      · rw [if_neg h6] at H
        have H : Ev none (e1 + 1) 175 43 [some (.ref 633), some (.int le)] [.ref 633, .ref 633] M v M' 0 0 := Ev.back 2 (fun n => rfl) H
        have H : Ev none (e1 + 1) 175 46 [some (.ref 633), some (.int le)] [.int (zI M 633 20), .ref 633] M v M' 0 0 := Ev.back 1 (gs_3 rfl rfl (gf_i hS.1 qa_633 qi_61_20 rfl)) H
        have H : Ev none (e1 + 1) 175 48 [some (.ref 633), some (.int le)] [.int ((zI M 633 20) - 1), .ref 633] M v M' 0 0 := Ev.back 2 (fun n => rfl) H
        obtain ⟨N8, eN8⟩ : ∃ N, N = (wF M 633 20 ((zI M 633 20) - 1)) := ⟨_, rfl⟩
        have hN8 : SQ N8 := by rw [eN8]; exact hS.kf
        have H : Ev none (e1 + 1) 175 51 [some (.ref 633), some (.int le)] [] N8 v M' 0 0 := by rw [eN8]; exact Ev.pfi rfl rfl rfl hS.1 qa_633 qi_61_20 H
        have H : Ev none (e1 + 1) 175 53 [some (.ref 633), some (.int le)] [.ref 633, .ref 633] N8 v M' 0 0 := Ev.back 2 (fun n => rfl) H
        have H : Ev none (e1 + 1) 175 56 [some (.ref 633), some (.int le)] [.ref 648, .ref 633] N8 v M' 0 0 := Ev.back 1 (gs_3 rfl rfl (gf_u hN8.1 qa_633 qr_61_18 qu_76 rfl)) H
        have H : Ev none (e1 + 1) 175 57 [some (.ref 633), some (.int le)] [.ref 633, .ref 648, .ref 633] N8 v M' 0 0 := Ev.back 1 (fun n => rfl) H
        have H : Ev none (e1 + 1) 175 60 [some (.ref 633), some (.int le)] [.int (zI N8 633 20), .ref 648, .ref 633] N8 v M' 0 0 := Ev.back 1 (gs_3 rfl rfl (gf_i hN8.1 qa_633 qi_61_20 rfl)) H
        rw [show zI N8 633 20 = (zI M 633 20) - 1 from by rw [eN8]; exact fI_wF_eq hS.1 qa_633 qi_61_20] at H
        obtain ⟨b9, H⟩ := Ev.ial rfl rfl hN8.1 qa_648 qw_76 H
        have H : Ev none (e1 + 1) 175 61 [some (.ref 633), some (.int le)] [.int (rI N8 648 ((zI M 633 20) - 1)), .ref 633] N8 v M' 0 0 := H
        rw [show rI N8 648 ((zI M 633 20) - 1) = rI M 648 ((zI M 633 20) - 1) from by rw [eN8]; exact rN_wF] at H
        have H : Ev none (e1 + 1) 175 63 [some (.ref 633), some (.int le)] [.int 0, .int 0, .int (rI M 648 ((zI M 633 20) - 1)), .ref 633] N8 v M' 0 0 := Ev.back 2 (fun n => rfl) H
        obtain ⟨vK10, MK10, K10, H⟩ := Ev.callb (fun n => gs_7 rfl rfl (show gCal (.invokevirtual 294) 11 (.int 0 :: .int 0 :: .int (rI M 648 ((zI M 633 20) - 1)) :: .ref 633 :: []) N8 = some (.inr (174, [some (.ref 633), some (.int (rI M 648 ((zI M 633 20) - 1))), some (.int 0), some (.int 0)], [])) from by show @cond (Option ((List Value × Mem) ⊕ (Nat × Lo × List Value))) (true && gRecv N8 (.ref 633) 11 && gRoom [] && true) (some (.inr (174, [some (.ref 633), some (.int (rI M 648 ((zI M 633 20) - 1))), some (.int 0), some (.int 0)], []))) none = _; rw [recv_s hN8.1 qa_633 qo_61]; rfl)) H
        have K10 : Ev none e1 174 0 [some (.ref 633), some (.int (rI M 648 ((zI M 633 20) - 1))), some (.int 0), some (.int 0)] [] N8 vK10 MK10 0 0 := K10
        have HF := H
        subst eN8
        exact Or.inr (Or.inr (Or.inr (⟨h1, h3, h6, ⟨e1, vK10, MK10, rfl, K10, HF⟩⟩)))
theorem wdq_66 {e : Nat} {M M' : Mem} {v : Option Value} {le : Int32} (hS : SQ M) (H : Ev none e 175 66 [some (.ref 633), some (.int le)] [] M v M' 0 0) : Ev none e 175 0 [some (.ref 633), some (.int le)] [] M v M' 0 0 := by
  have H : Ev none e 175 0 [some (.ref 633), some (.int le)] [] M v M' 0 0 := Ev.back 1 (fun n => rfl) H
  have HF := H
  exact HF
theorem op_0 {e : Nat} {M M' : Mem} {v : Option Value} (hS : SQ M) (H : Ev none e 177 0 [some (.ref 633), none, none] [] M v M' 0 0) : Ev none e 177 4 [some (.ref 633), some (.int 0), some (.int 0)] [] M v M' 0 0 := by
  have H : Ev none e 177 4 [some (.ref 633), some (.int 0), some (.int 0)] [] M v M' 0 0 := Ev.back 4 (fun n => rfl) H
  have HF := H
  exact HF
theorem op_4 {e : Nat} {M M' : Mem} {v : Option Value} {nn k : Int32} (hS : SQ M) (H : Ev none e 177 4 [some (.ref 633), some (.int nn), some (.int k)] [] M v M' 0 0) : ((zI M 633 20) ≤ k ∧ v = some (.int nn) ∧ M' = M) ∨ (¬ ((zI M 633 20) ≤ k) ∧ (rI M 648 k) = 20 ∧ Ev none e 177 4 [some (.ref 633), some (.int (nn + 1)), some (.int (k + 1))] [] M v M' 0 0) ∨ (¬ ((zI M 633 20) ≤ k) ∧ ¬ ((rI M 648 k) = 20) ∧ (rI M 648 k) = 23 ∧ Ev none e 177 4 [some (.ref 633), some (.int (nn + 1)), some (.int (k + 1))] [] M v M' 0 0) ∨ (¬ ((zI M 633 20) ≤ k) ∧ ¬ ((rI M 648 k) = 20) ∧ ¬ ((rI M 648 k) = 23) ∧ Ev none e 177 4 [some (.ref 633), some (.int (nn + 0)), some (.int (k + 1))] [] M v M' 0 0) := by
  have H : Ev none e 177 6 [some (.ref 633), some (.int nn), some (.int k)] [.ref 633, .int k] M v M' 0 0 := Ev.back 2 (fun n => rfl) H
  have H : Ev none e 177 9 [some (.ref 633), some (.int nn), some (.int k)] [.int (zI M 633 20), .int k] M v M' 0 0 := Ev.back 1 (gs_3 rfl rfl (gf_i hS.1 qa_633 qi_61_20 rfl)) H
  have H : Ev none e 177 (if (zI M 633 20) ≤ k then 48 else 12) [some (.ref 633), some (.int nn), some (.int k)] [] M v M' 0 0 := Ev.back 1 (fun n => rfl) H
  by_cases h1 : (zI M 633 20) ≤ k
  · rw [if_pos h1] at H
    have H : Ev none e 177 49 [some (.ref 633), some (.int nn), some (.int k)] [.int nn] M v M' 0 0 := Ev.back 1 (fun n => rfl) H
    obtain ⟨z1, z2⟩ := Ev.retz rfl rfl H
    exact Or.inl ⟨h1, z1, z2⟩
  · rw [if_neg h1] at H
    have H : Ev none e 177 14 [some (.ref 633), some (.int nn), some (.int k)] [.ref 633, .int nn] M v M' 0 0 := Ev.back 2 (fun n => rfl) H
    have H : Ev none e 177 17 [some (.ref 633), some (.int nn), some (.int k)] [.ref 648, .int nn] M v M' 0 0 := Ev.back 1 (gs_3 rfl rfl (gf_u hS.1 qa_633 qr_61_18 qu_76 rfl)) H
    have H : Ev none e 177 18 [some (.ref 633), some (.int nn), some (.int k)] [.int k, .ref 648, .int nn] M v M' 0 0 := Ev.back 1 (fun n => rfl) H
    obtain ⟨b2, H⟩ := Ev.ial rfl rfl hS.1 qa_648 qw_76 H
    have H : Ev none e 177 19 [some (.ref 633), some (.int nn), some (.int k)] [.int (rI M 648 k), .int nn] M v M' 0 0 := H
    have H : Ev none e 177 (if (rI M 648 k) = 20 then 35 else 24) [some (.ref 633), some (.int nn), some (.int k)] [.int nn] M v M' 0 0 := Ev.back 2 (fun n => rfl) H
    by_cases h3 : (rI M 648 k) = 20
    · rw [if_pos h3] at H
      have H : Ev none e 177 4 [some (.ref 633), some (.int (nn + 1)), some (.int (k + 1))] [] M v M' 0 0 := Ev.back 6 (fun n => rfl) H
      have HF := H
      exact Or.inr (Or.inl ⟨h1, h3, HF⟩)
    · rw [if_neg h3] at H
      have H : Ev none e 177 25 [some (.ref 633), some (.int nn), some (.int k)] [.ref 633, .int nn] M v M' 0 0 := Ev.back 1 (fun n => rfl) H
      have H : Ev none e 177 28 [some (.ref 633), some (.int nn), some (.int k)] [.ref 648, .int nn] M v M' 0 0 := Ev.back 1 (gs_3 rfl rfl (gf_u hS.1 qa_633 qr_61_18 qu_76 rfl)) H
      have H : Ev none e 177 29 [some (.ref 633), some (.int nn), some (.int k)] [.int k, .ref 648, .int nn] M v M' 0 0 := Ev.back 1 (fun n => rfl) H
      obtain ⟨b4, H⟩ := Ev.ial rfl rfl hS.1 qa_648 qw_76 H
      have H : Ev none e 177 30 [some (.ref 633), some (.int nn), some (.int k)] [.int (rI M 648 k), .int nn] M v M' 0 0 := H
      have H : Ev none e 177 (if (rI M 648 k) = 23 then 35 else 39) [some (.ref 633), some (.int nn), some (.int k)] [.int nn] M v M' 0 0 := Ev.back 2 (fun n => rfl) H
      by_cases h5 : (rI M 648 k) = 23
      · rw [if_pos h5] at H
        have H : Ev none e 177 4 [some (.ref 633), some (.int (nn + 1)), some (.int (k + 1))] [] M v M' 0 0 := Ev.back 6 (fun n => rfl) H
        have HF := H
        exact Or.inr (Or.inr (Or.inl ⟨h1, h3, h5, HF⟩))
      · rw [if_neg h5] at H
        have H : Ev none e 177 4 [some (.ref 633), some (.int (nn + 0)), some (.int (k + 1))] [] M v M' 0 0 := Ev.back 5 (fun n => rfl) H
        have HF := H
        exact Or.inr (Or.inr (Or.inr (⟨h1, h3, h5, HF⟩)))
theorem ioq_0 {e : Nat} {M M' : Mem} {v : Option Value} (hS : SQ M) (H : Ev none e 178 0 [some (.ref 633), none] [] M v M' 0 0) : Ev none e 178 2 [some (.ref 633), some (.int 0)] [] M v M' 0 0 := by
  have H : Ev none e 178 2 [some (.ref 633), some (.int 0)] [] M v M' 0 0 := Ev.back 2 (fun n => rfl) H
  have HF := H
  exact HF
theorem ioq_2 {e : Nat} {M M' : Mem} {v : Option Value} {k : Int32} (hS : SQ M) (H : Ev none e 178 2 [some (.ref 633), some (.int k)] [] M v M' 0 0) : ((zI M 633 20) ≤ k ∧ v = some (.int 0) ∧ M' = M) ∨ (¬ ((zI M 633 20) ≤ k) ∧ (rI M 648 k) = 23 ∧ v = some (.int 1) ∧ M' = M) ∨ (¬ ((zI M 633 20) ≤ k) ∧ ¬ ((rI M 648 k) = 23) ∧ Ev none e 178 2 [some (.ref 633), some (.int (k + 1))] [] M v M' 0 0) := by
  have H : Ev none e 178 4 [some (.ref 633), some (.int k)] [.ref 633, .int k] M v M' 0 0 := Ev.back 2 (fun n => rfl) H
  have H : Ev none e 178 7 [some (.ref 633), some (.int k)] [.int (zI M 633 20), .int k] M v M' 0 0 := Ev.back 1 (gs_3 rfl rfl (gf_i hS.1 qa_633 qi_61_20 rfl)) H
  have H : Ev none e 178 (if (zI M 633 20) ≤ k then 29 else 10) [some (.ref 633), some (.int k)] [] M v M' 0 0 := Ev.back 1 (fun n => rfl) H
  by_cases h1 : (zI M 633 20) ≤ k
  · rw [if_pos h1] at H
    have H : Ev none e 178 30 [some (.ref 633), some (.int k)] [.int 0] M v M' 0 0 := Ev.back 1 (fun n => rfl) H
    obtain ⟨z1, z2⟩ := Ev.retz rfl rfl H
    exact Or.inl ⟨h1, z1, z2⟩
  · rw [if_neg h1] at H
    have H : Ev none e 178 11 [some (.ref 633), some (.int k)] [.ref 633] M v M' 0 0 := Ev.back 1 (fun n => rfl) H
    have H : Ev none e 178 14 [some (.ref 633), some (.int k)] [.ref 648] M v M' 0 0 := Ev.back 1 (gs_3 rfl rfl (gf_u hS.1 qa_633 qr_61_18 qu_76 rfl)) H
    have H : Ev none e 178 15 [some (.ref 633), some (.int k)] [.int k, .ref 648] M v M' 0 0 := Ev.back 1 (fun n => rfl) H
    obtain ⟨b2, H⟩ := Ev.ial rfl rfl hS.1 qa_648 qw_76 H
    have H : Ev none e 178 16 [some (.ref 633), some (.int k)] [.int (rI M 648 k)] M v M' 0 0 := H
    have H : Ev none e 178 (if (rI M 648 k) = 23 then 21 else 23) [some (.ref 633), some (.int k)] [] M v M' 0 0 := Ev.back 2 (fun n => rfl) H
    by_cases h3 : (rI M 648 k) = 23
    · rw [if_pos h3] at H
      have H : Ev none e 178 22 [some (.ref 633), some (.int k)] [.int 1] M v M' 0 0 := Ev.back 1 (fun n => rfl) H
      obtain ⟨z1, z2⟩ := Ev.retz rfl rfl H
      exact Or.inr (Or.inl ⟨h1, h3, z1, z2⟩)
    · rw [if_neg h3] at H
      have H : Ev none e 178 2 [some (.ref 633), some (.int (k + 1))] [] M v M' 0 0 := Ev.back 2 (fun n => rfl) H
      have HF := H
      exact Or.inr (Or.inr (⟨h1, h3, HF⟩))
theorem oe_0 {e : Nat} {M M' : Mem} {v : Option Value} {c1 c2 c3 : Option Value} (hS : SQ M) (H : Ev none e 180 0 [some (.ref 633), c1, c2, c3] [] M v M' 0 0) : ((G_164 M 7237492) = 0 ∧ 0 ≤ (G_173 M) ∧ (zI M 633 21) = 40 ∧ (∃ e1 v1 M1, e = e1 + 1 ∧ Ev none e1 163 0 [some (.ref 633), some (.int 4)] [] M v1 M1 0 0 ∧ Ev none e 180 59 [some (.ref 633), some (.int (G_164 M 7237492)), some (.int (G_173 M)), c3] (v1.toList ++ []) M1 v M' 0 0)) ∨ ((G_164 M 7237492) = 0 ∧ 0 ≤ (G_173 M) ∧ ¬ ((zI M 633 21) = 40) ∧ (∃ e1 v1 M1, e = e1 + 1 ∧ Ev none e1 177 0 [some (.ref 633), none, none] [] M v1 M1 0 0 ∧ Ev none e 180 49 [some (.ref 633), some (.int (G_164 M 7237492)), some (.int (G_173 M)), c3] (v1.toList ++ []) M1 v M' 0 0)) ∨ ((G_164 M 7237492) = 0 ∧ ¬ (0 ≤ (G_173 M)) ∧ (G_165 M 40) = 0 ∧ (∃ e1 v1 M1, e = e1 + 1 ∧ Ev none e1 163 0 [some (.ref 633), some (.int 1)] [] M v1 M1 0 0 ∧ Ev none e 180 35 [some (.ref 633), some (.int (G_164 M 7237492)), some (.int (G_173 M)), c3] (v1.toList ++ []) M1 v M' 0 0)) ∨ ((G_164 M 7237492) = 0 ∧ ¬ (0 ≤ (G_173 M)) ∧ ¬ ((G_165 M 40) = 0) ∧ (zI M 633 21) = 40 ∧ (∃ e1 v1 M1, e = e1 + 1 ∧ Ev none e1 163 0 [some (.ref 633), some (.int 4)] [] M v1 M1 0 0 ∧ Ev none e 180 59 [some (.ref 633), some (.int (G_164 M 7237492)), some (.int (G_173 M)), c3] (v1.toList ++ []) M1 v M' 0 0)) ∨ ((G_164 M 7237492) = 0 ∧ ¬ (0 ≤ (G_173 M)) ∧ ¬ ((G_165 M 40) = 0) ∧ ¬ ((zI M 633 21) = 40) ∧ (∃ e1 v1 M1, e = e1 + 1 ∧ Ev none e1 177 0 [some (.ref 633), none, none] [] M v1 M1 0 0 ∧ Ev none e 180 49 [some (.ref 633), some (.int (G_164 M 7237492)), some (.int (G_173 M)), c3] (v1.toList ++ []) M1 v M' 0 0)) ∨ (¬ ((G_164 M 7237492) = 0) ∧ (zI M 633 21) = 40 ∧ (∃ e1 v1 M1, e = e1 + 1 ∧ Ev none e1 163 0 [some (.ref 633), some (.int 4)] [] M v1 M1 0 0 ∧ Ev none e 180 59 [some (.ref 633), some (.int (G_164 M 7237492)), some (.int (G_173 M)), c3] (v1.toList ++ []) M1 v M' 0 0)) ∨ (¬ ((G_164 M 7237492) = 0) ∧ ¬ ((zI M 633 21) = 40) ∧ (∃ e1 v1 M1, e = e1 + 1 ∧ Ev none e1 177 0 [some (.ref 633), none, none] [] M v1 M1 0 0 ∧ Ev none e 180 49 [some (.ref 633), some (.int (G_164 M 7237492)), some (.int (G_173 M)), c3] (v1.toList ++ []) M1 v M' 0 0)) := by
  have H : Ev none e 180 4 [some (.ref 633), c1, c2, c3] [.long 7237492, .ref 633] M v M' 0 0 := Ev.back 2 (fun n => rfl) H
  obtain ⟨e1, rfl⟩ := Ev.dpos rfl rfl H
  obtain ⟨vK1, MK1, K1, H⟩ := Ev.callb (fun n => gs_7 rfl rfl (show gCal (.invokevirtual 248) 11 (.long 7237492 :: .ref 633 :: []) M = some (.inr (164, [some (.ref 633), some (.long 7237492), none], [])) from by show @cond (Option ((List Value × Mem) ⊕ (Nat × Lo × List Value))) (true && gRecv M (.ref 633) 11 && gRoom [] && true) (some (.inr (164, [some (.ref 633), some (.long 7237492), none], []))) none = _; rw [recv_s hS.1 qa_633 qo_61]; rfl)) H
  obtain ⟨pK1, qK1⟩ := g_164 hS K1
  rw [pK1, qK1] at H
  have H : Ev none (e1 + 1) 180 7 [some (.ref 633), c1, c2, c3] [.int (G_164 M 7237492)] M v M' 0 0 := H
  have H : Ev none (e1 + 1) 180 9 [some (.ref 633), some (.int (G_164 M 7237492)), c2, c3] [.ref 633] M v M' 0 0 := Ev.back 2 (fun n => rfl) H
  obtain ⟨vK2, MK2, K2, H⟩ := Ev.callb (fun n => gs_7 rfl rfl (show gCal (.invokevirtual 312) 11 (.ref 633 :: []) M = some (.inr (173, [some (.ref 633)], [])) from by show @cond (Option ((List Value × Mem) ⊕ (Nat × Lo × List Value))) (true && gRecv M (.ref 633) 11 && gRoom [] && true) (some (.inr (173, [some (.ref 633)], []))) none = _; rw [recv_s hS.1 qa_633 qo_61]; rfl)) H
  obtain ⟨pK2, qK2⟩ := g_173 hS K2
  rw [pK2, qK2] at H
  have H : Ev none (e1 + 1) 180 12 [some (.ref 633), some (.int (G_164 M 7237492)), c2, c3] [.int (G_173 M)] M v M' 0 0 := H
  have H : Ev none (e1 + 1) 180 (if (G_164 M 7237492) = 0 then 17 else 36) [some (.ref 633), some (.int (G_164 M 7237492)), some (.int (G_173 M)), c3] [] M v M' 0 0 := Ev.back 3 (fun n => rfl) H
  by_cases h3 : (G_164 M 7237492) = 0
  · rw [if_pos h3] at H
    have H : Ev none (e1 + 1) 180 (if 0 ≤ (G_173 M) then 36 else 21) [some (.ref 633), some (.int (G_164 M 7237492)), some (.int (G_173 M)), c3] [] M v M' 0 0 := Ev.back 2 (fun n => rfl) H
    by_cases h4 : 0 ≤ (G_173 M)
    · rw [if_pos h4] at H
      have H : Ev none (e1 + 1) 180 37 [some (.ref 633), some (.int (G_164 M 7237492)), some (.int (G_173 M)), c3] [.ref 633] M v M' 0 0 := Ev.back 1 (fun n => rfl) H
      have H : Ev none (e1 + 1) 180 40 [some (.ref 633), some (.int (G_164 M 7237492)), some (.int (G_173 M)), c3] [.int (zI M 633 21)] M v M' 0 0 := Ev.back 1 (gs_3 rfl rfl (gf_i hS.1 qa_633 qi_61_21 rfl)) H
      have H : Ev none (e1 + 1) 180 (if (zI M 633 21) = 40 then 54 else 45) [some (.ref 633), some (.int (G_164 M 7237492)), some (.int (G_173 M)), c3] [] M v M' 0 0 := Ev.back 2 (fun n => rfl) H
      by_cases h5 : (zI M 633 21) = 40
      · rw [if_pos h5] at H
        have H : Ev none (e1 + 1) 180 56 [some (.ref 633), some (.int (G_164 M 7237492)), some (.int (G_173 M)), c3] [.int 4, .ref 633] M v M' 0 0 := Ev.back 2 (fun n => rfl) H
        obtain ⟨vK6, MK6, K6, H⟩ := Ev.callb (fun n => gs_7 rfl rfl (show gCal (.invokevirtual 198) 11 (.int 4 :: .ref 633 :: []) M = some (.inr (163, [some (.ref 633), some (.int 4)], [])) from by show @cond (Option ((List Value × Mem) ⊕ (Nat × Lo × List Value))) (true && gRecv M (.ref 633) 11 && gRoom [] && true) (some (.inr (163, [some (.ref 633), some (.int 4)], []))) none = _; rw [recv_s hS.1 qa_633 qo_61]; rfl)) H
        have K6 : Ev none e1 163 0 [some (.ref 633), some (.int 4)] [] M vK6 MK6 0 0 := K6
        have HF := H
        exact Or.inl ⟨h3, h4, h5, ⟨e1, vK6, MK6, rfl, K6, HF⟩⟩
      · rw [if_neg h5] at H
        have H : Ev none (e1 + 1) 180 46 [some (.ref 633), some (.int (G_164 M 7237492)), some (.int (G_173 M)), c3] [.ref 633] M v M' 0 0 := Ev.back 1 (fun n => rfl) H
        obtain ⟨vK7, MK7, K7, H⟩ := Ev.callb (fun n => gs_7 rfl rfl (show gCal (.invokevirtual 318) 11 (.ref 633 :: []) M = some (.inr (177, [some (.ref 633), none, none], [])) from by show @cond (Option ((List Value × Mem) ⊕ (Nat × Lo × List Value))) (true && gRecv M (.ref 633) 11 && gRoom [] && true) (some (.inr (177, [some (.ref 633), none, none], []))) none = _; rw [recv_s hS.1 qa_633 qo_61]; rfl)) H
        have K7 : Ev none e1 177 0 [some (.ref 633), none, none] [] M vK7 MK7 0 0 := K7
        have HF := H
        exact Or.inr (Or.inl ⟨h3, h4, h5, ⟨e1, vK7, MK7, rfl, K7, HF⟩⟩)
    · rw [if_neg h4] at H
      have H : Ev none (e1 + 1) 180 24 [some (.ref 633), some (.int (G_164 M 7237492)), some (.int (G_173 M)), c3] [.int 40, .ref 633] M v M' 0 0 := Ev.back 2 (fun n => rfl) H
      obtain ⟨vK8, MK8, K8, H⟩ := Ev.callb (fun n => gs_7 rfl rfl (show gCal (.invokevirtual 195) 11 (.int 40 :: .ref 633 :: []) M = some (.inr (165, [some (.ref 633), some (.int 40)], [])) from by show @cond (Option ((List Value × Mem) ⊕ (Nat × Lo × List Value))) (true && gRecv M (.ref 633) 11 && gRoom [] && true) (some (.inr (165, [some (.ref 633), some (.int 40)], []))) none = _; rw [recv_s hS.1 qa_633 qo_61]; rfl)) H
      obtain ⟨pK8, qK8⟩ := g_165 hS K8
      rw [pK8, qK8] at H
      have H : Ev none (e1 + 1) 180 27 [some (.ref 633), some (.int (G_164 M 7237492)), some (.int (G_173 M)), c3] [.int (G_165 M 40)] M v M' 0 0 := H
      have H : Ev none (e1 + 1) 180 (if (G_165 M 40) = 0 then 30 else 36) [some (.ref 633), some (.int (G_164 M 7237492)), some (.int (G_173 M)), c3] [] M v M' 0 0 := Ev.back 1 (fun n => rfl) H
      by_cases h9 : (G_165 M 40) = 0
      · rw [if_pos h9] at H
        have H : Ev none (e1 + 1) 180 32 [some (.ref 633), some (.int (G_164 M 7237492)), some (.int (G_173 M)), c3] [.int 1, .ref 633] M v M' 0 0 := Ev.back 2 (fun n => rfl) H
        obtain ⟨vK10, MK10, K10, H⟩ := Ev.callb (fun n => gs_7 rfl rfl (show gCal (.invokevirtual 198) 11 (.int 1 :: .ref 633 :: []) M = some (.inr (163, [some (.ref 633), some (.int 1)], [])) from by show @cond (Option ((List Value × Mem) ⊕ (Nat × Lo × List Value))) (true && gRecv M (.ref 633) 11 && gRoom [] && true) (some (.inr (163, [some (.ref 633), some (.int 1)], []))) none = _; rw [recv_s hS.1 qa_633 qo_61]; rfl)) H
        have K10 : Ev none e1 163 0 [some (.ref 633), some (.int 1)] [] M vK10 MK10 0 0 := K10
        have HF := H
        exact Or.inr (Or.inr (Or.inl ⟨h3, h4, h9, ⟨e1, vK10, MK10, rfl, K10, HF⟩⟩))
      · rw [if_neg h9] at H
        have H : Ev none (e1 + 1) 180 37 [some (.ref 633), some (.int (G_164 M 7237492)), some (.int (G_173 M)), c3] [.ref 633] M v M' 0 0 := Ev.back 1 (fun n => rfl) H
        have H : Ev none (e1 + 1) 180 40 [some (.ref 633), some (.int (G_164 M 7237492)), some (.int (G_173 M)), c3] [.int (zI M 633 21)] M v M' 0 0 := Ev.back 1 (gs_3 rfl rfl (gf_i hS.1 qa_633 qi_61_21 rfl)) H
        have H : Ev none (e1 + 1) 180 (if (zI M 633 21) = 40 then 54 else 45) [some (.ref 633), some (.int (G_164 M 7237492)), some (.int (G_173 M)), c3] [] M v M' 0 0 := Ev.back 2 (fun n => rfl) H
        by_cases h11 : (zI M 633 21) = 40
        · rw [if_pos h11] at H
          have H : Ev none (e1 + 1) 180 56 [some (.ref 633), some (.int (G_164 M 7237492)), some (.int (G_173 M)), c3] [.int 4, .ref 633] M v M' 0 0 := Ev.back 2 (fun n => rfl) H
          obtain ⟨vK12, MK12, K12, H⟩ := Ev.callb (fun n => gs_7 rfl rfl (show gCal (.invokevirtual 198) 11 (.int 4 :: .ref 633 :: []) M = some (.inr (163, [some (.ref 633), some (.int 4)], [])) from by show @cond (Option ((List Value × Mem) ⊕ (Nat × Lo × List Value))) (true && gRecv M (.ref 633) 11 && gRoom [] && true) (some (.inr (163, [some (.ref 633), some (.int 4)], []))) none = _; rw [recv_s hS.1 qa_633 qo_61]; rfl)) H
          have K12 : Ev none e1 163 0 [some (.ref 633), some (.int 4)] [] M vK12 MK12 0 0 := K12
          have HF := H
          exact Or.inr (Or.inr (Or.inr (Or.inl ⟨h3, h4, h9, h11, ⟨e1, vK12, MK12, rfl, K12, HF⟩⟩)))
        · rw [if_neg h11] at H
          have H : Ev none (e1 + 1) 180 46 [some (.ref 633), some (.int (G_164 M 7237492)), some (.int (G_173 M)), c3] [.ref 633] M v M' 0 0 := Ev.back 1 (fun n => rfl) H
          obtain ⟨vK13, MK13, K13, H⟩ := Ev.callb (fun n => gs_7 rfl rfl (show gCal (.invokevirtual 318) 11 (.ref 633 :: []) M = some (.inr (177, [some (.ref 633), none, none], [])) from by show @cond (Option ((List Value × Mem) ⊕ (Nat × Lo × List Value))) (true && gRecv M (.ref 633) 11 && gRoom [] && true) (some (.inr (177, [some (.ref 633), none, none], []))) none = _; rw [recv_s hS.1 qa_633 qo_61]; rfl)) H
          have K13 : Ev none e1 177 0 [some (.ref 633), none, none] [] M vK13 MK13 0 0 := K13
          have HF := H
          exact Or.inr (Or.inr (Or.inr (Or.inr (Or.inl ⟨h3, h4, h9, h11, ⟨e1, vK13, MK13, rfl, K13, HF⟩⟩))))
  · rw [if_neg h3] at H
    have H : Ev none (e1 + 1) 180 37 [some (.ref 633), some (.int (G_164 M 7237492)), some (.int (G_173 M)), c3] [.ref 633] M v M' 0 0 := Ev.back 1 (fun n => rfl) H
    have H : Ev none (e1 + 1) 180 40 [some (.ref 633), some (.int (G_164 M 7237492)), some (.int (G_173 M)), c3] [.int (zI M 633 21)] M v M' 0 0 := Ev.back 1 (gs_3 rfl rfl (gf_i hS.1 qa_633 qi_61_21 rfl)) H
    have H : Ev none (e1 + 1) 180 (if (zI M 633 21) = 40 then 54 else 45) [some (.ref 633), some (.int (G_164 M 7237492)), some (.int (G_173 M)), c3] [] M v M' 0 0 := Ev.back 2 (fun n => rfl) H
    by_cases h14 : (zI M 633 21) = 40
    · rw [if_pos h14] at H
      have H : Ev none (e1 + 1) 180 56 [some (.ref 633), some (.int (G_164 M 7237492)), some (.int (G_173 M)), c3] [.int 4, .ref 633] M v M' 0 0 := Ev.back 2 (fun n => rfl) H
      obtain ⟨vK15, MK15, K15, H⟩ := Ev.callb (fun n => gs_7 rfl rfl (show gCal (.invokevirtual 198) 11 (.int 4 :: .ref 633 :: []) M = some (.inr (163, [some (.ref 633), some (.int 4)], [])) from by show @cond (Option ((List Value × Mem) ⊕ (Nat × Lo × List Value))) (true && gRecv M (.ref 633) 11 && gRoom [] && true) (some (.inr (163, [some (.ref 633), some (.int 4)], []))) none = _; rw [recv_s hS.1 qa_633 qo_61]; rfl)) H
      have K15 : Ev none e1 163 0 [some (.ref 633), some (.int 4)] [] M vK15 MK15 0 0 := K15
      have HF := H
      exact Or.inr (Or.inr (Or.inr (Or.inr (Or.inr (Or.inl ⟨h3, h14, ⟨e1, vK15, MK15, rfl, K15, HF⟩⟩)))))
    · rw [if_neg h14] at H
      have H : Ev none (e1 + 1) 180 46 [some (.ref 633), some (.int (G_164 M 7237492)), some (.int (G_173 M)), c3] [.ref 633] M v M' 0 0 := Ev.back 1 (fun n => rfl) H
      obtain ⟨vK16, MK16, K16, H⟩ := Ev.callb (fun n => gs_7 rfl rfl (show gCal (.invokevirtual 318) 11 (.ref 633 :: []) M = some (.inr (177, [some (.ref 633), none, none], [])) from by show @cond (Option ((List Value × Mem) ⊕ (Nat × Lo × List Value))) (true && gRecv M (.ref 633) 11 && gRoom [] && true) (some (.inr (177, [some (.ref 633), none, none], []))) none = _; rw [recv_s hS.1 qa_633 qo_61]; rfl)) H
      have K16 : Ev none e1 177 0 [some (.ref 633), none, none] [] M vK16 MK16 0 0 := K16
      have HF := H
      exact Or.inr (Or.inr (Or.inr (Or.inr (Or.inr (Or.inr (⟨h3, h14, ⟨e1, vK16, MK16, rfl, K16, HF⟩⟩))))))
theorem oe_35 {e : Nat} {M M' : Mem} {v : Option Value} {nt a y : Int32} {c3 : Option Value} (hS : SQ M) (H : Ev none e 180 35 [some (.ref 633), some (.int nt), some (.int a), c3] [.int y] M v M' 0 0) : v = some (.int y) ∧ M' = M := by
  obtain ⟨z1, z2⟩ := Ev.retz rfl rfl H
  exact ⟨z1, z2⟩
theorem oe_49 {e : Nat} {M M' : Mem} {v : Option Value} {nt a y : Int32} {c3 : Option Value} (hS : SQ M) (H : Ev none e 180 49 [some (.ref 633), some (.int nt), some (.int a), c3] [.int y] M v M' 0 0) : (y = 10 ∧ (∃ e1 v1 M1, e = e1 + 1 ∧ Ev none e1 163 0 [some (.ref 633), some (.int 4)] [] M v1 M1 0 0 ∧ Ev none e 180 59 [some (.ref 633), some (.int nt), some (.int a), c3] (v1.toList ++ []) M1 v M' 0 0)) ∨ (¬ (y = 10) ∧ (∃ e1 v1 M1, e = e1 + 1 ∧ Ev none e1 162 0 [some (.ref 633), none, none, none] [] (wF M 633 21 ((zI M 633 21) + 1)) v1 M1 0 0 ∧ Ev none e 180 74 [some (.ref 633), some (.int nt), some (.int a), c3] (v1.toList ++ []) M1 v M' 0 0)) := by
  have H : Ev none e 180 (if y = 10 then 54 else 60) [some (.ref 633), some (.int nt), some (.int a), c3] [] M v M' 0 0 := Ev.back 2 (fun n => rfl) H
  by_cases h1 : y = 10
  · rw [if_pos h1] at H
    have H : Ev none e 180 56 [some (.ref 633), some (.int nt), some (.int a), c3] [.int 4, .ref 633] M v M' 0 0 := Ev.back 2 (fun n => rfl) H
    obtain ⟨e1, rfl⟩ := Ev.dpos rfl rfl H
    obtain ⟨vK2, MK2, K2, H⟩ := Ev.callb (fun n => gs_7 rfl rfl (show gCal (.invokevirtual 198) 11 (.int 4 :: .ref 633 :: []) M = some (.inr (163, [some (.ref 633), some (.int 4)], [])) from by show @cond (Option ((List Value × Mem) ⊕ (Nat × Lo × List Value))) (true && gRecv M (.ref 633) 11 && gRoom [] && true) (some (.inr (163, [some (.ref 633), some (.int 4)], []))) none = _; rw [recv_s hS.1 qa_633 qo_61]; rfl)) H
    have K2 : Ev none e1 163 0 [some (.ref 633), some (.int 4)] [] M vK2 MK2 0 0 := K2
    have HF := H
    exact Or.inl ⟨h1, ⟨e1, vK2, MK2, rfl, K2, HF⟩⟩
  · rw [if_neg h1] at H
    have H : Ev none e 180 62 [some (.ref 633), some (.int nt), some (.int a), c3] [.ref 633, .ref 633] M v M' 0 0 := Ev.back 2 (fun n => rfl) H
    have H : Ev none e 180 65 [some (.ref 633), some (.int nt), some (.int a), c3] [.int (zI M 633 21), .ref 633] M v M' 0 0 := Ev.back 1 (gs_3 rfl rfl (gf_i hS.1 qa_633 qi_61_21 rfl)) H
    have H : Ev none e 180 67 [some (.ref 633), some (.int nt), some (.int a), c3] [.int ((zI M 633 21) + 1), .ref 633] M v M' 0 0 := Ev.back 2 (fun n => rfl) H
    obtain ⟨N4, eN4⟩ : ∃ N, N = (wF M 633 21 ((zI M 633 21) + 1)) := ⟨_, rfl⟩
    have hN4 : SQ N4 := by rw [eN4]; exact hS.kf
    have H : Ev none e 180 70 [some (.ref 633), some (.int nt), some (.int a), c3] [] N4 v M' 0 0 := by rw [eN4]; exact Ev.pfi rfl rfl rfl hS.1 qa_633 qi_61_21 H
    have H : Ev none e 180 71 [some (.ref 633), some (.int nt), some (.int a), c3] [.ref 633] N4 v M' 0 0 := Ev.back 1 (fun n => rfl) H
    obtain ⟨e1, rfl⟩ := Ev.dpos rfl rfl H
    obtain ⟨vK5, MK5, K5, H⟩ := Ev.callb (fun n => gs_7 rfl rfl (show gCal (.invokevirtual 201) 11 (.ref 633 :: []) N4 = some (.inr (162, [some (.ref 633), none, none, none], [])) from by show @cond (Option ((List Value × Mem) ⊕ (Nat × Lo × List Value))) (true && gRecv N4 (.ref 633) 11 && gRoom [] && true) (some (.inr (162, [some (.ref 633), none, none, none], []))) none = _; rw [recv_s hN4.1 qa_633 qo_61]; rfl)) H
    have K5 : Ev none e1 162 0 [some (.ref 633), none, none, none] [] N4 vK5 MK5 0 0 := K5
    have HF := H
    subst eN4
    exact Or.inr (⟨h1, ⟨e1, vK5, MK5, rfl, K5, HF⟩⟩)
theorem oe_59 {e : Nat} {M M' : Mem} {v : Option Value} {nt a y : Int32} {c3 : Option Value} (hS : SQ M) (H : Ev none e 180 59 [some (.ref 633), some (.int nt), some (.int a), c3] [.int y] M v M' 0 0) : v = some (.int y) ∧ M' = M := by
  obtain ⟨z1, z2⟩ := Ev.retz rfl rfl H
  exact ⟨z1, z2⟩
theorem oe_74 {e : Nat} {M M' : Mem} {v : Option Value} {nt a : Int32} {c3 : Option Value} (hS : SQ M) (H : Ev none e 180 74 [some (.ref 633), some (.int nt), some (.int a), c3] [] M v M' 0 0) : (0 ≤ a ∧ 8 ≤ a ∧ (G_165 M 60) = 0 ∧ (G_165 M 61) = 0 ∧ (G_165 M 62) = 0 ∧ (∃ e1 v1 M1, e = e1 + 1 ∧ Ev none e1 163 0 [some (.ref 633), some (.int 1)] [] M v1 M1 0 0 ∧ Ev none e 180 159 [some (.ref 633), some (.int nt), some (.int a), c3] (v1.toList ++ []) M1 v M' 0 0)) ∨ (0 ≤ a ∧ 8 ≤ a ∧ (G_165 M 60) = 0 ∧ (G_165 M 61) = 0 ∧ ¬ ((G_165 M 62) = 0) ∧ (∃ e1 v1 M1, e = e1 + 1 ∧ Ev none e1 162 0 [some (.ref 633), none, none, none] [] M v1 M1 0 0 ∧ Ev none e 180 169 [some (.ref 633), some (.int nt), some (.int a), some (.int (zI M 633 25))] (v1.toList ++ []) M1 v M' 0 0)) ∨ (0 ≤ a ∧ 8 ≤ a ∧ (G_165 M 60) = 0 ∧ ¬ ((G_165 M 61) = 0) ∧ (∃ e1 v1 M1, e = e1 + 1 ∧ Ev none e1 162 0 [some (.ref 633), none, none, none] [] M v1 M1 0 0 ∧ Ev none e 180 169 [some (.ref 633), some (.int nt), some (.int a), some (.int (zI M 633 25))] (v1.toList ++ []) M1 v M' 0 0)) ∨ (0 ≤ a ∧ 8 ≤ a ∧ ¬ ((G_165 M 60) = 0) ∧ (∃ e1 v1 M1, e = e1 + 1 ∧ Ev none e1 162 0 [some (.ref 633), none, none, none] [] M v1 M1 0 0 ∧ Ev none e 180 169 [some (.ref 633), some (.int nt), some (.int a), some (.int (zI M 633 25))] (v1.toList ++ []) M1 v M' 0 0)) ∨ (0 ≤ a ∧ ¬ (8 ≤ a) ∧ (∃ e1 v1 M1, e = e1 + 1 ∧ Ev none e1 174 0 [some (.ref 633), some (.int a), some (.int 0), some (.int 0)] [] M v1 M1 0 0 ∧ Ev none e 180 124 [some (.ref 633), some (.int nt), some (.int a), c3] (v1.toList ++ []) M1 v M' 0 0)) ∨ (¬ (0 ≤ a) ∧ nt = 0 ∧ (0 ≤ (zI M 633 20).toInt ∧ (zI M 633 20).toInt < 100) ∧ Ev none e 180 0 [some (.ref 633), some (.int nt), some (.int a), c3] [] (wF (wI M 648 ((zI M 633 20).toNatClampNeg) 23) 633 20 ((zI M 633 20) + 1)) v M' 0 0) ∨ (¬ (0 ≤ a) ∧ ¬ (nt = 0) ∧ (0 ≤ (zI M 633 20).toInt ∧ (zI M 633 20).toInt < 100) ∧ Ev none e 180 0 [some (.ref 633), some (.int nt), some (.int a), c3] [] (wF (wI M 648 ((zI M 633 20).toNatClampNeg) 20) 633 20 ((zI M 633 20) + 1)) v M' 0 0) := by
  have H : Ev none e 180 (if 0 ≤ a then 111 else 78) [some (.ref 633), some (.int nt), some (.int a), c3] [] M v M' 0 0 := Ev.back 2 (fun n => rfl) H
  by_cases h1 : 0 ≤ a
  · rw [if_pos h1] at H
    have H : Ev none e 180 (if 8 ≤ a then 127 else 117) [some (.ref 633), some (.int nt), some (.int a), c3] [] M v M' 0 0 := Ev.back 3 (fun n => rfl) H
    by_cases h2 : 8 ≤ a
    · rw [if_pos h2] at H
      have H : Ev none e 180 130 [some (.ref 633), some (.int nt), some (.int a), c3] [.int 60, .ref 633] M v M' 0 0 := Ev.back 2 (fun n => rfl) H
      obtain ⟨e1, rfl⟩ := Ev.dpos rfl rfl H
      obtain ⟨vK3, MK3, K3, H⟩ := Ev.callb (fun n => gs_7 rfl rfl (show gCal (.invokevirtual 195) 11 (.int 60 :: .ref 633 :: []) M = some (.inr (165, [some (.ref 633), some (.int 60)], [])) from by show @cond (Option ((List Value × Mem) ⊕ (Nat × Lo × List Value))) (true && gRecv M (.ref 633) 11 && gRoom [] && true) (some (.inr (165, [some (.ref 633), some (.int 60)], []))) none = _; rw [recv_s hS.1 qa_633 qo_61]; rfl)) H
      obtain ⟨pK3, qK3⟩ := g_165 hS K3
      rw [pK3, qK3] at H
      have H : Ev none (e1 + 1) 180 133 [some (.ref 633), some (.int nt), some (.int a), c3] [.int (G_165 M 60)] M v M' 0 0 := H
      have H : Ev none (e1 + 1) 180 (if (G_165 M 60) = 0 then 136 else 160) [some (.ref 633), some (.int nt), some (.int a), c3] [] M v M' 0 0 := Ev.back 1 (fun n => rfl) H
      by_cases h4 : (G_165 M 60) = 0
      · rw [if_pos h4] at H
        have H : Ev none (e1 + 1) 180 139 [some (.ref 633), some (.int nt), some (.int a), c3] [.int 61, .ref 633] M v M' 0 0 := Ev.back 2 (fun n => rfl) H
        obtain ⟨vK5, MK5, K5, H⟩ := Ev.callb (fun n => gs_7 rfl rfl (show gCal (.invokevirtual 195) 11 (.int 61 :: .ref 633 :: []) M = some (.inr (165, [some (.ref 633), some (.int 61)], [])) from by show @cond (Option ((List Value × Mem) ⊕ (Nat × Lo × List Value))) (true && gRecv M (.ref 633) 11 && gRoom [] && true) (some (.inr (165, [some (.ref 633), some (.int 61)], []))) none = _; rw [recv_s hS.1 qa_633 qo_61]; rfl)) H
        obtain ⟨pK5, qK5⟩ := g_165 hS K5
        rw [pK5, qK5] at H
        have H : Ev none (e1 + 1) 180 142 [some (.ref 633), some (.int nt), some (.int a), c3] [.int (G_165 M 61)] M v M' 0 0 := H
        have H : Ev none (e1 + 1) 180 (if (G_165 M 61) = 0 then 145 else 160) [some (.ref 633), some (.int nt), some (.int a), c3] [] M v M' 0 0 := Ev.back 1 (fun n => rfl) H
        by_cases h6 : (G_165 M 61) = 0
        · rw [if_pos h6] at H
          have H : Ev none (e1 + 1) 180 148 [some (.ref 633), some (.int nt), some (.int a), c3] [.int 62, .ref 633] M v M' 0 0 := Ev.back 2 (fun n => rfl) H
          obtain ⟨vK7, MK7, K7, H⟩ := Ev.callb (fun n => gs_7 rfl rfl (show gCal (.invokevirtual 195) 11 (.int 62 :: .ref 633 :: []) M = some (.inr (165, [some (.ref 633), some (.int 62)], [])) from by show @cond (Option ((List Value × Mem) ⊕ (Nat × Lo × List Value))) (true && gRecv M (.ref 633) 11 && gRoom [] && true) (some (.inr (165, [some (.ref 633), some (.int 62)], []))) none = _; rw [recv_s hS.1 qa_633 qo_61]; rfl)) H
          obtain ⟨pK7, qK7⟩ := g_165 hS K7
          rw [pK7, qK7] at H
          have H : Ev none (e1 + 1) 180 151 [some (.ref 633), some (.int nt), some (.int a), c3] [.int (G_165 M 62)] M v M' 0 0 := H
          have H : Ev none (e1 + 1) 180 (if (G_165 M 62) = 0 then 154 else 160) [some (.ref 633), some (.int nt), some (.int a), c3] [] M v M' 0 0 := Ev.back 1 (fun n => rfl) H
          by_cases h8 : (G_165 M 62) = 0
          · rw [if_pos h8] at H
            have H : Ev none (e1 + 1) 180 156 [some (.ref 633), some (.int nt), some (.int a), c3] [.int 1, .ref 633] M v M' 0 0 := Ev.back 2 (fun n => rfl) H
            obtain ⟨vK9, MK9, K9, H⟩ := Ev.callb (fun n => gs_7 rfl rfl (show gCal (.invokevirtual 198) 11 (.int 1 :: .ref 633 :: []) M = some (.inr (163, [some (.ref 633), some (.int 1)], [])) from by show @cond (Option ((List Value × Mem) ⊕ (Nat × Lo × List Value))) (true && gRecv M (.ref 633) 11 && gRoom [] && true) (some (.inr (163, [some (.ref 633), some (.int 1)], []))) none = _; rw [recv_s hS.1 qa_633 qo_61]; rfl)) H
            have K9 : Ev none e1 163 0 [some (.ref 633), some (.int 1)] [] M vK9 MK9 0 0 := K9
            have HF := H
            exact Or.inl ⟨h1, h2, h4, h6, h8, ⟨e1, vK9, MK9, rfl, K9, HF⟩⟩
          · rw [if_neg h8] at H
            have H : Ev none (e1 + 1) 180 161 [some (.ref 633), some (.int nt), some (.int a), c3] [.ref 633] M v M' 0 0 := Ev.back 1 (fun n => rfl) H
            have H : Ev none (e1 + 1) 180 164 [some (.ref 633), some (.int nt), some (.int a), c3] [.int (zI M 633 25)] M v M' 0 0 := Ev.back 1 (gs_3 rfl rfl (gf_i hS.1 qa_633 qi_61_25 rfl)) H
            have H : Ev none (e1 + 1) 180 166 [some (.ref 633), some (.int nt), some (.int a), some (.int (zI M 633 25))] [.ref 633] M v M' 0 0 := Ev.back 2 (fun n => rfl) H
            obtain ⟨vK10, MK10, K10, H⟩ := Ev.callb (fun n => gs_7 rfl rfl (show gCal (.invokevirtual 201) 11 (.ref 633 :: []) M = some (.inr (162, [some (.ref 633), none, none, none], [])) from by show @cond (Option ((List Value × Mem) ⊕ (Nat × Lo × List Value))) (true && gRecv M (.ref 633) 11 && gRoom [] && true) (some (.inr (162, [some (.ref 633), none, none, none], []))) none = _; rw [recv_s hS.1 qa_633 qo_61]; rfl)) H
            have K10 : Ev none e1 162 0 [some (.ref 633), none, none, none] [] M vK10 MK10 0 0 := K10
            have HF := H
            exact Or.inr (Or.inl ⟨h1, h2, h4, h6, h8, ⟨e1, vK10, MK10, rfl, K10, HF⟩⟩)
        · rw [if_neg h6] at H
          have H : Ev none (e1 + 1) 180 161 [some (.ref 633), some (.int nt), some (.int a), c3] [.ref 633] M v M' 0 0 := Ev.back 1 (fun n => rfl) H
          have H : Ev none (e1 + 1) 180 164 [some (.ref 633), some (.int nt), some (.int a), c3] [.int (zI M 633 25)] M v M' 0 0 := Ev.back 1 (gs_3 rfl rfl (gf_i hS.1 qa_633 qi_61_25 rfl)) H
          have H : Ev none (e1 + 1) 180 166 [some (.ref 633), some (.int nt), some (.int a), some (.int (zI M 633 25))] [.ref 633] M v M' 0 0 := Ev.back 2 (fun n => rfl) H
          obtain ⟨vK11, MK11, K11, H⟩ := Ev.callb (fun n => gs_7 rfl rfl (show gCal (.invokevirtual 201) 11 (.ref 633 :: []) M = some (.inr (162, [some (.ref 633), none, none, none], [])) from by show @cond (Option ((List Value × Mem) ⊕ (Nat × Lo × List Value))) (true && gRecv M (.ref 633) 11 && gRoom [] && true) (some (.inr (162, [some (.ref 633), none, none, none], []))) none = _; rw [recv_s hS.1 qa_633 qo_61]; rfl)) H
          have K11 : Ev none e1 162 0 [some (.ref 633), none, none, none] [] M vK11 MK11 0 0 := K11
          have HF := H
          exact Or.inr (Or.inr (Or.inl ⟨h1, h2, h4, h6, ⟨e1, vK11, MK11, rfl, K11, HF⟩⟩))
      · rw [if_neg h4] at H
        have H : Ev none (e1 + 1) 180 161 [some (.ref 633), some (.int nt), some (.int a), c3] [.ref 633] M v M' 0 0 := Ev.back 1 (fun n => rfl) H
        have H : Ev none (e1 + 1) 180 164 [some (.ref 633), some (.int nt), some (.int a), c3] [.int (zI M 633 25)] M v M' 0 0 := Ev.back 1 (gs_3 rfl rfl (gf_i hS.1 qa_633 qi_61_25 rfl)) H
        have H : Ev none (e1 + 1) 180 166 [some (.ref 633), some (.int nt), some (.int a), some (.int (zI M 633 25))] [.ref 633] M v M' 0 0 := Ev.back 2 (fun n => rfl) H
        obtain ⟨vK12, MK12, K12, H⟩ := Ev.callb (fun n => gs_7 rfl rfl (show gCal (.invokevirtual 201) 11 (.ref 633 :: []) M = some (.inr (162, [some (.ref 633), none, none, none], [])) from by show @cond (Option ((List Value × Mem) ⊕ (Nat × Lo × List Value))) (true && gRecv M (.ref 633) 11 && gRoom [] && true) (some (.inr (162, [some (.ref 633), none, none, none], []))) none = _; rw [recv_s hS.1 qa_633 qo_61]; rfl)) H
        have K12 : Ev none e1 162 0 [some (.ref 633), none, none, none] [] M vK12 MK12 0 0 := K12
        have HF := H
        exact Or.inr (Or.inr (Or.inr (Or.inl ⟨h1, h2, h4, ⟨e1, vK12, MK12, rfl, K12, HF⟩⟩)))
    · rw [if_neg h2] at H
      have H : Ev none e 180 121 [some (.ref 633), some (.int nt), some (.int a), c3] [.int 0, .int 0, .int a, .ref 633] M v M' 0 0 := Ev.back 4 (fun n => rfl) H
      obtain ⟨e1, rfl⟩ := Ev.dpos rfl rfl H
      obtain ⟨vK13, MK13, K13, H⟩ := Ev.callb (fun n => gs_7 rfl rfl (show gCal (.invokevirtual 294) 11 (.int 0 :: .int 0 :: .int a :: .ref 633 :: []) M = some (.inr (174, [some (.ref 633), some (.int a), some (.int 0), some (.int 0)], [])) from by show @cond (Option ((List Value × Mem) ⊕ (Nat × Lo × List Value))) (true && gRecv M (.ref 633) 11 && gRoom [] && true) (some (.inr (174, [some (.ref 633), some (.int a), some (.int 0), some (.int 0)], []))) none = _; rw [recv_s hS.1 qa_633 qo_61]; rfl)) H
      have K13 : Ev none e1 174 0 [some (.ref 633), some (.int a), some (.int 0), some (.int 0)] [] M vK13 MK13 0 0 := K13
      have HF := H
      exact Or.inr (Or.inr (Or.inr (Or.inr (Or.inl ⟨h1, h2, ⟨e1, vK13, MK13, rfl, K13, HF⟩⟩))))
  · rw [if_neg h1] at H
    have H : Ev none e 180 79 [some (.ref 633), some (.int nt), some (.int a), c3] [.ref 633] M v M' 0 0 := Ev.back 1 (fun n => rfl) H
    have H : Ev none e 180 82 [some (.ref 633), some (.int nt), some (.int a), c3] [.ref 648] M v M' 0 0 := Ev.back 1 (gs_3 rfl rfl (gf_u hS.1 qa_633 qr_61_18 qu_76 rfl)) H
    have H : Ev none e 180 83 [some (.ref 633), some (.int nt), some (.int a), c3] [.ref 633, .ref 648] M v M' 0 0 := Ev.back 1 (fun n => rfl) H
    have H : Ev none e 180 86 [some (.ref 633), some (.int nt), some (.int a), c3] [.int (zI M 633 20), .ref 648] M v M' 0 0 := Ev.back 1 (gs_3 rfl rfl (gf_i hS.1 qa_633 qi_61_20 rfl)) H
    have H : Ev none e 180 (if nt = 0 then 95 else 90) [some (.ref 633), some (.int nt), some (.int a), c3] [.int (zI M 633 20), .ref 648] M v M' 0 0 := Ev.back 2 (fun n => rfl) H
    by_cases h14 : nt = 0
    · rw [if_pos h14] at H
      have H : Ev none e 180 97 [some (.ref 633), some (.int nt), some (.int a), c3] [.int 23, .int (zI M 633 20), .ref 648] M v M' 0 0 := Ev.back 1 (fun n => rfl) H
      obtain ⟨b15, H⟩ := Ev.ias rfl rfl hS.1 qa_648 qw_76 H
      obtain ⟨N16, eN16⟩ : ∃ N, N = (wI M 648 ((zI M 633 20).toNatClampNeg) 23) := ⟨_, rfl⟩
      have hN16 : SQ N16 := by rw [eN16]; exact hS.ki
      have H : Ev none e 180 98 [some (.ref 633), some (.int nt), some (.int a), c3] [] N16 v M' 0 0 := by rw [eN16]; exact H
      have H : Ev none e 180 100 [some (.ref 633), some (.int nt), some (.int a), c3] [.ref 633, .ref 633] N16 v M' 0 0 := Ev.back 2 (fun n => rfl) H
      have H : Ev none e 180 103 [some (.ref 633), some (.int nt), some (.int a), c3] [.int (zI N16 633 20), .ref 633] N16 v M' 0 0 := Ev.back 1 (gs_3 rfl rfl (gf_i hN16.1 qa_633 qi_61_20 rfl)) H
      rw [show zI N16 633 20 = zI M 633 20 from by rw [eN16]; exact fI_wI] at H
      have H : Ev none e 180 105 [some (.ref 633), some (.int nt), some (.int a), c3] [.int ((zI M 633 20) + 1), .ref 633] N16 v M' 0 0 := Ev.back 2 (fun n => rfl) H
      obtain ⟨N18, eN18⟩ : ∃ N, N = (wF N16 633 20 ((zI M 633 20) + 1)) := ⟨_, rfl⟩
      have hN18 : SQ N18 := by rw [eN18]; exact hN16.kf
      have H : Ev none e 180 108 [some (.ref 633), some (.int nt), some (.int a), c3] [] N18 v M' 0 0 := by rw [eN18]; exact Ev.pfi rfl rfl rfl hN16.1 qa_633 qi_61_20 H
      have H : Ev none e 180 0 [some (.ref 633), some (.int nt), some (.int a), c3] [] N18 v M' 0 0 := Ev.back 1 (fun n => rfl) H
      have HF := H
      subst eN16 eN18
      exact Or.inr (Or.inr (Or.inr (Or.inr (Or.inr (Or.inl ⟨h1, h14, b15, HF⟩)))))
    · rw [if_neg h14] at H
      have H : Ev none e 180 97 [some (.ref 633), some (.int nt), some (.int a), c3] [.int 20, .int (zI M 633 20), .ref 648] M v M' 0 0 := Ev.back 2 (fun n => rfl) H
      obtain ⟨b19, H⟩ := Ev.ias rfl rfl hS.1 qa_648 qw_76 H
      obtain ⟨N20, eN20⟩ : ∃ N, N = (wI M 648 ((zI M 633 20).toNatClampNeg) 20) := ⟨_, rfl⟩
      have hN20 : SQ N20 := by rw [eN20]; exact hS.ki
      have H : Ev none e 180 98 [some (.ref 633), some (.int nt), some (.int a), c3] [] N20 v M' 0 0 := by rw [eN20]; exact H
      have H : Ev none e 180 100 [some (.ref 633), some (.int nt), some (.int a), c3] [.ref 633, .ref 633] N20 v M' 0 0 := Ev.back 2 (fun n => rfl) H
      have H : Ev none e 180 103 [some (.ref 633), some (.int nt), some (.int a), c3] [.int (zI N20 633 20), .ref 633] N20 v M' 0 0 := Ev.back 1 (gs_3 rfl rfl (gf_i hN20.1 qa_633 qi_61_20 rfl)) H
      rw [show zI N20 633 20 = zI M 633 20 from by rw [eN20]; exact fI_wI] at H
      have H : Ev none e 180 105 [some (.ref 633), some (.int nt), some (.int a), c3] [.int ((zI M 633 20) + 1), .ref 633] N20 v M' 0 0 := Ev.back 2 (fun n => rfl) H
      obtain ⟨N22, eN22⟩ : ∃ N, N = (wF N20 633 20 ((zI M 633 20) + 1)) := ⟨_, rfl⟩
      have hN22 : SQ N22 := by rw [eN22]; exact hN20.kf
      have H : Ev none e 180 108 [some (.ref 633), some (.int nt), some (.int a), c3] [] N22 v M' 0 0 := by rw [eN22]; exact Ev.pfi rfl rfl rfl hN20.1 qa_633 qi_61_20 H
      have H : Ev none e 180 0 [some (.ref 633), some (.int nt), some (.int a), c3] [] N22 v M' 0 0 := Ev.back 1 (fun n => rfl) H
      have HF := H
      subst eN20 eN22
      exact Or.inr (Or.inr (Or.inr (Or.inr (Or.inr (Or.inr (⟨h1, h14, b19, HF⟩))))))
theorem oe_124 {e : Nat} {M M' : Mem} {v : Option Value} {nt a : Int32} {c3 : Option Value} (hS : SQ M) (H : Ev none e 180 124 [some (.ref 633), some (.int nt), some (.int a), c3] [] M v M' 0 0) : (∃ e1 v1 M1, e = e1 + 1 ∧ Ev none e1 175 0 [some (.ref 633), some (.int 3)] [] M v1 M1 0 0 ∧ Ev none e 180 202 [some (.ref 633), some (.int nt), some (.int a), c3] (v1.toList ++ []) M1 v M' 0 0) := by
  have H : Ev none e 180 199 [some (.ref 633), some (.int nt), some (.int a), c3] [.int 3, .ref 633] M v M' 0 0 := Ev.back 3 (fun n => rfl) H
  obtain ⟨e1, rfl⟩ := Ev.dpos rfl rfl H
  obtain ⟨vK1, MK1, K1, H⟩ := Ev.callb (fun n => gs_7 rfl rfl (show gCal (.invokevirtual 303) 11 (.int 3 :: .ref 633 :: []) M = some (.inr (175, [some (.ref 633), some (.int 3)], [])) from by show @cond (Option ((List Value × Mem) ⊕ (Nat × Lo × List Value))) (true && gRecv M (.ref 633) 11 && gRoom [] && true) (some (.inr (175, [some (.ref 633), some (.int 3)], []))) none = _; rw [recv_s hS.1 qa_633 qo_61]; rfl)) H
  have K1 : Ev none e1 175 0 [some (.ref 633), some (.int 3)] [] M vK1 MK1 0 0 := K1
  have HF := H
  exact ⟨e1, vK1, MK1, rfl, K1, HF⟩
theorem oe_193 {e : Nat} {M M' : Mem} {v : Option Value} {nt a sg : Int32} (hS : SQ M) (H : Ev none e 180 193 [some (.ref 633), some (.int nt), some (.int a), some (.int sg)] [] M v M' 0 0) : (∃ e1 v1 M1, e = e1 + 1 ∧ Ev none e1 162 0 [some (.ref 633), none, none, none] [] M v1 M1 0 0 ∧ Ev none e 180 197 [some (.ref 633), some (.int nt), some (.int a), some (.int sg)] (v1.toList ++ []) M1 v M' 0 0) := by
  have H : Ev none e 180 194 [some (.ref 633), some (.int nt), some (.int a), some (.int sg)] [.ref 633] M v M' 0 0 := Ev.back 1 (fun n => rfl) H
  obtain ⟨e1, rfl⟩ := Ev.dpos rfl rfl H
  obtain ⟨vK1, MK1, K1, H⟩ := Ev.callb (fun n => gs_7 rfl rfl (show gCal (.invokevirtual 201) 11 (.ref 633 :: []) M = some (.inr (162, [some (.ref 633), none, none, none], [])) from by show @cond (Option ((List Value × Mem) ⊕ (Nat × Lo × List Value))) (true && gRecv M (.ref 633) 11 && gRoom [] && true) (some (.inr (162, [some (.ref 633), none, none, none], []))) none = _; rw [recv_s hS.1 qa_633 qo_61]; rfl)) H
  have K1 : Ev none e1 162 0 [some (.ref 633), none, none, none] [] M vK1 MK1 0 0 := K1
  have HF := H
  exact ⟨e1, vK1, MK1, rfl, K1, HF⟩
theorem oe_159 {e : Nat} {M M' : Mem} {v : Option Value} {nt a y : Int32} {c3 : Option Value} (hS : SQ M) (H : Ev none e 180 159 [some (.ref 633), some (.int nt), some (.int a), c3] [.int y] M v M' 0 0) : v = some (.int y) ∧ M' = M := by
  obtain ⟨z1, z2⟩ := Ev.retz rfl rfl H
  exact ⟨z1, z2⟩
theorem oe_169 {e : Nat} {M M' : Mem} {v : Option Value} {nt a sg : Int32} (hS : SQ M) (H : Ev none e 180 169 [some (.ref 633), some (.int nt), some (.int a), some (.int sg)] [] M v M' 0 0) : ((zI M 633 22) = 2 ∧ (∃ e1 v1 M1, e = e1 + 1 ∧ Ev none e1 174 0 [some (.ref 633), some (.int a), some (.int sg), some (.int (zI M 633 25))] [] M v1 M1 0 0 ∧ Ev none e 180 193 [some (.ref 633), some (.int nt), some (.int a), some (.int sg)] (v1.toList ++ []) M1 v M' 0 0)) ∨ (¬ ((zI M 633 22) = 2) ∧ (∃ e1 v1 M1, e = e1 + 1 ∧ Ev none e1 163 0 [some (.ref 633), some (.int 1)] [] M v1 M1 0 0 ∧ Ev none e 180 182 [some (.ref 633), some (.int nt), some (.int a), some (.int sg)] (v1.toList ++ []) M1 v M' 0 0)) := by
  have H : Ev none e 180 170 [some (.ref 633), some (.int nt), some (.int a), some (.int sg)] [.ref 633] M v M' 0 0 := Ev.back 1 (fun n => rfl) H
  have H : Ev none e 180 173 [some (.ref 633), some (.int nt), some (.int a), some (.int sg)] [.int (zI M 633 22)] M v M' 0 0 := Ev.back 1 (gs_3 rfl rfl (gf_i hS.1 qa_633 qi_61_22 rfl)) H
  have H : Ev none e 180 (if (zI M 633 22) = 2 then 183 else 177) [some (.ref 633), some (.int nt), some (.int a), some (.int sg)] [] M v M' 0 0 := Ev.back 2 (fun n => rfl) H
  by_cases h1 : (zI M 633 22) = 2
  · rw [if_pos h1] at H
    have H : Ev none e 180 187 [some (.ref 633), some (.int nt), some (.int a), some (.int sg)] [.ref 633, .int sg, .int a, .ref 633] M v M' 0 0 := Ev.back 4 (fun n => rfl) H
    have H : Ev none e 180 190 [some (.ref 633), some (.int nt), some (.int a), some (.int sg)] [.int (zI M 633 25), .int sg, .int a, .ref 633] M v M' 0 0 := Ev.back 1 (gs_3 rfl rfl (gf_i hS.1 qa_633 qi_61_25 rfl)) H
    obtain ⟨e1, rfl⟩ := Ev.dpos rfl rfl H
    obtain ⟨vK2, MK2, K2, H⟩ := Ev.callb (fun n => gs_7 rfl rfl (show gCal (.invokevirtual 294) 11 (.int (zI M 633 25) :: .int sg :: .int a :: .ref 633 :: []) M = some (.inr (174, [some (.ref 633), some (.int a), some (.int sg), some (.int (zI M 633 25))], [])) from by show @cond (Option ((List Value × Mem) ⊕ (Nat × Lo × List Value))) (true && gRecv M (.ref 633) 11 && gRoom [] && true) (some (.inr (174, [some (.ref 633), some (.int a), some (.int sg), some (.int (zI M 633 25))], []))) none = _; rw [recv_s hS.1 qa_633 qo_61]; rfl)) H
    have K2 : Ev none e1 174 0 [some (.ref 633), some (.int a), some (.int sg), some (.int (zI M 633 25))] [] M vK2 MK2 0 0 := K2
    have HF := H
    exact Or.inl ⟨h1, ⟨e1, vK2, MK2, rfl, K2, HF⟩⟩
  · rw [if_neg h1] at H
    have H : Ev none e 180 179 [some (.ref 633), some (.int nt), some (.int a), some (.int sg)] [.int 1, .ref 633] M v M' 0 0 := Ev.back 2 (fun n => rfl) H
    obtain ⟨e1, rfl⟩ := Ev.dpos rfl rfl H
    obtain ⟨vK3, MK3, K3, H⟩ := Ev.callb (fun n => gs_7 rfl rfl (show gCal (.invokevirtual 198) 11 (.int 1 :: .ref 633 :: []) M = some (.inr (163, [some (.ref 633), some (.int 1)], [])) from by show @cond (Option ((List Value × Mem) ⊕ (Nat × Lo × List Value))) (true && gRecv M (.ref 633) 11 && gRoom [] && true) (some (.inr (163, [some (.ref 633), some (.int 1)], []))) none = _; rw [recv_s hS.1 qa_633 qo_61]; rfl)) H
    have K3 : Ev none e1 163 0 [some (.ref 633), some (.int 1)] [] M vK3 MK3 0 0 := K3
    have HF := H
    exact Or.inr (⟨h1, ⟨e1, vK3, MK3, rfl, K3, HF⟩⟩)
theorem oe_182 {e : Nat} {M M' : Mem} {v : Option Value} {nt a sg y : Int32} (hS : SQ M) (H : Ev none e 180 182 [some (.ref 633), some (.int nt), some (.int a), some (.int sg)] [.int y] M v M' 0 0) : v = some (.int y) ∧ M' = M := by
  obtain ⟨z1, z2⟩ := Ev.retz rfl rfl H
  exact ⟨z1, z2⟩
theorem oe_197 {e : Nat} {M M' : Mem} {v : Option Value} {nt a : Int32} {c3 : Option Value} (hS : SQ M) (H : Ev none e 180 197 [some (.ref 633), some (.int nt), some (.int a), c3] [] M v M' 0 0) : (∃ e1 v1 M1, e = e1 + 1 ∧ Ev none e1 175 0 [some (.ref 633), some (.int 3)] [] M v1 M1 0 0 ∧ Ev none e 180 202 [some (.ref 633), some (.int nt), some (.int a), c3] (v1.toList ++ []) M1 v M' 0 0) := by
  have H : Ev none e 180 199 [some (.ref 633), some (.int nt), some (.int a), c3] [.int 3, .ref 633] M v M' 0 0 := Ev.back 2 (fun n => rfl) H
  obtain ⟨e1, rfl⟩ := Ev.dpos rfl rfl H
  obtain ⟨vK1, MK1, K1, H⟩ := Ev.callb (fun n => gs_7 rfl rfl (show gCal (.invokevirtual 303) 11 (.int 3 :: .ref 633 :: []) M = some (.inr (175, [some (.ref 633), some (.int 3)], [])) from by show @cond (Option ((List Value × Mem) ⊕ (Nat × Lo × List Value))) (true && gRecv M (.ref 633) 11 && gRoom [] && true) (some (.inr (175, [some (.ref 633), some (.int 3)], []))) none = _; rw [recv_s hS.1 qa_633 qo_61]; rfl)) H
  have K1 : Ev none e1 175 0 [some (.ref 633), some (.int 3)] [] M vK1 MK1 0 0 := K1
  have HF := H
  exact ⟨e1, vK1, MK1, rfl, K1, HF⟩
theorem oe_202 {e : Nat} {M M' : Mem} {v : Option Value} {nt a : Int32} {c3 : Option Value} (hS : SQ M) (H : Ev none e 180 202 [some (.ref 633), some (.int nt), some (.int a), c3] [] M v M' 0 0) : v = some (.int 1) ∧ M' = M := by
  have H : Ev none e 180 203 [some (.ref 633), some (.int nt), some (.int a), c3] [.int 1] M v M' 0 0 := Ev.back 1 (fun n => rfl) H
  obtain ⟨z1, z2⟩ := Ev.retz rfl rfl H
  exact ⟨z1, z2⟩
theorem ceq_0 {e : Nat} {M M' : Mem} {v : Option Value} {c1 : Option Value} (hS : SQ M) (H : Ev none e 179 0 [some (.ref 633), c1] [] M v M' 0 0) : Ev none e 179 5 [some (.ref 633), c1] [] (wF M 633 20 0) v M' 0 0 := by
  have H : Ev none e 179 2 [some (.ref 633), c1] [.int 0, .ref 633] M v M' 0 0 := Ev.back 2 (fun n => rfl) H
  obtain ⟨N2, eN2⟩ : ∃ N, N = (wF M 633 20 0) := ⟨_, rfl⟩
  have hN2 : SQ N2 := by rw [eN2]; exact hS.kf
  have H : Ev none e 179 5 [some (.ref 633), c1] [] N2 v M' 0 0 := by rw [eN2]; exact Ev.pfi rfl rfl rfl hS.1 qa_633 qi_61_20 H
  have HF := H
  subst eN2
  exact HF
theorem ceq_5 {e : Nat} {M M' : Mem} {v : Option Value} {c1 : Option Value} (hS : SQ M) (H : Ev none e 179 5 [some (.ref 633), c1] [] M v M' 0 0) : (∃ e1 v1 M1, e = e1 + 1 ∧ Ev none e1 180 0 [some (.ref 633), none, none, none] [] M v1 M1 0 0 ∧ Ev none e 179 9 [some (.ref 633), c1] (v1.toList ++ []) M1 v M' 0 0) := by
  have H : Ev none e 179 6 [some (.ref 633), c1] [.ref 633] M v M' 0 0 := Ev.back 1 (fun n => rfl) H
  obtain ⟨e1, rfl⟩ := Ev.dpos rfl rfl H
  obtain ⟨vK1, MK1, K1, H⟩ := Ev.callb (fun n => gs_7 rfl rfl (show gCal (.invokevirtual 297) 11 (.ref 633 :: []) M = some (.inr (180, [some (.ref 633), none, none, none], [])) from by show @cond (Option ((List Value × Mem) ⊕ (Nat × Lo × List Value))) (true && gRecv M (.ref 633) 11 && gRoom [] && true) (some (.inr (180, [some (.ref 633), none, none, none], []))) none = _; rw [recv_s hS.1 qa_633 qo_61]; rfl)) H
  have K1 : Ev none e1 180 0 [some (.ref 633), none, none, none] [] M vK1 MK1 0 0 := K1
  have HF := H
  exact ⟨e1, vK1, MK1, rfl, K1, HF⟩
theorem ceq_9 {e : Nat} {M M' : Mem} {v : Option Value} {y : Int32} {c1 : Option Value} (hS : SQ M) (H : Ev none e 179 9 [some (.ref 633), c1] [.int y] M v M' 0 0) : (y = 0 ∧ v = some (.int 0) ∧ M' = M) ∨ (¬ (y = 0) ∧ Ev none e 179 14 [some (.ref 633), c1] [] M v M' 0 0) := by
  have H : Ev none e 179 (if y = 0 then 12 else 14) [some (.ref 633), c1] [] M v M' 0 0 := Ev.back 1 (fun n => rfl) H
  by_cases h1 : y = 0
  · rw [if_pos h1] at H
    have H : Ev none e 179 13 [some (.ref 633), c1] [.int 0] M v M' 0 0 := Ev.back 1 (fun n => rfl) H
    obtain ⟨z1, z2⟩ := Ev.retz rfl rfl H
    exact Or.inl ⟨h1, z1, z2⟩
  · rw [if_neg h1] at H
    have HF := H
    exact Or.inr (⟨h1, HF⟩)
theorem ceq_14 {e : Nat} {M M' : Mem} {v : Option Value} {c1 : Option Value} (hS : SQ M) (H : Ev none e 179 14 [some (.ref 633), c1] [] M v M' 0 0) : ((G_165 M 41) = 0 ∧ Ev none e 179 57 [some (.ref 633), c1] [] M v M' 0 0) ∨ (¬ ((G_165 M 41) = 0) ∧ (∃ e1 v1 M1, e = e1 + 1 ∧ Ev none e1 178 0 [some (.ref 633), none] [] M v1 M1 0 0 ∧ Ev none e 179 27 [some (.ref 633), c1] (v1.toList ++ []) M1 v M' 0 0)) := by
  have H : Ev none e 179 17 [some (.ref 633), c1] [.int 41, .ref 633] M v M' 0 0 := Ev.back 2 (fun n => rfl) H
  obtain ⟨e1, rfl⟩ := Ev.dpos rfl rfl H
  obtain ⟨vK1, MK1, K1, H⟩ := Ev.callb (fun n => gs_7 rfl rfl (show gCal (.invokevirtual 195) 11 (.int 41 :: .ref 633 :: []) M = some (.inr (165, [some (.ref 633), some (.int 41)], [])) from by show @cond (Option ((List Value × Mem) ⊕ (Nat × Lo × List Value))) (true && gRecv M (.ref 633) 11 && gRoom [] && true) (some (.inr (165, [some (.ref 633), some (.int 41)], []))) none = _; rw [recv_s hS.1 qa_633 qo_61]; rfl)) H
  obtain ⟨pK1, qK1⟩ := g_165 hS K1
  rw [pK1, qK1] at H
  have H : Ev none (e1 + 1) 179 20 [some (.ref 633), c1] [.int (G_165 M 41)] M v M' 0 0 := H
  have H : Ev none (e1 + 1) 179 (if (G_165 M 41) = 0 then 57 else 23) [some (.ref 633), c1] [] M v M' 0 0 := Ev.back 1 (fun n => rfl) H
  by_cases h2 : (G_165 M 41) = 0
  · rw [if_pos h2] at H
    have HF := H
    exact Or.inl ⟨h2, HF⟩
  · rw [if_neg h2] at H
    have H : Ev none (e1 + 1) 179 24 [some (.ref 633), c1] [.ref 633] M v M' 0 0 := Ev.back 1 (fun n => rfl) H
    obtain ⟨vK3, MK3, K3, H⟩ := Ev.callb (fun n => gs_7 rfl rfl (show gCal (.invokevirtual 300) 11 (.ref 633 :: []) M = some (.inr (178, [some (.ref 633), none], [])) from by show @cond (Option ((List Value × Mem) ⊕ (Nat × Lo × List Value))) (true && gRecv M (.ref 633) 11 && gRoom [] && true) (some (.inr (178, [some (.ref 633), none], []))) none = _; rw [recv_s hS.1 qa_633 qo_61]; rfl)) H
    have K3 : Ev none e1 178 0 [some (.ref 633), none] [] M vK3 MK3 0 0 := K3
    have HF := H
    exact Or.inr (⟨h2, ⟨e1, vK3, MK3, rfl, K3, HF⟩⟩)
theorem ceq_27 {e : Nat} {M M' : Mem} {v : Option Value} {y : Int32} {c1 : Option Value} (hS : SQ M) (H : Ev none e 179 27 [some (.ref 633), c1] [.int y] M v M' 0 0) : (y = 0 ∧ Ev none e 179 57 [some (.ref 633), c1] [] M v M' 0 0) ∨ (¬ (y = 0) ∧ (∃ e1 v1 M1, e = e1 + 1 ∧ Ev none e1 175 0 [some (.ref 633), some (.int 1)] [] M v1 M1 0 0 ∧ Ev none e 179 35 [some (.ref 633), c1] (v1.toList ++ []) M1 v M' 0 0)) := by
  have H : Ev none e 179 (if y = 0 then 57 else 30) [some (.ref 633), c1] [] M v M' 0 0 := Ev.back 1 (fun n => rfl) H
  by_cases h1 : y = 0
  · rw [if_pos h1] at H
    have HF := H
    exact Or.inl ⟨h1, HF⟩
  · rw [if_neg h1] at H
    have H : Ev none e 179 32 [some (.ref 633), c1] [.int 1, .ref 633] M v M' 0 0 := Ev.back 2 (fun n => rfl) H
    obtain ⟨e1, rfl⟩ := Ev.dpos rfl rfl H
    obtain ⟨vK2, MK2, K2, H⟩ := Ev.callb (fun n => gs_7 rfl rfl (show gCal (.invokevirtual 303) 11 (.int 1 :: .ref 633 :: []) M = some (.inr (175, [some (.ref 633), some (.int 1)], [])) from by show @cond (Option ((List Value × Mem) ⊕ (Nat × Lo × List Value))) (true && gRecv M (.ref 633) 11 && gRoom [] && true) (some (.inr (175, [some (.ref 633), some (.int 1)], []))) none = _; rw [recv_s hS.1 qa_633 qo_61]; rfl)) H
    have K2 : Ev none e1 175 0 [some (.ref 633), some (.int 1)] [] M vK2 MK2 0 0 := K2
    have HF := H
    exact Or.inr (⟨h1, ⟨e1, vK2, MK2, rfl, K2, HF⟩⟩)
theorem ceq_35 {e : Nat} {M M' : Mem} {v : Option Value} {c1 : Option Value} (hS : SQ M) (H : Ev none e 179 35 [some (.ref 633), c1] [] M v M' 0 0) : (∃ e1 v1 M1, e = e1 + 1 ∧ Ev none e1 175 0 [some (.ref 633), some (.int 3)] [] (wF M 633 20 ((zI M 633 20) - 1)) v1 M1 0 0 ∧ Ev none e 179 50 [some (.ref 633), c1] (v1.toList ++ []) M1 v M' 0 0) := by
  have H : Ev none e 179 37 [some (.ref 633), c1] [.ref 633, .ref 633] M v M' 0 0 := Ev.back 2 (fun n => rfl) H
  have H : Ev none e 179 40 [some (.ref 633), c1] [.int (zI M 633 20), .ref 633] M v M' 0 0 := Ev.back 1 (gs_3 rfl rfl (gf_i hS.1 qa_633 qi_61_20 rfl)) H
  have H : Ev none e 179 42 [some (.ref 633), c1] [.int ((zI M 633 20) - 1), .ref 633] M v M' 0 0 := Ev.back 2 (fun n => rfl) H
  obtain ⟨N2, eN2⟩ : ∃ N, N = (wF M 633 20 ((zI M 633 20) - 1)) := ⟨_, rfl⟩
  have hN2 : SQ N2 := by rw [eN2]; exact hS.kf
  have H : Ev none e 179 45 [some (.ref 633), c1] [] N2 v M' 0 0 := by rw [eN2]; exact Ev.pfi rfl rfl rfl hS.1 qa_633 qi_61_20 H
  have H : Ev none e 179 47 [some (.ref 633), c1] [.int 3, .ref 633] N2 v M' 0 0 := Ev.back 2 (fun n => rfl) H
  obtain ⟨e1, rfl⟩ := Ev.dpos rfl rfl H
  obtain ⟨vK3, MK3, K3, H⟩ := Ev.callb (fun n => gs_7 rfl rfl (show gCal (.invokevirtual 303) 11 (.int 3 :: .ref 633 :: []) N2 = some (.inr (175, [some (.ref 633), some (.int 3)], [])) from by show @cond (Option ((List Value × Mem) ⊕ (Nat × Lo × List Value))) (true && gRecv N2 (.ref 633) 11 && gRoom [] && true) (some (.inr (175, [some (.ref 633), some (.int 3)], []))) none = _; rw [recv_s hN2.1 qa_633 qo_61]; rfl)) H
  have K3 : Ev none e1 175 0 [some (.ref 633), some (.int 3)] [] N2 vK3 MK3 0 0 := K3
  have HF := H
  subst eN2
  exact ⟨e1, vK3, MK3, rfl, K3, HF⟩
theorem ceq_50 {e : Nat} {M M' : Mem} {v : Option Value} {c1 : Option Value} (hS : SQ M) (H : Ev none e 179 50 [some (.ref 633), c1] [] M v M' 0 0) : (∃ e1 v1 M1, e = e1 + 1 ∧ Ev none e1 162 0 [some (.ref 633), none, none, none] [] M v1 M1 0 0 ∧ Ev none e 179 54 [some (.ref 633), c1] (v1.toList ++ []) M1 v M' 0 0) := by
  have H : Ev none e 179 51 [some (.ref 633), c1] [.ref 633] M v M' 0 0 := Ev.back 1 (fun n => rfl) H
  obtain ⟨e1, rfl⟩ := Ev.dpos rfl rfl H
  obtain ⟨vK1, MK1, K1, H⟩ := Ev.callb (fun n => gs_7 rfl rfl (show gCal (.invokevirtual 201) 11 (.ref 633 :: []) M = some (.inr (162, [some (.ref 633), none, none, none], [])) from by show @cond (Option ((List Value × Mem) ⊕ (Nat × Lo × List Value))) (true && gRecv M (.ref 633) 11 && gRoom [] && true) (some (.inr (162, [some (.ref 633), none, none, none], []))) none = _; rw [recv_s hS.1 qa_633 qo_61]; rfl)) H
  have K1 : Ev none e1 162 0 [some (.ref 633), none, none, none] [] M vK1 MK1 0 0 := K1
  have HF := H
  exact ⟨e1, vK1, MK1, rfl, K1, HF⟩
theorem ceq_54 {e : Nat} {M M' : Mem} {v : Option Value} {c1 : Option Value} (hS : SQ M) (H : Ev none e 179 54 [some (.ref 633), c1] [] M v M' 0 0) : Ev none e 179 14 [some (.ref 633), c1] [] M v M' 0 0 := by
  have H : Ev none e 179 14 [some (.ref 633), c1] [] M v M' 0 0 := Ev.back 1 (fun n => rfl) H
  have HF := H
  exact HF
theorem ceq_57 {e : Nat} {M M' : Mem} {v : Option Value} {c1 : Option Value} (hS : SQ M) (H : Ev none e 179 57 [some (.ref 633), c1] [] M v M' 0 0) : ((G_164 M 6385252) = 0 ∧ (G_164 M 28530) = 0 ∧ (∃ e1 v1 M1, e = e1 + 1 ∧ Ev none e1 178 0 [some (.ref 633), none] [] M v1 M1 0 0 ∧ Ev none e 179 83 [some (.ref 633), some (.int (G_164 M 6385252))] (v1.toList ++ []) M1 v M' 0 0)) ∨ ((G_164 M 6385252) = 0 ∧ ¬ ((G_164 M 28530) = 0) ∧ (∃ e1 v1 M1, e = e1 + 1 ∧ Ev none e1 175 0 [some (.ref 633), some (.int 1)] [] M v1 M1 0 0 ∧ Ev none e 179 112 [some (.ref 633), some (.int (G_164 M 6385252))] (v1.toList ++ []) M1 v M' 0 0)) ∨ (¬ ((G_164 M 6385252) = 0) ∧ (∃ e1 v1 M1, e = e1 + 1 ∧ Ev none e1 175 0 [some (.ref 633), some (.int 2)] [] M v1 M1 0 0 ∧ Ev none e 179 112 [some (.ref 633), some (.int (G_164 M 6385252))] (v1.toList ++ []) M1 v M' 0 0)) := by
  have H : Ev none e 179 61 [some (.ref 633), c1] [.long 6385252, .ref 633] M v M' 0 0 := Ev.back 2 (fun n => rfl) H
  obtain ⟨e1, rfl⟩ := Ev.dpos rfl rfl H
  obtain ⟨vK1, MK1, K1, H⟩ := Ev.callb (fun n => gs_7 rfl rfl (show gCal (.invokevirtual 248) 11 (.long 6385252 :: .ref 633 :: []) M = some (.inr (164, [some (.ref 633), some (.long 6385252), none], [])) from by show @cond (Option ((List Value × Mem) ⊕ (Nat × Lo × List Value))) (true && gRecv M (.ref 633) 11 && gRoom [] && true) (some (.inr (164, [some (.ref 633), some (.long 6385252), none], []))) none = _; rw [recv_s hS.1 qa_633 qo_61]; rfl)) H
  obtain ⟨pK1, qK1⟩ := g_164 hS K1
  rw [pK1, qK1] at H
  have H : Ev none (e1 + 1) 179 64 [some (.ref 633), c1] [.int (G_164 M 6385252)] M v M' 0 0 := H
  have H : Ev none (e1 + 1) 179 (if (G_164 M 6385252) = 0 then 69 else 99) [some (.ref 633), some (.int (G_164 M 6385252))] [] M v M' 0 0 := Ev.back 3 (fun n => rfl) H
  by_cases h2 : (G_164 M 6385252) = 0
  · rw [if_pos h2] at H
    have H : Ev none (e1 + 1) 179 73 [some (.ref 633), some (.int (G_164 M 6385252))] [.long 28530, .ref 633] M v M' 0 0 := Ev.back 2 (fun n => rfl) H
    obtain ⟨vK3, MK3, K3, H⟩ := Ev.callb (fun n => gs_7 rfl rfl (show gCal (.invokevirtual 248) 11 (.long 28530 :: .ref 633 :: []) M = some (.inr (164, [some (.ref 633), some (.long 28530), none], [])) from by show @cond (Option ((List Value × Mem) ⊕ (Nat × Lo × List Value))) (true && gRecv M (.ref 633) 11 && gRoom [] && true) (some (.inr (164, [some (.ref 633), some (.long 28530), none], []))) none = _; rw [recv_s hS.1 qa_633 qo_61]; rfl)) H
    obtain ⟨pK3, qK3⟩ := g_164 hS K3
    rw [pK3, qK3] at H
    have H : Ev none (e1 + 1) 179 76 [some (.ref 633), some (.int (G_164 M 6385252))] [.int (G_164 M 28530)] M v M' 0 0 := H
    have H : Ev none (e1 + 1) 179 (if (G_164 M 28530) = 0 then 79 else 99) [some (.ref 633), some (.int (G_164 M 6385252))] [] M v M' 0 0 := Ev.back 1 (fun n => rfl) H
    by_cases h4 : (G_164 M 28530) = 0
    · rw [if_pos h4] at H
      have H : Ev none (e1 + 1) 179 80 [some (.ref 633), some (.int (G_164 M 6385252))] [.ref 633] M v M' 0 0 := Ev.back 1 (fun n => rfl) H
      obtain ⟨vK5, MK5, K5, H⟩ := Ev.callb (fun n => gs_7 rfl rfl (show gCal (.invokevirtual 300) 11 (.ref 633 :: []) M = some (.inr (178, [some (.ref 633), none], [])) from by show @cond (Option ((List Value × Mem) ⊕ (Nat × Lo × List Value))) (true && gRecv M (.ref 633) 11 && gRoom [] && true) (some (.inr (178, [some (.ref 633), none], []))) none = _; rw [recv_s hS.1 qa_633 qo_61]; rfl)) H
      have K5 : Ev none e1 178 0 [some (.ref 633), none] [] M vK5 MK5 0 0 := K5
      have HF := H
      exact Or.inl ⟨h2, h4, ⟨e1, vK5, MK5, rfl, K5, HF⟩⟩
    · rw [if_neg h4] at H
      have H : Ev none (e1 + 1) 179 (if (G_164 M 6385252) = 0 then 108 else 104) [some (.ref 633), some (.int (G_164 M 6385252))] [.ref 633] M v M' 0 0 := Ev.back 3 (fun n => rfl) H
      rw [if_pos h2] at H
      have H : Ev none (e1 + 1) 179 109 [some (.ref 633), some (.int (G_164 M 6385252))] [.int 1, .ref 633] M v M' 0 0 := Ev.back 1 (fun n => rfl) H
      obtain ⟨vK6, MK6, K6, H⟩ := Ev.callb (fun n => gs_7 rfl rfl (show gCal (.invokevirtual 303) 11 (.int 1 :: .ref 633 :: []) M = some (.inr (175, [some (.ref 633), some (.int 1)], [])) from by show @cond (Option ((List Value × Mem) ⊕ (Nat × Lo × List Value))) (true && gRecv M (.ref 633) 11 && gRoom [] && true) (some (.inr (175, [some (.ref 633), some (.int 1)], []))) none = _; rw [recv_s hS.1 qa_633 qo_61]; rfl)) H
      have K6 : Ev none e1 175 0 [some (.ref 633), some (.int 1)] [] M vK6 MK6 0 0 := K6
      have HF := H
      exact Or.inr (Or.inl ⟨h2, h4, ⟨e1, vK6, MK6, rfl, K6, HF⟩⟩)
  · rw [if_neg h2] at H
    have H : Ev none (e1 + 1) 179 (if (G_164 M 6385252) = 0 then 108 else 104) [some (.ref 633), some (.int (G_164 M 6385252))] [.ref 633] M v M' 0 0 := Ev.back 3 (fun n => rfl) H
    rw [if_neg h2] at H
    have H : Ev none (e1 + 1) 179 109 [some (.ref 633), some (.int (G_164 M 6385252))] [.int 2, .ref 633] M v M' 0 0 := Ev.back 2 (fun n => rfl) H
    obtain ⟨vK7, MK7, K7, H⟩ := Ev.callb (fun n => gs_7 rfl rfl (show gCal (.invokevirtual 303) 11 (.int 2 :: .ref 633 :: []) M = some (.inr (175, [some (.ref 633), some (.int 2)], [])) from by show @cond (Option ((List Value × Mem) ⊕ (Nat × Lo × List Value))) (true && gRecv M (.ref 633) 11 && gRoom [] && true) (some (.inr (175, [some (.ref 633), some (.int 2)], []))) none = _; rw [recv_s hS.1 qa_633 qo_61]; rfl)) H
    have K7 : Ev none e1 175 0 [some (.ref 633), some (.int 2)] [] M vK7 MK7 0 0 := K7
    have HF := H
    exact Or.inr (Or.inr (⟨h2, ⟨e1, vK7, MK7, rfl, K7, HF⟩⟩))
theorem ceq_83 {e : Nat} {M M' : Mem} {v : Option Value} {an y : Int32} (hS : SQ M) (H : Ev none e 179 83 [some (.ref 633), some (.int an)] [.int y] M v M' 0 0) : (y = 0 ∧ (∃ e1 v1 M1, e = e1 + 1 ∧ Ev none e1 175 0 [some (.ref 633), some (.int 1)] [] M v1 M1 0 0 ∧ Ev none e 179 97 [some (.ref 633), some (.int an)] (v1.toList ++ []) M1 v M' 0 0)) ∨ (¬ (y = 0) ∧ (∃ e1 v1 M1, e = e1 + 1 ∧ Ev none e1 163 0 [some (.ref 633), some (.int 1)] [] M v1 M1 0 0 ∧ Ev none e 179 91 [some (.ref 633), some (.int an)] (v1.toList ++ []) M1 v M' 0 0)) := by
  have H : Ev none e 179 (if y = 0 then 92 else 86) [some (.ref 633), some (.int an)] [] M v M' 0 0 := Ev.back 1 (fun n => rfl) H
  by_cases h1 : y = 0
  · rw [if_pos h1] at H
    have H : Ev none e 179 94 [some (.ref 633), some (.int an)] [.int 1, .ref 633] M v M' 0 0 := Ev.back 2 (fun n => rfl) H
    obtain ⟨e1, rfl⟩ := Ev.dpos rfl rfl H
    obtain ⟨vK2, MK2, K2, H⟩ := Ev.callb (fun n => gs_7 rfl rfl (show gCal (.invokevirtual 303) 11 (.int 1 :: .ref 633 :: []) M = some (.inr (175, [some (.ref 633), some (.int 1)], [])) from by show @cond (Option ((List Value × Mem) ⊕ (Nat × Lo × List Value))) (true && gRecv M (.ref 633) 11 && gRoom [] && true) (some (.inr (175, [some (.ref 633), some (.int 1)], []))) none = _; rw [recv_s hS.1 qa_633 qo_61]; rfl)) H
    have K2 : Ev none e1 175 0 [some (.ref 633), some (.int 1)] [] M vK2 MK2 0 0 := K2
    have HF := H
    exact Or.inl ⟨h1, ⟨e1, vK2, MK2, rfl, K2, HF⟩⟩
  · rw [if_neg h1] at H
    have H : Ev none e 179 88 [some (.ref 633), some (.int an)] [.int 1, .ref 633] M v M' 0 0 := Ev.back 2 (fun n => rfl) H
    obtain ⟨e1, rfl⟩ := Ev.dpos rfl rfl H
    obtain ⟨vK3, MK3, K3, H⟩ := Ev.callb (fun n => gs_7 rfl rfl (show gCal (.invokevirtual 198) 11 (.int 1 :: .ref 633 :: []) M = some (.inr (163, [some (.ref 633), some (.int 1)], [])) from by show @cond (Option ((List Value × Mem) ⊕ (Nat × Lo × List Value))) (true && gRecv M (.ref 633) 11 && gRoom [] && true) (some (.inr (163, [some (.ref 633), some (.int 1)], []))) none = _; rw [recv_s hS.1 qa_633 qo_61]; rfl)) H
    have K3 : Ev none e1 163 0 [some (.ref 633), some (.int 1)] [] M vK3 MK3 0 0 := K3
    have HF := H
    exact Or.inr (⟨h1, ⟨e1, vK3, MK3, rfl, K3, HF⟩⟩)
theorem ceq_91 {e : Nat} {M M' : Mem} {v : Option Value} {an y : Int32} (hS : SQ M) (H : Ev none e 179 91 [some (.ref 633), some (.int an)] [.int y] M v M' 0 0) : v = some (.int y) ∧ M' = M := by
  obtain ⟨z1, z2⟩ := Ev.retz rfl rfl H
  exact ⟨z1, z2⟩
theorem ceq_97 {e : Nat} {M M' : Mem} {v : Option Value} {an : Int32} (hS : SQ M) (H : Ev none e 179 97 [some (.ref 633), some (.int an)] [] M v M' 0 0) : v = some (.int 1) ∧ M' = M := by
  have H : Ev none e 179 98 [some (.ref 633), some (.int an)] [.int 1] M v M' 0 0 := Ev.back 1 (fun n => rfl) H
  obtain ⟨z1, z2⟩ := Ev.retz rfl rfl H
  exact ⟨z1, z2⟩
theorem ceq_112 {e : Nat} {M M' : Mem} {v : Option Value} {an : Int32} (hS : SQ M) (H : Ev none e 179 112 [some (.ref 633), some (.int an)] [] M v M' 0 0) : (an = 0 ∧ (0 ≤ (zI M 633 20).toInt ∧ (zI M 633 20).toInt < 100) ∧ (∃ e1 v1 M1, e = e1 + 1 ∧ Ev none e1 162 0 [some (.ref 633), none, none, none] [] (wF (wI M 648 ((zI M 633 20).toNatClampNeg) 22) 633 20 ((zI M 633 20) + 1)) v1 M1 0 0 ∧ Ev none e 179 146 [some (.ref 633), some (.int an)] (v1.toList ++ []) M1 v M' 0 0)) ∨ (¬ (an = 0) ∧ (0 ≤ (zI M 633 20).toInt ∧ (zI M 633 20).toInt < 100) ∧ (∃ e1 v1 M1, e = e1 + 1 ∧ Ev none e1 162 0 [some (.ref 633), none, none, none] [] (wF (wI M 648 ((zI M 633 20).toNatClampNeg) 21) 633 20 ((zI M 633 20) + 1)) v1 M1 0 0 ∧ Ev none e 179 146 [some (.ref 633), some (.int an)] (v1.toList ++ []) M1 v M' 0 0)) := by
  have H : Ev none e 179 113 [some (.ref 633), some (.int an)] [.ref 633] M v M' 0 0 := Ev.back 1 (fun n => rfl) H
  have H : Ev none e 179 116 [some (.ref 633), some (.int an)] [.ref 648] M v M' 0 0 := Ev.back 1 (gs_3 rfl rfl (gf_u hS.1 qa_633 qr_61_18 qu_76 rfl)) H
  have H : Ev none e 179 117 [some (.ref 633), some (.int an)] [.ref 633, .ref 648] M v M' 0 0 := Ev.back 1 (fun n => rfl) H
  have H : Ev none e 179 120 [some (.ref 633), some (.int an)] [.int (zI M 633 20), .ref 648] M v M' 0 0 := Ev.back 1 (gs_3 rfl rfl (gf_i hS.1 qa_633 qi_61_20 rfl)) H
  have H : Ev none e 179 (if an = 0 then 129 else 124) [some (.ref 633), some (.int an)] [.int (zI M 633 20), .ref 648] M v M' 0 0 := Ev.back 2 (fun n => rfl) H
  by_cases h1 : an = 0
  · rw [if_pos h1] at H
    have H : Ev none e 179 131 [some (.ref 633), some (.int an)] [.int 22, .int (zI M 633 20), .ref 648] M v M' 0 0 := Ev.back 1 (fun n => rfl) H
    obtain ⟨b2, H⟩ := Ev.ias rfl rfl hS.1 qa_648 qw_76 H
    obtain ⟨N3, eN3⟩ : ∃ N, N = (wI M 648 ((zI M 633 20).toNatClampNeg) 22) := ⟨_, rfl⟩
    have hN3 : SQ N3 := by rw [eN3]; exact hS.ki
    have H : Ev none e 179 132 [some (.ref 633), some (.int an)] [] N3 v M' 0 0 := by rw [eN3]; exact H
    have H : Ev none e 179 134 [some (.ref 633), some (.int an)] [.ref 633, .ref 633] N3 v M' 0 0 := Ev.back 2 (fun n => rfl) H
    have H : Ev none e 179 137 [some (.ref 633), some (.int an)] [.int (zI N3 633 20), .ref 633] N3 v M' 0 0 := Ev.back 1 (gs_3 rfl rfl (gf_i hN3.1 qa_633 qi_61_20 rfl)) H
    rw [show zI N3 633 20 = zI M 633 20 from by rw [eN3]; exact fI_wI] at H
    have H : Ev none e 179 139 [some (.ref 633), some (.int an)] [.int ((zI M 633 20) + 1), .ref 633] N3 v M' 0 0 := Ev.back 2 (fun n => rfl) H
    obtain ⟨N5, eN5⟩ : ∃ N, N = (wF N3 633 20 ((zI M 633 20) + 1)) := ⟨_, rfl⟩
    have hN5 : SQ N5 := by rw [eN5]; exact hN3.kf
    have H : Ev none e 179 142 [some (.ref 633), some (.int an)] [] N5 v M' 0 0 := by rw [eN5]; exact Ev.pfi rfl rfl rfl hN3.1 qa_633 qi_61_20 H
    have H : Ev none e 179 143 [some (.ref 633), some (.int an)] [.ref 633] N5 v M' 0 0 := Ev.back 1 (fun n => rfl) H
    obtain ⟨e1, rfl⟩ := Ev.dpos rfl rfl H
    obtain ⟨vK6, MK6, K6, H⟩ := Ev.callb (fun n => gs_7 rfl rfl (show gCal (.invokevirtual 201) 11 (.ref 633 :: []) N5 = some (.inr (162, [some (.ref 633), none, none, none], [])) from by show @cond (Option ((List Value × Mem) ⊕ (Nat × Lo × List Value))) (true && gRecv N5 (.ref 633) 11 && gRoom [] && true) (some (.inr (162, [some (.ref 633), none, none, none], []))) none = _; rw [recv_s hN5.1 qa_633 qo_61]; rfl)) H
    have K6 : Ev none e1 162 0 [some (.ref 633), none, none, none] [] N5 vK6 MK6 0 0 := K6
    have HF := H
    subst eN3 eN5
    exact Or.inl ⟨h1, b2, ⟨e1, vK6, MK6, rfl, K6, HF⟩⟩
  · rw [if_neg h1] at H
    have H : Ev none e 179 131 [some (.ref 633), some (.int an)] [.int 21, .int (zI M 633 20), .ref 648] M v M' 0 0 := Ev.back 2 (fun n => rfl) H
    obtain ⟨b7, H⟩ := Ev.ias rfl rfl hS.1 qa_648 qw_76 H
    obtain ⟨N8, eN8⟩ : ∃ N, N = (wI M 648 ((zI M 633 20).toNatClampNeg) 21) := ⟨_, rfl⟩
    have hN8 : SQ N8 := by rw [eN8]; exact hS.ki
    have H : Ev none e 179 132 [some (.ref 633), some (.int an)] [] N8 v M' 0 0 := by rw [eN8]; exact H
    have H : Ev none e 179 134 [some (.ref 633), some (.int an)] [.ref 633, .ref 633] N8 v M' 0 0 := Ev.back 2 (fun n => rfl) H
    have H : Ev none e 179 137 [some (.ref 633), some (.int an)] [.int (zI N8 633 20), .ref 633] N8 v M' 0 0 := Ev.back 1 (gs_3 rfl rfl (gf_i hN8.1 qa_633 qi_61_20 rfl)) H
    rw [show zI N8 633 20 = zI M 633 20 from by rw [eN8]; exact fI_wI] at H
    have H : Ev none e 179 139 [some (.ref 633), some (.int an)] [.int ((zI M 633 20) + 1), .ref 633] N8 v M' 0 0 := Ev.back 2 (fun n => rfl) H
    obtain ⟨N10, eN10⟩ : ∃ N, N = (wF N8 633 20 ((zI M 633 20) + 1)) := ⟨_, rfl⟩
    have hN10 : SQ N10 := by rw [eN10]; exact hN8.kf
    have H : Ev none e 179 142 [some (.ref 633), some (.int an)] [] N10 v M' 0 0 := by rw [eN10]; exact Ev.pfi rfl rfl rfl hN8.1 qa_633 qi_61_20 H
    have H : Ev none e 179 143 [some (.ref 633), some (.int an)] [.ref 633] N10 v M' 0 0 := Ev.back 1 (fun n => rfl) H
    obtain ⟨e1, rfl⟩ := Ev.dpos rfl rfl H
    obtain ⟨vK11, MK11, K11, H⟩ := Ev.callb (fun n => gs_7 rfl rfl (show gCal (.invokevirtual 201) 11 (.ref 633 :: []) N10 = some (.inr (162, [some (.ref 633), none, none, none], [])) from by show @cond (Option ((List Value × Mem) ⊕ (Nat × Lo × List Value))) (true && gRecv N10 (.ref 633) 11 && gRoom [] && true) (some (.inr (162, [some (.ref 633), none, none, none], []))) none = _; rw [recv_s hN10.1 qa_633 qo_61]; rfl)) H
    have K11 : Ev none e1 162 0 [some (.ref 633), none, none, none] [] N10 vK11 MK11 0 0 := K11
    have HF := H
    subst eN8 eN10
    exact Or.inr (⟨h1, b7, ⟨e1, vK11, MK11, rfl, K11, HF⟩⟩)
theorem ceq_146 {e : Nat} {M M' : Mem} {v : Option Value} {an : Int32} (hS : SQ M) (H : Ev none e 179 146 [some (.ref 633), some (.int an)] [] M v M' 0 0) : Ev none e 179 5 [some (.ref 633), some (.int an)] [] M v M' 0 0 := by
  have H : Ev none e 179 5 [some (.ref 633), some (.int an)] [] M v M' 0 0 := Ev.back 1 (fun n => rfl) H
  have HF := H
  exact HF
/-! THE REFERENCE'S cond and one: the state, and how it moves -/
abbrev fQ : List (Nat × Nat) := [(633, 4), (633, 19), (633, 20), (633, 21), (633, 22), (633, 23), (633, 24), (633, 25), (633, 26), (633, 27), (633, 31)]
abbrev wQ : List Nat := [645, 646, 647, 648]
/-- the steps in hand -/
def SC (M : Mem) (cs : List Cdq) : Prop := (zI M 633 19).toInt = (cs.length : Int) ∧ ∀ j c, cs[j]? = some c → rN M 645 (1400 + j) = c.1 ∧ rN M 646 (1400 + j) = c.2.1 ∧ rN M 647 (1400 + j) = c.2.2
/-- the pile, its top first -/
def PLa (M : Mem) : List Int32 → Prop
  | [] => True
  | x :: Q => rN M 648 Q.length = x ∧ PLa M Q
def RC (B : Nat → Int32) (n : Nat) (M : Mem) (s : Sg) (P : List Int32) : Prop := SQ M ∧ bR M = B ∧ (zI M 633 3).toInt = (n : Int) ∧ RTk B n M s.1 ∧ wfT s.1 ∧ gdT B s.1 ∧ (zI M 633 21).toInt = (s.2.1 : Int) ∧ SC M s.2.2 ∧ (zI M 633 20).toInt = (P.length : Int) ∧ PLa M P ∧ zI M 633 26 = 0
noncomputable def bdI (x : Int32) : Int32 := if x = 20 then 3 else (if x = 21 then 2 else 1)
noncomputable def wdP (le : Int32) : List Int32 → List Cdq → List Int32 × List Cdq
  | [], cs => ([], cs)
  | x :: Q, cs => if x = 23 ∨ bdI x < le then (x :: Q, cs) else wdP le Q (cs ++ [(x, 0, 0)])
noncomputable def opS : List Int32 → Nat
  | [] => 0
  | x :: Q => opS Q + (if x = 20 ∨ x = 23 then 1 else 0)
section RST
variable {e n : Nat} {M M' : Mem} {v : Option Value} {B : Nat → Int32} {s : Sg} {P : List Int32}
theorem PLa.frm {F : List (Nat × Nat)} {W : List Nat} (hF : FB F W M M') (h : 648 ∉ W) : ∀ {P : List Int32}, PLa M P → PLa M' P
  | [], _ => trivial
  | _ :: _, hp => ⟨by rw [hF.rn h]; exact hp.1, PLa.frm hF h hp.2⟩
theorem SC.frm {F : List (Nat × Nat)} {W : List Nat} {cs : List Cdq} (hF : FB F W M M') (h : SC M cs) (h0 : (633, 19) ∉ F) (h1 : 645 ∉ W) (h2 : 646 ∉ W) (h3 : 647 ∉ W) : SC M' cs := ⟨by rw [hF.fi h0]; exact h.1, fun j c hj => by rw [hF.rn h1, hF.rn h2, hF.rn h3]; exact h.2 j c hj⟩
theorem RTk.frm {F : List (Nat × Nat)} {W : List Nat} {ts : List Tok} (hF : FB F W M M') (h : RTk B n M ts) (h0 : (633, 4) ∉ F) (h1 : (633, 22) ∉ F) (h2 : (633, 23) ∉ F) (h3 : (633, 25) ∉ F) (h4 : (633, 31) ∉ F) : RTk B n M' ts := by
  cases ts with
  | nil => exact h
  | cons t r =>
    unfold RTk at h ⊢
    dsimp only at h ⊢
    rw [hF.fi h0, hF.fi h1, hF.fi h2, hF.fi h3, hF.fl h4]
    exact h
/-- on to the next token -/
theorem RC.next (hn2 : n ≤ 440) (h : RC B n M s P) (h0 : (hdT s.1).1 ≠ 0) (h1 : (hdT s.1).1 ≠ 1) (H : Ev none e 162 0 [some (.ref 633), none, none, none] [] M v M' 0 0) : v = none ∧ FB fQ wQ M M' ∧ RC B n M' (s.1.tail, s.2.1, s.2.2) P := by
  obtain ⟨a1, a2, a3, a4, a5, a6, a7, a8, a9, a10, a11⟩ := h
  obtain ⟨r, hr⟩ := a5.ne
  have h4 := a4
  rw [hr] at h4
  obtain ⟨b1, b2⟩ := h4
  rcases b2 with ⟨b2, _⟩ | ⟨b2, _⟩ | ⟨_, _, b3, b4, b5⟩
  · exact absurd b2 h0
  · exact absurd b2 h1
  obtain ⟨g1, g2, g3, g4⟩ := nx_all hn2 (n - (hdT s.1).2.2.1) _ M (Nat.le_refl _) b3 a1 a3 b4 H
  have ht : s.1.tail = tlS (bR M) n (hdT s.1).2.2.1 := by
    rw [hr, a2]
    exact b5
  have hb : bR M' = bR M := g3.bR (by decide)
  refine ⟨g1, g3.more (by decide) (fun q hq => by cases hq), g2, hb.trans a2, by rw [g3.fi (by decide)]; exact a3, ?_, a5.tl h0 h1, fun t hm => a6 t (List.mem_of_mem_tail hm), by rw [g3.fi (by decide)]; exact a7, a8.frm g3 (by decide) List.not_mem_nil List.not_mem_nil List.not_mem_nil, by rw [g3.fi (by decide)]; exact a9, a10.frm g3 List.not_mem_nil, by rw [g3.fi (by decide)]; exact a11⟩
  show RTk B n M' s.1.tail
  rw [ht, ← a2]
  exact g4
/-- a fault -/
theorem RC.bad {k : Int32} (h : RC B n M s P) (H : Ev none e 163 0 [some (.ref 633), some (.int k)] [] M v M' 0 0) : v = some (.int 0) ∧ SQ M' ∧ FB fQ wQ M M' ∧ zI M' 633 26 = k ∧ (zI M' 633 27).toInt = ((hdT s.1).2.1 : Int) := by
  obtain ⟨a1, a2, a3, a4, a5, a6, a7, a8, a9, a10, a11⟩ := h
  obtain ⟨r, hr⟩ := a5.ne
  rw [hr] at a4
  obtain ⟨g1, g2⟩ := g_163 a1 H
  have S1 : SQ M' := by
    rw [g2]
    exact X_163_sx a1
  unfold X_163 at g2
  subst g2
  refine ⟨g1, S1, (FB.wF (by decide)).trans (FB.wF (by decide)), ?_, ?_⟩
  · rw [fI_wF_ne (fun q => absurd q.2 (by decide)), fI_wF_eq a1.1 qa_633 qi_61_26]
  · rw [fI_wF_eq a1.kf.1 qa_633 qi_61_27]
    exact a4.1
/-- a step written -/
theorem RC.write {x y z : Int32} (h : RC B n M s P) (H : Ev none e 174 0 [some (.ref 633), some (.int x), some (.int y), some (.int z)] [] M v M' 0 0) : v = none ∧ FB fQ wQ M M' ∧ RC B n M' (s.1, s.2.1, s.2.2 ++ [(x, y, z)]) P := by
  obtain ⟨a1, a2, a3, a4, a5, a6, a7, a8, a9, a10, a11⟩ := h
  obtain ⟨⟨w1, w2⟩, -, -, g1, g2⟩ := wt_0 a1 H
  obtain ⟨c1, c2⟩ := a8
  have o1 : (1400 : Int32).toInt = 1400 := rfl
  have hlen : s.2.2.length < 200 := by
    have hb := i32_any (zI M 633 19)
    by_cases hq : (zI M 633 19).toInt ≤ 2147482247
    · rw [i32_add (by omega) (by omega)] at w2
      omega
    · exfalso
      have e1 : (1400 + zI M 633 19).toInt = Int.bmod (1400 + (zI M 633 19).toInt) 4294967296 := by rw [Int32.toInt_add]; rfl
      have e2 : Int.bmod (1400 + (zI M 633 19).toInt) 4294967296 = 1400 + (zI M 633 19).toInt - 4294967296 := by
        unfold Int.bmod
        dsimp only
        split <;> omega
      omega
  have hk : (1400 + zI M 633 19).toNatClampNeg = 1400 + s.2.2.length := cl_n (by rw [i32_add (by omega) (by omega)]; omega)
  rw [hk] at g2
  have s1 : SQ (wI M 645 (1400 + s.2.2.length) x) := a1.ki
  have s2 : SQ (wI (wI M 645 (1400 + s.2.2.length) x) 646 (1400 + s.2.2.length) y) := s1.ki
  have s3 : SQ (wI (wI (wI M 645 (1400 + s.2.2.length) x) 646 (1400 + s.2.2.length) y) 647 (1400 + s.2.2.length) z) := s2.ki
  have F1 : FB [(633, 19)] [645, 646, 647] M M' := by
    rw [g2]
    exact (((FB.wI (by decide)).trans (FB.wI (by decide))).trans (FB.wI (by decide))).trans (FB.wF (by decide))
  refine ⟨g1, F1.more (by decide) (by decide), by rw [g2]; exact s3.kf, (F1.bR (by decide)).trans a2, by rw [F1.fi (by decide)]; exact a3, a4.frm F1 (by decide) (by decide) (by decide) (by decide) (by decide), a5, a6, by rw [F1.fi (by decide)]; exact a7, ⟨?_, fun j c hj => ?_⟩, by rw [F1.fi (by decide)]; exact a9, a10.frm F1 (by decide), by rw [F1.fi (by decide)]; exact a11⟩
  · rw [g2, fI_wF_eq s3.1 qa_633 qi_61_19, i32_p1 (by omega), List.length_append]
    show _ = ((s.2.2.length + 1 : Nat) : Int)
    omega
  · rw [g2, rN_wF, rN_wF, rN_wF]
    by_cases hj2 : j = s.2.2.length
    · subst hj2
      rw [List.getElem?_append_right (Nat.le_refl _), Nat.sub_self] at hj
      cases hj
      refine ⟨?_, ?_, ?_⟩
      · rw [rN_wI_ne (fun q => absurd q.1 (by decide)), rN_wI_ne (fun q => absurd q.1 (by decide)), rN_wI_eq (by rw [(a1.1.row qa_645 qw_73).2]; omega)]
      · rw [rN_wI_ne (fun q => absurd q.1 (by decide)), rN_wI_eq (by rw [(s1.1.row qa_646 qw_74).2]; omega)]
      · rw [rN_wI_eq (by rw [(s2.1.row qa_647 qw_75).2]; omega)]
    · have hlt : j < s.2.2.length := by
        have h1 := (List.getElem?_eq_some_iff.mp hj).1
        rw [List.length_append] at h1
        have h1 : j < s.2.2.length + 1 := h1
        omega
      rw [List.getElem?_append_left hlt] at hj
      have hne : 1400 + j ≠ 1400 + s.2.2.length := by omega
      rw [rN_wI_ne (fun q => hne q.2), rN_wI_ne (fun q => hne q.2), rN_wI_ne (fun q => hne q.2), rN_wI_ne (fun q => hne q.2), rN_wI_ne (fun q => hne q.2), rN_wI_ne (fun q => hne q.2), rN_wI_ne (fun q => hne q.2), rN_wI_ne (fun q => hne q.2), rN_wI_ne (fun q => hne q.2)]
      exact c2 j c hj
/-- one off the pile -/
theorem RC.pop {x : Int32} (h : RC B n M s (x :: P)) : rI M 648 (zI M 633 20 - 1) = x ∧ FB fQ wQ M (wF M 633 20 (zI M 633 20 - 1)) ∧ RC B n (wF M 633 20 (zI M 633 20 - 1)) s P := by
  obtain ⟨a1, a2, a3, a4, a5, a6, a7, a8, a9, a10, a11⟩ := h
  rw [List.length_cons] at a9
  have e1 : (zI M 633 20 - 1).toInt = (P.length : Int) := by rw [i32_m1 (by omega)]; omega
  have F1 : FB [(633, 20)] [] M (wF M 633 20 (zI M 633 20 - 1)) := FB.wF (by decide)
  refine ⟨by rw [rI_n e1]; exact a10.1, F1.more (by decide) (by decide), a1.kf, (F1.bR (by decide)).trans a2, by rw [F1.fi (by decide)]; exact a3, a4.frm F1 (by decide) (by decide) (by decide) (by decide) (by decide), a5, a6, by rw [F1.fi (by decide)]; exact a7, a8.frm F1 (by decide) (by decide) (by decide) (by decide), ?_, a10.2.frm F1 (by decide), by rw [F1.fi (by decide)]; exact a11⟩
  rw [fI_wF_eq a1.1 qa_633 qi_61_20]
  exact e1
/-- one onto the pile -/
theorem RC.push {x : Int32} (h : RC B n M s P) (hl : (zI M 633 20).toInt < 100) : FB fQ wQ M (wF (wI M 648 ((zI M 633 20).toNatClampNeg) x) 633 20 (zI M 633 20 + 1)) ∧ RC B n (wF (wI M 648 ((zI M 633 20).toNatClampNeg) x) 633 20 (zI M 633 20 + 1)) s (x :: P) := by
  obtain ⟨a1, a2, a3, a4, a5, a6, a7, a8, a9, a10, a11⟩ := h
  have hk : (zI M 633 20).toNatClampNeg = P.length := cl_n a9
  rw [hk]
  have F1 : FB [(633, 20)] [648] M (wF (wI M 648 P.length x) 633 20 (zI M 633 20 + 1)) := (FB.wI (by decide)).trans (FB.wF (by decide))
  refine ⟨F1.more (by decide) (by decide), a1.ki.kf, (F1.bR (by decide)).trans a2, by rw [F1.fi (by decide)]; exact a3, a4.frm F1 (by decide) (by decide) (by decide) (by decide) (by decide), a5, a6, by rw [F1.fi (by decide)]; exact a7, a8.frm F1 (by decide) (by decide) (by decide) (by decide), ?_, ⟨?_, ?_⟩, by rw [F1.fi (by decide)]; exact a11⟩
  · rw [fI_wF_eq a1.ki.1 qa_633 qi_61_20, i32_p1 (by omega), List.length_cons]
    omega
  · rw [rN_wF, rN_wI_eq (by rw [(a1.1.row qa_648 qw_76).2]; omega)]
  · have hq : ∀ (Q : List Int32), Q.length ≤ P.length → PLa M Q → PLa (wF (wI M 648 P.length x) 633 20 (zI M 633 20 + 1)) Q := by
      intro Q
      induction Q with
      | nil => intro _ _; trivial
      | cons y Q ih =>
        intro hl2 hp
        rw [List.length_cons] at hl2
        refine ⟨?_, ih (by omega) hp.2⟩
        rw [rN_wF, rN_wI_ne (fun q => by omega)]
        exact hp.1
    exact hq P (Nat.le_refl _) a10
/-- the binding ones off the pile -/
theorem RC.wdown {le : Int32} : ∀ (P : List Int32) (s : Sg) (M : Mem), RC B n M s P → Ev none e 175 0 [some (.ref 633), some (.int le)] [] M v M' 0 0 → v = none ∧ FB fQ wQ M M' ∧ RC B n M' (s.1, s.2.1, (wdP le P s.2.2).2) (wdP le P s.2.2).1 := by
  intro P
  have z0 : (0 : Int32).toInt = 0 := rfl
  induction P with
  | nil =>
    intro s M h H
    have h9 := h.2.2.2.2.2.2.2.2.1
    rcases wdq_0 h.1 H with ⟨_, g1, rfl⟩ | ⟨q, _⟩ | ⟨q, _⟩ | ⟨q, _⟩
    · exact ⟨g1, FB.refl _, h⟩
    all_goals exact absurd (Int32.le_iff_toInt_le.mpr (by rw [h9, z0]; exact Int.le_refl _)) q
  | cons x P ih =>
    intro s M h H
    have h9 := h.2.2.2.2.2.2.2.2.1
    rw [List.length_cons] at h9
    obtain ⟨t1, F1, R1⟩ := h.pop
    have hb : G_176 M x = bdI x := rfl
    unfold wdP
    rcases wdq_0 h.1 H with ⟨q, _⟩ | ⟨_, q, g1, rfl⟩ | ⟨_, q, q2, g1, rfl⟩ | ⟨_, q, q2, e1, v1, M1, he, H1, H⟩
    · rw [Int32.le_iff_toInt_le] at q
      omega
    · rw [t1] at q
      rw [if_pos (Or.inl q)]
      exact ⟨g1, FB.refl _, h⟩
    · rw [t1, hb] at q2
      rw [if_pos (Or.inr q2)]
      exact ⟨g1, FB.refl _, h⟩
    · rw [t1] at q q2
      rw [hb] at q2
      rw [if_neg (fun r => r.elim q q2)]
      rw [t1] at H1
      obtain ⟨rfl, F2, R2⟩ := R1.write H1
      have H := wdq_66 R2.1 H
      obtain ⟨g1, F3, R3⟩ := ih _ _ R2 H
      exact ⟨g1, (F1.trans F2).trans F3, R3⟩
theorem opS_le : ∀ P : List Int32, opS P ≤ P.length
  | [] => Nat.le_refl _
  | x :: Q => by
    have := opS_le Q
    unfold opS
    rw [List.length_cons]
    split <;> omega
theorem PLa.sfx : ∀ {P : List Int32}, PLa M P → ∀ m, m ≤ P.length → ∃ Q, Q.length = m ∧ PLa M Q ∧ ∃ L, P = L ++ Q := by
  intro P
  induction P with
  | nil =>
    intro h m hm
    exact ⟨[], by cases hm; rfl, h, [], rfl⟩
  | cons x P ih =>
    intro h m hm
    by_cases hq : m = (x :: P).length
    · exact ⟨x :: P, hq.symm, h, [], rfl⟩
    · rw [List.length_cons] at hm hq
      obtain ⟨Q, q1, q2, L, rfl⟩ := ih h.2 m (by omega)
      exact ⟨Q, q1, q2, x :: L, rfl⟩
/-- how many are not closed -/
theorem op_loop (h : RC B n M s P) : ∀ (j : Nat) (Q : List Int32) (nn k : Int32), (∃ L, P = L ++ Q) → Q.length + j = P.length → k.toInt = (Q.length : Int) → nn.toInt = (opS Q : Int) → Ev none e 177 4 [some (.ref 633), some (.int nn), some (.int k)] [] M v M' 0 0 → (∃ y : Int32, y.toInt = (opS P : Int) ∧ v = some (.int y)) ∧ M' = M := by
  intro j
  have h9 := h.2.2.2.2.2.2.2.2.1
  have o1 : (1 : Int32).toInt = 1 := rfl
  induction j with
  | zero =>
    intro Q nn k hQ hj hk hnn H
    obtain ⟨L, rfl⟩ := hQ
    rw [List.length_append] at hj
    have hL : L = [] := List.length_eq_zero_iff.mp (by omega)
    subst hL
    rcases op_4 h.1 H with ⟨_, g1, g2⟩ | ⟨q, _⟩ | ⟨q, _⟩ | ⟨q, _⟩
    · exact ⟨⟨nn, hnn, g1⟩, g2⟩
    all_goals exact absurd (Int32.le_iff_toInt_le.mpr (by rw [h9, hk]; exact Int.le_refl _)) q
  | succ j ih =>
    intro Q nn k hQ hj hk hnn H
    obtain ⟨Q2, q1, q2, L2, q3⟩ := h.2.2.2.2.2.2.2.2.2.1.sfx (Q.length + 1) (by omega)
    obtain ⟨L, hL⟩ := hQ
    cases Q2 with
    | nil => cases q1
    | cons x Q3 =>
      rw [List.length_cons] at q1
      have hQQ : Q3 = Q := by
        rw [hL] at q3
        have e1 : L ++ Q = (L2 ++ [x]) ++ Q3 := by rw [q3, List.append_assoc]; rfl
        exact ((List.append_inj' e1 (by omega)).2).symm
      subst hQQ
      have hkx : rI M 648 k = x := by rw [rI_n hk]; exact q2.1
      have hk1 : (k + 1).toInt = (((x :: Q3).length : Nat) : Int) := by rw [i32_p1 (by have := i32_any (zI M 633 20); omega), List.length_cons]; omega
      have hop := opS_le Q3
      have hnn1 : (nn + 1).toInt = (opS Q3 : Int) + 1 := by rw [i32_p1 (by have := i32_any (zI M 633 20); omega)]; omega
      rcases op_4 h.1 H with ⟨q, _⟩ | ⟨_, g1, H⟩ | ⟨_, g1, g2, H⟩ | ⟨_, g1, g2, H⟩
      · rw [Int32.le_iff_toInt_le] at q
        omega
      · rw [hkx] at g1
        refine ih (x :: Q3) _ _ ⟨L2, q3⟩ (by rw [List.length_cons]; omega) hk1 ?_ H
        rw [hnn1]
        show _ = ((opS Q3 + (if x = 20 ∨ x = 23 then 1 else 0) : Nat) : Int)
        rw [if_pos (Or.inl g1)]
        rfl
      · rw [hkx] at g2
        refine ih (x :: Q3) _ _ ⟨L2, q3⟩ (by rw [List.length_cons]; omega) hk1 ?_ H
        rw [hnn1]
        show _ = ((opS Q3 + (if x = 20 ∨ x = 23 then 1 else 0) : Nat) : Int)
        rw [if_pos (Or.inr g2)]
        rfl
      · rw [hkx] at g1 g2
        refine ih (x :: Q3) _ _ ⟨L2, q3⟩ (by rw [List.length_cons]; omega) hk1 ?_ H
        rw [Int32.add_zero, hnn]
        show _ = ((opS Q3 + (if x = 20 ∨ x = 23 then 1 else 0) : Nat) : Int)
        rw [if_neg (fun q => q.elim g1 g2)]
        rfl
theorem RC.opn (h : RC B n M s P) (H : Ev none e 177 0 [some (.ref 633), none, none] [] M v M' 0 0) : (∃ y : Int32, y.toInt = (opS P : Int) ∧ v = some (.int y)) ∧ M' = M := by
  have H := op_0 h.1 H
  exact op_loop h P.length [] 0 0 ⟨P, (List.append_nil P).symm⟩ (by rw [List.length_nil]; omega) rfl rfl H
/-- whether one is not closed -/
theorem ioq_loop (h : RC B n M s P) : ∀ (j : Nat) (Q : List Int32) (k : Int32), (∃ L, P = L ++ Q) → Q.length + j = P.length → k.toInt = (Q.length : Int) → (∀ x ∈ Q, x ≠ 23) → Ev none e 178 2 [some (.ref 633), some (.int k)] [] M v M' 0 0 → ((v = some (.int 1) ∧ 23 ∈ P) ∨ (v = some (.int 0) ∧ 23 ∉ P)) ∧ M' = M := by
  intro j
  have h9 := h.2.2.2.2.2.2.2.2.1
  induction j with
  | zero =>
    intro Q k hQ hj hk hno H
    obtain ⟨L, rfl⟩ := hQ
    rw [List.length_append] at hj
    have hL : L = [] := List.length_eq_zero_iff.mp (by omega)
    subst hL
    rcases ioq_2 h.1 H with ⟨_, g1, g2⟩ | ⟨q, _⟩ | ⟨q, _⟩
    · exact ⟨Or.inr ⟨g1, fun q => hno 23 q rfl⟩, g2⟩
    all_goals exact absurd (Int32.le_iff_toInt_le.mpr (by rw [h9, hk]; exact Int.le_refl _)) q
  | succ j ih =>
    intro Q k hQ hj hk hno H
    obtain ⟨Q2, q1, q2, L2, q3⟩ := h.2.2.2.2.2.2.2.2.2.1.sfx (Q.length + 1) (by omega)
    obtain ⟨L, hL⟩ := hQ
    cases Q2 with
    | nil => cases q1
    | cons x Q3 =>
      rw [List.length_cons] at q1
      have hQQ : Q3 = Q := by
        rw [hL] at q3
        have e1 : L ++ Q = (L2 ++ [x]) ++ Q3 := by rw [q3, List.append_assoc]; rfl
        exact ((List.append_inj' e1 (by omega)).2).symm
      subst hQQ
      have hkx : rI M 648 k = x := by rw [rI_n hk]; exact q2.1
      have hk1 : (k + 1).toInt = (((x :: Q3).length : Nat) : Int) := by rw [i32_p1 (by have := i32_any (zI M 633 20); omega), List.length_cons]; omega
      rcases ioq_2 h.1 H with ⟨q, _⟩ | ⟨_, g1, g2, g3⟩ | ⟨_, g1, H⟩
      · rw [Int32.le_iff_toInt_le] at q
        omega
      · rw [hkx] at g1
        refine ⟨Or.inl ⟨g2, ?_⟩, g3⟩
        rw [q3, g1]
        exact List.mem_append_right _ List.mem_cons_self
      · rw [hkx] at g1
        refine ih (x :: Q3) _ ⟨L2, q3⟩ (by rw [List.length_cons]; omega) hk1 (fun y hy => ?_) H
        rcases List.mem_cons.mp hy with rfl | hy
        · exact g1
        · exact hno y hy
theorem RC.isOpen (h : RC B n M s P) (H : Ev none e 178 0 [some (.ref 633), none] [] M v M' 0 0) : ((v = some (.int 1) ∧ 23 ∈ P) ∨ (v = some (.int 0) ∧ 23 ∉ P)) ∧ M' = M := by
  have H := ioq_0 h.1 H
  exact ioq_loop h P.length [] 0 ⟨P, (List.append_nil P).symm⟩ (by rw [List.length_nil]; omega) rfl (fun x hx => by cases hx) H
end RST
/-! THE REFERENCE'S WORDS AND SIGNS -/
theorem lg0 {x y : Int64} : lg_cmp x y = 0 ↔ x = y := by
  unfold lg_cmp
  by_cases h : x > y
  · rw [if_pos h]
    refine ⟨fun q => absurd q (by decide), fun q => ?_⟩
    rw [q] at h
    exact absurd h (Int64.lt_irrefl)
  · rw [if_neg h]
    by_cases h2 : x = y
    · rw [if_pos h2]
      exact ⟨fun _ => h2, fun _ => rfl⟩
    · rw [if_neg h2]
      exact ⟨fun q => absurd q (by decide), fun q => absurd q h2⟩
/-- words with what they stand for -/
noncomputable def chP (x : Int64) : List (Int64 × Int32) → Int32
  | [] => -1
  | (C, i) :: r => if lg_cmp x C = 0 then i else chP x r
noncomputable def ixP (w : List Int32) : List (List Int32 × Int32) → Int32
  | [] => -1
  | (u, i) :: r => if w = u then i else ixP w r
theorem chP_ok {w : List Int32} (hw : okW w) : ∀ (l : List (List Int32 × Int32)), (∀ q ∈ l, okW q.1) → chP (pkF w) (l.map (fun q => (pkF q.1, q.2))) = ixP w l := by
  intro l
  induction l with
  | nil => intro _; rfl
  | cons q r ih =>
    intro h
    obtain ⟨u, i⟩ := q
    show (if lg_cmp (pkF w) (pkF u) = 0 then i else chP (pkF w) (r.map (fun q => (pkF q.1, q.2)))) = if w = u then i else ixP w r
    rw [ih (fun q hq => h q (List.mem_cons_of_mem _ hq))]
    have hu := h (u, i) List.mem_cons_self
    congr 1
    exact propext (lg0.trans ⟨fun q => pkq_inj hw hu q, fun q => by rw [q]⟩)
theorem ixP_nil : ∀ (l : List (List Int32 × Int32)), (∀ q ∈ l, q.1 ≠ []) → ixP [] l = -1 := by
  intro l
  induction l with
  | nil => intro _; rfl
  | cons q r ih =>
    intro h
    obtain ⟨u, i⟩ := q
    show (if [] = u then i else ixP [] r) = -1
    rw [if_neg (fun x => h (u, i) List.mem_cons_self x.symm)]
    exact ih (fun q hq => h q (List.mem_cons_of_mem _ hq))
def okBw (w : List Int32) : Bool := decide (w.length ≤ 6) && (decide (w ≠ []) && w.all (fun c => decide (1 ≤ c.toInt) && decide (c.toInt ≤ 255)))
theorem okBw_V {w : List Int32} (h : okBw w = true) : okW w ∧ w ≠ [] := by
  obtain ⟨h1, h2⟩ := and_t h
  obtain ⟨h2, h3⟩ := and_t h2
  refine ⟨⟨of_decide_eq_true h1, fun c hc => ?_⟩, of_decide_eq_true h2⟩
  obtain ⟨a, b⟩ := and_t (List.all_eq_true.mp h3 c hc)
  exact ⟨of_decide_eq_true a, of_decide_eq_true b⟩
section WRD
variable {n : Nat} {M : Mem} {B : Nat → Int32} {ts : List Tok}
/-- what the reference holds of its token -/
theorem RTk.tok (h : RTk B n M ts) (hg : gdT B ts) : ((hdT ts).1 = 2 ∧ zI M 633 22 = 1 ∧ okW (wdS B (hdT ts)) ∧ fL M 633 31 = pkF (wdS B (hdT ts))) ∨ ((hdT ts).1 ≠ 2 ∧ zI M 633 22 ≠ 1 ∧ wdS B (hdT ts) = []) := by
  cases ts with
  | nil => exact h.elim
  | cons t r =>
    obtain ⟨_, h⟩ := h
    show (t.1 = 2 ∧ _) ∨ (t.1 ≠ 2 ∧ _)
    have nw : t.1 ≠ 2 → wdS B t = [] := fun q => by
      unfold wdS
      rw [if_neg q]
    rcases h with ⟨h1, h2⟩ | ⟨h1, h2⟩ | ⟨_, h1, _⟩
    · have q : t.1 ≠ 2 := by rw [h1]; decide
      refine Or.inr ⟨q, ?_, nw q⟩
      rw [h2]
      split <;> decide
    · have q : t.1 ≠ 2 := by rw [h1]; decide
      refine Or.inr ⟨q, ?_, nw q⟩
      rw [h2]
      decide
    · rcases h1 with ⟨q, h2, h3, h4⟩ | ⟨h1, h2, _⟩ | ⟨h1, h2, _⟩
      · have hw : wdS B t = slS B t.2.1 (t.2.2.1 - t.2.1) := by
          unfold wdS
          rw [if_pos q]
        refine Or.inl ⟨q, h2, ?_, ?_⟩
        · show okW (wdS B t)
          rw [hw]
          exact (hg t List.mem_cons_self).1 q h3
        · show fL M 633 31 = pkF (wdS B t)
          rw [hw]
          exact h4
      · have q : t.1 ≠ 2 := by rw [h1]; decide
        refine Or.inr ⟨q, ?_, nw q⟩
        rw [h2]
        decide
      · have q : t.1 ≠ 2 := fun x => by rw [x] at h1; revert h1; decide
        refine Or.inr ⟨q, ?_, nw q⟩
        rw [h2]
        decide
theorem RTk.ch (h : RTk B n M ts) (hg : gdT B ts) (l : List (List Int32 × Int32)) (hl : ∀ q ∈ l, okBw q.1 = true) : (if zI M 633 22 = 1 then chP (fL M 633 31) (l.map (fun q => (pkF q.1, q.2))) else -1) = ixP (wdS B (hdT ts)) l := by
  rcases h.tok hg with ⟨_, h2, h3, h4⟩ | ⟨_, h2, h3⟩
  · rw [if_pos h2, h4]
    exact chP_ok h3 l (fun q hq => (okBw_V (hl q hq)).1)
  · rw [if_neg h2, h3]
    exact (ixP_nil l (fun q hq => (okBw_V (hl q hq)).2)).symm
theorem RTk.word {u : List Int32} {C : Int64} (h : RTk B n M ts) (hg : gdT B ts) (hu : okBw u = true) (hC : pkF u = C) : (G_164 M C = 1 ∧ wdS B (hdT ts) = u) ∨ (G_164 M C = 0 ∧ wdS B (hdT ts) ≠ u) := by
  unfold G_164
  obtain ⟨u1, u2⟩ := okBw_V hu
  rcases h.tok hg with ⟨_, h2, h3, h4⟩ | ⟨_, h2, h3⟩
  · rw [if_pos h2, h4, ← hC]
    by_cases q : wdS B (hdT ts) = u
    · rw [if_pos (lg0.mpr (by rw [q]))]
      exact Or.inl ⟨rfl, q⟩
    · rw [if_neg (fun x => q (pkq_inj h3 u1 (lg0.mp x)))]
      exact Or.inr ⟨rfl, q⟩
  · rw [if_neg h2, h3]
    exact Or.inr ⟨rfl, fun q => u2 q.symm⟩
theorem RTk.sign {c : Int32} (h : RTk B n M ts) (hc : c = 59 ∨ c = 40 ∨ c = 41 ∨ c = 60 ∨ c = 61 ∨ c = 62) : (G_165 M c = 1 ∧ (hdT ts).1 = c ∧ zI M 633 25 = c) ∨ (G_165 M c = 0 ∧ (hdT ts).1 ≠ c) := by
  unfold G_165
  cases ts with
  | nil => exact h.elim
  | cons t r =>
    obtain ⟨_, h⟩ := h
    show (_ ∧ t.1 = c ∧ _) ∨ (_ ∧ t.1 ≠ c)
    have no : zI M 633 22 ≠ 3 → t.1 ≠ c → ((if zI M 633 22 = 3 then (if zI M 633 25 = c then (1 : Int32) else 0) else 0) = 1 ∧ t.1 = c ∧ zI M 633 25 = c) ∨ ((if zI M 633 22 = 3 then (if zI M 633 25 = c then (1 : Int32) else 0) else 0) = 0 ∧ t.1 ≠ c) := fun q1 q2 => Or.inr ⟨by rw [if_neg q1], q2⟩
    have ne : ∀ x : Int32, x = 0 ∨ x = 1 ∨ x = 2 ∨ x = 3 → t.1 = x → t.1 ≠ c := fun x hx q q2 => by
      rw [q] at q2
      rw [← q2] at hc
      rcases hx with rfl | rfl | rfl | rfl <;> revert hc <;> decide
    rcases h with ⟨h1, h2⟩ | ⟨h1, h2⟩ | ⟨_, h1, _⟩
    · refine no ?_ (ne 0 (Or.inl rfl) h1)
      rw [h2]
      split <;> decide
    · exact no (by rw [h2]; decide) (ne 1 (Or.inr (Or.inl rfl)) h1)
    · rcases h1 with ⟨h1, h2, _⟩ | ⟨h1, h2, _⟩ | ⟨h1, h2, h3⟩
      · exact no (by rw [h2]; decide) (ne 2 (Or.inr (Or.inr (Or.inl rfl))) h1)
      · exact no (by rw [h2]; decide) (ne 3 (Or.inr (Or.inr (Or.inr rfl))) h1)
      · rw [if_pos h2, h3]
        by_cases q : t.1 = c
        · rw [if_pos q]
          exact Or.inl ⟨rfl, q, q⟩
        · rw [if_neg q]
          exact Or.inr ⟨rfl, q⟩
/-- a number -/
theorem RTk.num (h : RTk B n M ts) : (zI M 633 22 = 2 ∧ (hdT ts).1 = 3 ∧ zI M 633 25 = (hdT ts).2.2.2) ∨ (zI M 633 22 ≠ 2 ∧ (hdT ts).1 ≠ 3) := by
  cases ts with
  | nil => exact h.elim
  | cons t r =>
    obtain ⟨_, h⟩ := h
    show (_ ∧ t.1 = 3 ∧ _) ∨ (_ ∧ t.1 ≠ 3)
    rcases h with ⟨h1, h2⟩ | ⟨h1, h2⟩ | ⟨_, h1, _⟩
    · refine Or.inr ⟨?_, by rw [h1]; decide⟩
      rw [h2]
      split <;> decide
    · exact Or.inr ⟨by rw [h2]; decide, by rw [h1]; decide⟩
    · rcases h1 with ⟨h1, h2, _⟩ | ⟨h1, h2, h3⟩ | ⟨h1, h2, h3⟩
      · exact Or.inr ⟨by rw [h2]; decide, by rw [h1]; decide⟩
      · exact Or.inl ⟨h2, h1, h3⟩
      · refine Or.inr ⟨by rw [h2]; decide, fun x => ?_⟩
        rw [x] at h1
        revert h1
        decide
def atoL : List (List Int32 × Int32) := [([103, 114, 97, 115, 115], 0), ([103, 114, 97, 118, 101, 108], 1), ([98, 101, 100], 2), ([112, 97, 118, 101, 100], 3), ([115, 116, 101, 112, 115], 4), ([115, 105, 103, 110], 5), ([109, 117, 100, 100, 121], 6), ([119, 111, 114, 110], 7), ([119, 101, 97, 114], 8), ([119, 101, 116], 9), ([104, 101, 105, 103, 104, 116], 10), ([116, 114, 111, 100], 11)]
def notW : List Int32 := [110, 111, 116]
theorem pk_ato : atoL.map (fun q => (pkF q.1, q.2)) = [(444300620659, 0), (113740959081836, 1), (6448484, 2), (482671486308, 3), (495874044019, 4), (1936287598, 5), (470120948857, 6), (2003792494, 7), (2003132786, 8), (7824756, 9), (114784769370228, 10), (1953656676, 11)] := by decide +kernel
theorem ok_ato : ∀ q ∈ atoL, okBw q.1 = true := by decide +kernel
theorem RTk.atom (h : RTk B n M ts) (hg : gdT B ts) : G_173 M = ixP (wdS B (hdT ts)) atoL := by
  rw [← h.ch hg atoL ok_ato, pk_ato]
  rfl
/-- the ONES' words: what the class counts -/
theorem one_ix (w : List Int32) : ixF w oneW 0 = if w = notW then 12 else ixP w atoL := by
  by_cases h : w = notW
  · rw [if_pos h, h]
    decide +kernel
  · rw [if_neg h]
    show (if w = _ then (0 : Int32) else if w = _ then (0 + 1 : Int32) else if w = _ then (0 + 1 + 1 : Int32) else if w = _ then (0 + 1 + 1 + 1 : Int32) else if w = _ then (0 + 1 + 1 + 1 + 1 : Int32) else if w = _ then (0 + 1 + 1 + 1 + 1 + 1 : Int32) else if w = _ then (0 + 1 + 1 + 1 + 1 + 1 + 1 : Int32) else if w = _ then (0 + 1 + 1 + 1 + 1 + 1 + 1 + 1 : Int32) else if w = _ then (0 + 1 + 1 + 1 + 1 + 1 + 1 + 1 + 1 : Int32) else if w = _ then (0 + 1 + 1 + 1 + 1 + 1 + 1 + 1 + 1 + 1 : Int32) else if w = _ then (0 + 1 + 1 + 1 + 1 + 1 + 1 + 1 + 1 + 1 + 1 : Int32) else if w = _ then (0 + 1 + 1 + 1 + 1 + 1 + 1 + 1 + 1 + 1 + 1 + 1 : Int32) else if w = notW then _ else (-1 : Int32)) = _
    rw [if_neg h]
    rfl
theorem ixP_rng {w : List Int32} : ∀ (l : List (List Int32 × Int32)), (∀ q ∈ l, (0 : Int32) ≤ q.2) → (ixP w l = -1) ∨ (0 : Int32) ≤ ixP w l := by
  intro l
  induction l with
  | nil => intro _; exact Or.inl rfl
  | cons q r ih =>
    intro h
    obtain ⟨u, i⟩ := q
    show (if w = u then i else ixP w r) = -1 ∨ (0 : Int32) ≤ if w = u then i else ixP w r
    by_cases hq : w = u
    · rw [if_pos hq]
      exact Or.inr (h (u, i) List.mem_cons_self)
    · rw [if_neg hq]
      exact ih (fun q hq => h q (List.mem_cons_of_mem _ hq))
end WRD
/-! THE REFERENCE'S cond and one tell what the parser tells -/
section MAC
variable {n : Nat} {B : Nat → Int32}
/-- an ONE is to come -/
def EXP (d : Nat) (M M' : Mem) (v : Option Value) : Prop := ∃ (c0 c1 c2 c3 v1 : Option Value) (M1 : Mem), Ev none d 180 0 [some (.ref 633), c1, c2, c3] [] M v1 M1 0 0 ∧ Ev none (d + 1) 179 9 [some (.ref 633), c0] (v1.toList ++ []) M1 v M' 0 0
/-- an ONE is behind -/
def BST (d : Nat) (M M' : Mem) (v : Option Value) : Prop := ∃ c0 : Option Value, Ev none (d + 1) 179 14 [some (.ref 633), c0] [] M v M' 0 0
def FLT (M M' : Mem) (v : Option Value) (f : Int32 × Nat) : Prop := v = some (.int 0) ∧ SQ M' ∧ FB fQ wQ M M' ∧ zI M' 633 26 = f.1 ∧ (zI M' 633 27).toInt = (f.2 : Int)
theorem FLT.pre {M M1 M' : Mem} {v : Option Value} {f : Int32 × Nat} (h : FB fQ wQ M M1) (h2 : FLT M1 M' v f) : FLT M M' v f := ⟨h2.1, h2.2.1, h.trans h2.2.2.1, h2.2.2.2⟩
/-- ops that wait, their steps -/
def opsC (pend : List Int32) : List Cdq := pend.map (fun x => (x, 0, 0))
theorem wdP_1 {P : List Int32} (hP : P = [] ∨ ∃ Q, P = 23 :: Q) : ∀ (pend : List Int32) (cs : List Cdq), (∀ x ∈ pend, x = 21 ∨ x = 22) → wdP 1 (pend ++ P) cs = (P, cs ++ opsC pend) := by
  intro pend
  induction pend with
  | nil =>
    intro cs _
    rcases hP with rfl | ⟨Q, rfl⟩
    · show ([], cs) = ([], cs ++ [])
      rw [List.append_nil]
    · show (if (23 : Int32) = 23 ∨ bdI 23 < 1 then ((23 : Int32) :: Q, cs) else _) = _
      rw [if_pos (Or.inl rfl)]
      show _ = (_, cs ++ [])
      rw [List.append_nil]
  | cons x pend ih =>
    intro cs h
    show (if x = 23 ∨ bdI x < 1 then (x :: (pend ++ P), cs) else wdP 1 (pend ++ P) (cs ++ [(x, 0, 0)])) = _
    have hx : ¬ (x = 23 ∨ bdI x < 1) := by
      rcases h x List.mem_cons_self with rfl | rfl <;> decide
    rw [if_neg hx, ih _ (fun y hy => h y (List.mem_cons_of_mem _ hy)), List.append_assoc]
    rfl
theorem wdP_3 {P : List Int32} (hP : P = [] ∨ ∃ x Q, P = x :: Q ∧ x ≠ 20) (cs : List Cdq) : wdP 3 P cs = (P, cs) := by
  rcases hP with rfl | ⟨x, Q, rfl, hx⟩
  · rfl
  · show (if x = 23 ∨ bdI x < 3 then (x :: Q, cs) else _) = _
    rw [if_pos]
    unfold bdI
    rw [if_neg hx]
    right
    split <;> decide
theorem wdP_not {P : List Int32} {cs : List Cdq} : wdP 3 (20 :: P) cs = wdP 3 P (cs ++ [(20, 0, 0)]) := by
  show (if (20 : Int32) = 23 ∨ bdI 20 < 3 then _ else wdP 3 P (cs ++ [(20, 0, 0)])) = _
  rw [if_neg (by decide)]
/-- what an ONE, ALL, COND of the parser is to the machine -/
def MOne (B : Nat → Int32) (n : Nat) (D : Nat → Prop) (O : Nat → Sg → PR) : Prop := ∀ (d dep : Nat) (s : Sg) (P : List Int32) (M M' : Mem) (v : Option Value), D dep → opS P + 1 = dep → dep ≤ 11 → RC B n M s P → s.2.1 ≤ 40 → EXP d M M' v → match O dep s with
  | .inr f => FLT M M' v f
  | .inl s2 => ∃ M2, FB fQ wQ M M2 ∧ RC B n M2 (s2.1, s2.2.1, (wdP 3 P s2.2.2).2) (wdP 3 P s2.2.2).1 ∧ BST d M2 M' v
def MAll (B : Nat → Int32) (n : Nat) (D : Nat → Prop) (A : Nat → Sg → PR) : Prop := ∀ (d dep : Nat) (s : Sg) (P : List Int32) (M M' : Mem) (v : Option Value), D dep → opS P + 1 = dep → dep ≤ 11 → (P = [] ∨ (∃ Q, P = 23 :: Q) ∨ ∃ Q, P = 22 :: Q) → RC B n M s P → s.2.1 ≤ 40 → EXP d M M' v → match A dep s with
  | .inr f => FLT M M' v f
  | .inl s2 => ∃ M2 pend c, (∀ x ∈ pend, x = (21 : Int32)) ∧ s2.2.2 = c ++ opsC pend ∧ wdS B (hdT s2.1) ≠ andW ∧ FB fQ wQ M M2 ∧ RC B n M2 (s2.1, s2.2.1, c) (pend ++ P) ∧ BST d M2 M' v
def MCon (B : Nat → Int32) (n : Nat) (D : Nat → Prop) (C : Nat → Sg → PR) : Prop := ∀ (d dep : Nat) (s : Sg) (P : List Int32) (M M' : Mem) (v : Option Value), D dep → opS P + 1 = dep → dep ≤ 11 → (P = [] ∨ ∃ Q, P = 23 :: Q) → RC B n M s P → s.2.1 ≤ 40 → EXP d M M' v → match C dep s with
  | .inr f => FLT M M' v f
  | .inl s2 => ∃ M2 pend c, (∀ x ∈ pend, x = (21 : Int32) ∨ x = 22) ∧ s2.2.2 = c ++ opsC pend ∧ wdS B (hdT s2.1) ≠ andW ∧ wdS B (hdT s2.1) ≠ orW ∧ FB fQ wQ M M2 ∧ RC B n M2 (s2.1, s2.2.1, c) (pend ++ P) ∧ BST d M2 M' v
/-- a fault in an ONE ends it all -/
theorem bad_end {d : Nat} {M M0 M1 M' : Mem} {v v0 v1 : Option Value} {s : Sg} {P : List Int32} {k : Int32} {c0 : Option Value} {e : Nat} (hR : RC B n M s P) (H1 : Ev none e 163 0 [some (.ref 633), some (.int k)] [] M v0 M0 0 0) (hr : ∀ y : Int32, v0 = some (.int y) → SQ M0 → v1 = some (.int y) ∧ M1 = M0) (H : Ev none (d + 1) 179 9 [some (.ref 633), c0] (v1.toList ++ []) M1 v M' 0 0) : FLT M M' v (k, (hdT s.1).2.1) := by
  obtain ⟨rfl, S0, F0, r1, r2⟩ := hR.bad H1
  obtain ⟨rfl, rfl⟩ := hr 0 rfl S0
  rcases ceq_9 S0 H with ⟨_, h3, rfl⟩ | ⟨h3, _⟩
  · exact ⟨h3, S0, F0, r1, r2⟩
  · exact absurd rfl h3
/-- an ONE comes to its end -/
theorem one_end {d e : Nat} {M M1 M' : Mem} {v v1 v3 : Option Value} {M3 : Mem} {s : Sg} {P : List Int32} {c0 c3 : Option Value} {nt a : Int32} (hR : RC B n M s P) (H1 : Ev none e 175 0 [some (.ref 633), some (.int 3)] [] M v3 M3 0 0) (H2 : SQ M3 → v3 = none → v1 = some (.int 1) ∧ M1 = M3) (H : Ev none (d + 1) 179 9 [some (.ref 633), c0] (v1.toList ++ []) M1 v M' 0 0) : ∃ M2, FB fQ wQ M M2 ∧ RC B n M2 (s.1, s.2.1, (wdP 3 P s.2.2).2) (wdP 3 P s.2.2).1 ∧ BST d M2 M' v := by
  obtain ⟨rfl, F1, R1⟩ := RC.wdown P s M hR H1
  obtain ⟨rfl, rfl⟩ := H2 R1.1 rfl
  rcases ceq_9 R1.1 H with ⟨h3, _⟩ | ⟨_, H⟩
  · exact absurd h3 (by decide)
  · exact ⟨_, F1, R1, _, H⟩
theorem RC.ones {M : Mem} {s : Sg} {P : List Int32} (h : RC B n M s P) (h40 : s.2.1 < 40) : FB fQ wQ M (wF M 633 21 (zI M 633 21 + 1)) ∧ RC B n (wF M 633 21 (zI M 633 21 + 1)) (s.1, s.2.1 + 1, s.2.2) P := by
  obtain ⟨a1, a2, a3, a4, a5, a6, a7, a8, a9, a10, a11⟩ := h
  have F1 : FB [(633, 21)] [] M (wF M 633 21 (zI M 633 21 + 1)) := FB.wF (by decide)
  refine ⟨F1.more (by decide) (by decide), a1.kf, (F1.bR (by decide)).trans a2, by rw [F1.fi (by decide)]; exact a3, a4.frm F1 (by decide) (by decide) (by decide) (by decide) (by decide), a5, a6, ?_, a8.frm F1 (by decide) (by decide) (by decide) (by decide), by rw [F1.fi (by decide)]; exact a9, a10.frm F1 (by decide), by rw [F1.fi (by decide)]; exact a11⟩
  rw [fI_wF_eq a1.1 qa_633 qi_61_21, i32_p1 (by omega)]
  dsimp only
  omega
end MAC
/-! THE REFERENCE'S one -/
section MAD
variable {n : Nat} {B : Nat → Int32}
theorem opS_20 {P : List Int32} : opS (20 :: P) = opS P + 1 := rfl
theorem opS_23 {P : List Int32} : opS (23 :: P) = opS P + 1 := rfl
/-- behind the first token of an ONE -/
theorem one_74 {C O : Nat → Sg → PR} {DC DO : Nat → Prop} (hn2 : n ≤ 440) (hC : MCon B n DC C) (hO : MOne B n DO O) (gC : ∀ dep s s2, C dep s = .inl s2 → Gw s s2) (gO : ∀ dep s s2, O dep s = .inl s2 → Gw s s2) {d dep : Nat} {s : Sg} {P : List Int32} {M M1 M' : Mem} {v v1 : Option Value} {nt a : Int32} {c0 c3 : Option Value} (hDC : DC (dep + 1)) (hDO : DO (dep + 1)) (hdep : opS P + 1 = dep) (hd10 : dep ≤ 10) (hR : RC B n M s P) (h40 : s.2.1 ≤ 40) (hnt : (nt = 1 ∧ a = -1) ∨ (nt = 0 ∧ (a = -1 ∨ (0 ≤ a.toInt ∧ a.toInt ≤ 11)))) (H1 : Ev none d 180 74 [some (.ref 633), some (.int nt), some (.int a), c3] [] M v1 M1 0 0) (H : Ev none (d + 1) 179 9 [some (.ref 633), c0] (v1.toList ++ []) M1 v M' 0 0) : match (if nt = 0 ∧ a = -1 then (match C (dep + 1) s with
    | .inr f => .inr f
    | .inl s2 => if (hdT s2.1).1 ≠ 41 then .inr (1, (hdT s2.1).2.1) else .inl (s2.1.tail, s2.2.1, s2.2.2))
  else if nt = 1 then (match O (dep + 1) s with
    | .inr f => .inr f
    | .inl s2 => .inl (s2.1, s2.2.1, s2.2.2 ++ [(20, 0, 0)]))
  else if 8 ≤ a then cmpS a s
  else .inl (s.1, s.2.1, s.2.2 ++ [(a, 0, 0)]) : PR) with
  | .inr f => FLT M M' v f
  | .inl s2 => ∃ M2, FB fQ wQ M M2 ∧ RC B n M2 (s2.1, s2.2.1, (wdP 3 P s2.2.2).2) (wdP 3 P s2.2.2).1 ∧ BST d M2 M' v := by
  have z0 : (0 : Int32).toInt = 0 := rfl
  have hm1 : ∀ {x : Int32}, x = -1 → ¬ 0 ≤ x := fun {x} q => by rw [q]; decide
  -- the sign of a comparison
  have cmp : ∀ {e1 : Nat} {v3 : Option Value} {M3 : Mem} {c : Int32}, 0 ≤ a.toInt → 8 ≤ a → (c = 60 ∨ c = 61 ∨ c = 62) → (hdT s.1).1 = c → zI M 633 25 = c → Ev none e1 162 0 [some (.ref 633), none, none, none] [] M v3 M3 0 0 → Ev none d 180 169 [some (.ref 633), some (.int nt), some (.int a), some (.int (zI M 633 25))] (v3.toList ++ []) M3 v1 M1 0 0 → (match cmpS a s with
  | .inr f => FLT M M' v f
  | .inl s2 => ∃ M2, FB fQ wQ M M2 ∧ RC B n M2 (s2.1, s2.2.1, (wdP 3 P s2.2.2).2) (wdP 3 P s2.2.2).1 ∧ BST d M2 M' v) := by
    intro e1 v3 M3 c ha ha8 hc h1 h25 H3 H2
    have q0 : (hdT s.1).1 ≠ 0 := fun q => by rw [h1] at q; rw [q] at hc; revert hc; decide
    have q1 : (hdT s.1).1 ≠ 1 := fun q => by rw [h1] at q; rw [q] at hc; revert hc; decide
    obtain ⟨rfl, F1, R1⟩ := hR.next hn2 q0 q1 H3
    have H2 : Ev none d 180 169 [some (.ref 633), some (.int nt), some (.int a), some (.int (zI M 633 25))] [] M3 v1 M1 0 0 := H2
    unfold cmpS
    rw [if_neg (fun q => hc.elim (fun q2 => q.1 (h1.trans q2)) (fun q2 => q2.elim (fun q2 => q.2.1 (h1.trans q2)) (fun q2 => q.2.2 (h1.trans q2))))]
    rcases oe_169 R1.1 H2 with ⟨g1, e2, v4, M4, rfl, H4, H2⟩ | ⟨g1, e2, v4, M4, rfl, H4, H2⟩
    · rcases R1.2.2.2.1.num with ⟨_, b2, b3⟩ | ⟨b1, _⟩
      rotate_left
      · exact absurd g1 b1
      have b2 : (hdT s.1.tail).1 = 3 := b2
      rw [if_neg (fun q => q b2)]
      obtain ⟨rfl, F2, R2⟩ := R1.write H4
      obtain ⟨e3, v5, M5, _, H5, H2⟩ := oe_193 R2.1 H2
      obtain ⟨rfl, F3, R3⟩ := R2.next hn2 (by rw [show (hdT (s.1.tail, s.2.1, s.2.2 ++ [(a, zI M 633 25, zI M3 633 25)]).1).1 = 3 from b2]; decide) (by rw [show (hdT (s.1.tail, s.2.1, s.2.2 ++ [(a, zI M 633 25, zI M3 633 25)]).1).1 = 3 from b2]; decide) H5
      obtain ⟨e4, v6, M6, _, H6, H2⟩ := oe_197 R3.1 H2
      obtain ⟨M7, F4, R4, hB⟩ := one_end (nt := nt) (a := a) (c3 := c3) R3 H6 (fun S q => by subst q; exact oe_202 S H2) H
      refine ⟨M7, ((F1.trans F2).trans F3).trans F4, ?_, hB⟩
      have b3 : zI M3 633 25 = (hdT s.1.tail).2.2.2 := b3
      have e9 : s.2.2 ++ [(a, zI M 633 25, zI M3 633 25)] = s.2.2 ++ [(a, (hdT s.1).1, (hdT s.1.tail).2.2.2)] := by rw [b3, h25, h1]
      dsimp only at R4 ⊢
      rw [← e9]
      exact R4
    · rcases R1.2.2.2.1.num with ⟨b1, _⟩ | ⟨_, b2⟩
      · exact absurd b1 g1
      have b2 : (hdT s.1.tail).1 ≠ 3 := b2
      rw [if_pos b2]
      exact FLT.pre F1 (bad_end R1 H4 (fun y hy S => by subst hy; exact oe_182 S H2) H)
  rcases oe_74 hR.1 H1 with ⟨g1, g2, g3, g4, g5, e1, v3, M3, rfl, H3, H2⟩ | ⟨g1, g2, g3, g4, g5, e1, v3, M3, rfl, H3, H2⟩ | ⟨g1, g2, g3, g4, e1, v3, M3, rfl, H3, H2⟩ | ⟨g1, g2, g3, e1, v3, M3, rfl, H3, H2⟩ | ⟨g1, g2, e1, v3, M3, rfl, H3, H2⟩ | ⟨g1, g2, ⟨_, g3⟩, H2⟩ | ⟨g1, g2, ⟨_, g3⟩, H2⟩
  -- no sign
  · have ha : ¬ (nt = 0 ∧ a = -1) := fun q => hm1 q.2 g1
    have hn1 : ¬ nt = 1 := fun q => hnt.elim (fun q2 => hm1 q2.2 g1) (fun q2 => absurd (q.symm.trans q2.1) (by decide))
    rw [if_neg ha, if_neg hn1, if_pos g2]
    unfold cmpS
    have k1 : (hdT s.1).1 ≠ 60 := by
      rcases hR.2.2.2.1.sign (c := 60) (by decide) with ⟨q, _⟩ | ⟨_, q⟩
      · rw [q] at g3; exact absurd g3 (by decide)
      · exact q
    have k2 : (hdT s.1).1 ≠ 61 := by
      rcases hR.2.2.2.1.sign (c := 61) (by decide) with ⟨q, _⟩ | ⟨_, q⟩
      · rw [q] at g4; exact absurd g4 (by decide)
      · exact q
    have k3 : (hdT s.1).1 ≠ 62 := by
      rcases hR.2.2.2.1.sign (c := 62) (by decide) with ⟨q, _⟩ | ⟨_, q⟩
      · rw [q] at g5; exact absurd g5 (by decide)
      · exact q
    rw [if_pos ⟨k1, k2, k3⟩]
    exact bad_end hR H3 (fun y hy S => by subst hy; exact oe_159 S H2) H
  · have ha : ¬ (nt = 0 ∧ a = -1) := fun q => hm1 q.2 g1
    have hn1 : ¬ nt = 1 := fun q => hnt.elim (fun q2 => hm1 q2.2 g1) (fun q2 => absurd (q.symm.trans q2.1) (by decide))
    rw [if_neg ha, if_neg hn1, if_pos g2]
    rcases hR.2.2.2.1.sign (c := 62) (by decide) with ⟨_, q, q2⟩ | ⟨q, _⟩
    · exact cmp (by rw [Int32.le_iff_toInt_le] at g1; omega) g2 (by decide) q q2 H3 H2
    · exact absurd q g5
  · have ha : ¬ (nt = 0 ∧ a = -1) := fun q => hm1 q.2 g1
    have hn1 : ¬ nt = 1 := fun q => hnt.elim (fun q2 => hm1 q2.2 g1) (fun q2 => absurd (q.symm.trans q2.1) (by decide))
    rw [if_neg ha, if_neg hn1, if_pos g2]
    rcases hR.2.2.2.1.sign (c := 61) (by decide) with ⟨_, q, q2⟩ | ⟨q, _⟩
    · exact cmp (by rw [Int32.le_iff_toInt_le] at g1; omega) g2 (by decide) q q2 H3 H2
    · exact absurd q g4
  · have ha : ¬ (nt = 0 ∧ a = -1) := fun q => hm1 q.2 g1
    have hn1 : ¬ nt = 1 := fun q => hnt.elim (fun q2 => hm1 q2.2 g1) (fun q2 => absurd (q.symm.trans q2.1) (by decide))
    rw [if_neg ha, if_neg hn1, if_pos g2]
    rcases hR.2.2.2.1.sign (c := 60) (by decide) with ⟨_, q, q2⟩ | ⟨q, _⟩
    · exact cmp (by rw [Int32.le_iff_toInt_le] at g1; omega) g2 (by decide) q q2 H3 H2
    · exact absurd q g3
  -- a word alone
  · have ha : ¬ (nt = 0 ∧ a = -1) := fun q => hm1 q.2 g1
    have hn1 : ¬ nt = 1 := fun q => hnt.elim (fun q2 => hm1 q2.2 g1) (fun q2 => absurd (q.symm.trans q2.1) (by decide))
    rw [if_neg ha, if_neg hn1, if_neg g2]
    obtain ⟨rfl, F1, R1⟩ := hR.write H3
    obtain ⟨e4, v6, M6, _, H6, H2⟩ := oe_124 R1.1 H2
    obtain ⟨M7, F4, R4, hB⟩ := one_end (nt := nt) (a := a) (c3 := c3) R1 H6 (fun S q => by subst q; exact oe_202 S H2) H
    exact ⟨M7, F1.trans F4, R4, hB⟩
  -- a bracket
  · have hn : nt = 0 ∧ a = -1 := by
      rcases hnt with ⟨q, _⟩ | ⟨q, q2⟩
      · rw [q] at g2; exact absurd g2 (by decide)
      · rcases q2 with q2 | ⟨q2, _⟩
        · exact ⟨q, q2⟩
        · exact absurd (by rw [Int32.le_iff_toInt_le]; exact q2) g1
    rw [if_pos hn]
    obtain ⟨F1, R1⟩ := hR.push (x := 23) g3
    have h := hC d (dep + 1) s (23 :: P) _ M' v hDC (by rw [opS_23]; omega) (by omega) (Or.inr ⟨P, rfl⟩) R1 h40 ⟨c0, _, _, _, v1, M1, H2, H⟩
    cases hr : C (dep + 1) s with
    | inr f =>
      rw [hr] at h
      exact FLT.pre F1 h
    | inl s2 =>
      rw [hr] at h
      obtain ⟨M2, pend, c, p1, p2, p3, p4, F2, R2, ⟨c4, hB⟩⟩ := h
      have p23 : (23 : Int32) ∈ pend ++ 23 :: P := List.mem_append_right _ List.mem_cons_self
      show match (if (hdT s2.1).1 ≠ 41 then (.inr (1, (hdT s2.1).2.1) : PR) else .inl (s2.1.tail, s2.2.1, s2.2.2)) with
        | .inr f => FLT M M' v f
        | .inl s2 => ∃ M2, FB fQ wQ M M2 ∧ RC B n M2 (s2.1, s2.2.1, (wdP 3 P s2.2.2).2) (wdP 3 P s2.2.2).1 ∧ BST d M2 M' v
      have an0 : G_164 M2 6385252 = 0 := by
        rcases R2.2.2.2.1.word R2.2.2.2.2.2.1 (u := andW) (C := 6385252) (by decide) (by decide +kernel) with ⟨_, q⟩ | ⟨q, _⟩
        · exact absurd q p3
        · exact q
      have or0 : G_164 M2 28530 = 0 := by
        rcases R2.2.2.2.1.word R2.2.2.2.2.2.1 (u := orW) (C := 28530) (by decide) (by decide +kernel) with ⟨_, q⟩ | ⟨q, _⟩
        · exact absurd q p4
        · exact q
      by_cases h41 : (hdT s2.1).1 = 41
      · rw [if_neg (fun q => q h41)]
        rcases ceq_14 R2.1 hB with ⟨q, _⟩ | ⟨_, e3, v4, M4, _, H4, hB⟩
        · rcases R2.2.2.2.1.sign (c := 41) (by decide) with ⟨q2, _⟩ | ⟨_, q2⟩
          · rw [q2] at q; exact absurd q (by decide)
          · exact absurd h41 q2
        obtain ⟨ho, rfl⟩ := R2.isOpen H4
        rcases ho with ⟨rfl, _⟩ | ⟨_, q⟩
        rotate_left
        · exact absurd p23 q
        rcases ceq_27 R2.1 hB with ⟨q, _⟩ | ⟨_, e4, v5, M5, _, H5, hB⟩
        · exact absurd q (by decide)
        obtain ⟨rfl, F3, R3⟩ := RC.wdown _ _ _ R2 H5
        rw [wdP_1 (Or.inr ⟨P, rfl⟩) pend c p1] at R3
        obtain ⟨e5, v6, M6, _, H6, hB⟩ := ceq_35 R3.1 hB
        obtain ⟨_, F4, R4⟩ := R3.pop
        obtain ⟨rfl, F5, R5⟩ := RC.wdown _ _ _ R4 H6
        obtain ⟨e6, v7, M7, _, H7, hB⟩ := ceq_50 R5.1 hB
        obtain ⟨rfl, F6, R6⟩ := R5.next hn2 (by rw [show (hdT (s2.1, s2.2.1, (wdP 3 P (c ++ opsC pend)).2).1).1 = 41 from h41]; decide) (by rw [show (hdT (s2.1, s2.2.1, (wdP 3 P (c ++ opsC pend)).2).1).1 = 41 from h41]; decide) H7
        have hB := ceq_54 R6.1 hB
        refine ⟨M7, ((((F1.trans F2).trans F3).trans F4).trans F5).trans F6, ?_, _, hB⟩
        rw [p2]
        exact R6
      · rw [if_pos h41]
        have go57 : Ev none (d + 1) 179 57 [some (.ref 633), c4] [] M2 v M' 0 0 := by
          rcases ceq_14 R2.1 hB with ⟨_, hB⟩ | ⟨q, _⟩
          · exact hB
          · rcases R2.2.2.2.1.sign (c := 41) (by decide) with ⟨_, q2, _⟩ | ⟨q2, _⟩
            · exact absurd q2 h41
            · exact absurd q2 q
        rcases ceq_57 R2.1 go57 with ⟨_, _, e3, v4, M4, _, H4, hB⟩ | ⟨_, q, _⟩ | ⟨q, _⟩
        rotate_left
        · exact absurd or0 q
        · exact absurd an0 q
        obtain ⟨ho, rfl⟩ := R2.isOpen H4
        rcases ho with ⟨rfl, _⟩ | ⟨_, q⟩
        rotate_left
        · exact absurd p23 q
        rcases ceq_83 R2.1 hB with ⟨q, _⟩ | ⟨_, e4, v5, M5, _, H5, hB⟩
        · exact absurd q (by decide)
        obtain ⟨rfl, S0, F0, r1, r2⟩ := R2.bad H5
        obtain ⟨h3, rfl⟩ := ceq_91 S0 hB
        exact ⟨h3, S0, (F1.trans F2).trans F0, r1, r2⟩
  -- a not
  · have hn : nt = 1 := by
      rcases hnt with ⟨q, _⟩ | ⟨q, _⟩
      · exact q
      · exact absurd q g2
    have ha : ¬ (nt = 0 ∧ a = -1) := fun q => g2 q.1
    rw [if_neg ha, if_pos hn]
    obtain ⟨F1, R1⟩ := hR.push (x := 20) g3
    have h := hO d (dep + 1) s (20 :: P) _ M' v hDO (by rw [opS_20]; omega) (by omega) R1 h40 ⟨c0, _, _, _, v1, M1, H2, H⟩
    cases hr : O (dep + 1) s with
    | inr f =>
      rw [hr] at h
      exact FLT.pre F1 h
    | inl s2 =>
      rw [hr] at h
      obtain ⟨M2, F2, R2, hB⟩ := h
      rw [wdP_not] at R2
      exact ⟨M2, F1.trans F2, R2, hB⟩
end MAD
/-! THE REFERENCE'S one, all of it -/
section MAE
variable {n : Nat} {B : Nat → Int32}
theorem ixP_mem {w : List Int32} : ∀ l : List (List Int32 × Int32), (ixP w l = -1) ∨ ∃ q ∈ l, w = q.1 ∧ ixP w l = q.2 := by
  intro l
  induction l with
  | nil => exact Or.inl rfl
  | cons q r ih =>
    obtain ⟨u, i⟩ := q
    show (if w = u then i else ixP w r) = -1 ∨ ∃ q ∈ (u, i) :: r, w = q.1 ∧ (if w = u then i else ixP w r) = q.2
    by_cases h : w = u
    · rw [if_pos h]
      exact Or.inr ⟨(u, i), List.mem_cons_self, h, rfl⟩
    · rw [if_neg h]
      rcases ih with h2 | ⟨q, h2, h3⟩
      · exact Or.inl h2
      · exact Or.inr ⟨q, List.mem_cons_of_mem _ h2, h3⟩
theorem ato_bd : ∀ q ∈ atoL, 0 ≤ q.2.toInt ∧ q.2.toInt ≤ 11 := by decide
theorem ato_not : ixP notW atoL = -1 := by decide +kernel
theorem ato_ne : ∀ q ∈ atoL, q.1 ≠ [] := by decide
theorem mone_ok {C O : Nat → Sg → PR} {D DC DO : Nat → Prop} (hD : ∀ dep, dep ≤ 10 → D dep → DC (dep + 1) ∧ DO (dep + 1)) (hn2 : n ≤ 440) (hC : MCon B n DC C) (hO : MOne B n DO O) (gC : ∀ dep s s2, C dep s = .inl s2 → Gw s s2) (gO : ∀ dep s s2, O dep s = .inl s2 → Gw s s2) : MOne B n D (oneB B C O) := by
  intro d dep s P M M' v hdD hdep hd11 hR h40 hE
  obtain ⟨c0, c1, c2, c3, v1, M1, H1, H⟩ := hE
  have z0 : (0 : Int32).toInt = 0 := rfl
  have o40 : (40 : Int32).toInt = 40 := rfl
  have h21 := hR.2.2.2.2.2.2.1
  have hT := hR.2.2.2.1
  have hg := hR.2.2.2.2.2.1
  have hx := one_ix (wdS B (hdT s.1))
  have hat := hT.atom hg
  have hones : (zI M 633 21 = 40) ↔ 40 ≤ s.2.1 := ⟨fun q => by rw [q] at h21; omega, fun q => Int32.toInt_inj.mp (by omega)⟩
  have hword := hT.word hg (u := notW) (C := 7237492) (by decide) (by decide +kernel)
  have h40s := hT.sign (c := 40) (by decide)
  have hab : G_173 M = -1 ∨ (0 ≤ (G_173 M).toInt ∧ (G_173 M).toInt ≤ 11 ∧ (hdT s.1).1 = 2) := by
    rw [hat]
    rcases ixP_mem (w := wdS B (hdT s.1)) atoL with q | ⟨q, q1, q2, q3⟩
    · exact Or.inl q
    · have := ato_bd q q1
      rw [q3]
      exact Or.inr ⟨this.1, this.2, wd_ne q2 (ato_ne q q1)⟩
  have hle : ∀ {x : Int32}, x = -1 ∨ 0 ≤ x.toInt → (0 ≤ x ↔ ¬ x = -1) := fun {x} q => by
    rw [Int32.le_iff_toInt_le]
    refine ⟨fun r e => by rw [e] at r; revert r; decide, fun r => ?_⟩
    rcases q with q | q
    · exact absurd q r
    · omega
  have hle2 := hle (x := G_173 M) (hab.elim Or.inl (fun q => Or.inr q.1))
  -- the spec's conditions
  have hneg : ixF (wdS B (hdT s.1)) oneW 0 < 0 ↔ (G_164 M 7237492 = 0 ∧ G_173 M = -1) := by
    rw [hx]
    rcases hword with ⟨q1, q2⟩ | ⟨q1, q2⟩
    · rw [if_pos q2, q1]
      exact ⟨fun q => absurd q (by decide), fun q => absurd q.1 (by decide)⟩
    · rw [if_neg q2, q1, ← hat]
      refine ⟨fun q => ⟨rfl, ?_⟩, fun q => by rw [q.2]; decide⟩
      rcases hab with h | ⟨h, _⟩
      · exact h
      · rw [Int32.lt_iff_toInt_lt] at q
        omega
  have h12 : ixF (wdS B (hdT s.1)) oneW 0 = 12 ↔ G_164 M 7237492 = 1 := by
    rw [hx]
    rcases hword with ⟨q1, q2⟩ | ⟨q1, q2⟩
    · rw [if_pos q2, q1]
      exact ⟨fun _ => rfl, fun _ => rfl⟩
    · rw [if_neg q2, q1, ← hat]
      refine ⟨fun q => ?_, fun q => absurd q (by decide)⟩
      rcases hab with h | ⟨_, h, _⟩
      · rw [q] at h; exact absurd h (by decide)
      · rw [q] at h; exact absurd h (by decide)
  have heq : G_164 M 7237492 ≠ 1 → ixF (wdS B (hdT s.1)) oneW 0 = G_173 M := fun q => by
    rw [hx]
    rcases hword with ⟨q1, q2⟩ | ⟨q1, q2⟩
    · exact absurd q1 q
    · rw [if_neg q2, hat]
  have hnt : (G_164 M 7237492 = 1 ∧ G_173 M = -1) ∨ (G_164 M 7237492 = 0 ∧ (G_173 M = -1 ∨ (0 ≤ (G_173 M).toInt ∧ (G_173 M).toInt ≤ 11))) := by
    rcases hword with ⟨q1, q2⟩ | ⟨q1, q2⟩
    · exact Or.inl ⟨q1, by rw [hat, q2]; exact ato_not⟩
    · exact Or.inr ⟨q1, hab.elim Or.inl (fun q => Or.inr ⟨q.1, q.2.1⟩)⟩
  unfold oneB
  -- a fault of kind 4
  have f4 : ∀ {e : Nat} {v3 : Option Value} {M3 : Mem} {r : PR}, ¬ (ixF (wdS B (hdT s.1)) oneW 0 < 0 ∧ (hdT s.1).1 ≠ 40) → (40 ≤ s.2.1 ∨ 10 < dep) → Ev none e 163 0 [some (.ref 633), some (.int 4)] [] M v3 M3 0 0 → Ev none d 180 59 [some (.ref 633), some (.int (G_164 M 7237492)), some (.int (G_173 M)), c3] (v3.toList ++ []) M3 v1 M1 0 0 → (match (if ixF (wdS B (hdT s.1)) oneW 0 < 0 ∧ (hdT s.1).1 ≠ 40 then (.inr (1, (hdT s.1).2.1) : PR) else if 40 ≤ s.2.1 ∨ 10 < dep then .inr (4, (hdT s.1).2.1) else r) with
  | .inr f => FLT M M' v f
  | .inl s2 => ∃ M2, FB fQ wQ M M2 ∧ RC B n M2 (s2.1, s2.2.1, (wdP 3 P s2.2.2).2) (wdP 3 P s2.2.2).1 ∧ BST d M2 M' v) := by
    intro e v3 M3 r k1 k2 H3 H2
    rw [if_neg k1, if_pos k2]
    exact bad_end hR H3 (fun y hy S => by subst hy; exact oe_59 S H2) H
  -- on, if there are not too many
  have on : ∀ {e : Nat} {v3 : Option Value} {M3 : Mem}, ¬ (ixF (wdS B (hdT s.1)) oneW 0 < 0 ∧ (hdT s.1).1 ≠ 40) → ¬ 40 ≤ s.2.1 → Ev none e 177 0 [some (.ref 633), none, none] [] M v3 M3 0 0 → Ev none d 180 49 [some (.ref 633), some (.int (G_164 M 7237492)), some (.int (G_173 M)), c3] (v3.toList ++ []) M3 v1 M1 0 0 → (match (if ixF (wdS B (hdT s.1)) oneW 0 < 0 ∧ (hdT s.1).1 ≠ 40 then (.inr (1, (hdT s.1).2.1) : PR) else if 40 ≤ s.2.1 ∨ 10 < dep then .inr (4, (hdT s.1).2.1) else if ixF (wdS B (hdT s.1)) oneW 0 < 0 then (match C (dep + 1) (s.1.tail, s.2.1 + 1, s.2.2) with
    | .inr f => .inr f
    | .inl s2 => if (hdT s2.1).1 ≠ 41 then .inr (1, (hdT s2.1).2.1) else .inl (s2.1.tail, s2.2.1, s2.2.2))
  else if ixF (wdS B (hdT s.1)) oneW 0 = 12 then (match O (dep + 1) (s.1.tail, s.2.1 + 1, s.2.2) with
    | .inr f => .inr f
    | .inl s2 => .inl (s2.1, s2.2.1, s2.2.2 ++ [(20, 0, 0)]))
  else if 8 ≤ ixF (wdS B (hdT s.1)) oneW 0 then cmpS (ixF (wdS B (hdT s.1)) oneW 0) (s.1.tail, s.2.1 + 1, s.2.2)
  else .inl (s.1.tail, s.2.1 + 1, s.2.2 ++ [(ixF (wdS B (hdT s.1)) oneW 0, 0, 0)])) with
  | .inr f => FLT M M' v f
  | .inl s2 => ∃ M2, FB fQ wQ M M2 ∧ RC B n M2 (s2.1, s2.2.1, (wdP 3 P s2.2.2).2) (wdP 3 P s2.2.2).1 ∧ BST d M2 M' v) := by
    intro e v3 M3 k1 k2 H3 H2
    obtain ⟨⟨y, hy, rfl⟩, rfl⟩ := hR.opn H3
    have o10 : (10 : Int32).toInt = 10 := rfl
    rcases oe_49 hR.1 H2 with ⟨q, e2, v4, M4, rfl, H4, H2⟩ | ⟨q, e2, v4, M4, rfl, H4, H2⟩
    · rw [if_neg k1, if_pos (Or.inr (by rw [q] at hy; omega))]
      exact bad_end hR H4 (fun y hy S => by subst hy; exact oe_59 S H2) H
    · have hd10 : dep ≤ 10 := by
        by_cases hq : dep ≤ 10
        · exact hq
        · exact absurd (Int32.toInt_inj.mp (by omega)) q
      rw [if_neg k1, if_neg (fun q => q.elim k2 (by omega))]
      obtain ⟨F1, R1⟩ := hR.ones (by omega)
      have hty : (hdT s.1).1 = 2 ∨ (hdT s.1).1 = 40 := by
        by_cases q4 : (hdT s.1).1 = 40
        · exact Or.inr q4
        · left
          rcases hword with ⟨_, q2⟩ | ⟨q1, q2⟩
          · exact wd_ne q2 (by decide)
          · rcases hab with h | ⟨_, _, h⟩
            · exact absurd ⟨hneg.mpr ⟨q1, h⟩, q4⟩ k1
            · exact h
      obtain ⟨rfl, F2, R2⟩ := R1.next hn2 (hty.elim (fun q => by rw [show (hdT (s.1, s.2.1 + 1, s.2.2).1).1 = 2 from q]; decide) (fun q => by rw [show (hdT (s.1, s.2.1 + 1, s.2.2).1).1 = 40 from q]; decide)) (hty.elim (fun q => by rw [show (hdT (s.1, s.2.1 + 1, s.2.2).1).1 = 2 from q]; decide) (fun q => by rw [show (hdT (s.1, s.2.1 + 1, s.2.2).1).1 = 40 from q]; decide)) H4
      have h := one_74 hn2 hC hO gC gO (hD dep hd10 hdD).1 (hD dep hd10 hdD).2 hdep hd10 R2 (by dsimp only; omega) hnt H2 H
      have he : (if ixF (wdS B (hdT s.1)) oneW 0 < 0 then (match C (dep + 1) (s.1.tail, s.2.1 + 1, s.2.2) with
    | .inr f => .inr f
    | .inl s2 => if (hdT s2.1).1 ≠ 41 then .inr (1, (hdT s2.1).2.1) else .inl (s2.1.tail, s2.2.1, s2.2.2))
  else if ixF (wdS B (hdT s.1)) oneW 0 = 12 then (match O (dep + 1) (s.1.tail, s.2.1 + 1, s.2.2) with
    | .inr f => .inr f
    | .inl s2 => .inl (s2.1, s2.2.1, s2.2.2 ++ [(20, 0, 0)]))
  else if 8 ≤ ixF (wdS B (hdT s.1)) oneW 0 then cmpS (ixF (wdS B (hdT s.1)) oneW 0) (s.1.tail, s.2.1 + 1, s.2.2)
  else .inl (s.1.tail, s.2.1 + 1, s.2.2 ++ [(ixF (wdS B (hdT s.1)) oneW 0, 0, 0)]) : PR) = (if G_164 M3 7237492 = 0 ∧ G_173 M3 = -1 then (match C (dep + 1) (s.1.tail, s.2.1 + 1, s.2.2) with
    | .inr f => .inr f
    | .inl s2 => if (hdT s2.1).1 ≠ 41 then .inr (1, (hdT s2.1).2.1) else .inl (s2.1.tail, s2.2.1, s2.2.2))
  else if G_164 M3 7237492 = 1 then (match O (dep + 1) (s.1.tail, s.2.1 + 1, s.2.2) with
    | .inr f => .inr f
    | .inl s2 => .inl (s2.1, s2.2.1, s2.2.2 ++ [(20, 0, 0)]))
  else if 8 ≤ G_173 M3 then cmpS (G_173 M3) (s.1.tail, s.2.1 + 1, s.2.2)
  else .inl (s.1.tail, s.2.1 + 1, s.2.2 ++ [(G_173 M3, 0, 0)])) := by
        by_cases q1 : ixF (wdS B (hdT s.1)) oneW 0 < 0
        · rw [if_pos q1, if_pos (hneg.mp q1)]
        · rw [if_neg q1, if_neg (fun x => q1 (hneg.mpr x))]
          by_cases q2 : ixF (wdS B (hdT s.1)) oneW 0 = 12
          · rw [if_pos q2, if_pos (h12.mp q2)]
          · have q3 : G_164 M3 7237492 ≠ 1 := fun x => q2 (h12.mpr x)
            rw [if_neg q2, if_neg q3, heq q3]
      rw [he]
      revert h
      generalize (if G_164 M3 7237492 = 0 ∧ G_173 M3 = -1 then (match C (dep + 1) (s.1.tail, s.2.1 + 1, s.2.2) with
    | .inr f => .inr f
    | .inl s2 => if (hdT s2.1).1 ≠ 41 then .inr (1, (hdT s2.1).2.1) else .inl (s2.1.tail, s2.2.1, s2.2.2))
  else if G_164 M3 7237492 = 1 then (match O (dep + 1) (s.1.tail, s.2.1 + 1, s.2.2) with
    | .inr f => .inr f
    | .inl s2 => .inl (s2.1, s2.2.1, s2.2.2 ++ [(20, 0, 0)]))
  else if 8 ≤ G_173 M3 then cmpS (G_173 M3) (s.1.tail, s.2.1 + 1, s.2.2)
  else .inl (s.1.tail, s.2.1 + 1, s.2.2 ++ [(G_173 M3, 0, 0)]) : PR) = r
      intro h
      cases r with
      | inr f => exact FLT.pre (F1.trans F2) h
      | inl s2 =>
        obtain ⟨M4, F3, R3, hB⟩ := h
        exact ⟨M4, (F1.trans F2).trans F3, R3, hB⟩
  have ok : G_164 M 7237492 = 0 → ¬ 0 ≤ G_173 M → (hdT s.1).1 = 40 → ¬ (ixF (wdS B (hdT s.1)) oneW 0 < 0 ∧ (hdT s.1).1 ≠ 40) := fun _ _ q x => x.2 q
  have ok2 : 0 ≤ G_173 M → ¬ (ixF (wdS B (hdT s.1)) oneW 0 < 0 ∧ (hdT s.1).1 ≠ 40) := fun q x => (hle2.mp q) (hneg.mp x.1).2
  have ok3 : ¬ G_164 M 7237492 = 0 → ¬ (ixF (wdS B (hdT s.1)) oneW 0 < 0 ∧ (hdT s.1).1 ≠ 40) := fun q x => q (hneg.mp x.1).1
  have s40 : ¬ G_165 M 40 = 0 → (hdT s.1).1 = 40 := fun q => h40s.elim (fun x => x.2.1) (fun x => absurd x.1 q)
  rcases oe_0 hR.1 H1 with ⟨g1, g2, g3, e1, v3, M3, rfl, H3, H2⟩ | ⟨g1, g2, g3, e1, v3, M3, rfl, H3, H2⟩ | ⟨g1, g2, g3, e1, v3, M3, rfl, H3, H2⟩ | ⟨g1, g2, g3, g4, e1, v3, M3, rfl, H3, H2⟩ | ⟨g1, g2, g3, g4, e1, v3, M3, rfl, H3, H2⟩ | ⟨g1, g3, e1, v3, M3, rfl, H3, H2⟩ | ⟨g1, g3, e1, v3, M3, rfl, H3, H2⟩
  · exact f4 (ok2 g2) (Or.inl (hones.mp g3)) H3 H2
  · exact on (ok2 g2) (fun q => g3 (hones.mpr q)) H3 H2
  · have q4 : (hdT s.1).1 ≠ 40 := by
      rcases h40s with ⟨q, _⟩ | ⟨_, q⟩
      · rw [q] at g3; exact absurd g3 (by decide)
      · exact q
    have qa : G_173 M = -1 := by
      rcases hab with q | ⟨q, _⟩
      · exact q
      · exact absurd (by rw [Int32.le_iff_toInt_le]; exact q) g2
    rw [if_pos ⟨hneg.mpr ⟨g1, qa⟩, q4⟩]
    exact bad_end hR H3 (fun y hy S => by subst hy; exact oe_35 S H2) H
  · exact f4 (ok g1 g2 (s40 g3)) (Or.inl (hones.mp g4)) H3 H2
  · exact on (ok g1 g2 (s40 g3)) (fun q => g4 (hones.mpr q)) H3 H2
  · exact f4 (ok3 g1) (Or.inl (hones.mp g3)) H3 H2
  · exact on (ok3 g1) (fun q => g3 (hones.mpr q)) H3 H2
end MAE
/-! THE REFERENCE'S all and cond -/
section MAF
variable {n : Nat} {B : Nat → Int32}
theorem wdP_2 {P : List Int32} (hP : P = [] ∨ (∃ Q, P = 23 :: Q) ∨ ∃ Q, P = 22 :: Q) : ∀ (pend : List Int32) (cs : List Cdq), (∀ x ∈ pend, x = 21) → wdP 2 (pend ++ P) cs = (P, cs ++ opsC pend) := by
  intro pend
  induction pend with
  | nil =>
    intro cs _
    rcases hP with rfl | ⟨Q, rfl⟩ | ⟨Q, rfl⟩
    · show ([], cs) = ([], cs ++ [])
      rw [List.append_nil]
    · show (if (23 : Int32) = 23 ∨ bdI 23 < 2 then ((23 : Int32) :: Q, cs) else _) = _
      rw [if_pos (Or.inl rfl)]
      show _ = (_, cs ++ [])
      rw [List.append_nil]
    · show (if (22 : Int32) = 23 ∨ bdI 22 < 2 then ((22 : Int32) :: Q, cs) else _) = _
      rw [if_pos (Or.inr (by decide))]
      show _ = (_, cs ++ [])
      rw [List.append_nil]
  | cons x pend ih =>
    intro cs h
    show (if x = 23 ∨ bdI x < 2 then (x :: (pend ++ P), cs) else wdP 2 (pend ++ P) (cs ++ [(x, 0, 0)])) = _
    have hx : ¬ (x = 23 ∨ bdI x < 2) := by
      rw [h x List.mem_cons_self]
      decide
    rw [if_neg hx, ih _ (fun y hy => h y (List.mem_cons_of_mem _ hy)), List.append_assoc]
    rfl
theorem top_3 {P : List Int32} (hP : P = [] ∨ (∃ Q, P = 23 :: Q) ∨ ∃ Q, P = 22 :: Q) : P = [] ∨ ∃ x Q, P = x :: Q ∧ x ≠ 20 := by
  rcases hP with h | ⟨Q, h⟩ | ⟨Q, h⟩
  · exact Or.inl h
  · exact Or.inr ⟨23, Q, h, by decide⟩
  · exact Or.inr ⟨22, Q, h, by decide⟩
/-- from behind an ONE: no bracket closes -/
theorem bst_57 {d : Nat} {M M' : Mem} {v : Option Value} {s : Sg} {P : List Int32} (hR : RC B n M s P) (h41 : (hdT s.1).1 ≠ 41) (hB : BST d M M' v) : ∃ c0, Ev none (d + 1) 179 57 [some (.ref 633), c0] [] M v M' 0 0 := by
  obtain ⟨c0, hB⟩ := hB
  rcases ceq_14 hR.1 hB with ⟨_, hB⟩ | ⟨q, _⟩
  · exact ⟨c0, hB⟩
  · rcases hR.2.2.2.1.sign (c := 41) (by decide) with ⟨_, q2, _⟩ | ⟨q2, _⟩
    · exact absurd q2 h41
    · exact absurd q2 q
theorem all_loop {O : Nat → Sg → PR} {D : Nat → Prop} (hn2 : n ≤ 440) (hO : MOne B n D O) (gO : ∀ dep s s2, O dep s = .inl s2 → Gw s s2) {d dep : Nat} {P : List Int32} {M' : Mem} {v : Option Value} (hdD : D dep) (hdep : opS P + 1 = dep) (hd11 : dep ≤ 11) (hP : P = [] ∨ (∃ Q, P = 23 :: Q) ∨ ∃ Q, P = 22 :: Q) : ∀ (j : Nat) (s : Sg) (M : Mem) (pend : List Int32) (c : List Cdq), (∀ x ∈ pend, x = (21 : Int32)) → s.2.2 = c ++ opsC pend → RC B n M (s.1, s.2.1, c) (pend ++ P) → BST d M M' v → 41 ≤ s.2.1 + j → s.2.1 ≤ 40 → match mrB B andW 21 O dep j s with
  | .inr f => FLT M M' v f
  | .inl s2 => ∃ M2 pend c, (∀ x ∈ pend, x = (21 : Int32)) ∧ s2.2.2 = c ++ opsC pend ∧ wdS B (hdT s2.1) ≠ andW ∧ FB fQ wQ M M2 ∧ RC B n M2 (s2.1, s2.2.1, c) (pend ++ P) ∧ BST d M2 M' v := by
  intro j
  induction j with
  | zero => intro s M pend c _ _ _ _ h1 h2; omega
  | succ j ih =>
    intro s M pend c hp hc hR hB h1 h2
    unfold mrB
    by_cases hw : wdS B (hdT s.1) = andW
    rotate_left
    · rw [if_neg hw]
      exact ⟨M, pend, c, hp, hc, hw, FB.refl M, hR, hB⟩
    rw [if_pos hw]
    have h2t := wd_ne hw (by decide)
    obtain ⟨c0, hB⟩ := bst_57 hR (by rw [show (hdT (s.1, s.2.1, c).1).1 = 2 from h2t]; decide) hB
    have an1 : G_164 M 6385252 = 1 := by
      rcases hR.2.2.2.1.word hR.2.2.2.2.2.1 (u := andW) (C := 6385252) (by decide) (by decide +kernel) with ⟨q, _⟩ | ⟨_, q⟩
      · exact q
      · exact absurd hw q
    rcases ceq_57 hR.1 hB with ⟨q, _⟩ | ⟨q, _⟩ | ⟨_, e1, v1, M1, _, H1, hB⟩
    · rw [an1] at q; exact absurd q (by decide)
    · rw [an1] at q; exact absurd q (by decide)
    obtain ⟨rfl, F1, R1⟩ := RC.wdown _ _ _ hR H1
    rw [show (s.1, s.2.1, c).2.2 = c from rfl, wdP_2 hP pend c hp, ← hc] at R1
    rw [an1] at hB
    rcases ceq_112 R1.1 hB with ⟨q, _⟩ | ⟨_, ⟨_, q⟩, e2, v2, M2, _, H2, hB⟩
    · exact absurd q (by decide)
    obtain ⟨F2, R2⟩ := R1.push (x := 21) q
    obtain ⟨rfl, F3, R3⟩ := R2.next hn2 (by rw [show (hdT (s.1, s.2.1, s.2.2).1).1 = 2 from h2t]; decide) (by rw [show (hdT (s.1, s.2.1, s.2.2).1).1 = 2 from h2t]; decide) H2
    have hB := ceq_146 R3.1 hB
    obtain ⟨e3, v3, M3, he, H3, hB⟩ := ceq_5 R3.1 hB
    cases he
    have h := hO d dep (s.1.tail, s.2.1, s.2.2) (21 :: P) _ M' v hdD hdep hd11 R3 h2 ⟨_, _, _, _, v3, M3, H3, hB⟩
    cases hr : O dep (s.1.tail, s.2.1, s.2.2) with
    | inr f =>
      rw [hr] at h
      exact FLT.pre ((F1.trans F2).trans F3) h
    | inl s2 =>
      rw [hr] at h
      obtain ⟨M4, F4, R4, hB⟩ := h
      rw [wdP_3 (Or.inr ⟨21, P, rfl, by decide⟩)] at R4
      obtain ⟨g1, g2, _⟩ := gO _ _ _ hr
      dsimp only at g1
      have h9 := ih (s2.1, s2.2.1, s2.2.2 ++ [(21, 0, 0)]) M4 [21] s2.2.2 (fun x hx => List.mem_singleton.mp hx) rfl R4 hB (by dsimp only; omega) g2
      show match mrB B andW 21 O dep j (s2.1, s2.2.1, s2.2.2 ++ [(21, 0, 0)]) with
        | .inr f => FLT M M' v f
        | .inl s2 => ∃ M2 pend c, (∀ x ∈ pend, x = (21 : Int32)) ∧ s2.2.2 = c ++ opsC pend ∧ wdS B (hdT s2.1) ≠ andW ∧ FB fQ wQ M M2 ∧ RC B n M2 (s2.1, s2.2.1, c) (pend ++ P) ∧ BST d M2 M' v
      revert h9
      generalize mrB B andW 21 O dep j (s2.1, s2.2.1, s2.2.2 ++ [(21, 0, 0)]) = r
      intro h9
      cases r with
      | inr f => exact FLT.pre (((F1.trans F2).trans F3).trans F4) h9
      | inl s5 =>
        obtain ⟨M5, p5, c5, k1, k2, k3, k4, k5, k6⟩ := h9
        exact ⟨M5, p5, c5, k1, k2, k3, (((F1.trans F2).trans F3).trans F4).trans k4, k5, k6⟩
theorem mall_ok {O : Nat → Sg → PR} {D : Nat → Prop} (hn2 : n ≤ 440) (hO : MOne B n D O) (gO : ∀ dep s s2, O dep s = .inl s2 → Gw s s2) : MAll B n D (allB B O) := by
  intro d dep s P M M' v hdD hdep hd11 hP hR h40 hE
  have h := hO d dep s P M M' v hdD hdep hd11 hR h40 hE
  unfold allB
  cases hr : O dep s with
  | inr f =>
    rw [hr] at h
    exact h
  | inl s2 =>
    rw [hr] at h
    obtain ⟨M4, F4, R4, hB⟩ := h
    rw [wdP_3 (top_3 hP)] at R4
    obtain ⟨g1, g2, _⟩ := gO _ _ _ hr
    have h9 := all_loop (d := d) hn2 hO gO hdD hdep hd11 hP 40 s2 M4 [] s2.2.2 (fun x hx => by cases hx) (List.append_nil _).symm R4 hB (by omega) g2
    show match mrB B andW 21 O dep 40 s2 with
      | .inr f => FLT M M' v f
      | .inl s2 => ∃ M2 pend c, (∀ x ∈ pend, x = (21 : Int32)) ∧ s2.2.2 = c ++ opsC pend ∧ wdS B (hdT s2.1) ≠ andW ∧ FB fQ wQ M M2 ∧ RC B n M2 (s2.1, s2.2.1, c) (pend ++ P) ∧ BST d M2 M' v
    revert h9
    generalize mrB B andW 21 O dep 40 s2 = r
    intro h9
    cases r with
    | inr f => exact FLT.pre F4 h9
    | inl s5 =>
      obtain ⟨M5, p5, c5, k1, k2, k3, k4, k5, k6⟩ := h9
      exact ⟨M5, p5, c5, k1, k2, k3, F4.trans k4, k5, k6⟩
theorem con_loop {A : Nat → Sg → PR} {D : Nat → Prop} (hn2 : n ≤ 440) (hA : MAll B n D A) (gA : ∀ dep s s2, A dep s = .inl s2 → Gw s s2) {d dep : Nat} {P : List Int32} {M' : Mem} {v : Option Value} (hdD : D dep) (hdep : opS P + 1 = dep) (hd11 : dep ≤ 11) (hP : P = [] ∨ ∃ Q, P = 23 :: Q) : ∀ (j : Nat) (s : Sg) (M : Mem) (pend : List Int32) (c : List Cdq), (∀ x ∈ pend, x = (21 : Int32) ∨ x = 22) → s.2.2 = c ++ opsC pend → wdS B (hdT s.1) ≠ andW → RC B n M (s.1, s.2.1, c) (pend ++ P) → BST d M M' v → 41 ≤ s.2.1 + j → s.2.1 ≤ 40 → match mrB B orW 22 A dep j s with
  | .inr f => FLT M M' v f
  | .inl s2 => ∃ M2 pend c, (∀ x ∈ pend, x = (21 : Int32) ∨ x = 22) ∧ s2.2.2 = c ++ opsC pend ∧ wdS B (hdT s2.1) ≠ andW ∧ wdS B (hdT s2.1) ≠ orW ∧ FB fQ wQ M M2 ∧ RC B n M2 (s2.1, s2.2.1, c) (pend ++ P) ∧ BST d M2 M' v := by
  intro j
  induction j with
  | zero => intro s M pend c _ _ _ _ _ h1 h2; omega
  | succ j ih =>
    intro s M pend c hp hc hna hR hB h1 h2
    unfold mrB
    by_cases hw : wdS B (hdT s.1) = orW
    rotate_left
    · rw [if_neg hw]
      exact ⟨M, pend, c, hp, hc, hna, hw, FB.refl M, hR, hB⟩
    rw [if_pos hw]
    have h2t := wd_ne hw (by decide)
    obtain ⟨c0, hB⟩ := bst_57 hR (by rw [show (hdT (s.1, s.2.1, c).1).1 = 2 from h2t]; decide) hB
    have an0 : G_164 M 6385252 = 0 := by
      rcases hR.2.2.2.1.word hR.2.2.2.2.2.1 (u := andW) (C := 6385252) (by decide) (by decide +kernel) with ⟨_, q⟩ | ⟨q, _⟩
      · exact absurd q hna
      · exact q
    have or1 : G_164 M 28530 = 1 := by
      rcases hR.2.2.2.1.word hR.2.2.2.2.2.1 (u := orW) (C := 28530) (by decide) (by decide +kernel) with ⟨q, _⟩ | ⟨_, q⟩
      · exact q
      · exact absurd hw q
    rcases ceq_57 hR.1 hB with ⟨_, q, _⟩ | ⟨_, _, e1, v1, M1, _, H1, hB⟩ | ⟨q, _⟩
    · rw [or1] at q; exact absurd q (by decide)
    rotate_left
    · exact absurd an0 q
    obtain ⟨rfl, F1, R1⟩ := RC.wdown _ _ _ hR H1
    rw [show (s.1, s.2.1, c).2.2 = c from rfl, wdP_1 hP pend c hp, ← hc] at R1
    rw [an0] at hB
    rcases ceq_112 R1.1 hB with ⟨_, ⟨_, q⟩, e2, v2, M2, _, H2, hB⟩ | ⟨q, _⟩
    rotate_left
    · exact absurd rfl q
    obtain ⟨F2, R2⟩ := R1.push (x := 22) q
    obtain ⟨rfl, F3, R3⟩ := R2.next hn2 (by rw [show (hdT (s.1, s.2.1, s.2.2).1).1 = 2 from h2t]; decide) (by rw [show (hdT (s.1, s.2.1, s.2.2).1).1 = 2 from h2t]; decide) H2
    have hB := ceq_146 R3.1 hB
    obtain ⟨e3, v3, M3, he, H3, hB⟩ := ceq_5 R3.1 hB
    cases he
    have h := hA d dep (s.1.tail, s.2.1, s.2.2) (22 :: P) _ M' v hdD hdep hd11 (Or.inr (Or.inr ⟨P, rfl⟩)) R3 h2 ⟨_, _, _, _, v3, M3, H3, hB⟩
    cases hr : A dep (s.1.tail, s.2.1, s.2.2) with
    | inr f =>
      rw [hr] at h
      exact FLT.pre ((F1.trans F2).trans F3) h
    | inl s2 =>
      rw [hr] at h
      obtain ⟨M4, p4, c4, y1, y2, y3, F4, R4, hB⟩ := h
      obtain ⟨g1, g2, _⟩ := gA _ _ _ hr
      dsimp only at g1
      have h9 := ih (s2.1, s2.2.1, s2.2.2 ++ [(22, 0, 0)]) M4 (p4 ++ [22]) c4 (fun x hx => by
        rcases List.mem_append.mp hx with hx | hx
        · exact Or.inl (y1 x hx)
        · exact Or.inr (List.mem_singleton.mp hx)) (by
        show s2.2.2 ++ [(22, 0, 0)] = c4 ++ opsC (p4 ++ [22])
        rw [y2, List.append_assoc]
        unfold opsC
        rw [List.map_append]
        rfl) y3 (by rw [List.append_assoc]; exact R4) hB (by dsimp only; omega) g2
      show match mrB B orW 22 A dep j (s2.1, s2.2.1, s2.2.2 ++ [(22, 0, 0)]) with
        | .inr f => FLT M M' v f
        | .inl s2 => ∃ M2 pend c, (∀ x ∈ pend, x = (21 : Int32) ∨ x = 22) ∧ s2.2.2 = c ++ opsC pend ∧ wdS B (hdT s2.1) ≠ andW ∧ wdS B (hdT s2.1) ≠ orW ∧ FB fQ wQ M M2 ∧ RC B n M2 (s2.1, s2.2.1, c) (pend ++ P) ∧ BST d M2 M' v
      revert h9
      generalize mrB B orW 22 A dep j (s2.1, s2.2.1, s2.2.2 ++ [(22, 0, 0)]) = r
      intro h9
      cases r with
      | inr f => exact FLT.pre (((F1.trans F2).trans F3).trans F4) h9
      | inl s5 =>
        obtain ⟨M5, p5, c5, k1, k2, k3, k3b, k4, k5, k6⟩ := h9
        exact ⟨M5, p5, c5, k1, k2, k3, k3b, (((F1.trans F2).trans F3).trans F4).trans k4, k5, k6⟩
theorem mcon_ok {A : Nat → Sg → PR} {D : Nat → Prop} (hn2 : n ≤ 440) (hA : MAll B n D A) (gA : ∀ dep s s2, A dep s = .inl s2 → Gw s s2) : MCon B n D (conB B A) := by
  intro d dep s P M M' v hdD hdep hd11 hP hR h40 hE
  have h := hA d dep s P M M' v hdD hdep hd11 (hP.elim Or.inl (fun q => Or.inr (Or.inl q))) hR h40 hE
  unfold conB
  cases hr : A dep s with
  | inr f =>
    rw [hr] at h
    exact h
  | inl s2 =>
    rw [hr] at h
    obtain ⟨M4, p4, c4, y1, y2, y3, F4, R4, hB⟩ := h
    obtain ⟨g1, g2, _⟩ := gA _ _ _ hr
    have h9 := con_loop (d := d) hn2 hA gA hdD hdep hd11 hP 40 s2 M4 p4 c4 (fun x hx => Or.inl (y1 x hx)) y2 y3 R4 hB (by omega) g2
    show match mrB B orW 22 A dep 40 s2 with
      | .inr f => FLT M M' v f
      | .inl s2 => ∃ M2 pend c, (∀ x ∈ pend, x = (21 : Int32) ∨ x = 22) ∧ s2.2.2 = c ++ opsC pend ∧ wdS B (hdT s2.1) ≠ andW ∧ wdS B (hdT s2.1) ≠ orW ∧ FB fQ wQ M M2 ∧ RC B n M2 (s2.1, s2.2.1, c) (pend ++ P) ∧ BST d M2 M' v
    revert h9
    generalize mrB B orW 22 A dep 40 s2 = r
    intro h9
    cases r with
    | inr f => exact FLT.pre F4 h9
    | inl s5 =>
      obtain ⟨M5, p5, c5, k1, k2, k3, k3b, k4, k5, k6⟩ := h9
      exact ⟨M5, p5, c5, k1, k2, k3, k3b, F4.trans k4, k5, k6⟩
theorem mm_main (hn2 : n ≤ 440) : ∀ k : Nat, MCon B n (fun dep => 3 + 3 * (11 - dep) ≤ k) (prS B k).1 ∧ MAll B n (fun dep => 2 + 3 * (11 - dep) ≤ k) (prS B k).2.1 ∧ MOne B n (fun dep => 1 + 3 * (11 - dep) ≤ k) (prS B k).2.2 := by
  intro k
  induction k with
  | zero =>
    exact ⟨fun d dep s P M M' v h => absurd h (by omega), fun d dep s P M M' v h => absurd h (by omega), fun d dep s P M M' v h => absurd h (by omega)⟩
  | succ k ih =>
    refine ⟨?_, ?_, ?_⟩
    · have h := mcon_ok hn2 ih.2.1 (sp_bd k).2.1
      exact fun d dep s P M M' v hd => h d dep s P M M' v (by omega)
    · have h := mall_ok hn2 ih.2.2 (sp_bd k).2.2
      exact fun d dep s P M M' v hd => h d dep s P M M' v (by omega)
    · exact mone_ok (D := fun dep => 1 + 3 * (11 - dep) ≤ k + 1) (fun dep h1 h2 => ⟨by omega, by omega⟩) hn2 ih.1 ih.2.2 (sp_bd k).1 (sp_bd k).2.2
/-- the reference, ahead of a COND: whatever lies on the pile -/
def R0 (B : Nat → Int32) (n : Nat) (M : Mem) (s : Sg) : Prop := SQ M ∧ bR M = B ∧ (zI M 633 3).toInt = (n : Int) ∧ RTk B n M s.1 ∧ wfT s.1 ∧ gdT B s.1 ∧ (zI M 633 21).toInt = (s.2.1 : Int) ∧ SC M s.2.2 ∧ zI M 633 26 = 0
theorem RC.r0 {M : Mem} {s : Sg} {P : List Int32} (h : RC B n M s P) : R0 B n M s := ⟨h.1, h.2.1, h.2.2.1, h.2.2.2.1, h.2.2.2.2.1, h.2.2.2.2.2.1, h.2.2.2.2.2.2.1, h.2.2.2.2.2.2.2.1, h.2.2.2.2.2.2.2.2.2.2⟩
/-- the whole COND -/
theorem rcond_ok {e k : Nat} {M M' : Mem} {v : Option Value} {s : Sg} {c1 : Option Value} (hn2 : n ≤ 440) (hk : 33 ≤ k) (h : R0 B n M s) (h40 : s.2.1 ≤ 40) (H : Ev none e 179 0 [some (.ref 633), c1] [] M v M' 0 0) : match (prS B k).1 1 s with
  | .inr f => FLT M M' v f
  | .inl s2 => v = some (.int 1) ∧ FB fQ wQ M M' ∧ R0 B n M' s2 := by
  obtain ⟨a1, a2, a3, a4, a5, a6, a7, a8, a9⟩ := h
  have F1 : FB [(633, 20)] [] M (wF M 633 20 0) := FB.wF (by decide)
  have R1 : RC B n (wF M 633 20 0) s [] := ⟨a1.kf, (F1.bR (by decide)).trans a2, by rw [F1.fi (by decide)]; exact a3, a4.frm F1 (by decide) (by decide) (by decide) (by decide) (by decide), a5, a6, by rw [F1.fi (by decide)]; exact a7, a8.frm F1 (by decide) (by decide) (by decide) (by decide), by rw [fI_wF_eq a1.1 qa_633 qi_61_20]; rfl, trivial, by rw [F1.fi (by decide)]; exact a9⟩
  have F2 : FB fQ wQ M (wF M 633 20 0) := F1.more (by decide) (by decide)
  have H := ceq_0 a1 H
  obtain ⟨d, v1, M1, rfl, H1, H⟩ := ceq_5 R1.1 H
  have h := (mm_main hn2 k).1 d 1 s [] _ M' v (by omega) rfl (by omega) (Or.inl rfl) R1 h40 ⟨_, _, _, _, v1, M1, H1, H⟩
  cases hr : (prS B k).1 1 s with
  | inr f =>
    rw [hr] at h
    exact FLT.pre F2 h
  | inl s2 =>
    rw [hr] at h
    obtain ⟨M2, pend, c, p1, p2, p3, p4, F3, R2, ⟨c4, hB⟩⟩ := h
    have n23 : (23 : Int32) ∉ pend ++ [] := fun q => by
      rw [List.append_nil] at q
      rcases p1 _ q with q | q
      · exact absurd q (by decide)
      · exact absurd q (by decide)
    have go57 : Ev none (d + 1) 179 57 [some (.ref 633), c4] [] M2 v M' 0 0 := by
      rcases ceq_14 R2.1 hB with ⟨_, hB⟩ | ⟨_, e3, v4, M4, _, H4, hB⟩
      · exact hB
      · obtain ⟨ho, rfl⟩ := R2.isOpen H4
        rcases ho with ⟨_, q⟩ | ⟨rfl, _⟩
        · exact absurd q n23
        rcases ceq_27 R2.1 hB with ⟨_, hB⟩ | ⟨q, _⟩
        · exact hB
        · exact absurd rfl q
    have an0 : G_164 M2 6385252 = 0 := by
      rcases R2.2.2.2.1.word R2.2.2.2.2.2.1 (u := andW) (C := 6385252) (by decide) (by decide +kernel) with ⟨_, q⟩ | ⟨q, _⟩
      · exact absurd q p3
      · exact q
    have or0 : G_164 M2 28530 = 0 := by
      rcases R2.2.2.2.1.word R2.2.2.2.2.2.1 (u := orW) (C := 28530) (by decide) (by decide +kernel) with ⟨_, q⟩ | ⟨q, _⟩
      · exact absurd q p4
      · exact q
    rcases ceq_57 R2.1 go57 with ⟨_, _, e3, v4, M4, _, H4, hB⟩ | ⟨_, q, _⟩ | ⟨q, _⟩
    rotate_left
    · exact absurd or0 q
    · exact absurd an0 q
    obtain ⟨ho, rfl⟩ := R2.isOpen H4
    rcases ho with ⟨_, q⟩ | ⟨rfl, _⟩
    · exact absurd q n23
    rcases ceq_83 R2.1 hB with ⟨_, e4, v5, M5, _, H5, hB⟩ | ⟨q, _⟩
    rotate_left
    · exact absurd rfl q
    obtain ⟨rfl, F4, R4⟩ := RC.wdown _ _ _ R2 H5
    rw [show (s2.1, s2.2.1, c).2.2 = c from rfl, wdP_1 (Or.inl rfl) pend c p1, ← p2] at R4
    obtain ⟨h3, rfl⟩ := ceq_97 R4.1 hB
    exact ⟨h3, (F2.trans F3).trans F4, R4.r0⟩
end MAF
/-! THE CLASS'S READER: pieces of line (made by gcl.py) -/
theorem nb0_0 {e : Nat} {M M' : Mem} {v : Option Value} {i : Int32} (hS : SQ M) (a_t : gNth sT (fR M 3 8) = some 28) (H : Ev none e 35 0 [some (.ref 3), some (.int i), some (.int 0), none, none, none] [] M v M' 0 0) : ((zI M 3 7) = 3 ∧ 999 < (rI M 7 (zI M 3 6)) ∧ (0 ≤ (zI M 3 6).toInt ∧ (zI M 3 6).toInt < 401) ∧ (∃ e1 v1 M1, e = e1 + 1 ∧ Ev none e1 27 0 [some (.ref 3), some (.int 2)] [] M v1 M1 0 0 ∧ Ev none e 35 71 [some (.ref 3), some (.int i), some (.int 0), some (.int (rI M 7 (zI M 3 6))), some (.int 999), none] (v1.toList ++ []) M1 v M' 0 0)) ∨ ((zI M 3 7) = 3 ∧ ¬ (999 < (rI M 7 (zI M 3 6))) ∧ (0 ≤ (zI M 3 6).toInt ∧ (zI M 3 6).toInt < 401) ∧ (0 ≤ i.toInt ∧ i.toInt < 16) ∧ (∃ e1 v1 M1, e = e1 + 1 ∧ Ev none e1 31 0 [some (.ref 3)] [] (wF (wI M (fR M 3 8 + 3) i.toNatClampNeg (rI M 7 (zI M 3 6))) 3 10 ((zI M 3 10) ||| 0)) v1 M1 0 0 ∧ Ev none e 35 217 [some (.ref 3), some (.int i), some (.int 0), some (.int (rI M 7 (zI M 3 6))), some (.int 999), some (.int 0)] (v1.toList ++ []) M1 v M' 0 0)) ∨ (¬ ((zI M 3 7) = 3) ∧ (∃ e1 v1 M1, e = e1 + 1 ∧ Ev none e1 27 0 [some (.ref 3), some (.int 1)] [] M v1 M1 0 0 ∧ Ev none e 35 13 [some (.ref 3), some (.int i), some (.int 0), none, none, none] (v1.toList ++ []) M1 v M' 0 0)) := by
  have H : Ev none e 35 1 [some (.ref 3), some (.int i), some (.int 0), none, none, none] [.ref 3] M v M' 0 0 := Ev.back 1 (fun n => rfl) H
  have H : Ev none e 35 4 [some (.ref 3), some (.int i), some (.int 0), none, none, none] [.int (zI M 3 7)] M v M' 0 0 := Ev.back 1 (gs_3 rfl rfl (gf_i hS.1 qa_3 qi_3_7 rfl)) H
  have H : Ev none e 35 (if (zI M 3 7) = 3 then 14 else 8) [some (.ref 3), some (.int i), some (.int 0), none, none, none] [] M v M' 0 0 := Ev.back 2 (fun n => rfl) H
  by_cases h1 : (zI M 3 7) = 3
  · rw [if_pos h1] at H
    have H : Ev none e 35 15 [some (.ref 3), some (.int i), some (.int 0), none, none, none] [.ref 3] M v M' 0 0 := Ev.back 1 (fun n => rfl) H
    have H : Ev none e 35 18 [some (.ref 3), some (.int i), some (.int 0), none, none, none] [.ref 7] M v M' 0 0 := Ev.back 1 (gs_3 rfl rfl (gf_u hS.1 qa_3 qr_3_4 qu_7 rfl)) H
    have H : Ev none e 35 19 [some (.ref 3), some (.int i), some (.int 0), none, none, none] [.ref 3, .ref 7] M v M' 0 0 := Ev.back 1 (fun n => rfl) H
    have H : Ev none e 35 22 [some (.ref 3), some (.int i), some (.int 0), none, none, none] [.int (zI M 3 6), .ref 7] M v M' 0 0 := Ev.back 1 (gs_3 rfl rfl (gf_i hS.1 qa_3 qi_3_6 rfl)) H
    obtain ⟨b2, H⟩ := Ev.ial rfl rfl hS.1 qa_7 qw_7 H
    have H : Ev none e 35 23 [some (.ref 3), some (.int i), some (.int 0), none, none, none] [.int (rI M 7 (zI M 3 6))] M v M' 0 0 := H
    have H : Ev none e 35 (if 0 = 5 then 29 else 34) [some (.ref 3), some (.int i), some (.int 0), some (.int (rI M 7 (zI M 3 6))), none, none] [] M v M' 0 0 := Ev.back 4 (fun n => rfl) H
    rw [if_neg (by decide)] at H
    have H : Ev none e 35 (if 0 = 7 then 40 else 45) [some (.ref 3), some (.int i), some (.int 0), some (.int (rI M 7 (zI M 3 6))), none, none] [] M v M' 0 0 := Ev.back 3 (fun n => rfl) H
    rw [if_neg (by decide)] at H
    have H : Ev none e 35 (if 999 < (rI M 7 (zI M 3 6)) then 66 else 56) [some (.ref 3), some (.int i), some (.int 0), some (.int (rI M 7 (zI M 3 6))), some (.int 999), none] [] M v M' 0 0 := Ev.back 5 (fun n => rfl) H
    by_cases h3 : 999 < (rI M 7 (zI M 3 6))
    · rw [if_pos h3] at H
      have H : Ev none e 35 68 [some (.ref 3), some (.int i), some (.int 0), some (.int (rI M 7 (zI M 3 6))), some (.int 999), none] [.int 2, .ref 3] M v M' 0 0 := Ev.back 2 (fun n => rfl) H
      obtain ⟨e1, rfl⟩ := Ev.dpos rfl rfl H
      obtain ⟨vK4, MK4, K4, H⟩ := Ev.callb (fun n => gs_7 rfl rfl (show gCal (.invokevirtual 68) 3 (.int 2 :: .ref 3 :: []) M = some (.inr (27, [some (.ref 3), some (.int 2)], [])) from by show @cond (Option ((List Value × Mem) ⊕ (Nat × Lo × List Value))) (true && gRecv M (.ref 3) 3 && gRoom [] && true) (some (.inr (27, [some (.ref 3), some (.int 2)], []))) none = _; rw [recv_s hS.1 qa_3 qo_3]; rfl)) H
      have K4 : Ev none e1 27 0 [some (.ref 3), some (.int 2)] [] M vK4 MK4 0 0 := K4
      have HF := H
      exact Or.inl ⟨h1, h3, b2, ⟨e1, vK4, MK4, rfl, K4, HF⟩⟩
    · rw [if_neg h3] at H
      have H : Ev none e 35 (if 0 = 2 then 61 else 72) [some (.ref 3), some (.int i), some (.int 0), some (.int (rI M 7 (zI M 3 6))), some (.int 999), none] [] M v M' 0 0 := Ev.back 3 (fun n => rfl) H
      rw [if_neg (by decide)] at H
      have H : Ev none e 35 73 [some (.ref 3), some (.int i), some (.int 0), some (.int (rI M 7 (zI M 3 6))), some (.int 999), none] [.ref 3] M v M' 0 0 := Ev.back 1 (fun n => rfl) H
      have H : Ev none e 35 76 [some (.ref 3), some (.int i), some (.int 0), some (.int (rI M 7 (zI M 3 6))), some (.int 999), none] [.ref (fR M 3 8)] M v M' 0 0 := Ev.back 1 (gs_3 rfl rfl (gf_n hS.1 qa_3 qn_3_8 (by decide) a_t rfl)) H
      have H : Ev none e 35 79 [some (.ref 3), some (.int i), some (.int 0), some (.int (rI M 7 (zI M 3 6))), some (.int 999), none] [.ref (fR M 3 8 + 3)] M v M' 0 0 := Ev.back 1 (gs_3 rfl rfl (gf_x hS.1 a_t qo_28 (fx_t2 hS a_t) rfl)) H
      have H : Ev none e 35 81 [some (.ref 3), some (.int i), some (.int 0), some (.int (rI M 7 (zI M 3 6))), some (.int 999), none] [.int (rI M 7 (zI M 3 6)), .int i, .ref (fR M 3 8 + 3)] M v M' 0 0 := Ev.back 2 (fun n => rfl) H
      obtain ⟨b5, H⟩ := Ev.ias rfl rfl hS.1 (fx_g2 a_t) qw_31 H
      obtain ⟨N6, eN6⟩ : ∃ N, N = (wI M (fR M 3 8 + 3) i.toNatClampNeg (rI M 7 (zI M 3 6))) := ⟨_, rfl⟩
      have hN6 : SQ N6 := by rw [eN6]; exact hS.ki
      have H : Ev none e 35 82 [some (.ref 3), some (.int i), some (.int 0), some (.int (rI M 7 (zI M 3 6))), some (.int 999), none] [] N6 v M' 0 0 := by rw [eN6]; exact H
      have H : Ev none e 35 (if 0 = 2 then 185 else 169) [some (.ref 3), some (.int i), some (.int 0), some (.int (rI M 7 (zI M 3 6))), some (.int 999), none] [] N6 v M' 0 0 := Ev.back 5 (fun n => rfl) H
      rw [if_neg (by decide)] at H
      have H : Ev none e 35 (if 0 = 3 then 185 else 174) [some (.ref 3), some (.int i), some (.int 0), some (.int (rI M 7 (zI M 3 6))), some (.int 999), none] [] N6 v M' 0 0 := Ev.back 3 (fun n => rfl) H
      rw [if_neg (by decide)] at H
      have H : Ev none e 35 (if 0 = 4 then 185 else 179) [some (.ref 3), some (.int i), some (.int 0), some (.int (rI M 7 (zI M 3 6))), some (.int 999), none] [] N6 v M' 0 0 := Ev.back 3 (fun n => rfl) H
      rw [if_neg (by decide)] at H
      have H : Ev none e 35 (if 0 = 7 then 185 else 189) [some (.ref 3), some (.int i), some (.int 0), some (.int (rI M 7 (zI M 3 6))), some (.int 999), none] [] N6 v M' 0 0 := Ev.back 3 (fun n => rfl) H
      rw [if_neg (by decide)] at H
      have H : Ev none e 35 194 [some (.ref 3), some (.int i), some (.int 0), some (.int (rI M 7 (zI M 3 6))), some (.int 999), some (.int 0)] [.ref 3, .ref 3] N6 v M' 0 0 := Ev.back 4 (fun n => rfl) H
      have H : Ev none e 35 197 [some (.ref 3), some (.int i), some (.int 0), some (.int (rI M 7 (zI M 3 6))), some (.int 999), some (.int 0)] [.int (zI N6 3 10), .ref 3] N6 v M' 0 0 := Ev.back 1 (gs_3 rfl rfl (gf_i hN6.1 qa_3 qi_3_10 rfl)) H
      rw [show zI N6 3 10 = zI M 3 10 from by rw [eN6]; exact fI_wI] at H
      have H : Ev none e 35 (if 0 = 0 then 208 else 202) [some (.ref 3), some (.int i), some (.int 0), some (.int (rI M 7 (zI M 3 6))), some (.int 999), some (.int 0)] [.int (zI M 3 10), .ref 3] N6 v M' 0 0 := Ev.back 2 (fun n => rfl) H
      rw [if_pos (by decide)] at H
      have H : Ev none e 35 210 [some (.ref 3), some (.int i), some (.int 0), some (.int (rI M 7 (zI M 3 6))), some (.int 999), some (.int 0)] [.int ((zI M 3 10) ||| 0), .ref 3] N6 v M' 0 0 := Ev.back 2 (fun n => rfl) H
      obtain ⟨N8, eN8⟩ : ∃ N, N = (wF N6 3 10 ((zI M 3 10) ||| 0)) := ⟨_, rfl⟩
      have hN8 : SQ N8 := by rw [eN8]; exact hN6.kf
      have H : Ev none e 35 213 [some (.ref 3), some (.int i), some (.int 0), some (.int (rI M 7 (zI M 3 6))), some (.int 999), some (.int 0)] [] N8 v M' 0 0 := by rw [eN8]; exact Ev.pfi rfl rfl rfl hN6.1 qa_3 qi_3_10 H
      have H : Ev none e 35 214 [some (.ref 3), some (.int i), some (.int 0), some (.int (rI M 7 (zI M 3 6))), some (.int 999), some (.int 0)] [.ref 3] N8 v M' 0 0 := Ev.back 1 (fun n => rfl) H
      obtain ⟨e1, rfl⟩ := Ev.dpos rfl rfl H
      obtain ⟨vK9, MK9, K9, H⟩ := Ev.callb (fun n => gs_7 rfl rfl (show gCal (.invokevirtual 140) 3 (.ref 3 :: []) N8 = some (.inr (31, [some (.ref 3)], [])) from by show @cond (Option ((List Value × Mem) ⊕ (Nat × Lo × List Value))) (true && gRecv N8 (.ref 3) 3 && gRoom [] && true) (some (.inr (31, [some (.ref 3)], []))) none = _; rw [recv_s hN8.1 qa_3 qo_3]; rfl)) H
      have K9 : Ev none e1 31 0 [some (.ref 3)] [] N8 vK9 MK9 0 0 := K9
      have HF := H
      subst eN6 eN8
      exact Or.inr (Or.inl ⟨h1, h3, b2, b5, ⟨e1, vK9, MK9, rfl, K9, HF⟩⟩)
  · rw [if_neg h1] at H
    have H : Ev none e 35 10 [some (.ref 3), some (.int i), some (.int 0), none, none, none] [.int 1, .ref 3] M v M' 0 0 := Ev.back 2 (fun n => rfl) H
    obtain ⟨e1, rfl⟩ := Ev.dpos rfl rfl H
    obtain ⟨vK10, MK10, K10, H⟩ := Ev.callb (fun n => gs_7 rfl rfl (show gCal (.invokevirtual 68) 3 (.int 1 :: .ref 3 :: []) M = some (.inr (27, [some (.ref 3), some (.int 1)], [])) from by show @cond (Option ((List Value × Mem) ⊕ (Nat × Lo × List Value))) (true && gRecv M (.ref 3) 3 && gRoom [] && true) (some (.inr (27, [some (.ref 3), some (.int 1)], []))) none = _; rw [recv_s hS.1 qa_3 qo_3]; rfl)) H
    have K10 : Ev none e1 27 0 [some (.ref 3), some (.int 1)] [] M vK10 MK10 0 0 := K10
    have HF := H
    exact Or.inr (Or.inr (⟨h1, ⟨e1, vK10, MK10, rfl, K10, HF⟩⟩))
theorem nb0_217 {e : Nat} {M M' : Mem} {v : Option Value} {i nn mo oc : Int32} (hS : SQ M) (a_t : gNth sT (fR M 3 8) = some 28) (H : Ev none e 35 217 [some (.ref 3), some (.int i), some (.int 0), some (.int nn), some (.int mo), some (.int oc)] [] M v M' 0 0) : v = some (.int 1) ∧ M' = M := by
  have H : Ev none e 35 218 [some (.ref 3), some (.int i), some (.int 0), some (.int nn), some (.int mo), some (.int oc)] [.int 1] M v M' 0 0 := Ev.back 1 (fun n => rfl) H
  obtain ⟨z1, z2⟩ := Ev.retz rfl rfl H
  exact ⟨z1, z2⟩
theorem nb0_13 {e : Nat} {M M' : Mem} {v : Option Value} {i y : Int32} (hS : SQ M) (a_t : gNth sT (fR M 3 8) = some 28) (H : Ev none e 35 13 [some (.ref 3), some (.int i), some (.int 0), none, none, none] [.int y] M v M' 0 0) : v = some (.int y) ∧ M' = M := by
  obtain ⟨z1, z2⟩ := Ev.retz rfl rfl H
  exact ⟨z1, z2⟩
theorem nb0_71 {e : Nat} {M M' : Mem} {v : Option Value} {i nn mo y : Int32} (hS : SQ M) (a_t : gNth sT (fR M 3 8) = some 28) (H : Ev none e 35 71 [some (.ref 3), some (.int i), some (.int 0), some (.int nn), some (.int mo), none] [.int y] M v M' 0 0) : v = some (.int y) ∧ M' = M := by
  obtain ⟨z1, z2⟩ := Ev.retz rfl rfl H
  exact ⟨z1, z2⟩
theorem nb1_0 {e : Nat} {M M' : Mem} {v : Option Value} {i : Int32} (hS : SQ M) (a_t : gNth sT (fR M 3 8) = some 28) (H : Ev none e 35 0 [some (.ref 3), some (.int i), some (.int 1), none, none, none] [] M v M' 0 0) : ((zI M 3 7) = 3 ∧ 999 < (rI M 7 (zI M 3 6)) ∧ (0 ≤ (zI M 3 6).toInt ∧ (zI M 3 6).toInt < 401) ∧ (∃ e1 v1 M1, e = e1 + 1 ∧ Ev none e1 27 0 [some (.ref 3), some (.int 2)] [] M v1 M1 0 0 ∧ Ev none e 35 71 [some (.ref 3), some (.int i), some (.int 1), some (.int (rI M 7 (zI M 3 6))), some (.int 999), none] (v1.toList ++ []) M1 v M' 0 0)) ∨ ((zI M 3 7) = 3 ∧ ¬ (999 < (rI M 7 (zI M 3 6))) ∧ (0 ≤ (zI M 3 6).toInt ∧ (zI M 3 6).toInt < 401) ∧ (0 ≤ i.toInt ∧ i.toInt < 16) ∧ (∃ e1 v1 M1, e = e1 + 1 ∧ Ev none e1 31 0 [some (.ref 3)] [] (wF (wI M (fR M 3 8 + 3) i.toNatClampNeg (rI M 7 (zI M 3 6))) 3 10 ((zI M 3 10) ||| 0)) v1 M1 0 0 ∧ Ev none e 35 217 [some (.ref 3), some (.int i), some (.int 1), some (.int (rI M 7 (zI M 3 6))), some (.int 999), some (.int 0)] (v1.toList ++ []) M1 v M' 0 0)) ∨ (¬ ((zI M 3 7) = 3) ∧ (∃ e1 v1 M1, e = e1 + 1 ∧ Ev none e1 27 0 [some (.ref 3), some (.int 1)] [] M v1 M1 0 0 ∧ Ev none e 35 13 [some (.ref 3), some (.int i), some (.int 1), none, none, none] (v1.toList ++ []) M1 v M' 0 0)) := by
  have H : Ev none e 35 1 [some (.ref 3), some (.int i), some (.int 1), none, none, none] [.ref 3] M v M' 0 0 := Ev.back 1 (fun n => rfl) H
  have H : Ev none e 35 4 [some (.ref 3), some (.int i), some (.int 1), none, none, none] [.int (zI M 3 7)] M v M' 0 0 := Ev.back 1 (gs_3 rfl rfl (gf_i hS.1 qa_3 qi_3_7 rfl)) H
  have H : Ev none e 35 (if (zI M 3 7) = 3 then 14 else 8) [some (.ref 3), some (.int i), some (.int 1), none, none, none] [] M v M' 0 0 := Ev.back 2 (fun n => rfl) H
  by_cases h1 : (zI M 3 7) = 3
  · rw [if_pos h1] at H
    have H : Ev none e 35 15 [some (.ref 3), some (.int i), some (.int 1), none, none, none] [.ref 3] M v M' 0 0 := Ev.back 1 (fun n => rfl) H
    have H : Ev none e 35 18 [some (.ref 3), some (.int i), some (.int 1), none, none, none] [.ref 7] M v M' 0 0 := Ev.back 1 (gs_3 rfl rfl (gf_u hS.1 qa_3 qr_3_4 qu_7 rfl)) H
    have H : Ev none e 35 19 [some (.ref 3), some (.int i), some (.int 1), none, none, none] [.ref 3, .ref 7] M v M' 0 0 := Ev.back 1 (fun n => rfl) H
    have H : Ev none e 35 22 [some (.ref 3), some (.int i), some (.int 1), none, none, none] [.int (zI M 3 6), .ref 7] M v M' 0 0 := Ev.back 1 (gs_3 rfl rfl (gf_i hS.1 qa_3 qi_3_6 rfl)) H
    obtain ⟨b2, H⟩ := Ev.ial rfl rfl hS.1 qa_7 qw_7 H
    have H : Ev none e 35 23 [some (.ref 3), some (.int i), some (.int 1), none, none, none] [.int (rI M 7 (zI M 3 6))] M v M' 0 0 := H
    have H : Ev none e 35 (if 1 = 5 then 29 else 34) [some (.ref 3), some (.int i), some (.int 1), some (.int (rI M 7 (zI M 3 6))), none, none] [] M v M' 0 0 := Ev.back 4 (fun n => rfl) H
    rw [if_neg (by decide)] at H
    have H : Ev none e 35 (if 1 = 7 then 40 else 45) [some (.ref 3), some (.int i), some (.int 1), some (.int (rI M 7 (zI M 3 6))), none, none] [] M v M' 0 0 := Ev.back 3 (fun n => rfl) H
    rw [if_neg (by decide)] at H
    have H : Ev none e 35 (if 999 < (rI M 7 (zI M 3 6)) then 66 else 56) [some (.ref 3), some (.int i), some (.int 1), some (.int (rI M 7 (zI M 3 6))), some (.int 999), none] [] M v M' 0 0 := Ev.back 5 (fun n => rfl) H
    by_cases h3 : 999 < (rI M 7 (zI M 3 6))
    · rw [if_pos h3] at H
      have H : Ev none e 35 68 [some (.ref 3), some (.int i), some (.int 1), some (.int (rI M 7 (zI M 3 6))), some (.int 999), none] [.int 2, .ref 3] M v M' 0 0 := Ev.back 2 (fun n => rfl) H
      obtain ⟨e1, rfl⟩ := Ev.dpos rfl rfl H
      obtain ⟨vK4, MK4, K4, H⟩ := Ev.callb (fun n => gs_7 rfl rfl (show gCal (.invokevirtual 68) 3 (.int 2 :: .ref 3 :: []) M = some (.inr (27, [some (.ref 3), some (.int 2)], [])) from by show @cond (Option ((List Value × Mem) ⊕ (Nat × Lo × List Value))) (true && gRecv M (.ref 3) 3 && gRoom [] && true) (some (.inr (27, [some (.ref 3), some (.int 2)], []))) none = _; rw [recv_s hS.1 qa_3 qo_3]; rfl)) H
      have K4 : Ev none e1 27 0 [some (.ref 3), some (.int 2)] [] M vK4 MK4 0 0 := K4
      have HF := H
      exact Or.inl ⟨h1, h3, b2, ⟨e1, vK4, MK4, rfl, K4, HF⟩⟩
    · rw [if_neg h3] at H
      have H : Ev none e 35 (if 1 = 2 then 61 else 72) [some (.ref 3), some (.int i), some (.int 1), some (.int (rI M 7 (zI M 3 6))), some (.int 999), none] [] M v M' 0 0 := Ev.back 3 (fun n => rfl) H
      rw [if_neg (by decide)] at H
      have H : Ev none e 35 73 [some (.ref 3), some (.int i), some (.int 1), some (.int (rI M 7 (zI M 3 6))), some (.int 999), none] [.ref 3] M v M' 0 0 := Ev.back 1 (fun n => rfl) H
      have H : Ev none e 35 76 [some (.ref 3), some (.int i), some (.int 1), some (.int (rI M 7 (zI M 3 6))), some (.int 999), none] [.ref (fR M 3 8)] M v M' 0 0 := Ev.back 1 (gs_3 rfl rfl (gf_n hS.1 qa_3 qn_3_8 (by decide) a_t rfl)) H
      have H : Ev none e 35 79 [some (.ref 3), some (.int i), some (.int 1), some (.int (rI M 7 (zI M 3 6))), some (.int 999), none] [.ref (fR M 3 8 + 3)] M v M' 0 0 := Ev.back 1 (gs_3 rfl rfl (gf_x hS.1 a_t qo_28 (fx_t2 hS a_t) rfl)) H
      have H : Ev none e 35 81 [some (.ref 3), some (.int i), some (.int 1), some (.int (rI M 7 (zI M 3 6))), some (.int 999), none] [.int (rI M 7 (zI M 3 6)), .int i, .ref (fR M 3 8 + 3)] M v M' 0 0 := Ev.back 2 (fun n => rfl) H
      obtain ⟨b5, H⟩ := Ev.ias rfl rfl hS.1 (fx_g2 a_t) qw_31 H
      obtain ⟨N6, eN6⟩ : ∃ N, N = (wI M (fR M 3 8 + 3) i.toNatClampNeg (rI M 7 (zI M 3 6))) := ⟨_, rfl⟩
      have hN6 : SQ N6 := by rw [eN6]; exact hS.ki
      have H : Ev none e 35 82 [some (.ref 3), some (.int i), some (.int 1), some (.int (rI M 7 (zI M 3 6))), some (.int 999), none] [] N6 v M' 0 0 := by rw [eN6]; exact H
      have H : Ev none e 35 (if 1 = 2 then 185 else 169) [some (.ref 3), some (.int i), some (.int 1), some (.int (rI M 7 (zI M 3 6))), some (.int 999), none] [] N6 v M' 0 0 := Ev.back 5 (fun n => rfl) H
      rw [if_neg (by decide)] at H
      have H : Ev none e 35 (if 1 = 3 then 185 else 174) [some (.ref 3), some (.int i), some (.int 1), some (.int (rI M 7 (zI M 3 6))), some (.int 999), none] [] N6 v M' 0 0 := Ev.back 3 (fun n => rfl) H
      rw [if_neg (by decide)] at H
      have H : Ev none e 35 (if 1 = 4 then 185 else 179) [some (.ref 3), some (.int i), some (.int 1), some (.int (rI M 7 (zI M 3 6))), some (.int 999), none] [] N6 v M' 0 0 := Ev.back 3 (fun n => rfl) H
      rw [if_neg (by decide)] at H
      have H : Ev none e 35 (if 1 = 7 then 185 else 189) [some (.ref 3), some (.int i), some (.int 1), some (.int (rI M 7 (zI M 3 6))), some (.int 999), none] [] N6 v M' 0 0 := Ev.back 3 (fun n => rfl) H
      rw [if_neg (by decide)] at H
      have H : Ev none e 35 194 [some (.ref 3), some (.int i), some (.int 1), some (.int (rI M 7 (zI M 3 6))), some (.int 999), some (.int 0)] [.ref 3, .ref 3] N6 v M' 0 0 := Ev.back 4 (fun n => rfl) H
      have H : Ev none e 35 197 [some (.ref 3), some (.int i), some (.int 1), some (.int (rI M 7 (zI M 3 6))), some (.int 999), some (.int 0)] [.int (zI N6 3 10), .ref 3] N6 v M' 0 0 := Ev.back 1 (gs_3 rfl rfl (gf_i hN6.1 qa_3 qi_3_10 rfl)) H
      rw [show zI N6 3 10 = zI M 3 10 from by rw [eN6]; exact fI_wI] at H
      have H : Ev none e 35 (if 0 = 0 then 208 else 202) [some (.ref 3), some (.int i), some (.int 1), some (.int (rI M 7 (zI M 3 6))), some (.int 999), some (.int 0)] [.int (zI M 3 10), .ref 3] N6 v M' 0 0 := Ev.back 2 (fun n => rfl) H
      rw [if_pos (by decide)] at H
      have H : Ev none e 35 210 [some (.ref 3), some (.int i), some (.int 1), some (.int (rI M 7 (zI M 3 6))), some (.int 999), some (.int 0)] [.int ((zI M 3 10) ||| 0), .ref 3] N6 v M' 0 0 := Ev.back 2 (fun n => rfl) H
      obtain ⟨N8, eN8⟩ : ∃ N, N = (wF N6 3 10 ((zI M 3 10) ||| 0)) := ⟨_, rfl⟩
      have hN8 : SQ N8 := by rw [eN8]; exact hN6.kf
      have H : Ev none e 35 213 [some (.ref 3), some (.int i), some (.int 1), some (.int (rI M 7 (zI M 3 6))), some (.int 999), some (.int 0)] [] N8 v M' 0 0 := by rw [eN8]; exact Ev.pfi rfl rfl rfl hN6.1 qa_3 qi_3_10 H
      have H : Ev none e 35 214 [some (.ref 3), some (.int i), some (.int 1), some (.int (rI M 7 (zI M 3 6))), some (.int 999), some (.int 0)] [.ref 3] N8 v M' 0 0 := Ev.back 1 (fun n => rfl) H
      obtain ⟨e1, rfl⟩ := Ev.dpos rfl rfl H
      obtain ⟨vK9, MK9, K9, H⟩ := Ev.callb (fun n => gs_7 rfl rfl (show gCal (.invokevirtual 140) 3 (.ref 3 :: []) N8 = some (.inr (31, [some (.ref 3)], [])) from by show @cond (Option ((List Value × Mem) ⊕ (Nat × Lo × List Value))) (true && gRecv N8 (.ref 3) 3 && gRoom [] && true) (some (.inr (31, [some (.ref 3)], []))) none = _; rw [recv_s hN8.1 qa_3 qo_3]; rfl)) H
      have K9 : Ev none e1 31 0 [some (.ref 3)] [] N8 vK9 MK9 0 0 := K9
      have HF := H
      subst eN6 eN8
      exact Or.inr (Or.inl ⟨h1, h3, b2, b5, ⟨e1, vK9, MK9, rfl, K9, HF⟩⟩)
  · rw [if_neg h1] at H
    have H : Ev none e 35 10 [some (.ref 3), some (.int i), some (.int 1), none, none, none] [.int 1, .ref 3] M v M' 0 0 := Ev.back 2 (fun n => rfl) H
    obtain ⟨e1, rfl⟩ := Ev.dpos rfl rfl H
    obtain ⟨vK10, MK10, K10, H⟩ := Ev.callb (fun n => gs_7 rfl rfl (show gCal (.invokevirtual 68) 3 (.int 1 :: .ref 3 :: []) M = some (.inr (27, [some (.ref 3), some (.int 1)], [])) from by show @cond (Option ((List Value × Mem) ⊕ (Nat × Lo × List Value))) (true && gRecv M (.ref 3) 3 && gRoom [] && true) (some (.inr (27, [some (.ref 3), some (.int 1)], []))) none = _; rw [recv_s hS.1 qa_3 qo_3]; rfl)) H
    have K10 : Ev none e1 27 0 [some (.ref 3), some (.int 1)] [] M vK10 MK10 0 0 := K10
    have HF := H
    exact Or.inr (Or.inr (⟨h1, ⟨e1, vK10, MK10, rfl, K10, HF⟩⟩))
theorem nb1_217 {e : Nat} {M M' : Mem} {v : Option Value} {i nn mo oc : Int32} (hS : SQ M) (a_t : gNth sT (fR M 3 8) = some 28) (H : Ev none e 35 217 [some (.ref 3), some (.int i), some (.int 1), some (.int nn), some (.int mo), some (.int oc)] [] M v M' 0 0) : v = some (.int 1) ∧ M' = M := by
  have H : Ev none e 35 218 [some (.ref 3), some (.int i), some (.int 1), some (.int nn), some (.int mo), some (.int oc)] [.int 1] M v M' 0 0 := Ev.back 1 (fun n => rfl) H
  obtain ⟨z1, z2⟩ := Ev.retz rfl rfl H
  exact ⟨z1, z2⟩
theorem nb1_13 {e : Nat} {M M' : Mem} {v : Option Value} {i y : Int32} (hS : SQ M) (a_t : gNth sT (fR M 3 8) = some 28) (H : Ev none e 35 13 [some (.ref 3), some (.int i), some (.int 1), none, none, none] [.int y] M v M' 0 0) : v = some (.int y) ∧ M' = M := by
  obtain ⟨z1, z2⟩ := Ev.retz rfl rfl H
  exact ⟨z1, z2⟩
theorem nb1_71 {e : Nat} {M M' : Mem} {v : Option Value} {i nn mo y : Int32} (hS : SQ M) (a_t : gNth sT (fR M 3 8) = some 28) (H : Ev none e 35 71 [some (.ref 3), some (.int i), some (.int 1), some (.int nn), some (.int mo), none] [.int y] M v M' 0 0) : v = some (.int y) ∧ M' = M := by
  obtain ⟨z1, z2⟩ := Ev.retz rfl rfl H
  exact ⟨z1, z2⟩
theorem nb2_0 {e : Nat} {M M' : Mem} {v : Option Value} {i : Int32} (hS : SQ M) (a_t : gNth sT (fR M 3 8) = some 28) (H : Ev none e 35 0 [some (.ref 3), some (.int i), some (.int 2), none, none, none] [] M v M' 0 0) : ((zI M 3 7) = 3 ∧ 999 < (rI M 7 (zI M 3 6)) ∧ (0 ≤ (zI M 3 6).toInt ∧ (zI M 3 6).toInt < 401) ∧ (∃ e1 v1 M1, e = e1 + 1 ∧ Ev none e1 27 0 [some (.ref 3), some (.int 2)] [] M v1 M1 0 0 ∧ Ev none e 35 71 [some (.ref 3), some (.int i), some (.int 2), some (.int (rI M 7 (zI M 3 6))), some (.int 999), none] (v1.toList ++ []) M1 v M' 0 0)) ∨ ((zI M 3 7) = 3 ∧ ¬ (999 < (rI M 7 (zI M 3 6))) ∧ 1 ≤ (rI M 7 (zI M 3 6)) ∧ (0 ≤ (zI M 3 6).toInt ∧ (zI M 3 6).toInt < 401) ∧ (0 ≤ i.toInt ∧ i.toInt < 16) ∧ (∃ e1 v1 M1, e = e1 + 1 ∧ Ev none e1 31 0 [some (.ref 3)] [] (wF (wF (wI M (fR M 3 8 + 3) i.toNatClampNeg (rI M 7 (zI M 3 6))) (fR M 3 8) 10 (rI M 7 (zI M 3 6))) 3 10 ((zI (wF (wI M (fR M 3 8 + 3) i.toNatClampNeg (rI M 7 (zI M 3 6))) (fR M 3 8) 10 (rI M 7 (zI M 3 6))) 3 10) ||| ((1 : Int32) <<< ((2 : Int32) &&& 31)))) v1 M1 0 0 ∧ Ev none e 35 217 [some (.ref 3), some (.int i), some (.int 2), some (.int (rI M 7 (zI M 3 6))), some (.int 999), some (.int 1)] (v1.toList ++ []) M1 v M' 0 0)) ∨ ((zI M 3 7) = 3 ∧ ¬ (999 < (rI M 7 (zI M 3 6))) ∧ ¬ (1 ≤ (rI M 7 (zI M 3 6))) ∧ (0 ≤ (zI M 3 6).toInt ∧ (zI M 3 6).toInt < 401) ∧ (∃ e1 v1 M1, e = e1 + 1 ∧ Ev none e1 27 0 [some (.ref 3), some (.int 2)] [] M v1 M1 0 0 ∧ Ev none e 35 71 [some (.ref 3), some (.int i), some (.int 2), some (.int (rI M 7 (zI M 3 6))), some (.int 999), none] (v1.toList ++ []) M1 v M' 0 0)) ∨ (¬ ((zI M 3 7) = 3) ∧ (∃ e1 v1 M1, e = e1 + 1 ∧ Ev none e1 27 0 [some (.ref 3), some (.int 1)] [] M v1 M1 0 0 ∧ Ev none e 35 13 [some (.ref 3), some (.int i), some (.int 2), none, none, none] (v1.toList ++ []) M1 v M' 0 0)) := by
  have H : Ev none e 35 1 [some (.ref 3), some (.int i), some (.int 2), none, none, none] [.ref 3] M v M' 0 0 := Ev.back 1 (fun n => rfl) H
  have H : Ev none e 35 4 [some (.ref 3), some (.int i), some (.int 2), none, none, none] [.int (zI M 3 7)] M v M' 0 0 := Ev.back 1 (gs_3 rfl rfl (gf_i hS.1 qa_3 qi_3_7 rfl)) H
  have H : Ev none e 35 (if (zI M 3 7) = 3 then 14 else 8) [some (.ref 3), some (.int i), some (.int 2), none, none, none] [] M v M' 0 0 := Ev.back 2 (fun n => rfl) H
  by_cases h1 : (zI M 3 7) = 3
  · rw [if_pos h1] at H
    have H : Ev none e 35 15 [some (.ref 3), some (.int i), some (.int 2), none, none, none] [.ref 3] M v M' 0 0 := Ev.back 1 (fun n => rfl) H
    have H : Ev none e 35 18 [some (.ref 3), some (.int i), some (.int 2), none, none, none] [.ref 7] M v M' 0 0 := Ev.back 1 (gs_3 rfl rfl (gf_u hS.1 qa_3 qr_3_4 qu_7 rfl)) H
    have H : Ev none e 35 19 [some (.ref 3), some (.int i), some (.int 2), none, none, none] [.ref 3, .ref 7] M v M' 0 0 := Ev.back 1 (fun n => rfl) H
    have H : Ev none e 35 22 [some (.ref 3), some (.int i), some (.int 2), none, none, none] [.int (zI M 3 6), .ref 7] M v M' 0 0 := Ev.back 1 (gs_3 rfl rfl (gf_i hS.1 qa_3 qi_3_6 rfl)) H
    obtain ⟨b2, H⟩ := Ev.ial rfl rfl hS.1 qa_7 qw_7 H
    have H : Ev none e 35 23 [some (.ref 3), some (.int i), some (.int 2), none, none, none] [.int (rI M 7 (zI M 3 6))] M v M' 0 0 := H
    have H : Ev none e 35 (if 2 = 5 then 29 else 34) [some (.ref 3), some (.int i), some (.int 2), some (.int (rI M 7 (zI M 3 6))), none, none] [] M v M' 0 0 := Ev.back 4 (fun n => rfl) H
    rw [if_neg (by decide)] at H
    have H : Ev none e 35 (if 2 = 7 then 40 else 45) [some (.ref 3), some (.int i), some (.int 2), some (.int (rI M 7 (zI M 3 6))), none, none] [] M v M' 0 0 := Ev.back 3 (fun n => rfl) H
    rw [if_neg (by decide)] at H
    have H : Ev none e 35 (if 999 < (rI M 7 (zI M 3 6)) then 66 else 56) [some (.ref 3), some (.int i), some (.int 2), some (.int (rI M 7 (zI M 3 6))), some (.int 999), none] [] M v M' 0 0 := Ev.back 5 (fun n => rfl) H
    by_cases h3 : 999 < (rI M 7 (zI M 3 6))
    · rw [if_pos h3] at H
      have H : Ev none e 35 68 [some (.ref 3), some (.int i), some (.int 2), some (.int (rI M 7 (zI M 3 6))), some (.int 999), none] [.int 2, .ref 3] M v M' 0 0 := Ev.back 2 (fun n => rfl) H
      obtain ⟨e1, rfl⟩ := Ev.dpos rfl rfl H
      obtain ⟨vK4, MK4, K4, H⟩ := Ev.callb (fun n => gs_7 rfl rfl (show gCal (.invokevirtual 68) 3 (.int 2 :: .ref 3 :: []) M = some (.inr (27, [some (.ref 3), some (.int 2)], [])) from by show @cond (Option ((List Value × Mem) ⊕ (Nat × Lo × List Value))) (true && gRecv M (.ref 3) 3 && gRoom [] && true) (some (.inr (27, [some (.ref 3), some (.int 2)], []))) none = _; rw [recv_s hS.1 qa_3 qo_3]; rfl)) H
      have K4 : Ev none e1 27 0 [some (.ref 3), some (.int 2)] [] M vK4 MK4 0 0 := K4
      have HF := H
      exact Or.inl ⟨h1, h3, b2, ⟨e1, vK4, MK4, rfl, K4, HF⟩⟩
    · rw [if_neg h3] at H
      have H : Ev none e 35 (if 2 = 2 then 61 else 72) [some (.ref 3), some (.int i), some (.int 2), some (.int (rI M 7 (zI M 3 6))), some (.int 999), none] [] M v M' 0 0 := Ev.back 3 (fun n => rfl) H
      rw [if_pos (by decide)] at H
      have H : Ev none e 35 (if 1 ≤ (rI M 7 (zI M 3 6)) then 72 else 66) [some (.ref 3), some (.int i), some (.int 2), some (.int (rI M 7 (zI M 3 6))), some (.int 999), none] [] M v M' 0 0 := Ev.back 3 (fun n => rfl) H
      by_cases h5 : 1 ≤ (rI M 7 (zI M 3 6))
      · rw [if_pos h5] at H
        have H : Ev none e 35 73 [some (.ref 3), some (.int i), some (.int 2), some (.int (rI M 7 (zI M 3 6))), some (.int 999), none] [.ref 3] M v M' 0 0 := Ev.back 1 (fun n => rfl) H
        have H : Ev none e 35 76 [some (.ref 3), some (.int i), some (.int 2), some (.int (rI M 7 (zI M 3 6))), some (.int 999), none] [.ref (fR M 3 8)] M v M' 0 0 := Ev.back 1 (gs_3 rfl rfl (gf_n hS.1 qa_3 qn_3_8 (by decide) a_t rfl)) H
        have H : Ev none e 35 79 [some (.ref 3), some (.int i), some (.int 2), some (.int (rI M 7 (zI M 3 6))), some (.int 999), none] [.ref (fR M 3 8 + 3)] M v M' 0 0 := Ev.back 1 (gs_3 rfl rfl (gf_x hS.1 a_t qo_28 (fx_t2 hS a_t) rfl)) H
        have H : Ev none e 35 81 [some (.ref 3), some (.int i), some (.int 2), some (.int (rI M 7 (zI M 3 6))), some (.int 999), none] [.int (rI M 7 (zI M 3 6)), .int i, .ref (fR M 3 8 + 3)] M v M' 0 0 := Ev.back 2 (fun n => rfl) H
        obtain ⟨b6, H⟩ := Ev.ias rfl rfl hS.1 (fx_g2 a_t) qw_31 H
        obtain ⟨N7, eN7⟩ : ∃ N, N = (wI M (fR M 3 8 + 3) i.toNatClampNeg (rI M 7 (zI M 3 6))) := ⟨_, rfl⟩
        have hN7 : SQ N7 := by rw [eN7]; exact hS.ki
        have H : Ev none e 35 82 [some (.ref 3), some (.int i), some (.int 2), some (.int (rI M 7 (zI M 3 6))), some (.int 999), none] [] N7 v M' 0 0 := by rw [eN7]; exact H
        have H : Ev none e 35 121 [some (.ref 3), some (.int i), some (.int 2), some (.int (rI M 7 (zI M 3 6))), some (.int 999), none] [.ref 3] N7 v M' 0 0 := Ev.back 3 (fun n => rfl) H
        have H : Ev none e 35 124 [some (.ref 3), some (.int i), some (.int 2), some (.int (rI M 7 (zI M 3 6))), some (.int 999), none] [.ref (fR N7 3 8)] N7 v M' 0 0 := Ev.back 1 (gs_3 rfl rfl (gf_n hN7.1 qa_3 qn_3_8 (by decide) (by rw [show fR N7 3 8 = fR M 3 8 from by rw [eN7]; exact fR_wI]; exact a_t) rfl)) H
        rw [show fR N7 3 8 = fR M 3 8 from by rw [eN7]; exact fR_wI] at H
        have H : Ev none e 35 125 [some (.ref 3), some (.int i), some (.int 2), some (.int (rI M 7 (zI M 3 6))), some (.int 999), none] [.int (rI M 7 (zI M 3 6)), .ref (fR M 3 8)] N7 v M' 0 0 := Ev.back 1 (fun n => rfl) H
        obtain ⟨N9, eN9⟩ : ∃ N, N = (wF N7 (fR M 3 8) 10 (rI M 7 (zI M 3 6))) := ⟨_, rfl⟩
        have hN9 : SQ N9 := by rw [eN9]; exact hN7.kf
        have H : Ev none e 35 128 [some (.ref 3), some (.int i), some (.int 2), some (.int (rI M 7 (zI M 3 6))), some (.int 999), none] [] N9 v M' 0 0 := by rw [eN9]; exact Ev.pfi rfl rfl rfl hN7.1 a_t qi_28_10 H
        have H : Ev none e 35 (if 2 = 2 then 185 else 169) [some (.ref 3), some (.int i), some (.int 2), some (.int (rI M 7 (zI M 3 6))), some (.int 999), none] [] N9 v M' 0 0 := Ev.back 4 (fun n => rfl) H
        rw [if_pos (by decide)] at H
        have H : Ev none e 35 194 [some (.ref 3), some (.int i), some (.int 2), some (.int (rI M 7 (zI M 3 6))), some (.int 999), some (.int 1)] [.ref 3, .ref 3] N9 v M' 0 0 := Ev.back 5 (fun n => rfl) H
        have H : Ev none e 35 197 [some (.ref 3), some (.int i), some (.int 2), some (.int (rI M 7 (zI M 3 6))), some (.int 999), some (.int 1)] [.int (zI N9 3 10), .ref 3] N9 v M' 0 0 := Ev.back 1 (gs_3 rfl rfl (gf_i hN9.1 qa_3 qi_3_10 rfl)) H
        have H : Ev none e 35 (if 1 = 0 then 208 else 202) [some (.ref 3), some (.int i), some (.int 2), some (.int (rI M 7 (zI M 3 6))), some (.int 999), some (.int 1)] [.int (zI N9 3 10), .ref 3] N9 v M' 0 0 := Ev.back 2 (fun n => rfl) H
        rw [if_neg (by decide)] at H
        have H : Ev none e 35 210 [some (.ref 3), some (.int i), some (.int 2), some (.int (rI M 7 (zI M 3 6))), some (.int 999), some (.int 1)] [.int ((zI N9 3 10) ||| ((1 : Int32) <<< ((2 : Int32) &&& 31))), .ref 3] N9 v M' 0 0 := Ev.back 5 (fun n => rfl) H
        obtain ⟨N11, eN11⟩ : ∃ N, N = (wF N9 3 10 ((zI N9 3 10) ||| ((1 : Int32) <<< ((2 : Int32) &&& 31)))) := ⟨_, rfl⟩
        have hN11 : SQ N11 := by rw [eN11]; exact hN9.kf
        have H : Ev none e 35 213 [some (.ref 3), some (.int i), some (.int 2), some (.int (rI M 7 (zI M 3 6))), some (.int 999), some (.int 1)] [] N11 v M' 0 0 := by rw [eN11]; exact Ev.pfi rfl rfl rfl hN9.1 qa_3 qi_3_10 H
        have H : Ev none e 35 214 [some (.ref 3), some (.int i), some (.int 2), some (.int (rI M 7 (zI M 3 6))), some (.int 999), some (.int 1)] [.ref 3] N11 v M' 0 0 := Ev.back 1 (fun n => rfl) H
        obtain ⟨e1, rfl⟩ := Ev.dpos rfl rfl H
        obtain ⟨vK12, MK12, K12, H⟩ := Ev.callb (fun n => gs_7 rfl rfl (show gCal (.invokevirtual 140) 3 (.ref 3 :: []) N11 = some (.inr (31, [some (.ref 3)], [])) from by show @cond (Option ((List Value × Mem) ⊕ (Nat × Lo × List Value))) (true && gRecv N11 (.ref 3) 3 && gRoom [] && true) (some (.inr (31, [some (.ref 3)], []))) none = _; rw [recv_s hN11.1 qa_3 qo_3]; rfl)) H
        have K12 : Ev none e1 31 0 [some (.ref 3)] [] N11 vK12 MK12 0 0 := K12
        have HF := H
        subst eN7 eN9 eN11
        exact Or.inr (Or.inl ⟨h1, h3, h5, b2, b6, ⟨e1, vK12, MK12, rfl, K12, HF⟩⟩)
      · rw [if_neg h5] at H
        have H : Ev none e 35 68 [some (.ref 3), some (.int i), some (.int 2), some (.int (rI M 7 (zI M 3 6))), some (.int 999), none] [.int 2, .ref 3] M v M' 0 0 := Ev.back 2 (fun n => rfl) H
        obtain ⟨e1, rfl⟩ := Ev.dpos rfl rfl H
        obtain ⟨vK13, MK13, K13, H⟩ := Ev.callb (fun n => gs_7 rfl rfl (show gCal (.invokevirtual 68) 3 (.int 2 :: .ref 3 :: []) M = some (.inr (27, [some (.ref 3), some (.int 2)], [])) from by show @cond (Option ((List Value × Mem) ⊕ (Nat × Lo × List Value))) (true && gRecv M (.ref 3) 3 && gRoom [] && true) (some (.inr (27, [some (.ref 3), some (.int 2)], []))) none = _; rw [recv_s hS.1 qa_3 qo_3]; rfl)) H
        have K13 : Ev none e1 27 0 [some (.ref 3), some (.int 2)] [] M vK13 MK13 0 0 := K13
        have HF := H
        exact Or.inr (Or.inr (Or.inl ⟨h1, h3, h5, b2, ⟨e1, vK13, MK13, rfl, K13, HF⟩⟩))
  · rw [if_neg h1] at H
    have H : Ev none e 35 10 [some (.ref 3), some (.int i), some (.int 2), none, none, none] [.int 1, .ref 3] M v M' 0 0 := Ev.back 2 (fun n => rfl) H
    obtain ⟨e1, rfl⟩ := Ev.dpos rfl rfl H
    obtain ⟨vK14, MK14, K14, H⟩ := Ev.callb (fun n => gs_7 rfl rfl (show gCal (.invokevirtual 68) 3 (.int 1 :: .ref 3 :: []) M = some (.inr (27, [some (.ref 3), some (.int 1)], [])) from by show @cond (Option ((List Value × Mem) ⊕ (Nat × Lo × List Value))) (true && gRecv M (.ref 3) 3 && gRoom [] && true) (some (.inr (27, [some (.ref 3), some (.int 1)], []))) none = _; rw [recv_s hS.1 qa_3 qo_3]; rfl)) H
    have K14 : Ev none e1 27 0 [some (.ref 3), some (.int 1)] [] M vK14 MK14 0 0 := K14
    have HF := H
    exact Or.inr (Or.inr (Or.inr (⟨h1, ⟨e1, vK14, MK14, rfl, K14, HF⟩⟩)))
theorem nb2_217 {e : Nat} {M M' : Mem} {v : Option Value} {i nn mo oc : Int32} (hS : SQ M) (a_t : gNth sT (fR M 3 8) = some 28) (H : Ev none e 35 217 [some (.ref 3), some (.int i), some (.int 2), some (.int nn), some (.int mo), some (.int oc)] [] M v M' 0 0) : v = some (.int 1) ∧ M' = M := by
  have H : Ev none e 35 218 [some (.ref 3), some (.int i), some (.int 2), some (.int nn), some (.int mo), some (.int oc)] [.int 1] M v M' 0 0 := Ev.back 1 (fun n => rfl) H
  obtain ⟨z1, z2⟩ := Ev.retz rfl rfl H
  exact ⟨z1, z2⟩
theorem nb2_13 {e : Nat} {M M' : Mem} {v : Option Value} {i y : Int32} (hS : SQ M) (a_t : gNth sT (fR M 3 8) = some 28) (H : Ev none e 35 13 [some (.ref 3), some (.int i), some (.int 2), none, none, none] [.int y] M v M' 0 0) : v = some (.int y) ∧ M' = M := by
  obtain ⟨z1, z2⟩ := Ev.retz rfl rfl H
  exact ⟨z1, z2⟩
theorem nb2_71 {e : Nat} {M M' : Mem} {v : Option Value} {i nn mo y : Int32} (hS : SQ M) (a_t : gNth sT (fR M 3 8) = some 28) (H : Ev none e 35 71 [some (.ref 3), some (.int i), some (.int 2), some (.int nn), some (.int mo), none] [.int y] M v M' 0 0) : v = some (.int y) ∧ M' = M := by
  obtain ⟨z1, z2⟩ := Ev.retz rfl rfl H
  exact ⟨z1, z2⟩
theorem nb3_0 {e : Nat} {M M' : Mem} {v : Option Value} {i : Int32} (hS : SQ M) (a_t : gNth sT (fR M 3 8) = some 28) (H : Ev none e 35 0 [some (.ref 3), some (.int i), some (.int 3), none, none, none] [] M v M' 0 0) : ((zI M 3 7) = 3 ∧ 999 < (rI M 7 (zI M 3 6)) ∧ (0 ≤ (zI M 3 6).toInt ∧ (zI M 3 6).toInt < 401) ∧ (∃ e1 v1 M1, e = e1 + 1 ∧ Ev none e1 27 0 [some (.ref 3), some (.int 2)] [] M v1 M1 0 0 ∧ Ev none e 35 71 [some (.ref 3), some (.int i), some (.int 3), some (.int (rI M 7 (zI M 3 6))), some (.int 999), none] (v1.toList ++ []) M1 v M' 0 0)) ∨ ((zI M 3 7) = 3 ∧ ¬ (999 < (rI M 7 (zI M 3 6))) ∧ (0 ≤ (zI M 3 6).toInt ∧ (zI M 3 6).toInt < 401) ∧ (0 ≤ i.toInt ∧ i.toInt < 16) ∧ (∃ e1 v1 M1, e = e1 + 1 ∧ Ev none e1 31 0 [some (.ref 3)] [] (wF (wF (wI M (fR M 3 8 + 3) i.toNatClampNeg (rI M 7 (zI M 3 6))) (fR M 3 8) 11 (rI M 7 (zI M 3 6))) 3 10 ((zI M 3 10) ||| ((1 : Int32) <<< ((3 : Int32) &&& 31)))) v1 M1 0 0 ∧ Ev none e 35 217 [some (.ref 3), some (.int i), some (.int 3), some (.int (rI M 7 (zI M 3 6))), some (.int 999), some (.int 1)] (v1.toList ++ []) M1 v M' 0 0)) ∨ (¬ ((zI M 3 7) = 3) ∧ (∃ e1 v1 M1, e = e1 + 1 ∧ Ev none e1 27 0 [some (.ref 3), some (.int 1)] [] M v1 M1 0 0 ∧ Ev none e 35 13 [some (.ref 3), some (.int i), some (.int 3), none, none, none] (v1.toList ++ []) M1 v M' 0 0)) := by
  have H : Ev none e 35 1 [some (.ref 3), some (.int i), some (.int 3), none, none, none] [.ref 3] M v M' 0 0 := Ev.back 1 (fun n => rfl) H
  have H : Ev none e 35 4 [some (.ref 3), some (.int i), some (.int 3), none, none, none] [.int (zI M 3 7)] M v M' 0 0 := Ev.back 1 (gs_3 rfl rfl (gf_i hS.1 qa_3 qi_3_7 rfl)) H
  have H : Ev none e 35 (if (zI M 3 7) = 3 then 14 else 8) [some (.ref 3), some (.int i), some (.int 3), none, none, none] [] M v M' 0 0 := Ev.back 2 (fun n => rfl) H
  by_cases h1 : (zI M 3 7) = 3
  · rw [if_pos h1] at H
    have H : Ev none e 35 15 [some (.ref 3), some (.int i), some (.int 3), none, none, none] [.ref 3] M v M' 0 0 := Ev.back 1 (fun n => rfl) H
    have H : Ev none e 35 18 [some (.ref 3), some (.int i), some (.int 3), none, none, none] [.ref 7] M v M' 0 0 := Ev.back 1 (gs_3 rfl rfl (gf_u hS.1 qa_3 qr_3_4 qu_7 rfl)) H
    have H : Ev none e 35 19 [some (.ref 3), some (.int i), some (.int 3), none, none, none] [.ref 3, .ref 7] M v M' 0 0 := Ev.back 1 (fun n => rfl) H
    have H : Ev none e 35 22 [some (.ref 3), some (.int i), some (.int 3), none, none, none] [.int (zI M 3 6), .ref 7] M v M' 0 0 := Ev.back 1 (gs_3 rfl rfl (gf_i hS.1 qa_3 qi_3_6 rfl)) H
    obtain ⟨b2, H⟩ := Ev.ial rfl rfl hS.1 qa_7 qw_7 H
    have H : Ev none e 35 23 [some (.ref 3), some (.int i), some (.int 3), none, none, none] [.int (rI M 7 (zI M 3 6))] M v M' 0 0 := H
    have H : Ev none e 35 (if 3 = 5 then 29 else 34) [some (.ref 3), some (.int i), some (.int 3), some (.int (rI M 7 (zI M 3 6))), none, none] [] M v M' 0 0 := Ev.back 4 (fun n => rfl) H
    rw [if_neg (by decide)] at H
    have H : Ev none e 35 (if 3 = 7 then 40 else 45) [some (.ref 3), some (.int i), some (.int 3), some (.int (rI M 7 (zI M 3 6))), none, none] [] M v M' 0 0 := Ev.back 3 (fun n => rfl) H
    rw [if_neg (by decide)] at H
    have H : Ev none e 35 (if 999 < (rI M 7 (zI M 3 6)) then 66 else 56) [some (.ref 3), some (.int i), some (.int 3), some (.int (rI M 7 (zI M 3 6))), some (.int 999), none] [] M v M' 0 0 := Ev.back 5 (fun n => rfl) H
    by_cases h3 : 999 < (rI M 7 (zI M 3 6))
    · rw [if_pos h3] at H
      have H : Ev none e 35 68 [some (.ref 3), some (.int i), some (.int 3), some (.int (rI M 7 (zI M 3 6))), some (.int 999), none] [.int 2, .ref 3] M v M' 0 0 := Ev.back 2 (fun n => rfl) H
      obtain ⟨e1, rfl⟩ := Ev.dpos rfl rfl H
      obtain ⟨vK4, MK4, K4, H⟩ := Ev.callb (fun n => gs_7 rfl rfl (show gCal (.invokevirtual 68) 3 (.int 2 :: .ref 3 :: []) M = some (.inr (27, [some (.ref 3), some (.int 2)], [])) from by show @cond (Option ((List Value × Mem) ⊕ (Nat × Lo × List Value))) (true && gRecv M (.ref 3) 3 && gRoom [] && true) (some (.inr (27, [some (.ref 3), some (.int 2)], []))) none = _; rw [recv_s hS.1 qa_3 qo_3]; rfl)) H
      have K4 : Ev none e1 27 0 [some (.ref 3), some (.int 2)] [] M vK4 MK4 0 0 := K4
      have HF := H
      exact Or.inl ⟨h1, h3, b2, ⟨e1, vK4, MK4, rfl, K4, HF⟩⟩
    · rw [if_neg h3] at H
      have H : Ev none e 35 (if 3 = 2 then 61 else 72) [some (.ref 3), some (.int i), some (.int 3), some (.int (rI M 7 (zI M 3 6))), some (.int 999), none] [] M v M' 0 0 := Ev.back 3 (fun n => rfl) H
      rw [if_neg (by decide)] at H
      have H : Ev none e 35 73 [some (.ref 3), some (.int i), some (.int 3), some (.int (rI M 7 (zI M 3 6))), some (.int 999), none] [.ref 3] M v M' 0 0 := Ev.back 1 (fun n => rfl) H
      have H : Ev none e 35 76 [some (.ref 3), some (.int i), some (.int 3), some (.int (rI M 7 (zI M 3 6))), some (.int 999), none] [.ref (fR M 3 8)] M v M' 0 0 := Ev.back 1 (gs_3 rfl rfl (gf_n hS.1 qa_3 qn_3_8 (by decide) a_t rfl)) H
      have H : Ev none e 35 79 [some (.ref 3), some (.int i), some (.int 3), some (.int (rI M 7 (zI M 3 6))), some (.int 999), none] [.ref (fR M 3 8 + 3)] M v M' 0 0 := Ev.back 1 (gs_3 rfl rfl (gf_x hS.1 a_t qo_28 (fx_t2 hS a_t) rfl)) H
      have H : Ev none e 35 81 [some (.ref 3), some (.int i), some (.int 3), some (.int (rI M 7 (zI M 3 6))), some (.int 999), none] [.int (rI M 7 (zI M 3 6)), .int i, .ref (fR M 3 8 + 3)] M v M' 0 0 := Ev.back 2 (fun n => rfl) H
      obtain ⟨b5, H⟩ := Ev.ias rfl rfl hS.1 (fx_g2 a_t) qw_31 H
      obtain ⟨N6, eN6⟩ : ∃ N, N = (wI M (fR M 3 8 + 3) i.toNatClampNeg (rI M 7 (zI M 3 6))) := ⟨_, rfl⟩
      have hN6 : SQ N6 := by rw [eN6]; exact hS.ki
      have H : Ev none e 35 82 [some (.ref 3), some (.int i), some (.int 3), some (.int (rI M 7 (zI M 3 6))), some (.int 999), none] [] N6 v M' 0 0 := by rw [eN6]; exact H
      have H : Ev none e 35 132 [some (.ref 3), some (.int i), some (.int 3), some (.int (rI M 7 (zI M 3 6))), some (.int 999), none] [.ref 3] N6 v M' 0 0 := Ev.back 3 (fun n => rfl) H
      have H : Ev none e 35 135 [some (.ref 3), some (.int i), some (.int 3), some (.int (rI M 7 (zI M 3 6))), some (.int 999), none] [.ref (fR N6 3 8)] N6 v M' 0 0 := Ev.back 1 (gs_3 rfl rfl (gf_n hN6.1 qa_3 qn_3_8 (by decide) (by rw [show fR N6 3 8 = fR M 3 8 from by rw [eN6]; exact fR_wI]; exact a_t) rfl)) H
      rw [show fR N6 3 8 = fR M 3 8 from by rw [eN6]; exact fR_wI] at H
      have H : Ev none e 35 136 [some (.ref 3), some (.int i), some (.int 3), some (.int (rI M 7 (zI M 3 6))), some (.int 999), none] [.int (rI M 7 (zI M 3 6)), .ref (fR M 3 8)] N6 v M' 0 0 := Ev.back 1 (fun n => rfl) H
      obtain ⟨N8, eN8⟩ : ∃ N, N = (wF N6 (fR M 3 8) 11 (rI M 7 (zI M 3 6))) := ⟨_, rfl⟩
      have hN8 : SQ N8 := by rw [eN8]; exact hN6.kf
      have H : Ev none e 35 139 [some (.ref 3), some (.int i), some (.int 3), some (.int (rI M 7 (zI M 3 6))), some (.int 999), none] [] N8 v M' 0 0 := by rw [eN8]; exact Ev.pfi rfl rfl rfl hN6.1 a_t qi_28_11 H
      have H : Ev none e 35 (if 3 = 2 then 185 else 169) [some (.ref 3), some (.int i), some (.int 3), some (.int (rI M 7 (zI M 3 6))), some (.int 999), none] [] N8 v M' 0 0 := Ev.back 4 (fun n => rfl) H
      rw [if_neg (by decide)] at H
      have H : Ev none e 35 (if 3 = 3 then 185 else 174) [some (.ref 3), some (.int i), some (.int 3), some (.int (rI M 7 (zI M 3 6))), some (.int 999), none] [] N8 v M' 0 0 := Ev.back 3 (fun n => rfl) H
      rw [if_pos (by decide)] at H
      have H : Ev none e 35 194 [some (.ref 3), some (.int i), some (.int 3), some (.int (rI M 7 (zI M 3 6))), some (.int 999), some (.int 1)] [.ref 3, .ref 3] N8 v M' 0 0 := Ev.back 5 (fun n => rfl) H
      have H : Ev none e 35 197 [some (.ref 3), some (.int i), some (.int 3), some (.int (rI M 7 (zI M 3 6))), some (.int 999), some (.int 1)] [.int (zI N8 3 10), .ref 3] N8 v M' 0 0 := Ev.back 1 (gs_3 rfl rfl (gf_i hN8.1 qa_3 qi_3_10 rfl)) H
      rw [(show zI N8 3 10 = zI N6 3 10 from by rw [eN8]; exact fI_wF_ne (fun q => absurd q.2 (by decide))).trans (show zI N6 3 10 = zI M 3 10 from by rw [eN6]; exact fI_wI)] at H
      have H : Ev none e 35 (if 1 = 0 then 208 else 202) [some (.ref 3), some (.int i), some (.int 3), some (.int (rI M 7 (zI M 3 6))), some (.int 999), some (.int 1)] [.int (zI M 3 10), .ref 3] N8 v M' 0 0 := Ev.back 2 (fun n => rfl) H
      rw [if_neg (by decide)] at H
      have H : Ev none e 35 210 [some (.ref 3), some (.int i), some (.int 3), some (.int (rI M 7 (zI M 3 6))), some (.int 999), some (.int 1)] [.int ((zI M 3 10) ||| ((1 : Int32) <<< ((3 : Int32) &&& 31))), .ref 3] N8 v M' 0 0 := Ev.back 5 (fun n => rfl) H
      obtain ⟨N10, eN10⟩ : ∃ N, N = (wF N8 3 10 ((zI M 3 10) ||| ((1 : Int32) <<< ((3 : Int32) &&& 31)))) := ⟨_, rfl⟩
      have hN10 : SQ N10 := by rw [eN10]; exact hN8.kf
      have H : Ev none e 35 213 [some (.ref 3), some (.int i), some (.int 3), some (.int (rI M 7 (zI M 3 6))), some (.int 999), some (.int 1)] [] N10 v M' 0 0 := by rw [eN10]; exact Ev.pfi rfl rfl rfl hN8.1 qa_3 qi_3_10 H
      have H : Ev none e 35 214 [some (.ref 3), some (.int i), some (.int 3), some (.int (rI M 7 (zI M 3 6))), some (.int 999), some (.int 1)] [.ref 3] N10 v M' 0 0 := Ev.back 1 (fun n => rfl) H
      obtain ⟨e1, rfl⟩ := Ev.dpos rfl rfl H
      obtain ⟨vK11, MK11, K11, H⟩ := Ev.callb (fun n => gs_7 rfl rfl (show gCal (.invokevirtual 140) 3 (.ref 3 :: []) N10 = some (.inr (31, [some (.ref 3)], [])) from by show @cond (Option ((List Value × Mem) ⊕ (Nat × Lo × List Value))) (true && gRecv N10 (.ref 3) 3 && gRoom [] && true) (some (.inr (31, [some (.ref 3)], []))) none = _; rw [recv_s hN10.1 qa_3 qo_3]; rfl)) H
      have K11 : Ev none e1 31 0 [some (.ref 3)] [] N10 vK11 MK11 0 0 := K11
      have HF := H
      subst eN6 eN8 eN10
      exact Or.inr (Or.inl ⟨h1, h3, b2, b5, ⟨e1, vK11, MK11, rfl, K11, HF⟩⟩)
  · rw [if_neg h1] at H
    have H : Ev none e 35 10 [some (.ref 3), some (.int i), some (.int 3), none, none, none] [.int 1, .ref 3] M v M' 0 0 := Ev.back 2 (fun n => rfl) H
    obtain ⟨e1, rfl⟩ := Ev.dpos rfl rfl H
    obtain ⟨vK12, MK12, K12, H⟩ := Ev.callb (fun n => gs_7 rfl rfl (show gCal (.invokevirtual 68) 3 (.int 1 :: .ref 3 :: []) M = some (.inr (27, [some (.ref 3), some (.int 1)], [])) from by show @cond (Option ((List Value × Mem) ⊕ (Nat × Lo × List Value))) (true && gRecv M (.ref 3) 3 && gRoom [] && true) (some (.inr (27, [some (.ref 3), some (.int 1)], []))) none = _; rw [recv_s hS.1 qa_3 qo_3]; rfl)) H
    have K12 : Ev none e1 27 0 [some (.ref 3), some (.int 1)] [] M vK12 MK12 0 0 := K12
    have HF := H
    exact Or.inr (Or.inr (⟨h1, ⟨e1, vK12, MK12, rfl, K12, HF⟩⟩))
theorem nb3_217 {e : Nat} {M M' : Mem} {v : Option Value} {i nn mo oc : Int32} (hS : SQ M) (a_t : gNth sT (fR M 3 8) = some 28) (H : Ev none e 35 217 [some (.ref 3), some (.int i), some (.int 3), some (.int nn), some (.int mo), some (.int oc)] [] M v M' 0 0) : v = some (.int 1) ∧ M' = M := by
  have H : Ev none e 35 218 [some (.ref 3), some (.int i), some (.int 3), some (.int nn), some (.int mo), some (.int oc)] [.int 1] M v M' 0 0 := Ev.back 1 (fun n => rfl) H
  obtain ⟨z1, z2⟩ := Ev.retz rfl rfl H
  exact ⟨z1, z2⟩
theorem nb3_13 {e : Nat} {M M' : Mem} {v : Option Value} {i y : Int32} (hS : SQ M) (a_t : gNth sT (fR M 3 8) = some 28) (H : Ev none e 35 13 [some (.ref 3), some (.int i), some (.int 3), none, none, none] [.int y] M v M' 0 0) : v = some (.int y) ∧ M' = M := by
  obtain ⟨z1, z2⟩ := Ev.retz rfl rfl H
  exact ⟨z1, z2⟩
theorem nb3_71 {e : Nat} {M M' : Mem} {v : Option Value} {i nn mo y : Int32} (hS : SQ M) (a_t : gNth sT (fR M 3 8) = some 28) (H : Ev none e 35 71 [some (.ref 3), some (.int i), some (.int 3), some (.int nn), some (.int mo), none] [.int y] M v M' 0 0) : v = some (.int y) ∧ M' = M := by
  obtain ⟨z1, z2⟩ := Ev.retz rfl rfl H
  exact ⟨z1, z2⟩
theorem nb4_0 {e : Nat} {M M' : Mem} {v : Option Value} {i : Int32} (hS : SQ M) (a_t : gNth sT (fR M 3 8) = some 28) (H : Ev none e 35 0 [some (.ref 3), some (.int i), some (.int 4), none, none, none] [] M v M' 0 0) : ((zI M 3 7) = 3 ∧ 999 < (rI M 7 (zI M 3 6)) ∧ (0 ≤ (zI M 3 6).toInt ∧ (zI M 3 6).toInt < 401) ∧ (∃ e1 v1 M1, e = e1 + 1 ∧ Ev none e1 27 0 [some (.ref 3), some (.int 2)] [] M v1 M1 0 0 ∧ Ev none e 35 71 [some (.ref 3), some (.int i), some (.int 4), some (.int (rI M 7 (zI M 3 6))), some (.int 999), none] (v1.toList ++ []) M1 v M' 0 0)) ∨ ((zI M 3 7) = 3 ∧ ¬ (999 < (rI M 7 (zI M 3 6))) ∧ (0 ≤ (zI M 3 6).toInt ∧ (zI M 3 6).toInt < 401) ∧ (0 ≤ i.toInt ∧ i.toInt < 16) ∧ (∃ e1 v1 M1, e = e1 + 1 ∧ Ev none e1 31 0 [some (.ref 3)] [] (wF (wF (wI M (fR M 3 8 + 3) i.toNatClampNeg (rI M 7 (zI M 3 6))) (fR M 3 8) 12 (rI M 7 (zI M 3 6))) 3 10 ((zI M 3 10) ||| ((1 : Int32) <<< ((4 : Int32) &&& 31)))) v1 M1 0 0 ∧ Ev none e 35 217 [some (.ref 3), some (.int i), some (.int 4), some (.int (rI M 7 (zI M 3 6))), some (.int 999), some (.int 1)] (v1.toList ++ []) M1 v M' 0 0)) ∨ (¬ ((zI M 3 7) = 3) ∧ (∃ e1 v1 M1, e = e1 + 1 ∧ Ev none e1 27 0 [some (.ref 3), some (.int 1)] [] M v1 M1 0 0 ∧ Ev none e 35 13 [some (.ref 3), some (.int i), some (.int 4), none, none, none] (v1.toList ++ []) M1 v M' 0 0)) := by
  have H : Ev none e 35 1 [some (.ref 3), some (.int i), some (.int 4), none, none, none] [.ref 3] M v M' 0 0 := Ev.back 1 (fun n => rfl) H
  have H : Ev none e 35 4 [some (.ref 3), some (.int i), some (.int 4), none, none, none] [.int (zI M 3 7)] M v M' 0 0 := Ev.back 1 (gs_3 rfl rfl (gf_i hS.1 qa_3 qi_3_7 rfl)) H
  have H : Ev none e 35 (if (zI M 3 7) = 3 then 14 else 8) [some (.ref 3), some (.int i), some (.int 4), none, none, none] [] M v M' 0 0 := Ev.back 2 (fun n => rfl) H
  by_cases h1 : (zI M 3 7) = 3
  · rw [if_pos h1] at H
    have H : Ev none e 35 15 [some (.ref 3), some (.int i), some (.int 4), none, none, none] [.ref 3] M v M' 0 0 := Ev.back 1 (fun n => rfl) H
    have H : Ev none e 35 18 [some (.ref 3), some (.int i), some (.int 4), none, none, none] [.ref 7] M v M' 0 0 := Ev.back 1 (gs_3 rfl rfl (gf_u hS.1 qa_3 qr_3_4 qu_7 rfl)) H
    have H : Ev none e 35 19 [some (.ref 3), some (.int i), some (.int 4), none, none, none] [.ref 3, .ref 7] M v M' 0 0 := Ev.back 1 (fun n => rfl) H
    have H : Ev none e 35 22 [some (.ref 3), some (.int i), some (.int 4), none, none, none] [.int (zI M 3 6), .ref 7] M v M' 0 0 := Ev.back 1 (gs_3 rfl rfl (gf_i hS.1 qa_3 qi_3_6 rfl)) H
    obtain ⟨b2, H⟩ := Ev.ial rfl rfl hS.1 qa_7 qw_7 H
    have H : Ev none e 35 23 [some (.ref 3), some (.int i), some (.int 4), none, none, none] [.int (rI M 7 (zI M 3 6))] M v M' 0 0 := H
    have H : Ev none e 35 (if 4 = 5 then 29 else 34) [some (.ref 3), some (.int i), some (.int 4), some (.int (rI M 7 (zI M 3 6))), none, none] [] M v M' 0 0 := Ev.back 4 (fun n => rfl) H
    rw [if_neg (by decide)] at H
    have H : Ev none e 35 (if 4 = 7 then 40 else 45) [some (.ref 3), some (.int i), some (.int 4), some (.int (rI M 7 (zI M 3 6))), none, none] [] M v M' 0 0 := Ev.back 3 (fun n => rfl) H
    rw [if_neg (by decide)] at H
    have H : Ev none e 35 (if 999 < (rI M 7 (zI M 3 6)) then 66 else 56) [some (.ref 3), some (.int i), some (.int 4), some (.int (rI M 7 (zI M 3 6))), some (.int 999), none] [] M v M' 0 0 := Ev.back 5 (fun n => rfl) H
    by_cases h3 : 999 < (rI M 7 (zI M 3 6))
    · rw [if_pos h3] at H
      have H : Ev none e 35 68 [some (.ref 3), some (.int i), some (.int 4), some (.int (rI M 7 (zI M 3 6))), some (.int 999), none] [.int 2, .ref 3] M v M' 0 0 := Ev.back 2 (fun n => rfl) H
      obtain ⟨e1, rfl⟩ := Ev.dpos rfl rfl H
      obtain ⟨vK4, MK4, K4, H⟩ := Ev.callb (fun n => gs_7 rfl rfl (show gCal (.invokevirtual 68) 3 (.int 2 :: .ref 3 :: []) M = some (.inr (27, [some (.ref 3), some (.int 2)], [])) from by show @cond (Option ((List Value × Mem) ⊕ (Nat × Lo × List Value))) (true && gRecv M (.ref 3) 3 && gRoom [] && true) (some (.inr (27, [some (.ref 3), some (.int 2)], []))) none = _; rw [recv_s hS.1 qa_3 qo_3]; rfl)) H
      have K4 : Ev none e1 27 0 [some (.ref 3), some (.int 2)] [] M vK4 MK4 0 0 := K4
      have HF := H
      exact Or.inl ⟨h1, h3, b2, ⟨e1, vK4, MK4, rfl, K4, HF⟩⟩
    · rw [if_neg h3] at H
      have H : Ev none e 35 (if 4 = 2 then 61 else 72) [some (.ref 3), some (.int i), some (.int 4), some (.int (rI M 7 (zI M 3 6))), some (.int 999), none] [] M v M' 0 0 := Ev.back 3 (fun n => rfl) H
      rw [if_neg (by decide)] at H
      have H : Ev none e 35 73 [some (.ref 3), some (.int i), some (.int 4), some (.int (rI M 7 (zI M 3 6))), some (.int 999), none] [.ref 3] M v M' 0 0 := Ev.back 1 (fun n => rfl) H
      have H : Ev none e 35 76 [some (.ref 3), some (.int i), some (.int 4), some (.int (rI M 7 (zI M 3 6))), some (.int 999), none] [.ref (fR M 3 8)] M v M' 0 0 := Ev.back 1 (gs_3 rfl rfl (gf_n hS.1 qa_3 qn_3_8 (by decide) a_t rfl)) H
      have H : Ev none e 35 79 [some (.ref 3), some (.int i), some (.int 4), some (.int (rI M 7 (zI M 3 6))), some (.int 999), none] [.ref (fR M 3 8 + 3)] M v M' 0 0 := Ev.back 1 (gs_3 rfl rfl (gf_x hS.1 a_t qo_28 (fx_t2 hS a_t) rfl)) H
      have H : Ev none e 35 81 [some (.ref 3), some (.int i), some (.int 4), some (.int (rI M 7 (zI M 3 6))), some (.int 999), none] [.int (rI M 7 (zI M 3 6)), .int i, .ref (fR M 3 8 + 3)] M v M' 0 0 := Ev.back 2 (fun n => rfl) H
      obtain ⟨b5, H⟩ := Ev.ias rfl rfl hS.1 (fx_g2 a_t) qw_31 H
      obtain ⟨N6, eN6⟩ : ∃ N, N = (wI M (fR M 3 8 + 3) i.toNatClampNeg (rI M 7 (zI M 3 6))) := ⟨_, rfl⟩
      have hN6 : SQ N6 := by rw [eN6]; exact hS.ki
      have H : Ev none e 35 82 [some (.ref 3), some (.int i), some (.int 4), some (.int (rI M 7 (zI M 3 6))), some (.int 999), none] [] N6 v M' 0 0 := by rw [eN6]; exact H
      have H : Ev none e 35 143 [some (.ref 3), some (.int i), some (.int 4), some (.int (rI M 7 (zI M 3 6))), some (.int 999), none] [.ref 3] N6 v M' 0 0 := Ev.back 3 (fun n => rfl) H
      have H : Ev none e 35 146 [some (.ref 3), some (.int i), some (.int 4), some (.int (rI M 7 (zI M 3 6))), some (.int 999), none] [.ref (fR N6 3 8)] N6 v M' 0 0 := Ev.back 1 (gs_3 rfl rfl (gf_n hN6.1 qa_3 qn_3_8 (by decide) (by rw [show fR N6 3 8 = fR M 3 8 from by rw [eN6]; exact fR_wI]; exact a_t) rfl)) H
      rw [show fR N6 3 8 = fR M 3 8 from by rw [eN6]; exact fR_wI] at H
      have H : Ev none e 35 147 [some (.ref 3), some (.int i), some (.int 4), some (.int (rI M 7 (zI M 3 6))), some (.int 999), none] [.int (rI M 7 (zI M 3 6)), .ref (fR M 3 8)] N6 v M' 0 0 := Ev.back 1 (fun n => rfl) H
      obtain ⟨N8, eN8⟩ : ∃ N, N = (wF N6 (fR M 3 8) 12 (rI M 7 (zI M 3 6))) := ⟨_, rfl⟩
      have hN8 : SQ N8 := by rw [eN8]; exact hN6.kf
      have H : Ev none e 35 150 [some (.ref 3), some (.int i), some (.int 4), some (.int (rI M 7 (zI M 3 6))), some (.int 999), none] [] N8 v M' 0 0 := by rw [eN8]; exact Ev.pfi rfl rfl rfl hN6.1 a_t qi_28_12 H
      have H : Ev none e 35 (if 4 = 2 then 185 else 169) [some (.ref 3), some (.int i), some (.int 4), some (.int (rI M 7 (zI M 3 6))), some (.int 999), none] [] N8 v M' 0 0 := Ev.back 4 (fun n => rfl) H
      rw [if_neg (by decide)] at H
      have H : Ev none e 35 (if 4 = 3 then 185 else 174) [some (.ref 3), some (.int i), some (.int 4), some (.int (rI M 7 (zI M 3 6))), some (.int 999), none] [] N8 v M' 0 0 := Ev.back 3 (fun n => rfl) H
      rw [if_neg (by decide)] at H
      have H : Ev none e 35 (if 4 = 4 then 185 else 179) [some (.ref 3), some (.int i), some (.int 4), some (.int (rI M 7 (zI M 3 6))), some (.int 999), none] [] N8 v M' 0 0 := Ev.back 3 (fun n => rfl) H
      rw [if_pos (by decide)] at H
      have H : Ev none e 35 194 [some (.ref 3), some (.int i), some (.int 4), some (.int (rI M 7 (zI M 3 6))), some (.int 999), some (.int 1)] [.ref 3, .ref 3] N8 v M' 0 0 := Ev.back 5 (fun n => rfl) H
      have H : Ev none e 35 197 [some (.ref 3), some (.int i), some (.int 4), some (.int (rI M 7 (zI M 3 6))), some (.int 999), some (.int 1)] [.int (zI N8 3 10), .ref 3] N8 v M' 0 0 := Ev.back 1 (gs_3 rfl rfl (gf_i hN8.1 qa_3 qi_3_10 rfl)) H
      rw [(show zI N8 3 10 = zI N6 3 10 from by rw [eN8]; exact fI_wF_ne (fun q => absurd q.2 (by decide))).trans (show zI N6 3 10 = zI M 3 10 from by rw [eN6]; exact fI_wI)] at H
      have H : Ev none e 35 (if 1 = 0 then 208 else 202) [some (.ref 3), some (.int i), some (.int 4), some (.int (rI M 7 (zI M 3 6))), some (.int 999), some (.int 1)] [.int (zI M 3 10), .ref 3] N8 v M' 0 0 := Ev.back 2 (fun n => rfl) H
      rw [if_neg (by decide)] at H
      have H : Ev none e 35 210 [some (.ref 3), some (.int i), some (.int 4), some (.int (rI M 7 (zI M 3 6))), some (.int 999), some (.int 1)] [.int ((zI M 3 10) ||| ((1 : Int32) <<< ((4 : Int32) &&& 31))), .ref 3] N8 v M' 0 0 := Ev.back 5 (fun n => rfl) H
      obtain ⟨N10, eN10⟩ : ∃ N, N = (wF N8 3 10 ((zI M 3 10) ||| ((1 : Int32) <<< ((4 : Int32) &&& 31)))) := ⟨_, rfl⟩
      have hN10 : SQ N10 := by rw [eN10]; exact hN8.kf
      have H : Ev none e 35 213 [some (.ref 3), some (.int i), some (.int 4), some (.int (rI M 7 (zI M 3 6))), some (.int 999), some (.int 1)] [] N10 v M' 0 0 := by rw [eN10]; exact Ev.pfi rfl rfl rfl hN8.1 qa_3 qi_3_10 H
      have H : Ev none e 35 214 [some (.ref 3), some (.int i), some (.int 4), some (.int (rI M 7 (zI M 3 6))), some (.int 999), some (.int 1)] [.ref 3] N10 v M' 0 0 := Ev.back 1 (fun n => rfl) H
      obtain ⟨e1, rfl⟩ := Ev.dpos rfl rfl H
      obtain ⟨vK11, MK11, K11, H⟩ := Ev.callb (fun n => gs_7 rfl rfl (show gCal (.invokevirtual 140) 3 (.ref 3 :: []) N10 = some (.inr (31, [some (.ref 3)], [])) from by show @cond (Option ((List Value × Mem) ⊕ (Nat × Lo × List Value))) (true && gRecv N10 (.ref 3) 3 && gRoom [] && true) (some (.inr (31, [some (.ref 3)], []))) none = _; rw [recv_s hN10.1 qa_3 qo_3]; rfl)) H
      have K11 : Ev none e1 31 0 [some (.ref 3)] [] N10 vK11 MK11 0 0 := K11
      have HF := H
      subst eN6 eN8 eN10
      exact Or.inr (Or.inl ⟨h1, h3, b2, b5, ⟨e1, vK11, MK11, rfl, K11, HF⟩⟩)
  · rw [if_neg h1] at H
    have H : Ev none e 35 10 [some (.ref 3), some (.int i), some (.int 4), none, none, none] [.int 1, .ref 3] M v M' 0 0 := Ev.back 2 (fun n => rfl) H
    obtain ⟨e1, rfl⟩ := Ev.dpos rfl rfl H
    obtain ⟨vK12, MK12, K12, H⟩ := Ev.callb (fun n => gs_7 rfl rfl (show gCal (.invokevirtual 68) 3 (.int 1 :: .ref 3 :: []) M = some (.inr (27, [some (.ref 3), some (.int 1)], [])) from by show @cond (Option ((List Value × Mem) ⊕ (Nat × Lo × List Value))) (true && gRecv M (.ref 3) 3 && gRoom [] && true) (some (.inr (27, [some (.ref 3), some (.int 1)], []))) none = _; rw [recv_s hS.1 qa_3 qo_3]; rfl)) H
    have K12 : Ev none e1 27 0 [some (.ref 3), some (.int 1)] [] M vK12 MK12 0 0 := K12
    have HF := H
    exact Or.inr (Or.inr (⟨h1, ⟨e1, vK12, MK12, rfl, K12, HF⟩⟩))
theorem nb4_217 {e : Nat} {M M' : Mem} {v : Option Value} {i nn mo oc : Int32} (hS : SQ M) (a_t : gNth sT (fR M 3 8) = some 28) (H : Ev none e 35 217 [some (.ref 3), some (.int i), some (.int 4), some (.int nn), some (.int mo), some (.int oc)] [] M v M' 0 0) : v = some (.int 1) ∧ M' = M := by
  have H : Ev none e 35 218 [some (.ref 3), some (.int i), some (.int 4), some (.int nn), some (.int mo), some (.int oc)] [.int 1] M v M' 0 0 := Ev.back 1 (fun n => rfl) H
  obtain ⟨z1, z2⟩ := Ev.retz rfl rfl H
  exact ⟨z1, z2⟩
theorem nb4_13 {e : Nat} {M M' : Mem} {v : Option Value} {i y : Int32} (hS : SQ M) (a_t : gNth sT (fR M 3 8) = some 28) (H : Ev none e 35 13 [some (.ref 3), some (.int i), some (.int 4), none, none, none] [.int y] M v M' 0 0) : v = some (.int y) ∧ M' = M := by
  obtain ⟨z1, z2⟩ := Ev.retz rfl rfl H
  exact ⟨z1, z2⟩
theorem nb4_71 {e : Nat} {M M' : Mem} {v : Option Value} {i nn mo y : Int32} (hS : SQ M) (a_t : gNth sT (fR M 3 8) = some 28) (H : Ev none e 35 71 [some (.ref 3), some (.int i), some (.int 4), some (.int nn), some (.int mo), none] [.int y] M v M' 0 0) : v = some (.int y) ∧ M' = M := by
  obtain ⟨z1, z2⟩ := Ev.retz rfl rfl H
  exact ⟨z1, z2⟩
theorem nb5_0 {e : Nat} {M M' : Mem} {v : Option Value} {i : Int32} (hS : SQ M) (a_t : gNth sT (fR M 3 8) = some 28) (H : Ev none e 35 0 [some (.ref 3), some (.int i), some (.int 5), none, none, none] [] M v M' 0 0) : ((zI M 3 7) = 3 ∧ 99 < (rI M 7 (zI M 3 6)) ∧ (0 ≤ (zI M 3 6).toInt ∧ (zI M 3 6).toInt < 401) ∧ (∃ e1 v1 M1, e = e1 + 1 ∧ Ev none e1 27 0 [some (.ref 3), some (.int 2)] [] M v1 M1 0 0 ∧ Ev none e 35 71 [some (.ref 3), some (.int i), some (.int 5), some (.int (rI M 7 (zI M 3 6))), some (.int 99), none] (v1.toList ++ []) M1 v M' 0 0)) ∨ ((zI M 3 7) = 3 ∧ ¬ (99 < (rI M 7 (zI M 3 6))) ∧ (0 ≤ (zI M 3 6).toInt ∧ (zI M 3 6).toInt < 401) ∧ (0 ≤ i.toInt ∧ i.toInt < 16) ∧ (∃ e1 v1 M1, e = e1 + 1 ∧ Ev none e1 31 0 [some (.ref 3)] [] (wF (wI M (fR M 3 8 + 3) i.toNatClampNeg (rI M 7 (zI M 3 6))) 3 10 ((zI M 3 10) ||| 0)) v1 M1 0 0 ∧ Ev none e 35 217 [some (.ref 3), some (.int i), some (.int 5), some (.int (rI M 7 (zI M 3 6))), some (.int 99), some (.int 0)] (v1.toList ++ []) M1 v M' 0 0)) ∨ (¬ ((zI M 3 7) = 3) ∧ (∃ e1 v1 M1, e = e1 + 1 ∧ Ev none e1 27 0 [some (.ref 3), some (.int 1)] [] M v1 M1 0 0 ∧ Ev none e 35 13 [some (.ref 3), some (.int i), some (.int 5), none, none, none] (v1.toList ++ []) M1 v M' 0 0)) := by
  have H : Ev none e 35 1 [some (.ref 3), some (.int i), some (.int 5), none, none, none] [.ref 3] M v M' 0 0 := Ev.back 1 (fun n => rfl) H
  have H : Ev none e 35 4 [some (.ref 3), some (.int i), some (.int 5), none, none, none] [.int (zI M 3 7)] M v M' 0 0 := Ev.back 1 (gs_3 rfl rfl (gf_i hS.1 qa_3 qi_3_7 rfl)) H
  have H : Ev none e 35 (if (zI M 3 7) = 3 then 14 else 8) [some (.ref 3), some (.int i), some (.int 5), none, none, none] [] M v M' 0 0 := Ev.back 2 (fun n => rfl) H
  by_cases h1 : (zI M 3 7) = 3
  · rw [if_pos h1] at H
    have H : Ev none e 35 15 [some (.ref 3), some (.int i), some (.int 5), none, none, none] [.ref 3] M v M' 0 0 := Ev.back 1 (fun n => rfl) H
    have H : Ev none e 35 18 [some (.ref 3), some (.int i), some (.int 5), none, none, none] [.ref 7] M v M' 0 0 := Ev.back 1 (gs_3 rfl rfl (gf_u hS.1 qa_3 qr_3_4 qu_7 rfl)) H
    have H : Ev none e 35 19 [some (.ref 3), some (.int i), some (.int 5), none, none, none] [.ref 3, .ref 7] M v M' 0 0 := Ev.back 1 (fun n => rfl) H
    have H : Ev none e 35 22 [some (.ref 3), some (.int i), some (.int 5), none, none, none] [.int (zI M 3 6), .ref 7] M v M' 0 0 := Ev.back 1 (gs_3 rfl rfl (gf_i hS.1 qa_3 qi_3_6 rfl)) H
    obtain ⟨b2, H⟩ := Ev.ial rfl rfl hS.1 qa_7 qw_7 H
    have H : Ev none e 35 23 [some (.ref 3), some (.int i), some (.int 5), none, none, none] [.int (rI M 7 (zI M 3 6))] M v M' 0 0 := H
    have H : Ev none e 35 (if 5 = 5 then 29 else 34) [some (.ref 3), some (.int i), some (.int 5), some (.int (rI M 7 (zI M 3 6))), none, none] [] M v M' 0 0 := Ev.back 4 (fun n => rfl) H
    rw [if_pos (by decide)] at H
    have H : Ev none e 35 (if 99 < (rI M 7 (zI M 3 6)) then 66 else 56) [some (.ref 3), some (.int i), some (.int 5), some (.int (rI M 7 (zI M 3 6))), some (.int 99), none] [] M v M' 0 0 := Ev.back 6 (fun n => rfl) H
    by_cases h3 : 99 < (rI M 7 (zI M 3 6))
    · rw [if_pos h3] at H
      have H : Ev none e 35 68 [some (.ref 3), some (.int i), some (.int 5), some (.int (rI M 7 (zI M 3 6))), some (.int 99), none] [.int 2, .ref 3] M v M' 0 0 := Ev.back 2 (fun n => rfl) H
      obtain ⟨e1, rfl⟩ := Ev.dpos rfl rfl H
      obtain ⟨vK4, MK4, K4, H⟩ := Ev.callb (fun n => gs_7 rfl rfl (show gCal (.invokevirtual 68) 3 (.int 2 :: .ref 3 :: []) M = some (.inr (27, [some (.ref 3), some (.int 2)], [])) from by show @cond (Option ((List Value × Mem) ⊕ (Nat × Lo × List Value))) (true && gRecv M (.ref 3) 3 && gRoom [] && true) (some (.inr (27, [some (.ref 3), some (.int 2)], []))) none = _; rw [recv_s hS.1 qa_3 qo_3]; rfl)) H
      have K4 : Ev none e1 27 0 [some (.ref 3), some (.int 2)] [] M vK4 MK4 0 0 := K4
      have HF := H
      exact Or.inl ⟨h1, h3, b2, ⟨e1, vK4, MK4, rfl, K4, HF⟩⟩
    · rw [if_neg h3] at H
      have H : Ev none e 35 (if 5 = 2 then 61 else 72) [some (.ref 3), some (.int i), some (.int 5), some (.int (rI M 7 (zI M 3 6))), some (.int 99), none] [] M v M' 0 0 := Ev.back 3 (fun n => rfl) H
      rw [if_neg (by decide)] at H
      have H : Ev none e 35 73 [some (.ref 3), some (.int i), some (.int 5), some (.int (rI M 7 (zI M 3 6))), some (.int 99), none] [.ref 3] M v M' 0 0 := Ev.back 1 (fun n => rfl) H
      have H : Ev none e 35 76 [some (.ref 3), some (.int i), some (.int 5), some (.int (rI M 7 (zI M 3 6))), some (.int 99), none] [.ref (fR M 3 8)] M v M' 0 0 := Ev.back 1 (gs_3 rfl rfl (gf_n hS.1 qa_3 qn_3_8 (by decide) a_t rfl)) H
      have H : Ev none e 35 79 [some (.ref 3), some (.int i), some (.int 5), some (.int (rI M 7 (zI M 3 6))), some (.int 99), none] [.ref (fR M 3 8 + 3)] M v M' 0 0 := Ev.back 1 (gs_3 rfl rfl (gf_x hS.1 a_t qo_28 (fx_t2 hS a_t) rfl)) H
      have H : Ev none e 35 81 [some (.ref 3), some (.int i), some (.int 5), some (.int (rI M 7 (zI M 3 6))), some (.int 99), none] [.int (rI M 7 (zI M 3 6)), .int i, .ref (fR M 3 8 + 3)] M v M' 0 0 := Ev.back 2 (fun n => rfl) H
      obtain ⟨b5, H⟩ := Ev.ias rfl rfl hS.1 (fx_g2 a_t) qw_31 H
      obtain ⟨N6, eN6⟩ : ∃ N, N = (wI M (fR M 3 8 + 3) i.toNatClampNeg (rI M 7 (zI M 3 6))) := ⟨_, rfl⟩
      have hN6 : SQ N6 := by rw [eN6]; exact hS.ki
      have H : Ev none e 35 82 [some (.ref 3), some (.int i), some (.int 5), some (.int (rI M 7 (zI M 3 6))), some (.int 99), none] [] N6 v M' 0 0 := by rw [eN6]; exact H
      have H : Ev none e 35 (if 5 = 2 then 185 else 169) [some (.ref 3), some (.int i), some (.int 5), some (.int (rI M 7 (zI M 3 6))), some (.int 99), none] [] N6 v M' 0 0 := Ev.back 5 (fun n => rfl) H
      rw [if_neg (by decide)] at H
      have H : Ev none e 35 (if 5 = 3 then 185 else 174) [some (.ref 3), some (.int i), some (.int 5), some (.int (rI M 7 (zI M 3 6))), some (.int 99), none] [] N6 v M' 0 0 := Ev.back 3 (fun n => rfl) H
      rw [if_neg (by decide)] at H
      have H : Ev none e 35 (if 5 = 4 then 185 else 179) [some (.ref 3), some (.int i), some (.int 5), some (.int (rI M 7 (zI M 3 6))), some (.int 99), none] [] N6 v M' 0 0 := Ev.back 3 (fun n => rfl) H
      rw [if_neg (by decide)] at H
      have H : Ev none e 35 (if 5 = 7 then 185 else 189) [some (.ref 3), some (.int i), some (.int 5), some (.int (rI M 7 (zI M 3 6))), some (.int 99), none] [] N6 v M' 0 0 := Ev.back 3 (fun n => rfl) H
      rw [if_neg (by decide)] at H
      have H : Ev none e 35 194 [some (.ref 3), some (.int i), some (.int 5), some (.int (rI M 7 (zI M 3 6))), some (.int 99), some (.int 0)] [.ref 3, .ref 3] N6 v M' 0 0 := Ev.back 4 (fun n => rfl) H
      have H : Ev none e 35 197 [some (.ref 3), some (.int i), some (.int 5), some (.int (rI M 7 (zI M 3 6))), some (.int 99), some (.int 0)] [.int (zI N6 3 10), .ref 3] N6 v M' 0 0 := Ev.back 1 (gs_3 rfl rfl (gf_i hN6.1 qa_3 qi_3_10 rfl)) H
      rw [show zI N6 3 10 = zI M 3 10 from by rw [eN6]; exact fI_wI] at H
      have H : Ev none e 35 (if 0 = 0 then 208 else 202) [some (.ref 3), some (.int i), some (.int 5), some (.int (rI M 7 (zI M 3 6))), some (.int 99), some (.int 0)] [.int (zI M 3 10), .ref 3] N6 v M' 0 0 := Ev.back 2 (fun n => rfl) H
      rw [if_pos (by decide)] at H
      have H : Ev none e 35 210 [some (.ref 3), some (.int i), some (.int 5), some (.int (rI M 7 (zI M 3 6))), some (.int 99), some (.int 0)] [.int ((zI M 3 10) ||| 0), .ref 3] N6 v M' 0 0 := Ev.back 2 (fun n => rfl) H
      obtain ⟨N8, eN8⟩ : ∃ N, N = (wF N6 3 10 ((zI M 3 10) ||| 0)) := ⟨_, rfl⟩
      have hN8 : SQ N8 := by rw [eN8]; exact hN6.kf
      have H : Ev none e 35 213 [some (.ref 3), some (.int i), some (.int 5), some (.int (rI M 7 (zI M 3 6))), some (.int 99), some (.int 0)] [] N8 v M' 0 0 := by rw [eN8]; exact Ev.pfi rfl rfl rfl hN6.1 qa_3 qi_3_10 H
      have H : Ev none e 35 214 [some (.ref 3), some (.int i), some (.int 5), some (.int (rI M 7 (zI M 3 6))), some (.int 99), some (.int 0)] [.ref 3] N8 v M' 0 0 := Ev.back 1 (fun n => rfl) H
      obtain ⟨e1, rfl⟩ := Ev.dpos rfl rfl H
      obtain ⟨vK9, MK9, K9, H⟩ := Ev.callb (fun n => gs_7 rfl rfl (show gCal (.invokevirtual 140) 3 (.ref 3 :: []) N8 = some (.inr (31, [some (.ref 3)], [])) from by show @cond (Option ((List Value × Mem) ⊕ (Nat × Lo × List Value))) (true && gRecv N8 (.ref 3) 3 && gRoom [] && true) (some (.inr (31, [some (.ref 3)], []))) none = _; rw [recv_s hN8.1 qa_3 qo_3]; rfl)) H
      have K9 : Ev none e1 31 0 [some (.ref 3)] [] N8 vK9 MK9 0 0 := K9
      have HF := H
      subst eN6 eN8
      exact Or.inr (Or.inl ⟨h1, h3, b2, b5, ⟨e1, vK9, MK9, rfl, K9, HF⟩⟩)
  · rw [if_neg h1] at H
    have H : Ev none e 35 10 [some (.ref 3), some (.int i), some (.int 5), none, none, none] [.int 1, .ref 3] M v M' 0 0 := Ev.back 2 (fun n => rfl) H
    obtain ⟨e1, rfl⟩ := Ev.dpos rfl rfl H
    obtain ⟨vK10, MK10, K10, H⟩ := Ev.callb (fun n => gs_7 rfl rfl (show gCal (.invokevirtual 68) 3 (.int 1 :: .ref 3 :: []) M = some (.inr (27, [some (.ref 3), some (.int 1)], [])) from by show @cond (Option ((List Value × Mem) ⊕ (Nat × Lo × List Value))) (true && gRecv M (.ref 3) 3 && gRoom [] && true) (some (.inr (27, [some (.ref 3), some (.int 1)], []))) none = _; rw [recv_s hS.1 qa_3 qo_3]; rfl)) H
    have K10 : Ev none e1 27 0 [some (.ref 3), some (.int 1)] [] M vK10 MK10 0 0 := K10
    have HF := H
    exact Or.inr (Or.inr (⟨h1, ⟨e1, vK10, MK10, rfl, K10, HF⟩⟩))
theorem nb5_217 {e : Nat} {M M' : Mem} {v : Option Value} {i nn mo oc : Int32} (hS : SQ M) (a_t : gNth sT (fR M 3 8) = some 28) (H : Ev none e 35 217 [some (.ref 3), some (.int i), some (.int 5), some (.int nn), some (.int mo), some (.int oc)] [] M v M' 0 0) : v = some (.int 1) ∧ M' = M := by
  have H : Ev none e 35 218 [some (.ref 3), some (.int i), some (.int 5), some (.int nn), some (.int mo), some (.int oc)] [.int 1] M v M' 0 0 := Ev.back 1 (fun n => rfl) H
  obtain ⟨z1, z2⟩ := Ev.retz rfl rfl H
  exact ⟨z1, z2⟩
theorem nb5_13 {e : Nat} {M M' : Mem} {v : Option Value} {i y : Int32} (hS : SQ M) (a_t : gNth sT (fR M 3 8) = some 28) (H : Ev none e 35 13 [some (.ref 3), some (.int i), some (.int 5), none, none, none] [.int y] M v M' 0 0) : v = some (.int y) ∧ M' = M := by
  obtain ⟨z1, z2⟩ := Ev.retz rfl rfl H
  exact ⟨z1, z2⟩
theorem nb5_71 {e : Nat} {M M' : Mem} {v : Option Value} {i nn mo y : Int32} (hS : SQ M) (a_t : gNth sT (fR M 3 8) = some 28) (H : Ev none e 35 71 [some (.ref 3), some (.int i), some (.int 5), some (.int nn), some (.int mo), none] [.int y] M v M' 0 0) : v = some (.int y) ∧ M' = M := by
  obtain ⟨z1, z2⟩ := Ev.retz rfl rfl H
  exact ⟨z1, z2⟩
theorem nb7_0 {e : Nat} {M M' : Mem} {v : Option Value} {i : Int32} (hS : SQ M) (a_t : gNth sT (fR M 3 8) = some 28) (H : Ev none e 35 0 [some (.ref 3), some (.int i), some (.int 7), none, none, none] [] M v M' 0 0) : ((zI M 3 7) = 3 ∧ 9 < (rI M 7 (zI M 3 6)) ∧ (0 ≤ (zI M 3 6).toInt ∧ (zI M 3 6).toInt < 401) ∧ (∃ e1 v1 M1, e = e1 + 1 ∧ Ev none e1 27 0 [some (.ref 3), some (.int 2)] [] M v1 M1 0 0 ∧ Ev none e 35 71 [some (.ref 3), some (.int i), some (.int 7), some (.int (rI M 7 (zI M 3 6))), some (.int 9), none] (v1.toList ++ []) M1 v M' 0 0)) ∨ ((zI M 3 7) = 3 ∧ ¬ (9 < (rI M 7 (zI M 3 6))) ∧ (0 ≤ (zI M 3 6).toInt ∧ (zI M 3 6).toInt < 401) ∧ (0 ≤ i.toInt ∧ i.toInt < 16) ∧ (∃ e1 v1 M1, e = e1 + 1 ∧ Ev none e1 31 0 [some (.ref 3)] [] (wF (wF (wI M (fR M 3 8 + 3) i.toNatClampNeg (rI M 7 (zI M 3 6))) (fR M 3 8) 13 (rI M 7 (zI M 3 6))) 3 10 ((zI M 3 10) ||| ((1 : Int32) <<< ((7 : Int32) &&& 31)))) v1 M1 0 0 ∧ Ev none e 35 217 [some (.ref 3), some (.int i), some (.int 7), some (.int (rI M 7 (zI M 3 6))), some (.int 9), some (.int 1)] (v1.toList ++ []) M1 v M' 0 0)) ∨ (¬ ((zI M 3 7) = 3) ∧ (∃ e1 v1 M1, e = e1 + 1 ∧ Ev none e1 27 0 [some (.ref 3), some (.int 1)] [] M v1 M1 0 0 ∧ Ev none e 35 13 [some (.ref 3), some (.int i), some (.int 7), none, none, none] (v1.toList ++ []) M1 v M' 0 0)) := by
  have H : Ev none e 35 1 [some (.ref 3), some (.int i), some (.int 7), none, none, none] [.ref 3] M v M' 0 0 := Ev.back 1 (fun n => rfl) H
  have H : Ev none e 35 4 [some (.ref 3), some (.int i), some (.int 7), none, none, none] [.int (zI M 3 7)] M v M' 0 0 := Ev.back 1 (gs_3 rfl rfl (gf_i hS.1 qa_3 qi_3_7 rfl)) H
  have H : Ev none e 35 (if (zI M 3 7) = 3 then 14 else 8) [some (.ref 3), some (.int i), some (.int 7), none, none, none] [] M v M' 0 0 := Ev.back 2 (fun n => rfl) H
  by_cases h1 : (zI M 3 7) = 3
  · rw [if_pos h1] at H
    have H : Ev none e 35 15 [some (.ref 3), some (.int i), some (.int 7), none, none, none] [.ref 3] M v M' 0 0 := Ev.back 1 (fun n => rfl) H
    have H : Ev none e 35 18 [some (.ref 3), some (.int i), some (.int 7), none, none, none] [.ref 7] M v M' 0 0 := Ev.back 1 (gs_3 rfl rfl (gf_u hS.1 qa_3 qr_3_4 qu_7 rfl)) H
    have H : Ev none e 35 19 [some (.ref 3), some (.int i), some (.int 7), none, none, none] [.ref 3, .ref 7] M v M' 0 0 := Ev.back 1 (fun n => rfl) H
    have H : Ev none e 35 22 [some (.ref 3), some (.int i), some (.int 7), none, none, none] [.int (zI M 3 6), .ref 7] M v M' 0 0 := Ev.back 1 (gs_3 rfl rfl (gf_i hS.1 qa_3 qi_3_6 rfl)) H
    obtain ⟨b2, H⟩ := Ev.ial rfl rfl hS.1 qa_7 qw_7 H
    have H : Ev none e 35 23 [some (.ref 3), some (.int i), some (.int 7), none, none, none] [.int (rI M 7 (zI M 3 6))] M v M' 0 0 := H
    have H : Ev none e 35 (if 7 = 5 then 29 else 34) [some (.ref 3), some (.int i), some (.int 7), some (.int (rI M 7 (zI M 3 6))), none, none] [] M v M' 0 0 := Ev.back 4 (fun n => rfl) H
    rw [if_neg (by decide)] at H
    have H : Ev none e 35 (if 7 = 7 then 40 else 45) [some (.ref 3), some (.int i), some (.int 7), some (.int (rI M 7 (zI M 3 6))), none, none] [] M v M' 0 0 := Ev.back 3 (fun n => rfl) H
    rw [if_pos (by decide)] at H
    have H : Ev none e 35 (if 9 < (rI M 7 (zI M 3 6)) then 66 else 56) [some (.ref 3), some (.int i), some (.int 7), some (.int (rI M 7 (zI M 3 6))), some (.int 9), none] [] M v M' 0 0 := Ev.back 6 (fun n => rfl) H
    by_cases h3 : 9 < (rI M 7 (zI M 3 6))
    · rw [if_pos h3] at H
      have H : Ev none e 35 68 [some (.ref 3), some (.int i), some (.int 7), some (.int (rI M 7 (zI M 3 6))), some (.int 9), none] [.int 2, .ref 3] M v M' 0 0 := Ev.back 2 (fun n => rfl) H
      obtain ⟨e1, rfl⟩ := Ev.dpos rfl rfl H
      obtain ⟨vK4, MK4, K4, H⟩ := Ev.callb (fun n => gs_7 rfl rfl (show gCal (.invokevirtual 68) 3 (.int 2 :: .ref 3 :: []) M = some (.inr (27, [some (.ref 3), some (.int 2)], [])) from by show @cond (Option ((List Value × Mem) ⊕ (Nat × Lo × List Value))) (true && gRecv M (.ref 3) 3 && gRoom [] && true) (some (.inr (27, [some (.ref 3), some (.int 2)], []))) none = _; rw [recv_s hS.1 qa_3 qo_3]; rfl)) H
      have K4 : Ev none e1 27 0 [some (.ref 3), some (.int 2)] [] M vK4 MK4 0 0 := K4
      have HF := H
      exact Or.inl ⟨h1, h3, b2, ⟨e1, vK4, MK4, rfl, K4, HF⟩⟩
    · rw [if_neg h3] at H
      have H : Ev none e 35 (if 7 = 2 then 61 else 72) [some (.ref 3), some (.int i), some (.int 7), some (.int (rI M 7 (zI M 3 6))), some (.int 9), none] [] M v M' 0 0 := Ev.back 3 (fun n => rfl) H
      rw [if_neg (by decide)] at H
      have H : Ev none e 35 73 [some (.ref 3), some (.int i), some (.int 7), some (.int (rI M 7 (zI M 3 6))), some (.int 9), none] [.ref 3] M v M' 0 0 := Ev.back 1 (fun n => rfl) H
      have H : Ev none e 35 76 [some (.ref 3), some (.int i), some (.int 7), some (.int (rI M 7 (zI M 3 6))), some (.int 9), none] [.ref (fR M 3 8)] M v M' 0 0 := Ev.back 1 (gs_3 rfl rfl (gf_n hS.1 qa_3 qn_3_8 (by decide) a_t rfl)) H
      have H : Ev none e 35 79 [some (.ref 3), some (.int i), some (.int 7), some (.int (rI M 7 (zI M 3 6))), some (.int 9), none] [.ref (fR M 3 8 + 3)] M v M' 0 0 := Ev.back 1 (gs_3 rfl rfl (gf_x hS.1 a_t qo_28 (fx_t2 hS a_t) rfl)) H
      have H : Ev none e 35 81 [some (.ref 3), some (.int i), some (.int 7), some (.int (rI M 7 (zI M 3 6))), some (.int 9), none] [.int (rI M 7 (zI M 3 6)), .int i, .ref (fR M 3 8 + 3)] M v M' 0 0 := Ev.back 2 (fun n => rfl) H
      obtain ⟨b5, H⟩ := Ev.ias rfl rfl hS.1 (fx_g2 a_t) qw_31 H
      obtain ⟨N6, eN6⟩ : ∃ N, N = (wI M (fR M 3 8 + 3) i.toNatClampNeg (rI M 7 (zI M 3 6))) := ⟨_, rfl⟩
      have hN6 : SQ N6 := by rw [eN6]; exact hS.ki
      have H : Ev none e 35 82 [some (.ref 3), some (.int i), some (.int 7), some (.int (rI M 7 (zI M 3 6))), some (.int 9), none] [] N6 v M' 0 0 := by rw [eN6]; exact H
      have H : Ev none e 35 154 [some (.ref 3), some (.int i), some (.int 7), some (.int (rI M 7 (zI M 3 6))), some (.int 9), none] [.ref 3] N6 v M' 0 0 := Ev.back 3 (fun n => rfl) H
      have H : Ev none e 35 157 [some (.ref 3), some (.int i), some (.int 7), some (.int (rI M 7 (zI M 3 6))), some (.int 9), none] [.ref (fR N6 3 8)] N6 v M' 0 0 := Ev.back 1 (gs_3 rfl rfl (gf_n hN6.1 qa_3 qn_3_8 (by decide) (by rw [show fR N6 3 8 = fR M 3 8 from by rw [eN6]; exact fR_wI]; exact a_t) rfl)) H
      rw [show fR N6 3 8 = fR M 3 8 from by rw [eN6]; exact fR_wI] at H
      have H : Ev none e 35 158 [some (.ref 3), some (.int i), some (.int 7), some (.int (rI M 7 (zI M 3 6))), some (.int 9), none] [.int (rI M 7 (zI M 3 6)), .ref (fR M 3 8)] N6 v M' 0 0 := Ev.back 1 (fun n => rfl) H
      obtain ⟨N8, eN8⟩ : ∃ N, N = (wF N6 (fR M 3 8) 13 (rI M 7 (zI M 3 6))) := ⟨_, rfl⟩
      have hN8 : SQ N8 := by rw [eN8]; exact hN6.kf
      have H : Ev none e 35 161 [some (.ref 3), some (.int i), some (.int 7), some (.int (rI M 7 (zI M 3 6))), some (.int 9), none] [] N8 v M' 0 0 := by rw [eN8]; exact Ev.pfi rfl rfl rfl hN6.1 a_t qi_28_13 H
      have H : Ev none e 35 (if 7 = 2 then 185 else 169) [some (.ref 3), some (.int i), some (.int 7), some (.int (rI M 7 (zI M 3 6))), some (.int 9), none] [] N8 v M' 0 0 := Ev.back 4 (fun n => rfl) H
      rw [if_neg (by decide)] at H
      have H : Ev none e 35 (if 7 = 3 then 185 else 174) [some (.ref 3), some (.int i), some (.int 7), some (.int (rI M 7 (zI M 3 6))), some (.int 9), none] [] N8 v M' 0 0 := Ev.back 3 (fun n => rfl) H
      rw [if_neg (by decide)] at H
      have H : Ev none e 35 (if 7 = 4 then 185 else 179) [some (.ref 3), some (.int i), some (.int 7), some (.int (rI M 7 (zI M 3 6))), some (.int 9), none] [] N8 v M' 0 0 := Ev.back 3 (fun n => rfl) H
      rw [if_neg (by decide)] at H
      have H : Ev none e 35 (if 7 = 7 then 185 else 189) [some (.ref 3), some (.int i), some (.int 7), some (.int (rI M 7 (zI M 3 6))), some (.int 9), none] [] N8 v M' 0 0 := Ev.back 3 (fun n => rfl) H
      rw [if_pos (by decide)] at H
      have H : Ev none e 35 194 [some (.ref 3), some (.int i), some (.int 7), some (.int (rI M 7 (zI M 3 6))), some (.int 9), some (.int 1)] [.ref 3, .ref 3] N8 v M' 0 0 := Ev.back 5 (fun n => rfl) H
      have H : Ev none e 35 197 [some (.ref 3), some (.int i), some (.int 7), some (.int (rI M 7 (zI M 3 6))), some (.int 9), some (.int 1)] [.int (zI N8 3 10), .ref 3] N8 v M' 0 0 := Ev.back 1 (gs_3 rfl rfl (gf_i hN8.1 qa_3 qi_3_10 rfl)) H
      rw [(show zI N8 3 10 = zI N6 3 10 from by rw [eN8]; exact fI_wF_ne (fun q => absurd q.2 (by decide))).trans (show zI N6 3 10 = zI M 3 10 from by rw [eN6]; exact fI_wI)] at H
      have H : Ev none e 35 (if 1 = 0 then 208 else 202) [some (.ref 3), some (.int i), some (.int 7), some (.int (rI M 7 (zI M 3 6))), some (.int 9), some (.int 1)] [.int (zI M 3 10), .ref 3] N8 v M' 0 0 := Ev.back 2 (fun n => rfl) H
      rw [if_neg (by decide)] at H
      have H : Ev none e 35 210 [some (.ref 3), some (.int i), some (.int 7), some (.int (rI M 7 (zI M 3 6))), some (.int 9), some (.int 1)] [.int ((zI M 3 10) ||| ((1 : Int32) <<< ((7 : Int32) &&& 31))), .ref 3] N8 v M' 0 0 := Ev.back 5 (fun n => rfl) H
      obtain ⟨N10, eN10⟩ : ∃ N, N = (wF N8 3 10 ((zI M 3 10) ||| ((1 : Int32) <<< ((7 : Int32) &&& 31)))) := ⟨_, rfl⟩
      have hN10 : SQ N10 := by rw [eN10]; exact hN8.kf
      have H : Ev none e 35 213 [some (.ref 3), some (.int i), some (.int 7), some (.int (rI M 7 (zI M 3 6))), some (.int 9), some (.int 1)] [] N10 v M' 0 0 := by rw [eN10]; exact Ev.pfi rfl rfl rfl hN8.1 qa_3 qi_3_10 H
      have H : Ev none e 35 214 [some (.ref 3), some (.int i), some (.int 7), some (.int (rI M 7 (zI M 3 6))), some (.int 9), some (.int 1)] [.ref 3] N10 v M' 0 0 := Ev.back 1 (fun n => rfl) H
      obtain ⟨e1, rfl⟩ := Ev.dpos rfl rfl H
      obtain ⟨vK11, MK11, K11, H⟩ := Ev.callb (fun n => gs_7 rfl rfl (show gCal (.invokevirtual 140) 3 (.ref 3 :: []) N10 = some (.inr (31, [some (.ref 3)], [])) from by show @cond (Option ((List Value × Mem) ⊕ (Nat × Lo × List Value))) (true && gRecv N10 (.ref 3) 3 && gRoom [] && true) (some (.inr (31, [some (.ref 3)], []))) none = _; rw [recv_s hN10.1 qa_3 qo_3]; rfl)) H
      have K11 : Ev none e1 31 0 [some (.ref 3)] [] N10 vK11 MK11 0 0 := K11
      have HF := H
      subst eN6 eN8 eN10
      exact Or.inr (Or.inl ⟨h1, h3, b2, b5, ⟨e1, vK11, MK11, rfl, K11, HF⟩⟩)
  · rw [if_neg h1] at H
    have H : Ev none e 35 10 [some (.ref 3), some (.int i), some (.int 7), none, none, none] [.int 1, .ref 3] M v M' 0 0 := Ev.back 2 (fun n => rfl) H
    obtain ⟨e1, rfl⟩ := Ev.dpos rfl rfl H
    obtain ⟨vK12, MK12, K12, H⟩ := Ev.callb (fun n => gs_7 rfl rfl (show gCal (.invokevirtual 68) 3 (.int 1 :: .ref 3 :: []) M = some (.inr (27, [some (.ref 3), some (.int 1)], [])) from by show @cond (Option ((List Value × Mem) ⊕ (Nat × Lo × List Value))) (true && gRecv M (.ref 3) 3 && gRoom [] && true) (some (.inr (27, [some (.ref 3), some (.int 1)], []))) none = _; rw [recv_s hS.1 qa_3 qo_3]; rfl)) H
    have K12 : Ev none e1 27 0 [some (.ref 3), some (.int 1)] [] M vK12 MK12 0 0 := K12
    have HF := H
    exact Or.inr (Or.inr (⟨h1, ⟨e1, vK12, MK12, rfl, K12, HF⟩⟩))
theorem nb7_217 {e : Nat} {M M' : Mem} {v : Option Value} {i nn mo oc : Int32} (hS : SQ M) (a_t : gNth sT (fR M 3 8) = some 28) (H : Ev none e 35 217 [some (.ref 3), some (.int i), some (.int 7), some (.int nn), some (.int mo), some (.int oc)] [] M v M' 0 0) : v = some (.int 1) ∧ M' = M := by
  have H : Ev none e 35 218 [some (.ref 3), some (.int i), some (.int 7), some (.int nn), some (.int mo), some (.int oc)] [.int 1] M v M' 0 0 := Ev.back 1 (fun n => rfl) H
  obtain ⟨z1, z2⟩ := Ev.retz rfl rfl H
  exact ⟨z1, z2⟩
theorem nb7_13 {e : Nat} {M M' : Mem} {v : Option Value} {i y : Int32} (hS : SQ M) (a_t : gNth sT (fR M 3 8) = some 28) (H : Ev none e 35 13 [some (.ref 3), some (.int i), some (.int 7), none, none, none] [.int y] M v M' 0 0) : v = some (.int y) ∧ M' = M := by
  obtain ⟨z1, z2⟩ := Ev.retz rfl rfl H
  exact ⟨z1, z2⟩
theorem nb7_71 {e : Nat} {M M' : Mem} {v : Option Value} {i nn mo y : Int32} (hS : SQ M) (a_t : gNth sT (fR M 3 8) = some 28) (H : Ev none e 35 71 [some (.ref 3), some (.int i), some (.int 7), some (.int nn), some (.int mo), none] [.int y] M v M' 0 0) : v = some (.int y) ∧ M' = M := by
  obtain ⟨z1, z2⟩ := Ev.retz rfl rfl H
  exact ⟨z1, z2⟩
theorem wg_0 {e : Nat} {M M' : Mem} {v : Option Value} {i : Int32} (hS : SQ M) (a_t : gNth sT (fR M 3 8) = some 28) (H : Ev none e 34 0 [some (.ref 3), some (.int i), none] [] M v M' 0 0) : (∃ e1 v1 M1, e = e1 + 1 ∧ Ev none e1 32 0 [some (.ref 3), some (.retAddr 13), none, none, none, none, none, none] [] M v1 M1 0 0 ∧ Ev none e 34 6 [some (.ref 3), some (.int i), none] (v1.toList ++ []) M1 v M' 0 0) := by
  have H : Ev none e 34 3 [some (.ref 3), some (.int i), none] [.retAddr 13, .ref 3] M v M' 0 0 := Ev.back 2 (fun n => rfl) H
  obtain ⟨e1, rfl⟩ := Ev.dpos rfl rfl H
  obtain ⟨vK1, MK1, K1, H⟩ := Ev.callb (fun n => gs_7 rfl rfl (show gCal (.invokevirtual 115) 3 (.retAddr 13 :: .ref 3 :: []) M = some (.inr (32, [some (.ref 3), some (.retAddr 13), none, none, none, none, none, none], [])) from by show @cond (Option ((List Value × Mem) ⊕ (Nat × Lo × List Value))) (true && gRecv M (.ref 3) 3 && gRoom [] && true) (some (.inr (32, [some (.ref 3), some (.retAddr 13), none, none, none, none, none, none], []))) none = _; rw [recv_s hS.1 qa_3 qo_3]; rfl)) H
  have K1 : Ev none e1 32 0 [some (.ref 3), some (.retAddr 13), none, none, none, none, none, none] [] M vK1 MK1 0 0 := K1
  have HF := H
  exact ⟨e1, vK1, MK1, rfl, K1, HF⟩
theorem wg_6 {e : Nat} {M M' : Mem} {v : Option Value} {i a : Int32} (hS : SQ M) (a_t : gNth sT (fR M 3 8) = some 28) (H : Ev none e 34 6 [some (.ref 3), some (.int i), none] [.int a] M v M' 0 0) : (0 ≤ a ∧ (0 ≤ i.toInt ∧ i.toInt < 16) ∧ (∃ e1 v1 M1, e = e1 + 1 ∧ Ev none e1 31 0 [some (.ref 3)] [] (wI M (fR M 3 8 + 2) i.toNatClampNeg a) v1 M1 0 0 ∧ Ev none e 34 31 [some (.ref 3), some (.int i), some (.int a)] (v1.toList ++ []) M1 v M' 0 0)) ∨ (¬ (0 ≤ a) ∧ (∃ e1 v1 M1, e = e1 + 1 ∧ Ev none e1 27 0 [some (.ref 3), some (.int 1)] [] M v1 M1 0 0 ∧ Ev none e 34 16 [some (.ref 3), some (.int i), some (.int a)] (v1.toList ++ []) M1 v M' 0 0)) := by
  have H : Ev none e 34 (if 0 ≤ a then 17 else 11) [some (.ref 3), some (.int i), some (.int a)] [] M v M' 0 0 := Ev.back 3 (fun n => rfl) H
  by_cases h1 : 0 ≤ a
  · rw [if_pos h1] at H
    have H : Ev none e 34 18 [some (.ref 3), some (.int i), some (.int a)] [.ref 3] M v M' 0 0 := Ev.back 1 (fun n => rfl) H
    have H : Ev none e 34 21 [some (.ref 3), some (.int i), some (.int a)] [.ref (fR M 3 8)] M v M' 0 0 := Ev.back 1 (gs_3 rfl rfl (gf_n hS.1 qa_3 qn_3_8 (by decide) a_t rfl)) H
    have H : Ev none e 34 24 [some (.ref 3), some (.int i), some (.int a)] [.ref (fR M 3 8 + 2)] M v M' 0 0 := Ev.back 1 (gs_3 rfl rfl (gf_x hS.1 a_t qo_28 (fx_t1 hS a_t) rfl)) H
    have H : Ev none e 34 26 [some (.ref 3), some (.int i), some (.int a)] [.int a, .int i, .ref (fR M 3 8 + 2)] M v M' 0 0 := Ev.back 2 (fun n => rfl) H
    obtain ⟨b2, H⟩ := Ev.ias rfl rfl hS.1 (fx_g1 a_t) qw_30 H
    obtain ⟨N3, eN3⟩ : ∃ N, N = (wI M (fR M 3 8 + 2) i.toNatClampNeg a) := ⟨_, rfl⟩
    have hN3 : SQ N3 := by rw [eN3]; exact hS.ki
    have H : Ev none e 34 27 [some (.ref 3), some (.int i), some (.int a)] [] N3 v M' 0 0 := by rw [eN3]; exact H
    have H : Ev none e 34 28 [some (.ref 3), some (.int i), some (.int a)] [.ref 3] N3 v M' 0 0 := Ev.back 1 (fun n => rfl) H
    obtain ⟨e1, rfl⟩ := Ev.dpos rfl rfl H
    obtain ⟨vK4, MK4, K4, H⟩ := Ev.callb (fun n => gs_7 rfl rfl (show gCal (.invokevirtual 140) 3 (.ref 3 :: []) N3 = some (.inr (31, [some (.ref 3)], [])) from by show @cond (Option ((List Value × Mem) ⊕ (Nat × Lo × List Value))) (true && gRecv N3 (.ref 3) 3 && gRoom [] && true) (some (.inr (31, [some (.ref 3)], []))) none = _; rw [recv_s hN3.1 qa_3 qo_3]; rfl)) H
    have K4 : Ev none e1 31 0 [some (.ref 3)] [] N3 vK4 MK4 0 0 := K4
    have HF := H
    subst eN3
    exact Or.inl ⟨h1, b2, ⟨e1, vK4, MK4, rfl, K4, HF⟩⟩
  · rw [if_neg h1] at H
    have H : Ev none e 34 13 [some (.ref 3), some (.int i), some (.int a)] [.int 1, .ref 3] M v M' 0 0 := Ev.back 2 (fun n => rfl) H
    obtain ⟨e1, rfl⟩ := Ev.dpos rfl rfl H
    obtain ⟨vK5, MK5, K5, H⟩ := Ev.callb (fun n => gs_7 rfl rfl (show gCal (.invokevirtual 68) 3 (.int 1 :: .ref 3 :: []) M = some (.inr (27, [some (.ref 3), some (.int 1)], [])) from by show @cond (Option ((List Value × Mem) ⊕ (Nat × Lo × List Value))) (true && gRecv M (.ref 3) 3 && gRoom [] && true) (some (.inr (27, [some (.ref 3), some (.int 1)], []))) none = _; rw [recv_s hS.1 qa_3 qo_3]; rfl)) H
    have K5 : Ev none e1 27 0 [some (.ref 3), some (.int 1)] [] M vK5 MK5 0 0 := K5
    have HF := H
    exact Or.inr (⟨h1, ⟨e1, vK5, MK5, rfl, K5, HF⟩⟩)
theorem wg_16 {e : Nat} {M M' : Mem} {v : Option Value} {i a y : Int32} (hS : SQ M) (a_t : gNth sT (fR M 3 8) = some 28) (H : Ev none e 34 16 [some (.ref 3), some (.int i), some (.int a)] [.int y] M v M' 0 0) : v = some (.int y) ∧ M' = M := by
  obtain ⟨z1, z2⟩ := Ev.retz rfl rfl H
  exact ⟨z1, z2⟩
theorem wg_31 {e : Nat} {M M' : Mem} {v : Option Value} {i a : Int32} (hS : SQ M) (a_t : gNth sT (fR M 3 8) = some 28) (H : Ev none e 34 31 [some (.ref 3), some (.int i), some (.int a)] [] M v M' 0 0) : (∃ e1 v1 M1, e = e1 + 1 ∧ Ev none e1 35 0 [some (.ref 3), some (.int i), some (.int 5), none, none, none] [] M v1 M1 0 0 ∧ Ev none e 34 37 [some (.ref 3), some (.int i), some (.int a)] (v1.toList ++ []) M1 v M' 0 0) := by
  have H : Ev none e 34 34 [some (.ref 3), some (.int i), some (.int a)] [.int 5, .int i, .ref 3] M v M' 0 0 := Ev.back 3 (fun n => rfl) H
  obtain ⟨e1, rfl⟩ := Ev.dpos rfl rfl H
  obtain ⟨vK1, MK1, K1, H⟩ := Ev.callb (fun n => gs_7 rfl rfl (show gCal (.invokevirtual 146) 3 (.int 5 :: .int i :: .ref 3 :: []) M = some (.inr (35, [some (.ref 3), some (.int i), some (.int 5), none, none, none], [])) from by show @cond (Option ((List Value × Mem) ⊕ (Nat × Lo × List Value))) (true && gRecv M (.ref 3) 3 && gRoom [] && true) (some (.inr (35, [some (.ref 3), some (.int i), some (.int 5), none, none, none], []))) none = _; rw [recv_s hS.1 qa_3 qo_3]; rfl)) H
  have K1 : Ev none e1 35 0 [some (.ref 3), some (.int i), some (.int 5), none, none, none] [] M vK1 MK1 0 0 := K1
  have HF := H
  exact ⟨e1, vK1, MK1, rfl, K1, HF⟩
theorem wg_37 {e : Nat} {M M' : Mem} {v : Option Value} {i a y : Int32} (hS : SQ M) (a_t : gNth sT (fR M 3 8) = some 28) (H : Ev none e 34 37 [some (.ref 3), some (.int i), some (.int a)] [.int y] M v M' 0 0) : v = some (.int y) ∧ M' = M := by
  obtain ⟨z1, z2⟩ := Ev.retz rfl rfl H
  exact ⟨z1, z2⟩
theorem ln_0 {e : Nat} {M M' : Mem} {v : Option Value} (hS : SQ M) (a_t : gNth sT (fR M 3 8) = some 28) (H : Ev none e 33 0 [some (.ref 3), none, none, none, none, none, none] [] M v M' 0 0) : ((zI M 3 9) = 0 ∧ (∃ e1 v1 M1, e = e1 + 1 ∧ Ev none e1 32 0 [some (.ref 3), some (.retAddr 11), none, none, none, none, none, none] [] M v1 M1 0 0 ∧ Ev none e 33 18 [some (.ref 3), none, none, none, none, none, none] (v1.toList ++ []) M1 v M' 0 0)) ∨ (¬ ((zI M 3 9) = 0) ∧ (∃ e1 v1 M1, e = e1 + 1 ∧ Ev none e1 32 0 [some (.ref 3), some (.retAddr 10), none, none, none, none, none, none] [] M v1 M1 0 0 ∧ Ev none e 33 18 [some (.ref 3), none, none, none, none, none, none] (v1.toList ++ []) M1 v M' 0 0)) := by
  have H : Ev none e 33 2 [some (.ref 3), none, none, none, none, none, none] [.ref 3, .ref 3] M v M' 0 0 := Ev.back 2 (fun n => rfl) H
  have H : Ev none e 33 5 [some (.ref 3), none, none, none, none, none, none] [.int (zI M 3 9), .ref 3] M v M' 0 0 := Ev.back 1 (gs_3 rfl rfl (gf_i hS.1 qa_3 qi_3_9 rfl)) H
  have H : Ev none e 33 (if (zI M 3 9) = 0 then 13 else 8) [some (.ref 3), none, none, none, none, none, none] [.ref 3] M v M' 0 0 := Ev.back 1 (fun n => rfl) H
  by_cases h1 : (zI M 3 9) = 0
  · rw [if_pos h1] at H
    have H : Ev none e 33 15 [some (.ref 3), none, none, none, none, none, none] [.retAddr 11, .ref 3] M v M' 0 0 := Ev.back 1 (fun n => rfl) H
    obtain ⟨e1, rfl⟩ := Ev.dpos rfl rfl H
    obtain ⟨vK2, MK2, K2, H⟩ := Ev.callb (fun n => gs_7 rfl rfl (show gCal (.invokevirtual 115) 3 (.retAddr 11 :: .ref 3 :: []) M = some (.inr (32, [some (.ref 3), some (.retAddr 11), none, none, none, none, none, none], [])) from by show @cond (Option ((List Value × Mem) ⊕ (Nat × Lo × List Value))) (true && gRecv M (.ref 3) 3 && gRoom [] && true) (some (.inr (32, [some (.ref 3), some (.retAddr 11), none, none, none, none, none, none], []))) none = _; rw [recv_s hS.1 qa_3 qo_3]; rfl)) H
    have K2 : Ev none e1 32 0 [some (.ref 3), some (.retAddr 11), none, none, none, none, none, none] [] M vK2 MK2 0 0 := K2
    have HF := H
    exact Or.inl ⟨h1, ⟨e1, vK2, MK2, rfl, K2, HF⟩⟩
  · rw [if_neg h1] at H
    have H : Ev none e 33 15 [some (.ref 3), none, none, none, none, none, none] [.retAddr 10, .ref 3] M v M' 0 0 := Ev.back 2 (fun n => rfl) H
    obtain ⟨e1, rfl⟩ := Ev.dpos rfl rfl H
    obtain ⟨vK3, MK3, K3, H⟩ := Ev.callb (fun n => gs_7 rfl rfl (show gCal (.invokevirtual 115) 3 (.retAddr 10 :: .ref 3 :: []) M = some (.inr (32, [some (.ref 3), some (.retAddr 10), none, none, none, none, none, none], [])) from by show @cond (Option ((List Value × Mem) ⊕ (Nat × Lo × List Value))) (true && gRecv M (.ref 3) 3 && gRoom [] && true) (some (.inr (32, [some (.ref 3), some (.retAddr 10), none, none, none, none, none, none], []))) none = _; rw [recv_s hS.1 qa_3 qo_3]; rfl)) H
    have K3 : Ev none e1 32 0 [some (.ref 3), some (.retAddr 10), none, none, none, none, none, none] [] M vK3 MK3 0 0 := K3
    have HF := H
    exact Or.inr (⟨h1, ⟨e1, vK3, MK3, rfl, K3, HF⟩⟩)
theorem ln_18 {e : Nat} {M M' : Mem} {v : Option Value} {a : Int32} (hS : SQ M) (a_t : gNth sT (fR M 3 8) = some 28) (H : Ev none e 33 18 [some (.ref 3), none, none, none, none, none, none] [.int a] M v M' 0 0) : (0 ≤ a ∧ (zI M 3 9) = 0 ∧ Ev none e 33 44 [some (.ref 3), some (.int a), some (.int (5 + a)), none, none, none, none] [] M v M' 0 0) ∨ (0 ≤ a ∧ ¬ ((zI M 3 9) = 0) ∧ Ev none e 33 44 [some (.ref 3), some (.int a), some (.int a), none, none, none, none] [] M v M' 0 0) ∨ (¬ (0 ≤ a) ∧ (∃ e1 v1 M1, e = e1 + 1 ∧ Ev none e1 27 0 [some (.ref 3), some (.int 1)] [] M v1 M1 0 0 ∧ Ev none e 33 28 [some (.ref 3), some (.int a), none, none, none, none, none] (v1.toList ++ []) M1 v M' 0 0)) := by
  have H : Ev none e 33 (if 0 ≤ a then 29 else 23) [some (.ref 3), some (.int a), none, none, none, none, none] [] M v M' 0 0 := Ev.back 3 (fun n => rfl) H
  by_cases h1 : 0 ≤ a
  · rw [if_pos h1] at H
    have H : Ev none e 33 30 [some (.ref 3), some (.int a), none, none, none, none, none] [.ref 3] M v M' 0 0 := Ev.back 1 (fun n => rfl) H
    have H : Ev none e 33 33 [some (.ref 3), some (.int a), none, none, none, none, none] [.int (zI M 3 9)] M v M' 0 0 := Ev.back 1 (gs_3 rfl rfl (gf_i hS.1 qa_3 qi_3_9 rfl)) H
    have H : Ev none e 33 (if (zI M 3 9) = 0 then 40 else 36) [some (.ref 3), some (.int a), none, none, none, none, none] [] M v M' 0 0 := Ev.back 1 (fun n => rfl) H
    by_cases h2 : (zI M 3 9) = 0
    · rw [if_pos h2] at H
      have H : Ev none e 33 44 [some (.ref 3), some (.int a), some (.int (5 + a)), none, none, none, none] [] M v M' 0 0 := Ev.back 4 (fun n => rfl) H
      have HF := H
      exact Or.inl ⟨h1, h2, HF⟩
    · rw [if_neg h2] at H
      have H : Ev none e 33 44 [some (.ref 3), some (.int a), some (.int a), none, none, none, none] [] M v M' 0 0 := Ev.back 3 (fun n => rfl) H
      have HF := H
      exact Or.inr (Or.inl ⟨h1, h2, HF⟩)
  · rw [if_neg h1] at H
    have H : Ev none e 33 25 [some (.ref 3), some (.int a), none, none, none, none, none] [.int 1, .ref 3] M v M' 0 0 := Ev.back 2 (fun n => rfl) H
    obtain ⟨e1, rfl⟩ := Ev.dpos rfl rfl H
    obtain ⟨vK3, MK3, K3, H⟩ := Ev.callb (fun n => gs_7 rfl rfl (show gCal (.invokevirtual 68) 3 (.int 1 :: .ref 3 :: []) M = some (.inr (27, [some (.ref 3), some (.int 1)], [])) from by show @cond (Option ((List Value × Mem) ⊕ (Nat × Lo × List Value))) (true && gRecv M (.ref 3) 3 && gRoom [] && true) (some (.inr (27, [some (.ref 3), some (.int 1)], []))) none = _; rw [recv_s hS.1 qa_3 qo_3]; rfl)) H
    have K3 : Ev none e1 27 0 [some (.ref 3), some (.int 1)] [] M vK3 MK3 0 0 := K3
    have HF := H
    exact Or.inr (Or.inr (⟨h1, ⟨e1, vK3, MK3, rfl, K3, HF⟩⟩))
theorem ln_28 {e : Nat} {M M' : Mem} {v : Option Value} {a y : Int32} (hS : SQ M) (a_t : gNth sT (fR M 3 8) = some 28) (H : Ev none e 33 28 [some (.ref 3), some (.int a), none, none, none, none, none] [.int y] M v M' 0 0) : v = some (.int y) ∧ M' = M := by
  obtain ⟨z1, z2⟩ := Ev.retz rfl rfl H
  exact ⟨z1, z2⟩
theorem ln0_44 {e : Nat} {M M' : Mem} {v : Option Value} {a : Int32} (hS : SQ M) (a_t : gNth sT (fR M 3 8) = some 28) (H : Ev none e 33 44 [some (.ref 3), some (.int a), some (.int 0), none, none, none, none] [] M v M' 0 0) : (16 ≤ (zI M (fR M 3 8) 8) ∧ (∃ e1 v1 M1, e = e1 + 1 ∧ Ev none e1 27 0 [some (.ref 3), some (.int 3)] [] M v1 M1 0 0 ∧ Ev none e 33 72 [some (.ref 3), some (.int a), some (.int 0), none, none, none, none] (v1.toList ++ []) M1 v M' 0 0)) ∨ (¬ (16 ≤ (zI M (fR M 3 8) 8)) ∧ ((zI M 3 10) &&& ((1 : Int32) <<< ((0 : Int32) &&& 31))) = 0 ∧ (0 ≤ (zI M (fR M 3 8) 8).toInt ∧ (zI M (fR M 3 8) 8).toInt < 16) ∧ (0 ≤ (zI M (fR M 3 8) 8).toInt ∧ (zI M (fR M 3 8) 8).toInt < 16) ∧ (0 ≤ (zI M (fR M 3 8) 8).toInt ∧ (zI M (fR M 3 8) 8).toInt < 16) ∧ (0 ≤ (zI M (fR M 3 8) 8).toInt ∧ (zI M (fR M 3 8) 8).toInt < 16) ∧ (0 ≤ (zI M (fR M 3 8) 8).toInt ∧ (zI M (fR M 3 8) 8).toInt < 16) ∧ (∃ e1 v1 M1, e = e1 + 1 ∧ Ev none e1 31 0 [some (.ref 3)] [] (wI (wI (wI (wI (wI M (fR M 3 8 + 1) ((zI M (fR M 3 8) 8).toNatClampNeg) 0) (fR M 3 8 + 2) ((zI M (fR M 3 8) 8).toNatClampNeg) 0) (fR M 3 8 + 3) ((zI M (fR M 3 8) 8).toNatClampNeg) 0) (fR M 3 8 + 4) ((zI M (fR M 3 8) 8).toNatClampNeg) (zI M (fR M 3 8) 9)) (fR M 3 8 + 5) ((zI M (fR M 3 8) 8).toNatClampNeg) (zI M (fR M 3 8) 9)) v1 M1 0 0 ∧ Ev none e 33 147 [some (.ref 3), some (.int a), some (.int 0), some (.int (zI M (fR M 3 8) 8)), none, none, none] (v1.toList ++ []) M1 v M' 0 0)) ∨ (¬ (16 ≤ (zI M (fR M 3 8) 8)) ∧ ¬ (((zI M 3 10) &&& ((1 : Int32) <<< ((0 : Int32) &&& 31))) = 0) ∧ (∃ e1 v1 M1, e = e1 + 1 ∧ Ev none e1 27 0 [some (.ref 3), some (.int 3)] [] M v1 M1 0 0 ∧ Ev none e 33 72 [some (.ref 3), some (.int a), some (.int 0), none, none, none, none] (v1.toList ++ []) M1 v M' 0 0)) := by
  have H : Ev none e 33 45 [some (.ref 3), some (.int a), some (.int 0), none, none, none, none] [.ref 3] M v M' 0 0 := Ev.back 1 (fun n => rfl) H
  have H : Ev none e 33 48 [some (.ref 3), some (.int a), some (.int 0), none, none, none, none] [.ref (fR M 3 8)] M v M' 0 0 := Ev.back 1 (gs_3 rfl rfl (gf_n hS.1 qa_3 qn_3_8 (by decide) a_t rfl)) H
  have H : Ev none e 33 51 [some (.ref 3), some (.int a), some (.int 0), none, none, none, none] [.int (zI M (fR M 3 8) 8)] M v M' 0 0 := Ev.back 1 (gs_3 rfl rfl (gf_i hS.1 a_t qi_28_8 rfl)) H
  have H : Ev none e 33 (if 16 ≤ (zI M (fR M 3 8) 8) then 67 else 56) [some (.ref 3), some (.int a), some (.int 0), none, none, none, none] [] M v M' 0 0 := Ev.back 2 (fun n => rfl) H
  by_cases h1 : 16 ≤ (zI M (fR M 3 8) 8)
  · rw [if_pos h1] at H
    have H : Ev none e 33 69 [some (.ref 3), some (.int a), some (.int 0), none, none, none, none] [.int 3, .ref 3] M v M' 0 0 := Ev.back 2 (fun n => rfl) H
    obtain ⟨e1, rfl⟩ := Ev.dpos rfl rfl H
    obtain ⟨vK2, MK2, K2, H⟩ := Ev.callb (fun n => gs_7 rfl rfl (show gCal (.invokevirtual 68) 3 (.int 3 :: .ref 3 :: []) M = some (.inr (27, [some (.ref 3), some (.int 3)], [])) from by show @cond (Option ((List Value × Mem) ⊕ (Nat × Lo × List Value))) (true && gRecv M (.ref 3) 3 && gRoom [] && true) (some (.inr (27, [some (.ref 3), some (.int 3)], []))) none = _; rw [recv_s hS.1 qa_3 qo_3]; rfl)) H
    have K2 : Ev none e1 27 0 [some (.ref 3), some (.int 3)] [] M vK2 MK2 0 0 := K2
    have HF := H
    exact Or.inl ⟨h1, ⟨e1, vK2, MK2, rfl, K2, HF⟩⟩
  · rw [if_neg h1] at H
    have H : Ev none e 33 57 [some (.ref 3), some (.int a), some (.int 0), none, none, none, none] [.ref 3] M v M' 0 0 := Ev.back 1 (fun n => rfl) H
    have H : Ev none e 33 60 [some (.ref 3), some (.int a), some (.int 0), none, none, none, none] [.int (zI M 3 10)] M v M' 0 0 := Ev.back 1 (gs_3 rfl rfl (gf_i hS.1 qa_3 qi_3_10 rfl)) H
    have H : Ev none e 33 (if ((zI M 3 10) &&& ((1 : Int32) <<< ((0 : Int32) &&& 31))) = 0 then 73 else 67) [some (.ref 3), some (.int a), some (.int 0), none, none, none, none] [] M v M' 0 0 := Ev.back 5 (fun n => rfl) H
    by_cases h3 : ((zI M 3 10) &&& ((1 : Int32) <<< ((0 : Int32) &&& 31))) = 0
    · rw [if_pos h3] at H
      have H : Ev none e 33 74 [some (.ref 3), some (.int a), some (.int 0), none, none, none, none] [.ref 3] M v M' 0 0 := Ev.back 1 (fun n => rfl) H
      have H : Ev none e 33 77 [some (.ref 3), some (.int a), some (.int 0), none, none, none, none] [.ref (fR M 3 8)] M v M' 0 0 := Ev.back 1 (gs_3 rfl rfl (gf_n hS.1 qa_3 qn_3_8 (by decide) a_t rfl)) H
      have H : Ev none e 33 80 [some (.ref 3), some (.int a), some (.int 0), none, none, none, none] [.int (zI M (fR M 3 8) 8)] M v M' 0 0 := Ev.back 1 (gs_3 rfl rfl (gf_i hS.1 a_t qi_28_8 rfl)) H
      have H : Ev none e 33 82 [some (.ref 3), some (.int a), some (.int 0), some (.int (zI M (fR M 3 8) 8)), none, none, none] [.ref 3] M v M' 0 0 := Ev.back 2 (fun n => rfl) H
      have H : Ev none e 33 85 [some (.ref 3), some (.int a), some (.int 0), some (.int (zI M (fR M 3 8) 8)), none, none, none] [.ref (fR M 3 8)] M v M' 0 0 := Ev.back 1 (gs_3 rfl rfl (gf_n hS.1 qa_3 qn_3_8 (by decide) a_t rfl)) H
      have H : Ev none e 33 88 [some (.ref 3), some (.int a), some (.int 0), some (.int (zI M (fR M 3 8) 8)), none, none, none] [.ref (fR M 3 8 + 1)] M v M' 0 0 := Ev.back 1 (gs_3 rfl rfl (gf_x hS.1 a_t qo_28 (fx_t0 hS a_t) rfl)) H
      have H : Ev none e 33 90 [some (.ref 3), some (.int a), some (.int 0), some (.int (zI M (fR M 3 8) 8)), none, none, none] [.int 0, .int (zI M (fR M 3 8) 8), .ref (fR M 3 8 + 1)] M v M' 0 0 := Ev.back 2 (fun n => rfl) H
      obtain ⟨b4, H⟩ := Ev.ias rfl rfl hS.1 (fx_g0 a_t) qw_29 H
      obtain ⟨N5, eN5⟩ : ∃ N, N = (wI M (fR M 3 8 + 1) ((zI M (fR M 3 8) 8).toNatClampNeg) 0) := ⟨_, rfl⟩
      have hN5 : SQ N5 := by rw [eN5]; exact hS.ki
      have H : Ev none e 33 91 [some (.ref 3), some (.int a), some (.int 0), some (.int (zI M (fR M 3 8) 8)), none, none, none] [] N5 v M' 0 0 := by rw [eN5]; exact H
      have H : Ev none e 33 92 [some (.ref 3), some (.int a), some (.int 0), some (.int (zI M (fR M 3 8) 8)), none, none, none] [.ref 3] N5 v M' 0 0 := Ev.back 1 (fun n => rfl) H
      have H : Ev none e 33 95 [some (.ref 3), some (.int a), some (.int 0), some (.int (zI M (fR M 3 8) 8)), none, none, none] [.ref (fR N5 3 8)] N5 v M' 0 0 := Ev.back 1 (gs_3 rfl rfl (gf_n hN5.1 qa_3 qn_3_8 (by decide) (by rw [show fR N5 3 8 = fR M 3 8 from by rw [eN5]; exact fR_wI]; exact a_t) rfl)) H
      rw [show fR N5 3 8 = fR M 3 8 from by rw [eN5]; exact fR_wI] at H
      have H : Ev none e 33 98 [some (.ref 3), some (.int a), some (.int 0), some (.int (zI M (fR M 3 8) 8)), none, none, none] [.ref (fR M 3 8 + 2)] N5 v M' 0 0 := Ev.back 1 (gs_3 rfl rfl (gf_x hN5.1 a_t qo_28 (fx_t1 hN5 a_t) rfl)) H
      have H : Ev none e 33 100 [some (.ref 3), some (.int a), some (.int 0), some (.int (zI M (fR M 3 8) 8)), none, none, none] [.int 0, .int (zI M (fR M 3 8) 8), .ref (fR M 3 8 + 2)] N5 v M' 0 0 := Ev.back 2 (fun n => rfl) H
      obtain ⟨b6, H⟩ := Ev.ias rfl rfl hN5.1 (fx_g1 a_t) qw_30 H
      obtain ⟨N7, eN7⟩ : ∃ N, N = (wI N5 (fR M 3 8 + 2) ((zI M (fR M 3 8) 8).toNatClampNeg) 0) := ⟨_, rfl⟩
      have hN7 : SQ N7 := by rw [eN7]; exact hN5.ki
      have H : Ev none e 33 101 [some (.ref 3), some (.int a), some (.int 0), some (.int (zI M (fR M 3 8) 8)), none, none, none] [] N7 v M' 0 0 := by rw [eN7]; exact H
      have H : Ev none e 33 102 [some (.ref 3), some (.int a), some (.int 0), some (.int (zI M (fR M 3 8) 8)), none, none, none] [.ref 3] N7 v M' 0 0 := Ev.back 1 (fun n => rfl) H
      have H : Ev none e 33 105 [some (.ref 3), some (.int a), some (.int 0), some (.int (zI M (fR M 3 8) 8)), none, none, none] [.ref (fR N7 3 8)] N7 v M' 0 0 := Ev.back 1 (gs_3 rfl rfl (gf_n hN7.1 qa_3 qn_3_8 (by decide) (by rw [(show fR N7 3 8 = fR N5 3 8 from by rw [eN7]; exact fR_wI).trans (show fR N5 3 8 = fR M 3 8 from by rw [eN5]; exact fR_wI)]; exact a_t) rfl)) H
      rw [(show fR N7 3 8 = fR N5 3 8 from by rw [eN7]; exact fR_wI).trans (show fR N5 3 8 = fR M 3 8 from by rw [eN5]; exact fR_wI)] at H
      have H : Ev none e 33 108 [some (.ref 3), some (.int a), some (.int 0), some (.int (zI M (fR M 3 8) 8)), none, none, none] [.ref (fR M 3 8 + 3)] N7 v M' 0 0 := Ev.back 1 (gs_3 rfl rfl (gf_x hN7.1 a_t qo_28 (fx_t2 hN7 a_t) rfl)) H
      have H : Ev none e 33 110 [some (.ref 3), some (.int a), some (.int 0), some (.int (zI M (fR M 3 8) 8)), none, none, none] [.int 0, .int (zI M (fR M 3 8) 8), .ref (fR M 3 8 + 3)] N7 v M' 0 0 := Ev.back 2 (fun n => rfl) H
      obtain ⟨b8, H⟩ := Ev.ias rfl rfl hN7.1 (fx_g2 a_t) qw_31 H
      obtain ⟨N9, eN9⟩ : ∃ N, N = (wI N7 (fR M 3 8 + 3) ((zI M (fR M 3 8) 8).toNatClampNeg) 0) := ⟨_, rfl⟩
      have hN9 : SQ N9 := by rw [eN9]; exact hN7.ki
      have H : Ev none e 33 111 [some (.ref 3), some (.int a), some (.int 0), some (.int (zI M (fR M 3 8) 8)), none, none, none] [] N9 v M' 0 0 := by rw [eN9]; exact H
      have H : Ev none e 33 112 [some (.ref 3), some (.int a), some (.int 0), some (.int (zI M (fR M 3 8) 8)), none, none, none] [.ref 3] N9 v M' 0 0 := Ev.back 1 (fun n => rfl) H
      have H : Ev none e 33 115 [some (.ref 3), some (.int a), some (.int 0), some (.int (zI M (fR M 3 8) 8)), none, none, none] [.ref (fR N9 3 8)] N9 v M' 0 0 := Ev.back 1 (gs_3 rfl rfl (gf_n hN9.1 qa_3 qn_3_8 (by decide) (by rw [((show fR N9 3 8 = fR N7 3 8 from by rw [eN9]; exact fR_wI).trans (show fR N7 3 8 = fR N5 3 8 from by rw [eN7]; exact fR_wI)).trans (show fR N5 3 8 = fR M 3 8 from by rw [eN5]; exact fR_wI)]; exact a_t) rfl)) H
      rw [((show fR N9 3 8 = fR N7 3 8 from by rw [eN9]; exact fR_wI).trans (show fR N7 3 8 = fR N5 3 8 from by rw [eN7]; exact fR_wI)).trans (show fR N5 3 8 = fR M 3 8 from by rw [eN5]; exact fR_wI)] at H
      have H : Ev none e 33 118 [some (.ref 3), some (.int a), some (.int 0), some (.int (zI M (fR M 3 8) 8)), none, none, none] [.ref (fR M 3 8 + 4)] N9 v M' 0 0 := Ev.back 1 (gs_3 rfl rfl (gf_x hN9.1 a_t qo_28 (fx_t3 hN9 a_t) rfl)) H
      have H : Ev none e 33 120 [some (.ref 3), some (.int a), some (.int 0), some (.int (zI M (fR M 3 8) 8)), none, none, none] [.ref 3, .int (zI M (fR M 3 8) 8), .ref (fR M 3 8 + 4)] N9 v M' 0 0 := Ev.back 2 (fun n => rfl) H
      have H : Ev none e 33 123 [some (.ref 3), some (.int a), some (.int 0), some (.int (zI M (fR M 3 8) 8)), none, none, none] [.ref (fR N9 3 8), .int (zI M (fR M 3 8) 8), .ref (fR M 3 8 + 4)] N9 v M' 0 0 := Ev.back 1 (gs_3 rfl rfl (gf_n hN9.1 qa_3 qn_3_8 (by decide) (by rw [((show fR N9 3 8 = fR N7 3 8 from by rw [eN9]; exact fR_wI).trans (show fR N7 3 8 = fR N5 3 8 from by rw [eN7]; exact fR_wI)).trans (show fR N5 3 8 = fR M 3 8 from by rw [eN5]; exact fR_wI)]; exact a_t) rfl)) H
      rw [((show fR N9 3 8 = fR N7 3 8 from by rw [eN9]; exact fR_wI).trans (show fR N7 3 8 = fR N5 3 8 from by rw [eN7]; exact fR_wI)).trans (show fR N5 3 8 = fR M 3 8 from by rw [eN5]; exact fR_wI)] at H
      have H : Ev none e 33 126 [some (.ref 3), some (.int a), some (.int 0), some (.int (zI M (fR M 3 8) 8)), none, none, none] [.int (zI N9 (fR M 3 8) 9), .int (zI M (fR M 3 8) 8), .ref (fR M 3 8 + 4)] N9 v M' 0 0 := Ev.back 1 (gs_3 rfl rfl (gf_i hN9.1 a_t qi_28_9 rfl)) H
      rw [((show zI N9 (fR M 3 8) 9 = zI N7 (fR M 3 8) 9 from by rw [eN9]; exact fI_wI).trans (show zI N7 (fR M 3 8) 9 = zI N5 (fR M 3 8) 9 from by rw [eN7]; exact fI_wI)).trans (show zI N5 (fR M 3 8) 9 = zI M (fR M 3 8) 9 from by rw [eN5]; exact fI_wI)] at H
      obtain ⟨b10, H⟩ := Ev.ias rfl rfl hN9.1 (fx_g3 a_t) qw_32 H
      obtain ⟨N11, eN11⟩ : ∃ N, N = (wI N9 (fR M 3 8 + 4) ((zI M (fR M 3 8) 8).toNatClampNeg) (zI M (fR M 3 8) 9)) := ⟨_, rfl⟩
      have hN11 : SQ N11 := by rw [eN11]; exact hN9.ki
      have H : Ev none e 33 127 [some (.ref 3), some (.int a), some (.int 0), some (.int (zI M (fR M 3 8) 8)), none, none, none] [] N11 v M' 0 0 := by rw [eN11]; exact H
      have H : Ev none e 33 128 [some (.ref 3), some (.int a), some (.int 0), some (.int (zI M (fR M 3 8) 8)), none, none, none] [.ref 3] N11 v M' 0 0 := Ev.back 1 (fun n => rfl) H
      have H : Ev none e 33 131 [some (.ref 3), some (.int a), some (.int 0), some (.int (zI M (fR M 3 8) 8)), none, none, none] [.ref (fR N11 3 8)] N11 v M' 0 0 := Ev.back 1 (gs_3 rfl rfl (gf_n hN11.1 qa_3 qn_3_8 (by decide) (by rw [(((show fR N11 3 8 = fR N9 3 8 from by rw [eN11]; exact fR_wI).trans (show fR N9 3 8 = fR N7 3 8 from by rw [eN9]; exact fR_wI)).trans (show fR N7 3 8 = fR N5 3 8 from by rw [eN7]; exact fR_wI)).trans (show fR N5 3 8 = fR M 3 8 from by rw [eN5]; exact fR_wI)]; exact a_t) rfl)) H
      rw [(((show fR N11 3 8 = fR N9 3 8 from by rw [eN11]; exact fR_wI).trans (show fR N9 3 8 = fR N7 3 8 from by rw [eN9]; exact fR_wI)).trans (show fR N7 3 8 = fR N5 3 8 from by rw [eN7]; exact fR_wI)).trans (show fR N5 3 8 = fR M 3 8 from by rw [eN5]; exact fR_wI)] at H
      have H : Ev none e 33 134 [some (.ref 3), some (.int a), some (.int 0), some (.int (zI M (fR M 3 8) 8)), none, none, none] [.ref (fR M 3 8 + 5)] N11 v M' 0 0 := Ev.back 1 (gs_3 rfl rfl (gf_x hN11.1 a_t qo_28 (fx_t4 hN11 a_t) rfl)) H
      have H : Ev none e 33 136 [some (.ref 3), some (.int a), some (.int 0), some (.int (zI M (fR M 3 8) 8)), none, none, none] [.ref 3, .int (zI M (fR M 3 8) 8), .ref (fR M 3 8 + 5)] N11 v M' 0 0 := Ev.back 2 (fun n => rfl) H
      have H : Ev none e 33 139 [some (.ref 3), some (.int a), some (.int 0), some (.int (zI M (fR M 3 8) 8)), none, none, none] [.ref (fR N11 3 8), .int (zI M (fR M 3 8) 8), .ref (fR M 3 8 + 5)] N11 v M' 0 0 := Ev.back 1 (gs_3 rfl rfl (gf_n hN11.1 qa_3 qn_3_8 (by decide) (by rw [(((show fR N11 3 8 = fR N9 3 8 from by rw [eN11]; exact fR_wI).trans (show fR N9 3 8 = fR N7 3 8 from by rw [eN9]; exact fR_wI)).trans (show fR N7 3 8 = fR N5 3 8 from by rw [eN7]; exact fR_wI)).trans (show fR N5 3 8 = fR M 3 8 from by rw [eN5]; exact fR_wI)]; exact a_t) rfl)) H
      rw [(((show fR N11 3 8 = fR N9 3 8 from by rw [eN11]; exact fR_wI).trans (show fR N9 3 8 = fR N7 3 8 from by rw [eN9]; exact fR_wI)).trans (show fR N7 3 8 = fR N5 3 8 from by rw [eN7]; exact fR_wI)).trans (show fR N5 3 8 = fR M 3 8 from by rw [eN5]; exact fR_wI)] at H
      have H : Ev none e 33 142 [some (.ref 3), some (.int a), some (.int 0), some (.int (zI M (fR M 3 8) 8)), none, none, none] [.int (zI N11 (fR M 3 8) 9), .int (zI M (fR M 3 8) 8), .ref (fR M 3 8 + 5)] N11 v M' 0 0 := Ev.back 1 (gs_3 rfl rfl (gf_i hN11.1 a_t qi_28_9 rfl)) H
      rw [(((show zI N11 (fR M 3 8) 9 = zI N9 (fR M 3 8) 9 from by rw [eN11]; exact fI_wI).trans (show zI N9 (fR M 3 8) 9 = zI N7 (fR M 3 8) 9 from by rw [eN9]; exact fI_wI)).trans (show zI N7 (fR M 3 8) 9 = zI N5 (fR M 3 8) 9 from by rw [eN7]; exact fI_wI)).trans (show zI N5 (fR M 3 8) 9 = zI M (fR M 3 8) 9 from by rw [eN5]; exact fI_wI)] at H
      obtain ⟨b12, H⟩ := Ev.ias rfl rfl hN11.1 (fx_g4 a_t) qw_33 H
      obtain ⟨N13, eN13⟩ : ∃ N, N = (wI N11 (fR M 3 8 + 5) ((zI M (fR M 3 8) 8).toNatClampNeg) (zI M (fR M 3 8) 9)) := ⟨_, rfl⟩
      have hN13 : SQ N13 := by rw [eN13]; exact hN11.ki
      have H : Ev none e 33 143 [some (.ref 3), some (.int a), some (.int 0), some (.int (zI M (fR M 3 8) 8)), none, none, none] [] N13 v M' 0 0 := by rw [eN13]; exact H
      have H : Ev none e 33 144 [some (.ref 3), some (.int a), some (.int 0), some (.int (zI M (fR M 3 8) 8)), none, none, none] [.ref 3] N13 v M' 0 0 := Ev.back 1 (fun n => rfl) H
      obtain ⟨e1, rfl⟩ := Ev.dpos rfl rfl H
      obtain ⟨vK14, MK14, K14, H⟩ := Ev.callb (fun n => gs_7 rfl rfl (show gCal (.invokevirtual 140) 3 (.ref 3 :: []) N13 = some (.inr (31, [some (.ref 3)], [])) from by show @cond (Option ((List Value × Mem) ⊕ (Nat × Lo × List Value))) (true && gRecv N13 (.ref 3) 3 && gRoom [] && true) (some (.inr (31, [some (.ref 3)], []))) none = _; rw [recv_s hN13.1 qa_3 qo_3]; rfl)) H
      have K14 : Ev none e1 31 0 [some (.ref 3)] [] N13 vK14 MK14 0 0 := K14
      have HF := H
      subst eN5 eN7 eN9 eN11 eN13
      exact Or.inr (Or.inl ⟨h1, h3, b4, b6, b8, b10, b12, ⟨e1, vK14, MK14, rfl, K14, HF⟩⟩)
    · rw [if_neg h3] at H
      have H : Ev none e 33 69 [some (.ref 3), some (.int a), some (.int 0), none, none, none, none] [.int 3, .ref 3] M v M' 0 0 := Ev.back 2 (fun n => rfl) H
      obtain ⟨e1, rfl⟩ := Ev.dpos rfl rfl H
      obtain ⟨vK15, MK15, K15, H⟩ := Ev.callb (fun n => gs_7 rfl rfl (show gCal (.invokevirtual 68) 3 (.int 3 :: .ref 3 :: []) M = some (.inr (27, [some (.ref 3), some (.int 3)], [])) from by show @cond (Option ((List Value × Mem) ⊕ (Nat × Lo × List Value))) (true && gRecv M (.ref 3) 3 && gRoom [] && true) (some (.inr (27, [some (.ref 3), some (.int 3)], []))) none = _; rw [recv_s hS.1 qa_3 qo_3]; rfl)) H
      have K15 : Ev none e1 27 0 [some (.ref 3), some (.int 3)] [] M vK15 MK15 0 0 := K15
      have HF := H
      exact Or.inr (Or.inr (⟨h1, h3, ⟨e1, vK15, MK15, rfl, K15, HF⟩⟩))
theorem ln0_72 {e : Nat} {M M' : Mem} {v : Option Value} {a y : Int32} (hS : SQ M) (a_t : gNth sT (fR M 3 8) = some 28) (H : Ev none e 33 72 [some (.ref 3), some (.int a), some (.int 0), none, none, none, none] [.int y] M v M' 0 0) : v = some (.int y) ∧ M' = M := by
  obtain ⟨z1, z2⟩ := Ev.retz rfl rfl H
  exact ⟨z1, z2⟩
theorem ln0_147 {e : Nat} {M M' : Mem} {v : Option Value} {a i : Int32} (hS : SQ M) (a_t : gNth sT (fR M 3 8) = some 28) (H : Ev none e 33 147 [some (.ref 3), some (.int a), some (.int 0), some (.int i), none, none, none] [] M v M' 0 0) : (∃ e1 v1 M1, e = e1 + 1 ∧ Ev none e1 35 0 [some (.ref 3), some (.int i), some (.int 0), none, none, none] [] M v1 M1 0 0 ∧ Ev none e 33 175 [some (.ref 3), some (.int a), some (.int 0), some (.int i), none, none, none] (v1.toList ++ []) M1 v M' 0 0) := by
  have H : Ev none e 33 (if 0 = 6 then 178 else 153) [some (.ref 3), some (.int a), some (.int 0), some (.int i), none, none, none] [] M v M' 0 0 := Ev.back 3 (fun n => rfl) H
  rw [if_neg (by decide)] at H
  have H : Ev none e 33 (if 0 = 5 then 158 else 169) [some (.ref 3), some (.int a), some (.int 0), some (.int i), none, none, none] [] M v M' 0 0 := Ev.back 3 (fun n => rfl) H
  rw [if_neg (by decide)] at H
  have H : Ev none e 33 172 [some (.ref 3), some (.int a), some (.int 0), some (.int i), none, none, none] [.int 0, .int i, .ref 3] M v M' 0 0 := Ev.back 3 (fun n => rfl) H
  obtain ⟨e1, rfl⟩ := Ev.dpos rfl rfl H
  obtain ⟨vK1, MK1, K1, H⟩ := Ev.callb (fun n => gs_7 rfl rfl (show gCal (.invokevirtual 146) 3 (.int 0 :: .int i :: .ref 3 :: []) M = some (.inr (35, [some (.ref 3), some (.int i), some (.int 0), none, none, none], [])) from by show @cond (Option ((List Value × Mem) ⊕ (Nat × Lo × List Value))) (true && gRecv M (.ref 3) 3 && gRoom [] && true) (some (.inr (35, [some (.ref 3), some (.int i), some (.int 0), none, none, none], []))) none = _; rw [recv_s hS.1 qa_3 qo_3]; rfl)) H
  have K1 : Ev none e1 35 0 [some (.ref 3), some (.int i), some (.int 0), none, none, none] [] M vK1 MK1 0 0 := K1
  have HF := H
  exact ⟨e1, vK1, MK1, rfl, K1, HF⟩
theorem ln0_175 {e : Nat} {M M' : Mem} {v : Option Value} {a i y : Int32} (hS : SQ M) (a_t : gNth sT (fR M 3 8) = some 28) (H : Ev none e 33 175 [some (.ref 3), some (.int a), some (.int 0), some (.int i), none, none, none] [.int y] M v M' 0 0) : (y = 0 ∧ v = some (.int 0) ∧ M' = M) ∨ (¬ (y = 0) ∧ (∃ e1 v1 M1, e = e1 + 1 ∧ Ev none e1 32 0 [some (.ref 3), some (.retAddr 12), none, none, none, none, none, none] [] M v1 M1 0 0 ∧ Ev none e 33 224 [some (.ref 3), some (.int a), some (.int 0), some (.int i), some (.int 1), some (.int 1), none] (v1.toList ++ []) M1 v M' 0 0)) := by
  have H : Ev none e 33 (if y = 0 then 182 else 178) [some (.ref 3), some (.int a), some (.int 0), some (.int i), none, none, none] [] M v M' 0 0 := Ev.back 1 (fun n => rfl) H
  by_cases h1 : y = 0
  · rw [if_pos h1] at H
    have H : Ev none e 33 (if 0 = 0 then 190 else 192) [some (.ref 3), some (.int a), some (.int 0), some (.int i), some (.int 0), none, none] [] M v M' 0 0 := Ev.back 4 (fun n => rfl) H
    rw [if_pos (by decide)] at H
    have H : Ev none e 33 191 [some (.ref 3), some (.int a), some (.int 0), some (.int i), some (.int 0), none, none] [.int 0] M v M' 0 0 := Ev.back 1 (fun n => rfl) H
    obtain ⟨z1, z2⟩ := Ev.retz rfl rfl H
    exact Or.inl ⟨h1, z1, z2⟩
  · rw [if_neg h1] at H
    have H : Ev none e 33 (if 1 = 0 then 190 else 192) [some (.ref 3), some (.int a), some (.int 0), some (.int i), some (.int 1), none, none] [] M v M' 0 0 := Ev.back 5 (fun n => rfl) H
    rw [if_neg (by decide)] at H
    have H : Ev none e 33 (if 0 = 0 then 206 else 196) [some (.ref 3), some (.int a), some (.int 0), some (.int i), some (.int 1), none, none] [] M v M' 0 0 := Ev.back 2 (fun n => rfl) H
    rw [if_pos (by decide)] at H
    have H : Ev none e 33 (if 1 = 0 then 231 else 218) [some (.ref 3), some (.int a), some (.int 0), some (.int i), some (.int 1), some (.int 1), none] [] M v M' 0 0 := Ev.back 5 (fun n => rfl) H
    rw [if_neg (by decide)] at H
    have H : Ev none e 33 221 [some (.ref 3), some (.int a), some (.int 0), some (.int i), some (.int 1), some (.int 1), none] [.retAddr 12, .ref 3] M v M' 0 0 := Ev.back 2 (fun n => rfl) H
    obtain ⟨e1, rfl⟩ := Ev.dpos rfl rfl H
    obtain ⟨vK2, MK2, K2, H⟩ := Ev.callb (fun n => gs_7 rfl rfl (show gCal (.invokevirtual 115) 3 (.retAddr 12 :: .ref 3 :: []) M = some (.inr (32, [some (.ref 3), some (.retAddr 12), none, none, none, none, none, none], [])) from by show @cond (Option ((List Value × Mem) ⊕ (Nat × Lo × List Value))) (true && gRecv M (.ref 3) 3 && gRoom [] && true) (some (.inr (32, [some (.ref 3), some (.retAddr 12), none, none, none, none, none, none], []))) none = _; rw [recv_s hS.1 qa_3 qo_3]; rfl)) H
    have K2 : Ev none e1 32 0 [some (.ref 3), some (.retAddr 12), none, none, none, none, none, none] [] M vK2 MK2 0 0 := K2
    have HF := H
    exact Or.inr (⟨h1, ⟨e1, vK2, MK2, rfl, K2, HF⟩⟩)
theorem ln0_224 {e : Nat} {M M' : Mem} {v : Option Value} {a i y : Int32} (hS : SQ M) (a_t : gNth sT (fR M 3 8) = some 28) (H : Ev none e 33 224 [some (.ref 3), some (.int a), some (.int 0), some (.int i), some (.int 1), some (.int 1), none] [.int y] M v M' 0 0) : (y = 0 ∧ (∃ e1 v1 M1, e = e1 + 1 ∧ Ev none e1 31 0 [some (.ref 3)] [] M v1 M1 0 0 ∧ Ev none e 33 243 [some (.ref 3), some (.int a), some (.int 0), some (.int i), some (.int 1), some (.int 1), some (.int 1)] (v1.toList ++ []) M1 v M' 0 0)) ∨ (¬ (y = 0) ∧ (zI M 3 7) = 59 ∧ (∃ e1 v1 M1, e = e1 + 1 ∧ Ev none e1 31 0 [some (.ref 3)] [] M v1 M1 0 0 ∧ Ev none e 33 283 [some (.ref 3), some (.int a), some (.int 0), some (.int i), some (.int 1), some (.int 1), some (.int 0)] (v1.toList ++ []) M1 v M' 0 0)) ∨ (¬ (y = 0) ∧ ¬ ((zI M 3 7) = 59) ∧ (∃ e1 v1 M1, e = e1 + 1 ∧ Ev none e1 27 0 [some (.ref 3), some (.int 1)] [] M v1 M1 0 0 ∧ Ev none e 33 278 [some (.ref 3), some (.int a), some (.int 0), some (.int i), some (.int 1), some (.int 1), some (.int 0)] (v1.toList ++ []) M1 v M' 0 0)) := by
  have H : Ev none e 33 (if y = 0 then 227 else 231) [some (.ref 3), some (.int a), some (.int 0), some (.int i), some (.int 1), some (.int 1), none] [] M v M' 0 0 := Ev.back 1 (fun n => rfl) H
  by_cases h1 : y = 0
  · rw [if_pos h1] at H
    have H : Ev none e 33 (if 1 = 0 then 243 else 239) [some (.ref 3), some (.int a), some (.int 0), some (.int i), some (.int 1), some (.int 1), some (.int 1)] [] M v M' 0 0 := Ev.back 5 (fun n => rfl) H
    rw [if_neg (by decide)] at H
    have H : Ev none e 33 240 [some (.ref 3), some (.int a), some (.int 0), some (.int i), some (.int 1), some (.int 1), some (.int 1)] [.ref 3] M v M' 0 0 := Ev.back 1 (fun n => rfl) H
    obtain ⟨e1, rfl⟩ := Ev.dpos rfl rfl H
    obtain ⟨vK2, MK2, K2, H⟩ := Ev.callb (fun n => gs_7 rfl rfl (show gCal (.invokevirtual 140) 3 (.ref 3 :: []) M = some (.inr (31, [some (.ref 3)], [])) from by show @cond (Option ((List Value × Mem) ⊕ (Nat × Lo × List Value))) (true && gRecv M (.ref 3) 3 && gRoom [] && true) (some (.inr (31, [some (.ref 3)], []))) none = _; rw [recv_s hS.1 qa_3 qo_3]; rfl)) H
    have K2 : Ev none e1 31 0 [some (.ref 3)] [] M vK2 MK2 0 0 := K2
    have HF := H
    exact Or.inl ⟨h1, ⟨e1, vK2, MK2, rfl, K2, HF⟩⟩
  · rw [if_neg h1] at H
    have H : Ev none e 33 (if 0 = 0 then 243 else 239) [some (.ref 3), some (.int a), some (.int 0), some (.int i), some (.int 1), some (.int 1), some (.int 0)] [] M v M' 0 0 := Ev.back 4 (fun n => rfl) H
    rw [if_pos (by decide)] at H
    have H : Ev none e 33 (if 0 = 0 then 248 else 254) [some (.ref 3), some (.int a), some (.int 0), some (.int i), some (.int 1), some (.int 1), some (.int 0)] [] M v M' 0 0 := Ev.back 2 (fun n => rfl) H
    rw [if_pos (by decide)] at H
    have H : Ev none e 33 (if 0 = 6 then 254 else 264) [some (.ref 3), some (.int a), some (.int 0), some (.int i), some (.int 1), some (.int 1), some (.int 0)] [] M v M' 0 0 := Ev.back 3 (fun n => rfl) H
    rw [if_neg (by decide)] at H
    have H : Ev none e 33 265 [some (.ref 3), some (.int a), some (.int 0), some (.int i), some (.int 1), some (.int 1), some (.int 0)] [.ref 3] M v M' 0 0 := Ev.back 1 (fun n => rfl) H
    have H : Ev none e 33 268 [some (.ref 3), some (.int a), some (.int 0), some (.int i), some (.int 1), some (.int 1), some (.int 0)] [.int (zI M 3 7)] M v M' 0 0 := Ev.back 1 (gs_3 rfl rfl (gf_i hS.1 qa_3 qi_3_7 rfl)) H
    have H : Ev none e 33 (if (zI M 3 7) = 59 then 279 else 273) [some (.ref 3), some (.int a), some (.int 0), some (.int i), some (.int 1), some (.int 1), some (.int 0)] [] M v M' 0 0 := Ev.back 2 (fun n => rfl) H
    by_cases h3 : (zI M 3 7) = 59
    · rw [if_pos h3] at H
      have H : Ev none e 33 280 [some (.ref 3), some (.int a), some (.int 0), some (.int i), some (.int 1), some (.int 1), some (.int 0)] [.ref 3] M v M' 0 0 := Ev.back 1 (fun n => rfl) H
      obtain ⟨e1, rfl⟩ := Ev.dpos rfl rfl H
      obtain ⟨vK4, MK4, K4, H⟩ := Ev.callb (fun n => gs_7 rfl rfl (show gCal (.invokevirtual 140) 3 (.ref 3 :: []) M = some (.inr (31, [some (.ref 3)], [])) from by show @cond (Option ((List Value × Mem) ⊕ (Nat × Lo × List Value))) (true && gRecv M (.ref 3) 3 && gRoom [] && true) (some (.inr (31, [some (.ref 3)], []))) none = _; rw [recv_s hS.1 qa_3 qo_3]; rfl)) H
      have K4 : Ev none e1 31 0 [some (.ref 3)] [] M vK4 MK4 0 0 := K4
      have HF := H
      exact Or.inr (Or.inl ⟨h1, h3, ⟨e1, vK4, MK4, rfl, K4, HF⟩⟩)
    · rw [if_neg h3] at H
      have H : Ev none e 33 275 [some (.ref 3), some (.int a), some (.int 0), some (.int i), some (.int 1), some (.int 1), some (.int 0)] [.int 1, .ref 3] M v M' 0 0 := Ev.back 2 (fun n => rfl) H
      obtain ⟨e1, rfl⟩ := Ev.dpos rfl rfl H
      obtain ⟨vK5, MK5, K5, H⟩ := Ev.callb (fun n => gs_7 rfl rfl (show gCal (.invokevirtual 68) 3 (.int 1 :: .ref 3 :: []) M = some (.inr (27, [some (.ref 3), some (.int 1)], [])) from by show @cond (Option ((List Value × Mem) ⊕ (Nat × Lo × List Value))) (true && gRecv M (.ref 3) 3 && gRoom [] && true) (some (.inr (27, [some (.ref 3), some (.int 1)], []))) none = _; rw [recv_s hS.1 qa_3 qo_3]; rfl)) H
      have K5 : Ev none e1 27 0 [some (.ref 3), some (.int 1)] [] M vK5 MK5 0 0 := K5
      have HF := H
      exact Or.inr (Or.inr (⟨h1, h3, ⟨e1, vK5, MK5, rfl, K5, HF⟩⟩))
theorem ln0_243 {e : Nat} {M M' : Mem} {v : Option Value} {a i : Int32} (hS : SQ M) (a_t : gNth sT (fR M 3 8) = some 28) (H : Ev none e 33 243 [some (.ref 3), some (.int a), some (.int 0), some (.int i), some (.int 1), some (.int 1), some (.int 1)] [] M v M' 0 0) : (∃ e1 v1 M1, e = e1 + 1 ∧ Ev none e1 36 0 [some (.ref 3), some (.int 1), none] [] M v1 M1 0 0 ∧ Ev none e 33 259 [some (.ref 3), some (.int a), some (.int 0), some (.int i), some (.int 1), some (.int 1), some (.int 1)] (v1.toList ++ []) M1 v M' 0 0) := by
  have H : Ev none e 33 (if 1 = 0 then 248 else 254) [some (.ref 3), some (.int a), some (.int 0), some (.int i), some (.int 1), some (.int 1), some (.int 1)] [] M v M' 0 0 := Ev.back 2 (fun n => rfl) H
  rw [if_neg (by decide)] at H
  have H : Ev none e 33 256 [some (.ref 3), some (.int a), some (.int 0), some (.int i), some (.int 1), some (.int 1), some (.int 1)] [.int 1, .ref 3] M v M' 0 0 := Ev.back 2 (fun n => rfl) H
  obtain ⟨e1, rfl⟩ := Ev.dpos rfl rfl H
  obtain ⟨vK1, MK1, K1, H⟩ := Ev.callb (fun n => gs_7 rfl rfl (show gCal (.invokevirtual 152) 3 (.int 1 :: .ref 3 :: []) M = some (.inr (36, [some (.ref 3), some (.int 1), none], [])) from by show @cond (Option ((List Value × Mem) ⊕ (Nat × Lo × List Value))) (true && gRecv M (.ref 3) 3 && gRoom [] && true) (some (.inr (36, [some (.ref 3), some (.int 1), none], []))) none = _; rw [recv_s hS.1 qa_3 qo_3]; rfl)) H
  have K1 : Ev none e1 36 0 [some (.ref 3), some (.int 1), none] [] M vK1 MK1 0 0 := K1
  have HF := H
  exact ⟨e1, vK1, MK1, rfl, K1, HF⟩
theorem ln0_259 {e : Nat} {M M' : Mem} {v : Option Value} {a i y : Int32} (hS : SQ M) (a_t : gNth sT (fR M 3 8) = some 28) (H : Ev none e 33 259 [some (.ref 3), some (.int a), some (.int 0), some (.int i), some (.int 1), some (.int 1), some (.int 1)] [.int y] M v M' 0 0) : (y = 0 ∧ v = some (.int 0) ∧ M' = M) ∨ (¬ (y = 0) ∧ (zI M 3 7) = 59 ∧ (∃ e1 v1 M1, e = e1 + 1 ∧ Ev none e1 31 0 [some (.ref 3)] [] M v1 M1 0 0 ∧ Ev none e 33 283 [some (.ref 3), some (.int a), some (.int 0), some (.int i), some (.int 1), some (.int 1), some (.int 1)] (v1.toList ++ []) M1 v M' 0 0)) ∨ (¬ (y = 0) ∧ ¬ ((zI M 3 7) = 59) ∧ (∃ e1 v1 M1, e = e1 + 1 ∧ Ev none e1 27 0 [some (.ref 3), some (.int 1)] [] M v1 M1 0 0 ∧ Ev none e 33 278 [some (.ref 3), some (.int a), some (.int 0), some (.int i), some (.int 1), some (.int 1), some (.int 1)] (v1.toList ++ []) M1 v M' 0 0)) := by
  have H : Ev none e 33 (if y = 0 then 262 else 264) [some (.ref 3), some (.int a), some (.int 0), some (.int i), some (.int 1), some (.int 1), some (.int 1)] [] M v M' 0 0 := Ev.back 1 (fun n => rfl) H
  by_cases h1 : y = 0
  · rw [if_pos h1] at H
    have H : Ev none e 33 263 [some (.ref 3), some (.int a), some (.int 0), some (.int i), some (.int 1), some (.int 1), some (.int 1)] [.int 0] M v M' 0 0 := Ev.back 1 (fun n => rfl) H
    obtain ⟨z1, z2⟩ := Ev.retz rfl rfl H
    exact Or.inl ⟨h1, z1, z2⟩
  · rw [if_neg h1] at H
    have H : Ev none e 33 265 [some (.ref 3), some (.int a), some (.int 0), some (.int i), some (.int 1), some (.int 1), some (.int 1)] [.ref 3] M v M' 0 0 := Ev.back 1 (fun n => rfl) H
    have H : Ev none e 33 268 [some (.ref 3), some (.int a), some (.int 0), some (.int i), some (.int 1), some (.int 1), some (.int 1)] [.int (zI M 3 7)] M v M' 0 0 := Ev.back 1 (gs_3 rfl rfl (gf_i hS.1 qa_3 qi_3_7 rfl)) H
    have H : Ev none e 33 (if (zI M 3 7) = 59 then 279 else 273) [some (.ref 3), some (.int a), some (.int 0), some (.int i), some (.int 1), some (.int 1), some (.int 1)] [] M v M' 0 0 := Ev.back 2 (fun n => rfl) H
    by_cases h2 : (zI M 3 7) = 59
    · rw [if_pos h2] at H
      have H : Ev none e 33 280 [some (.ref 3), some (.int a), some (.int 0), some (.int i), some (.int 1), some (.int 1), some (.int 1)] [.ref 3] M v M' 0 0 := Ev.back 1 (fun n => rfl) H
      obtain ⟨e1, rfl⟩ := Ev.dpos rfl rfl H
      obtain ⟨vK3, MK3, K3, H⟩ := Ev.callb (fun n => gs_7 rfl rfl (show gCal (.invokevirtual 140) 3 (.ref 3 :: []) M = some (.inr (31, [some (.ref 3)], [])) from by show @cond (Option ((List Value × Mem) ⊕ (Nat × Lo × List Value))) (true && gRecv M (.ref 3) 3 && gRoom [] && true) (some (.inr (31, [some (.ref 3)], []))) none = _; rw [recv_s hS.1 qa_3 qo_3]; rfl)) H
      have K3 : Ev none e1 31 0 [some (.ref 3)] [] M vK3 MK3 0 0 := K3
      have HF := H
      exact Or.inr (Or.inl ⟨h1, h2, ⟨e1, vK3, MK3, rfl, K3, HF⟩⟩)
    · rw [if_neg h2] at H
      have H : Ev none e 33 275 [some (.ref 3), some (.int a), some (.int 0), some (.int i), some (.int 1), some (.int 1), some (.int 1)] [.int 1, .ref 3] M v M' 0 0 := Ev.back 2 (fun n => rfl) H
      obtain ⟨e1, rfl⟩ := Ev.dpos rfl rfl H
      obtain ⟨vK4, MK4, K4, H⟩ := Ev.callb (fun n => gs_7 rfl rfl (show gCal (.invokevirtual 68) 3 (.int 1 :: .ref 3 :: []) M = some (.inr (27, [some (.ref 3), some (.int 1)], [])) from by show @cond (Option ((List Value × Mem) ⊕ (Nat × Lo × List Value))) (true && gRecv M (.ref 3) 3 && gRoom [] && true) (some (.inr (27, [some (.ref 3), some (.int 1)], []))) none = _; rw [recv_s hS.1 qa_3 qo_3]; rfl)) H
      have K4 : Ev none e1 27 0 [some (.ref 3), some (.int 1)] [] M vK4 MK4 0 0 := K4
      have HF := H
      exact Or.inr (Or.inr (⟨h1, h2, ⟨e1, vK4, MK4, rfl, K4, HF⟩⟩))
theorem ln0_278 {e : Nat} {M M' : Mem} {v : Option Value} {a i y : Int32} {c5 c6 : Option Value} (hS : SQ M) (a_t : gNth sT (fR M 3 8) = some 28) (H : Ev none e 33 278 [some (.ref 3), some (.int a), some (.int 0), some (.int i), some (.int 1), c5, c6] [.int y] M v M' 0 0) : v = some (.int y) ∧ M' = M := by
  obtain ⟨z1, z2⟩ := Ev.retz rfl rfl H
  exact ⟨z1, z2⟩
theorem ln0_283 {e : Nat} {M M' : Mem} {v : Option Value} {a i : Int32} {c5 c6 : Option Value} (hS : SQ M) (a_t : gNth sT (fR M 3 8) = some 28) (H : Ev none e 33 283 [some (.ref 3), some (.int a), some (.int 0), some (.int i), some (.int 1), c5, c6] [] M v M' 0 0) : (0 ≤ i.toInt ∧ i.toInt < 16) ∧ v = some (.int 1) ∧ M' = (wF (wI M (fR M 3 8 + 5) i.toNatClampNeg (zI M (fR M 3 8) 9)) (fR M 3 8) 8 ((zI M (fR M 3 8) 8) + 1)) := by
  have H : Ev none e 33 284 [some (.ref 3), some (.int a), some (.int 0), some (.int i), some (.int 1), c5, c6] [.ref 3] M v M' 0 0 := Ev.back 1 (fun n => rfl) H
  have H : Ev none e 33 287 [some (.ref 3), some (.int a), some (.int 0), some (.int i), some (.int 1), c5, c6] [.ref (fR M 3 8)] M v M' 0 0 := Ev.back 1 (gs_3 rfl rfl (gf_n hS.1 qa_3 qn_3_8 (by decide) a_t rfl)) H
  have H : Ev none e 33 290 [some (.ref 3), some (.int a), some (.int 0), some (.int i), some (.int 1), c5, c6] [.ref (fR M 3 8 + 5)] M v M' 0 0 := Ev.back 1 (gs_3 rfl rfl (gf_x hS.1 a_t qo_28 (fx_t4 hS a_t) rfl)) H
  have H : Ev none e 33 292 [some (.ref 3), some (.int a), some (.int 0), some (.int i), some (.int 1), c5, c6] [.ref 3, .int i, .ref (fR M 3 8 + 5)] M v M' 0 0 := Ev.back 2 (fun n => rfl) H
  have H : Ev none e 33 295 [some (.ref 3), some (.int a), some (.int 0), some (.int i), some (.int 1), c5, c6] [.ref (fR M 3 8), .int i, .ref (fR M 3 8 + 5)] M v M' 0 0 := Ev.back 1 (gs_3 rfl rfl (gf_n hS.1 qa_3 qn_3_8 (by decide) a_t rfl)) H
  have H : Ev none e 33 298 [some (.ref 3), some (.int a), some (.int 0), some (.int i), some (.int 1), c5, c6] [.int (zI M (fR M 3 8) 9), .int i, .ref (fR M 3 8 + 5)] M v M' 0 0 := Ev.back 1 (gs_3 rfl rfl (gf_i hS.1 a_t qi_28_9 rfl)) H
  obtain ⟨b1, H⟩ := Ev.ias rfl rfl hS.1 (fx_g4 a_t) qw_33 H
  obtain ⟨N2, eN2⟩ : ∃ N, N = (wI M (fR M 3 8 + 5) i.toNatClampNeg (zI M (fR M 3 8) 9)) := ⟨_, rfl⟩
  have hN2 : SQ N2 := by rw [eN2]; exact hS.ki
  have H : Ev none e 33 299 [some (.ref 3), some (.int a), some (.int 0), some (.int i), some (.int 1), c5, c6] [] N2 v M' 0 0 := by rw [eN2]; exact H
  have H : Ev none e 33 300 [some (.ref 3), some (.int a), some (.int 0), some (.int i), some (.int 1), c5, c6] [.ref 3] N2 v M' 0 0 := Ev.back 1 (fun n => rfl) H
  have H : Ev none e 33 303 [some (.ref 3), some (.int a), some (.int 0), some (.int i), some (.int 1), c5, c6] [.ref (fR N2 3 8)] N2 v M' 0 0 := Ev.back 1 (gs_3 rfl rfl (gf_n hN2.1 qa_3 qn_3_8 (by decide) (by rw [show fR N2 3 8 = fR M 3 8 from by rw [eN2]; exact fR_wI]; exact a_t) rfl)) H
  rw [show fR N2 3 8 = fR M 3 8 from by rw [eN2]; exact fR_wI] at H
  have H : Ev none e 33 304 [some (.ref 3), some (.int a), some (.int 0), some (.int i), some (.int 1), c5, c6] [.ref (fR M 3 8), .ref (fR M 3 8)] N2 v M' 0 0 := Ev.back 1 (fun n => rfl) H
  have H : Ev none e 33 307 [some (.ref 3), some (.int a), some (.int 0), some (.int i), some (.int 1), c5, c6] [.int (zI N2 (fR M 3 8) 8), .ref (fR M 3 8)] N2 v M' 0 0 := Ev.back 1 (gs_3 rfl rfl (gf_i hN2.1 a_t qi_28_8 rfl)) H
  rw [show zI N2 (fR M 3 8) 8 = zI M (fR M 3 8) 8 from by rw [eN2]; exact fI_wI] at H
  have H : Ev none e 33 309 [some (.ref 3), some (.int a), some (.int 0), some (.int i), some (.int 1), c5, c6] [.int ((zI M (fR M 3 8) 8) + 1), .ref (fR M 3 8)] N2 v M' 0 0 := Ev.back 2 (fun n => rfl) H
  obtain ⟨N4, eN4⟩ : ∃ N, N = (wF N2 (fR M 3 8) 8 ((zI M (fR M 3 8) 8) + 1)) := ⟨_, rfl⟩
  have hN4 : SQ N4 := by rw [eN4]; exact hN2.kf
  have H : Ev none e 33 312 [some (.ref 3), some (.int a), some (.int 0), some (.int i), some (.int 1), c5, c6] [] N4 v M' 0 0 := by rw [eN4]; exact Ev.pfi rfl rfl rfl hN2.1 a_t qi_28_8 H
  have H : Ev none e 33 313 [some (.ref 3), some (.int a), some (.int 0), some (.int i), some (.int 1), c5, c6] [.int 1] N4 v M' 0 0 := Ev.back 1 (fun n => rfl) H
  obtain ⟨z1, z2⟩ := Ev.retz rfl rfl H
  subst eN2 eN4
  exact ⟨b1, z1, z2⟩
theorem ln1_44 {e : Nat} {M M' : Mem} {v : Option Value} {a : Int32} (hS : SQ M) (a_t : gNth sT (fR M 3 8) = some 28) (H : Ev none e 33 44 [some (.ref 3), some (.int a), some (.int 1), none, none, none, none] [] M v M' 0 0) : (16 ≤ (zI M (fR M 3 8) 8) ∧ (∃ e1 v1 M1, e = e1 + 1 ∧ Ev none e1 27 0 [some (.ref 3), some (.int 3)] [] M v1 M1 0 0 ∧ Ev none e 33 72 [some (.ref 3), some (.int a), some (.int 1), none, none, none, none] (v1.toList ++ []) M1 v M' 0 0)) ∨ (¬ (16 ≤ (zI M (fR M 3 8) 8)) ∧ ((zI M 3 10) &&& ((1 : Int32) <<< ((1 : Int32) &&& 31))) = 0 ∧ (0 ≤ (zI M (fR M 3 8) 8).toInt ∧ (zI M (fR M 3 8) 8).toInt < 16) ∧ (0 ≤ (zI M (fR M 3 8) 8).toInt ∧ (zI M (fR M 3 8) 8).toInt < 16) ∧ (0 ≤ (zI M (fR M 3 8) 8).toInt ∧ (zI M (fR M 3 8) 8).toInt < 16) ∧ (0 ≤ (zI M (fR M 3 8) 8).toInt ∧ (zI M (fR M 3 8) 8).toInt < 16) ∧ (0 ≤ (zI M (fR M 3 8) 8).toInt ∧ (zI M (fR M 3 8) 8).toInt < 16) ∧ (∃ e1 v1 M1, e = e1 + 1 ∧ Ev none e1 31 0 [some (.ref 3)] [] (wI (wI (wI (wI (wI M (fR M 3 8 + 1) ((zI M (fR M 3 8) 8).toNatClampNeg) 1) (fR M 3 8 + 2) ((zI M (fR M 3 8) 8).toNatClampNeg) 0) (fR M 3 8 + 3) ((zI M (fR M 3 8) 8).toNatClampNeg) 0) (fR M 3 8 + 4) ((zI M (fR M 3 8) 8).toNatClampNeg) (zI M (fR M 3 8) 9)) (fR M 3 8 + 5) ((zI M (fR M 3 8) 8).toNatClampNeg) (zI M (fR M 3 8) 9)) v1 M1 0 0 ∧ Ev none e 33 147 [some (.ref 3), some (.int a), some (.int 1), some (.int (zI M (fR M 3 8) 8)), none, none, none] (v1.toList ++ []) M1 v M' 0 0)) ∨ (¬ (16 ≤ (zI M (fR M 3 8) 8)) ∧ ¬ (((zI M 3 10) &&& ((1 : Int32) <<< ((1 : Int32) &&& 31))) = 0) ∧ (∃ e1 v1 M1, e = e1 + 1 ∧ Ev none e1 27 0 [some (.ref 3), some (.int 3)] [] M v1 M1 0 0 ∧ Ev none e 33 72 [some (.ref 3), some (.int a), some (.int 1), none, none, none, none] (v1.toList ++ []) M1 v M' 0 0)) := by
  have H : Ev none e 33 45 [some (.ref 3), some (.int a), some (.int 1), none, none, none, none] [.ref 3] M v M' 0 0 := Ev.back 1 (fun n => rfl) H
  have H : Ev none e 33 48 [some (.ref 3), some (.int a), some (.int 1), none, none, none, none] [.ref (fR M 3 8)] M v M' 0 0 := Ev.back 1 (gs_3 rfl rfl (gf_n hS.1 qa_3 qn_3_8 (by decide) a_t rfl)) H
  have H : Ev none e 33 51 [some (.ref 3), some (.int a), some (.int 1), none, none, none, none] [.int (zI M (fR M 3 8) 8)] M v M' 0 0 := Ev.back 1 (gs_3 rfl rfl (gf_i hS.1 a_t qi_28_8 rfl)) H
  have H : Ev none e 33 (if 16 ≤ (zI M (fR M 3 8) 8) then 67 else 56) [some (.ref 3), some (.int a), some (.int 1), none, none, none, none] [] M v M' 0 0 := Ev.back 2 (fun n => rfl) H
  by_cases h1 : 16 ≤ (zI M (fR M 3 8) 8)
  · rw [if_pos h1] at H
    have H : Ev none e 33 69 [some (.ref 3), some (.int a), some (.int 1), none, none, none, none] [.int 3, .ref 3] M v M' 0 0 := Ev.back 2 (fun n => rfl) H
    obtain ⟨e1, rfl⟩ := Ev.dpos rfl rfl H
    obtain ⟨vK2, MK2, K2, H⟩ := Ev.callb (fun n => gs_7 rfl rfl (show gCal (.invokevirtual 68) 3 (.int 3 :: .ref 3 :: []) M = some (.inr (27, [some (.ref 3), some (.int 3)], [])) from by show @cond (Option ((List Value × Mem) ⊕ (Nat × Lo × List Value))) (true && gRecv M (.ref 3) 3 && gRoom [] && true) (some (.inr (27, [some (.ref 3), some (.int 3)], []))) none = _; rw [recv_s hS.1 qa_3 qo_3]; rfl)) H
    have K2 : Ev none e1 27 0 [some (.ref 3), some (.int 3)] [] M vK2 MK2 0 0 := K2
    have HF := H
    exact Or.inl ⟨h1, ⟨e1, vK2, MK2, rfl, K2, HF⟩⟩
  · rw [if_neg h1] at H
    have H : Ev none e 33 57 [some (.ref 3), some (.int a), some (.int 1), none, none, none, none] [.ref 3] M v M' 0 0 := Ev.back 1 (fun n => rfl) H
    have H : Ev none e 33 60 [some (.ref 3), some (.int a), some (.int 1), none, none, none, none] [.int (zI M 3 10)] M v M' 0 0 := Ev.back 1 (gs_3 rfl rfl (gf_i hS.1 qa_3 qi_3_10 rfl)) H
    have H : Ev none e 33 (if ((zI M 3 10) &&& ((1 : Int32) <<< ((1 : Int32) &&& 31))) = 0 then 73 else 67) [some (.ref 3), some (.int a), some (.int 1), none, none, none, none] [] M v M' 0 0 := Ev.back 5 (fun n => rfl) H
    by_cases h3 : ((zI M 3 10) &&& ((1 : Int32) <<< ((1 : Int32) &&& 31))) = 0
    · rw [if_pos h3] at H
      have H : Ev none e 33 74 [some (.ref 3), some (.int a), some (.int 1), none, none, none, none] [.ref 3] M v M' 0 0 := Ev.back 1 (fun n => rfl) H
      have H : Ev none e 33 77 [some (.ref 3), some (.int a), some (.int 1), none, none, none, none] [.ref (fR M 3 8)] M v M' 0 0 := Ev.back 1 (gs_3 rfl rfl (gf_n hS.1 qa_3 qn_3_8 (by decide) a_t rfl)) H
      have H : Ev none e 33 80 [some (.ref 3), some (.int a), some (.int 1), none, none, none, none] [.int (zI M (fR M 3 8) 8)] M v M' 0 0 := Ev.back 1 (gs_3 rfl rfl (gf_i hS.1 a_t qi_28_8 rfl)) H
      have H : Ev none e 33 82 [some (.ref 3), some (.int a), some (.int 1), some (.int (zI M (fR M 3 8) 8)), none, none, none] [.ref 3] M v M' 0 0 := Ev.back 2 (fun n => rfl) H
      have H : Ev none e 33 85 [some (.ref 3), some (.int a), some (.int 1), some (.int (zI M (fR M 3 8) 8)), none, none, none] [.ref (fR M 3 8)] M v M' 0 0 := Ev.back 1 (gs_3 rfl rfl (gf_n hS.1 qa_3 qn_3_8 (by decide) a_t rfl)) H
      have H : Ev none e 33 88 [some (.ref 3), some (.int a), some (.int 1), some (.int (zI M (fR M 3 8) 8)), none, none, none] [.ref (fR M 3 8 + 1)] M v M' 0 0 := Ev.back 1 (gs_3 rfl rfl (gf_x hS.1 a_t qo_28 (fx_t0 hS a_t) rfl)) H
      have H : Ev none e 33 90 [some (.ref 3), some (.int a), some (.int 1), some (.int (zI M (fR M 3 8) 8)), none, none, none] [.int 1, .int (zI M (fR M 3 8) 8), .ref (fR M 3 8 + 1)] M v M' 0 0 := Ev.back 2 (fun n => rfl) H
      obtain ⟨b4, H⟩ := Ev.ias rfl rfl hS.1 (fx_g0 a_t) qw_29 H
      obtain ⟨N5, eN5⟩ : ∃ N, N = (wI M (fR M 3 8 + 1) ((zI M (fR M 3 8) 8).toNatClampNeg) 1) := ⟨_, rfl⟩
      have hN5 : SQ N5 := by rw [eN5]; exact hS.ki
      have H : Ev none e 33 91 [some (.ref 3), some (.int a), some (.int 1), some (.int (zI M (fR M 3 8) 8)), none, none, none] [] N5 v M' 0 0 := by rw [eN5]; exact H
      have H : Ev none e 33 92 [some (.ref 3), some (.int a), some (.int 1), some (.int (zI M (fR M 3 8) 8)), none, none, none] [.ref 3] N5 v M' 0 0 := Ev.back 1 (fun n => rfl) H
      have H : Ev none e 33 95 [some (.ref 3), some (.int a), some (.int 1), some (.int (zI M (fR M 3 8) 8)), none, none, none] [.ref (fR N5 3 8)] N5 v M' 0 0 := Ev.back 1 (gs_3 rfl rfl (gf_n hN5.1 qa_3 qn_3_8 (by decide) (by rw [show fR N5 3 8 = fR M 3 8 from by rw [eN5]; exact fR_wI]; exact a_t) rfl)) H
      rw [show fR N5 3 8 = fR M 3 8 from by rw [eN5]; exact fR_wI] at H
      have H : Ev none e 33 98 [some (.ref 3), some (.int a), some (.int 1), some (.int (zI M (fR M 3 8) 8)), none, none, none] [.ref (fR M 3 8 + 2)] N5 v M' 0 0 := Ev.back 1 (gs_3 rfl rfl (gf_x hN5.1 a_t qo_28 (fx_t1 hN5 a_t) rfl)) H
      have H : Ev none e 33 100 [some (.ref 3), some (.int a), some (.int 1), some (.int (zI M (fR M 3 8) 8)), none, none, none] [.int 0, .int (zI M (fR M 3 8) 8), .ref (fR M 3 8 + 2)] N5 v M' 0 0 := Ev.back 2 (fun n => rfl) H
      obtain ⟨b6, H⟩ := Ev.ias rfl rfl hN5.1 (fx_g1 a_t) qw_30 H
      obtain ⟨N7, eN7⟩ : ∃ N, N = (wI N5 (fR M 3 8 + 2) ((zI M (fR M 3 8) 8).toNatClampNeg) 0) := ⟨_, rfl⟩
      have hN7 : SQ N7 := by rw [eN7]; exact hN5.ki
      have H : Ev none e 33 101 [some (.ref 3), some (.int a), some (.int 1), some (.int (zI M (fR M 3 8) 8)), none, none, none] [] N7 v M' 0 0 := by rw [eN7]; exact H
      have H : Ev none e 33 102 [some (.ref 3), some (.int a), some (.int 1), some (.int (zI M (fR M 3 8) 8)), none, none, none] [.ref 3] N7 v M' 0 0 := Ev.back 1 (fun n => rfl) H
      have H : Ev none e 33 105 [some (.ref 3), some (.int a), some (.int 1), some (.int (zI M (fR M 3 8) 8)), none, none, none] [.ref (fR N7 3 8)] N7 v M' 0 0 := Ev.back 1 (gs_3 rfl rfl (gf_n hN7.1 qa_3 qn_3_8 (by decide) (by rw [(show fR N7 3 8 = fR N5 3 8 from by rw [eN7]; exact fR_wI).trans (show fR N5 3 8 = fR M 3 8 from by rw [eN5]; exact fR_wI)]; exact a_t) rfl)) H
      rw [(show fR N7 3 8 = fR N5 3 8 from by rw [eN7]; exact fR_wI).trans (show fR N5 3 8 = fR M 3 8 from by rw [eN5]; exact fR_wI)] at H
      have H : Ev none e 33 108 [some (.ref 3), some (.int a), some (.int 1), some (.int (zI M (fR M 3 8) 8)), none, none, none] [.ref (fR M 3 8 + 3)] N7 v M' 0 0 := Ev.back 1 (gs_3 rfl rfl (gf_x hN7.1 a_t qo_28 (fx_t2 hN7 a_t) rfl)) H
      have H : Ev none e 33 110 [some (.ref 3), some (.int a), some (.int 1), some (.int (zI M (fR M 3 8) 8)), none, none, none] [.int 0, .int (zI M (fR M 3 8) 8), .ref (fR M 3 8 + 3)] N7 v M' 0 0 := Ev.back 2 (fun n => rfl) H
      obtain ⟨b8, H⟩ := Ev.ias rfl rfl hN7.1 (fx_g2 a_t) qw_31 H
      obtain ⟨N9, eN9⟩ : ∃ N, N = (wI N7 (fR M 3 8 + 3) ((zI M (fR M 3 8) 8).toNatClampNeg) 0) := ⟨_, rfl⟩
      have hN9 : SQ N9 := by rw [eN9]; exact hN7.ki
      have H : Ev none e 33 111 [some (.ref 3), some (.int a), some (.int 1), some (.int (zI M (fR M 3 8) 8)), none, none, none] [] N9 v M' 0 0 := by rw [eN9]; exact H
      have H : Ev none e 33 112 [some (.ref 3), some (.int a), some (.int 1), some (.int (zI M (fR M 3 8) 8)), none, none, none] [.ref 3] N9 v M' 0 0 := Ev.back 1 (fun n => rfl) H
      have H : Ev none e 33 115 [some (.ref 3), some (.int a), some (.int 1), some (.int (zI M (fR M 3 8) 8)), none, none, none] [.ref (fR N9 3 8)] N9 v M' 0 0 := Ev.back 1 (gs_3 rfl rfl (gf_n hN9.1 qa_3 qn_3_8 (by decide) (by rw [((show fR N9 3 8 = fR N7 3 8 from by rw [eN9]; exact fR_wI).trans (show fR N7 3 8 = fR N5 3 8 from by rw [eN7]; exact fR_wI)).trans (show fR N5 3 8 = fR M 3 8 from by rw [eN5]; exact fR_wI)]; exact a_t) rfl)) H
      rw [((show fR N9 3 8 = fR N7 3 8 from by rw [eN9]; exact fR_wI).trans (show fR N7 3 8 = fR N5 3 8 from by rw [eN7]; exact fR_wI)).trans (show fR N5 3 8 = fR M 3 8 from by rw [eN5]; exact fR_wI)] at H
      have H : Ev none e 33 118 [some (.ref 3), some (.int a), some (.int 1), some (.int (zI M (fR M 3 8) 8)), none, none, none] [.ref (fR M 3 8 + 4)] N9 v M' 0 0 := Ev.back 1 (gs_3 rfl rfl (gf_x hN9.1 a_t qo_28 (fx_t3 hN9 a_t) rfl)) H
      have H : Ev none e 33 120 [some (.ref 3), some (.int a), some (.int 1), some (.int (zI M (fR M 3 8) 8)), none, none, none] [.ref 3, .int (zI M (fR M 3 8) 8), .ref (fR M 3 8 + 4)] N9 v M' 0 0 := Ev.back 2 (fun n => rfl) H
      have H : Ev none e 33 123 [some (.ref 3), some (.int a), some (.int 1), some (.int (zI M (fR M 3 8) 8)), none, none, none] [.ref (fR N9 3 8), .int (zI M (fR M 3 8) 8), .ref (fR M 3 8 + 4)] N9 v M' 0 0 := Ev.back 1 (gs_3 rfl rfl (gf_n hN9.1 qa_3 qn_3_8 (by decide) (by rw [((show fR N9 3 8 = fR N7 3 8 from by rw [eN9]; exact fR_wI).trans (show fR N7 3 8 = fR N5 3 8 from by rw [eN7]; exact fR_wI)).trans (show fR N5 3 8 = fR M 3 8 from by rw [eN5]; exact fR_wI)]; exact a_t) rfl)) H
      rw [((show fR N9 3 8 = fR N7 3 8 from by rw [eN9]; exact fR_wI).trans (show fR N7 3 8 = fR N5 3 8 from by rw [eN7]; exact fR_wI)).trans (show fR N5 3 8 = fR M 3 8 from by rw [eN5]; exact fR_wI)] at H
      have H : Ev none e 33 126 [some (.ref 3), some (.int a), some (.int 1), some (.int (zI M (fR M 3 8) 8)), none, none, none] [.int (zI N9 (fR M 3 8) 9), .int (zI M (fR M 3 8) 8), .ref (fR M 3 8 + 4)] N9 v M' 0 0 := Ev.back 1 (gs_3 rfl rfl (gf_i hN9.1 a_t qi_28_9 rfl)) H
      rw [((show zI N9 (fR M 3 8) 9 = zI N7 (fR M 3 8) 9 from by rw [eN9]; exact fI_wI).trans (show zI N7 (fR M 3 8) 9 = zI N5 (fR M 3 8) 9 from by rw [eN7]; exact fI_wI)).trans (show zI N5 (fR M 3 8) 9 = zI M (fR M 3 8) 9 from by rw [eN5]; exact fI_wI)] at H
      obtain ⟨b10, H⟩ := Ev.ias rfl rfl hN9.1 (fx_g3 a_t) qw_32 H
      obtain ⟨N11, eN11⟩ : ∃ N, N = (wI N9 (fR M 3 8 + 4) ((zI M (fR M 3 8) 8).toNatClampNeg) (zI M (fR M 3 8) 9)) := ⟨_, rfl⟩
      have hN11 : SQ N11 := by rw [eN11]; exact hN9.ki
      have H : Ev none e 33 127 [some (.ref 3), some (.int a), some (.int 1), some (.int (zI M (fR M 3 8) 8)), none, none, none] [] N11 v M' 0 0 := by rw [eN11]; exact H
      have H : Ev none e 33 128 [some (.ref 3), some (.int a), some (.int 1), some (.int (zI M (fR M 3 8) 8)), none, none, none] [.ref 3] N11 v M' 0 0 := Ev.back 1 (fun n => rfl) H
      have H : Ev none e 33 131 [some (.ref 3), some (.int a), some (.int 1), some (.int (zI M (fR M 3 8) 8)), none, none, none] [.ref (fR N11 3 8)] N11 v M' 0 0 := Ev.back 1 (gs_3 rfl rfl (gf_n hN11.1 qa_3 qn_3_8 (by decide) (by rw [(((show fR N11 3 8 = fR N9 3 8 from by rw [eN11]; exact fR_wI).trans (show fR N9 3 8 = fR N7 3 8 from by rw [eN9]; exact fR_wI)).trans (show fR N7 3 8 = fR N5 3 8 from by rw [eN7]; exact fR_wI)).trans (show fR N5 3 8 = fR M 3 8 from by rw [eN5]; exact fR_wI)]; exact a_t) rfl)) H
      rw [(((show fR N11 3 8 = fR N9 3 8 from by rw [eN11]; exact fR_wI).trans (show fR N9 3 8 = fR N7 3 8 from by rw [eN9]; exact fR_wI)).trans (show fR N7 3 8 = fR N5 3 8 from by rw [eN7]; exact fR_wI)).trans (show fR N5 3 8 = fR M 3 8 from by rw [eN5]; exact fR_wI)] at H
      have H : Ev none e 33 134 [some (.ref 3), some (.int a), some (.int 1), some (.int (zI M (fR M 3 8) 8)), none, none, none] [.ref (fR M 3 8 + 5)] N11 v M' 0 0 := Ev.back 1 (gs_3 rfl rfl (gf_x hN11.1 a_t qo_28 (fx_t4 hN11 a_t) rfl)) H
      have H : Ev none e 33 136 [some (.ref 3), some (.int a), some (.int 1), some (.int (zI M (fR M 3 8) 8)), none, none, none] [.ref 3, .int (zI M (fR M 3 8) 8), .ref (fR M 3 8 + 5)] N11 v M' 0 0 := Ev.back 2 (fun n => rfl) H
      have H : Ev none e 33 139 [some (.ref 3), some (.int a), some (.int 1), some (.int (zI M (fR M 3 8) 8)), none, none, none] [.ref (fR N11 3 8), .int (zI M (fR M 3 8) 8), .ref (fR M 3 8 + 5)] N11 v M' 0 0 := Ev.back 1 (gs_3 rfl rfl (gf_n hN11.1 qa_3 qn_3_8 (by decide) (by rw [(((show fR N11 3 8 = fR N9 3 8 from by rw [eN11]; exact fR_wI).trans (show fR N9 3 8 = fR N7 3 8 from by rw [eN9]; exact fR_wI)).trans (show fR N7 3 8 = fR N5 3 8 from by rw [eN7]; exact fR_wI)).trans (show fR N5 3 8 = fR M 3 8 from by rw [eN5]; exact fR_wI)]; exact a_t) rfl)) H
      rw [(((show fR N11 3 8 = fR N9 3 8 from by rw [eN11]; exact fR_wI).trans (show fR N9 3 8 = fR N7 3 8 from by rw [eN9]; exact fR_wI)).trans (show fR N7 3 8 = fR N5 3 8 from by rw [eN7]; exact fR_wI)).trans (show fR N5 3 8 = fR M 3 8 from by rw [eN5]; exact fR_wI)] at H
      have H : Ev none e 33 142 [some (.ref 3), some (.int a), some (.int 1), some (.int (zI M (fR M 3 8) 8)), none, none, none] [.int (zI N11 (fR M 3 8) 9), .int (zI M (fR M 3 8) 8), .ref (fR M 3 8 + 5)] N11 v M' 0 0 := Ev.back 1 (gs_3 rfl rfl (gf_i hN11.1 a_t qi_28_9 rfl)) H
      rw [(((show zI N11 (fR M 3 8) 9 = zI N9 (fR M 3 8) 9 from by rw [eN11]; exact fI_wI).trans (show zI N9 (fR M 3 8) 9 = zI N7 (fR M 3 8) 9 from by rw [eN9]; exact fI_wI)).trans (show zI N7 (fR M 3 8) 9 = zI N5 (fR M 3 8) 9 from by rw [eN7]; exact fI_wI)).trans (show zI N5 (fR M 3 8) 9 = zI M (fR M 3 8) 9 from by rw [eN5]; exact fI_wI)] at H
      obtain ⟨b12, H⟩ := Ev.ias rfl rfl hN11.1 (fx_g4 a_t) qw_33 H
      obtain ⟨N13, eN13⟩ : ∃ N, N = (wI N11 (fR M 3 8 + 5) ((zI M (fR M 3 8) 8).toNatClampNeg) (zI M (fR M 3 8) 9)) := ⟨_, rfl⟩
      have hN13 : SQ N13 := by rw [eN13]; exact hN11.ki
      have H : Ev none e 33 143 [some (.ref 3), some (.int a), some (.int 1), some (.int (zI M (fR M 3 8) 8)), none, none, none] [] N13 v M' 0 0 := by rw [eN13]; exact H
      have H : Ev none e 33 144 [some (.ref 3), some (.int a), some (.int 1), some (.int (zI M (fR M 3 8) 8)), none, none, none] [.ref 3] N13 v M' 0 0 := Ev.back 1 (fun n => rfl) H
      obtain ⟨e1, rfl⟩ := Ev.dpos rfl rfl H
      obtain ⟨vK14, MK14, K14, H⟩ := Ev.callb (fun n => gs_7 rfl rfl (show gCal (.invokevirtual 140) 3 (.ref 3 :: []) N13 = some (.inr (31, [some (.ref 3)], [])) from by show @cond (Option ((List Value × Mem) ⊕ (Nat × Lo × List Value))) (true && gRecv N13 (.ref 3) 3 && gRoom [] && true) (some (.inr (31, [some (.ref 3)], []))) none = _; rw [recv_s hN13.1 qa_3 qo_3]; rfl)) H
      have K14 : Ev none e1 31 0 [some (.ref 3)] [] N13 vK14 MK14 0 0 := K14
      have HF := H
      subst eN5 eN7 eN9 eN11 eN13
      exact Or.inr (Or.inl ⟨h1, h3, b4, b6, b8, b10, b12, ⟨e1, vK14, MK14, rfl, K14, HF⟩⟩)
    · rw [if_neg h3] at H
      have H : Ev none e 33 69 [some (.ref 3), some (.int a), some (.int 1), none, none, none, none] [.int 3, .ref 3] M v M' 0 0 := Ev.back 2 (fun n => rfl) H
      obtain ⟨e1, rfl⟩ := Ev.dpos rfl rfl H
      obtain ⟨vK15, MK15, K15, H⟩ := Ev.callb (fun n => gs_7 rfl rfl (show gCal (.invokevirtual 68) 3 (.int 3 :: .ref 3 :: []) M = some (.inr (27, [some (.ref 3), some (.int 3)], [])) from by show @cond (Option ((List Value × Mem) ⊕ (Nat × Lo × List Value))) (true && gRecv M (.ref 3) 3 && gRoom [] && true) (some (.inr (27, [some (.ref 3), some (.int 3)], []))) none = _; rw [recv_s hS.1 qa_3 qo_3]; rfl)) H
      have K15 : Ev none e1 27 0 [some (.ref 3), some (.int 3)] [] M vK15 MK15 0 0 := K15
      have HF := H
      exact Or.inr (Or.inr (⟨h1, h3, ⟨e1, vK15, MK15, rfl, K15, HF⟩⟩))
theorem ln1_72 {e : Nat} {M M' : Mem} {v : Option Value} {a y : Int32} (hS : SQ M) (a_t : gNth sT (fR M 3 8) = some 28) (H : Ev none e 33 72 [some (.ref 3), some (.int a), some (.int 1), none, none, none, none] [.int y] M v M' 0 0) : v = some (.int y) ∧ M' = M := by
  obtain ⟨z1, z2⟩ := Ev.retz rfl rfl H
  exact ⟨z1, z2⟩
theorem ln1_147 {e : Nat} {M M' : Mem} {v : Option Value} {a i : Int32} (hS : SQ M) (a_t : gNth sT (fR M 3 8) = some 28) (H : Ev none e 33 147 [some (.ref 3), some (.int a), some (.int 1), some (.int i), none, none, none] [] M v M' 0 0) : (∃ e1 v1 M1, e = e1 + 1 ∧ Ev none e1 35 0 [some (.ref 3), some (.int i), some (.int 1), none, none, none] [] M v1 M1 0 0 ∧ Ev none e 33 175 [some (.ref 3), some (.int a), some (.int 1), some (.int i), none, none, none] (v1.toList ++ []) M1 v M' 0 0) := by
  have H : Ev none e 33 (if 1 = 6 then 178 else 153) [some (.ref 3), some (.int a), some (.int 1), some (.int i), none, none, none] [] M v M' 0 0 := Ev.back 3 (fun n => rfl) H
  rw [if_neg (by decide)] at H
  have H : Ev none e 33 (if 1 = 5 then 158 else 169) [some (.ref 3), some (.int a), some (.int 1), some (.int i), none, none, none] [] M v M' 0 0 := Ev.back 3 (fun n => rfl) H
  rw [if_neg (by decide)] at H
  have H : Ev none e 33 172 [some (.ref 3), some (.int a), some (.int 1), some (.int i), none, none, none] [.int 1, .int i, .ref 3] M v M' 0 0 := Ev.back 3 (fun n => rfl) H
  obtain ⟨e1, rfl⟩ := Ev.dpos rfl rfl H
  obtain ⟨vK1, MK1, K1, H⟩ := Ev.callb (fun n => gs_7 rfl rfl (show gCal (.invokevirtual 146) 3 (.int 1 :: .int i :: .ref 3 :: []) M = some (.inr (35, [some (.ref 3), some (.int i), some (.int 1), none, none, none], [])) from by show @cond (Option ((List Value × Mem) ⊕ (Nat × Lo × List Value))) (true && gRecv M (.ref 3) 3 && gRoom [] && true) (some (.inr (35, [some (.ref 3), some (.int i), some (.int 1), none, none, none], []))) none = _; rw [recv_s hS.1 qa_3 qo_3]; rfl)) H
  have K1 : Ev none e1 35 0 [some (.ref 3), some (.int i), some (.int 1), none, none, none] [] M vK1 MK1 0 0 := K1
  have HF := H
  exact ⟨e1, vK1, MK1, rfl, K1, HF⟩
theorem ln1_175 {e : Nat} {M M' : Mem} {v : Option Value} {a i y : Int32} (hS : SQ M) (a_t : gNth sT (fR M 3 8) = some 28) (H : Ev none e 33 175 [some (.ref 3), some (.int a), some (.int 1), some (.int i), none, none, none] [.int y] M v M' 0 0) : (y = 0 ∧ v = some (.int 0) ∧ M' = M) ∨ (¬ (y = 0) ∧ (∃ e1 v1 M1, e = e1 + 1 ∧ Ev none e1 32 0 [some (.ref 3), some (.retAddr 12), none, none, none, none, none, none] [] M v1 M1 0 0 ∧ Ev none e 33 224 [some (.ref 3), some (.int a), some (.int 1), some (.int i), some (.int 1), some (.int 1), none] (v1.toList ++ []) M1 v M' 0 0)) := by
  have H : Ev none e 33 (if y = 0 then 182 else 178) [some (.ref 3), some (.int a), some (.int 1), some (.int i), none, none, none] [] M v M' 0 0 := Ev.back 1 (fun n => rfl) H
  by_cases h1 : y = 0
  · rw [if_pos h1] at H
    have H : Ev none e 33 (if 0 = 0 then 190 else 192) [some (.ref 3), some (.int a), some (.int 1), some (.int i), some (.int 0), none, none] [] M v M' 0 0 := Ev.back 4 (fun n => rfl) H
    rw [if_pos (by decide)] at H
    have H : Ev none e 33 191 [some (.ref 3), some (.int a), some (.int 1), some (.int i), some (.int 0), none, none] [.int 0] M v M' 0 0 := Ev.back 1 (fun n => rfl) H
    obtain ⟨z1, z2⟩ := Ev.retz rfl rfl H
    exact Or.inl ⟨h1, z1, z2⟩
  · rw [if_neg h1] at H
    have H : Ev none e 33 (if 1 = 0 then 190 else 192) [some (.ref 3), some (.int a), some (.int 1), some (.int i), some (.int 1), none, none] [] M v M' 0 0 := Ev.back 5 (fun n => rfl) H
    rw [if_neg (by decide)] at H
    have H : Ev none e 33 (if 1 = 0 then 206 else 196) [some (.ref 3), some (.int a), some (.int 1), some (.int i), some (.int 1), none, none] [] M v M' 0 0 := Ev.back 2 (fun n => rfl) H
    rw [if_neg (by decide)] at H
    have H : Ev none e 33 (if 1 = 1 then 206 else 201) [some (.ref 3), some (.int a), some (.int 1), some (.int i), some (.int 1), none, none] [] M v M' 0 0 := Ev.back 3 (fun n => rfl) H
    rw [if_pos (by decide)] at H
    have H : Ev none e 33 (if 1 = 0 then 231 else 218) [some (.ref 3), some (.int a), some (.int 1), some (.int i), some (.int 1), some (.int 1), none] [] M v M' 0 0 := Ev.back 5 (fun n => rfl) H
    rw [if_neg (by decide)] at H
    have H : Ev none e 33 221 [some (.ref 3), some (.int a), some (.int 1), some (.int i), some (.int 1), some (.int 1), none] [.retAddr 12, .ref 3] M v M' 0 0 := Ev.back 2 (fun n => rfl) H
    obtain ⟨e1, rfl⟩ := Ev.dpos rfl rfl H
    obtain ⟨vK2, MK2, K2, H⟩ := Ev.callb (fun n => gs_7 rfl rfl (show gCal (.invokevirtual 115) 3 (.retAddr 12 :: .ref 3 :: []) M = some (.inr (32, [some (.ref 3), some (.retAddr 12), none, none, none, none, none, none], [])) from by show @cond (Option ((List Value × Mem) ⊕ (Nat × Lo × List Value))) (true && gRecv M (.ref 3) 3 && gRoom [] && true) (some (.inr (32, [some (.ref 3), some (.retAddr 12), none, none, none, none, none, none], []))) none = _; rw [recv_s hS.1 qa_3 qo_3]; rfl)) H
    have K2 : Ev none e1 32 0 [some (.ref 3), some (.retAddr 12), none, none, none, none, none, none] [] M vK2 MK2 0 0 := K2
    have HF := H
    exact Or.inr (⟨h1, ⟨e1, vK2, MK2, rfl, K2, HF⟩⟩)
theorem ln1_224 {e : Nat} {M M' : Mem} {v : Option Value} {a i y : Int32} (hS : SQ M) (a_t : gNth sT (fR M 3 8) = some 28) (H : Ev none e 33 224 [some (.ref 3), some (.int a), some (.int 1), some (.int i), some (.int 1), some (.int 1), none] [.int y] M v M' 0 0) : (y = 0 ∧ (∃ e1 v1 M1, e = e1 + 1 ∧ Ev none e1 31 0 [some (.ref 3)] [] M v1 M1 0 0 ∧ Ev none e 33 243 [some (.ref 3), some (.int a), some (.int 1), some (.int i), some (.int 1), some (.int 1), some (.int 1)] (v1.toList ++ []) M1 v M' 0 0)) ∨ (¬ (y = 0) ∧ (zI M 3 7) = 59 ∧ (∃ e1 v1 M1, e = e1 + 1 ∧ Ev none e1 31 0 [some (.ref 3)] [] M v1 M1 0 0 ∧ Ev none e 33 283 [some (.ref 3), some (.int a), some (.int 1), some (.int i), some (.int 1), some (.int 1), some (.int 0)] (v1.toList ++ []) M1 v M' 0 0)) ∨ (¬ (y = 0) ∧ ¬ ((zI M 3 7) = 59) ∧ (∃ e1 v1 M1, e = e1 + 1 ∧ Ev none e1 27 0 [some (.ref 3), some (.int 1)] [] M v1 M1 0 0 ∧ Ev none e 33 278 [some (.ref 3), some (.int a), some (.int 1), some (.int i), some (.int 1), some (.int 1), some (.int 0)] (v1.toList ++ []) M1 v M' 0 0)) := by
  have H : Ev none e 33 (if y = 0 then 227 else 231) [some (.ref 3), some (.int a), some (.int 1), some (.int i), some (.int 1), some (.int 1), none] [] M v M' 0 0 := Ev.back 1 (fun n => rfl) H
  by_cases h1 : y = 0
  · rw [if_pos h1] at H
    have H : Ev none e 33 (if 1 = 0 then 243 else 239) [some (.ref 3), some (.int a), some (.int 1), some (.int i), some (.int 1), some (.int 1), some (.int 1)] [] M v M' 0 0 := Ev.back 5 (fun n => rfl) H
    rw [if_neg (by decide)] at H
    have H : Ev none e 33 240 [some (.ref 3), some (.int a), some (.int 1), some (.int i), some (.int 1), some (.int 1), some (.int 1)] [.ref 3] M v M' 0 0 := Ev.back 1 (fun n => rfl) H
    obtain ⟨e1, rfl⟩ := Ev.dpos rfl rfl H
    obtain ⟨vK2, MK2, K2, H⟩ := Ev.callb (fun n => gs_7 rfl rfl (show gCal (.invokevirtual 140) 3 (.ref 3 :: []) M = some (.inr (31, [some (.ref 3)], [])) from by show @cond (Option ((List Value × Mem) ⊕ (Nat × Lo × List Value))) (true && gRecv M (.ref 3) 3 && gRoom [] && true) (some (.inr (31, [some (.ref 3)], []))) none = _; rw [recv_s hS.1 qa_3 qo_3]; rfl)) H
    have K2 : Ev none e1 31 0 [some (.ref 3)] [] M vK2 MK2 0 0 := K2
    have HF := H
    exact Or.inl ⟨h1, ⟨e1, vK2, MK2, rfl, K2, HF⟩⟩
  · rw [if_neg h1] at H
    have H : Ev none e 33 (if 0 = 0 then 243 else 239) [some (.ref 3), some (.int a), some (.int 1), some (.int i), some (.int 1), some (.int 1), some (.int 0)] [] M v M' 0 0 := Ev.back 4 (fun n => rfl) H
    rw [if_pos (by decide)] at H
    have H : Ev none e 33 (if 0 = 0 then 248 else 254) [some (.ref 3), some (.int a), some (.int 1), some (.int i), some (.int 1), some (.int 1), some (.int 0)] [] M v M' 0 0 := Ev.back 2 (fun n => rfl) H
    rw [if_pos (by decide)] at H
    have H : Ev none e 33 (if 1 = 6 then 254 else 264) [some (.ref 3), some (.int a), some (.int 1), some (.int i), some (.int 1), some (.int 1), some (.int 0)] [] M v M' 0 0 := Ev.back 3 (fun n => rfl) H
    rw [if_neg (by decide)] at H
    have H : Ev none e 33 265 [some (.ref 3), some (.int a), some (.int 1), some (.int i), some (.int 1), some (.int 1), some (.int 0)] [.ref 3] M v M' 0 0 := Ev.back 1 (fun n => rfl) H
    have H : Ev none e 33 268 [some (.ref 3), some (.int a), some (.int 1), some (.int i), some (.int 1), some (.int 1), some (.int 0)] [.int (zI M 3 7)] M v M' 0 0 := Ev.back 1 (gs_3 rfl rfl (gf_i hS.1 qa_3 qi_3_7 rfl)) H
    have H : Ev none e 33 (if (zI M 3 7) = 59 then 279 else 273) [some (.ref 3), some (.int a), some (.int 1), some (.int i), some (.int 1), some (.int 1), some (.int 0)] [] M v M' 0 0 := Ev.back 2 (fun n => rfl) H
    by_cases h3 : (zI M 3 7) = 59
    · rw [if_pos h3] at H
      have H : Ev none e 33 280 [some (.ref 3), some (.int a), some (.int 1), some (.int i), some (.int 1), some (.int 1), some (.int 0)] [.ref 3] M v M' 0 0 := Ev.back 1 (fun n => rfl) H
      obtain ⟨e1, rfl⟩ := Ev.dpos rfl rfl H
      obtain ⟨vK4, MK4, K4, H⟩ := Ev.callb (fun n => gs_7 rfl rfl (show gCal (.invokevirtual 140) 3 (.ref 3 :: []) M = some (.inr (31, [some (.ref 3)], [])) from by show @cond (Option ((List Value × Mem) ⊕ (Nat × Lo × List Value))) (true && gRecv M (.ref 3) 3 && gRoom [] && true) (some (.inr (31, [some (.ref 3)], []))) none = _; rw [recv_s hS.1 qa_3 qo_3]; rfl)) H
      have K4 : Ev none e1 31 0 [some (.ref 3)] [] M vK4 MK4 0 0 := K4
      have HF := H
      exact Or.inr (Or.inl ⟨h1, h3, ⟨e1, vK4, MK4, rfl, K4, HF⟩⟩)
    · rw [if_neg h3] at H
      have H : Ev none e 33 275 [some (.ref 3), some (.int a), some (.int 1), some (.int i), some (.int 1), some (.int 1), some (.int 0)] [.int 1, .ref 3] M v M' 0 0 := Ev.back 2 (fun n => rfl) H
      obtain ⟨e1, rfl⟩ := Ev.dpos rfl rfl H
      obtain ⟨vK5, MK5, K5, H⟩ := Ev.callb (fun n => gs_7 rfl rfl (show gCal (.invokevirtual 68) 3 (.int 1 :: .ref 3 :: []) M = some (.inr (27, [some (.ref 3), some (.int 1)], [])) from by show @cond (Option ((List Value × Mem) ⊕ (Nat × Lo × List Value))) (true && gRecv M (.ref 3) 3 && gRoom [] && true) (some (.inr (27, [some (.ref 3), some (.int 1)], []))) none = _; rw [recv_s hS.1 qa_3 qo_3]; rfl)) H
      have K5 : Ev none e1 27 0 [some (.ref 3), some (.int 1)] [] M vK5 MK5 0 0 := K5
      have HF := H
      exact Or.inr (Or.inr (⟨h1, h3, ⟨e1, vK5, MK5, rfl, K5, HF⟩⟩))
theorem ln1_243 {e : Nat} {M M' : Mem} {v : Option Value} {a i : Int32} (hS : SQ M) (a_t : gNth sT (fR M 3 8) = some 28) (H : Ev none e 33 243 [some (.ref 3), some (.int a), some (.int 1), some (.int i), some (.int 1), some (.int 1), some (.int 1)] [] M v M' 0 0) : (∃ e1 v1 M1, e = e1 + 1 ∧ Ev none e1 36 0 [some (.ref 3), some (.int 1), none] [] M v1 M1 0 0 ∧ Ev none e 33 259 [some (.ref 3), some (.int a), some (.int 1), some (.int i), some (.int 1), some (.int 1), some (.int 1)] (v1.toList ++ []) M1 v M' 0 0) := by
  have H : Ev none e 33 (if 1 = 0 then 248 else 254) [some (.ref 3), some (.int a), some (.int 1), some (.int i), some (.int 1), some (.int 1), some (.int 1)] [] M v M' 0 0 := Ev.back 2 (fun n => rfl) H
  rw [if_neg (by decide)] at H
  have H : Ev none e 33 256 [some (.ref 3), some (.int a), some (.int 1), some (.int i), some (.int 1), some (.int 1), some (.int 1)] [.int 1, .ref 3] M v M' 0 0 := Ev.back 2 (fun n => rfl) H
  obtain ⟨e1, rfl⟩ := Ev.dpos rfl rfl H
  obtain ⟨vK1, MK1, K1, H⟩ := Ev.callb (fun n => gs_7 rfl rfl (show gCal (.invokevirtual 152) 3 (.int 1 :: .ref 3 :: []) M = some (.inr (36, [some (.ref 3), some (.int 1), none], [])) from by show @cond (Option ((List Value × Mem) ⊕ (Nat × Lo × List Value))) (true && gRecv M (.ref 3) 3 && gRoom [] && true) (some (.inr (36, [some (.ref 3), some (.int 1), none], []))) none = _; rw [recv_s hS.1 qa_3 qo_3]; rfl)) H
  have K1 : Ev none e1 36 0 [some (.ref 3), some (.int 1), none] [] M vK1 MK1 0 0 := K1
  have HF := H
  exact ⟨e1, vK1, MK1, rfl, K1, HF⟩
theorem ln1_259 {e : Nat} {M M' : Mem} {v : Option Value} {a i y : Int32} (hS : SQ M) (a_t : gNth sT (fR M 3 8) = some 28) (H : Ev none e 33 259 [some (.ref 3), some (.int a), some (.int 1), some (.int i), some (.int 1), some (.int 1), some (.int 1)] [.int y] M v M' 0 0) : (y = 0 ∧ v = some (.int 0) ∧ M' = M) ∨ (¬ (y = 0) ∧ (zI M 3 7) = 59 ∧ (∃ e1 v1 M1, e = e1 + 1 ∧ Ev none e1 31 0 [some (.ref 3)] [] M v1 M1 0 0 ∧ Ev none e 33 283 [some (.ref 3), some (.int a), some (.int 1), some (.int i), some (.int 1), some (.int 1), some (.int 1)] (v1.toList ++ []) M1 v M' 0 0)) ∨ (¬ (y = 0) ∧ ¬ ((zI M 3 7) = 59) ∧ (∃ e1 v1 M1, e = e1 + 1 ∧ Ev none e1 27 0 [some (.ref 3), some (.int 1)] [] M v1 M1 0 0 ∧ Ev none e 33 278 [some (.ref 3), some (.int a), some (.int 1), some (.int i), some (.int 1), some (.int 1), some (.int 1)] (v1.toList ++ []) M1 v M' 0 0)) := by
  have H : Ev none e 33 (if y = 0 then 262 else 264) [some (.ref 3), some (.int a), some (.int 1), some (.int i), some (.int 1), some (.int 1), some (.int 1)] [] M v M' 0 0 := Ev.back 1 (fun n => rfl) H
  by_cases h1 : y = 0
  · rw [if_pos h1] at H
    have H : Ev none e 33 263 [some (.ref 3), some (.int a), some (.int 1), some (.int i), some (.int 1), some (.int 1), some (.int 1)] [.int 0] M v M' 0 0 := Ev.back 1 (fun n => rfl) H
    obtain ⟨z1, z2⟩ := Ev.retz rfl rfl H
    exact Or.inl ⟨h1, z1, z2⟩
  · rw [if_neg h1] at H
    have H : Ev none e 33 265 [some (.ref 3), some (.int a), some (.int 1), some (.int i), some (.int 1), some (.int 1), some (.int 1)] [.ref 3] M v M' 0 0 := Ev.back 1 (fun n => rfl) H
    have H : Ev none e 33 268 [some (.ref 3), some (.int a), some (.int 1), some (.int i), some (.int 1), some (.int 1), some (.int 1)] [.int (zI M 3 7)] M v M' 0 0 := Ev.back 1 (gs_3 rfl rfl (gf_i hS.1 qa_3 qi_3_7 rfl)) H
    have H : Ev none e 33 (if (zI M 3 7) = 59 then 279 else 273) [some (.ref 3), some (.int a), some (.int 1), some (.int i), some (.int 1), some (.int 1), some (.int 1)] [] M v M' 0 0 := Ev.back 2 (fun n => rfl) H
    by_cases h2 : (zI M 3 7) = 59
    · rw [if_pos h2] at H
      have H : Ev none e 33 280 [some (.ref 3), some (.int a), some (.int 1), some (.int i), some (.int 1), some (.int 1), some (.int 1)] [.ref 3] M v M' 0 0 := Ev.back 1 (fun n => rfl) H
      obtain ⟨e1, rfl⟩ := Ev.dpos rfl rfl H
      obtain ⟨vK3, MK3, K3, H⟩ := Ev.callb (fun n => gs_7 rfl rfl (show gCal (.invokevirtual 140) 3 (.ref 3 :: []) M = some (.inr (31, [some (.ref 3)], [])) from by show @cond (Option ((List Value × Mem) ⊕ (Nat × Lo × List Value))) (true && gRecv M (.ref 3) 3 && gRoom [] && true) (some (.inr (31, [some (.ref 3)], []))) none = _; rw [recv_s hS.1 qa_3 qo_3]; rfl)) H
      have K3 : Ev none e1 31 0 [some (.ref 3)] [] M vK3 MK3 0 0 := K3
      have HF := H
      exact Or.inr (Or.inl ⟨h1, h2, ⟨e1, vK3, MK3, rfl, K3, HF⟩⟩)
    · rw [if_neg h2] at H
      have H : Ev none e 33 275 [some (.ref 3), some (.int a), some (.int 1), some (.int i), some (.int 1), some (.int 1), some (.int 1)] [.int 1, .ref 3] M v M' 0 0 := Ev.back 2 (fun n => rfl) H
      obtain ⟨e1, rfl⟩ := Ev.dpos rfl rfl H
      obtain ⟨vK4, MK4, K4, H⟩ := Ev.callb (fun n => gs_7 rfl rfl (show gCal (.invokevirtual 68) 3 (.int 1 :: .ref 3 :: []) M = some (.inr (27, [some (.ref 3), some (.int 1)], [])) from by show @cond (Option ((List Value × Mem) ⊕ (Nat × Lo × List Value))) (true && gRecv M (.ref 3) 3 && gRoom [] && true) (some (.inr (27, [some (.ref 3), some (.int 1)], []))) none = _; rw [recv_s hS.1 qa_3 qo_3]; rfl)) H
      have K4 : Ev none e1 27 0 [some (.ref 3), some (.int 1)] [] M vK4 MK4 0 0 := K4
      have HF := H
      exact Or.inr (Or.inr (⟨h1, h2, ⟨e1, vK4, MK4, rfl, K4, HF⟩⟩))
theorem ln1_278 {e : Nat} {M M' : Mem} {v : Option Value} {a i y : Int32} {c5 c6 : Option Value} (hS : SQ M) (a_t : gNth sT (fR M 3 8) = some 28) (H : Ev none e 33 278 [some (.ref 3), some (.int a), some (.int 1), some (.int i), some (.int 1), c5, c6] [.int y] M v M' 0 0) : v = some (.int y) ∧ M' = M := by
  obtain ⟨z1, z2⟩ := Ev.retz rfl rfl H
  exact ⟨z1, z2⟩
theorem ln1_283 {e : Nat} {M M' : Mem} {v : Option Value} {a i : Int32} {c5 c6 : Option Value} (hS : SQ M) (a_t : gNth sT (fR M 3 8) = some 28) (H : Ev none e 33 283 [some (.ref 3), some (.int a), some (.int 1), some (.int i), some (.int 1), c5, c6] [] M v M' 0 0) : (0 ≤ i.toInt ∧ i.toInt < 16) ∧ v = some (.int 1) ∧ M' = (wF (wI M (fR M 3 8 + 5) i.toNatClampNeg (zI M (fR M 3 8) 9)) (fR M 3 8) 8 ((zI M (fR M 3 8) 8) + 1)) := by
  have H : Ev none e 33 284 [some (.ref 3), some (.int a), some (.int 1), some (.int i), some (.int 1), c5, c6] [.ref 3] M v M' 0 0 := Ev.back 1 (fun n => rfl) H
  have H : Ev none e 33 287 [some (.ref 3), some (.int a), some (.int 1), some (.int i), some (.int 1), c5, c6] [.ref (fR M 3 8)] M v M' 0 0 := Ev.back 1 (gs_3 rfl rfl (gf_n hS.1 qa_3 qn_3_8 (by decide) a_t rfl)) H
  have H : Ev none e 33 290 [some (.ref 3), some (.int a), some (.int 1), some (.int i), some (.int 1), c5, c6] [.ref (fR M 3 8 + 5)] M v M' 0 0 := Ev.back 1 (gs_3 rfl rfl (gf_x hS.1 a_t qo_28 (fx_t4 hS a_t) rfl)) H
  have H : Ev none e 33 292 [some (.ref 3), some (.int a), some (.int 1), some (.int i), some (.int 1), c5, c6] [.ref 3, .int i, .ref (fR M 3 8 + 5)] M v M' 0 0 := Ev.back 2 (fun n => rfl) H
  have H : Ev none e 33 295 [some (.ref 3), some (.int a), some (.int 1), some (.int i), some (.int 1), c5, c6] [.ref (fR M 3 8), .int i, .ref (fR M 3 8 + 5)] M v M' 0 0 := Ev.back 1 (gs_3 rfl rfl (gf_n hS.1 qa_3 qn_3_8 (by decide) a_t rfl)) H
  have H : Ev none e 33 298 [some (.ref 3), some (.int a), some (.int 1), some (.int i), some (.int 1), c5, c6] [.int (zI M (fR M 3 8) 9), .int i, .ref (fR M 3 8 + 5)] M v M' 0 0 := Ev.back 1 (gs_3 rfl rfl (gf_i hS.1 a_t qi_28_9 rfl)) H
  obtain ⟨b1, H⟩ := Ev.ias rfl rfl hS.1 (fx_g4 a_t) qw_33 H
  obtain ⟨N2, eN2⟩ : ∃ N, N = (wI M (fR M 3 8 + 5) i.toNatClampNeg (zI M (fR M 3 8) 9)) := ⟨_, rfl⟩
  have hN2 : SQ N2 := by rw [eN2]; exact hS.ki
  have H : Ev none e 33 299 [some (.ref 3), some (.int a), some (.int 1), some (.int i), some (.int 1), c5, c6] [] N2 v M' 0 0 := by rw [eN2]; exact H
  have H : Ev none e 33 300 [some (.ref 3), some (.int a), some (.int 1), some (.int i), some (.int 1), c5, c6] [.ref 3] N2 v M' 0 0 := Ev.back 1 (fun n => rfl) H
  have H : Ev none e 33 303 [some (.ref 3), some (.int a), some (.int 1), some (.int i), some (.int 1), c5, c6] [.ref (fR N2 3 8)] N2 v M' 0 0 := Ev.back 1 (gs_3 rfl rfl (gf_n hN2.1 qa_3 qn_3_8 (by decide) (by rw [show fR N2 3 8 = fR M 3 8 from by rw [eN2]; exact fR_wI]; exact a_t) rfl)) H
  rw [show fR N2 3 8 = fR M 3 8 from by rw [eN2]; exact fR_wI] at H
  have H : Ev none e 33 304 [some (.ref 3), some (.int a), some (.int 1), some (.int i), some (.int 1), c5, c6] [.ref (fR M 3 8), .ref (fR M 3 8)] N2 v M' 0 0 := Ev.back 1 (fun n => rfl) H
  have H : Ev none e 33 307 [some (.ref 3), some (.int a), some (.int 1), some (.int i), some (.int 1), c5, c6] [.int (zI N2 (fR M 3 8) 8), .ref (fR M 3 8)] N2 v M' 0 0 := Ev.back 1 (gs_3 rfl rfl (gf_i hN2.1 a_t qi_28_8 rfl)) H
  rw [show zI N2 (fR M 3 8) 8 = zI M (fR M 3 8) 8 from by rw [eN2]; exact fI_wI] at H
  have H : Ev none e 33 309 [some (.ref 3), some (.int a), some (.int 1), some (.int i), some (.int 1), c5, c6] [.int ((zI M (fR M 3 8) 8) + 1), .ref (fR M 3 8)] N2 v M' 0 0 := Ev.back 2 (fun n => rfl) H
  obtain ⟨N4, eN4⟩ : ∃ N, N = (wF N2 (fR M 3 8) 8 ((zI M (fR M 3 8) 8) + 1)) := ⟨_, rfl⟩
  have hN4 : SQ N4 := by rw [eN4]; exact hN2.kf
  have H : Ev none e 33 312 [some (.ref 3), some (.int a), some (.int 1), some (.int i), some (.int 1), c5, c6] [] N4 v M' 0 0 := by rw [eN4]; exact Ev.pfi rfl rfl rfl hN2.1 a_t qi_28_8 H
  have H : Ev none e 33 313 [some (.ref 3), some (.int a), some (.int 1), some (.int i), some (.int 1), c5, c6] [.int 1] N4 v M' 0 0 := Ev.back 1 (fun n => rfl) H
  obtain ⟨z1, z2⟩ := Ev.retz rfl rfl H
  subst eN2 eN4
  exact ⟨b1, z1, z2⟩
theorem ln2_44 {e : Nat} {M M' : Mem} {v : Option Value} {a : Int32} (hS : SQ M) (a_t : gNth sT (fR M 3 8) = some 28) (H : Ev none e 33 44 [some (.ref 3), some (.int a), some (.int 2), none, none, none, none] [] M v M' 0 0) : (16 ≤ (zI M (fR M 3 8) 8) ∧ (∃ e1 v1 M1, e = e1 + 1 ∧ Ev none e1 27 0 [some (.ref 3), some (.int 3)] [] M v1 M1 0 0 ∧ Ev none e 33 72 [some (.ref 3), some (.int a), some (.int 2), none, none, none, none] (v1.toList ++ []) M1 v M' 0 0)) ∨ (¬ (16 ≤ (zI M (fR M 3 8) 8)) ∧ ((zI M 3 10) &&& ((1 : Int32) <<< ((2 : Int32) &&& 31))) = 0 ∧ (0 ≤ (zI M (fR M 3 8) 8).toInt ∧ (zI M (fR M 3 8) 8).toInt < 16) ∧ (0 ≤ (zI M (fR M 3 8) 8).toInt ∧ (zI M (fR M 3 8) 8).toInt < 16) ∧ (0 ≤ (zI M (fR M 3 8) 8).toInt ∧ (zI M (fR M 3 8) 8).toInt < 16) ∧ (0 ≤ (zI M (fR M 3 8) 8).toInt ∧ (zI M (fR M 3 8) 8).toInt < 16) ∧ (0 ≤ (zI M (fR M 3 8) 8).toInt ∧ (zI M (fR M 3 8) 8).toInt < 16) ∧ (∃ e1 v1 M1, e = e1 + 1 ∧ Ev none e1 31 0 [some (.ref 3)] [] (wI (wI (wI (wI (wI M (fR M 3 8 + 1) ((zI M (fR M 3 8) 8).toNatClampNeg) 2) (fR M 3 8 + 2) ((zI M (fR M 3 8) 8).toNatClampNeg) 0) (fR M 3 8 + 3) ((zI M (fR M 3 8) 8).toNatClampNeg) 0) (fR M 3 8 + 4) ((zI M (fR M 3 8) 8).toNatClampNeg) (zI M (fR M 3 8) 9)) (fR M 3 8 + 5) ((zI M (fR M 3 8) 8).toNatClampNeg) (zI M (fR M 3 8) 9)) v1 M1 0 0 ∧ Ev none e 33 147 [some (.ref 3), some (.int a), some (.int 2), some (.int (zI M (fR M 3 8) 8)), none, none, none] (v1.toList ++ []) M1 v M' 0 0)) ∨ (¬ (16 ≤ (zI M (fR M 3 8) 8)) ∧ ¬ (((zI M 3 10) &&& ((1 : Int32) <<< ((2 : Int32) &&& 31))) = 0) ∧ (∃ e1 v1 M1, e = e1 + 1 ∧ Ev none e1 27 0 [some (.ref 3), some (.int 3)] [] M v1 M1 0 0 ∧ Ev none e 33 72 [some (.ref 3), some (.int a), some (.int 2), none, none, none, none] (v1.toList ++ []) M1 v M' 0 0)) := by
  have H : Ev none e 33 45 [some (.ref 3), some (.int a), some (.int 2), none, none, none, none] [.ref 3] M v M' 0 0 := Ev.back 1 (fun n => rfl) H
  have H : Ev none e 33 48 [some (.ref 3), some (.int a), some (.int 2), none, none, none, none] [.ref (fR M 3 8)] M v M' 0 0 := Ev.back 1 (gs_3 rfl rfl (gf_n hS.1 qa_3 qn_3_8 (by decide) a_t rfl)) H
  have H : Ev none e 33 51 [some (.ref 3), some (.int a), some (.int 2), none, none, none, none] [.int (zI M (fR M 3 8) 8)] M v M' 0 0 := Ev.back 1 (gs_3 rfl rfl (gf_i hS.1 a_t qi_28_8 rfl)) H
  have H : Ev none e 33 (if 16 ≤ (zI M (fR M 3 8) 8) then 67 else 56) [some (.ref 3), some (.int a), some (.int 2), none, none, none, none] [] M v M' 0 0 := Ev.back 2 (fun n => rfl) H
  by_cases h1 : 16 ≤ (zI M (fR M 3 8) 8)
  · rw [if_pos h1] at H
    have H : Ev none e 33 69 [some (.ref 3), some (.int a), some (.int 2), none, none, none, none] [.int 3, .ref 3] M v M' 0 0 := Ev.back 2 (fun n => rfl) H
    obtain ⟨e1, rfl⟩ := Ev.dpos rfl rfl H
    obtain ⟨vK2, MK2, K2, H⟩ := Ev.callb (fun n => gs_7 rfl rfl (show gCal (.invokevirtual 68) 3 (.int 3 :: .ref 3 :: []) M = some (.inr (27, [some (.ref 3), some (.int 3)], [])) from by show @cond (Option ((List Value × Mem) ⊕ (Nat × Lo × List Value))) (true && gRecv M (.ref 3) 3 && gRoom [] && true) (some (.inr (27, [some (.ref 3), some (.int 3)], []))) none = _; rw [recv_s hS.1 qa_3 qo_3]; rfl)) H
    have K2 : Ev none e1 27 0 [some (.ref 3), some (.int 3)] [] M vK2 MK2 0 0 := K2
    have HF := H
    exact Or.inl ⟨h1, ⟨e1, vK2, MK2, rfl, K2, HF⟩⟩
  · rw [if_neg h1] at H
    have H : Ev none e 33 57 [some (.ref 3), some (.int a), some (.int 2), none, none, none, none] [.ref 3] M v M' 0 0 := Ev.back 1 (fun n => rfl) H
    have H : Ev none e 33 60 [some (.ref 3), some (.int a), some (.int 2), none, none, none, none] [.int (zI M 3 10)] M v M' 0 0 := Ev.back 1 (gs_3 rfl rfl (gf_i hS.1 qa_3 qi_3_10 rfl)) H
    have H : Ev none e 33 (if ((zI M 3 10) &&& ((1 : Int32) <<< ((2 : Int32) &&& 31))) = 0 then 73 else 67) [some (.ref 3), some (.int a), some (.int 2), none, none, none, none] [] M v M' 0 0 := Ev.back 5 (fun n => rfl) H
    by_cases h3 : ((zI M 3 10) &&& ((1 : Int32) <<< ((2 : Int32) &&& 31))) = 0
    · rw [if_pos h3] at H
      have H : Ev none e 33 74 [some (.ref 3), some (.int a), some (.int 2), none, none, none, none] [.ref 3] M v M' 0 0 := Ev.back 1 (fun n => rfl) H
      have H : Ev none e 33 77 [some (.ref 3), some (.int a), some (.int 2), none, none, none, none] [.ref (fR M 3 8)] M v M' 0 0 := Ev.back 1 (gs_3 rfl rfl (gf_n hS.1 qa_3 qn_3_8 (by decide) a_t rfl)) H
      have H : Ev none e 33 80 [some (.ref 3), some (.int a), some (.int 2), none, none, none, none] [.int (zI M (fR M 3 8) 8)] M v M' 0 0 := Ev.back 1 (gs_3 rfl rfl (gf_i hS.1 a_t qi_28_8 rfl)) H
      have H : Ev none e 33 82 [some (.ref 3), some (.int a), some (.int 2), some (.int (zI M (fR M 3 8) 8)), none, none, none] [.ref 3] M v M' 0 0 := Ev.back 2 (fun n => rfl) H
      have H : Ev none e 33 85 [some (.ref 3), some (.int a), some (.int 2), some (.int (zI M (fR M 3 8) 8)), none, none, none] [.ref (fR M 3 8)] M v M' 0 0 := Ev.back 1 (gs_3 rfl rfl (gf_n hS.1 qa_3 qn_3_8 (by decide) a_t rfl)) H
      have H : Ev none e 33 88 [some (.ref 3), some (.int a), some (.int 2), some (.int (zI M (fR M 3 8) 8)), none, none, none] [.ref (fR M 3 8 + 1)] M v M' 0 0 := Ev.back 1 (gs_3 rfl rfl (gf_x hS.1 a_t qo_28 (fx_t0 hS a_t) rfl)) H
      have H : Ev none e 33 90 [some (.ref 3), some (.int a), some (.int 2), some (.int (zI M (fR M 3 8) 8)), none, none, none] [.int 2, .int (zI M (fR M 3 8) 8), .ref (fR M 3 8 + 1)] M v M' 0 0 := Ev.back 2 (fun n => rfl) H
      obtain ⟨b4, H⟩ := Ev.ias rfl rfl hS.1 (fx_g0 a_t) qw_29 H
      obtain ⟨N5, eN5⟩ : ∃ N, N = (wI M (fR M 3 8 + 1) ((zI M (fR M 3 8) 8).toNatClampNeg) 2) := ⟨_, rfl⟩
      have hN5 : SQ N5 := by rw [eN5]; exact hS.ki
      have H : Ev none e 33 91 [some (.ref 3), some (.int a), some (.int 2), some (.int (zI M (fR M 3 8) 8)), none, none, none] [] N5 v M' 0 0 := by rw [eN5]; exact H
      have H : Ev none e 33 92 [some (.ref 3), some (.int a), some (.int 2), some (.int (zI M (fR M 3 8) 8)), none, none, none] [.ref 3] N5 v M' 0 0 := Ev.back 1 (fun n => rfl) H
      have H : Ev none e 33 95 [some (.ref 3), some (.int a), some (.int 2), some (.int (zI M (fR M 3 8) 8)), none, none, none] [.ref (fR N5 3 8)] N5 v M' 0 0 := Ev.back 1 (gs_3 rfl rfl (gf_n hN5.1 qa_3 qn_3_8 (by decide) (by rw [show fR N5 3 8 = fR M 3 8 from by rw [eN5]; exact fR_wI]; exact a_t) rfl)) H
      rw [show fR N5 3 8 = fR M 3 8 from by rw [eN5]; exact fR_wI] at H
      have H : Ev none e 33 98 [some (.ref 3), some (.int a), some (.int 2), some (.int (zI M (fR M 3 8) 8)), none, none, none] [.ref (fR M 3 8 + 2)] N5 v M' 0 0 := Ev.back 1 (gs_3 rfl rfl (gf_x hN5.1 a_t qo_28 (fx_t1 hN5 a_t) rfl)) H
      have H : Ev none e 33 100 [some (.ref 3), some (.int a), some (.int 2), some (.int (zI M (fR M 3 8) 8)), none, none, none] [.int 0, .int (zI M (fR M 3 8) 8), .ref (fR M 3 8 + 2)] N5 v M' 0 0 := Ev.back 2 (fun n => rfl) H
      obtain ⟨b6, H⟩ := Ev.ias rfl rfl hN5.1 (fx_g1 a_t) qw_30 H
      obtain ⟨N7, eN7⟩ : ∃ N, N = (wI N5 (fR M 3 8 + 2) ((zI M (fR M 3 8) 8).toNatClampNeg) 0) := ⟨_, rfl⟩
      have hN7 : SQ N7 := by rw [eN7]; exact hN5.ki
      have H : Ev none e 33 101 [some (.ref 3), some (.int a), some (.int 2), some (.int (zI M (fR M 3 8) 8)), none, none, none] [] N7 v M' 0 0 := by rw [eN7]; exact H
      have H : Ev none e 33 102 [some (.ref 3), some (.int a), some (.int 2), some (.int (zI M (fR M 3 8) 8)), none, none, none] [.ref 3] N7 v M' 0 0 := Ev.back 1 (fun n => rfl) H
      have H : Ev none e 33 105 [some (.ref 3), some (.int a), some (.int 2), some (.int (zI M (fR M 3 8) 8)), none, none, none] [.ref (fR N7 3 8)] N7 v M' 0 0 := Ev.back 1 (gs_3 rfl rfl (gf_n hN7.1 qa_3 qn_3_8 (by decide) (by rw [(show fR N7 3 8 = fR N5 3 8 from by rw [eN7]; exact fR_wI).trans (show fR N5 3 8 = fR M 3 8 from by rw [eN5]; exact fR_wI)]; exact a_t) rfl)) H
      rw [(show fR N7 3 8 = fR N5 3 8 from by rw [eN7]; exact fR_wI).trans (show fR N5 3 8 = fR M 3 8 from by rw [eN5]; exact fR_wI)] at H
      have H : Ev none e 33 108 [some (.ref 3), some (.int a), some (.int 2), some (.int (zI M (fR M 3 8) 8)), none, none, none] [.ref (fR M 3 8 + 3)] N7 v M' 0 0 := Ev.back 1 (gs_3 rfl rfl (gf_x hN7.1 a_t qo_28 (fx_t2 hN7 a_t) rfl)) H
      have H : Ev none e 33 110 [some (.ref 3), some (.int a), some (.int 2), some (.int (zI M (fR M 3 8) 8)), none, none, none] [.int 0, .int (zI M (fR M 3 8) 8), .ref (fR M 3 8 + 3)] N7 v M' 0 0 := Ev.back 2 (fun n => rfl) H
      obtain ⟨b8, H⟩ := Ev.ias rfl rfl hN7.1 (fx_g2 a_t) qw_31 H
      obtain ⟨N9, eN9⟩ : ∃ N, N = (wI N7 (fR M 3 8 + 3) ((zI M (fR M 3 8) 8).toNatClampNeg) 0) := ⟨_, rfl⟩
      have hN9 : SQ N9 := by rw [eN9]; exact hN7.ki
      have H : Ev none e 33 111 [some (.ref 3), some (.int a), some (.int 2), some (.int (zI M (fR M 3 8) 8)), none, none, none] [] N9 v M' 0 0 := by rw [eN9]; exact H
      have H : Ev none e 33 112 [some (.ref 3), some (.int a), some (.int 2), some (.int (zI M (fR M 3 8) 8)), none, none, none] [.ref 3] N9 v M' 0 0 := Ev.back 1 (fun n => rfl) H
      have H : Ev none e 33 115 [some (.ref 3), some (.int a), some (.int 2), some (.int (zI M (fR M 3 8) 8)), none, none, none] [.ref (fR N9 3 8)] N9 v M' 0 0 := Ev.back 1 (gs_3 rfl rfl (gf_n hN9.1 qa_3 qn_3_8 (by decide) (by rw [((show fR N9 3 8 = fR N7 3 8 from by rw [eN9]; exact fR_wI).trans (show fR N7 3 8 = fR N5 3 8 from by rw [eN7]; exact fR_wI)).trans (show fR N5 3 8 = fR M 3 8 from by rw [eN5]; exact fR_wI)]; exact a_t) rfl)) H
      rw [((show fR N9 3 8 = fR N7 3 8 from by rw [eN9]; exact fR_wI).trans (show fR N7 3 8 = fR N5 3 8 from by rw [eN7]; exact fR_wI)).trans (show fR N5 3 8 = fR M 3 8 from by rw [eN5]; exact fR_wI)] at H
      have H : Ev none e 33 118 [some (.ref 3), some (.int a), some (.int 2), some (.int (zI M (fR M 3 8) 8)), none, none, none] [.ref (fR M 3 8 + 4)] N9 v M' 0 0 := Ev.back 1 (gs_3 rfl rfl (gf_x hN9.1 a_t qo_28 (fx_t3 hN9 a_t) rfl)) H
      have H : Ev none e 33 120 [some (.ref 3), some (.int a), some (.int 2), some (.int (zI M (fR M 3 8) 8)), none, none, none] [.ref 3, .int (zI M (fR M 3 8) 8), .ref (fR M 3 8 + 4)] N9 v M' 0 0 := Ev.back 2 (fun n => rfl) H
      have H : Ev none e 33 123 [some (.ref 3), some (.int a), some (.int 2), some (.int (zI M (fR M 3 8) 8)), none, none, none] [.ref (fR N9 3 8), .int (zI M (fR M 3 8) 8), .ref (fR M 3 8 + 4)] N9 v M' 0 0 := Ev.back 1 (gs_3 rfl rfl (gf_n hN9.1 qa_3 qn_3_8 (by decide) (by rw [((show fR N9 3 8 = fR N7 3 8 from by rw [eN9]; exact fR_wI).trans (show fR N7 3 8 = fR N5 3 8 from by rw [eN7]; exact fR_wI)).trans (show fR N5 3 8 = fR M 3 8 from by rw [eN5]; exact fR_wI)]; exact a_t) rfl)) H
      rw [((show fR N9 3 8 = fR N7 3 8 from by rw [eN9]; exact fR_wI).trans (show fR N7 3 8 = fR N5 3 8 from by rw [eN7]; exact fR_wI)).trans (show fR N5 3 8 = fR M 3 8 from by rw [eN5]; exact fR_wI)] at H
      have H : Ev none e 33 126 [some (.ref 3), some (.int a), some (.int 2), some (.int (zI M (fR M 3 8) 8)), none, none, none] [.int (zI N9 (fR M 3 8) 9), .int (zI M (fR M 3 8) 8), .ref (fR M 3 8 + 4)] N9 v M' 0 0 := Ev.back 1 (gs_3 rfl rfl (gf_i hN9.1 a_t qi_28_9 rfl)) H
      rw [((show zI N9 (fR M 3 8) 9 = zI N7 (fR M 3 8) 9 from by rw [eN9]; exact fI_wI).trans (show zI N7 (fR M 3 8) 9 = zI N5 (fR M 3 8) 9 from by rw [eN7]; exact fI_wI)).trans (show zI N5 (fR M 3 8) 9 = zI M (fR M 3 8) 9 from by rw [eN5]; exact fI_wI)] at H
      obtain ⟨b10, H⟩ := Ev.ias rfl rfl hN9.1 (fx_g3 a_t) qw_32 H
      obtain ⟨N11, eN11⟩ : ∃ N, N = (wI N9 (fR M 3 8 + 4) ((zI M (fR M 3 8) 8).toNatClampNeg) (zI M (fR M 3 8) 9)) := ⟨_, rfl⟩
      have hN11 : SQ N11 := by rw [eN11]; exact hN9.ki
      have H : Ev none e 33 127 [some (.ref 3), some (.int a), some (.int 2), some (.int (zI M (fR M 3 8) 8)), none, none, none] [] N11 v M' 0 0 := by rw [eN11]; exact H
      have H : Ev none e 33 128 [some (.ref 3), some (.int a), some (.int 2), some (.int (zI M (fR M 3 8) 8)), none, none, none] [.ref 3] N11 v M' 0 0 := Ev.back 1 (fun n => rfl) H
      have H : Ev none e 33 131 [some (.ref 3), some (.int a), some (.int 2), some (.int (zI M (fR M 3 8) 8)), none, none, none] [.ref (fR N11 3 8)] N11 v M' 0 0 := Ev.back 1 (gs_3 rfl rfl (gf_n hN11.1 qa_3 qn_3_8 (by decide) (by rw [(((show fR N11 3 8 = fR N9 3 8 from by rw [eN11]; exact fR_wI).trans (show fR N9 3 8 = fR N7 3 8 from by rw [eN9]; exact fR_wI)).trans (show fR N7 3 8 = fR N5 3 8 from by rw [eN7]; exact fR_wI)).trans (show fR N5 3 8 = fR M 3 8 from by rw [eN5]; exact fR_wI)]; exact a_t) rfl)) H
      rw [(((show fR N11 3 8 = fR N9 3 8 from by rw [eN11]; exact fR_wI).trans (show fR N9 3 8 = fR N7 3 8 from by rw [eN9]; exact fR_wI)).trans (show fR N7 3 8 = fR N5 3 8 from by rw [eN7]; exact fR_wI)).trans (show fR N5 3 8 = fR M 3 8 from by rw [eN5]; exact fR_wI)] at H
      have H : Ev none e 33 134 [some (.ref 3), some (.int a), some (.int 2), some (.int (zI M (fR M 3 8) 8)), none, none, none] [.ref (fR M 3 8 + 5)] N11 v M' 0 0 := Ev.back 1 (gs_3 rfl rfl (gf_x hN11.1 a_t qo_28 (fx_t4 hN11 a_t) rfl)) H
      have H : Ev none e 33 136 [some (.ref 3), some (.int a), some (.int 2), some (.int (zI M (fR M 3 8) 8)), none, none, none] [.ref 3, .int (zI M (fR M 3 8) 8), .ref (fR M 3 8 + 5)] N11 v M' 0 0 := Ev.back 2 (fun n => rfl) H
      have H : Ev none e 33 139 [some (.ref 3), some (.int a), some (.int 2), some (.int (zI M (fR M 3 8) 8)), none, none, none] [.ref (fR N11 3 8), .int (zI M (fR M 3 8) 8), .ref (fR M 3 8 + 5)] N11 v M' 0 0 := Ev.back 1 (gs_3 rfl rfl (gf_n hN11.1 qa_3 qn_3_8 (by decide) (by rw [(((show fR N11 3 8 = fR N9 3 8 from by rw [eN11]; exact fR_wI).trans (show fR N9 3 8 = fR N7 3 8 from by rw [eN9]; exact fR_wI)).trans (show fR N7 3 8 = fR N5 3 8 from by rw [eN7]; exact fR_wI)).trans (show fR N5 3 8 = fR M 3 8 from by rw [eN5]; exact fR_wI)]; exact a_t) rfl)) H
      rw [(((show fR N11 3 8 = fR N9 3 8 from by rw [eN11]; exact fR_wI).trans (show fR N9 3 8 = fR N7 3 8 from by rw [eN9]; exact fR_wI)).trans (show fR N7 3 8 = fR N5 3 8 from by rw [eN7]; exact fR_wI)).trans (show fR N5 3 8 = fR M 3 8 from by rw [eN5]; exact fR_wI)] at H
      have H : Ev none e 33 142 [some (.ref 3), some (.int a), some (.int 2), some (.int (zI M (fR M 3 8) 8)), none, none, none] [.int (zI N11 (fR M 3 8) 9), .int (zI M (fR M 3 8) 8), .ref (fR M 3 8 + 5)] N11 v M' 0 0 := Ev.back 1 (gs_3 rfl rfl (gf_i hN11.1 a_t qi_28_9 rfl)) H
      rw [(((show zI N11 (fR M 3 8) 9 = zI N9 (fR M 3 8) 9 from by rw [eN11]; exact fI_wI).trans (show zI N9 (fR M 3 8) 9 = zI N7 (fR M 3 8) 9 from by rw [eN9]; exact fI_wI)).trans (show zI N7 (fR M 3 8) 9 = zI N5 (fR M 3 8) 9 from by rw [eN7]; exact fI_wI)).trans (show zI N5 (fR M 3 8) 9 = zI M (fR M 3 8) 9 from by rw [eN5]; exact fI_wI)] at H
      obtain ⟨b12, H⟩ := Ev.ias rfl rfl hN11.1 (fx_g4 a_t) qw_33 H
      obtain ⟨N13, eN13⟩ : ∃ N, N = (wI N11 (fR M 3 8 + 5) ((zI M (fR M 3 8) 8).toNatClampNeg) (zI M (fR M 3 8) 9)) := ⟨_, rfl⟩
      have hN13 : SQ N13 := by rw [eN13]; exact hN11.ki
      have H : Ev none e 33 143 [some (.ref 3), some (.int a), some (.int 2), some (.int (zI M (fR M 3 8) 8)), none, none, none] [] N13 v M' 0 0 := by rw [eN13]; exact H
      have H : Ev none e 33 144 [some (.ref 3), some (.int a), some (.int 2), some (.int (zI M (fR M 3 8) 8)), none, none, none] [.ref 3] N13 v M' 0 0 := Ev.back 1 (fun n => rfl) H
      obtain ⟨e1, rfl⟩ := Ev.dpos rfl rfl H
      obtain ⟨vK14, MK14, K14, H⟩ := Ev.callb (fun n => gs_7 rfl rfl (show gCal (.invokevirtual 140) 3 (.ref 3 :: []) N13 = some (.inr (31, [some (.ref 3)], [])) from by show @cond (Option ((List Value × Mem) ⊕ (Nat × Lo × List Value))) (true && gRecv N13 (.ref 3) 3 && gRoom [] && true) (some (.inr (31, [some (.ref 3)], []))) none = _; rw [recv_s hN13.1 qa_3 qo_3]; rfl)) H
      have K14 : Ev none e1 31 0 [some (.ref 3)] [] N13 vK14 MK14 0 0 := K14
      have HF := H
      subst eN5 eN7 eN9 eN11 eN13
      exact Or.inr (Or.inl ⟨h1, h3, b4, b6, b8, b10, b12, ⟨e1, vK14, MK14, rfl, K14, HF⟩⟩)
    · rw [if_neg h3] at H
      have H : Ev none e 33 69 [some (.ref 3), some (.int a), some (.int 2), none, none, none, none] [.int 3, .ref 3] M v M' 0 0 := Ev.back 2 (fun n => rfl) H
      obtain ⟨e1, rfl⟩ := Ev.dpos rfl rfl H
      obtain ⟨vK15, MK15, K15, H⟩ := Ev.callb (fun n => gs_7 rfl rfl (show gCal (.invokevirtual 68) 3 (.int 3 :: .ref 3 :: []) M = some (.inr (27, [some (.ref 3), some (.int 3)], [])) from by show @cond (Option ((List Value × Mem) ⊕ (Nat × Lo × List Value))) (true && gRecv M (.ref 3) 3 && gRoom [] && true) (some (.inr (27, [some (.ref 3), some (.int 3)], []))) none = _; rw [recv_s hS.1 qa_3 qo_3]; rfl)) H
      have K15 : Ev none e1 27 0 [some (.ref 3), some (.int 3)] [] M vK15 MK15 0 0 := K15
      have HF := H
      exact Or.inr (Or.inr (⟨h1, h3, ⟨e1, vK15, MK15, rfl, K15, HF⟩⟩))
theorem ln2_72 {e : Nat} {M M' : Mem} {v : Option Value} {a y : Int32} (hS : SQ M) (a_t : gNth sT (fR M 3 8) = some 28) (H : Ev none e 33 72 [some (.ref 3), some (.int a), some (.int 2), none, none, none, none] [.int y] M v M' 0 0) : v = some (.int y) ∧ M' = M := by
  obtain ⟨z1, z2⟩ := Ev.retz rfl rfl H
  exact ⟨z1, z2⟩
theorem ln2_147 {e : Nat} {M M' : Mem} {v : Option Value} {a i : Int32} (hS : SQ M) (a_t : gNth sT (fR M 3 8) = some 28) (H : Ev none e 33 147 [some (.ref 3), some (.int a), some (.int 2), some (.int i), none, none, none] [] M v M' 0 0) : (∃ e1 v1 M1, e = e1 + 1 ∧ Ev none e1 35 0 [some (.ref 3), some (.int i), some (.int 2), none, none, none] [] M v1 M1 0 0 ∧ Ev none e 33 175 [some (.ref 3), some (.int a), some (.int 2), some (.int i), none, none, none] (v1.toList ++ []) M1 v M' 0 0) := by
  have H : Ev none e 33 (if 2 = 6 then 178 else 153) [some (.ref 3), some (.int a), some (.int 2), some (.int i), none, none, none] [] M v M' 0 0 := Ev.back 3 (fun n => rfl) H
  rw [if_neg (by decide)] at H
  have H : Ev none e 33 (if 2 = 5 then 158 else 169) [some (.ref 3), some (.int a), some (.int 2), some (.int i), none, none, none] [] M v M' 0 0 := Ev.back 3 (fun n => rfl) H
  rw [if_neg (by decide)] at H
  have H : Ev none e 33 172 [some (.ref 3), some (.int a), some (.int 2), some (.int i), none, none, none] [.int 2, .int i, .ref 3] M v M' 0 0 := Ev.back 3 (fun n => rfl) H
  obtain ⟨e1, rfl⟩ := Ev.dpos rfl rfl H
  obtain ⟨vK1, MK1, K1, H⟩ := Ev.callb (fun n => gs_7 rfl rfl (show gCal (.invokevirtual 146) 3 (.int 2 :: .int i :: .ref 3 :: []) M = some (.inr (35, [some (.ref 3), some (.int i), some (.int 2), none, none, none], [])) from by show @cond (Option ((List Value × Mem) ⊕ (Nat × Lo × List Value))) (true && gRecv M (.ref 3) 3 && gRoom [] && true) (some (.inr (35, [some (.ref 3), some (.int i), some (.int 2), none, none, none], []))) none = _; rw [recv_s hS.1 qa_3 qo_3]; rfl)) H
  have K1 : Ev none e1 35 0 [some (.ref 3), some (.int i), some (.int 2), none, none, none] [] M vK1 MK1 0 0 := K1
  have HF := H
  exact ⟨e1, vK1, MK1, rfl, K1, HF⟩
theorem ln2_175 {e : Nat} {M M' : Mem} {v : Option Value} {a i y : Int32} (hS : SQ M) (a_t : gNth sT (fR M 3 8) = some 28) (H : Ev none e 33 175 [some (.ref 3), some (.int a), some (.int 2), some (.int i), none, none, none] [.int y] M v M' 0 0) : (y = 0 ∧ v = some (.int 0) ∧ M' = M) ∨ (¬ (y = 0) ∧ (zI M 3 7) = 59 ∧ (∃ e1 v1 M1, e = e1 + 1 ∧ Ev none e1 31 0 [some (.ref 3)] [] M v1 M1 0 0 ∧ Ev none e 33 283 [some (.ref 3), some (.int a), some (.int 2), some (.int i), some (.int 1), some (.int 0), some (.int 0)] (v1.toList ++ []) M1 v M' 0 0)) ∨ (¬ (y = 0) ∧ ¬ ((zI M 3 7) = 59) ∧ (∃ e1 v1 M1, e = e1 + 1 ∧ Ev none e1 27 0 [some (.ref 3), some (.int 1)] [] M v1 M1 0 0 ∧ Ev none e 33 278 [some (.ref 3), some (.int a), some (.int 2), some (.int i), some (.int 1), some (.int 0), some (.int 0)] (v1.toList ++ []) M1 v M' 0 0)) := by
  have H : Ev none e 33 (if y = 0 then 182 else 178) [some (.ref 3), some (.int a), some (.int 2), some (.int i), none, none, none] [] M v M' 0 0 := Ev.back 1 (fun n => rfl) H
  by_cases h1 : y = 0
  · rw [if_pos h1] at H
    have H : Ev none e 33 (if 0 = 0 then 190 else 192) [some (.ref 3), some (.int a), some (.int 2), some (.int i), some (.int 0), none, none] [] M v M' 0 0 := Ev.back 4 (fun n => rfl) H
    rw [if_pos (by decide)] at H
    have H : Ev none e 33 191 [some (.ref 3), some (.int a), some (.int 2), some (.int i), some (.int 0), none, none] [.int 0] M v M' 0 0 := Ev.back 1 (fun n => rfl) H
    obtain ⟨z1, z2⟩ := Ev.retz rfl rfl H
    exact Or.inl ⟨h1, z1, z2⟩
  · rw [if_neg h1] at H
    have H : Ev none e 33 (if 1 = 0 then 190 else 192) [some (.ref 3), some (.int a), some (.int 2), some (.int i), some (.int 1), none, none] [] M v M' 0 0 := Ev.back 5 (fun n => rfl) H
    rw [if_neg (by decide)] at H
    have H : Ev none e 33 (if 2 = 0 then 206 else 196) [some (.ref 3), some (.int a), some (.int 2), some (.int i), some (.int 1), none, none] [] M v M' 0 0 := Ev.back 2 (fun n => rfl) H
    rw [if_neg (by decide)] at H
    have H : Ev none e 33 (if 2 = 1 then 206 else 201) [some (.ref 3), some (.int a), some (.int 2), some (.int i), some (.int 1), none, none] [] M v M' 0 0 := Ev.back 3 (fun n => rfl) H
    rw [if_neg (by decide)] at H
    have H : Ev none e 33 (if 2 = 5 then 206 else 210) [some (.ref 3), some (.int a), some (.int 2), some (.int i), some (.int 1), none, none] [] M v M' 0 0 := Ev.back 3 (fun n => rfl) H
    rw [if_neg (by decide)] at H
    have H : Ev none e 33 (if 0 = 0 then 231 else 218) [some (.ref 3), some (.int a), some (.int 2), some (.int i), some (.int 1), some (.int 0), none] [] M v M' 0 0 := Ev.back 4 (fun n => rfl) H
    rw [if_pos (by decide)] at H
    have H : Ev none e 33 (if 0 = 0 then 243 else 239) [some (.ref 3), some (.int a), some (.int 2), some (.int i), some (.int 1), some (.int 0), some (.int 0)] [] M v M' 0 0 := Ev.back 4 (fun n => rfl) H
    rw [if_pos (by decide)] at H
    have H : Ev none e 33 (if 0 = 0 then 248 else 254) [some (.ref 3), some (.int a), some (.int 2), some (.int i), some (.int 1), some (.int 0), some (.int 0)] [] M v M' 0 0 := Ev.back 2 (fun n => rfl) H
    rw [if_pos (by decide)] at H
    have H : Ev none e 33 (if 2 = 6 then 254 else 264) [some (.ref 3), some (.int a), some (.int 2), some (.int i), some (.int 1), some (.int 0), some (.int 0)] [] M v M' 0 0 := Ev.back 3 (fun n => rfl) H
    rw [if_neg (by decide)] at H
    have H : Ev none e 33 265 [some (.ref 3), some (.int a), some (.int 2), some (.int i), some (.int 1), some (.int 0), some (.int 0)] [.ref 3] M v M' 0 0 := Ev.back 1 (fun n => rfl) H
    have H : Ev none e 33 268 [some (.ref 3), some (.int a), some (.int 2), some (.int i), some (.int 1), some (.int 0), some (.int 0)] [.int (zI M 3 7)] M v M' 0 0 := Ev.back 1 (gs_3 rfl rfl (gf_i hS.1 qa_3 qi_3_7 rfl)) H
    have H : Ev none e 33 (if (zI M 3 7) = 59 then 279 else 273) [some (.ref 3), some (.int a), some (.int 2), some (.int i), some (.int 1), some (.int 0), some (.int 0)] [] M v M' 0 0 := Ev.back 2 (fun n => rfl) H
    by_cases h2 : (zI M 3 7) = 59
    · rw [if_pos h2] at H
      have H : Ev none e 33 280 [some (.ref 3), some (.int a), some (.int 2), some (.int i), some (.int 1), some (.int 0), some (.int 0)] [.ref 3] M v M' 0 0 := Ev.back 1 (fun n => rfl) H
      obtain ⟨e1, rfl⟩ := Ev.dpos rfl rfl H
      obtain ⟨vK3, MK3, K3, H⟩ := Ev.callb (fun n => gs_7 rfl rfl (show gCal (.invokevirtual 140) 3 (.ref 3 :: []) M = some (.inr (31, [some (.ref 3)], [])) from by show @cond (Option ((List Value × Mem) ⊕ (Nat × Lo × List Value))) (true && gRecv M (.ref 3) 3 && gRoom [] && true) (some (.inr (31, [some (.ref 3)], []))) none = _; rw [recv_s hS.1 qa_3 qo_3]; rfl)) H
      have K3 : Ev none e1 31 0 [some (.ref 3)] [] M vK3 MK3 0 0 := K3
      have HF := H
      exact Or.inr (Or.inl ⟨h1, h2, ⟨e1, vK3, MK3, rfl, K3, HF⟩⟩)
    · rw [if_neg h2] at H
      have H : Ev none e 33 275 [some (.ref 3), some (.int a), some (.int 2), some (.int i), some (.int 1), some (.int 0), some (.int 0)] [.int 1, .ref 3] M v M' 0 0 := Ev.back 2 (fun n => rfl) H
      obtain ⟨e1, rfl⟩ := Ev.dpos rfl rfl H
      obtain ⟨vK4, MK4, K4, H⟩ := Ev.callb (fun n => gs_7 rfl rfl (show gCal (.invokevirtual 68) 3 (.int 1 :: .ref 3 :: []) M = some (.inr (27, [some (.ref 3), some (.int 1)], [])) from by show @cond (Option ((List Value × Mem) ⊕ (Nat × Lo × List Value))) (true && gRecv M (.ref 3) 3 && gRoom [] && true) (some (.inr (27, [some (.ref 3), some (.int 1)], []))) none = _; rw [recv_s hS.1 qa_3 qo_3]; rfl)) H
      have K4 : Ev none e1 27 0 [some (.ref 3), some (.int 1)] [] M vK4 MK4 0 0 := K4
      have HF := H
      exact Or.inr (Or.inr (⟨h1, h2, ⟨e1, vK4, MK4, rfl, K4, HF⟩⟩))
theorem ln2_278 {e : Nat} {M M' : Mem} {v : Option Value} {a i y : Int32} {c5 c6 : Option Value} (hS : SQ M) (a_t : gNth sT (fR M 3 8) = some 28) (H : Ev none e 33 278 [some (.ref 3), some (.int a), some (.int 2), some (.int i), some (.int 1), c5, c6] [.int y] M v M' 0 0) : v = some (.int y) ∧ M' = M := by
  obtain ⟨z1, z2⟩ := Ev.retz rfl rfl H
  exact ⟨z1, z2⟩
theorem ln2_283 {e : Nat} {M M' : Mem} {v : Option Value} {a i : Int32} {c5 c6 : Option Value} (hS : SQ M) (a_t : gNth sT (fR M 3 8) = some 28) (H : Ev none e 33 283 [some (.ref 3), some (.int a), some (.int 2), some (.int i), some (.int 1), c5, c6] [] M v M' 0 0) : (0 ≤ i.toInt ∧ i.toInt < 16) ∧ v = some (.int 1) ∧ M' = (wF (wI M (fR M 3 8 + 5) i.toNatClampNeg (zI M (fR M 3 8) 9)) (fR M 3 8) 8 ((zI M (fR M 3 8) 8) + 1)) := by
  have H : Ev none e 33 284 [some (.ref 3), some (.int a), some (.int 2), some (.int i), some (.int 1), c5, c6] [.ref 3] M v M' 0 0 := Ev.back 1 (fun n => rfl) H
  have H : Ev none e 33 287 [some (.ref 3), some (.int a), some (.int 2), some (.int i), some (.int 1), c5, c6] [.ref (fR M 3 8)] M v M' 0 0 := Ev.back 1 (gs_3 rfl rfl (gf_n hS.1 qa_3 qn_3_8 (by decide) a_t rfl)) H
  have H : Ev none e 33 290 [some (.ref 3), some (.int a), some (.int 2), some (.int i), some (.int 1), c5, c6] [.ref (fR M 3 8 + 5)] M v M' 0 0 := Ev.back 1 (gs_3 rfl rfl (gf_x hS.1 a_t qo_28 (fx_t4 hS a_t) rfl)) H
  have H : Ev none e 33 292 [some (.ref 3), some (.int a), some (.int 2), some (.int i), some (.int 1), c5, c6] [.ref 3, .int i, .ref (fR M 3 8 + 5)] M v M' 0 0 := Ev.back 2 (fun n => rfl) H
  have H : Ev none e 33 295 [some (.ref 3), some (.int a), some (.int 2), some (.int i), some (.int 1), c5, c6] [.ref (fR M 3 8), .int i, .ref (fR M 3 8 + 5)] M v M' 0 0 := Ev.back 1 (gs_3 rfl rfl (gf_n hS.1 qa_3 qn_3_8 (by decide) a_t rfl)) H
  have H : Ev none e 33 298 [some (.ref 3), some (.int a), some (.int 2), some (.int i), some (.int 1), c5, c6] [.int (zI M (fR M 3 8) 9), .int i, .ref (fR M 3 8 + 5)] M v M' 0 0 := Ev.back 1 (gs_3 rfl rfl (gf_i hS.1 a_t qi_28_9 rfl)) H
  obtain ⟨b1, H⟩ := Ev.ias rfl rfl hS.1 (fx_g4 a_t) qw_33 H
  obtain ⟨N2, eN2⟩ : ∃ N, N = (wI M (fR M 3 8 + 5) i.toNatClampNeg (zI M (fR M 3 8) 9)) := ⟨_, rfl⟩
  have hN2 : SQ N2 := by rw [eN2]; exact hS.ki
  have H : Ev none e 33 299 [some (.ref 3), some (.int a), some (.int 2), some (.int i), some (.int 1), c5, c6] [] N2 v M' 0 0 := by rw [eN2]; exact H
  have H : Ev none e 33 300 [some (.ref 3), some (.int a), some (.int 2), some (.int i), some (.int 1), c5, c6] [.ref 3] N2 v M' 0 0 := Ev.back 1 (fun n => rfl) H
  have H : Ev none e 33 303 [some (.ref 3), some (.int a), some (.int 2), some (.int i), some (.int 1), c5, c6] [.ref (fR N2 3 8)] N2 v M' 0 0 := Ev.back 1 (gs_3 rfl rfl (gf_n hN2.1 qa_3 qn_3_8 (by decide) (by rw [show fR N2 3 8 = fR M 3 8 from by rw [eN2]; exact fR_wI]; exact a_t) rfl)) H
  rw [show fR N2 3 8 = fR M 3 8 from by rw [eN2]; exact fR_wI] at H
  have H : Ev none e 33 304 [some (.ref 3), some (.int a), some (.int 2), some (.int i), some (.int 1), c5, c6] [.ref (fR M 3 8), .ref (fR M 3 8)] N2 v M' 0 0 := Ev.back 1 (fun n => rfl) H
  have H : Ev none e 33 307 [some (.ref 3), some (.int a), some (.int 2), some (.int i), some (.int 1), c5, c6] [.int (zI N2 (fR M 3 8) 8), .ref (fR M 3 8)] N2 v M' 0 0 := Ev.back 1 (gs_3 rfl rfl (gf_i hN2.1 a_t qi_28_8 rfl)) H
  rw [show zI N2 (fR M 3 8) 8 = zI M (fR M 3 8) 8 from by rw [eN2]; exact fI_wI] at H
  have H : Ev none e 33 309 [some (.ref 3), some (.int a), some (.int 2), some (.int i), some (.int 1), c5, c6] [.int ((zI M (fR M 3 8) 8) + 1), .ref (fR M 3 8)] N2 v M' 0 0 := Ev.back 2 (fun n => rfl) H
  obtain ⟨N4, eN4⟩ : ∃ N, N = (wF N2 (fR M 3 8) 8 ((zI M (fR M 3 8) 8) + 1)) := ⟨_, rfl⟩
  have hN4 : SQ N4 := by rw [eN4]; exact hN2.kf
  have H : Ev none e 33 312 [some (.ref 3), some (.int a), some (.int 2), some (.int i), some (.int 1), c5, c6] [] N4 v M' 0 0 := by rw [eN4]; exact Ev.pfi rfl rfl rfl hN2.1 a_t qi_28_8 H
  have H : Ev none e 33 313 [some (.ref 3), some (.int a), some (.int 2), some (.int i), some (.int 1), c5, c6] [.int 1] N4 v M' 0 0 := Ev.back 1 (fun n => rfl) H
  obtain ⟨z1, z2⟩ := Ev.retz rfl rfl H
  subst eN2 eN4
  exact ⟨b1, z1, z2⟩
theorem ln3_44 {e : Nat} {M M' : Mem} {v : Option Value} {a : Int32} (hS : SQ M) (a_t : gNth sT (fR M 3 8) = some 28) (H : Ev none e 33 44 [some (.ref 3), some (.int a), some (.int 3), none, none, none, none] [] M v M' 0 0) : (16 ≤ (zI M (fR M 3 8) 8) ∧ (∃ e1 v1 M1, e = e1 + 1 ∧ Ev none e1 27 0 [some (.ref 3), some (.int 3)] [] M v1 M1 0 0 ∧ Ev none e 33 72 [some (.ref 3), some (.int a), some (.int 3), none, none, none, none] (v1.toList ++ []) M1 v M' 0 0)) ∨ (¬ (16 ≤ (zI M (fR M 3 8) 8)) ∧ ((zI M 3 10) &&& ((1 : Int32) <<< ((3 : Int32) &&& 31))) = 0 ∧ (0 ≤ (zI M (fR M 3 8) 8).toInt ∧ (zI M (fR M 3 8) 8).toInt < 16) ∧ (0 ≤ (zI M (fR M 3 8) 8).toInt ∧ (zI M (fR M 3 8) 8).toInt < 16) ∧ (0 ≤ (zI M (fR M 3 8) 8).toInt ∧ (zI M (fR M 3 8) 8).toInt < 16) ∧ (0 ≤ (zI M (fR M 3 8) 8).toInt ∧ (zI M (fR M 3 8) 8).toInt < 16) ∧ (0 ≤ (zI M (fR M 3 8) 8).toInt ∧ (zI M (fR M 3 8) 8).toInt < 16) ∧ (∃ e1 v1 M1, e = e1 + 1 ∧ Ev none e1 31 0 [some (.ref 3)] [] (wI (wI (wI (wI (wI M (fR M 3 8 + 1) ((zI M (fR M 3 8) 8).toNatClampNeg) 3) (fR M 3 8 + 2) ((zI M (fR M 3 8) 8).toNatClampNeg) 0) (fR M 3 8 + 3) ((zI M (fR M 3 8) 8).toNatClampNeg) 0) (fR M 3 8 + 4) ((zI M (fR M 3 8) 8).toNatClampNeg) (zI M (fR M 3 8) 9)) (fR M 3 8 + 5) ((zI M (fR M 3 8) 8).toNatClampNeg) (zI M (fR M 3 8) 9)) v1 M1 0 0 ∧ Ev none e 33 147 [some (.ref 3), some (.int a), some (.int 3), some (.int (zI M (fR M 3 8) 8)), none, none, none] (v1.toList ++ []) M1 v M' 0 0)) ∨ (¬ (16 ≤ (zI M (fR M 3 8) 8)) ∧ ¬ (((zI M 3 10) &&& ((1 : Int32) <<< ((3 : Int32) &&& 31))) = 0) ∧ (∃ e1 v1 M1, e = e1 + 1 ∧ Ev none e1 27 0 [some (.ref 3), some (.int 3)] [] M v1 M1 0 0 ∧ Ev none e 33 72 [some (.ref 3), some (.int a), some (.int 3), none, none, none, none] (v1.toList ++ []) M1 v M' 0 0)) := by
  have H : Ev none e 33 45 [some (.ref 3), some (.int a), some (.int 3), none, none, none, none] [.ref 3] M v M' 0 0 := Ev.back 1 (fun n => rfl) H
  have H : Ev none e 33 48 [some (.ref 3), some (.int a), some (.int 3), none, none, none, none] [.ref (fR M 3 8)] M v M' 0 0 := Ev.back 1 (gs_3 rfl rfl (gf_n hS.1 qa_3 qn_3_8 (by decide) a_t rfl)) H
  have H : Ev none e 33 51 [some (.ref 3), some (.int a), some (.int 3), none, none, none, none] [.int (zI M (fR M 3 8) 8)] M v M' 0 0 := Ev.back 1 (gs_3 rfl rfl (gf_i hS.1 a_t qi_28_8 rfl)) H
  have H : Ev none e 33 (if 16 ≤ (zI M (fR M 3 8) 8) then 67 else 56) [some (.ref 3), some (.int a), some (.int 3), none, none, none, none] [] M v M' 0 0 := Ev.back 2 (fun n => rfl) H
  by_cases h1 : 16 ≤ (zI M (fR M 3 8) 8)
  · rw [if_pos h1] at H
    have H : Ev none e 33 69 [some (.ref 3), some (.int a), some (.int 3), none, none, none, none] [.int 3, .ref 3] M v M' 0 0 := Ev.back 2 (fun n => rfl) H
    obtain ⟨e1, rfl⟩ := Ev.dpos rfl rfl H
    obtain ⟨vK2, MK2, K2, H⟩ := Ev.callb (fun n => gs_7 rfl rfl (show gCal (.invokevirtual 68) 3 (.int 3 :: .ref 3 :: []) M = some (.inr (27, [some (.ref 3), some (.int 3)], [])) from by show @cond (Option ((List Value × Mem) ⊕ (Nat × Lo × List Value))) (true && gRecv M (.ref 3) 3 && gRoom [] && true) (some (.inr (27, [some (.ref 3), some (.int 3)], []))) none = _; rw [recv_s hS.1 qa_3 qo_3]; rfl)) H
    have K2 : Ev none e1 27 0 [some (.ref 3), some (.int 3)] [] M vK2 MK2 0 0 := K2
    have HF := H
    exact Or.inl ⟨h1, ⟨e1, vK2, MK2, rfl, K2, HF⟩⟩
  · rw [if_neg h1] at H
    have H : Ev none e 33 57 [some (.ref 3), some (.int a), some (.int 3), none, none, none, none] [.ref 3] M v M' 0 0 := Ev.back 1 (fun n => rfl) H
    have H : Ev none e 33 60 [some (.ref 3), some (.int a), some (.int 3), none, none, none, none] [.int (zI M 3 10)] M v M' 0 0 := Ev.back 1 (gs_3 rfl rfl (gf_i hS.1 qa_3 qi_3_10 rfl)) H
    have H : Ev none e 33 (if ((zI M 3 10) &&& ((1 : Int32) <<< ((3 : Int32) &&& 31))) = 0 then 73 else 67) [some (.ref 3), some (.int a), some (.int 3), none, none, none, none] [] M v M' 0 0 := Ev.back 5 (fun n => rfl) H
    by_cases h3 : ((zI M 3 10) &&& ((1 : Int32) <<< ((3 : Int32) &&& 31))) = 0
    · rw [if_pos h3] at H
      have H : Ev none e 33 74 [some (.ref 3), some (.int a), some (.int 3), none, none, none, none] [.ref 3] M v M' 0 0 := Ev.back 1 (fun n => rfl) H
      have H : Ev none e 33 77 [some (.ref 3), some (.int a), some (.int 3), none, none, none, none] [.ref (fR M 3 8)] M v M' 0 0 := Ev.back 1 (gs_3 rfl rfl (gf_n hS.1 qa_3 qn_3_8 (by decide) a_t rfl)) H
      have H : Ev none e 33 80 [some (.ref 3), some (.int a), some (.int 3), none, none, none, none] [.int (zI M (fR M 3 8) 8)] M v M' 0 0 := Ev.back 1 (gs_3 rfl rfl (gf_i hS.1 a_t qi_28_8 rfl)) H
      have H : Ev none e 33 82 [some (.ref 3), some (.int a), some (.int 3), some (.int (zI M (fR M 3 8) 8)), none, none, none] [.ref 3] M v M' 0 0 := Ev.back 2 (fun n => rfl) H
      have H : Ev none e 33 85 [some (.ref 3), some (.int a), some (.int 3), some (.int (zI M (fR M 3 8) 8)), none, none, none] [.ref (fR M 3 8)] M v M' 0 0 := Ev.back 1 (gs_3 rfl rfl (gf_n hS.1 qa_3 qn_3_8 (by decide) a_t rfl)) H
      have H : Ev none e 33 88 [some (.ref 3), some (.int a), some (.int 3), some (.int (zI M (fR M 3 8) 8)), none, none, none] [.ref (fR M 3 8 + 1)] M v M' 0 0 := Ev.back 1 (gs_3 rfl rfl (gf_x hS.1 a_t qo_28 (fx_t0 hS a_t) rfl)) H
      have H : Ev none e 33 90 [some (.ref 3), some (.int a), some (.int 3), some (.int (zI M (fR M 3 8) 8)), none, none, none] [.int 3, .int (zI M (fR M 3 8) 8), .ref (fR M 3 8 + 1)] M v M' 0 0 := Ev.back 2 (fun n => rfl) H
      obtain ⟨b4, H⟩ := Ev.ias rfl rfl hS.1 (fx_g0 a_t) qw_29 H
      obtain ⟨N5, eN5⟩ : ∃ N, N = (wI M (fR M 3 8 + 1) ((zI M (fR M 3 8) 8).toNatClampNeg) 3) := ⟨_, rfl⟩
      have hN5 : SQ N5 := by rw [eN5]; exact hS.ki
      have H : Ev none e 33 91 [some (.ref 3), some (.int a), some (.int 3), some (.int (zI M (fR M 3 8) 8)), none, none, none] [] N5 v M' 0 0 := by rw [eN5]; exact H
      have H : Ev none e 33 92 [some (.ref 3), some (.int a), some (.int 3), some (.int (zI M (fR M 3 8) 8)), none, none, none] [.ref 3] N5 v M' 0 0 := Ev.back 1 (fun n => rfl) H
      have H : Ev none e 33 95 [some (.ref 3), some (.int a), some (.int 3), some (.int (zI M (fR M 3 8) 8)), none, none, none] [.ref (fR N5 3 8)] N5 v M' 0 0 := Ev.back 1 (gs_3 rfl rfl (gf_n hN5.1 qa_3 qn_3_8 (by decide) (by rw [show fR N5 3 8 = fR M 3 8 from by rw [eN5]; exact fR_wI]; exact a_t) rfl)) H
      rw [show fR N5 3 8 = fR M 3 8 from by rw [eN5]; exact fR_wI] at H
      have H : Ev none e 33 98 [some (.ref 3), some (.int a), some (.int 3), some (.int (zI M (fR M 3 8) 8)), none, none, none] [.ref (fR M 3 8 + 2)] N5 v M' 0 0 := Ev.back 1 (gs_3 rfl rfl (gf_x hN5.1 a_t qo_28 (fx_t1 hN5 a_t) rfl)) H
      have H : Ev none e 33 100 [some (.ref 3), some (.int a), some (.int 3), some (.int (zI M (fR M 3 8) 8)), none, none, none] [.int 0, .int (zI M (fR M 3 8) 8), .ref (fR M 3 8 + 2)] N5 v M' 0 0 := Ev.back 2 (fun n => rfl) H
      obtain ⟨b6, H⟩ := Ev.ias rfl rfl hN5.1 (fx_g1 a_t) qw_30 H
      obtain ⟨N7, eN7⟩ : ∃ N, N = (wI N5 (fR M 3 8 + 2) ((zI M (fR M 3 8) 8).toNatClampNeg) 0) := ⟨_, rfl⟩
      have hN7 : SQ N7 := by rw [eN7]; exact hN5.ki
      have H : Ev none e 33 101 [some (.ref 3), some (.int a), some (.int 3), some (.int (zI M (fR M 3 8) 8)), none, none, none] [] N7 v M' 0 0 := by rw [eN7]; exact H
      have H : Ev none e 33 102 [some (.ref 3), some (.int a), some (.int 3), some (.int (zI M (fR M 3 8) 8)), none, none, none] [.ref 3] N7 v M' 0 0 := Ev.back 1 (fun n => rfl) H
      have H : Ev none e 33 105 [some (.ref 3), some (.int a), some (.int 3), some (.int (zI M (fR M 3 8) 8)), none, none, none] [.ref (fR N7 3 8)] N7 v M' 0 0 := Ev.back 1 (gs_3 rfl rfl (gf_n hN7.1 qa_3 qn_3_8 (by decide) (by rw [(show fR N7 3 8 = fR N5 3 8 from by rw [eN7]; exact fR_wI).trans (show fR N5 3 8 = fR M 3 8 from by rw [eN5]; exact fR_wI)]; exact a_t) rfl)) H
      rw [(show fR N7 3 8 = fR N5 3 8 from by rw [eN7]; exact fR_wI).trans (show fR N5 3 8 = fR M 3 8 from by rw [eN5]; exact fR_wI)] at H
      have H : Ev none e 33 108 [some (.ref 3), some (.int a), some (.int 3), some (.int (zI M (fR M 3 8) 8)), none, none, none] [.ref (fR M 3 8 + 3)] N7 v M' 0 0 := Ev.back 1 (gs_3 rfl rfl (gf_x hN7.1 a_t qo_28 (fx_t2 hN7 a_t) rfl)) H
      have H : Ev none e 33 110 [some (.ref 3), some (.int a), some (.int 3), some (.int (zI M (fR M 3 8) 8)), none, none, none] [.int 0, .int (zI M (fR M 3 8) 8), .ref (fR M 3 8 + 3)] N7 v M' 0 0 := Ev.back 2 (fun n => rfl) H
      obtain ⟨b8, H⟩ := Ev.ias rfl rfl hN7.1 (fx_g2 a_t) qw_31 H
      obtain ⟨N9, eN9⟩ : ∃ N, N = (wI N7 (fR M 3 8 + 3) ((zI M (fR M 3 8) 8).toNatClampNeg) 0) := ⟨_, rfl⟩
      have hN9 : SQ N9 := by rw [eN9]; exact hN7.ki
      have H : Ev none e 33 111 [some (.ref 3), some (.int a), some (.int 3), some (.int (zI M (fR M 3 8) 8)), none, none, none] [] N9 v M' 0 0 := by rw [eN9]; exact H
      have H : Ev none e 33 112 [some (.ref 3), some (.int a), some (.int 3), some (.int (zI M (fR M 3 8) 8)), none, none, none] [.ref 3] N9 v M' 0 0 := Ev.back 1 (fun n => rfl) H
      have H : Ev none e 33 115 [some (.ref 3), some (.int a), some (.int 3), some (.int (zI M (fR M 3 8) 8)), none, none, none] [.ref (fR N9 3 8)] N9 v M' 0 0 := Ev.back 1 (gs_3 rfl rfl (gf_n hN9.1 qa_3 qn_3_8 (by decide) (by rw [((show fR N9 3 8 = fR N7 3 8 from by rw [eN9]; exact fR_wI).trans (show fR N7 3 8 = fR N5 3 8 from by rw [eN7]; exact fR_wI)).trans (show fR N5 3 8 = fR M 3 8 from by rw [eN5]; exact fR_wI)]; exact a_t) rfl)) H
      rw [((show fR N9 3 8 = fR N7 3 8 from by rw [eN9]; exact fR_wI).trans (show fR N7 3 8 = fR N5 3 8 from by rw [eN7]; exact fR_wI)).trans (show fR N5 3 8 = fR M 3 8 from by rw [eN5]; exact fR_wI)] at H
      have H : Ev none e 33 118 [some (.ref 3), some (.int a), some (.int 3), some (.int (zI M (fR M 3 8) 8)), none, none, none] [.ref (fR M 3 8 + 4)] N9 v M' 0 0 := Ev.back 1 (gs_3 rfl rfl (gf_x hN9.1 a_t qo_28 (fx_t3 hN9 a_t) rfl)) H
      have H : Ev none e 33 120 [some (.ref 3), some (.int a), some (.int 3), some (.int (zI M (fR M 3 8) 8)), none, none, none] [.ref 3, .int (zI M (fR M 3 8) 8), .ref (fR M 3 8 + 4)] N9 v M' 0 0 := Ev.back 2 (fun n => rfl) H
      have H : Ev none e 33 123 [some (.ref 3), some (.int a), some (.int 3), some (.int (zI M (fR M 3 8) 8)), none, none, none] [.ref (fR N9 3 8), .int (zI M (fR M 3 8) 8), .ref (fR M 3 8 + 4)] N9 v M' 0 0 := Ev.back 1 (gs_3 rfl rfl (gf_n hN9.1 qa_3 qn_3_8 (by decide) (by rw [((show fR N9 3 8 = fR N7 3 8 from by rw [eN9]; exact fR_wI).trans (show fR N7 3 8 = fR N5 3 8 from by rw [eN7]; exact fR_wI)).trans (show fR N5 3 8 = fR M 3 8 from by rw [eN5]; exact fR_wI)]; exact a_t) rfl)) H
      rw [((show fR N9 3 8 = fR N7 3 8 from by rw [eN9]; exact fR_wI).trans (show fR N7 3 8 = fR N5 3 8 from by rw [eN7]; exact fR_wI)).trans (show fR N5 3 8 = fR M 3 8 from by rw [eN5]; exact fR_wI)] at H
      have H : Ev none e 33 126 [some (.ref 3), some (.int a), some (.int 3), some (.int (zI M (fR M 3 8) 8)), none, none, none] [.int (zI N9 (fR M 3 8) 9), .int (zI M (fR M 3 8) 8), .ref (fR M 3 8 + 4)] N9 v M' 0 0 := Ev.back 1 (gs_3 rfl rfl (gf_i hN9.1 a_t qi_28_9 rfl)) H
      rw [((show zI N9 (fR M 3 8) 9 = zI N7 (fR M 3 8) 9 from by rw [eN9]; exact fI_wI).trans (show zI N7 (fR M 3 8) 9 = zI N5 (fR M 3 8) 9 from by rw [eN7]; exact fI_wI)).trans (show zI N5 (fR M 3 8) 9 = zI M (fR M 3 8) 9 from by rw [eN5]; exact fI_wI)] at H
      obtain ⟨b10, H⟩ := Ev.ias rfl rfl hN9.1 (fx_g3 a_t) qw_32 H
      obtain ⟨N11, eN11⟩ : ∃ N, N = (wI N9 (fR M 3 8 + 4) ((zI M (fR M 3 8) 8).toNatClampNeg) (zI M (fR M 3 8) 9)) := ⟨_, rfl⟩
      have hN11 : SQ N11 := by rw [eN11]; exact hN9.ki
      have H : Ev none e 33 127 [some (.ref 3), some (.int a), some (.int 3), some (.int (zI M (fR M 3 8) 8)), none, none, none] [] N11 v M' 0 0 := by rw [eN11]; exact H
      have H : Ev none e 33 128 [some (.ref 3), some (.int a), some (.int 3), some (.int (zI M (fR M 3 8) 8)), none, none, none] [.ref 3] N11 v M' 0 0 := Ev.back 1 (fun n => rfl) H
      have H : Ev none e 33 131 [some (.ref 3), some (.int a), some (.int 3), some (.int (zI M (fR M 3 8) 8)), none, none, none] [.ref (fR N11 3 8)] N11 v M' 0 0 := Ev.back 1 (gs_3 rfl rfl (gf_n hN11.1 qa_3 qn_3_8 (by decide) (by rw [(((show fR N11 3 8 = fR N9 3 8 from by rw [eN11]; exact fR_wI).trans (show fR N9 3 8 = fR N7 3 8 from by rw [eN9]; exact fR_wI)).trans (show fR N7 3 8 = fR N5 3 8 from by rw [eN7]; exact fR_wI)).trans (show fR N5 3 8 = fR M 3 8 from by rw [eN5]; exact fR_wI)]; exact a_t) rfl)) H
      rw [(((show fR N11 3 8 = fR N9 3 8 from by rw [eN11]; exact fR_wI).trans (show fR N9 3 8 = fR N7 3 8 from by rw [eN9]; exact fR_wI)).trans (show fR N7 3 8 = fR N5 3 8 from by rw [eN7]; exact fR_wI)).trans (show fR N5 3 8 = fR M 3 8 from by rw [eN5]; exact fR_wI)] at H
      have H : Ev none e 33 134 [some (.ref 3), some (.int a), some (.int 3), some (.int (zI M (fR M 3 8) 8)), none, none, none] [.ref (fR M 3 8 + 5)] N11 v M' 0 0 := Ev.back 1 (gs_3 rfl rfl (gf_x hN11.1 a_t qo_28 (fx_t4 hN11 a_t) rfl)) H
      have H : Ev none e 33 136 [some (.ref 3), some (.int a), some (.int 3), some (.int (zI M (fR M 3 8) 8)), none, none, none] [.ref 3, .int (zI M (fR M 3 8) 8), .ref (fR M 3 8 + 5)] N11 v M' 0 0 := Ev.back 2 (fun n => rfl) H
      have H : Ev none e 33 139 [some (.ref 3), some (.int a), some (.int 3), some (.int (zI M (fR M 3 8) 8)), none, none, none] [.ref (fR N11 3 8), .int (zI M (fR M 3 8) 8), .ref (fR M 3 8 + 5)] N11 v M' 0 0 := Ev.back 1 (gs_3 rfl rfl (gf_n hN11.1 qa_3 qn_3_8 (by decide) (by rw [(((show fR N11 3 8 = fR N9 3 8 from by rw [eN11]; exact fR_wI).trans (show fR N9 3 8 = fR N7 3 8 from by rw [eN9]; exact fR_wI)).trans (show fR N7 3 8 = fR N5 3 8 from by rw [eN7]; exact fR_wI)).trans (show fR N5 3 8 = fR M 3 8 from by rw [eN5]; exact fR_wI)]; exact a_t) rfl)) H
      rw [(((show fR N11 3 8 = fR N9 3 8 from by rw [eN11]; exact fR_wI).trans (show fR N9 3 8 = fR N7 3 8 from by rw [eN9]; exact fR_wI)).trans (show fR N7 3 8 = fR N5 3 8 from by rw [eN7]; exact fR_wI)).trans (show fR N5 3 8 = fR M 3 8 from by rw [eN5]; exact fR_wI)] at H
      have H : Ev none e 33 142 [some (.ref 3), some (.int a), some (.int 3), some (.int (zI M (fR M 3 8) 8)), none, none, none] [.int (zI N11 (fR M 3 8) 9), .int (zI M (fR M 3 8) 8), .ref (fR M 3 8 + 5)] N11 v M' 0 0 := Ev.back 1 (gs_3 rfl rfl (gf_i hN11.1 a_t qi_28_9 rfl)) H
      rw [(((show zI N11 (fR M 3 8) 9 = zI N9 (fR M 3 8) 9 from by rw [eN11]; exact fI_wI).trans (show zI N9 (fR M 3 8) 9 = zI N7 (fR M 3 8) 9 from by rw [eN9]; exact fI_wI)).trans (show zI N7 (fR M 3 8) 9 = zI N5 (fR M 3 8) 9 from by rw [eN7]; exact fI_wI)).trans (show zI N5 (fR M 3 8) 9 = zI M (fR M 3 8) 9 from by rw [eN5]; exact fI_wI)] at H
      obtain ⟨b12, H⟩ := Ev.ias rfl rfl hN11.1 (fx_g4 a_t) qw_33 H
      obtain ⟨N13, eN13⟩ : ∃ N, N = (wI N11 (fR M 3 8 + 5) ((zI M (fR M 3 8) 8).toNatClampNeg) (zI M (fR M 3 8) 9)) := ⟨_, rfl⟩
      have hN13 : SQ N13 := by rw [eN13]; exact hN11.ki
      have H : Ev none e 33 143 [some (.ref 3), some (.int a), some (.int 3), some (.int (zI M (fR M 3 8) 8)), none, none, none] [] N13 v M' 0 0 := by rw [eN13]; exact H
      have H : Ev none e 33 144 [some (.ref 3), some (.int a), some (.int 3), some (.int (zI M (fR M 3 8) 8)), none, none, none] [.ref 3] N13 v M' 0 0 := Ev.back 1 (fun n => rfl) H
      obtain ⟨e1, rfl⟩ := Ev.dpos rfl rfl H
      obtain ⟨vK14, MK14, K14, H⟩ := Ev.callb (fun n => gs_7 rfl rfl (show gCal (.invokevirtual 140) 3 (.ref 3 :: []) N13 = some (.inr (31, [some (.ref 3)], [])) from by show @cond (Option ((List Value × Mem) ⊕ (Nat × Lo × List Value))) (true && gRecv N13 (.ref 3) 3 && gRoom [] && true) (some (.inr (31, [some (.ref 3)], []))) none = _; rw [recv_s hN13.1 qa_3 qo_3]; rfl)) H
      have K14 : Ev none e1 31 0 [some (.ref 3)] [] N13 vK14 MK14 0 0 := K14
      have HF := H
      subst eN5 eN7 eN9 eN11 eN13
      exact Or.inr (Or.inl ⟨h1, h3, b4, b6, b8, b10, b12, ⟨e1, vK14, MK14, rfl, K14, HF⟩⟩)
    · rw [if_neg h3] at H
      have H : Ev none e 33 69 [some (.ref 3), some (.int a), some (.int 3), none, none, none, none] [.int 3, .ref 3] M v M' 0 0 := Ev.back 2 (fun n => rfl) H
      obtain ⟨e1, rfl⟩ := Ev.dpos rfl rfl H
      obtain ⟨vK15, MK15, K15, H⟩ := Ev.callb (fun n => gs_7 rfl rfl (show gCal (.invokevirtual 68) 3 (.int 3 :: .ref 3 :: []) M = some (.inr (27, [some (.ref 3), some (.int 3)], [])) from by show @cond (Option ((List Value × Mem) ⊕ (Nat × Lo × List Value))) (true && gRecv M (.ref 3) 3 && gRoom [] && true) (some (.inr (27, [some (.ref 3), some (.int 3)], []))) none = _; rw [recv_s hS.1 qa_3 qo_3]; rfl)) H
      have K15 : Ev none e1 27 0 [some (.ref 3), some (.int 3)] [] M vK15 MK15 0 0 := K15
      have HF := H
      exact Or.inr (Or.inr (⟨h1, h3, ⟨e1, vK15, MK15, rfl, K15, HF⟩⟩))
theorem ln3_72 {e : Nat} {M M' : Mem} {v : Option Value} {a y : Int32} (hS : SQ M) (a_t : gNth sT (fR M 3 8) = some 28) (H : Ev none e 33 72 [some (.ref 3), some (.int a), some (.int 3), none, none, none, none] [.int y] M v M' 0 0) : v = some (.int y) ∧ M' = M := by
  obtain ⟨z1, z2⟩ := Ev.retz rfl rfl H
  exact ⟨z1, z2⟩
theorem ln3_147 {e : Nat} {M M' : Mem} {v : Option Value} {a i : Int32} (hS : SQ M) (a_t : gNth sT (fR M 3 8) = some 28) (H : Ev none e 33 147 [some (.ref 3), some (.int a), some (.int 3), some (.int i), none, none, none] [] M v M' 0 0) : (∃ e1 v1 M1, e = e1 + 1 ∧ Ev none e1 35 0 [some (.ref 3), some (.int i), some (.int 3), none, none, none] [] M v1 M1 0 0 ∧ Ev none e 33 175 [some (.ref 3), some (.int a), some (.int 3), some (.int i), none, none, none] (v1.toList ++ []) M1 v M' 0 0) := by
  have H : Ev none e 33 (if 3 = 6 then 178 else 153) [some (.ref 3), some (.int a), some (.int 3), some (.int i), none, none, none] [] M v M' 0 0 := Ev.back 3 (fun n => rfl) H
  rw [if_neg (by decide)] at H
  have H : Ev none e 33 (if 3 = 5 then 158 else 169) [some (.ref 3), some (.int a), some (.int 3), some (.int i), none, none, none] [] M v M' 0 0 := Ev.back 3 (fun n => rfl) H
  rw [if_neg (by decide)] at H
  have H : Ev none e 33 172 [some (.ref 3), some (.int a), some (.int 3), some (.int i), none, none, none] [.int 3, .int i, .ref 3] M v M' 0 0 := Ev.back 3 (fun n => rfl) H
  obtain ⟨e1, rfl⟩ := Ev.dpos rfl rfl H
  obtain ⟨vK1, MK1, K1, H⟩ := Ev.callb (fun n => gs_7 rfl rfl (show gCal (.invokevirtual 146) 3 (.int 3 :: .int i :: .ref 3 :: []) M = some (.inr (35, [some (.ref 3), some (.int i), some (.int 3), none, none, none], [])) from by show @cond (Option ((List Value × Mem) ⊕ (Nat × Lo × List Value))) (true && gRecv M (.ref 3) 3 && gRoom [] && true) (some (.inr (35, [some (.ref 3), some (.int i), some (.int 3), none, none, none], []))) none = _; rw [recv_s hS.1 qa_3 qo_3]; rfl)) H
  have K1 : Ev none e1 35 0 [some (.ref 3), some (.int i), some (.int 3), none, none, none] [] M vK1 MK1 0 0 := K1
  have HF := H
  exact ⟨e1, vK1, MK1, rfl, K1, HF⟩
theorem ln3_175 {e : Nat} {M M' : Mem} {v : Option Value} {a i y : Int32} (hS : SQ M) (a_t : gNth sT (fR M 3 8) = some 28) (H : Ev none e 33 175 [some (.ref 3), some (.int a), some (.int 3), some (.int i), none, none, none] [.int y] M v M' 0 0) : (y = 0 ∧ v = some (.int 0) ∧ M' = M) ∨ (¬ (y = 0) ∧ (zI M 3 7) = 59 ∧ (∃ e1 v1 M1, e = e1 + 1 ∧ Ev none e1 31 0 [some (.ref 3)] [] M v1 M1 0 0 ∧ Ev none e 33 283 [some (.ref 3), some (.int a), some (.int 3), some (.int i), some (.int 1), some (.int 0), some (.int 0)] (v1.toList ++ []) M1 v M' 0 0)) ∨ (¬ (y = 0) ∧ ¬ ((zI M 3 7) = 59) ∧ (∃ e1 v1 M1, e = e1 + 1 ∧ Ev none e1 27 0 [some (.ref 3), some (.int 1)] [] M v1 M1 0 0 ∧ Ev none e 33 278 [some (.ref 3), some (.int a), some (.int 3), some (.int i), some (.int 1), some (.int 0), some (.int 0)] (v1.toList ++ []) M1 v M' 0 0)) := by
  have H : Ev none e 33 (if y = 0 then 182 else 178) [some (.ref 3), some (.int a), some (.int 3), some (.int i), none, none, none] [] M v M' 0 0 := Ev.back 1 (fun n => rfl) H
  by_cases h1 : y = 0
  · rw [if_pos h1] at H
    have H : Ev none e 33 (if 0 = 0 then 190 else 192) [some (.ref 3), some (.int a), some (.int 3), some (.int i), some (.int 0), none, none] [] M v M' 0 0 := Ev.back 4 (fun n => rfl) H
    rw [if_pos (by decide)] at H
    have H : Ev none e 33 191 [some (.ref 3), some (.int a), some (.int 3), some (.int i), some (.int 0), none, none] [.int 0] M v M' 0 0 := Ev.back 1 (fun n => rfl) H
    obtain ⟨z1, z2⟩ := Ev.retz rfl rfl H
    exact Or.inl ⟨h1, z1, z2⟩
  · rw [if_neg h1] at H
    have H : Ev none e 33 (if 1 = 0 then 190 else 192) [some (.ref 3), some (.int a), some (.int 3), some (.int i), some (.int 1), none, none] [] M v M' 0 0 := Ev.back 5 (fun n => rfl) H
    rw [if_neg (by decide)] at H
    have H : Ev none e 33 (if 3 = 0 then 206 else 196) [some (.ref 3), some (.int a), some (.int 3), some (.int i), some (.int 1), none, none] [] M v M' 0 0 := Ev.back 2 (fun n => rfl) H
    rw [if_neg (by decide)] at H
    have H : Ev none e 33 (if 3 = 1 then 206 else 201) [some (.ref 3), some (.int a), some (.int 3), some (.int i), some (.int 1), none, none] [] M v M' 0 0 := Ev.back 3 (fun n => rfl) H
    rw [if_neg (by decide)] at H
    have H : Ev none e 33 (if 3 = 5 then 206 else 210) [some (.ref 3), some (.int a), some (.int 3), some (.int i), some (.int 1), none, none] [] M v M' 0 0 := Ev.back 3 (fun n => rfl) H
    rw [if_neg (by decide)] at H
    have H : Ev none e 33 (if 0 = 0 then 231 else 218) [some (.ref 3), some (.int a), some (.int 3), some (.int i), some (.int 1), some (.int 0), none] [] M v M' 0 0 := Ev.back 4 (fun n => rfl) H
    rw [if_pos (by decide)] at H
    have H : Ev none e 33 (if 0 = 0 then 243 else 239) [some (.ref 3), some (.int a), some (.int 3), some (.int i), some (.int 1), some (.int 0), some (.int 0)] [] M v M' 0 0 := Ev.back 4 (fun n => rfl) H
    rw [if_pos (by decide)] at H
    have H : Ev none e 33 (if 0 = 0 then 248 else 254) [some (.ref 3), some (.int a), some (.int 3), some (.int i), some (.int 1), some (.int 0), some (.int 0)] [] M v M' 0 0 := Ev.back 2 (fun n => rfl) H
    rw [if_pos (by decide)] at H
    have H : Ev none e 33 (if 3 = 6 then 254 else 264) [some (.ref 3), some (.int a), some (.int 3), some (.int i), some (.int 1), some (.int 0), some (.int 0)] [] M v M' 0 0 := Ev.back 3 (fun n => rfl) H
    rw [if_neg (by decide)] at H
    have H : Ev none e 33 265 [some (.ref 3), some (.int a), some (.int 3), some (.int i), some (.int 1), some (.int 0), some (.int 0)] [.ref 3] M v M' 0 0 := Ev.back 1 (fun n => rfl) H
    have H : Ev none e 33 268 [some (.ref 3), some (.int a), some (.int 3), some (.int i), some (.int 1), some (.int 0), some (.int 0)] [.int (zI M 3 7)] M v M' 0 0 := Ev.back 1 (gs_3 rfl rfl (gf_i hS.1 qa_3 qi_3_7 rfl)) H
    have H : Ev none e 33 (if (zI M 3 7) = 59 then 279 else 273) [some (.ref 3), some (.int a), some (.int 3), some (.int i), some (.int 1), some (.int 0), some (.int 0)] [] M v M' 0 0 := Ev.back 2 (fun n => rfl) H
    by_cases h2 : (zI M 3 7) = 59
    · rw [if_pos h2] at H
      have H : Ev none e 33 280 [some (.ref 3), some (.int a), some (.int 3), some (.int i), some (.int 1), some (.int 0), some (.int 0)] [.ref 3] M v M' 0 0 := Ev.back 1 (fun n => rfl) H
      obtain ⟨e1, rfl⟩ := Ev.dpos rfl rfl H
      obtain ⟨vK3, MK3, K3, H⟩ := Ev.callb (fun n => gs_7 rfl rfl (show gCal (.invokevirtual 140) 3 (.ref 3 :: []) M = some (.inr (31, [some (.ref 3)], [])) from by show @cond (Option ((List Value × Mem) ⊕ (Nat × Lo × List Value))) (true && gRecv M (.ref 3) 3 && gRoom [] && true) (some (.inr (31, [some (.ref 3)], []))) none = _; rw [recv_s hS.1 qa_3 qo_3]; rfl)) H
      have K3 : Ev none e1 31 0 [some (.ref 3)] [] M vK3 MK3 0 0 := K3
      have HF := H
      exact Or.inr (Or.inl ⟨h1, h2, ⟨e1, vK3, MK3, rfl, K3, HF⟩⟩)
    · rw [if_neg h2] at H
      have H : Ev none e 33 275 [some (.ref 3), some (.int a), some (.int 3), some (.int i), some (.int 1), some (.int 0), some (.int 0)] [.int 1, .ref 3] M v M' 0 0 := Ev.back 2 (fun n => rfl) H
      obtain ⟨e1, rfl⟩ := Ev.dpos rfl rfl H
      obtain ⟨vK4, MK4, K4, H⟩ := Ev.callb (fun n => gs_7 rfl rfl (show gCal (.invokevirtual 68) 3 (.int 1 :: .ref 3 :: []) M = some (.inr (27, [some (.ref 3), some (.int 1)], [])) from by show @cond (Option ((List Value × Mem) ⊕ (Nat × Lo × List Value))) (true && gRecv M (.ref 3) 3 && gRoom [] && true) (some (.inr (27, [some (.ref 3), some (.int 1)], []))) none = _; rw [recv_s hS.1 qa_3 qo_3]; rfl)) H
      have K4 : Ev none e1 27 0 [some (.ref 3), some (.int 1)] [] M vK4 MK4 0 0 := K4
      have HF := H
      exact Or.inr (Or.inr (⟨h1, h2, ⟨e1, vK4, MK4, rfl, K4, HF⟩⟩))
theorem ln3_278 {e : Nat} {M M' : Mem} {v : Option Value} {a i y : Int32} {c5 c6 : Option Value} (hS : SQ M) (a_t : gNth sT (fR M 3 8) = some 28) (H : Ev none e 33 278 [some (.ref 3), some (.int a), some (.int 3), some (.int i), some (.int 1), c5, c6] [.int y] M v M' 0 0) : v = some (.int y) ∧ M' = M := by
  obtain ⟨z1, z2⟩ := Ev.retz rfl rfl H
  exact ⟨z1, z2⟩
theorem ln3_283 {e : Nat} {M M' : Mem} {v : Option Value} {a i : Int32} {c5 c6 : Option Value} (hS : SQ M) (a_t : gNth sT (fR M 3 8) = some 28) (H : Ev none e 33 283 [some (.ref 3), some (.int a), some (.int 3), some (.int i), some (.int 1), c5, c6] [] M v M' 0 0) : (0 ≤ i.toInt ∧ i.toInt < 16) ∧ v = some (.int 1) ∧ M' = (wF (wI M (fR M 3 8 + 5) i.toNatClampNeg (zI M (fR M 3 8) 9)) (fR M 3 8) 8 ((zI M (fR M 3 8) 8) + 1)) := by
  have H : Ev none e 33 284 [some (.ref 3), some (.int a), some (.int 3), some (.int i), some (.int 1), c5, c6] [.ref 3] M v M' 0 0 := Ev.back 1 (fun n => rfl) H
  have H : Ev none e 33 287 [some (.ref 3), some (.int a), some (.int 3), some (.int i), some (.int 1), c5, c6] [.ref (fR M 3 8)] M v M' 0 0 := Ev.back 1 (gs_3 rfl rfl (gf_n hS.1 qa_3 qn_3_8 (by decide) a_t rfl)) H
  have H : Ev none e 33 290 [some (.ref 3), some (.int a), some (.int 3), some (.int i), some (.int 1), c5, c6] [.ref (fR M 3 8 + 5)] M v M' 0 0 := Ev.back 1 (gs_3 rfl rfl (gf_x hS.1 a_t qo_28 (fx_t4 hS a_t) rfl)) H
  have H : Ev none e 33 292 [some (.ref 3), some (.int a), some (.int 3), some (.int i), some (.int 1), c5, c6] [.ref 3, .int i, .ref (fR M 3 8 + 5)] M v M' 0 0 := Ev.back 2 (fun n => rfl) H
  have H : Ev none e 33 295 [some (.ref 3), some (.int a), some (.int 3), some (.int i), some (.int 1), c5, c6] [.ref (fR M 3 8), .int i, .ref (fR M 3 8 + 5)] M v M' 0 0 := Ev.back 1 (gs_3 rfl rfl (gf_n hS.1 qa_3 qn_3_8 (by decide) a_t rfl)) H
  have H : Ev none e 33 298 [some (.ref 3), some (.int a), some (.int 3), some (.int i), some (.int 1), c5, c6] [.int (zI M (fR M 3 8) 9), .int i, .ref (fR M 3 8 + 5)] M v M' 0 0 := Ev.back 1 (gs_3 rfl rfl (gf_i hS.1 a_t qi_28_9 rfl)) H
  obtain ⟨b1, H⟩ := Ev.ias rfl rfl hS.1 (fx_g4 a_t) qw_33 H
  obtain ⟨N2, eN2⟩ : ∃ N, N = (wI M (fR M 3 8 + 5) i.toNatClampNeg (zI M (fR M 3 8) 9)) := ⟨_, rfl⟩
  have hN2 : SQ N2 := by rw [eN2]; exact hS.ki
  have H : Ev none e 33 299 [some (.ref 3), some (.int a), some (.int 3), some (.int i), some (.int 1), c5, c6] [] N2 v M' 0 0 := by rw [eN2]; exact H
  have H : Ev none e 33 300 [some (.ref 3), some (.int a), some (.int 3), some (.int i), some (.int 1), c5, c6] [.ref 3] N2 v M' 0 0 := Ev.back 1 (fun n => rfl) H
  have H : Ev none e 33 303 [some (.ref 3), some (.int a), some (.int 3), some (.int i), some (.int 1), c5, c6] [.ref (fR N2 3 8)] N2 v M' 0 0 := Ev.back 1 (gs_3 rfl rfl (gf_n hN2.1 qa_3 qn_3_8 (by decide) (by rw [show fR N2 3 8 = fR M 3 8 from by rw [eN2]; exact fR_wI]; exact a_t) rfl)) H
  rw [show fR N2 3 8 = fR M 3 8 from by rw [eN2]; exact fR_wI] at H
  have H : Ev none e 33 304 [some (.ref 3), some (.int a), some (.int 3), some (.int i), some (.int 1), c5, c6] [.ref (fR M 3 8), .ref (fR M 3 8)] N2 v M' 0 0 := Ev.back 1 (fun n => rfl) H
  have H : Ev none e 33 307 [some (.ref 3), some (.int a), some (.int 3), some (.int i), some (.int 1), c5, c6] [.int (zI N2 (fR M 3 8) 8), .ref (fR M 3 8)] N2 v M' 0 0 := Ev.back 1 (gs_3 rfl rfl (gf_i hN2.1 a_t qi_28_8 rfl)) H
  rw [show zI N2 (fR M 3 8) 8 = zI M (fR M 3 8) 8 from by rw [eN2]; exact fI_wI] at H
  have H : Ev none e 33 309 [some (.ref 3), some (.int a), some (.int 3), some (.int i), some (.int 1), c5, c6] [.int ((zI M (fR M 3 8) 8) + 1), .ref (fR M 3 8)] N2 v M' 0 0 := Ev.back 2 (fun n => rfl) H
  obtain ⟨N4, eN4⟩ : ∃ N, N = (wF N2 (fR M 3 8) 8 ((zI M (fR M 3 8) 8) + 1)) := ⟨_, rfl⟩
  have hN4 : SQ N4 := by rw [eN4]; exact hN2.kf
  have H : Ev none e 33 312 [some (.ref 3), some (.int a), some (.int 3), some (.int i), some (.int 1), c5, c6] [] N4 v M' 0 0 := by rw [eN4]; exact Ev.pfi rfl rfl rfl hN2.1 a_t qi_28_8 H
  have H : Ev none e 33 313 [some (.ref 3), some (.int a), some (.int 3), some (.int i), some (.int 1), c5, c6] [.int 1] N4 v M' 0 0 := Ev.back 1 (fun n => rfl) H
  obtain ⟨z1, z2⟩ := Ev.retz rfl rfl H
  subst eN2 eN4
  exact ⟨b1, z1, z2⟩
theorem ln4_44 {e : Nat} {M M' : Mem} {v : Option Value} {a : Int32} (hS : SQ M) (a_t : gNth sT (fR M 3 8) = some 28) (H : Ev none e 33 44 [some (.ref 3), some (.int a), some (.int 4), none, none, none, none] [] M v M' 0 0) : (16 ≤ (zI M (fR M 3 8) 8) ∧ (∃ e1 v1 M1, e = e1 + 1 ∧ Ev none e1 27 0 [some (.ref 3), some (.int 3)] [] M v1 M1 0 0 ∧ Ev none e 33 72 [some (.ref 3), some (.int a), some (.int 4), none, none, none, none] (v1.toList ++ []) M1 v M' 0 0)) ∨ (¬ (16 ≤ (zI M (fR M 3 8) 8)) ∧ ((zI M 3 10) &&& ((1 : Int32) <<< ((4 : Int32) &&& 31))) = 0 ∧ (0 ≤ (zI M (fR M 3 8) 8).toInt ∧ (zI M (fR M 3 8) 8).toInt < 16) ∧ (0 ≤ (zI M (fR M 3 8) 8).toInt ∧ (zI M (fR M 3 8) 8).toInt < 16) ∧ (0 ≤ (zI M (fR M 3 8) 8).toInt ∧ (zI M (fR M 3 8) 8).toInt < 16) ∧ (0 ≤ (zI M (fR M 3 8) 8).toInt ∧ (zI M (fR M 3 8) 8).toInt < 16) ∧ (0 ≤ (zI M (fR M 3 8) 8).toInt ∧ (zI M (fR M 3 8) 8).toInt < 16) ∧ (∃ e1 v1 M1, e = e1 + 1 ∧ Ev none e1 31 0 [some (.ref 3)] [] (wI (wI (wI (wI (wI M (fR M 3 8 + 1) ((zI M (fR M 3 8) 8).toNatClampNeg) 4) (fR M 3 8 + 2) ((zI M (fR M 3 8) 8).toNatClampNeg) 0) (fR M 3 8 + 3) ((zI M (fR M 3 8) 8).toNatClampNeg) 0) (fR M 3 8 + 4) ((zI M (fR M 3 8) 8).toNatClampNeg) (zI M (fR M 3 8) 9)) (fR M 3 8 + 5) ((zI M (fR M 3 8) 8).toNatClampNeg) (zI M (fR M 3 8) 9)) v1 M1 0 0 ∧ Ev none e 33 147 [some (.ref 3), some (.int a), some (.int 4), some (.int (zI M (fR M 3 8) 8)), none, none, none] (v1.toList ++ []) M1 v M' 0 0)) ∨ (¬ (16 ≤ (zI M (fR M 3 8) 8)) ∧ ¬ (((zI M 3 10) &&& ((1 : Int32) <<< ((4 : Int32) &&& 31))) = 0) ∧ (∃ e1 v1 M1, e = e1 + 1 ∧ Ev none e1 27 0 [some (.ref 3), some (.int 3)] [] M v1 M1 0 0 ∧ Ev none e 33 72 [some (.ref 3), some (.int a), some (.int 4), none, none, none, none] (v1.toList ++ []) M1 v M' 0 0)) := by
  have H : Ev none e 33 45 [some (.ref 3), some (.int a), some (.int 4), none, none, none, none] [.ref 3] M v M' 0 0 := Ev.back 1 (fun n => rfl) H
  have H : Ev none e 33 48 [some (.ref 3), some (.int a), some (.int 4), none, none, none, none] [.ref (fR M 3 8)] M v M' 0 0 := Ev.back 1 (gs_3 rfl rfl (gf_n hS.1 qa_3 qn_3_8 (by decide) a_t rfl)) H
  have H : Ev none e 33 51 [some (.ref 3), some (.int a), some (.int 4), none, none, none, none] [.int (zI M (fR M 3 8) 8)] M v M' 0 0 := Ev.back 1 (gs_3 rfl rfl (gf_i hS.1 a_t qi_28_8 rfl)) H
  have H : Ev none e 33 (if 16 ≤ (zI M (fR M 3 8) 8) then 67 else 56) [some (.ref 3), some (.int a), some (.int 4), none, none, none, none] [] M v M' 0 0 := Ev.back 2 (fun n => rfl) H
  by_cases h1 : 16 ≤ (zI M (fR M 3 8) 8)
  · rw [if_pos h1] at H
    have H : Ev none e 33 69 [some (.ref 3), some (.int a), some (.int 4), none, none, none, none] [.int 3, .ref 3] M v M' 0 0 := Ev.back 2 (fun n => rfl) H
    obtain ⟨e1, rfl⟩ := Ev.dpos rfl rfl H
    obtain ⟨vK2, MK2, K2, H⟩ := Ev.callb (fun n => gs_7 rfl rfl (show gCal (.invokevirtual 68) 3 (.int 3 :: .ref 3 :: []) M = some (.inr (27, [some (.ref 3), some (.int 3)], [])) from by show @cond (Option ((List Value × Mem) ⊕ (Nat × Lo × List Value))) (true && gRecv M (.ref 3) 3 && gRoom [] && true) (some (.inr (27, [some (.ref 3), some (.int 3)], []))) none = _; rw [recv_s hS.1 qa_3 qo_3]; rfl)) H
    have K2 : Ev none e1 27 0 [some (.ref 3), some (.int 3)] [] M vK2 MK2 0 0 := K2
    have HF := H
    exact Or.inl ⟨h1, ⟨e1, vK2, MK2, rfl, K2, HF⟩⟩
  · rw [if_neg h1] at H
    have H : Ev none e 33 57 [some (.ref 3), some (.int a), some (.int 4), none, none, none, none] [.ref 3] M v M' 0 0 := Ev.back 1 (fun n => rfl) H
    have H : Ev none e 33 60 [some (.ref 3), some (.int a), some (.int 4), none, none, none, none] [.int (zI M 3 10)] M v M' 0 0 := Ev.back 1 (gs_3 rfl rfl (gf_i hS.1 qa_3 qi_3_10 rfl)) H
    have H : Ev none e 33 (if ((zI M 3 10) &&& ((1 : Int32) <<< ((4 : Int32) &&& 31))) = 0 then 73 else 67) [some (.ref 3), some (.int a), some (.int 4), none, none, none, none] [] M v M' 0 0 := Ev.back 5 (fun n => rfl) H
    by_cases h3 : ((zI M 3 10) &&& ((1 : Int32) <<< ((4 : Int32) &&& 31))) = 0
    · rw [if_pos h3] at H
      have H : Ev none e 33 74 [some (.ref 3), some (.int a), some (.int 4), none, none, none, none] [.ref 3] M v M' 0 0 := Ev.back 1 (fun n => rfl) H
      have H : Ev none e 33 77 [some (.ref 3), some (.int a), some (.int 4), none, none, none, none] [.ref (fR M 3 8)] M v M' 0 0 := Ev.back 1 (gs_3 rfl rfl (gf_n hS.1 qa_3 qn_3_8 (by decide) a_t rfl)) H
      have H : Ev none e 33 80 [some (.ref 3), some (.int a), some (.int 4), none, none, none, none] [.int (zI M (fR M 3 8) 8)] M v M' 0 0 := Ev.back 1 (gs_3 rfl rfl (gf_i hS.1 a_t qi_28_8 rfl)) H
      have H : Ev none e 33 82 [some (.ref 3), some (.int a), some (.int 4), some (.int (zI M (fR M 3 8) 8)), none, none, none] [.ref 3] M v M' 0 0 := Ev.back 2 (fun n => rfl) H
      have H : Ev none e 33 85 [some (.ref 3), some (.int a), some (.int 4), some (.int (zI M (fR M 3 8) 8)), none, none, none] [.ref (fR M 3 8)] M v M' 0 0 := Ev.back 1 (gs_3 rfl rfl (gf_n hS.1 qa_3 qn_3_8 (by decide) a_t rfl)) H
      have H : Ev none e 33 88 [some (.ref 3), some (.int a), some (.int 4), some (.int (zI M (fR M 3 8) 8)), none, none, none] [.ref (fR M 3 8 + 1)] M v M' 0 0 := Ev.back 1 (gs_3 rfl rfl (gf_x hS.1 a_t qo_28 (fx_t0 hS a_t) rfl)) H
      have H : Ev none e 33 90 [some (.ref 3), some (.int a), some (.int 4), some (.int (zI M (fR M 3 8) 8)), none, none, none] [.int 4, .int (zI M (fR M 3 8) 8), .ref (fR M 3 8 + 1)] M v M' 0 0 := Ev.back 2 (fun n => rfl) H
      obtain ⟨b4, H⟩ := Ev.ias rfl rfl hS.1 (fx_g0 a_t) qw_29 H
      obtain ⟨N5, eN5⟩ : ∃ N, N = (wI M (fR M 3 8 + 1) ((zI M (fR M 3 8) 8).toNatClampNeg) 4) := ⟨_, rfl⟩
      have hN5 : SQ N5 := by rw [eN5]; exact hS.ki
      have H : Ev none e 33 91 [some (.ref 3), some (.int a), some (.int 4), some (.int (zI M (fR M 3 8) 8)), none, none, none] [] N5 v M' 0 0 := by rw [eN5]; exact H
      have H : Ev none e 33 92 [some (.ref 3), some (.int a), some (.int 4), some (.int (zI M (fR M 3 8) 8)), none, none, none] [.ref 3] N5 v M' 0 0 := Ev.back 1 (fun n => rfl) H
      have H : Ev none e 33 95 [some (.ref 3), some (.int a), some (.int 4), some (.int (zI M (fR M 3 8) 8)), none, none, none] [.ref (fR N5 3 8)] N5 v M' 0 0 := Ev.back 1 (gs_3 rfl rfl (gf_n hN5.1 qa_3 qn_3_8 (by decide) (by rw [show fR N5 3 8 = fR M 3 8 from by rw [eN5]; exact fR_wI]; exact a_t) rfl)) H
      rw [show fR N5 3 8 = fR M 3 8 from by rw [eN5]; exact fR_wI] at H
      have H : Ev none e 33 98 [some (.ref 3), some (.int a), some (.int 4), some (.int (zI M (fR M 3 8) 8)), none, none, none] [.ref (fR M 3 8 + 2)] N5 v M' 0 0 := Ev.back 1 (gs_3 rfl rfl (gf_x hN5.1 a_t qo_28 (fx_t1 hN5 a_t) rfl)) H
      have H : Ev none e 33 100 [some (.ref 3), some (.int a), some (.int 4), some (.int (zI M (fR M 3 8) 8)), none, none, none] [.int 0, .int (zI M (fR M 3 8) 8), .ref (fR M 3 8 + 2)] N5 v M' 0 0 := Ev.back 2 (fun n => rfl) H
      obtain ⟨b6, H⟩ := Ev.ias rfl rfl hN5.1 (fx_g1 a_t) qw_30 H
      obtain ⟨N7, eN7⟩ : ∃ N, N = (wI N5 (fR M 3 8 + 2) ((zI M (fR M 3 8) 8).toNatClampNeg) 0) := ⟨_, rfl⟩
      have hN7 : SQ N7 := by rw [eN7]; exact hN5.ki
      have H : Ev none e 33 101 [some (.ref 3), some (.int a), some (.int 4), some (.int (zI M (fR M 3 8) 8)), none, none, none] [] N7 v M' 0 0 := by rw [eN7]; exact H
      have H : Ev none e 33 102 [some (.ref 3), some (.int a), some (.int 4), some (.int (zI M (fR M 3 8) 8)), none, none, none] [.ref 3] N7 v M' 0 0 := Ev.back 1 (fun n => rfl) H
      have H : Ev none e 33 105 [some (.ref 3), some (.int a), some (.int 4), some (.int (zI M (fR M 3 8) 8)), none, none, none] [.ref (fR N7 3 8)] N7 v M' 0 0 := Ev.back 1 (gs_3 rfl rfl (gf_n hN7.1 qa_3 qn_3_8 (by decide) (by rw [(show fR N7 3 8 = fR N5 3 8 from by rw [eN7]; exact fR_wI).trans (show fR N5 3 8 = fR M 3 8 from by rw [eN5]; exact fR_wI)]; exact a_t) rfl)) H
      rw [(show fR N7 3 8 = fR N5 3 8 from by rw [eN7]; exact fR_wI).trans (show fR N5 3 8 = fR M 3 8 from by rw [eN5]; exact fR_wI)] at H
      have H : Ev none e 33 108 [some (.ref 3), some (.int a), some (.int 4), some (.int (zI M (fR M 3 8) 8)), none, none, none] [.ref (fR M 3 8 + 3)] N7 v M' 0 0 := Ev.back 1 (gs_3 rfl rfl (gf_x hN7.1 a_t qo_28 (fx_t2 hN7 a_t) rfl)) H
      have H : Ev none e 33 110 [some (.ref 3), some (.int a), some (.int 4), some (.int (zI M (fR M 3 8) 8)), none, none, none] [.int 0, .int (zI M (fR M 3 8) 8), .ref (fR M 3 8 + 3)] N7 v M' 0 0 := Ev.back 2 (fun n => rfl) H
      obtain ⟨b8, H⟩ := Ev.ias rfl rfl hN7.1 (fx_g2 a_t) qw_31 H
      obtain ⟨N9, eN9⟩ : ∃ N, N = (wI N7 (fR M 3 8 + 3) ((zI M (fR M 3 8) 8).toNatClampNeg) 0) := ⟨_, rfl⟩
      have hN9 : SQ N9 := by rw [eN9]; exact hN7.ki
      have H : Ev none e 33 111 [some (.ref 3), some (.int a), some (.int 4), some (.int (zI M (fR M 3 8) 8)), none, none, none] [] N9 v M' 0 0 := by rw [eN9]; exact H
      have H : Ev none e 33 112 [some (.ref 3), some (.int a), some (.int 4), some (.int (zI M (fR M 3 8) 8)), none, none, none] [.ref 3] N9 v M' 0 0 := Ev.back 1 (fun n => rfl) H
      have H : Ev none e 33 115 [some (.ref 3), some (.int a), some (.int 4), some (.int (zI M (fR M 3 8) 8)), none, none, none] [.ref (fR N9 3 8)] N9 v M' 0 0 := Ev.back 1 (gs_3 rfl rfl (gf_n hN9.1 qa_3 qn_3_8 (by decide) (by rw [((show fR N9 3 8 = fR N7 3 8 from by rw [eN9]; exact fR_wI).trans (show fR N7 3 8 = fR N5 3 8 from by rw [eN7]; exact fR_wI)).trans (show fR N5 3 8 = fR M 3 8 from by rw [eN5]; exact fR_wI)]; exact a_t) rfl)) H
      rw [((show fR N9 3 8 = fR N7 3 8 from by rw [eN9]; exact fR_wI).trans (show fR N7 3 8 = fR N5 3 8 from by rw [eN7]; exact fR_wI)).trans (show fR N5 3 8 = fR M 3 8 from by rw [eN5]; exact fR_wI)] at H
      have H : Ev none e 33 118 [some (.ref 3), some (.int a), some (.int 4), some (.int (zI M (fR M 3 8) 8)), none, none, none] [.ref (fR M 3 8 + 4)] N9 v M' 0 0 := Ev.back 1 (gs_3 rfl rfl (gf_x hN9.1 a_t qo_28 (fx_t3 hN9 a_t) rfl)) H
      have H : Ev none e 33 120 [some (.ref 3), some (.int a), some (.int 4), some (.int (zI M (fR M 3 8) 8)), none, none, none] [.ref 3, .int (zI M (fR M 3 8) 8), .ref (fR M 3 8 + 4)] N9 v M' 0 0 := Ev.back 2 (fun n => rfl) H
      have H : Ev none e 33 123 [some (.ref 3), some (.int a), some (.int 4), some (.int (zI M (fR M 3 8) 8)), none, none, none] [.ref (fR N9 3 8), .int (zI M (fR M 3 8) 8), .ref (fR M 3 8 + 4)] N9 v M' 0 0 := Ev.back 1 (gs_3 rfl rfl (gf_n hN9.1 qa_3 qn_3_8 (by decide) (by rw [((show fR N9 3 8 = fR N7 3 8 from by rw [eN9]; exact fR_wI).trans (show fR N7 3 8 = fR N5 3 8 from by rw [eN7]; exact fR_wI)).trans (show fR N5 3 8 = fR M 3 8 from by rw [eN5]; exact fR_wI)]; exact a_t) rfl)) H
      rw [((show fR N9 3 8 = fR N7 3 8 from by rw [eN9]; exact fR_wI).trans (show fR N7 3 8 = fR N5 3 8 from by rw [eN7]; exact fR_wI)).trans (show fR N5 3 8 = fR M 3 8 from by rw [eN5]; exact fR_wI)] at H
      have H : Ev none e 33 126 [some (.ref 3), some (.int a), some (.int 4), some (.int (zI M (fR M 3 8) 8)), none, none, none] [.int (zI N9 (fR M 3 8) 9), .int (zI M (fR M 3 8) 8), .ref (fR M 3 8 + 4)] N9 v M' 0 0 := Ev.back 1 (gs_3 rfl rfl (gf_i hN9.1 a_t qi_28_9 rfl)) H
      rw [((show zI N9 (fR M 3 8) 9 = zI N7 (fR M 3 8) 9 from by rw [eN9]; exact fI_wI).trans (show zI N7 (fR M 3 8) 9 = zI N5 (fR M 3 8) 9 from by rw [eN7]; exact fI_wI)).trans (show zI N5 (fR M 3 8) 9 = zI M (fR M 3 8) 9 from by rw [eN5]; exact fI_wI)] at H
      obtain ⟨b10, H⟩ := Ev.ias rfl rfl hN9.1 (fx_g3 a_t) qw_32 H
      obtain ⟨N11, eN11⟩ : ∃ N, N = (wI N9 (fR M 3 8 + 4) ((zI M (fR M 3 8) 8).toNatClampNeg) (zI M (fR M 3 8) 9)) := ⟨_, rfl⟩
      have hN11 : SQ N11 := by rw [eN11]; exact hN9.ki
      have H : Ev none e 33 127 [some (.ref 3), some (.int a), some (.int 4), some (.int (zI M (fR M 3 8) 8)), none, none, none] [] N11 v M' 0 0 := by rw [eN11]; exact H
      have H : Ev none e 33 128 [some (.ref 3), some (.int a), some (.int 4), some (.int (zI M (fR M 3 8) 8)), none, none, none] [.ref 3] N11 v M' 0 0 := Ev.back 1 (fun n => rfl) H
      have H : Ev none e 33 131 [some (.ref 3), some (.int a), some (.int 4), some (.int (zI M (fR M 3 8) 8)), none, none, none] [.ref (fR N11 3 8)] N11 v M' 0 0 := Ev.back 1 (gs_3 rfl rfl (gf_n hN11.1 qa_3 qn_3_8 (by decide) (by rw [(((show fR N11 3 8 = fR N9 3 8 from by rw [eN11]; exact fR_wI).trans (show fR N9 3 8 = fR N7 3 8 from by rw [eN9]; exact fR_wI)).trans (show fR N7 3 8 = fR N5 3 8 from by rw [eN7]; exact fR_wI)).trans (show fR N5 3 8 = fR M 3 8 from by rw [eN5]; exact fR_wI)]; exact a_t) rfl)) H
      rw [(((show fR N11 3 8 = fR N9 3 8 from by rw [eN11]; exact fR_wI).trans (show fR N9 3 8 = fR N7 3 8 from by rw [eN9]; exact fR_wI)).trans (show fR N7 3 8 = fR N5 3 8 from by rw [eN7]; exact fR_wI)).trans (show fR N5 3 8 = fR M 3 8 from by rw [eN5]; exact fR_wI)] at H
      have H : Ev none e 33 134 [some (.ref 3), some (.int a), some (.int 4), some (.int (zI M (fR M 3 8) 8)), none, none, none] [.ref (fR M 3 8 + 5)] N11 v M' 0 0 := Ev.back 1 (gs_3 rfl rfl (gf_x hN11.1 a_t qo_28 (fx_t4 hN11 a_t) rfl)) H
      have H : Ev none e 33 136 [some (.ref 3), some (.int a), some (.int 4), some (.int (zI M (fR M 3 8) 8)), none, none, none] [.ref 3, .int (zI M (fR M 3 8) 8), .ref (fR M 3 8 + 5)] N11 v M' 0 0 := Ev.back 2 (fun n => rfl) H
      have H : Ev none e 33 139 [some (.ref 3), some (.int a), some (.int 4), some (.int (zI M (fR M 3 8) 8)), none, none, none] [.ref (fR N11 3 8), .int (zI M (fR M 3 8) 8), .ref (fR M 3 8 + 5)] N11 v M' 0 0 := Ev.back 1 (gs_3 rfl rfl (gf_n hN11.1 qa_3 qn_3_8 (by decide) (by rw [(((show fR N11 3 8 = fR N9 3 8 from by rw [eN11]; exact fR_wI).trans (show fR N9 3 8 = fR N7 3 8 from by rw [eN9]; exact fR_wI)).trans (show fR N7 3 8 = fR N5 3 8 from by rw [eN7]; exact fR_wI)).trans (show fR N5 3 8 = fR M 3 8 from by rw [eN5]; exact fR_wI)]; exact a_t) rfl)) H
      rw [(((show fR N11 3 8 = fR N9 3 8 from by rw [eN11]; exact fR_wI).trans (show fR N9 3 8 = fR N7 3 8 from by rw [eN9]; exact fR_wI)).trans (show fR N7 3 8 = fR N5 3 8 from by rw [eN7]; exact fR_wI)).trans (show fR N5 3 8 = fR M 3 8 from by rw [eN5]; exact fR_wI)] at H
      have H : Ev none e 33 142 [some (.ref 3), some (.int a), some (.int 4), some (.int (zI M (fR M 3 8) 8)), none, none, none] [.int (zI N11 (fR M 3 8) 9), .int (zI M (fR M 3 8) 8), .ref (fR M 3 8 + 5)] N11 v M' 0 0 := Ev.back 1 (gs_3 rfl rfl (gf_i hN11.1 a_t qi_28_9 rfl)) H
      rw [(((show zI N11 (fR M 3 8) 9 = zI N9 (fR M 3 8) 9 from by rw [eN11]; exact fI_wI).trans (show zI N9 (fR M 3 8) 9 = zI N7 (fR M 3 8) 9 from by rw [eN9]; exact fI_wI)).trans (show zI N7 (fR M 3 8) 9 = zI N5 (fR M 3 8) 9 from by rw [eN7]; exact fI_wI)).trans (show zI N5 (fR M 3 8) 9 = zI M (fR M 3 8) 9 from by rw [eN5]; exact fI_wI)] at H
      obtain ⟨b12, H⟩ := Ev.ias rfl rfl hN11.1 (fx_g4 a_t) qw_33 H
      obtain ⟨N13, eN13⟩ : ∃ N, N = (wI N11 (fR M 3 8 + 5) ((zI M (fR M 3 8) 8).toNatClampNeg) (zI M (fR M 3 8) 9)) := ⟨_, rfl⟩
      have hN13 : SQ N13 := by rw [eN13]; exact hN11.ki
      have H : Ev none e 33 143 [some (.ref 3), some (.int a), some (.int 4), some (.int (zI M (fR M 3 8) 8)), none, none, none] [] N13 v M' 0 0 := by rw [eN13]; exact H
      have H : Ev none e 33 144 [some (.ref 3), some (.int a), some (.int 4), some (.int (zI M (fR M 3 8) 8)), none, none, none] [.ref 3] N13 v M' 0 0 := Ev.back 1 (fun n => rfl) H
      obtain ⟨e1, rfl⟩ := Ev.dpos rfl rfl H
      obtain ⟨vK14, MK14, K14, H⟩ := Ev.callb (fun n => gs_7 rfl rfl (show gCal (.invokevirtual 140) 3 (.ref 3 :: []) N13 = some (.inr (31, [some (.ref 3)], [])) from by show @cond (Option ((List Value × Mem) ⊕ (Nat × Lo × List Value))) (true && gRecv N13 (.ref 3) 3 && gRoom [] && true) (some (.inr (31, [some (.ref 3)], []))) none = _; rw [recv_s hN13.1 qa_3 qo_3]; rfl)) H
      have K14 : Ev none e1 31 0 [some (.ref 3)] [] N13 vK14 MK14 0 0 := K14
      have HF := H
      subst eN5 eN7 eN9 eN11 eN13
      exact Or.inr (Or.inl ⟨h1, h3, b4, b6, b8, b10, b12, ⟨e1, vK14, MK14, rfl, K14, HF⟩⟩)
    · rw [if_neg h3] at H
      have H : Ev none e 33 69 [some (.ref 3), some (.int a), some (.int 4), none, none, none, none] [.int 3, .ref 3] M v M' 0 0 := Ev.back 2 (fun n => rfl) H
      obtain ⟨e1, rfl⟩ := Ev.dpos rfl rfl H
      obtain ⟨vK15, MK15, K15, H⟩ := Ev.callb (fun n => gs_7 rfl rfl (show gCal (.invokevirtual 68) 3 (.int 3 :: .ref 3 :: []) M = some (.inr (27, [some (.ref 3), some (.int 3)], [])) from by show @cond (Option ((List Value × Mem) ⊕ (Nat × Lo × List Value))) (true && gRecv M (.ref 3) 3 && gRoom [] && true) (some (.inr (27, [some (.ref 3), some (.int 3)], []))) none = _; rw [recv_s hS.1 qa_3 qo_3]; rfl)) H
      have K15 : Ev none e1 27 0 [some (.ref 3), some (.int 3)] [] M vK15 MK15 0 0 := K15
      have HF := H
      exact Or.inr (Or.inr (⟨h1, h3, ⟨e1, vK15, MK15, rfl, K15, HF⟩⟩))
theorem ln4_72 {e : Nat} {M M' : Mem} {v : Option Value} {a y : Int32} (hS : SQ M) (a_t : gNth sT (fR M 3 8) = some 28) (H : Ev none e 33 72 [some (.ref 3), some (.int a), some (.int 4), none, none, none, none] [.int y] M v M' 0 0) : v = some (.int y) ∧ M' = M := by
  obtain ⟨z1, z2⟩ := Ev.retz rfl rfl H
  exact ⟨z1, z2⟩
theorem ln4_147 {e : Nat} {M M' : Mem} {v : Option Value} {a i : Int32} (hS : SQ M) (a_t : gNth sT (fR M 3 8) = some 28) (H : Ev none e 33 147 [some (.ref 3), some (.int a), some (.int 4), some (.int i), none, none, none] [] M v M' 0 0) : (∃ e1 v1 M1, e = e1 + 1 ∧ Ev none e1 35 0 [some (.ref 3), some (.int i), some (.int 4), none, none, none] [] M v1 M1 0 0 ∧ Ev none e 33 175 [some (.ref 3), some (.int a), some (.int 4), some (.int i), none, none, none] (v1.toList ++ []) M1 v M' 0 0) := by
  have H : Ev none e 33 (if 4 = 6 then 178 else 153) [some (.ref 3), some (.int a), some (.int 4), some (.int i), none, none, none] [] M v M' 0 0 := Ev.back 3 (fun n => rfl) H
  rw [if_neg (by decide)] at H
  have H : Ev none e 33 (if 4 = 5 then 158 else 169) [some (.ref 3), some (.int a), some (.int 4), some (.int i), none, none, none] [] M v M' 0 0 := Ev.back 3 (fun n => rfl) H
  rw [if_neg (by decide)] at H
  have H : Ev none e 33 172 [some (.ref 3), some (.int a), some (.int 4), some (.int i), none, none, none] [.int 4, .int i, .ref 3] M v M' 0 0 := Ev.back 3 (fun n => rfl) H
  obtain ⟨e1, rfl⟩ := Ev.dpos rfl rfl H
  obtain ⟨vK1, MK1, K1, H⟩ := Ev.callb (fun n => gs_7 rfl rfl (show gCal (.invokevirtual 146) 3 (.int 4 :: .int i :: .ref 3 :: []) M = some (.inr (35, [some (.ref 3), some (.int i), some (.int 4), none, none, none], [])) from by show @cond (Option ((List Value × Mem) ⊕ (Nat × Lo × List Value))) (true && gRecv M (.ref 3) 3 && gRoom [] && true) (some (.inr (35, [some (.ref 3), some (.int i), some (.int 4), none, none, none], []))) none = _; rw [recv_s hS.1 qa_3 qo_3]; rfl)) H
  have K1 : Ev none e1 35 0 [some (.ref 3), some (.int i), some (.int 4), none, none, none] [] M vK1 MK1 0 0 := K1
  have HF := H
  exact ⟨e1, vK1, MK1, rfl, K1, HF⟩
theorem ln4_175 {e : Nat} {M M' : Mem} {v : Option Value} {a i y : Int32} (hS : SQ M) (a_t : gNth sT (fR M 3 8) = some 28) (H : Ev none e 33 175 [some (.ref 3), some (.int a), some (.int 4), some (.int i), none, none, none] [.int y] M v M' 0 0) : (y = 0 ∧ v = some (.int 0) ∧ M' = M) ∨ (¬ (y = 0) ∧ (zI M 3 7) = 59 ∧ (∃ e1 v1 M1, e = e1 + 1 ∧ Ev none e1 31 0 [some (.ref 3)] [] M v1 M1 0 0 ∧ Ev none e 33 283 [some (.ref 3), some (.int a), some (.int 4), some (.int i), some (.int 1), some (.int 0), some (.int 0)] (v1.toList ++ []) M1 v M' 0 0)) ∨ (¬ (y = 0) ∧ ¬ ((zI M 3 7) = 59) ∧ (∃ e1 v1 M1, e = e1 + 1 ∧ Ev none e1 27 0 [some (.ref 3), some (.int 1)] [] M v1 M1 0 0 ∧ Ev none e 33 278 [some (.ref 3), some (.int a), some (.int 4), some (.int i), some (.int 1), some (.int 0), some (.int 0)] (v1.toList ++ []) M1 v M' 0 0)) := by
  have H : Ev none e 33 (if y = 0 then 182 else 178) [some (.ref 3), some (.int a), some (.int 4), some (.int i), none, none, none] [] M v M' 0 0 := Ev.back 1 (fun n => rfl) H
  by_cases h1 : y = 0
  · rw [if_pos h1] at H
    have H : Ev none e 33 (if 0 = 0 then 190 else 192) [some (.ref 3), some (.int a), some (.int 4), some (.int i), some (.int 0), none, none] [] M v M' 0 0 := Ev.back 4 (fun n => rfl) H
    rw [if_pos (by decide)] at H
    have H : Ev none e 33 191 [some (.ref 3), some (.int a), some (.int 4), some (.int i), some (.int 0), none, none] [.int 0] M v M' 0 0 := Ev.back 1 (fun n => rfl) H
    obtain ⟨z1, z2⟩ := Ev.retz rfl rfl H
    exact Or.inl ⟨h1, z1, z2⟩
  · rw [if_neg h1] at H
    have H : Ev none e 33 (if 1 = 0 then 190 else 192) [some (.ref 3), some (.int a), some (.int 4), some (.int i), some (.int 1), none, none] [] M v M' 0 0 := Ev.back 5 (fun n => rfl) H
    rw [if_neg (by decide)] at H
    have H : Ev none e 33 (if 4 = 0 then 206 else 196) [some (.ref 3), some (.int a), some (.int 4), some (.int i), some (.int 1), none, none] [] M v M' 0 0 := Ev.back 2 (fun n => rfl) H
    rw [if_neg (by decide)] at H
    have H : Ev none e 33 (if 4 = 1 then 206 else 201) [some (.ref 3), some (.int a), some (.int 4), some (.int i), some (.int 1), none, none] [] M v M' 0 0 := Ev.back 3 (fun n => rfl) H
    rw [if_neg (by decide)] at H
    have H : Ev none e 33 (if 4 = 5 then 206 else 210) [some (.ref 3), some (.int a), some (.int 4), some (.int i), some (.int 1), none, none] [] M v M' 0 0 := Ev.back 3 (fun n => rfl) H
    rw [if_neg (by decide)] at H
    have H : Ev none e 33 (if 0 = 0 then 231 else 218) [some (.ref 3), some (.int a), some (.int 4), some (.int i), some (.int 1), some (.int 0), none] [] M v M' 0 0 := Ev.back 4 (fun n => rfl) H
    rw [if_pos (by decide)] at H
    have H : Ev none e 33 (if 0 = 0 then 243 else 239) [some (.ref 3), some (.int a), some (.int 4), some (.int i), some (.int 1), some (.int 0), some (.int 0)] [] M v M' 0 0 := Ev.back 4 (fun n => rfl) H
    rw [if_pos (by decide)] at H
    have H : Ev none e 33 (if 0 = 0 then 248 else 254) [some (.ref 3), some (.int a), some (.int 4), some (.int i), some (.int 1), some (.int 0), some (.int 0)] [] M v M' 0 0 := Ev.back 2 (fun n => rfl) H
    rw [if_pos (by decide)] at H
    have H : Ev none e 33 (if 4 = 6 then 254 else 264) [some (.ref 3), some (.int a), some (.int 4), some (.int i), some (.int 1), some (.int 0), some (.int 0)] [] M v M' 0 0 := Ev.back 3 (fun n => rfl) H
    rw [if_neg (by decide)] at H
    have H : Ev none e 33 265 [some (.ref 3), some (.int a), some (.int 4), some (.int i), some (.int 1), some (.int 0), some (.int 0)] [.ref 3] M v M' 0 0 := Ev.back 1 (fun n => rfl) H
    have H : Ev none e 33 268 [some (.ref 3), some (.int a), some (.int 4), some (.int i), some (.int 1), some (.int 0), some (.int 0)] [.int (zI M 3 7)] M v M' 0 0 := Ev.back 1 (gs_3 rfl rfl (gf_i hS.1 qa_3 qi_3_7 rfl)) H
    have H : Ev none e 33 (if (zI M 3 7) = 59 then 279 else 273) [some (.ref 3), some (.int a), some (.int 4), some (.int i), some (.int 1), some (.int 0), some (.int 0)] [] M v M' 0 0 := Ev.back 2 (fun n => rfl) H
    by_cases h2 : (zI M 3 7) = 59
    · rw [if_pos h2] at H
      have H : Ev none e 33 280 [some (.ref 3), some (.int a), some (.int 4), some (.int i), some (.int 1), some (.int 0), some (.int 0)] [.ref 3] M v M' 0 0 := Ev.back 1 (fun n => rfl) H
      obtain ⟨e1, rfl⟩ := Ev.dpos rfl rfl H
      obtain ⟨vK3, MK3, K3, H⟩ := Ev.callb (fun n => gs_7 rfl rfl (show gCal (.invokevirtual 140) 3 (.ref 3 :: []) M = some (.inr (31, [some (.ref 3)], [])) from by show @cond (Option ((List Value × Mem) ⊕ (Nat × Lo × List Value))) (true && gRecv M (.ref 3) 3 && gRoom [] && true) (some (.inr (31, [some (.ref 3)], []))) none = _; rw [recv_s hS.1 qa_3 qo_3]; rfl)) H
      have K3 : Ev none e1 31 0 [some (.ref 3)] [] M vK3 MK3 0 0 := K3
      have HF := H
      exact Or.inr (Or.inl ⟨h1, h2, ⟨e1, vK3, MK3, rfl, K3, HF⟩⟩)
    · rw [if_neg h2] at H
      have H : Ev none e 33 275 [some (.ref 3), some (.int a), some (.int 4), some (.int i), some (.int 1), some (.int 0), some (.int 0)] [.int 1, .ref 3] M v M' 0 0 := Ev.back 2 (fun n => rfl) H
      obtain ⟨e1, rfl⟩ := Ev.dpos rfl rfl H
      obtain ⟨vK4, MK4, K4, H⟩ := Ev.callb (fun n => gs_7 rfl rfl (show gCal (.invokevirtual 68) 3 (.int 1 :: .ref 3 :: []) M = some (.inr (27, [some (.ref 3), some (.int 1)], [])) from by show @cond (Option ((List Value × Mem) ⊕ (Nat × Lo × List Value))) (true && gRecv M (.ref 3) 3 && gRoom [] && true) (some (.inr (27, [some (.ref 3), some (.int 1)], []))) none = _; rw [recv_s hS.1 qa_3 qo_3]; rfl)) H
      have K4 : Ev none e1 27 0 [some (.ref 3), some (.int 1)] [] M vK4 MK4 0 0 := K4
      have HF := H
      exact Or.inr (Or.inr (⟨h1, h2, ⟨e1, vK4, MK4, rfl, K4, HF⟩⟩))
theorem ln4_278 {e : Nat} {M M' : Mem} {v : Option Value} {a i y : Int32} {c5 c6 : Option Value} (hS : SQ M) (a_t : gNth sT (fR M 3 8) = some 28) (H : Ev none e 33 278 [some (.ref 3), some (.int a), some (.int 4), some (.int i), some (.int 1), c5, c6] [.int y] M v M' 0 0) : v = some (.int y) ∧ M' = M := by
  obtain ⟨z1, z2⟩ := Ev.retz rfl rfl H
  exact ⟨z1, z2⟩
theorem ln4_283 {e : Nat} {M M' : Mem} {v : Option Value} {a i : Int32} {c5 c6 : Option Value} (hS : SQ M) (a_t : gNth sT (fR M 3 8) = some 28) (H : Ev none e 33 283 [some (.ref 3), some (.int a), some (.int 4), some (.int i), some (.int 1), c5, c6] [] M v M' 0 0) : (0 ≤ i.toInt ∧ i.toInt < 16) ∧ v = some (.int 1) ∧ M' = (wF (wI M (fR M 3 8 + 5) i.toNatClampNeg (zI M (fR M 3 8) 9)) (fR M 3 8) 8 ((zI M (fR M 3 8) 8) + 1)) := by
  have H : Ev none e 33 284 [some (.ref 3), some (.int a), some (.int 4), some (.int i), some (.int 1), c5, c6] [.ref 3] M v M' 0 0 := Ev.back 1 (fun n => rfl) H
  have H : Ev none e 33 287 [some (.ref 3), some (.int a), some (.int 4), some (.int i), some (.int 1), c5, c6] [.ref (fR M 3 8)] M v M' 0 0 := Ev.back 1 (gs_3 rfl rfl (gf_n hS.1 qa_3 qn_3_8 (by decide) a_t rfl)) H
  have H : Ev none e 33 290 [some (.ref 3), some (.int a), some (.int 4), some (.int i), some (.int 1), c5, c6] [.ref (fR M 3 8 + 5)] M v M' 0 0 := Ev.back 1 (gs_3 rfl rfl (gf_x hS.1 a_t qo_28 (fx_t4 hS a_t) rfl)) H
  have H : Ev none e 33 292 [some (.ref 3), some (.int a), some (.int 4), some (.int i), some (.int 1), c5, c6] [.ref 3, .int i, .ref (fR M 3 8 + 5)] M v M' 0 0 := Ev.back 2 (fun n => rfl) H
  have H : Ev none e 33 295 [some (.ref 3), some (.int a), some (.int 4), some (.int i), some (.int 1), c5, c6] [.ref (fR M 3 8), .int i, .ref (fR M 3 8 + 5)] M v M' 0 0 := Ev.back 1 (gs_3 rfl rfl (gf_n hS.1 qa_3 qn_3_8 (by decide) a_t rfl)) H
  have H : Ev none e 33 298 [some (.ref 3), some (.int a), some (.int 4), some (.int i), some (.int 1), c5, c6] [.int (zI M (fR M 3 8) 9), .int i, .ref (fR M 3 8 + 5)] M v M' 0 0 := Ev.back 1 (gs_3 rfl rfl (gf_i hS.1 a_t qi_28_9 rfl)) H
  obtain ⟨b1, H⟩ := Ev.ias rfl rfl hS.1 (fx_g4 a_t) qw_33 H
  obtain ⟨N2, eN2⟩ : ∃ N, N = (wI M (fR M 3 8 + 5) i.toNatClampNeg (zI M (fR M 3 8) 9)) := ⟨_, rfl⟩
  have hN2 : SQ N2 := by rw [eN2]; exact hS.ki
  have H : Ev none e 33 299 [some (.ref 3), some (.int a), some (.int 4), some (.int i), some (.int 1), c5, c6] [] N2 v M' 0 0 := by rw [eN2]; exact H
  have H : Ev none e 33 300 [some (.ref 3), some (.int a), some (.int 4), some (.int i), some (.int 1), c5, c6] [.ref 3] N2 v M' 0 0 := Ev.back 1 (fun n => rfl) H
  have H : Ev none e 33 303 [some (.ref 3), some (.int a), some (.int 4), some (.int i), some (.int 1), c5, c6] [.ref (fR N2 3 8)] N2 v M' 0 0 := Ev.back 1 (gs_3 rfl rfl (gf_n hN2.1 qa_3 qn_3_8 (by decide) (by rw [show fR N2 3 8 = fR M 3 8 from by rw [eN2]; exact fR_wI]; exact a_t) rfl)) H
  rw [show fR N2 3 8 = fR M 3 8 from by rw [eN2]; exact fR_wI] at H
  have H : Ev none e 33 304 [some (.ref 3), some (.int a), some (.int 4), some (.int i), some (.int 1), c5, c6] [.ref (fR M 3 8), .ref (fR M 3 8)] N2 v M' 0 0 := Ev.back 1 (fun n => rfl) H
  have H : Ev none e 33 307 [some (.ref 3), some (.int a), some (.int 4), some (.int i), some (.int 1), c5, c6] [.int (zI N2 (fR M 3 8) 8), .ref (fR M 3 8)] N2 v M' 0 0 := Ev.back 1 (gs_3 rfl rfl (gf_i hN2.1 a_t qi_28_8 rfl)) H
  rw [show zI N2 (fR M 3 8) 8 = zI M (fR M 3 8) 8 from by rw [eN2]; exact fI_wI] at H
  have H : Ev none e 33 309 [some (.ref 3), some (.int a), some (.int 4), some (.int i), some (.int 1), c5, c6] [.int ((zI M (fR M 3 8) 8) + 1), .ref (fR M 3 8)] N2 v M' 0 0 := Ev.back 2 (fun n => rfl) H
  obtain ⟨N4, eN4⟩ : ∃ N, N = (wF N2 (fR M 3 8) 8 ((zI M (fR M 3 8) 8) + 1)) := ⟨_, rfl⟩
  have hN4 : SQ N4 := by rw [eN4]; exact hN2.kf
  have H : Ev none e 33 312 [some (.ref 3), some (.int a), some (.int 4), some (.int i), some (.int 1), c5, c6] [] N4 v M' 0 0 := by rw [eN4]; exact Ev.pfi rfl rfl rfl hN2.1 a_t qi_28_8 H
  have H : Ev none e 33 313 [some (.ref 3), some (.int a), some (.int 4), some (.int i), some (.int 1), c5, c6] [.int 1] N4 v M' 0 0 := Ev.back 1 (fun n => rfl) H
  obtain ⟨z1, z2⟩ := Ev.retz rfl rfl H
  subst eN2 eN4
  exact ⟨b1, z1, z2⟩
theorem ln5_44 {e : Nat} {M M' : Mem} {v : Option Value} {a : Int32} (hS : SQ M) (a_t : gNth sT (fR M 3 8) = some 28) (H : Ev none e 33 44 [some (.ref 3), some (.int a), some (.int 5), none, none, none, none] [] M v M' 0 0) : (16 ≤ (zI M (fR M 3 8) 8) ∧ (∃ e1 v1 M1, e = e1 + 1 ∧ Ev none e1 27 0 [some (.ref 3), some (.int 3)] [] M v1 M1 0 0 ∧ Ev none e 33 72 [some (.ref 3), some (.int a), some (.int 5), none, none, none, none] (v1.toList ++ []) M1 v M' 0 0)) ∨ (¬ (16 ≤ (zI M (fR M 3 8) 8)) ∧ ((zI M 3 10) &&& ((1 : Int32) <<< ((5 : Int32) &&& 31))) = 0 ∧ (0 ≤ (zI M (fR M 3 8) 8).toInt ∧ (zI M (fR M 3 8) 8).toInt < 16) ∧ (0 ≤ (zI M (fR M 3 8) 8).toInt ∧ (zI M (fR M 3 8) 8).toInt < 16) ∧ (0 ≤ (zI M (fR M 3 8) 8).toInt ∧ (zI M (fR M 3 8) 8).toInt < 16) ∧ (0 ≤ (zI M (fR M 3 8) 8).toInt ∧ (zI M (fR M 3 8) 8).toInt < 16) ∧ (0 ≤ (zI M (fR M 3 8) 8).toInt ∧ (zI M (fR M 3 8) 8).toInt < 16) ∧ (∃ e1 v1 M1, e = e1 + 1 ∧ Ev none e1 31 0 [some (.ref 3)] [] (wI (wI (wI (wI (wI M (fR M 3 8 + 1) ((zI M (fR M 3 8) 8).toNatClampNeg) 5) (fR M 3 8 + 2) ((zI M (fR M 3 8) 8).toNatClampNeg) 0) (fR M 3 8 + 3) ((zI M (fR M 3 8) 8).toNatClampNeg) 0) (fR M 3 8 + 4) ((zI M (fR M 3 8) 8).toNatClampNeg) (zI M (fR M 3 8) 9)) (fR M 3 8 + 5) ((zI M (fR M 3 8) 8).toNatClampNeg) (zI M (fR M 3 8) 9)) v1 M1 0 0 ∧ Ev none e 33 147 [some (.ref 3), some (.int a), some (.int 5), some (.int (zI M (fR M 3 8) 8)), none, none, none] (v1.toList ++ []) M1 v M' 0 0)) ∨ (¬ (16 ≤ (zI M (fR M 3 8) 8)) ∧ ¬ (((zI M 3 10) &&& ((1 : Int32) <<< ((5 : Int32) &&& 31))) = 0) ∧ (∃ e1 v1 M1, e = e1 + 1 ∧ Ev none e1 27 0 [some (.ref 3), some (.int 3)] [] M v1 M1 0 0 ∧ Ev none e 33 72 [some (.ref 3), some (.int a), some (.int 5), none, none, none, none] (v1.toList ++ []) M1 v M' 0 0)) := by
  have H : Ev none e 33 45 [some (.ref 3), some (.int a), some (.int 5), none, none, none, none] [.ref 3] M v M' 0 0 := Ev.back 1 (fun n => rfl) H
  have H : Ev none e 33 48 [some (.ref 3), some (.int a), some (.int 5), none, none, none, none] [.ref (fR M 3 8)] M v M' 0 0 := Ev.back 1 (gs_3 rfl rfl (gf_n hS.1 qa_3 qn_3_8 (by decide) a_t rfl)) H
  have H : Ev none e 33 51 [some (.ref 3), some (.int a), some (.int 5), none, none, none, none] [.int (zI M (fR M 3 8) 8)] M v M' 0 0 := Ev.back 1 (gs_3 rfl rfl (gf_i hS.1 a_t qi_28_8 rfl)) H
  have H : Ev none e 33 (if 16 ≤ (zI M (fR M 3 8) 8) then 67 else 56) [some (.ref 3), some (.int a), some (.int 5), none, none, none, none] [] M v M' 0 0 := Ev.back 2 (fun n => rfl) H
  by_cases h1 : 16 ≤ (zI M (fR M 3 8) 8)
  · rw [if_pos h1] at H
    have H : Ev none e 33 69 [some (.ref 3), some (.int a), some (.int 5), none, none, none, none] [.int 3, .ref 3] M v M' 0 0 := Ev.back 2 (fun n => rfl) H
    obtain ⟨e1, rfl⟩ := Ev.dpos rfl rfl H
    obtain ⟨vK2, MK2, K2, H⟩ := Ev.callb (fun n => gs_7 rfl rfl (show gCal (.invokevirtual 68) 3 (.int 3 :: .ref 3 :: []) M = some (.inr (27, [some (.ref 3), some (.int 3)], [])) from by show @cond (Option ((List Value × Mem) ⊕ (Nat × Lo × List Value))) (true && gRecv M (.ref 3) 3 && gRoom [] && true) (some (.inr (27, [some (.ref 3), some (.int 3)], []))) none = _; rw [recv_s hS.1 qa_3 qo_3]; rfl)) H
    have K2 : Ev none e1 27 0 [some (.ref 3), some (.int 3)] [] M vK2 MK2 0 0 := K2
    have HF := H
    exact Or.inl ⟨h1, ⟨e1, vK2, MK2, rfl, K2, HF⟩⟩
  · rw [if_neg h1] at H
    have H : Ev none e 33 57 [some (.ref 3), some (.int a), some (.int 5), none, none, none, none] [.ref 3] M v M' 0 0 := Ev.back 1 (fun n => rfl) H
    have H : Ev none e 33 60 [some (.ref 3), some (.int a), some (.int 5), none, none, none, none] [.int (zI M 3 10)] M v M' 0 0 := Ev.back 1 (gs_3 rfl rfl (gf_i hS.1 qa_3 qi_3_10 rfl)) H
    have H : Ev none e 33 (if ((zI M 3 10) &&& ((1 : Int32) <<< ((5 : Int32) &&& 31))) = 0 then 73 else 67) [some (.ref 3), some (.int a), some (.int 5), none, none, none, none] [] M v M' 0 0 := Ev.back 5 (fun n => rfl) H
    by_cases h3 : ((zI M 3 10) &&& ((1 : Int32) <<< ((5 : Int32) &&& 31))) = 0
    · rw [if_pos h3] at H
      have H : Ev none e 33 74 [some (.ref 3), some (.int a), some (.int 5), none, none, none, none] [.ref 3] M v M' 0 0 := Ev.back 1 (fun n => rfl) H
      have H : Ev none e 33 77 [some (.ref 3), some (.int a), some (.int 5), none, none, none, none] [.ref (fR M 3 8)] M v M' 0 0 := Ev.back 1 (gs_3 rfl rfl (gf_n hS.1 qa_3 qn_3_8 (by decide) a_t rfl)) H
      have H : Ev none e 33 80 [some (.ref 3), some (.int a), some (.int 5), none, none, none, none] [.int (zI M (fR M 3 8) 8)] M v M' 0 0 := Ev.back 1 (gs_3 rfl rfl (gf_i hS.1 a_t qi_28_8 rfl)) H
      have H : Ev none e 33 82 [some (.ref 3), some (.int a), some (.int 5), some (.int (zI M (fR M 3 8) 8)), none, none, none] [.ref 3] M v M' 0 0 := Ev.back 2 (fun n => rfl) H
      have H : Ev none e 33 85 [some (.ref 3), some (.int a), some (.int 5), some (.int (zI M (fR M 3 8) 8)), none, none, none] [.ref (fR M 3 8)] M v M' 0 0 := Ev.back 1 (gs_3 rfl rfl (gf_n hS.1 qa_3 qn_3_8 (by decide) a_t rfl)) H
      have H : Ev none e 33 88 [some (.ref 3), some (.int a), some (.int 5), some (.int (zI M (fR M 3 8) 8)), none, none, none] [.ref (fR M 3 8 + 1)] M v M' 0 0 := Ev.back 1 (gs_3 rfl rfl (gf_x hS.1 a_t qo_28 (fx_t0 hS a_t) rfl)) H
      have H : Ev none e 33 90 [some (.ref 3), some (.int a), some (.int 5), some (.int (zI M (fR M 3 8) 8)), none, none, none] [.int 5, .int (zI M (fR M 3 8) 8), .ref (fR M 3 8 + 1)] M v M' 0 0 := Ev.back 2 (fun n => rfl) H
      obtain ⟨b4, H⟩ := Ev.ias rfl rfl hS.1 (fx_g0 a_t) qw_29 H
      obtain ⟨N5, eN5⟩ : ∃ N, N = (wI M (fR M 3 8 + 1) ((zI M (fR M 3 8) 8).toNatClampNeg) 5) := ⟨_, rfl⟩
      have hN5 : SQ N5 := by rw [eN5]; exact hS.ki
      have H : Ev none e 33 91 [some (.ref 3), some (.int a), some (.int 5), some (.int (zI M (fR M 3 8) 8)), none, none, none] [] N5 v M' 0 0 := by rw [eN5]; exact H
      have H : Ev none e 33 92 [some (.ref 3), some (.int a), some (.int 5), some (.int (zI M (fR M 3 8) 8)), none, none, none] [.ref 3] N5 v M' 0 0 := Ev.back 1 (fun n => rfl) H
      have H : Ev none e 33 95 [some (.ref 3), some (.int a), some (.int 5), some (.int (zI M (fR M 3 8) 8)), none, none, none] [.ref (fR N5 3 8)] N5 v M' 0 0 := Ev.back 1 (gs_3 rfl rfl (gf_n hN5.1 qa_3 qn_3_8 (by decide) (by rw [show fR N5 3 8 = fR M 3 8 from by rw [eN5]; exact fR_wI]; exact a_t) rfl)) H
      rw [show fR N5 3 8 = fR M 3 8 from by rw [eN5]; exact fR_wI] at H
      have H : Ev none e 33 98 [some (.ref 3), some (.int a), some (.int 5), some (.int (zI M (fR M 3 8) 8)), none, none, none] [.ref (fR M 3 8 + 2)] N5 v M' 0 0 := Ev.back 1 (gs_3 rfl rfl (gf_x hN5.1 a_t qo_28 (fx_t1 hN5 a_t) rfl)) H
      have H : Ev none e 33 100 [some (.ref 3), some (.int a), some (.int 5), some (.int (zI M (fR M 3 8) 8)), none, none, none] [.int 0, .int (zI M (fR M 3 8) 8), .ref (fR M 3 8 + 2)] N5 v M' 0 0 := Ev.back 2 (fun n => rfl) H
      obtain ⟨b6, H⟩ := Ev.ias rfl rfl hN5.1 (fx_g1 a_t) qw_30 H
      obtain ⟨N7, eN7⟩ : ∃ N, N = (wI N5 (fR M 3 8 + 2) ((zI M (fR M 3 8) 8).toNatClampNeg) 0) := ⟨_, rfl⟩
      have hN7 : SQ N7 := by rw [eN7]; exact hN5.ki
      have H : Ev none e 33 101 [some (.ref 3), some (.int a), some (.int 5), some (.int (zI M (fR M 3 8) 8)), none, none, none] [] N7 v M' 0 0 := by rw [eN7]; exact H
      have H : Ev none e 33 102 [some (.ref 3), some (.int a), some (.int 5), some (.int (zI M (fR M 3 8) 8)), none, none, none] [.ref 3] N7 v M' 0 0 := Ev.back 1 (fun n => rfl) H
      have H : Ev none e 33 105 [some (.ref 3), some (.int a), some (.int 5), some (.int (zI M (fR M 3 8) 8)), none, none, none] [.ref (fR N7 3 8)] N7 v M' 0 0 := Ev.back 1 (gs_3 rfl rfl (gf_n hN7.1 qa_3 qn_3_8 (by decide) (by rw [(show fR N7 3 8 = fR N5 3 8 from by rw [eN7]; exact fR_wI).trans (show fR N5 3 8 = fR M 3 8 from by rw [eN5]; exact fR_wI)]; exact a_t) rfl)) H
      rw [(show fR N7 3 8 = fR N5 3 8 from by rw [eN7]; exact fR_wI).trans (show fR N5 3 8 = fR M 3 8 from by rw [eN5]; exact fR_wI)] at H
      have H : Ev none e 33 108 [some (.ref 3), some (.int a), some (.int 5), some (.int (zI M (fR M 3 8) 8)), none, none, none] [.ref (fR M 3 8 + 3)] N7 v M' 0 0 := Ev.back 1 (gs_3 rfl rfl (gf_x hN7.1 a_t qo_28 (fx_t2 hN7 a_t) rfl)) H
      have H : Ev none e 33 110 [some (.ref 3), some (.int a), some (.int 5), some (.int (zI M (fR M 3 8) 8)), none, none, none] [.int 0, .int (zI M (fR M 3 8) 8), .ref (fR M 3 8 + 3)] N7 v M' 0 0 := Ev.back 2 (fun n => rfl) H
      obtain ⟨b8, H⟩ := Ev.ias rfl rfl hN7.1 (fx_g2 a_t) qw_31 H
      obtain ⟨N9, eN9⟩ : ∃ N, N = (wI N7 (fR M 3 8 + 3) ((zI M (fR M 3 8) 8).toNatClampNeg) 0) := ⟨_, rfl⟩
      have hN9 : SQ N9 := by rw [eN9]; exact hN7.ki
      have H : Ev none e 33 111 [some (.ref 3), some (.int a), some (.int 5), some (.int (zI M (fR M 3 8) 8)), none, none, none] [] N9 v M' 0 0 := by rw [eN9]; exact H
      have H : Ev none e 33 112 [some (.ref 3), some (.int a), some (.int 5), some (.int (zI M (fR M 3 8) 8)), none, none, none] [.ref 3] N9 v M' 0 0 := Ev.back 1 (fun n => rfl) H
      have H : Ev none e 33 115 [some (.ref 3), some (.int a), some (.int 5), some (.int (zI M (fR M 3 8) 8)), none, none, none] [.ref (fR N9 3 8)] N9 v M' 0 0 := Ev.back 1 (gs_3 rfl rfl (gf_n hN9.1 qa_3 qn_3_8 (by decide) (by rw [((show fR N9 3 8 = fR N7 3 8 from by rw [eN9]; exact fR_wI).trans (show fR N7 3 8 = fR N5 3 8 from by rw [eN7]; exact fR_wI)).trans (show fR N5 3 8 = fR M 3 8 from by rw [eN5]; exact fR_wI)]; exact a_t) rfl)) H
      rw [((show fR N9 3 8 = fR N7 3 8 from by rw [eN9]; exact fR_wI).trans (show fR N7 3 8 = fR N5 3 8 from by rw [eN7]; exact fR_wI)).trans (show fR N5 3 8 = fR M 3 8 from by rw [eN5]; exact fR_wI)] at H
      have H : Ev none e 33 118 [some (.ref 3), some (.int a), some (.int 5), some (.int (zI M (fR M 3 8) 8)), none, none, none] [.ref (fR M 3 8 + 4)] N9 v M' 0 0 := Ev.back 1 (gs_3 rfl rfl (gf_x hN9.1 a_t qo_28 (fx_t3 hN9 a_t) rfl)) H
      have H : Ev none e 33 120 [some (.ref 3), some (.int a), some (.int 5), some (.int (zI M (fR M 3 8) 8)), none, none, none] [.ref 3, .int (zI M (fR M 3 8) 8), .ref (fR M 3 8 + 4)] N9 v M' 0 0 := Ev.back 2 (fun n => rfl) H
      have H : Ev none e 33 123 [some (.ref 3), some (.int a), some (.int 5), some (.int (zI M (fR M 3 8) 8)), none, none, none] [.ref (fR N9 3 8), .int (zI M (fR M 3 8) 8), .ref (fR M 3 8 + 4)] N9 v M' 0 0 := Ev.back 1 (gs_3 rfl rfl (gf_n hN9.1 qa_3 qn_3_8 (by decide) (by rw [((show fR N9 3 8 = fR N7 3 8 from by rw [eN9]; exact fR_wI).trans (show fR N7 3 8 = fR N5 3 8 from by rw [eN7]; exact fR_wI)).trans (show fR N5 3 8 = fR M 3 8 from by rw [eN5]; exact fR_wI)]; exact a_t) rfl)) H
      rw [((show fR N9 3 8 = fR N7 3 8 from by rw [eN9]; exact fR_wI).trans (show fR N7 3 8 = fR N5 3 8 from by rw [eN7]; exact fR_wI)).trans (show fR N5 3 8 = fR M 3 8 from by rw [eN5]; exact fR_wI)] at H
      have H : Ev none e 33 126 [some (.ref 3), some (.int a), some (.int 5), some (.int (zI M (fR M 3 8) 8)), none, none, none] [.int (zI N9 (fR M 3 8) 9), .int (zI M (fR M 3 8) 8), .ref (fR M 3 8 + 4)] N9 v M' 0 0 := Ev.back 1 (gs_3 rfl rfl (gf_i hN9.1 a_t qi_28_9 rfl)) H
      rw [((show zI N9 (fR M 3 8) 9 = zI N7 (fR M 3 8) 9 from by rw [eN9]; exact fI_wI).trans (show zI N7 (fR M 3 8) 9 = zI N5 (fR M 3 8) 9 from by rw [eN7]; exact fI_wI)).trans (show zI N5 (fR M 3 8) 9 = zI M (fR M 3 8) 9 from by rw [eN5]; exact fI_wI)] at H
      obtain ⟨b10, H⟩ := Ev.ias rfl rfl hN9.1 (fx_g3 a_t) qw_32 H
      obtain ⟨N11, eN11⟩ : ∃ N, N = (wI N9 (fR M 3 8 + 4) ((zI M (fR M 3 8) 8).toNatClampNeg) (zI M (fR M 3 8) 9)) := ⟨_, rfl⟩
      have hN11 : SQ N11 := by rw [eN11]; exact hN9.ki
      have H : Ev none e 33 127 [some (.ref 3), some (.int a), some (.int 5), some (.int (zI M (fR M 3 8) 8)), none, none, none] [] N11 v M' 0 0 := by rw [eN11]; exact H
      have H : Ev none e 33 128 [some (.ref 3), some (.int a), some (.int 5), some (.int (zI M (fR M 3 8) 8)), none, none, none] [.ref 3] N11 v M' 0 0 := Ev.back 1 (fun n => rfl) H
      have H : Ev none e 33 131 [some (.ref 3), some (.int a), some (.int 5), some (.int (zI M (fR M 3 8) 8)), none, none, none] [.ref (fR N11 3 8)] N11 v M' 0 0 := Ev.back 1 (gs_3 rfl rfl (gf_n hN11.1 qa_3 qn_3_8 (by decide) (by rw [(((show fR N11 3 8 = fR N9 3 8 from by rw [eN11]; exact fR_wI).trans (show fR N9 3 8 = fR N7 3 8 from by rw [eN9]; exact fR_wI)).trans (show fR N7 3 8 = fR N5 3 8 from by rw [eN7]; exact fR_wI)).trans (show fR N5 3 8 = fR M 3 8 from by rw [eN5]; exact fR_wI)]; exact a_t) rfl)) H
      rw [(((show fR N11 3 8 = fR N9 3 8 from by rw [eN11]; exact fR_wI).trans (show fR N9 3 8 = fR N7 3 8 from by rw [eN9]; exact fR_wI)).trans (show fR N7 3 8 = fR N5 3 8 from by rw [eN7]; exact fR_wI)).trans (show fR N5 3 8 = fR M 3 8 from by rw [eN5]; exact fR_wI)] at H
      have H : Ev none e 33 134 [some (.ref 3), some (.int a), some (.int 5), some (.int (zI M (fR M 3 8) 8)), none, none, none] [.ref (fR M 3 8 + 5)] N11 v M' 0 0 := Ev.back 1 (gs_3 rfl rfl (gf_x hN11.1 a_t qo_28 (fx_t4 hN11 a_t) rfl)) H
      have H : Ev none e 33 136 [some (.ref 3), some (.int a), some (.int 5), some (.int (zI M (fR M 3 8) 8)), none, none, none] [.ref 3, .int (zI M (fR M 3 8) 8), .ref (fR M 3 8 + 5)] N11 v M' 0 0 := Ev.back 2 (fun n => rfl) H
      have H : Ev none e 33 139 [some (.ref 3), some (.int a), some (.int 5), some (.int (zI M (fR M 3 8) 8)), none, none, none] [.ref (fR N11 3 8), .int (zI M (fR M 3 8) 8), .ref (fR M 3 8 + 5)] N11 v M' 0 0 := Ev.back 1 (gs_3 rfl rfl (gf_n hN11.1 qa_3 qn_3_8 (by decide) (by rw [(((show fR N11 3 8 = fR N9 3 8 from by rw [eN11]; exact fR_wI).trans (show fR N9 3 8 = fR N7 3 8 from by rw [eN9]; exact fR_wI)).trans (show fR N7 3 8 = fR N5 3 8 from by rw [eN7]; exact fR_wI)).trans (show fR N5 3 8 = fR M 3 8 from by rw [eN5]; exact fR_wI)]; exact a_t) rfl)) H
      rw [(((show fR N11 3 8 = fR N9 3 8 from by rw [eN11]; exact fR_wI).trans (show fR N9 3 8 = fR N7 3 8 from by rw [eN9]; exact fR_wI)).trans (show fR N7 3 8 = fR N5 3 8 from by rw [eN7]; exact fR_wI)).trans (show fR N5 3 8 = fR M 3 8 from by rw [eN5]; exact fR_wI)] at H
      have H : Ev none e 33 142 [some (.ref 3), some (.int a), some (.int 5), some (.int (zI M (fR M 3 8) 8)), none, none, none] [.int (zI N11 (fR M 3 8) 9), .int (zI M (fR M 3 8) 8), .ref (fR M 3 8 + 5)] N11 v M' 0 0 := Ev.back 1 (gs_3 rfl rfl (gf_i hN11.1 a_t qi_28_9 rfl)) H
      rw [(((show zI N11 (fR M 3 8) 9 = zI N9 (fR M 3 8) 9 from by rw [eN11]; exact fI_wI).trans (show zI N9 (fR M 3 8) 9 = zI N7 (fR M 3 8) 9 from by rw [eN9]; exact fI_wI)).trans (show zI N7 (fR M 3 8) 9 = zI N5 (fR M 3 8) 9 from by rw [eN7]; exact fI_wI)).trans (show zI N5 (fR M 3 8) 9 = zI M (fR M 3 8) 9 from by rw [eN5]; exact fI_wI)] at H
      obtain ⟨b12, H⟩ := Ev.ias rfl rfl hN11.1 (fx_g4 a_t) qw_33 H
      obtain ⟨N13, eN13⟩ : ∃ N, N = (wI N11 (fR M 3 8 + 5) ((zI M (fR M 3 8) 8).toNatClampNeg) (zI M (fR M 3 8) 9)) := ⟨_, rfl⟩
      have hN13 : SQ N13 := by rw [eN13]; exact hN11.ki
      have H : Ev none e 33 143 [some (.ref 3), some (.int a), some (.int 5), some (.int (zI M (fR M 3 8) 8)), none, none, none] [] N13 v M' 0 0 := by rw [eN13]; exact H
      have H : Ev none e 33 144 [some (.ref 3), some (.int a), some (.int 5), some (.int (zI M (fR M 3 8) 8)), none, none, none] [.ref 3] N13 v M' 0 0 := Ev.back 1 (fun n => rfl) H
      obtain ⟨e1, rfl⟩ := Ev.dpos rfl rfl H
      obtain ⟨vK14, MK14, K14, H⟩ := Ev.callb (fun n => gs_7 rfl rfl (show gCal (.invokevirtual 140) 3 (.ref 3 :: []) N13 = some (.inr (31, [some (.ref 3)], [])) from by show @cond (Option ((List Value × Mem) ⊕ (Nat × Lo × List Value))) (true && gRecv N13 (.ref 3) 3 && gRoom [] && true) (some (.inr (31, [some (.ref 3)], []))) none = _; rw [recv_s hN13.1 qa_3 qo_3]; rfl)) H
      have K14 : Ev none e1 31 0 [some (.ref 3)] [] N13 vK14 MK14 0 0 := K14
      have HF := H
      subst eN5 eN7 eN9 eN11 eN13
      exact Or.inr (Or.inl ⟨h1, h3, b4, b6, b8, b10, b12, ⟨e1, vK14, MK14, rfl, K14, HF⟩⟩)
    · rw [if_neg h3] at H
      have H : Ev none e 33 69 [some (.ref 3), some (.int a), some (.int 5), none, none, none, none] [.int 3, .ref 3] M v M' 0 0 := Ev.back 2 (fun n => rfl) H
      obtain ⟨e1, rfl⟩ := Ev.dpos rfl rfl H
      obtain ⟨vK15, MK15, K15, H⟩ := Ev.callb (fun n => gs_7 rfl rfl (show gCal (.invokevirtual 68) 3 (.int 3 :: .ref 3 :: []) M = some (.inr (27, [some (.ref 3), some (.int 3)], [])) from by show @cond (Option ((List Value × Mem) ⊕ (Nat × Lo × List Value))) (true && gRecv M (.ref 3) 3 && gRoom [] && true) (some (.inr (27, [some (.ref 3), some (.int 3)], []))) none = _; rw [recv_s hS.1 qa_3 qo_3]; rfl)) H
      have K15 : Ev none e1 27 0 [some (.ref 3), some (.int 3)] [] M vK15 MK15 0 0 := K15
      have HF := H
      exact Or.inr (Or.inr (⟨h1, h3, ⟨e1, vK15, MK15, rfl, K15, HF⟩⟩))
theorem ln5_72 {e : Nat} {M M' : Mem} {v : Option Value} {a y : Int32} (hS : SQ M) (a_t : gNth sT (fR M 3 8) = some 28) (H : Ev none e 33 72 [some (.ref 3), some (.int a), some (.int 5), none, none, none, none] [.int y] M v M' 0 0) : v = some (.int y) ∧ M' = M := by
  obtain ⟨z1, z2⟩ := Ev.retz rfl rfl H
  exact ⟨z1, z2⟩
theorem ln5_147 {e : Nat} {M M' : Mem} {v : Option Value} {a i : Int32} (hS : SQ M) (a_t : gNth sT (fR M 3 8) = some 28) (H : Ev none e 33 147 [some (.ref 3), some (.int a), some (.int 5), some (.int i), none, none, none] [] M v M' 0 0) : (∃ e1 v1 M1, e = e1 + 1 ∧ Ev none e1 34 0 [some (.ref 3), some (.int i), none] [] M v1 M1 0 0 ∧ Ev none e 33 163 [some (.ref 3), some (.int a), some (.int 5), some (.int i), none, none, none] (v1.toList ++ []) M1 v M' 0 0) := by
  have H : Ev none e 33 (if 5 = 6 then 178 else 153) [some (.ref 3), some (.int a), some (.int 5), some (.int i), none, none, none] [] M v M' 0 0 := Ev.back 3 (fun n => rfl) H
  rw [if_neg (by decide)] at H
  have H : Ev none e 33 (if 5 = 5 then 158 else 169) [some (.ref 3), some (.int a), some (.int 5), some (.int i), none, none, none] [] M v M' 0 0 := Ev.back 3 (fun n => rfl) H
  rw [if_pos (by decide)] at H
  have H : Ev none e 33 160 [some (.ref 3), some (.int a), some (.int 5), some (.int i), none, none, none] [.int i, .ref 3] M v M' 0 0 := Ev.back 2 (fun n => rfl) H
  obtain ⟨e1, rfl⟩ := Ev.dpos rfl rfl H
  obtain ⟨vK1, MK1, K1, H⟩ := Ev.callb (fun n => gs_7 rfl rfl (show gCal (.invokevirtual 143) 3 (.int i :: .ref 3 :: []) M = some (.inr (34, [some (.ref 3), some (.int i), none], [])) from by show @cond (Option ((List Value × Mem) ⊕ (Nat × Lo × List Value))) (true && gRecv M (.ref 3) 3 && gRoom [] && true) (some (.inr (34, [some (.ref 3), some (.int i), none], []))) none = _; rw [recv_s hS.1 qa_3 qo_3]; rfl)) H
  have K1 : Ev none e1 34 0 [some (.ref 3), some (.int i), none] [] M vK1 MK1 0 0 := K1
  have HF := H
  exact ⟨e1, vK1, MK1, rfl, K1, HF⟩
theorem ln5_163 {e : Nat} {M M' : Mem} {v : Option Value} {a i y : Int32} (hS : SQ M) (a_t : gNth sT (fR M 3 8) = some 28) (H : Ev none e 33 163 [some (.ref 3), some (.int a), some (.int 5), some (.int i), none, none, none] [.int y] M v M' 0 0) : (y = 0 ∧ v = some (.int 0) ∧ M' = M) ∨ (¬ (y = 0) ∧ (∃ e1 v1 M1, e = e1 + 1 ∧ Ev none e1 32 0 [some (.ref 3), some (.retAddr 12), none, none, none, none, none, none] [] M v1 M1 0 0 ∧ Ev none e 33 224 [some (.ref 3), some (.int a), some (.int 5), some (.int i), some (.int 1), some (.int 1), none] (v1.toList ++ []) M1 v M' 0 0)) := by
  have H : Ev none e 33 (if y = 0 then 182 else 166) [some (.ref 3), some (.int a), some (.int 5), some (.int i), none, none, none] [] M v M' 0 0 := Ev.back 1 (fun n => rfl) H
  by_cases h1 : y = 0
  · rw [if_pos h1] at H
    have H : Ev none e 33 (if 0 = 0 then 190 else 192) [some (.ref 3), some (.int a), some (.int 5), some (.int i), some (.int 0), none, none] [] M v M' 0 0 := Ev.back 4 (fun n => rfl) H
    rw [if_pos (by decide)] at H
    have H : Ev none e 33 191 [some (.ref 3), some (.int a), some (.int 5), some (.int i), some (.int 0), none, none] [.int 0] M v M' 0 0 := Ev.back 1 (fun n => rfl) H
    obtain ⟨z1, z2⟩ := Ev.retz rfl rfl H
    exact Or.inl ⟨h1, z1, z2⟩
  · rw [if_neg h1] at H
    have H : Ev none e 33 (if 1 = 0 then 190 else 192) [some (.ref 3), some (.int a), some (.int 5), some (.int i), some (.int 1), none, none] [] M v M' 0 0 := Ev.back 6 (fun n => rfl) H
    rw [if_neg (by decide)] at H
    have H : Ev none e 33 (if 5 = 0 then 206 else 196) [some (.ref 3), some (.int a), some (.int 5), some (.int i), some (.int 1), none, none] [] M v M' 0 0 := Ev.back 2 (fun n => rfl) H
    rw [if_neg (by decide)] at H
    have H : Ev none e 33 (if 5 = 1 then 206 else 201) [some (.ref 3), some (.int a), some (.int 5), some (.int i), some (.int 1), none, none] [] M v M' 0 0 := Ev.back 3 (fun n => rfl) H
    rw [if_neg (by decide)] at H
    have H : Ev none e 33 (if 5 = 5 then 206 else 210) [some (.ref 3), some (.int a), some (.int 5), some (.int i), some (.int 1), none, none] [] M v M' 0 0 := Ev.back 3 (fun n => rfl) H
    rw [if_pos (by decide)] at H
    have H : Ev none e 33 (if 1 = 0 then 231 else 218) [some (.ref 3), some (.int a), some (.int 5), some (.int i), some (.int 1), some (.int 1), none] [] M v M' 0 0 := Ev.back 5 (fun n => rfl) H
    rw [if_neg (by decide)] at H
    have H : Ev none e 33 221 [some (.ref 3), some (.int a), some (.int 5), some (.int i), some (.int 1), some (.int 1), none] [.retAddr 12, .ref 3] M v M' 0 0 := Ev.back 2 (fun n => rfl) H
    obtain ⟨e1, rfl⟩ := Ev.dpos rfl rfl H
    obtain ⟨vK2, MK2, K2, H⟩ := Ev.callb (fun n => gs_7 rfl rfl (show gCal (.invokevirtual 115) 3 (.retAddr 12 :: .ref 3 :: []) M = some (.inr (32, [some (.ref 3), some (.retAddr 12), none, none, none, none, none, none], [])) from by show @cond (Option ((List Value × Mem) ⊕ (Nat × Lo × List Value))) (true && gRecv M (.ref 3) 3 && gRoom [] && true) (some (.inr (32, [some (.ref 3), some (.retAddr 12), none, none, none, none, none, none], []))) none = _; rw [recv_s hS.1 qa_3 qo_3]; rfl)) H
    have K2 : Ev none e1 32 0 [some (.ref 3), some (.retAddr 12), none, none, none, none, none, none] [] M vK2 MK2 0 0 := K2
    have HF := H
    exact Or.inr (⟨h1, ⟨e1, vK2, MK2, rfl, K2, HF⟩⟩)
theorem ln5_224 {e : Nat} {M M' : Mem} {v : Option Value} {a i y : Int32} (hS : SQ M) (a_t : gNth sT (fR M 3 8) = some 28) (H : Ev none e 33 224 [some (.ref 3), some (.int a), some (.int 5), some (.int i), some (.int 1), some (.int 1), none] [.int y] M v M' 0 0) : (y = 0 ∧ (∃ e1 v1 M1, e = e1 + 1 ∧ Ev none e1 31 0 [some (.ref 3)] [] M v1 M1 0 0 ∧ Ev none e 33 243 [some (.ref 3), some (.int a), some (.int 5), some (.int i), some (.int 1), some (.int 1), some (.int 1)] (v1.toList ++ []) M1 v M' 0 0)) ∨ (¬ (y = 0) ∧ (zI M 3 7) = 59 ∧ (∃ e1 v1 M1, e = e1 + 1 ∧ Ev none e1 31 0 [some (.ref 3)] [] M v1 M1 0 0 ∧ Ev none e 33 283 [some (.ref 3), some (.int a), some (.int 5), some (.int i), some (.int 1), some (.int 1), some (.int 0)] (v1.toList ++ []) M1 v M' 0 0)) ∨ (¬ (y = 0) ∧ ¬ ((zI M 3 7) = 59) ∧ (∃ e1 v1 M1, e = e1 + 1 ∧ Ev none e1 27 0 [some (.ref 3), some (.int 1)] [] M v1 M1 0 0 ∧ Ev none e 33 278 [some (.ref 3), some (.int a), some (.int 5), some (.int i), some (.int 1), some (.int 1), some (.int 0)] (v1.toList ++ []) M1 v M' 0 0)) := by
  have H : Ev none e 33 (if y = 0 then 227 else 231) [some (.ref 3), some (.int a), some (.int 5), some (.int i), some (.int 1), some (.int 1), none] [] M v M' 0 0 := Ev.back 1 (fun n => rfl) H
  by_cases h1 : y = 0
  · rw [if_pos h1] at H
    have H : Ev none e 33 (if 1 = 0 then 243 else 239) [some (.ref 3), some (.int a), some (.int 5), some (.int i), some (.int 1), some (.int 1), some (.int 1)] [] M v M' 0 0 := Ev.back 5 (fun n => rfl) H
    rw [if_neg (by decide)] at H
    have H : Ev none e 33 240 [some (.ref 3), some (.int a), some (.int 5), some (.int i), some (.int 1), some (.int 1), some (.int 1)] [.ref 3] M v M' 0 0 := Ev.back 1 (fun n => rfl) H
    obtain ⟨e1, rfl⟩ := Ev.dpos rfl rfl H
    obtain ⟨vK2, MK2, K2, H⟩ := Ev.callb (fun n => gs_7 rfl rfl (show gCal (.invokevirtual 140) 3 (.ref 3 :: []) M = some (.inr (31, [some (.ref 3)], [])) from by show @cond (Option ((List Value × Mem) ⊕ (Nat × Lo × List Value))) (true && gRecv M (.ref 3) 3 && gRoom [] && true) (some (.inr (31, [some (.ref 3)], []))) none = _; rw [recv_s hS.1 qa_3 qo_3]; rfl)) H
    have K2 : Ev none e1 31 0 [some (.ref 3)] [] M vK2 MK2 0 0 := K2
    have HF := H
    exact Or.inl ⟨h1, ⟨e1, vK2, MK2, rfl, K2, HF⟩⟩
  · rw [if_neg h1] at H
    have H : Ev none e 33 (if 0 = 0 then 243 else 239) [some (.ref 3), some (.int a), some (.int 5), some (.int i), some (.int 1), some (.int 1), some (.int 0)] [] M v M' 0 0 := Ev.back 4 (fun n => rfl) H
    rw [if_pos (by decide)] at H
    have H : Ev none e 33 (if 0 = 0 then 248 else 254) [some (.ref 3), some (.int a), some (.int 5), some (.int i), some (.int 1), some (.int 1), some (.int 0)] [] M v M' 0 0 := Ev.back 2 (fun n => rfl) H
    rw [if_pos (by decide)] at H
    have H : Ev none e 33 (if 5 = 6 then 254 else 264) [some (.ref 3), some (.int a), some (.int 5), some (.int i), some (.int 1), some (.int 1), some (.int 0)] [] M v M' 0 0 := Ev.back 3 (fun n => rfl) H
    rw [if_neg (by decide)] at H
    have H : Ev none e 33 265 [some (.ref 3), some (.int a), some (.int 5), some (.int i), some (.int 1), some (.int 1), some (.int 0)] [.ref 3] M v M' 0 0 := Ev.back 1 (fun n => rfl) H
    have H : Ev none e 33 268 [some (.ref 3), some (.int a), some (.int 5), some (.int i), some (.int 1), some (.int 1), some (.int 0)] [.int (zI M 3 7)] M v M' 0 0 := Ev.back 1 (gs_3 rfl rfl (gf_i hS.1 qa_3 qi_3_7 rfl)) H
    have H : Ev none e 33 (if (zI M 3 7) = 59 then 279 else 273) [some (.ref 3), some (.int a), some (.int 5), some (.int i), some (.int 1), some (.int 1), some (.int 0)] [] M v M' 0 0 := Ev.back 2 (fun n => rfl) H
    by_cases h3 : (zI M 3 7) = 59
    · rw [if_pos h3] at H
      have H : Ev none e 33 280 [some (.ref 3), some (.int a), some (.int 5), some (.int i), some (.int 1), some (.int 1), some (.int 0)] [.ref 3] M v M' 0 0 := Ev.back 1 (fun n => rfl) H
      obtain ⟨e1, rfl⟩ := Ev.dpos rfl rfl H
      obtain ⟨vK4, MK4, K4, H⟩ := Ev.callb (fun n => gs_7 rfl rfl (show gCal (.invokevirtual 140) 3 (.ref 3 :: []) M = some (.inr (31, [some (.ref 3)], [])) from by show @cond (Option ((List Value × Mem) ⊕ (Nat × Lo × List Value))) (true && gRecv M (.ref 3) 3 && gRoom [] && true) (some (.inr (31, [some (.ref 3)], []))) none = _; rw [recv_s hS.1 qa_3 qo_3]; rfl)) H
      have K4 : Ev none e1 31 0 [some (.ref 3)] [] M vK4 MK4 0 0 := K4
      have HF := H
      exact Or.inr (Or.inl ⟨h1, h3, ⟨e1, vK4, MK4, rfl, K4, HF⟩⟩)
    · rw [if_neg h3] at H
      have H : Ev none e 33 275 [some (.ref 3), some (.int a), some (.int 5), some (.int i), some (.int 1), some (.int 1), some (.int 0)] [.int 1, .ref 3] M v M' 0 0 := Ev.back 2 (fun n => rfl) H
      obtain ⟨e1, rfl⟩ := Ev.dpos rfl rfl H
      obtain ⟨vK5, MK5, K5, H⟩ := Ev.callb (fun n => gs_7 rfl rfl (show gCal (.invokevirtual 68) 3 (.int 1 :: .ref 3 :: []) M = some (.inr (27, [some (.ref 3), some (.int 1)], [])) from by show @cond (Option ((List Value × Mem) ⊕ (Nat × Lo × List Value))) (true && gRecv M (.ref 3) 3 && gRoom [] && true) (some (.inr (27, [some (.ref 3), some (.int 1)], []))) none = _; rw [recv_s hS.1 qa_3 qo_3]; rfl)) H
      have K5 : Ev none e1 27 0 [some (.ref 3), some (.int 1)] [] M vK5 MK5 0 0 := K5
      have HF := H
      exact Or.inr (Or.inr (⟨h1, h3, ⟨e1, vK5, MK5, rfl, K5, HF⟩⟩))
theorem ln5_243 {e : Nat} {M M' : Mem} {v : Option Value} {a i : Int32} (hS : SQ M) (a_t : gNth sT (fR M 3 8) = some 28) (H : Ev none e 33 243 [some (.ref 3), some (.int a), some (.int 5), some (.int i), some (.int 1), some (.int 1), some (.int 1)] [] M v M' 0 0) : (∃ e1 v1 M1, e = e1 + 1 ∧ Ev none e1 36 0 [some (.ref 3), some (.int 1), none] [] M v1 M1 0 0 ∧ Ev none e 33 259 [some (.ref 3), some (.int a), some (.int 5), some (.int i), some (.int 1), some (.int 1), some (.int 1)] (v1.toList ++ []) M1 v M' 0 0) := by
  have H : Ev none e 33 (if 1 = 0 then 248 else 254) [some (.ref 3), some (.int a), some (.int 5), some (.int i), some (.int 1), some (.int 1), some (.int 1)] [] M v M' 0 0 := Ev.back 2 (fun n => rfl) H
  rw [if_neg (by decide)] at H
  have H : Ev none e 33 256 [some (.ref 3), some (.int a), some (.int 5), some (.int i), some (.int 1), some (.int 1), some (.int 1)] [.int 1, .ref 3] M v M' 0 0 := Ev.back 2 (fun n => rfl) H
  obtain ⟨e1, rfl⟩ := Ev.dpos rfl rfl H
  obtain ⟨vK1, MK1, K1, H⟩ := Ev.callb (fun n => gs_7 rfl rfl (show gCal (.invokevirtual 152) 3 (.int 1 :: .ref 3 :: []) M = some (.inr (36, [some (.ref 3), some (.int 1), none], [])) from by show @cond (Option ((List Value × Mem) ⊕ (Nat × Lo × List Value))) (true && gRecv M (.ref 3) 3 && gRoom [] && true) (some (.inr (36, [some (.ref 3), some (.int 1), none], []))) none = _; rw [recv_s hS.1 qa_3 qo_3]; rfl)) H
  have K1 : Ev none e1 36 0 [some (.ref 3), some (.int 1), none] [] M vK1 MK1 0 0 := K1
  have HF := H
  exact ⟨e1, vK1, MK1, rfl, K1, HF⟩
theorem ln5_259 {e : Nat} {M M' : Mem} {v : Option Value} {a i y : Int32} (hS : SQ M) (a_t : gNth sT (fR M 3 8) = some 28) (H : Ev none e 33 259 [some (.ref 3), some (.int a), some (.int 5), some (.int i), some (.int 1), some (.int 1), some (.int 1)] [.int y] M v M' 0 0) : (y = 0 ∧ v = some (.int 0) ∧ M' = M) ∨ (¬ (y = 0) ∧ (zI M 3 7) = 59 ∧ (∃ e1 v1 M1, e = e1 + 1 ∧ Ev none e1 31 0 [some (.ref 3)] [] M v1 M1 0 0 ∧ Ev none e 33 283 [some (.ref 3), some (.int a), some (.int 5), some (.int i), some (.int 1), some (.int 1), some (.int 1)] (v1.toList ++ []) M1 v M' 0 0)) ∨ (¬ (y = 0) ∧ ¬ ((zI M 3 7) = 59) ∧ (∃ e1 v1 M1, e = e1 + 1 ∧ Ev none e1 27 0 [some (.ref 3), some (.int 1)] [] M v1 M1 0 0 ∧ Ev none e 33 278 [some (.ref 3), some (.int a), some (.int 5), some (.int i), some (.int 1), some (.int 1), some (.int 1)] (v1.toList ++ []) M1 v M' 0 0)) := by
  have H : Ev none e 33 (if y = 0 then 262 else 264) [some (.ref 3), some (.int a), some (.int 5), some (.int i), some (.int 1), some (.int 1), some (.int 1)] [] M v M' 0 0 := Ev.back 1 (fun n => rfl) H
  by_cases h1 : y = 0
  · rw [if_pos h1] at H
    have H : Ev none e 33 263 [some (.ref 3), some (.int a), some (.int 5), some (.int i), some (.int 1), some (.int 1), some (.int 1)] [.int 0] M v M' 0 0 := Ev.back 1 (fun n => rfl) H
    obtain ⟨z1, z2⟩ := Ev.retz rfl rfl H
    exact Or.inl ⟨h1, z1, z2⟩
  · rw [if_neg h1] at H
    have H : Ev none e 33 265 [some (.ref 3), some (.int a), some (.int 5), some (.int i), some (.int 1), some (.int 1), some (.int 1)] [.ref 3] M v M' 0 0 := Ev.back 1 (fun n => rfl) H
    have H : Ev none e 33 268 [some (.ref 3), some (.int a), some (.int 5), some (.int i), some (.int 1), some (.int 1), some (.int 1)] [.int (zI M 3 7)] M v M' 0 0 := Ev.back 1 (gs_3 rfl rfl (gf_i hS.1 qa_3 qi_3_7 rfl)) H
    have H : Ev none e 33 (if (zI M 3 7) = 59 then 279 else 273) [some (.ref 3), some (.int a), some (.int 5), some (.int i), some (.int 1), some (.int 1), some (.int 1)] [] M v M' 0 0 := Ev.back 2 (fun n => rfl) H
    by_cases h2 : (zI M 3 7) = 59
    · rw [if_pos h2] at H
      have H : Ev none e 33 280 [some (.ref 3), some (.int a), some (.int 5), some (.int i), some (.int 1), some (.int 1), some (.int 1)] [.ref 3] M v M' 0 0 := Ev.back 1 (fun n => rfl) H
      obtain ⟨e1, rfl⟩ := Ev.dpos rfl rfl H
      obtain ⟨vK3, MK3, K3, H⟩ := Ev.callb (fun n => gs_7 rfl rfl (show gCal (.invokevirtual 140) 3 (.ref 3 :: []) M = some (.inr (31, [some (.ref 3)], [])) from by show @cond (Option ((List Value × Mem) ⊕ (Nat × Lo × List Value))) (true && gRecv M (.ref 3) 3 && gRoom [] && true) (some (.inr (31, [some (.ref 3)], []))) none = _; rw [recv_s hS.1 qa_3 qo_3]; rfl)) H
      have K3 : Ev none e1 31 0 [some (.ref 3)] [] M vK3 MK3 0 0 := K3
      have HF := H
      exact Or.inr (Or.inl ⟨h1, h2, ⟨e1, vK3, MK3, rfl, K3, HF⟩⟩)
    · rw [if_neg h2] at H
      have H : Ev none e 33 275 [some (.ref 3), some (.int a), some (.int 5), some (.int i), some (.int 1), some (.int 1), some (.int 1)] [.int 1, .ref 3] M v M' 0 0 := Ev.back 2 (fun n => rfl) H
      obtain ⟨e1, rfl⟩ := Ev.dpos rfl rfl H
      obtain ⟨vK4, MK4, K4, H⟩ := Ev.callb (fun n => gs_7 rfl rfl (show gCal (.invokevirtual 68) 3 (.int 1 :: .ref 3 :: []) M = some (.inr (27, [some (.ref 3), some (.int 1)], [])) from by show @cond (Option ((List Value × Mem) ⊕ (Nat × Lo × List Value))) (true && gRecv M (.ref 3) 3 && gRoom [] && true) (some (.inr (27, [some (.ref 3), some (.int 1)], []))) none = _; rw [recv_s hS.1 qa_3 qo_3]; rfl)) H
      have K4 : Ev none e1 27 0 [some (.ref 3), some (.int 1)] [] M vK4 MK4 0 0 := K4
      have HF := H
      exact Or.inr (Or.inr (⟨h1, h2, ⟨e1, vK4, MK4, rfl, K4, HF⟩⟩))
theorem ln5_278 {e : Nat} {M M' : Mem} {v : Option Value} {a i y : Int32} {c5 c6 : Option Value} (hS : SQ M) (a_t : gNth sT (fR M 3 8) = some 28) (H : Ev none e 33 278 [some (.ref 3), some (.int a), some (.int 5), some (.int i), some (.int 1), c5, c6] [.int y] M v M' 0 0) : v = some (.int y) ∧ M' = M := by
  obtain ⟨z1, z2⟩ := Ev.retz rfl rfl H
  exact ⟨z1, z2⟩
theorem ln5_283 {e : Nat} {M M' : Mem} {v : Option Value} {a i : Int32} {c5 c6 : Option Value} (hS : SQ M) (a_t : gNth sT (fR M 3 8) = some 28) (H : Ev none e 33 283 [some (.ref 3), some (.int a), some (.int 5), some (.int i), some (.int 1), c5, c6] [] M v M' 0 0) : (0 ≤ i.toInt ∧ i.toInt < 16) ∧ v = some (.int 1) ∧ M' = (wF (wI M (fR M 3 8 + 5) i.toNatClampNeg (zI M (fR M 3 8) 9)) (fR M 3 8) 8 ((zI M (fR M 3 8) 8) + 1)) := by
  have H : Ev none e 33 284 [some (.ref 3), some (.int a), some (.int 5), some (.int i), some (.int 1), c5, c6] [.ref 3] M v M' 0 0 := Ev.back 1 (fun n => rfl) H
  have H : Ev none e 33 287 [some (.ref 3), some (.int a), some (.int 5), some (.int i), some (.int 1), c5, c6] [.ref (fR M 3 8)] M v M' 0 0 := Ev.back 1 (gs_3 rfl rfl (gf_n hS.1 qa_3 qn_3_8 (by decide) a_t rfl)) H
  have H : Ev none e 33 290 [some (.ref 3), some (.int a), some (.int 5), some (.int i), some (.int 1), c5, c6] [.ref (fR M 3 8 + 5)] M v M' 0 0 := Ev.back 1 (gs_3 rfl rfl (gf_x hS.1 a_t qo_28 (fx_t4 hS a_t) rfl)) H
  have H : Ev none e 33 292 [some (.ref 3), some (.int a), some (.int 5), some (.int i), some (.int 1), c5, c6] [.ref 3, .int i, .ref (fR M 3 8 + 5)] M v M' 0 0 := Ev.back 2 (fun n => rfl) H
  have H : Ev none e 33 295 [some (.ref 3), some (.int a), some (.int 5), some (.int i), some (.int 1), c5, c6] [.ref (fR M 3 8), .int i, .ref (fR M 3 8 + 5)] M v M' 0 0 := Ev.back 1 (gs_3 rfl rfl (gf_n hS.1 qa_3 qn_3_8 (by decide) a_t rfl)) H
  have H : Ev none e 33 298 [some (.ref 3), some (.int a), some (.int 5), some (.int i), some (.int 1), c5, c6] [.int (zI M (fR M 3 8) 9), .int i, .ref (fR M 3 8 + 5)] M v M' 0 0 := Ev.back 1 (gs_3 rfl rfl (gf_i hS.1 a_t qi_28_9 rfl)) H
  obtain ⟨b1, H⟩ := Ev.ias rfl rfl hS.1 (fx_g4 a_t) qw_33 H
  obtain ⟨N2, eN2⟩ : ∃ N, N = (wI M (fR M 3 8 + 5) i.toNatClampNeg (zI M (fR M 3 8) 9)) := ⟨_, rfl⟩
  have hN2 : SQ N2 := by rw [eN2]; exact hS.ki
  have H : Ev none e 33 299 [some (.ref 3), some (.int a), some (.int 5), some (.int i), some (.int 1), c5, c6] [] N2 v M' 0 0 := by rw [eN2]; exact H
  have H : Ev none e 33 300 [some (.ref 3), some (.int a), some (.int 5), some (.int i), some (.int 1), c5, c6] [.ref 3] N2 v M' 0 0 := Ev.back 1 (fun n => rfl) H
  have H : Ev none e 33 303 [some (.ref 3), some (.int a), some (.int 5), some (.int i), some (.int 1), c5, c6] [.ref (fR N2 3 8)] N2 v M' 0 0 := Ev.back 1 (gs_3 rfl rfl (gf_n hN2.1 qa_3 qn_3_8 (by decide) (by rw [show fR N2 3 8 = fR M 3 8 from by rw [eN2]; exact fR_wI]; exact a_t) rfl)) H
  rw [show fR N2 3 8 = fR M 3 8 from by rw [eN2]; exact fR_wI] at H
  have H : Ev none e 33 304 [some (.ref 3), some (.int a), some (.int 5), some (.int i), some (.int 1), c5, c6] [.ref (fR M 3 8), .ref (fR M 3 8)] N2 v M' 0 0 := Ev.back 1 (fun n => rfl) H
  have H : Ev none e 33 307 [some (.ref 3), some (.int a), some (.int 5), some (.int i), some (.int 1), c5, c6] [.int (zI N2 (fR M 3 8) 8), .ref (fR M 3 8)] N2 v M' 0 0 := Ev.back 1 (gs_3 rfl rfl (gf_i hN2.1 a_t qi_28_8 rfl)) H
  rw [show zI N2 (fR M 3 8) 8 = zI M (fR M 3 8) 8 from by rw [eN2]; exact fI_wI] at H
  have H : Ev none e 33 309 [some (.ref 3), some (.int a), some (.int 5), some (.int i), some (.int 1), c5, c6] [.int ((zI M (fR M 3 8) 8) + 1), .ref (fR M 3 8)] N2 v M' 0 0 := Ev.back 2 (fun n => rfl) H
  obtain ⟨N4, eN4⟩ : ∃ N, N = (wF N2 (fR M 3 8) 8 ((zI M (fR M 3 8) 8) + 1)) := ⟨_, rfl⟩
  have hN4 : SQ N4 := by rw [eN4]; exact hN2.kf
  have H : Ev none e 33 312 [some (.ref 3), some (.int a), some (.int 5), some (.int i), some (.int 1), c5, c6] [] N4 v M' 0 0 := by rw [eN4]; exact Ev.pfi rfl rfl rfl hN2.1 a_t qi_28_8 H
  have H : Ev none e 33 313 [some (.ref 3), some (.int a), some (.int 5), some (.int i), some (.int 1), c5, c6] [.int 1] N4 v M' 0 0 := Ev.back 1 (fun n => rfl) H
  obtain ⟨z1, z2⟩ := Ev.retz rfl rfl H
  subst eN2 eN4
  exact ⟨b1, z1, z2⟩
theorem ln6_44 {e : Nat} {M M' : Mem} {v : Option Value} {a : Int32} (hS : SQ M) (a_t : gNth sT (fR M 3 8) = some 28) (H : Ev none e 33 44 [some (.ref 3), some (.int a), some (.int 6), none, none, none, none] [] M v M' 0 0) : (16 ≤ (zI M (fR M 3 8) 8) ∧ (∃ e1 v1 M1, e = e1 + 1 ∧ Ev none e1 27 0 [some (.ref 3), some (.int 3)] [] M v1 M1 0 0 ∧ Ev none e 33 72 [some (.ref 3), some (.int a), some (.int 6), none, none, none, none] (v1.toList ++ []) M1 v M' 0 0)) ∨ (¬ (16 ≤ (zI M (fR M 3 8) 8)) ∧ ((zI M 3 10) &&& ((1 : Int32) <<< ((6 : Int32) &&& 31))) = 0 ∧ (0 ≤ (zI M (fR M 3 8) 8).toInt ∧ (zI M (fR M 3 8) 8).toInt < 16) ∧ (0 ≤ (zI M (fR M 3 8) 8).toInt ∧ (zI M (fR M 3 8) 8).toInt < 16) ∧ (0 ≤ (zI M (fR M 3 8) 8).toInt ∧ (zI M (fR M 3 8) 8).toInt < 16) ∧ (0 ≤ (zI M (fR M 3 8) 8).toInt ∧ (zI M (fR M 3 8) 8).toInt < 16) ∧ (0 ≤ (zI M (fR M 3 8) 8).toInt ∧ (zI M (fR M 3 8) 8).toInt < 16) ∧ (∃ e1 v1 M1, e = e1 + 1 ∧ Ev none e1 31 0 [some (.ref 3)] [] (wI (wI (wI (wI (wI M (fR M 3 8 + 1) ((zI M (fR M 3 8) 8).toNatClampNeg) 6) (fR M 3 8 + 2) ((zI M (fR M 3 8) 8).toNatClampNeg) 0) (fR M 3 8 + 3) ((zI M (fR M 3 8) 8).toNatClampNeg) 0) (fR M 3 8 + 4) ((zI M (fR M 3 8) 8).toNatClampNeg) (zI M (fR M 3 8) 9)) (fR M 3 8 + 5) ((zI M (fR M 3 8) 8).toNatClampNeg) (zI M (fR M 3 8) 9)) v1 M1 0 0 ∧ Ev none e 33 147 [some (.ref 3), some (.int a), some (.int 6), some (.int (zI M (fR M 3 8) 8)), none, none, none] (v1.toList ++ []) M1 v M' 0 0)) ∨ (¬ (16 ≤ (zI M (fR M 3 8) 8)) ∧ ¬ (((zI M 3 10) &&& ((1 : Int32) <<< ((6 : Int32) &&& 31))) = 0) ∧ (∃ e1 v1 M1, e = e1 + 1 ∧ Ev none e1 27 0 [some (.ref 3), some (.int 3)] [] M v1 M1 0 0 ∧ Ev none e 33 72 [some (.ref 3), some (.int a), some (.int 6), none, none, none, none] (v1.toList ++ []) M1 v M' 0 0)) := by
  have H : Ev none e 33 45 [some (.ref 3), some (.int a), some (.int 6), none, none, none, none] [.ref 3] M v M' 0 0 := Ev.back 1 (fun n => rfl) H
  have H : Ev none e 33 48 [some (.ref 3), some (.int a), some (.int 6), none, none, none, none] [.ref (fR M 3 8)] M v M' 0 0 := Ev.back 1 (gs_3 rfl rfl (gf_n hS.1 qa_3 qn_3_8 (by decide) a_t rfl)) H
  have H : Ev none e 33 51 [some (.ref 3), some (.int a), some (.int 6), none, none, none, none] [.int (zI M (fR M 3 8) 8)] M v M' 0 0 := Ev.back 1 (gs_3 rfl rfl (gf_i hS.1 a_t qi_28_8 rfl)) H
  have H : Ev none e 33 (if 16 ≤ (zI M (fR M 3 8) 8) then 67 else 56) [some (.ref 3), some (.int a), some (.int 6), none, none, none, none] [] M v M' 0 0 := Ev.back 2 (fun n => rfl) H
  by_cases h1 : 16 ≤ (zI M (fR M 3 8) 8)
  · rw [if_pos h1] at H
    have H : Ev none e 33 69 [some (.ref 3), some (.int a), some (.int 6), none, none, none, none] [.int 3, .ref 3] M v M' 0 0 := Ev.back 2 (fun n => rfl) H
    obtain ⟨e1, rfl⟩ := Ev.dpos rfl rfl H
    obtain ⟨vK2, MK2, K2, H⟩ := Ev.callb (fun n => gs_7 rfl rfl (show gCal (.invokevirtual 68) 3 (.int 3 :: .ref 3 :: []) M = some (.inr (27, [some (.ref 3), some (.int 3)], [])) from by show @cond (Option ((List Value × Mem) ⊕ (Nat × Lo × List Value))) (true && gRecv M (.ref 3) 3 && gRoom [] && true) (some (.inr (27, [some (.ref 3), some (.int 3)], []))) none = _; rw [recv_s hS.1 qa_3 qo_3]; rfl)) H
    have K2 : Ev none e1 27 0 [some (.ref 3), some (.int 3)] [] M vK2 MK2 0 0 := K2
    have HF := H
    exact Or.inl ⟨h1, ⟨e1, vK2, MK2, rfl, K2, HF⟩⟩
  · rw [if_neg h1] at H
    have H : Ev none e 33 57 [some (.ref 3), some (.int a), some (.int 6), none, none, none, none] [.ref 3] M v M' 0 0 := Ev.back 1 (fun n => rfl) H
    have H : Ev none e 33 60 [some (.ref 3), some (.int a), some (.int 6), none, none, none, none] [.int (zI M 3 10)] M v M' 0 0 := Ev.back 1 (gs_3 rfl rfl (gf_i hS.1 qa_3 qi_3_10 rfl)) H
    have H : Ev none e 33 (if ((zI M 3 10) &&& ((1 : Int32) <<< ((6 : Int32) &&& 31))) = 0 then 73 else 67) [some (.ref 3), some (.int a), some (.int 6), none, none, none, none] [] M v M' 0 0 := Ev.back 5 (fun n => rfl) H
    by_cases h3 : ((zI M 3 10) &&& ((1 : Int32) <<< ((6 : Int32) &&& 31))) = 0
    · rw [if_pos h3] at H
      have H : Ev none e 33 74 [some (.ref 3), some (.int a), some (.int 6), none, none, none, none] [.ref 3] M v M' 0 0 := Ev.back 1 (fun n => rfl) H
      have H : Ev none e 33 77 [some (.ref 3), some (.int a), some (.int 6), none, none, none, none] [.ref (fR M 3 8)] M v M' 0 0 := Ev.back 1 (gs_3 rfl rfl (gf_n hS.1 qa_3 qn_3_8 (by decide) a_t rfl)) H
      have H : Ev none e 33 80 [some (.ref 3), some (.int a), some (.int 6), none, none, none, none] [.int (zI M (fR M 3 8) 8)] M v M' 0 0 := Ev.back 1 (gs_3 rfl rfl (gf_i hS.1 a_t qi_28_8 rfl)) H
      have H : Ev none e 33 82 [some (.ref 3), some (.int a), some (.int 6), some (.int (zI M (fR M 3 8) 8)), none, none, none] [.ref 3] M v M' 0 0 := Ev.back 2 (fun n => rfl) H
      have H : Ev none e 33 85 [some (.ref 3), some (.int a), some (.int 6), some (.int (zI M (fR M 3 8) 8)), none, none, none] [.ref (fR M 3 8)] M v M' 0 0 := Ev.back 1 (gs_3 rfl rfl (gf_n hS.1 qa_3 qn_3_8 (by decide) a_t rfl)) H
      have H : Ev none e 33 88 [some (.ref 3), some (.int a), some (.int 6), some (.int (zI M (fR M 3 8) 8)), none, none, none] [.ref (fR M 3 8 + 1)] M v M' 0 0 := Ev.back 1 (gs_3 rfl rfl (gf_x hS.1 a_t qo_28 (fx_t0 hS a_t) rfl)) H
      have H : Ev none e 33 90 [some (.ref 3), some (.int a), some (.int 6), some (.int (zI M (fR M 3 8) 8)), none, none, none] [.int 6, .int (zI M (fR M 3 8) 8), .ref (fR M 3 8 + 1)] M v M' 0 0 := Ev.back 2 (fun n => rfl) H
      obtain ⟨b4, H⟩ := Ev.ias rfl rfl hS.1 (fx_g0 a_t) qw_29 H
      obtain ⟨N5, eN5⟩ : ∃ N, N = (wI M (fR M 3 8 + 1) ((zI M (fR M 3 8) 8).toNatClampNeg) 6) := ⟨_, rfl⟩
      have hN5 : SQ N5 := by rw [eN5]; exact hS.ki
      have H : Ev none e 33 91 [some (.ref 3), some (.int a), some (.int 6), some (.int (zI M (fR M 3 8) 8)), none, none, none] [] N5 v M' 0 0 := by rw [eN5]; exact H
      have H : Ev none e 33 92 [some (.ref 3), some (.int a), some (.int 6), some (.int (zI M (fR M 3 8) 8)), none, none, none] [.ref 3] N5 v M' 0 0 := Ev.back 1 (fun n => rfl) H
      have H : Ev none e 33 95 [some (.ref 3), some (.int a), some (.int 6), some (.int (zI M (fR M 3 8) 8)), none, none, none] [.ref (fR N5 3 8)] N5 v M' 0 0 := Ev.back 1 (gs_3 rfl rfl (gf_n hN5.1 qa_3 qn_3_8 (by decide) (by rw [show fR N5 3 8 = fR M 3 8 from by rw [eN5]; exact fR_wI]; exact a_t) rfl)) H
      rw [show fR N5 3 8 = fR M 3 8 from by rw [eN5]; exact fR_wI] at H
      have H : Ev none e 33 98 [some (.ref 3), some (.int a), some (.int 6), some (.int (zI M (fR M 3 8) 8)), none, none, none] [.ref (fR M 3 8 + 2)] N5 v M' 0 0 := Ev.back 1 (gs_3 rfl rfl (gf_x hN5.1 a_t qo_28 (fx_t1 hN5 a_t) rfl)) H
      have H : Ev none e 33 100 [some (.ref 3), some (.int a), some (.int 6), some (.int (zI M (fR M 3 8) 8)), none, none, none] [.int 0, .int (zI M (fR M 3 8) 8), .ref (fR M 3 8 + 2)] N5 v M' 0 0 := Ev.back 2 (fun n => rfl) H
      obtain ⟨b6, H⟩ := Ev.ias rfl rfl hN5.1 (fx_g1 a_t) qw_30 H
      obtain ⟨N7, eN7⟩ : ∃ N, N = (wI N5 (fR M 3 8 + 2) ((zI M (fR M 3 8) 8).toNatClampNeg) 0) := ⟨_, rfl⟩
      have hN7 : SQ N7 := by rw [eN7]; exact hN5.ki
      have H : Ev none e 33 101 [some (.ref 3), some (.int a), some (.int 6), some (.int (zI M (fR M 3 8) 8)), none, none, none] [] N7 v M' 0 0 := by rw [eN7]; exact H
      have H : Ev none e 33 102 [some (.ref 3), some (.int a), some (.int 6), some (.int (zI M (fR M 3 8) 8)), none, none, none] [.ref 3] N7 v M' 0 0 := Ev.back 1 (fun n => rfl) H
      have H : Ev none e 33 105 [some (.ref 3), some (.int a), some (.int 6), some (.int (zI M (fR M 3 8) 8)), none, none, none] [.ref (fR N7 3 8)] N7 v M' 0 0 := Ev.back 1 (gs_3 rfl rfl (gf_n hN7.1 qa_3 qn_3_8 (by decide) (by rw [(show fR N7 3 8 = fR N5 3 8 from by rw [eN7]; exact fR_wI).trans (show fR N5 3 8 = fR M 3 8 from by rw [eN5]; exact fR_wI)]; exact a_t) rfl)) H
      rw [(show fR N7 3 8 = fR N5 3 8 from by rw [eN7]; exact fR_wI).trans (show fR N5 3 8 = fR M 3 8 from by rw [eN5]; exact fR_wI)] at H
      have H : Ev none e 33 108 [some (.ref 3), some (.int a), some (.int 6), some (.int (zI M (fR M 3 8) 8)), none, none, none] [.ref (fR M 3 8 + 3)] N7 v M' 0 0 := Ev.back 1 (gs_3 rfl rfl (gf_x hN7.1 a_t qo_28 (fx_t2 hN7 a_t) rfl)) H
      have H : Ev none e 33 110 [some (.ref 3), some (.int a), some (.int 6), some (.int (zI M (fR M 3 8) 8)), none, none, none] [.int 0, .int (zI M (fR M 3 8) 8), .ref (fR M 3 8 + 3)] N7 v M' 0 0 := Ev.back 2 (fun n => rfl) H
      obtain ⟨b8, H⟩ := Ev.ias rfl rfl hN7.1 (fx_g2 a_t) qw_31 H
      obtain ⟨N9, eN9⟩ : ∃ N, N = (wI N7 (fR M 3 8 + 3) ((zI M (fR M 3 8) 8).toNatClampNeg) 0) := ⟨_, rfl⟩
      have hN9 : SQ N9 := by rw [eN9]; exact hN7.ki
      have H : Ev none e 33 111 [some (.ref 3), some (.int a), some (.int 6), some (.int (zI M (fR M 3 8) 8)), none, none, none] [] N9 v M' 0 0 := by rw [eN9]; exact H
      have H : Ev none e 33 112 [some (.ref 3), some (.int a), some (.int 6), some (.int (zI M (fR M 3 8) 8)), none, none, none] [.ref 3] N9 v M' 0 0 := Ev.back 1 (fun n => rfl) H
      have H : Ev none e 33 115 [some (.ref 3), some (.int a), some (.int 6), some (.int (zI M (fR M 3 8) 8)), none, none, none] [.ref (fR N9 3 8)] N9 v M' 0 0 := Ev.back 1 (gs_3 rfl rfl (gf_n hN9.1 qa_3 qn_3_8 (by decide) (by rw [((show fR N9 3 8 = fR N7 3 8 from by rw [eN9]; exact fR_wI).trans (show fR N7 3 8 = fR N5 3 8 from by rw [eN7]; exact fR_wI)).trans (show fR N5 3 8 = fR M 3 8 from by rw [eN5]; exact fR_wI)]; exact a_t) rfl)) H
      rw [((show fR N9 3 8 = fR N7 3 8 from by rw [eN9]; exact fR_wI).trans (show fR N7 3 8 = fR N5 3 8 from by rw [eN7]; exact fR_wI)).trans (show fR N5 3 8 = fR M 3 8 from by rw [eN5]; exact fR_wI)] at H
      have H : Ev none e 33 118 [some (.ref 3), some (.int a), some (.int 6), some (.int (zI M (fR M 3 8) 8)), none, none, none] [.ref (fR M 3 8 + 4)] N9 v M' 0 0 := Ev.back 1 (gs_3 rfl rfl (gf_x hN9.1 a_t qo_28 (fx_t3 hN9 a_t) rfl)) H
      have H : Ev none e 33 120 [some (.ref 3), some (.int a), some (.int 6), some (.int (zI M (fR M 3 8) 8)), none, none, none] [.ref 3, .int (zI M (fR M 3 8) 8), .ref (fR M 3 8 + 4)] N9 v M' 0 0 := Ev.back 2 (fun n => rfl) H
      have H : Ev none e 33 123 [some (.ref 3), some (.int a), some (.int 6), some (.int (zI M (fR M 3 8) 8)), none, none, none] [.ref (fR N9 3 8), .int (zI M (fR M 3 8) 8), .ref (fR M 3 8 + 4)] N9 v M' 0 0 := Ev.back 1 (gs_3 rfl rfl (gf_n hN9.1 qa_3 qn_3_8 (by decide) (by rw [((show fR N9 3 8 = fR N7 3 8 from by rw [eN9]; exact fR_wI).trans (show fR N7 3 8 = fR N5 3 8 from by rw [eN7]; exact fR_wI)).trans (show fR N5 3 8 = fR M 3 8 from by rw [eN5]; exact fR_wI)]; exact a_t) rfl)) H
      rw [((show fR N9 3 8 = fR N7 3 8 from by rw [eN9]; exact fR_wI).trans (show fR N7 3 8 = fR N5 3 8 from by rw [eN7]; exact fR_wI)).trans (show fR N5 3 8 = fR M 3 8 from by rw [eN5]; exact fR_wI)] at H
      have H : Ev none e 33 126 [some (.ref 3), some (.int a), some (.int 6), some (.int (zI M (fR M 3 8) 8)), none, none, none] [.int (zI N9 (fR M 3 8) 9), .int (zI M (fR M 3 8) 8), .ref (fR M 3 8 + 4)] N9 v M' 0 0 := Ev.back 1 (gs_3 rfl rfl (gf_i hN9.1 a_t qi_28_9 rfl)) H
      rw [((show zI N9 (fR M 3 8) 9 = zI N7 (fR M 3 8) 9 from by rw [eN9]; exact fI_wI).trans (show zI N7 (fR M 3 8) 9 = zI N5 (fR M 3 8) 9 from by rw [eN7]; exact fI_wI)).trans (show zI N5 (fR M 3 8) 9 = zI M (fR M 3 8) 9 from by rw [eN5]; exact fI_wI)] at H
      obtain ⟨b10, H⟩ := Ev.ias rfl rfl hN9.1 (fx_g3 a_t) qw_32 H
      obtain ⟨N11, eN11⟩ : ∃ N, N = (wI N9 (fR M 3 8 + 4) ((zI M (fR M 3 8) 8).toNatClampNeg) (zI M (fR M 3 8) 9)) := ⟨_, rfl⟩
      have hN11 : SQ N11 := by rw [eN11]; exact hN9.ki
      have H : Ev none e 33 127 [some (.ref 3), some (.int a), some (.int 6), some (.int (zI M (fR M 3 8) 8)), none, none, none] [] N11 v M' 0 0 := by rw [eN11]; exact H
      have H : Ev none e 33 128 [some (.ref 3), some (.int a), some (.int 6), some (.int (zI M (fR M 3 8) 8)), none, none, none] [.ref 3] N11 v M' 0 0 := Ev.back 1 (fun n => rfl) H
      have H : Ev none e 33 131 [some (.ref 3), some (.int a), some (.int 6), some (.int (zI M (fR M 3 8) 8)), none, none, none] [.ref (fR N11 3 8)] N11 v M' 0 0 := Ev.back 1 (gs_3 rfl rfl (gf_n hN11.1 qa_3 qn_3_8 (by decide) (by rw [(((show fR N11 3 8 = fR N9 3 8 from by rw [eN11]; exact fR_wI).trans (show fR N9 3 8 = fR N7 3 8 from by rw [eN9]; exact fR_wI)).trans (show fR N7 3 8 = fR N5 3 8 from by rw [eN7]; exact fR_wI)).trans (show fR N5 3 8 = fR M 3 8 from by rw [eN5]; exact fR_wI)]; exact a_t) rfl)) H
      rw [(((show fR N11 3 8 = fR N9 3 8 from by rw [eN11]; exact fR_wI).trans (show fR N9 3 8 = fR N7 3 8 from by rw [eN9]; exact fR_wI)).trans (show fR N7 3 8 = fR N5 3 8 from by rw [eN7]; exact fR_wI)).trans (show fR N5 3 8 = fR M 3 8 from by rw [eN5]; exact fR_wI)] at H
      have H : Ev none e 33 134 [some (.ref 3), some (.int a), some (.int 6), some (.int (zI M (fR M 3 8) 8)), none, none, none] [.ref (fR M 3 8 + 5)] N11 v M' 0 0 := Ev.back 1 (gs_3 rfl rfl (gf_x hN11.1 a_t qo_28 (fx_t4 hN11 a_t) rfl)) H
      have H : Ev none e 33 136 [some (.ref 3), some (.int a), some (.int 6), some (.int (zI M (fR M 3 8) 8)), none, none, none] [.ref 3, .int (zI M (fR M 3 8) 8), .ref (fR M 3 8 + 5)] N11 v M' 0 0 := Ev.back 2 (fun n => rfl) H
      have H : Ev none e 33 139 [some (.ref 3), some (.int a), some (.int 6), some (.int (zI M (fR M 3 8) 8)), none, none, none] [.ref (fR N11 3 8), .int (zI M (fR M 3 8) 8), .ref (fR M 3 8 + 5)] N11 v M' 0 0 := Ev.back 1 (gs_3 rfl rfl (gf_n hN11.1 qa_3 qn_3_8 (by decide) (by rw [(((show fR N11 3 8 = fR N9 3 8 from by rw [eN11]; exact fR_wI).trans (show fR N9 3 8 = fR N7 3 8 from by rw [eN9]; exact fR_wI)).trans (show fR N7 3 8 = fR N5 3 8 from by rw [eN7]; exact fR_wI)).trans (show fR N5 3 8 = fR M 3 8 from by rw [eN5]; exact fR_wI)]; exact a_t) rfl)) H
      rw [(((show fR N11 3 8 = fR N9 3 8 from by rw [eN11]; exact fR_wI).trans (show fR N9 3 8 = fR N7 3 8 from by rw [eN9]; exact fR_wI)).trans (show fR N7 3 8 = fR N5 3 8 from by rw [eN7]; exact fR_wI)).trans (show fR N5 3 8 = fR M 3 8 from by rw [eN5]; exact fR_wI)] at H
      have H : Ev none e 33 142 [some (.ref 3), some (.int a), some (.int 6), some (.int (zI M (fR M 3 8) 8)), none, none, none] [.int (zI N11 (fR M 3 8) 9), .int (zI M (fR M 3 8) 8), .ref (fR M 3 8 + 5)] N11 v M' 0 0 := Ev.back 1 (gs_3 rfl rfl (gf_i hN11.1 a_t qi_28_9 rfl)) H
      rw [(((show zI N11 (fR M 3 8) 9 = zI N9 (fR M 3 8) 9 from by rw [eN11]; exact fI_wI).trans (show zI N9 (fR M 3 8) 9 = zI N7 (fR M 3 8) 9 from by rw [eN9]; exact fI_wI)).trans (show zI N7 (fR M 3 8) 9 = zI N5 (fR M 3 8) 9 from by rw [eN7]; exact fI_wI)).trans (show zI N5 (fR M 3 8) 9 = zI M (fR M 3 8) 9 from by rw [eN5]; exact fI_wI)] at H
      obtain ⟨b12, H⟩ := Ev.ias rfl rfl hN11.1 (fx_g4 a_t) qw_33 H
      obtain ⟨N13, eN13⟩ : ∃ N, N = (wI N11 (fR M 3 8 + 5) ((zI M (fR M 3 8) 8).toNatClampNeg) (zI M (fR M 3 8) 9)) := ⟨_, rfl⟩
      have hN13 : SQ N13 := by rw [eN13]; exact hN11.ki
      have H : Ev none e 33 143 [some (.ref 3), some (.int a), some (.int 6), some (.int (zI M (fR M 3 8) 8)), none, none, none] [] N13 v M' 0 0 := by rw [eN13]; exact H
      have H : Ev none e 33 144 [some (.ref 3), some (.int a), some (.int 6), some (.int (zI M (fR M 3 8) 8)), none, none, none] [.ref 3] N13 v M' 0 0 := Ev.back 1 (fun n => rfl) H
      obtain ⟨e1, rfl⟩ := Ev.dpos rfl rfl H
      obtain ⟨vK14, MK14, K14, H⟩ := Ev.callb (fun n => gs_7 rfl rfl (show gCal (.invokevirtual 140) 3 (.ref 3 :: []) N13 = some (.inr (31, [some (.ref 3)], [])) from by show @cond (Option ((List Value × Mem) ⊕ (Nat × Lo × List Value))) (true && gRecv N13 (.ref 3) 3 && gRoom [] && true) (some (.inr (31, [some (.ref 3)], []))) none = _; rw [recv_s hN13.1 qa_3 qo_3]; rfl)) H
      have K14 : Ev none e1 31 0 [some (.ref 3)] [] N13 vK14 MK14 0 0 := K14
      have HF := H
      subst eN5 eN7 eN9 eN11 eN13
      exact Or.inr (Or.inl ⟨h1, h3, b4, b6, b8, b10, b12, ⟨e1, vK14, MK14, rfl, K14, HF⟩⟩)
    · rw [if_neg h3] at H
      have H : Ev none e 33 69 [some (.ref 3), some (.int a), some (.int 6), none, none, none, none] [.int 3, .ref 3] M v M' 0 0 := Ev.back 2 (fun n => rfl) H
      obtain ⟨e1, rfl⟩ := Ev.dpos rfl rfl H
      obtain ⟨vK15, MK15, K15, H⟩ := Ev.callb (fun n => gs_7 rfl rfl (show gCal (.invokevirtual 68) 3 (.int 3 :: .ref 3 :: []) M = some (.inr (27, [some (.ref 3), some (.int 3)], [])) from by show @cond (Option ((List Value × Mem) ⊕ (Nat × Lo × List Value))) (true && gRecv M (.ref 3) 3 && gRoom [] && true) (some (.inr (27, [some (.ref 3), some (.int 3)], []))) none = _; rw [recv_s hS.1 qa_3 qo_3]; rfl)) H
      have K15 : Ev none e1 27 0 [some (.ref 3), some (.int 3)] [] M vK15 MK15 0 0 := K15
      have HF := H
      exact Or.inr (Or.inr (⟨h1, h3, ⟨e1, vK15, MK15, rfl, K15, HF⟩⟩))
theorem ln6_72 {e : Nat} {M M' : Mem} {v : Option Value} {a y : Int32} (hS : SQ M) (a_t : gNth sT (fR M 3 8) = some 28) (H : Ev none e 33 72 [some (.ref 3), some (.int a), some (.int 6), none, none, none, none] [.int y] M v M' 0 0) : v = some (.int y) ∧ M' = M := by
  obtain ⟨z1, z2⟩ := Ev.retz rfl rfl H
  exact ⟨z1, z2⟩
theorem ln6_147 {e : Nat} {M M' : Mem} {v : Option Value} {a i : Int32} (hS : SQ M) (a_t : gNth sT (fR M 3 8) = some 28) (H : Ev none e 33 147 [some (.ref 3), some (.int a), some (.int 6), some (.int i), none, none, none] [] M v M' 0 0) : (∃ e1 v1 M1, e = e1 + 1 ∧ Ev none e1 36 0 [some (.ref 3), some (.int 1), none] [] M v1 M1 0 0 ∧ Ev none e 33 259 [some (.ref 3), some (.int a), some (.int 6), some (.int i), some (.int 1), some (.int 0), some (.int 0)] (v1.toList ++ []) M1 v M' 0 0) := by
  have H : Ev none e 33 (if 6 = 6 then 178 else 153) [some (.ref 3), some (.int a), some (.int 6), some (.int i), none, none, none] [] M v M' 0 0 := Ev.back 3 (fun n => rfl) H
  rw [if_pos (by decide)] at H
  have H : Ev none e 33 (if 1 = 0 then 190 else 192) [some (.ref 3), some (.int a), some (.int 6), some (.int i), some (.int 1), none, none] [] M v M' 0 0 := Ev.back 5 (fun n => rfl) H
  rw [if_neg (by decide)] at H
  have H : Ev none e 33 (if 6 = 0 then 206 else 196) [some (.ref 3), some (.int a), some (.int 6), some (.int i), some (.int 1), none, none] [] M v M' 0 0 := Ev.back 2 (fun n => rfl) H
  rw [if_neg (by decide)] at H
  have H : Ev none e 33 (if 6 = 1 then 206 else 201) [some (.ref 3), some (.int a), some (.int 6), some (.int i), some (.int 1), none, none] [] M v M' 0 0 := Ev.back 3 (fun n => rfl) H
  rw [if_neg (by decide)] at H
  have H : Ev none e 33 (if 6 = 5 then 206 else 210) [some (.ref 3), some (.int a), some (.int 6), some (.int i), some (.int 1), none, none] [] M v M' 0 0 := Ev.back 3 (fun n => rfl) H
  rw [if_neg (by decide)] at H
  have H : Ev none e 33 (if 0 = 0 then 231 else 218) [some (.ref 3), some (.int a), some (.int 6), some (.int i), some (.int 1), some (.int 0), none] [] M v M' 0 0 := Ev.back 4 (fun n => rfl) H
  rw [if_pos (by decide)] at H
  have H : Ev none e 33 (if 0 = 0 then 243 else 239) [some (.ref 3), some (.int a), some (.int 6), some (.int i), some (.int 1), some (.int 0), some (.int 0)] [] M v M' 0 0 := Ev.back 4 (fun n => rfl) H
  rw [if_pos (by decide)] at H
  have H : Ev none e 33 (if 0 = 0 then 248 else 254) [some (.ref 3), some (.int a), some (.int 6), some (.int i), some (.int 1), some (.int 0), some (.int 0)] [] M v M' 0 0 := Ev.back 2 (fun n => rfl) H
  rw [if_pos (by decide)] at H
  have H : Ev none e 33 (if 6 = 6 then 254 else 264) [some (.ref 3), some (.int a), some (.int 6), some (.int i), some (.int 1), some (.int 0), some (.int 0)] [] M v M' 0 0 := Ev.back 3 (fun n => rfl) H
  rw [if_pos (by decide)] at H
  have H : Ev none e 33 256 [some (.ref 3), some (.int a), some (.int 6), some (.int i), some (.int 1), some (.int 0), some (.int 0)] [.int 1, .ref 3] M v M' 0 0 := Ev.back 2 (fun n => rfl) H
  obtain ⟨e1, rfl⟩ := Ev.dpos rfl rfl H
  obtain ⟨vK1, MK1, K1, H⟩ := Ev.callb (fun n => gs_7 rfl rfl (show gCal (.invokevirtual 152) 3 (.int 1 :: .ref 3 :: []) M = some (.inr (36, [some (.ref 3), some (.int 1), none], [])) from by show @cond (Option ((List Value × Mem) ⊕ (Nat × Lo × List Value))) (true && gRecv M (.ref 3) 3 && gRoom [] && true) (some (.inr (36, [some (.ref 3), some (.int 1), none], []))) none = _; rw [recv_s hS.1 qa_3 qo_3]; rfl)) H
  have K1 : Ev none e1 36 0 [some (.ref 3), some (.int 1), none] [] M vK1 MK1 0 0 := K1
  have HF := H
  exact ⟨e1, vK1, MK1, rfl, K1, HF⟩
theorem ln6_259 {e : Nat} {M M' : Mem} {v : Option Value} {a i y : Int32} (hS : SQ M) (a_t : gNth sT (fR M 3 8) = some 28) (H : Ev none e 33 259 [some (.ref 3), some (.int a), some (.int 6), some (.int i), some (.int 1), some (.int 0), some (.int 0)] [.int y] M v M' 0 0) : (y = 0 ∧ v = some (.int 0) ∧ M' = M) ∨ (¬ (y = 0) ∧ (zI M 3 7) = 59 ∧ (∃ e1 v1 M1, e = e1 + 1 ∧ Ev none e1 31 0 [some (.ref 3)] [] M v1 M1 0 0 ∧ Ev none e 33 283 [some (.ref 3), some (.int a), some (.int 6), some (.int i), some (.int 1), some (.int 0), some (.int 0)] (v1.toList ++ []) M1 v M' 0 0)) ∨ (¬ (y = 0) ∧ ¬ ((zI M 3 7) = 59) ∧ (∃ e1 v1 M1, e = e1 + 1 ∧ Ev none e1 27 0 [some (.ref 3), some (.int 1)] [] M v1 M1 0 0 ∧ Ev none e 33 278 [some (.ref 3), some (.int a), some (.int 6), some (.int i), some (.int 1), some (.int 0), some (.int 0)] (v1.toList ++ []) M1 v M' 0 0)) := by
  have H : Ev none e 33 (if y = 0 then 262 else 264) [some (.ref 3), some (.int a), some (.int 6), some (.int i), some (.int 1), some (.int 0), some (.int 0)] [] M v M' 0 0 := Ev.back 1 (fun n => rfl) H
  by_cases h1 : y = 0
  · rw [if_pos h1] at H
    have H : Ev none e 33 263 [some (.ref 3), some (.int a), some (.int 6), some (.int i), some (.int 1), some (.int 0), some (.int 0)] [.int 0] M v M' 0 0 := Ev.back 1 (fun n => rfl) H
    obtain ⟨z1, z2⟩ := Ev.retz rfl rfl H
    exact Or.inl ⟨h1, z1, z2⟩
  · rw [if_neg h1] at H
    have H : Ev none e 33 265 [some (.ref 3), some (.int a), some (.int 6), some (.int i), some (.int 1), some (.int 0), some (.int 0)] [.ref 3] M v M' 0 0 := Ev.back 1 (fun n => rfl) H
    have H : Ev none e 33 268 [some (.ref 3), some (.int a), some (.int 6), some (.int i), some (.int 1), some (.int 0), some (.int 0)] [.int (zI M 3 7)] M v M' 0 0 := Ev.back 1 (gs_3 rfl rfl (gf_i hS.1 qa_3 qi_3_7 rfl)) H
    have H : Ev none e 33 (if (zI M 3 7) = 59 then 279 else 273) [some (.ref 3), some (.int a), some (.int 6), some (.int i), some (.int 1), some (.int 0), some (.int 0)] [] M v M' 0 0 := Ev.back 2 (fun n => rfl) H
    by_cases h2 : (zI M 3 7) = 59
    · rw [if_pos h2] at H
      have H : Ev none e 33 280 [some (.ref 3), some (.int a), some (.int 6), some (.int i), some (.int 1), some (.int 0), some (.int 0)] [.ref 3] M v M' 0 0 := Ev.back 1 (fun n => rfl) H
      obtain ⟨e1, rfl⟩ := Ev.dpos rfl rfl H
      obtain ⟨vK3, MK3, K3, H⟩ := Ev.callb (fun n => gs_7 rfl rfl (show gCal (.invokevirtual 140) 3 (.ref 3 :: []) M = some (.inr (31, [some (.ref 3)], [])) from by show @cond (Option ((List Value × Mem) ⊕ (Nat × Lo × List Value))) (true && gRecv M (.ref 3) 3 && gRoom [] && true) (some (.inr (31, [some (.ref 3)], []))) none = _; rw [recv_s hS.1 qa_3 qo_3]; rfl)) H
      have K3 : Ev none e1 31 0 [some (.ref 3)] [] M vK3 MK3 0 0 := K3
      have HF := H
      exact Or.inr (Or.inl ⟨h1, h2, ⟨e1, vK3, MK3, rfl, K3, HF⟩⟩)
    · rw [if_neg h2] at H
      have H : Ev none e 33 275 [some (.ref 3), some (.int a), some (.int 6), some (.int i), some (.int 1), some (.int 0), some (.int 0)] [.int 1, .ref 3] M v M' 0 0 := Ev.back 2 (fun n => rfl) H
      obtain ⟨e1, rfl⟩ := Ev.dpos rfl rfl H
      obtain ⟨vK4, MK4, K4, H⟩ := Ev.callb (fun n => gs_7 rfl rfl (show gCal (.invokevirtual 68) 3 (.int 1 :: .ref 3 :: []) M = some (.inr (27, [some (.ref 3), some (.int 1)], [])) from by show @cond (Option ((List Value × Mem) ⊕ (Nat × Lo × List Value))) (true && gRecv M (.ref 3) 3 && gRoom [] && true) (some (.inr (27, [some (.ref 3), some (.int 1)], []))) none = _; rw [recv_s hS.1 qa_3 qo_3]; rfl)) H
      have K4 : Ev none e1 27 0 [some (.ref 3), some (.int 1)] [] M vK4 MK4 0 0 := K4
      have HF := H
      exact Or.inr (Or.inr (⟨h1, h2, ⟨e1, vK4, MK4, rfl, K4, HF⟩⟩))
theorem ln6_278 {e : Nat} {M M' : Mem} {v : Option Value} {a i y : Int32} {c5 c6 : Option Value} (hS : SQ M) (a_t : gNth sT (fR M 3 8) = some 28) (H : Ev none e 33 278 [some (.ref 3), some (.int a), some (.int 6), some (.int i), some (.int 1), c5, c6] [.int y] M v M' 0 0) : v = some (.int y) ∧ M' = M := by
  obtain ⟨z1, z2⟩ := Ev.retz rfl rfl H
  exact ⟨z1, z2⟩
theorem ln6_283 {e : Nat} {M M' : Mem} {v : Option Value} {a i : Int32} {c5 c6 : Option Value} (hS : SQ M) (a_t : gNth sT (fR M 3 8) = some 28) (H : Ev none e 33 283 [some (.ref 3), some (.int a), some (.int 6), some (.int i), some (.int 1), c5, c6] [] M v M' 0 0) : (0 ≤ i.toInt ∧ i.toInt < 16) ∧ v = some (.int 1) ∧ M' = (wF (wI M (fR M 3 8 + 5) i.toNatClampNeg (zI M (fR M 3 8) 9)) (fR M 3 8) 8 ((zI M (fR M 3 8) 8) + 1)) := by
  have H : Ev none e 33 284 [some (.ref 3), some (.int a), some (.int 6), some (.int i), some (.int 1), c5, c6] [.ref 3] M v M' 0 0 := Ev.back 1 (fun n => rfl) H
  have H : Ev none e 33 287 [some (.ref 3), some (.int a), some (.int 6), some (.int i), some (.int 1), c5, c6] [.ref (fR M 3 8)] M v M' 0 0 := Ev.back 1 (gs_3 rfl rfl (gf_n hS.1 qa_3 qn_3_8 (by decide) a_t rfl)) H
  have H : Ev none e 33 290 [some (.ref 3), some (.int a), some (.int 6), some (.int i), some (.int 1), c5, c6] [.ref (fR M 3 8 + 5)] M v M' 0 0 := Ev.back 1 (gs_3 rfl rfl (gf_x hS.1 a_t qo_28 (fx_t4 hS a_t) rfl)) H
  have H : Ev none e 33 292 [some (.ref 3), some (.int a), some (.int 6), some (.int i), some (.int 1), c5, c6] [.ref 3, .int i, .ref (fR M 3 8 + 5)] M v M' 0 0 := Ev.back 2 (fun n => rfl) H
  have H : Ev none e 33 295 [some (.ref 3), some (.int a), some (.int 6), some (.int i), some (.int 1), c5, c6] [.ref (fR M 3 8), .int i, .ref (fR M 3 8 + 5)] M v M' 0 0 := Ev.back 1 (gs_3 rfl rfl (gf_n hS.1 qa_3 qn_3_8 (by decide) a_t rfl)) H
  have H : Ev none e 33 298 [some (.ref 3), some (.int a), some (.int 6), some (.int i), some (.int 1), c5, c6] [.int (zI M (fR M 3 8) 9), .int i, .ref (fR M 3 8 + 5)] M v M' 0 0 := Ev.back 1 (gs_3 rfl rfl (gf_i hS.1 a_t qi_28_9 rfl)) H
  obtain ⟨b1, H⟩ := Ev.ias rfl rfl hS.1 (fx_g4 a_t) qw_33 H
  obtain ⟨N2, eN2⟩ : ∃ N, N = (wI M (fR M 3 8 + 5) i.toNatClampNeg (zI M (fR M 3 8) 9)) := ⟨_, rfl⟩
  have hN2 : SQ N2 := by rw [eN2]; exact hS.ki
  have H : Ev none e 33 299 [some (.ref 3), some (.int a), some (.int 6), some (.int i), some (.int 1), c5, c6] [] N2 v M' 0 0 := by rw [eN2]; exact H
  have H : Ev none e 33 300 [some (.ref 3), some (.int a), some (.int 6), some (.int i), some (.int 1), c5, c6] [.ref 3] N2 v M' 0 0 := Ev.back 1 (fun n => rfl) H
  have H : Ev none e 33 303 [some (.ref 3), some (.int a), some (.int 6), some (.int i), some (.int 1), c5, c6] [.ref (fR N2 3 8)] N2 v M' 0 0 := Ev.back 1 (gs_3 rfl rfl (gf_n hN2.1 qa_3 qn_3_8 (by decide) (by rw [show fR N2 3 8 = fR M 3 8 from by rw [eN2]; exact fR_wI]; exact a_t) rfl)) H
  rw [show fR N2 3 8 = fR M 3 8 from by rw [eN2]; exact fR_wI] at H
  have H : Ev none e 33 304 [some (.ref 3), some (.int a), some (.int 6), some (.int i), some (.int 1), c5, c6] [.ref (fR M 3 8), .ref (fR M 3 8)] N2 v M' 0 0 := Ev.back 1 (fun n => rfl) H
  have H : Ev none e 33 307 [some (.ref 3), some (.int a), some (.int 6), some (.int i), some (.int 1), c5, c6] [.int (zI N2 (fR M 3 8) 8), .ref (fR M 3 8)] N2 v M' 0 0 := Ev.back 1 (gs_3 rfl rfl (gf_i hN2.1 a_t qi_28_8 rfl)) H
  rw [show zI N2 (fR M 3 8) 8 = zI M (fR M 3 8) 8 from by rw [eN2]; exact fI_wI] at H
  have H : Ev none e 33 309 [some (.ref 3), some (.int a), some (.int 6), some (.int i), some (.int 1), c5, c6] [.int ((zI M (fR M 3 8) 8) + 1), .ref (fR M 3 8)] N2 v M' 0 0 := Ev.back 2 (fun n => rfl) H
  obtain ⟨N4, eN4⟩ : ∃ N, N = (wF N2 (fR M 3 8) 8 ((zI M (fR M 3 8) 8) + 1)) := ⟨_, rfl⟩
  have hN4 : SQ N4 := by rw [eN4]; exact hN2.kf
  have H : Ev none e 33 312 [some (.ref 3), some (.int a), some (.int 6), some (.int i), some (.int 1), c5, c6] [] N4 v M' 0 0 := by rw [eN4]; exact Ev.pfi rfl rfl rfl hN2.1 a_t qi_28_8 H
  have H : Ev none e 33 313 [some (.ref 3), some (.int a), some (.int 6), some (.int i), some (.int 1), c5, c6] [.int 1] N4 v M' 0 0 := Ev.back 1 (fun n => rfl) H
  obtain ⟨z1, z2⟩ := Ev.retz rfl rfl H
  subst eN2 eN4
  exact ⟨b1, z1, z2⟩
theorem ln7_44 {e : Nat} {M M' : Mem} {v : Option Value} {a : Int32} (hS : SQ M) (a_t : gNth sT (fR M 3 8) = some 28) (H : Ev none e 33 44 [some (.ref 3), some (.int a), some (.int 7), none, none, none, none] [] M v M' 0 0) : (16 ≤ (zI M (fR M 3 8) 8) ∧ (∃ e1 v1 M1, e = e1 + 1 ∧ Ev none e1 27 0 [some (.ref 3), some (.int 3)] [] M v1 M1 0 0 ∧ Ev none e 33 72 [some (.ref 3), some (.int a), some (.int 7), none, none, none, none] (v1.toList ++ []) M1 v M' 0 0)) ∨ (¬ (16 ≤ (zI M (fR M 3 8) 8)) ∧ ((zI M 3 10) &&& ((1 : Int32) <<< ((7 : Int32) &&& 31))) = 0 ∧ (0 ≤ (zI M (fR M 3 8) 8).toInt ∧ (zI M (fR M 3 8) 8).toInt < 16) ∧ (0 ≤ (zI M (fR M 3 8) 8).toInt ∧ (zI M (fR M 3 8) 8).toInt < 16) ∧ (0 ≤ (zI M (fR M 3 8) 8).toInt ∧ (zI M (fR M 3 8) 8).toInt < 16) ∧ (0 ≤ (zI M (fR M 3 8) 8).toInt ∧ (zI M (fR M 3 8) 8).toInt < 16) ∧ (0 ≤ (zI M (fR M 3 8) 8).toInt ∧ (zI M (fR M 3 8) 8).toInt < 16) ∧ (∃ e1 v1 M1, e = e1 + 1 ∧ Ev none e1 31 0 [some (.ref 3)] [] (wI (wI (wI (wI (wI M (fR M 3 8 + 1) ((zI M (fR M 3 8) 8).toNatClampNeg) 7) (fR M 3 8 + 2) ((zI M (fR M 3 8) 8).toNatClampNeg) 0) (fR M 3 8 + 3) ((zI M (fR M 3 8) 8).toNatClampNeg) 0) (fR M 3 8 + 4) ((zI M (fR M 3 8) 8).toNatClampNeg) (zI M (fR M 3 8) 9)) (fR M 3 8 + 5) ((zI M (fR M 3 8) 8).toNatClampNeg) (zI M (fR M 3 8) 9)) v1 M1 0 0 ∧ Ev none e 33 147 [some (.ref 3), some (.int a), some (.int 7), some (.int (zI M (fR M 3 8) 8)), none, none, none] (v1.toList ++ []) M1 v M' 0 0)) ∨ (¬ (16 ≤ (zI M (fR M 3 8) 8)) ∧ ¬ (((zI M 3 10) &&& ((1 : Int32) <<< ((7 : Int32) &&& 31))) = 0) ∧ (∃ e1 v1 M1, e = e1 + 1 ∧ Ev none e1 27 0 [some (.ref 3), some (.int 3)] [] M v1 M1 0 0 ∧ Ev none e 33 72 [some (.ref 3), some (.int a), some (.int 7), none, none, none, none] (v1.toList ++ []) M1 v M' 0 0)) := by
  have H : Ev none e 33 45 [some (.ref 3), some (.int a), some (.int 7), none, none, none, none] [.ref 3] M v M' 0 0 := Ev.back 1 (fun n => rfl) H
  have H : Ev none e 33 48 [some (.ref 3), some (.int a), some (.int 7), none, none, none, none] [.ref (fR M 3 8)] M v M' 0 0 := Ev.back 1 (gs_3 rfl rfl (gf_n hS.1 qa_3 qn_3_8 (by decide) a_t rfl)) H
  have H : Ev none e 33 51 [some (.ref 3), some (.int a), some (.int 7), none, none, none, none] [.int (zI M (fR M 3 8) 8)] M v M' 0 0 := Ev.back 1 (gs_3 rfl rfl (gf_i hS.1 a_t qi_28_8 rfl)) H
  have H : Ev none e 33 (if 16 ≤ (zI M (fR M 3 8) 8) then 67 else 56) [some (.ref 3), some (.int a), some (.int 7), none, none, none, none] [] M v M' 0 0 := Ev.back 2 (fun n => rfl) H
  by_cases h1 : 16 ≤ (zI M (fR M 3 8) 8)
  · rw [if_pos h1] at H
    have H : Ev none e 33 69 [some (.ref 3), some (.int a), some (.int 7), none, none, none, none] [.int 3, .ref 3] M v M' 0 0 := Ev.back 2 (fun n => rfl) H
    obtain ⟨e1, rfl⟩ := Ev.dpos rfl rfl H
    obtain ⟨vK2, MK2, K2, H⟩ := Ev.callb (fun n => gs_7 rfl rfl (show gCal (.invokevirtual 68) 3 (.int 3 :: .ref 3 :: []) M = some (.inr (27, [some (.ref 3), some (.int 3)], [])) from by show @cond (Option ((List Value × Mem) ⊕ (Nat × Lo × List Value))) (true && gRecv M (.ref 3) 3 && gRoom [] && true) (some (.inr (27, [some (.ref 3), some (.int 3)], []))) none = _; rw [recv_s hS.1 qa_3 qo_3]; rfl)) H
    have K2 : Ev none e1 27 0 [some (.ref 3), some (.int 3)] [] M vK2 MK2 0 0 := K2
    have HF := H
    exact Or.inl ⟨h1, ⟨e1, vK2, MK2, rfl, K2, HF⟩⟩
  · rw [if_neg h1] at H
    have H : Ev none e 33 57 [some (.ref 3), some (.int a), some (.int 7), none, none, none, none] [.ref 3] M v M' 0 0 := Ev.back 1 (fun n => rfl) H
    have H : Ev none e 33 60 [some (.ref 3), some (.int a), some (.int 7), none, none, none, none] [.int (zI M 3 10)] M v M' 0 0 := Ev.back 1 (gs_3 rfl rfl (gf_i hS.1 qa_3 qi_3_10 rfl)) H
    have H : Ev none e 33 (if ((zI M 3 10) &&& ((1 : Int32) <<< ((7 : Int32) &&& 31))) = 0 then 73 else 67) [some (.ref 3), some (.int a), some (.int 7), none, none, none, none] [] M v M' 0 0 := Ev.back 5 (fun n => rfl) H
    by_cases h3 : ((zI M 3 10) &&& ((1 : Int32) <<< ((7 : Int32) &&& 31))) = 0
    · rw [if_pos h3] at H
      have H : Ev none e 33 74 [some (.ref 3), some (.int a), some (.int 7), none, none, none, none] [.ref 3] M v M' 0 0 := Ev.back 1 (fun n => rfl) H
      have H : Ev none e 33 77 [some (.ref 3), some (.int a), some (.int 7), none, none, none, none] [.ref (fR M 3 8)] M v M' 0 0 := Ev.back 1 (gs_3 rfl rfl (gf_n hS.1 qa_3 qn_3_8 (by decide) a_t rfl)) H
      have H : Ev none e 33 80 [some (.ref 3), some (.int a), some (.int 7), none, none, none, none] [.int (zI M (fR M 3 8) 8)] M v M' 0 0 := Ev.back 1 (gs_3 rfl rfl (gf_i hS.1 a_t qi_28_8 rfl)) H
      have H : Ev none e 33 82 [some (.ref 3), some (.int a), some (.int 7), some (.int (zI M (fR M 3 8) 8)), none, none, none] [.ref 3] M v M' 0 0 := Ev.back 2 (fun n => rfl) H
      have H : Ev none e 33 85 [some (.ref 3), some (.int a), some (.int 7), some (.int (zI M (fR M 3 8) 8)), none, none, none] [.ref (fR M 3 8)] M v M' 0 0 := Ev.back 1 (gs_3 rfl rfl (gf_n hS.1 qa_3 qn_3_8 (by decide) a_t rfl)) H
      have H : Ev none e 33 88 [some (.ref 3), some (.int a), some (.int 7), some (.int (zI M (fR M 3 8) 8)), none, none, none] [.ref (fR M 3 8 + 1)] M v M' 0 0 := Ev.back 1 (gs_3 rfl rfl (gf_x hS.1 a_t qo_28 (fx_t0 hS a_t) rfl)) H
      have H : Ev none e 33 90 [some (.ref 3), some (.int a), some (.int 7), some (.int (zI M (fR M 3 8) 8)), none, none, none] [.int 7, .int (zI M (fR M 3 8) 8), .ref (fR M 3 8 + 1)] M v M' 0 0 := Ev.back 2 (fun n => rfl) H
      obtain ⟨b4, H⟩ := Ev.ias rfl rfl hS.1 (fx_g0 a_t) qw_29 H
      obtain ⟨N5, eN5⟩ : ∃ N, N = (wI M (fR M 3 8 + 1) ((zI M (fR M 3 8) 8).toNatClampNeg) 7) := ⟨_, rfl⟩
      have hN5 : SQ N5 := by rw [eN5]; exact hS.ki
      have H : Ev none e 33 91 [some (.ref 3), some (.int a), some (.int 7), some (.int (zI M (fR M 3 8) 8)), none, none, none] [] N5 v M' 0 0 := by rw [eN5]; exact H
      have H : Ev none e 33 92 [some (.ref 3), some (.int a), some (.int 7), some (.int (zI M (fR M 3 8) 8)), none, none, none] [.ref 3] N5 v M' 0 0 := Ev.back 1 (fun n => rfl) H
      have H : Ev none e 33 95 [some (.ref 3), some (.int a), some (.int 7), some (.int (zI M (fR M 3 8) 8)), none, none, none] [.ref (fR N5 3 8)] N5 v M' 0 0 := Ev.back 1 (gs_3 rfl rfl (gf_n hN5.1 qa_3 qn_3_8 (by decide) (by rw [show fR N5 3 8 = fR M 3 8 from by rw [eN5]; exact fR_wI]; exact a_t) rfl)) H
      rw [show fR N5 3 8 = fR M 3 8 from by rw [eN5]; exact fR_wI] at H
      have H : Ev none e 33 98 [some (.ref 3), some (.int a), some (.int 7), some (.int (zI M (fR M 3 8) 8)), none, none, none] [.ref (fR M 3 8 + 2)] N5 v M' 0 0 := Ev.back 1 (gs_3 rfl rfl (gf_x hN5.1 a_t qo_28 (fx_t1 hN5 a_t) rfl)) H
      have H : Ev none e 33 100 [some (.ref 3), some (.int a), some (.int 7), some (.int (zI M (fR M 3 8) 8)), none, none, none] [.int 0, .int (zI M (fR M 3 8) 8), .ref (fR M 3 8 + 2)] N5 v M' 0 0 := Ev.back 2 (fun n => rfl) H
      obtain ⟨b6, H⟩ := Ev.ias rfl rfl hN5.1 (fx_g1 a_t) qw_30 H
      obtain ⟨N7, eN7⟩ : ∃ N, N = (wI N5 (fR M 3 8 + 2) ((zI M (fR M 3 8) 8).toNatClampNeg) 0) := ⟨_, rfl⟩
      have hN7 : SQ N7 := by rw [eN7]; exact hN5.ki
      have H : Ev none e 33 101 [some (.ref 3), some (.int a), some (.int 7), some (.int (zI M (fR M 3 8) 8)), none, none, none] [] N7 v M' 0 0 := by rw [eN7]; exact H
      have H : Ev none e 33 102 [some (.ref 3), some (.int a), some (.int 7), some (.int (zI M (fR M 3 8) 8)), none, none, none] [.ref 3] N7 v M' 0 0 := Ev.back 1 (fun n => rfl) H
      have H : Ev none e 33 105 [some (.ref 3), some (.int a), some (.int 7), some (.int (zI M (fR M 3 8) 8)), none, none, none] [.ref (fR N7 3 8)] N7 v M' 0 0 := Ev.back 1 (gs_3 rfl rfl (gf_n hN7.1 qa_3 qn_3_8 (by decide) (by rw [(show fR N7 3 8 = fR N5 3 8 from by rw [eN7]; exact fR_wI).trans (show fR N5 3 8 = fR M 3 8 from by rw [eN5]; exact fR_wI)]; exact a_t) rfl)) H
      rw [(show fR N7 3 8 = fR N5 3 8 from by rw [eN7]; exact fR_wI).trans (show fR N5 3 8 = fR M 3 8 from by rw [eN5]; exact fR_wI)] at H
      have H : Ev none e 33 108 [some (.ref 3), some (.int a), some (.int 7), some (.int (zI M (fR M 3 8) 8)), none, none, none] [.ref (fR M 3 8 + 3)] N7 v M' 0 0 := Ev.back 1 (gs_3 rfl rfl (gf_x hN7.1 a_t qo_28 (fx_t2 hN7 a_t) rfl)) H
      have H : Ev none e 33 110 [some (.ref 3), some (.int a), some (.int 7), some (.int (zI M (fR M 3 8) 8)), none, none, none] [.int 0, .int (zI M (fR M 3 8) 8), .ref (fR M 3 8 + 3)] N7 v M' 0 0 := Ev.back 2 (fun n => rfl) H
      obtain ⟨b8, H⟩ := Ev.ias rfl rfl hN7.1 (fx_g2 a_t) qw_31 H
      obtain ⟨N9, eN9⟩ : ∃ N, N = (wI N7 (fR M 3 8 + 3) ((zI M (fR M 3 8) 8).toNatClampNeg) 0) := ⟨_, rfl⟩
      have hN9 : SQ N9 := by rw [eN9]; exact hN7.ki
      have H : Ev none e 33 111 [some (.ref 3), some (.int a), some (.int 7), some (.int (zI M (fR M 3 8) 8)), none, none, none] [] N9 v M' 0 0 := by rw [eN9]; exact H
      have H : Ev none e 33 112 [some (.ref 3), some (.int a), some (.int 7), some (.int (zI M (fR M 3 8) 8)), none, none, none] [.ref 3] N9 v M' 0 0 := Ev.back 1 (fun n => rfl) H
      have H : Ev none e 33 115 [some (.ref 3), some (.int a), some (.int 7), some (.int (zI M (fR M 3 8) 8)), none, none, none] [.ref (fR N9 3 8)] N9 v M' 0 0 := Ev.back 1 (gs_3 rfl rfl (gf_n hN9.1 qa_3 qn_3_8 (by decide) (by rw [((show fR N9 3 8 = fR N7 3 8 from by rw [eN9]; exact fR_wI).trans (show fR N7 3 8 = fR N5 3 8 from by rw [eN7]; exact fR_wI)).trans (show fR N5 3 8 = fR M 3 8 from by rw [eN5]; exact fR_wI)]; exact a_t) rfl)) H
      rw [((show fR N9 3 8 = fR N7 3 8 from by rw [eN9]; exact fR_wI).trans (show fR N7 3 8 = fR N5 3 8 from by rw [eN7]; exact fR_wI)).trans (show fR N5 3 8 = fR M 3 8 from by rw [eN5]; exact fR_wI)] at H
      have H : Ev none e 33 118 [some (.ref 3), some (.int a), some (.int 7), some (.int (zI M (fR M 3 8) 8)), none, none, none] [.ref (fR M 3 8 + 4)] N9 v M' 0 0 := Ev.back 1 (gs_3 rfl rfl (gf_x hN9.1 a_t qo_28 (fx_t3 hN9 a_t) rfl)) H
      have H : Ev none e 33 120 [some (.ref 3), some (.int a), some (.int 7), some (.int (zI M (fR M 3 8) 8)), none, none, none] [.ref 3, .int (zI M (fR M 3 8) 8), .ref (fR M 3 8 + 4)] N9 v M' 0 0 := Ev.back 2 (fun n => rfl) H
      have H : Ev none e 33 123 [some (.ref 3), some (.int a), some (.int 7), some (.int (zI M (fR M 3 8) 8)), none, none, none] [.ref (fR N9 3 8), .int (zI M (fR M 3 8) 8), .ref (fR M 3 8 + 4)] N9 v M' 0 0 := Ev.back 1 (gs_3 rfl rfl (gf_n hN9.1 qa_3 qn_3_8 (by decide) (by rw [((show fR N9 3 8 = fR N7 3 8 from by rw [eN9]; exact fR_wI).trans (show fR N7 3 8 = fR N5 3 8 from by rw [eN7]; exact fR_wI)).trans (show fR N5 3 8 = fR M 3 8 from by rw [eN5]; exact fR_wI)]; exact a_t) rfl)) H
      rw [((show fR N9 3 8 = fR N7 3 8 from by rw [eN9]; exact fR_wI).trans (show fR N7 3 8 = fR N5 3 8 from by rw [eN7]; exact fR_wI)).trans (show fR N5 3 8 = fR M 3 8 from by rw [eN5]; exact fR_wI)] at H
      have H : Ev none e 33 126 [some (.ref 3), some (.int a), some (.int 7), some (.int (zI M (fR M 3 8) 8)), none, none, none] [.int (zI N9 (fR M 3 8) 9), .int (zI M (fR M 3 8) 8), .ref (fR M 3 8 + 4)] N9 v M' 0 0 := Ev.back 1 (gs_3 rfl rfl (gf_i hN9.1 a_t qi_28_9 rfl)) H
      rw [((show zI N9 (fR M 3 8) 9 = zI N7 (fR M 3 8) 9 from by rw [eN9]; exact fI_wI).trans (show zI N7 (fR M 3 8) 9 = zI N5 (fR M 3 8) 9 from by rw [eN7]; exact fI_wI)).trans (show zI N5 (fR M 3 8) 9 = zI M (fR M 3 8) 9 from by rw [eN5]; exact fI_wI)] at H
      obtain ⟨b10, H⟩ := Ev.ias rfl rfl hN9.1 (fx_g3 a_t) qw_32 H
      obtain ⟨N11, eN11⟩ : ∃ N, N = (wI N9 (fR M 3 8 + 4) ((zI M (fR M 3 8) 8).toNatClampNeg) (zI M (fR M 3 8) 9)) := ⟨_, rfl⟩
      have hN11 : SQ N11 := by rw [eN11]; exact hN9.ki
      have H : Ev none e 33 127 [some (.ref 3), some (.int a), some (.int 7), some (.int (zI M (fR M 3 8) 8)), none, none, none] [] N11 v M' 0 0 := by rw [eN11]; exact H
      have H : Ev none e 33 128 [some (.ref 3), some (.int a), some (.int 7), some (.int (zI M (fR M 3 8) 8)), none, none, none] [.ref 3] N11 v M' 0 0 := Ev.back 1 (fun n => rfl) H
      have H : Ev none e 33 131 [some (.ref 3), some (.int a), some (.int 7), some (.int (zI M (fR M 3 8) 8)), none, none, none] [.ref (fR N11 3 8)] N11 v M' 0 0 := Ev.back 1 (gs_3 rfl rfl (gf_n hN11.1 qa_3 qn_3_8 (by decide) (by rw [(((show fR N11 3 8 = fR N9 3 8 from by rw [eN11]; exact fR_wI).trans (show fR N9 3 8 = fR N7 3 8 from by rw [eN9]; exact fR_wI)).trans (show fR N7 3 8 = fR N5 3 8 from by rw [eN7]; exact fR_wI)).trans (show fR N5 3 8 = fR M 3 8 from by rw [eN5]; exact fR_wI)]; exact a_t) rfl)) H
      rw [(((show fR N11 3 8 = fR N9 3 8 from by rw [eN11]; exact fR_wI).trans (show fR N9 3 8 = fR N7 3 8 from by rw [eN9]; exact fR_wI)).trans (show fR N7 3 8 = fR N5 3 8 from by rw [eN7]; exact fR_wI)).trans (show fR N5 3 8 = fR M 3 8 from by rw [eN5]; exact fR_wI)] at H
      have H : Ev none e 33 134 [some (.ref 3), some (.int a), some (.int 7), some (.int (zI M (fR M 3 8) 8)), none, none, none] [.ref (fR M 3 8 + 5)] N11 v M' 0 0 := Ev.back 1 (gs_3 rfl rfl (gf_x hN11.1 a_t qo_28 (fx_t4 hN11 a_t) rfl)) H
      have H : Ev none e 33 136 [some (.ref 3), some (.int a), some (.int 7), some (.int (zI M (fR M 3 8) 8)), none, none, none] [.ref 3, .int (zI M (fR M 3 8) 8), .ref (fR M 3 8 + 5)] N11 v M' 0 0 := Ev.back 2 (fun n => rfl) H
      have H : Ev none e 33 139 [some (.ref 3), some (.int a), some (.int 7), some (.int (zI M (fR M 3 8) 8)), none, none, none] [.ref (fR N11 3 8), .int (zI M (fR M 3 8) 8), .ref (fR M 3 8 + 5)] N11 v M' 0 0 := Ev.back 1 (gs_3 rfl rfl (gf_n hN11.1 qa_3 qn_3_8 (by decide) (by rw [(((show fR N11 3 8 = fR N9 3 8 from by rw [eN11]; exact fR_wI).trans (show fR N9 3 8 = fR N7 3 8 from by rw [eN9]; exact fR_wI)).trans (show fR N7 3 8 = fR N5 3 8 from by rw [eN7]; exact fR_wI)).trans (show fR N5 3 8 = fR M 3 8 from by rw [eN5]; exact fR_wI)]; exact a_t) rfl)) H
      rw [(((show fR N11 3 8 = fR N9 3 8 from by rw [eN11]; exact fR_wI).trans (show fR N9 3 8 = fR N7 3 8 from by rw [eN9]; exact fR_wI)).trans (show fR N7 3 8 = fR N5 3 8 from by rw [eN7]; exact fR_wI)).trans (show fR N5 3 8 = fR M 3 8 from by rw [eN5]; exact fR_wI)] at H
      have H : Ev none e 33 142 [some (.ref 3), some (.int a), some (.int 7), some (.int (zI M (fR M 3 8) 8)), none, none, none] [.int (zI N11 (fR M 3 8) 9), .int (zI M (fR M 3 8) 8), .ref (fR M 3 8 + 5)] N11 v M' 0 0 := Ev.back 1 (gs_3 rfl rfl (gf_i hN11.1 a_t qi_28_9 rfl)) H
      rw [(((show zI N11 (fR M 3 8) 9 = zI N9 (fR M 3 8) 9 from by rw [eN11]; exact fI_wI).trans (show zI N9 (fR M 3 8) 9 = zI N7 (fR M 3 8) 9 from by rw [eN9]; exact fI_wI)).trans (show zI N7 (fR M 3 8) 9 = zI N5 (fR M 3 8) 9 from by rw [eN7]; exact fI_wI)).trans (show zI N5 (fR M 3 8) 9 = zI M (fR M 3 8) 9 from by rw [eN5]; exact fI_wI)] at H
      obtain ⟨b12, H⟩ := Ev.ias rfl rfl hN11.1 (fx_g4 a_t) qw_33 H
      obtain ⟨N13, eN13⟩ : ∃ N, N = (wI N11 (fR M 3 8 + 5) ((zI M (fR M 3 8) 8).toNatClampNeg) (zI M (fR M 3 8) 9)) := ⟨_, rfl⟩
      have hN13 : SQ N13 := by rw [eN13]; exact hN11.ki
      have H : Ev none e 33 143 [some (.ref 3), some (.int a), some (.int 7), some (.int (zI M (fR M 3 8) 8)), none, none, none] [] N13 v M' 0 0 := by rw [eN13]; exact H
      have H : Ev none e 33 144 [some (.ref 3), some (.int a), some (.int 7), some (.int (zI M (fR M 3 8) 8)), none, none, none] [.ref 3] N13 v M' 0 0 := Ev.back 1 (fun n => rfl) H
      obtain ⟨e1, rfl⟩ := Ev.dpos rfl rfl H
      obtain ⟨vK14, MK14, K14, H⟩ := Ev.callb (fun n => gs_7 rfl rfl (show gCal (.invokevirtual 140) 3 (.ref 3 :: []) N13 = some (.inr (31, [some (.ref 3)], [])) from by show @cond (Option ((List Value × Mem) ⊕ (Nat × Lo × List Value))) (true && gRecv N13 (.ref 3) 3 && gRoom [] && true) (some (.inr (31, [some (.ref 3)], []))) none = _; rw [recv_s hN13.1 qa_3 qo_3]; rfl)) H
      have K14 : Ev none e1 31 0 [some (.ref 3)] [] N13 vK14 MK14 0 0 := K14
      have HF := H
      subst eN5 eN7 eN9 eN11 eN13
      exact Or.inr (Or.inl ⟨h1, h3, b4, b6, b8, b10, b12, ⟨e1, vK14, MK14, rfl, K14, HF⟩⟩)
    · rw [if_neg h3] at H
      have H : Ev none e 33 69 [some (.ref 3), some (.int a), some (.int 7), none, none, none, none] [.int 3, .ref 3] M v M' 0 0 := Ev.back 2 (fun n => rfl) H
      obtain ⟨e1, rfl⟩ := Ev.dpos rfl rfl H
      obtain ⟨vK15, MK15, K15, H⟩ := Ev.callb (fun n => gs_7 rfl rfl (show gCal (.invokevirtual 68) 3 (.int 3 :: .ref 3 :: []) M = some (.inr (27, [some (.ref 3), some (.int 3)], [])) from by show @cond (Option ((List Value × Mem) ⊕ (Nat × Lo × List Value))) (true && gRecv M (.ref 3) 3 && gRoom [] && true) (some (.inr (27, [some (.ref 3), some (.int 3)], []))) none = _; rw [recv_s hS.1 qa_3 qo_3]; rfl)) H
      have K15 : Ev none e1 27 0 [some (.ref 3), some (.int 3)] [] M vK15 MK15 0 0 := K15
      have HF := H
      exact Or.inr (Or.inr (⟨h1, h3, ⟨e1, vK15, MK15, rfl, K15, HF⟩⟩))
theorem ln7_72 {e : Nat} {M M' : Mem} {v : Option Value} {a y : Int32} (hS : SQ M) (a_t : gNth sT (fR M 3 8) = some 28) (H : Ev none e 33 72 [some (.ref 3), some (.int a), some (.int 7), none, none, none, none] [.int y] M v M' 0 0) : v = some (.int y) ∧ M' = M := by
  obtain ⟨z1, z2⟩ := Ev.retz rfl rfl H
  exact ⟨z1, z2⟩
theorem ln7_147 {e : Nat} {M M' : Mem} {v : Option Value} {a i : Int32} (hS : SQ M) (a_t : gNth sT (fR M 3 8) = some 28) (H : Ev none e 33 147 [some (.ref 3), some (.int a), some (.int 7), some (.int i), none, none, none] [] M v M' 0 0) : (∃ e1 v1 M1, e = e1 + 1 ∧ Ev none e1 35 0 [some (.ref 3), some (.int i), some (.int 7), none, none, none] [] M v1 M1 0 0 ∧ Ev none e 33 175 [some (.ref 3), some (.int a), some (.int 7), some (.int i), none, none, none] (v1.toList ++ []) M1 v M' 0 0) := by
  have H : Ev none e 33 (if 7 = 6 then 178 else 153) [some (.ref 3), some (.int a), some (.int 7), some (.int i), none, none, none] [] M v M' 0 0 := Ev.back 3 (fun n => rfl) H
  rw [if_neg (by decide)] at H
  have H : Ev none e 33 (if 7 = 5 then 158 else 169) [some (.ref 3), some (.int a), some (.int 7), some (.int i), none, none, none] [] M v M' 0 0 := Ev.back 3 (fun n => rfl) H
  rw [if_neg (by decide)] at H
  have H : Ev none e 33 172 [some (.ref 3), some (.int a), some (.int 7), some (.int i), none, none, none] [.int 7, .int i, .ref 3] M v M' 0 0 := Ev.back 3 (fun n => rfl) H
  obtain ⟨e1, rfl⟩ := Ev.dpos rfl rfl H
  obtain ⟨vK1, MK1, K1, H⟩ := Ev.callb (fun n => gs_7 rfl rfl (show gCal (.invokevirtual 146) 3 (.int 7 :: .int i :: .ref 3 :: []) M = some (.inr (35, [some (.ref 3), some (.int i), some (.int 7), none, none, none], [])) from by show @cond (Option ((List Value × Mem) ⊕ (Nat × Lo × List Value))) (true && gRecv M (.ref 3) 3 && gRoom [] && true) (some (.inr (35, [some (.ref 3), some (.int i), some (.int 7), none, none, none], []))) none = _; rw [recv_s hS.1 qa_3 qo_3]; rfl)) H
  have K1 : Ev none e1 35 0 [some (.ref 3), some (.int i), some (.int 7), none, none, none] [] M vK1 MK1 0 0 := K1
  have HF := H
  exact ⟨e1, vK1, MK1, rfl, K1, HF⟩
theorem ln7_175 {e : Nat} {M M' : Mem} {v : Option Value} {a i y : Int32} (hS : SQ M) (a_t : gNth sT (fR M 3 8) = some 28) (H : Ev none e 33 175 [some (.ref 3), some (.int a), some (.int 7), some (.int i), none, none, none] [.int y] M v M' 0 0) : (y = 0 ∧ v = some (.int 0) ∧ M' = M) ∨ (¬ (y = 0) ∧ (zI M 3 7) = 59 ∧ (∃ e1 v1 M1, e = e1 + 1 ∧ Ev none e1 31 0 [some (.ref 3)] [] M v1 M1 0 0 ∧ Ev none e 33 283 [some (.ref 3), some (.int a), some (.int 7), some (.int i), some (.int 1), some (.int 0), some (.int 0)] (v1.toList ++ []) M1 v M' 0 0)) ∨ (¬ (y = 0) ∧ ¬ ((zI M 3 7) = 59) ∧ (∃ e1 v1 M1, e = e1 + 1 ∧ Ev none e1 27 0 [some (.ref 3), some (.int 1)] [] M v1 M1 0 0 ∧ Ev none e 33 278 [some (.ref 3), some (.int a), some (.int 7), some (.int i), some (.int 1), some (.int 0), some (.int 0)] (v1.toList ++ []) M1 v M' 0 0)) := by
  have H : Ev none e 33 (if y = 0 then 182 else 178) [some (.ref 3), some (.int a), some (.int 7), some (.int i), none, none, none] [] M v M' 0 0 := Ev.back 1 (fun n => rfl) H
  by_cases h1 : y = 0
  · rw [if_pos h1] at H
    have H : Ev none e 33 (if 0 = 0 then 190 else 192) [some (.ref 3), some (.int a), some (.int 7), some (.int i), some (.int 0), none, none] [] M v M' 0 0 := Ev.back 4 (fun n => rfl) H
    rw [if_pos (by decide)] at H
    have H : Ev none e 33 191 [some (.ref 3), some (.int a), some (.int 7), some (.int i), some (.int 0), none, none] [.int 0] M v M' 0 0 := Ev.back 1 (fun n => rfl) H
    obtain ⟨z1, z2⟩ := Ev.retz rfl rfl H
    exact Or.inl ⟨h1, z1, z2⟩
  · rw [if_neg h1] at H
    have H : Ev none e 33 (if 1 = 0 then 190 else 192) [some (.ref 3), some (.int a), some (.int 7), some (.int i), some (.int 1), none, none] [] M v M' 0 0 := Ev.back 5 (fun n => rfl) H
    rw [if_neg (by decide)] at H
    have H : Ev none e 33 (if 7 = 0 then 206 else 196) [some (.ref 3), some (.int a), some (.int 7), some (.int i), some (.int 1), none, none] [] M v M' 0 0 := Ev.back 2 (fun n => rfl) H
    rw [if_neg (by decide)] at H
    have H : Ev none e 33 (if 7 = 1 then 206 else 201) [some (.ref 3), some (.int a), some (.int 7), some (.int i), some (.int 1), none, none] [] M v M' 0 0 := Ev.back 3 (fun n => rfl) H
    rw [if_neg (by decide)] at H
    have H : Ev none e 33 (if 7 = 5 then 206 else 210) [some (.ref 3), some (.int a), some (.int 7), some (.int i), some (.int 1), none, none] [] M v M' 0 0 := Ev.back 3 (fun n => rfl) H
    rw [if_neg (by decide)] at H
    have H : Ev none e 33 (if 0 = 0 then 231 else 218) [some (.ref 3), some (.int a), some (.int 7), some (.int i), some (.int 1), some (.int 0), none] [] M v M' 0 0 := Ev.back 4 (fun n => rfl) H
    rw [if_pos (by decide)] at H
    have H : Ev none e 33 (if 0 = 0 then 243 else 239) [some (.ref 3), some (.int a), some (.int 7), some (.int i), some (.int 1), some (.int 0), some (.int 0)] [] M v M' 0 0 := Ev.back 4 (fun n => rfl) H
    rw [if_pos (by decide)] at H
    have H : Ev none e 33 (if 0 = 0 then 248 else 254) [some (.ref 3), some (.int a), some (.int 7), some (.int i), some (.int 1), some (.int 0), some (.int 0)] [] M v M' 0 0 := Ev.back 2 (fun n => rfl) H
    rw [if_pos (by decide)] at H
    have H : Ev none e 33 (if 7 = 6 then 254 else 264) [some (.ref 3), some (.int a), some (.int 7), some (.int i), some (.int 1), some (.int 0), some (.int 0)] [] M v M' 0 0 := Ev.back 3 (fun n => rfl) H
    rw [if_neg (by decide)] at H
    have H : Ev none e 33 265 [some (.ref 3), some (.int a), some (.int 7), some (.int i), some (.int 1), some (.int 0), some (.int 0)] [.ref 3] M v M' 0 0 := Ev.back 1 (fun n => rfl) H
    have H : Ev none e 33 268 [some (.ref 3), some (.int a), some (.int 7), some (.int i), some (.int 1), some (.int 0), some (.int 0)] [.int (zI M 3 7)] M v M' 0 0 := Ev.back 1 (gs_3 rfl rfl (gf_i hS.1 qa_3 qi_3_7 rfl)) H
    have H : Ev none e 33 (if (zI M 3 7) = 59 then 279 else 273) [some (.ref 3), some (.int a), some (.int 7), some (.int i), some (.int 1), some (.int 0), some (.int 0)] [] M v M' 0 0 := Ev.back 2 (fun n => rfl) H
    by_cases h2 : (zI M 3 7) = 59
    · rw [if_pos h2] at H
      have H : Ev none e 33 280 [some (.ref 3), some (.int a), some (.int 7), some (.int i), some (.int 1), some (.int 0), some (.int 0)] [.ref 3] M v M' 0 0 := Ev.back 1 (fun n => rfl) H
      obtain ⟨e1, rfl⟩ := Ev.dpos rfl rfl H
      obtain ⟨vK3, MK3, K3, H⟩ := Ev.callb (fun n => gs_7 rfl rfl (show gCal (.invokevirtual 140) 3 (.ref 3 :: []) M = some (.inr (31, [some (.ref 3)], [])) from by show @cond (Option ((List Value × Mem) ⊕ (Nat × Lo × List Value))) (true && gRecv M (.ref 3) 3 && gRoom [] && true) (some (.inr (31, [some (.ref 3)], []))) none = _; rw [recv_s hS.1 qa_3 qo_3]; rfl)) H
      have K3 : Ev none e1 31 0 [some (.ref 3)] [] M vK3 MK3 0 0 := K3
      have HF := H
      exact Or.inr (Or.inl ⟨h1, h2, ⟨e1, vK3, MK3, rfl, K3, HF⟩⟩)
    · rw [if_neg h2] at H
      have H : Ev none e 33 275 [some (.ref 3), some (.int a), some (.int 7), some (.int i), some (.int 1), some (.int 0), some (.int 0)] [.int 1, .ref 3] M v M' 0 0 := Ev.back 2 (fun n => rfl) H
      obtain ⟨e1, rfl⟩ := Ev.dpos rfl rfl H
      obtain ⟨vK4, MK4, K4, H⟩ := Ev.callb (fun n => gs_7 rfl rfl (show gCal (.invokevirtual 68) 3 (.int 1 :: .ref 3 :: []) M = some (.inr (27, [some (.ref 3), some (.int 1)], [])) from by show @cond (Option ((List Value × Mem) ⊕ (Nat × Lo × List Value))) (true && gRecv M (.ref 3) 3 && gRoom [] && true) (some (.inr (27, [some (.ref 3), some (.int 1)], []))) none = _; rw [recv_s hS.1 qa_3 qo_3]; rfl)) H
      have K4 : Ev none e1 27 0 [some (.ref 3), some (.int 1)] [] M vK4 MK4 0 0 := K4
      have HF := H
      exact Or.inr (Or.inr (⟨h1, h2, ⟨e1, vK4, MK4, rfl, K4, HF⟩⟩))
theorem ln7_278 {e : Nat} {M M' : Mem} {v : Option Value} {a i y : Int32} {c5 c6 : Option Value} (hS : SQ M) (a_t : gNth sT (fR M 3 8) = some 28) (H : Ev none e 33 278 [some (.ref 3), some (.int a), some (.int 7), some (.int i), some (.int 1), c5, c6] [.int y] M v M' 0 0) : v = some (.int y) ∧ M' = M := by
  obtain ⟨z1, z2⟩ := Ev.retz rfl rfl H
  exact ⟨z1, z2⟩
theorem ln7_283 {e : Nat} {M M' : Mem} {v : Option Value} {a i : Int32} {c5 c6 : Option Value} (hS : SQ M) (a_t : gNth sT (fR M 3 8) = some 28) (H : Ev none e 33 283 [some (.ref 3), some (.int a), some (.int 7), some (.int i), some (.int 1), c5, c6] [] M v M' 0 0) : (0 ≤ i.toInt ∧ i.toInt < 16) ∧ v = some (.int 1) ∧ M' = (wF (wI M (fR M 3 8 + 5) i.toNatClampNeg (zI M (fR M 3 8) 9)) (fR M 3 8) 8 ((zI M (fR M 3 8) 8) + 1)) := by
  have H : Ev none e 33 284 [some (.ref 3), some (.int a), some (.int 7), some (.int i), some (.int 1), c5, c6] [.ref 3] M v M' 0 0 := Ev.back 1 (fun n => rfl) H
  have H : Ev none e 33 287 [some (.ref 3), some (.int a), some (.int 7), some (.int i), some (.int 1), c5, c6] [.ref (fR M 3 8)] M v M' 0 0 := Ev.back 1 (gs_3 rfl rfl (gf_n hS.1 qa_3 qn_3_8 (by decide) a_t rfl)) H
  have H : Ev none e 33 290 [some (.ref 3), some (.int a), some (.int 7), some (.int i), some (.int 1), c5, c6] [.ref (fR M 3 8 + 5)] M v M' 0 0 := Ev.back 1 (gs_3 rfl rfl (gf_x hS.1 a_t qo_28 (fx_t4 hS a_t) rfl)) H
  have H : Ev none e 33 292 [some (.ref 3), some (.int a), some (.int 7), some (.int i), some (.int 1), c5, c6] [.ref 3, .int i, .ref (fR M 3 8 + 5)] M v M' 0 0 := Ev.back 2 (fun n => rfl) H
  have H : Ev none e 33 295 [some (.ref 3), some (.int a), some (.int 7), some (.int i), some (.int 1), c5, c6] [.ref (fR M 3 8), .int i, .ref (fR M 3 8 + 5)] M v M' 0 0 := Ev.back 1 (gs_3 rfl rfl (gf_n hS.1 qa_3 qn_3_8 (by decide) a_t rfl)) H
  have H : Ev none e 33 298 [some (.ref 3), some (.int a), some (.int 7), some (.int i), some (.int 1), c5, c6] [.int (zI M (fR M 3 8) 9), .int i, .ref (fR M 3 8 + 5)] M v M' 0 0 := Ev.back 1 (gs_3 rfl rfl (gf_i hS.1 a_t qi_28_9 rfl)) H
  obtain ⟨b1, H⟩ := Ev.ias rfl rfl hS.1 (fx_g4 a_t) qw_33 H
  obtain ⟨N2, eN2⟩ : ∃ N, N = (wI M (fR M 3 8 + 5) i.toNatClampNeg (zI M (fR M 3 8) 9)) := ⟨_, rfl⟩
  have hN2 : SQ N2 := by rw [eN2]; exact hS.ki
  have H : Ev none e 33 299 [some (.ref 3), some (.int a), some (.int 7), some (.int i), some (.int 1), c5, c6] [] N2 v M' 0 0 := by rw [eN2]; exact H
  have H : Ev none e 33 300 [some (.ref 3), some (.int a), some (.int 7), some (.int i), some (.int 1), c5, c6] [.ref 3] N2 v M' 0 0 := Ev.back 1 (fun n => rfl) H
  have H : Ev none e 33 303 [some (.ref 3), some (.int a), some (.int 7), some (.int i), some (.int 1), c5, c6] [.ref (fR N2 3 8)] N2 v M' 0 0 := Ev.back 1 (gs_3 rfl rfl (gf_n hN2.1 qa_3 qn_3_8 (by decide) (by rw [show fR N2 3 8 = fR M 3 8 from by rw [eN2]; exact fR_wI]; exact a_t) rfl)) H
  rw [show fR N2 3 8 = fR M 3 8 from by rw [eN2]; exact fR_wI] at H
  have H : Ev none e 33 304 [some (.ref 3), some (.int a), some (.int 7), some (.int i), some (.int 1), c5, c6] [.ref (fR M 3 8), .ref (fR M 3 8)] N2 v M' 0 0 := Ev.back 1 (fun n => rfl) H
  have H : Ev none e 33 307 [some (.ref 3), some (.int a), some (.int 7), some (.int i), some (.int 1), c5, c6] [.int (zI N2 (fR M 3 8) 8), .ref (fR M 3 8)] N2 v M' 0 0 := Ev.back 1 (gs_3 rfl rfl (gf_i hN2.1 a_t qi_28_8 rfl)) H
  rw [show zI N2 (fR M 3 8) 8 = zI M (fR M 3 8) 8 from by rw [eN2]; exact fI_wI] at H
  have H : Ev none e 33 309 [some (.ref 3), some (.int a), some (.int 7), some (.int i), some (.int 1), c5, c6] [.int ((zI M (fR M 3 8) 8) + 1), .ref (fR M 3 8)] N2 v M' 0 0 := Ev.back 2 (fun n => rfl) H
  obtain ⟨N4, eN4⟩ : ∃ N, N = (wF N2 (fR M 3 8) 8 ((zI M (fR M 3 8) 8) + 1)) := ⟨_, rfl⟩
  have hN4 : SQ N4 := by rw [eN4]; exact hN2.kf
  have H : Ev none e 33 312 [some (.ref 3), some (.int a), some (.int 7), some (.int i), some (.int 1), c5, c6] [] N4 v M' 0 0 := by rw [eN4]; exact Ev.pfi rfl rfl rfl hN2.1 a_t qi_28_8 H
  have H : Ev none e 33 313 [some (.ref 3), some (.int a), some (.int 7), some (.int i), some (.int 1), c5, c6] [.int 1] N4 v M' 0 0 := Ev.back 1 (fun n => rfl) H
  obtain ⟨z1, z2⟩ := Ev.retz rfl rfl H
  subst eN2 eN4
  exact ⟨b1, z1, z2⟩
/-! LINES, in themselves; the class's state of them -/
/-- a line: its kind, measure, number, from which step, to which -/
abbrev Lnq : Type := Int32 × Int32 × Int32 × Nat × Nat
abbrev PLn : Type := (Sg × List Lnq) ⊕ (Int32 × Nat)
noncomputable def mostS (k : Int32) : Int32 := if k = 5 then 99 else if k = 7 then 9 else 999
noncomputable def hasK (ls : List Lnq) (k : Int32) : Bool := ls.any (fun l => decide (l.1 = k))
noncomputable def onceB (k : Int32) : Bool := decide (k = 2) || (decide (k = 3) || (decide (k = 4) || decide (k = 7)))
noncomputable def endB (s : Sg) (ls : List Lnq) (x m nu : Int32) (fr : Nat) : PLn := if (hdT s.1).1 ≠ 59 then .inr (1, (hdT s.1).2.1) else .inl ((s.1.tail, s.2.1, s.2.2), ls ++ [(x, m, nu, fr, s.2.2.length)])
noncomputable def cndB (B : Nat → Int32) (C : Sg → PR) (s : Sg) (ls : List Lnq) (x m nu : Int32) (fr : Nat) : PLn :=
  if x = 6 then (match C s with
    | .inr f => .inr f
    | .inl s2 => endB s2 ls x m nu fr)
  else if (x = 0 ∨ x = 1 ∨ x = 5) ∧ wdS B (hdT s.1) = ifW then (match C (s.1.tail, s.2.1, s.2.2) with
    | .inr f => .inr f
    | .inl s2 => endB s2 ls x m nu fr)
  else endB s ls x m nu fr
noncomputable def numB (B : Nat → Int32) (C : Sg → PR) (s : Sg) (ls : List Lnq) (x m : Int32) : PLn :=
  if (hdT s.1).1 ≠ 3 then .inr (1, (hdT s.1).2.1)
  else if mostS x < (hdT s.1).2.2.2 ∨ (x = 2 ∧ (hdT s.1).2.2.2 < 1) then .inr (2, (hdT s.1).2.1)
  else cndB B C (s.1.tail, s.2.1, s.2.2) ls x m (hdT s.1).2.2.2 s.2.2.length
noncomputable def bodB (B : Nat → Int32) (C : Sg → PR) (s : Sg) (ls : List Lnq) (x : Int32) : PLn :=
  if x = 6 then cndB B C s ls 6 0 0 s.2.2.length
  else if x = 5 then (if ixF (wdS B (hdT s.1)) meaW 0 < 0 then .inr (1, (hdT s.1).2.1) else numB B C (s.1.tail, s.2.1, s.2.2) ls 5 (ixF (wdS B (hdT s.1)) meaW 0))
  else numB B C s ls x 0
noncomputable def kdS (B : Nat → Int32) (law : Bool) (t : Tok) : Int32 := bif law then ixF (wdS B t) lawW 0 else (if ixF (wdS B t) habW 0 < 0 then -1 else 5 + ixF (wdS B t) habW 0)
noncomputable def lnB (B : Nat → Int32) (law : Bool) (C : Sg → PR) (s : Sg) (ls : List Lnq) : PLn :=
  if kdS B law (hdT s.1) < 0 then .inr (1, (hdT s.1).2.1)
  else if 16 ≤ ls.length ∨ (onceB (kdS B law (hdT s.1)) = true ∧ hasK ls (kdS B law (hdT s.1)) = true) then .inr (3, (hdT s.1).2.1)
  else bodB B C (s.1.tail, s.2.1, s.2.2) ls (kdS B law (hdT s.1))
noncomputable def tvS (ls : List Lnq) (k d : Int32) : Int32 := match ls.find? (fun l => decide (l.1 = k)) with
  | some l => l.2.2.1
  | none => d
noncomputable def tdB (a b c d : Bool) : Int32 := (bif a then 4 else 0) ||| ((bif b then 8 else 0) ||| ((bif c then 16 else 0) ||| (bif d then 128 else 0)))
noncomputable def tdS (ls : List Lnq) : Int32 := tdB (hasK ls 2) (hasK ls 3) (hasK ls 4) (hasK ls 7)
theorem hasK_app {ls : List Lnq} {l : Lnq} {k : Int32} : hasK (ls ++ [l]) k = (hasK ls k || decide (l.1 = k)) := by
  unfold hasK
  rw [List.any_append]
  show (_ || (decide (l.1 = k) || false)) = _
  rw [Bool.or_false]
theorem tv_app {ls : List Lnq} {l : Lnq} {k d : Int32} (h : hasK ls k = false) : tvS (ls ++ [l]) k d = if l.1 = k then l.2.2.1 else tvS ls k d := by
  have h2 : ls.find? (fun l => decide (l.1 = k)) = none := by
    rw [List.find?_eq_none]
    intro x hx
    have h3 := List.any_eq_false.mp h x hx
    exact h3
  unfold tvS
  rw [List.find?_append, h2]
  show (match (List.find? (fun l => decide (l.1 = k)) [l]) with
    | some l => l.2.2.1
    | none => d) = _
  by_cases hk : l.1 = k
  · rw [if_pos hk, List.find?_cons_of_pos (by exact decide_eq_true hk)]
  · rw [if_neg hk, List.find?_cons_of_neg (by rw [decide_eq_false hk]; decide)]
    rfl
theorem tv_app2 {ls : List Lnq} {l : Lnq} {k d : Int32} (h : l.1 ≠ k) : tvS (ls ++ [l]) k d = tvS ls k d := by
  unfold tvS
  rw [List.find?_append]
  have h2 : List.find? (fun l => decide (l.1 = k)) [l] = none := by
    rw [List.find?_cons_of_neg (by rw [decide_eq_false h]; decide)]
    rfl
  rw [h2, Option.or_none]
/-- the lines that a text holds -/
def LCt (M : Mem) (t : Nat) (ls : List Lnq) : Prop := (zI M t 8).toInt = (ls.length : Int) ∧ ls.length ≤ 16 ∧ ∀ j l, ls[j]? = some l → rN M (t + 1) j = l.1 ∧ rN M (t + 2) j = l.2.1 ∧ rN M (t + 3) j = l.2.2.1 ∧ (rN M (t + 4) j).toInt = (l.2.2.2.1 : Int) ∧ (rN M (t + 5) j).toInt = (l.2.2.2.2 : Int)
/-- what is told once -/
def FTq (M : Mem) (t : Nat) (ls : List Lnq) : Prop := zI M t 10 = tvS ls 2 40 ∧ zI M t 11 = tvS ls 3 50 ∧ zI M t 12 = tvS ls 4 10 ∧ zI M t 13 = tvS ls 7 3 ∧ zI M 3 10 = tdS ls
/-- the line begun -/
def ENq (M : Mem) (t i : Nat) (x m nu : Int32) (fr : Nat) : Prop := rN M (t + 1) i = x ∧ rN M (t + 2) i = m ∧ rN M (t + 3) i = nu ∧ (rN M (t + 4) i).toInt = (fr : Int)
def CL (B : Nat → Int32) (n t : Nat) (M : Mem) (s : Sg) (ls : List Lnq) : Prop := CSt B n t M s ∧ LCt M t ls ∧ FTq M t ls
def fLq (t : Nat) : List (Nat × Nat) := [(3, 6), (3, 7), (3, 11), (3, 12), (3, 13), (t, 9), (3, 10), (t, 8), (t, 10), (t, 11), (t, 12), (t, 13)]
def wLn (t : Nat) : List Nat := [t + 1, t + 2, t + 3, t + 4, t + 5, t + 6, t + 7, t + 8]
def ERt (M' : Mem) (v : Option Value) (f : Int32 × Nat) : Prop := v = some (.int 0) ∧ SQ M' ∧ zI M' 3 12 = f.1 ∧ (zI M' 3 13).toInt = (f.2 : Int)
section LSP
variable {n t : Nat} {B : Nat → Int32} {M M' : Mem} {s : Sg} {ls : List Lnq} {F : List (Nat × Nat)} {W : List Nat}
theorem CSt.frm (h : CSt B n t M s) (hS : SQ M') (hF : FA F W M M') (f : ∀ q ∈ [(3, 5), (3, 6), (3, 7), (3, 8), (3, 11), (t, 9), (3, 12)], q ∉ F) (w : ∀ b ∈ [2, 4, 5, 6, 7, t + 6, t + 7, t + 8], b ∉ W) : CSt B n t M' s := by
  obtain ⟨a1, a2, a3, a4, a5, a6, a7, a8, a9⟩ := h
  have f' := fun q hq => f q hq
  refine ⟨hS, ?_, a3.frm hF (f _ (by simp)) (f _ (by simp)) (f _ (by simp)) (w _ (by simp)) (w _ (by simp)) (w _ (by simp)) (w _ (by simp)), by rw [hF.fi (f _ (by simp))]; exact a4, a5, by rw [hF.fr (f _ (by simp))]; exact a6, a7.frm hF (f _ (by simp)) (w _ (by simp)) (w _ (by simp)) (w _ (by simp)), a8, by rw [hF.fi (f _ (by simp))]; exact a9⟩
  intro k hk
  rw [← a2 k hk]
  exact hF.rn (w _ (by simp))
theorem LCt.frm (h : LCt M t ls) (hF : FA F W M M') (f : (t, 8) ∉ F) (w : ∀ b ∈ [t + 1, t + 2, t + 3, t + 4, t + 5], b ∉ W) : LCt M' t ls := by
  refine ⟨by rw [hF.fi f]; exact h.1, h.2.1, fun j l hj => ?_⟩
  rw [hF.rn (w _ (by simp)), hF.rn (w _ (by simp)), hF.rn (w _ (by simp)), hF.rn (w _ (by simp)), hF.rn (w _ (by simp))]
  exact h.2.2 j l hj
theorem FTq.frm (h : FTq M t ls) (hF : FA F W M M') (f : ∀ q ∈ [(t, 10), (t, 11), (t, 12), (t, 13), (3, 10)], q ∉ F) : FTq M' t ls := by
  unfold FTq
  rw [hF.fi (f _ (by simp)), hF.fi (f _ (by simp)), hF.fi (f _ (by simp)), hF.fi (f _ (by simp)), hF.fi (f _ (by simp))]
  exact h
theorem ENq.frm {i : Nat} {x m nu : Int32} {fr : Nat} (h : ENq M t i x m nu fr) (hF : FA F W M M') (w : ∀ b ∈ [t + 1, t + 2, t + 3, t + 4], b ∉ W) : ENq M' t i x m nu fr := by
  unfold ENq
  rw [hF.rn (w _ (by simp)), hF.rn (w _ (by simp)), hF.rn (w _ (by simp)), hF.rn (w _ (by simp))]
  exact h
/-- cond's frame is within a line's -/
theorem FA.ln (h : FA (fP t) (wP t) M M') : FA (fLq t) (wLn t) M M' := h.more (fun q hq => by
  simp only [fP, fLq, List.mem_cons, List.not_mem_nil, or_false] at hq ⊢
  rcases hq with h | h | h | h | h | h <;> simp [h]) (fun q hq => by
  simp only [wP, wLn, List.mem_cons, List.not_mem_nil, or_false] at hq ⊢
  rcases hq with h | h | h <;> simp [h])
theorem fP_no (ht : 110 ≤ t) : (∀ q ∈ [(t, 10), (t, 11), (t, 12), (t, 13), (3, 10)], q ∉ fP t) ∧ (t, 8) ∉ fP t ∧ (∀ b ∈ [t + 1, t + 2, t + 3, t + 4, t + 5], b ∉ wP t) ∧ (∀ b ∈ [t + 1, t + 2, t + 3, t + 4], b ∉ wP t) := by
  refine ⟨fun q hq r => ?_, fun r => ?_, fun b hb r => ?_, fun b hb r => ?_⟩
  · simp only [fP, List.mem_cons, List.not_mem_nil, or_false] at hq r
    rcases hq with rfl | rfl | rfl | rfl | rfl <;> simp only [Prod.mk.injEq] at r <;> omega
  · simp only [fP, List.mem_cons, List.not_mem_nil, or_false, Prod.mk.injEq] at r
    omega
  · simp only [wP, List.mem_cons, List.not_mem_nil, or_false] at hb r
    omega
  · simp only [wP, List.mem_cons, List.not_mem_nil, or_false] at hb r
    omega
theorem td_bits : ∀ a b c d : Bool, ((tdB a b c d &&& ((1 : Int32) <<< ((2 : Int32) &&& 31))) = 0 ↔ a = false) ∧ ((tdB a b c d &&& ((1 : Int32) <<< ((3 : Int32) &&& 31))) = 0 ↔ b = false) ∧ ((tdB a b c d &&& ((1 : Int32) <<< ((4 : Int32) &&& 31))) = 0 ↔ c = false) ∧ ((tdB a b c d &&& ((1 : Int32) <<< ((7 : Int32) &&& 31))) = 0 ↔ d = false) ∧ (tdB a b c d &&& ((1 : Int32) <<< ((0 : Int32) &&& 31))) = 0 ∧ (tdB a b c d &&& ((1 : Int32) <<< ((1 : Int32) &&& 31))) = 0 ∧ (tdB a b c d &&& ((1 : Int32) <<< ((5 : Int32) &&& 31))) = 0 ∧ (tdB a b c d &&& ((1 : Int32) <<< ((6 : Int32) &&& 31))) = 0 ∧ (tdB a b c d ||| ((1 : Int32) <<< ((2 : Int32) &&& 31))) = tdB true b c d ∧ (tdB a b c d ||| ((1 : Int32) <<< ((3 : Int32) &&& 31))) = tdB a true c d ∧ (tdB a b c d ||| ((1 : Int32) <<< ((4 : Int32) &&& 31))) = tdB a b true d ∧ (tdB a b c d ||| ((1 : Int32) <<< ((7 : Int32) &&& 31))) = tdB a b c true ∧ (tdB a b c d ||| 0) = tdB a b c d := by decide
end LSP
/-! THE CLASS'S NUMBERS (made by glin.py) -/
def MID (B : Nat → Int32) (n t : Nat) (M : Mem) (s : Sg) (ls : List Lnq) (l : Lnq) : Prop := CSt B n t M s ∧ LCt M t ls ∧ ENq M t ls.length l.1 l.2.1 l.2.2.1 l.2.2.2.1 ∧ FTq M t (ls ++ [l])
def PRE (B : Nat → Int32) (n t : Nat) (M : Mem) (s : Sg) (ls : List Lnq) (x m : Int32) (fr : Nat) : Prop := CSt B n t M s ∧ LCt M t ls ∧ ENq M t ls.length x m 0 fr ∧ FTq M t ls ∧ ls.length < 16
def NUr (B : Nat → Int32) (n t : Nat) (M' : Mem) (v : Option Value) (s : Sg) (ls : List Lnq) (x m : Int32) (fr : Nat) : Prop := ((hdT s.1).1 ≠ 3 ∧ ERt M' v (1, (hdT s.1).2.1)) ∨ ((hdT s.1).1 = 3 ∧ (mostS x < (hdT s.1).2.2.2 ∨ (x = 2 ∧ (hdT s.1).2.2.2 < 1)) ∧ ERt M' v (2, (hdT s.1).2.1)) ∨ ((hdT s.1).1 = 3 ∧ ¬ (mostS x < (hdT s.1).2.2.2 ∨ (x = 2 ∧ (hdT s.1).2.2.2 < 1)) ∧ v = some (.int 1) ∧ MID B n t M' (s.1.tail, s.2.1, s.2.2) ls (x, m, (hdT s.1).2.2.2, fr, 0))
section NUM
variable {n t : Nat} {B : Nat → Int32} {M M' : Mem} {s : Sg} {ls : List Lnq}
theorem LCt.ui {a : Nat} {x : Int32} (h : LCt M t ls) : LCt (wI M a ls.length x) t ls := by
  refine ⟨by rw [fI_wI]; exact h.1, h.2.1, fun j l hj => ?_⟩
  have hjl := (List.getElem?_eq_some_iff.mp hj).1
  rw [rN_wI_ne (fun q => by omega), rN_wI_ne (fun q => by omega), rN_wI_ne (fun q => by omega), rN_wI_ne (fun q => by omega), rN_wI_ne (fun q => by omega)]
  exact h.2.2 j l hj
theorem LCt.uf {a k : Nat} {x : Int32} (h : LCt M t ls) (hk : k ≠ 8) : LCt (wF M a k x) t ls := by
  refine ⟨by rw [fI_wF_ne (fun q => hk q.2.symm)]; exact h.1, h.2.1, fun j l hj => ?_⟩
  rw [rN_wF, rN_wF, rN_wF, rN_wF, rN_wF]
  exact h.2.2 j l hj
theorem tdS_app {l : Lnq} : tdS (ls ++ [l]) = tdB (hasK ls 2 || decide (l.1 = 2)) (hasK ls 3 || decide (l.1 = 3)) (hasK ls 4 || decide (l.1 = 4)) (hasK ls 7 || decide (l.1 = 7)) := by
  unfold tdS
  rw [hasK_app, hasK_app, hasK_app, hasK_app]
theorem CSt.err {M1 : Mem} {v v1 : Option Value} {k : Int32} {d : Nat} (hC : CSt B n t M s) (H1 : Ev none d 27 0 [some (.ref 3), some (.int k)] [] M v1 M1 0 0) (hr : ∀ y : Int32, v1 = some (.int y) → SQ M1 → v = some (.int y) ∧ M' = M1) : FA (fP t) (wP t) M M' ∧ ERt M' v (k, (hdT s.1).2.1) := by
  obtain ⟨f1, f2⟩ := hC.fail H1
  obtain ⟨g1, g2, g3, g4⟩ := RS_err f2
  obtain ⟨r1, r2⟩ := hr 0 g1 g2
  subst r2
  exact ⟨f1, r1, g2, g3, g4⟩
theorem tdk0 : ∀ a b c d : Bool, tdB (a || decide ((0 : Int32) = 2)) (b || decide ((0 : Int32) = 3)) (c || decide ((0 : Int32) = 4)) (d || decide ((0 : Int32) = 7)) = tdB a b c d ||| 0 := by decide
theorem nu0_ok {e : Nat} {v : Option Value} {i m : Int32} {fr : Nat} (ht : gNth sT t = some 28) (hP : PRE B n t M s ls 0 m fr) (hi : i.toInt = (ls.length : Int)) (H : Ev none e 35 0 [some (.ref 3), some (.int i), some (.int 0), none, none, none] [] M v M' 0 0) : FA (fLq t) (wLn t) M M' ∧ NUr B n t M' v s ls 0 m fr := by
  obtain ⟨hC, hL, hE, hF, hl16⟩ := hP
  have hb := tx_ge ht
  obtain ⟨c1, c2, c3, c4, c5, c6, c7⟩ := hC.2.2.1.at
  have h8 := hC.2.2.2.2.2.1
  subst h8
  have hix : i.toNatClampNeg = ls.length := cl_n hi
  have hmo : mostS 0 = 999 := by decide
  rcases nb0_0 hC.1 ht H with ⟨g1, g2, -, e1, v1, M1, rfl, H1, H⟩ | ⟨g1, g2, -, -, e1, v1, M1, rfl, H1, H⟩ | ⟨g1, e1, v1, M1, rfl, H1, H⟩
  · rw [c5] at g1
    rw [c4 g1] at g2
    obtain ⟨f1, f2⟩ := hC.err (v := v) (M' := M') H1 (fun y hy S => by subst hy; exact nb0_71 S (by rw [(hC.fail H1).1.fr (by simp [fP])]; exact ht) H)
    exact ⟨f1.ln, Or.inr (Or.inl ⟨g1, Or.inl (by rw [hmo]; exact g2), f2⟩)⟩
  · rw [c5] at g1
    rw [c4 g1] at g2 H1 H
    rw [hix] at H1
    have hrd : zI M 3 10 = tdS ls := hF.2.2.2.2
    rw [hrd] at H1
    have F1 : FA [(3, 10)] [fR M 3 8 + 3] M (wF (wI M (fR M 3 8 + 3) ls.length (hdT s.1).2.2.2) 3 10 (tdS ls ||| 0)) := (FA.wI (by simp)).trans (FA.wF (by simp))
    have S3 : SQ (wF (wI M (fR M 3 8 + 3) ls.length (hdT s.1).2.2.2) 3 10 (tdS ls ||| 0)) := hC.1.ki.kf
    have L3 : LCt (wF (wI M (fR M 3 8 + 3) ls.length (hdT s.1).2.2.2) 3 10 (tdS ls ||| 0)) (fR M 3 8) ls := hL.ui.uf (by decide)
    have hlen : ls.length < (zrw M (fR M 3 8 + 3)).length := by rw [(hC.1.1.row (fx_g2 ht) qw_31).2]; exact hl16
    have E3 : ENq (wF (wI M (fR M 3 8 + 3) ls.length (hdT s.1).2.2.2) 3 10 (tdS ls ||| 0)) (fR M 3 8) ls.length 0 m (hdT s.1).2.2.2 fr := ⟨by rw [rN_wF, rN_wI_ne (fun q => by omega)]; exact hE.1, by rw [rN_wF, rN_wI_ne (fun q => by omega)]; exact hE.2.1, by rw [rN_wF, rN_wI_eq hlen], by rw [rN_wF, rN_wI_ne (fun q => by omega)]; exact hE.2.2.2⟩
    have Q3 : FTq (wF (wI M (fR M 3 8 + 3) ls.length (hdT s.1).2.2.2) 3 10 (tdS ls ||| 0)) (fR M 3 8) (ls ++ [(0, m, (hdT s.1).2.2.2, fr, 0)]) := ⟨by rw [fI_wF_ne (fun q => by omega), fI_wI, tv_app2 (by exact (by decide : (0 : Int32) ≠ 2))]; exact hF.1, by rw [fI_wF_ne (fun q => by omega), fI_wI, tv_app2 (by exact (by decide : (0 : Int32) ≠ 3))]; exact hF.2.1, by rw [fI_wF_ne (fun q => by omega), fI_wI, tv_app2 (by exact (by decide : (0 : Int32) ≠ 4))]; exact hF.2.2.1, by rw [fI_wF_ne (fun q => by omega), fI_wI, tv_app2 (by exact (by decide : (0 : Int32) ≠ 7))]; exact hF.2.2.2.1, by rw [fI_wF_eq hC.1.ki.1 qa_3 qi_3_10, tdS_app]; exact (tdk0 _ _ _ _).symm⟩
    have C3 : CSt B n (fR M 3 8) (wF (wI M (fR M 3 8 + 3) ls.length (hdT s.1).2.2.2) 3 10 (tdS ls ||| 0)) s := hC.frm S3 F1 (fun q hq r => by
      simp only [List.mem_cons, List.not_mem_nil, or_false] at hq r
      rcases hq with rfl | rfl | rfl | rfl | rfl | rfl | rfl <;> simp only [Prod.mk.injEq] at r <;> omega) (fun b hb r => by
      simp only [List.mem_cons, List.not_mem_nil, or_false] at hb r
      omega)
    obtain ⟨rfl, F4, C4⟩ := C3.go ht (by rw [g1]; decide) (by rw [g1]; decide) H1
    obtain ⟨r1, rfl⟩ := nb0_217 C4.1 (by rw [F4.fr (by simp [fP]), F1.fr (by simp)]; exact ht) H
    obtain ⟨p1, p2, p3, p4⟩ := fP_no hb.1
    refine ⟨(F1.more (fun q hq => ?_) (fun q hq => ?_)).trans F4.ln, Or.inr (Or.inr ⟨g1, ?_, r1, C4, L3.frm F4 p2 p3, E3.frm F4 p4, Q3.frm F4 p1⟩)⟩
    · simp only [fLq, List.mem_cons, List.not_mem_nil, or_false] at hq ⊢
      simp [hq]
    · simp only [wLn, List.mem_cons, List.not_mem_nil, or_false] at hq ⊢
      simp [hq]
    · rw [hmo]
      rintro (q | q)
      · exact g2 q
      · exact absurd q.1 (by decide)
  · rw [c5] at g1
    obtain ⟨f1, f2⟩ := hC.err (v := v) (M' := M') H1 (fun y hy S => by subst hy; exact nb0_13 S (by rw [(hC.fail H1).1.fr (by simp [fP])]; exact ht) H)
    exact ⟨f1.ln, Or.inl ⟨g1, f2⟩⟩
theorem tdk1 : ∀ a b c d : Bool, tdB (a || decide ((1 : Int32) = 2)) (b || decide ((1 : Int32) = 3)) (c || decide ((1 : Int32) = 4)) (d || decide ((1 : Int32) = 7)) = tdB a b c d ||| 0 := by decide
theorem nu1_ok {e : Nat} {v : Option Value} {i m : Int32} {fr : Nat} (ht : gNth sT t = some 28) (hP : PRE B n t M s ls 1 m fr) (hi : i.toInt = (ls.length : Int)) (H : Ev none e 35 0 [some (.ref 3), some (.int i), some (.int 1), none, none, none] [] M v M' 0 0) : FA (fLq t) (wLn t) M M' ∧ NUr B n t M' v s ls 1 m fr := by
  obtain ⟨hC, hL, hE, hF, hl16⟩ := hP
  have hb := tx_ge ht
  obtain ⟨c1, c2, c3, c4, c5, c6, c7⟩ := hC.2.2.1.at
  have h8 := hC.2.2.2.2.2.1
  subst h8
  have hix : i.toNatClampNeg = ls.length := cl_n hi
  have hmo : mostS 1 = 999 := by decide
  rcases nb1_0 hC.1 ht H with ⟨g1, g2, -, e1, v1, M1, rfl, H1, H⟩ | ⟨g1, g2, -, -, e1, v1, M1, rfl, H1, H⟩ | ⟨g1, e1, v1, M1, rfl, H1, H⟩
  · rw [c5] at g1
    rw [c4 g1] at g2
    obtain ⟨f1, f2⟩ := hC.err (v := v) (M' := M') H1 (fun y hy S => by subst hy; exact nb1_71 S (by rw [(hC.fail H1).1.fr (by simp [fP])]; exact ht) H)
    exact ⟨f1.ln, Or.inr (Or.inl ⟨g1, Or.inl (by rw [hmo]; exact g2), f2⟩)⟩
  · rw [c5] at g1
    rw [c4 g1] at g2 H1 H
    rw [hix] at H1
    have hrd : zI M 3 10 = tdS ls := hF.2.2.2.2
    rw [hrd] at H1
    have F1 : FA [(3, 10)] [fR M 3 8 + 3] M (wF (wI M (fR M 3 8 + 3) ls.length (hdT s.1).2.2.2) 3 10 (tdS ls ||| 0)) := (FA.wI (by simp)).trans (FA.wF (by simp))
    have S3 : SQ (wF (wI M (fR M 3 8 + 3) ls.length (hdT s.1).2.2.2) 3 10 (tdS ls ||| 0)) := hC.1.ki.kf
    have L3 : LCt (wF (wI M (fR M 3 8 + 3) ls.length (hdT s.1).2.2.2) 3 10 (tdS ls ||| 0)) (fR M 3 8) ls := hL.ui.uf (by decide)
    have hlen : ls.length < (zrw M (fR M 3 8 + 3)).length := by rw [(hC.1.1.row (fx_g2 ht) qw_31).2]; exact hl16
    have E3 : ENq (wF (wI M (fR M 3 8 + 3) ls.length (hdT s.1).2.2.2) 3 10 (tdS ls ||| 0)) (fR M 3 8) ls.length 1 m (hdT s.1).2.2.2 fr := ⟨by rw [rN_wF, rN_wI_ne (fun q => by omega)]; exact hE.1, by rw [rN_wF, rN_wI_ne (fun q => by omega)]; exact hE.2.1, by rw [rN_wF, rN_wI_eq hlen], by rw [rN_wF, rN_wI_ne (fun q => by omega)]; exact hE.2.2.2⟩
    have Q3 : FTq (wF (wI M (fR M 3 8 + 3) ls.length (hdT s.1).2.2.2) 3 10 (tdS ls ||| 0)) (fR M 3 8) (ls ++ [(1, m, (hdT s.1).2.2.2, fr, 0)]) := ⟨by rw [fI_wF_ne (fun q => by omega), fI_wI, tv_app2 (by exact (by decide : (1 : Int32) ≠ 2))]; exact hF.1, by rw [fI_wF_ne (fun q => by omega), fI_wI, tv_app2 (by exact (by decide : (1 : Int32) ≠ 3))]; exact hF.2.1, by rw [fI_wF_ne (fun q => by omega), fI_wI, tv_app2 (by exact (by decide : (1 : Int32) ≠ 4))]; exact hF.2.2.1, by rw [fI_wF_ne (fun q => by omega), fI_wI, tv_app2 (by exact (by decide : (1 : Int32) ≠ 7))]; exact hF.2.2.2.1, by rw [fI_wF_eq hC.1.ki.1 qa_3 qi_3_10, tdS_app]; exact (tdk1 _ _ _ _).symm⟩
    have C3 : CSt B n (fR M 3 8) (wF (wI M (fR M 3 8 + 3) ls.length (hdT s.1).2.2.2) 3 10 (tdS ls ||| 0)) s := hC.frm S3 F1 (fun q hq r => by
      simp only [List.mem_cons, List.not_mem_nil, or_false] at hq r
      rcases hq with rfl | rfl | rfl | rfl | rfl | rfl | rfl <;> simp only [Prod.mk.injEq] at r <;> omega) (fun b hb r => by
      simp only [List.mem_cons, List.not_mem_nil, or_false] at hb r
      omega)
    obtain ⟨rfl, F4, C4⟩ := C3.go ht (by rw [g1]; decide) (by rw [g1]; decide) H1
    obtain ⟨r1, rfl⟩ := nb1_217 C4.1 (by rw [F4.fr (by simp [fP]), F1.fr (by simp)]; exact ht) H
    obtain ⟨p1, p2, p3, p4⟩ := fP_no hb.1
    refine ⟨(F1.more (fun q hq => ?_) (fun q hq => ?_)).trans F4.ln, Or.inr (Or.inr ⟨g1, ?_, r1, C4, L3.frm F4 p2 p3, E3.frm F4 p4, Q3.frm F4 p1⟩)⟩
    · simp only [fLq, List.mem_cons, List.not_mem_nil, or_false] at hq ⊢
      simp [hq]
    · simp only [wLn, List.mem_cons, List.not_mem_nil, or_false] at hq ⊢
      simp [hq]
    · rw [hmo]
      rintro (q | q)
      · exact g2 q
      · exact absurd q.1 (by decide)
  · rw [c5] at g1
    obtain ⟨f1, f2⟩ := hC.err (v := v) (M' := M') H1 (fun y hy S => by subst hy; exact nb1_13 S (by rw [(hC.fail H1).1.fr (by simp [fP])]; exact ht) H)
    exact ⟨f1.ln, Or.inl ⟨g1, f2⟩⟩
theorem tdk2 : ∀ a b c d : Bool, tdB (a || decide ((2 : Int32) = 2)) (b || decide ((2 : Int32) = 3)) (c || decide ((2 : Int32) = 4)) (d || decide ((2 : Int32) = 7)) = tdB a b c d ||| ((1 : Int32) <<< ((2 : Int32) &&& 31)) := by decide
theorem nu2_ok {e : Nat} {v : Option Value} {i m : Int32} {fr : Nat} (ht : gNth sT t = some 28) (hP : PRE B n t M s ls 2 m fr) (hi : i.toInt = (ls.length : Int)) (hk : hasK ls 2 = false) (H : Ev none e 35 0 [some (.ref 3), some (.int i), some (.int 2), none, none, none] [] M v M' 0 0) : FA (fLq t) (wLn t) M M' ∧ NUr B n t M' v s ls 2 m fr := by
  obtain ⟨hC, hL, hE, hF, hl16⟩ := hP
  have hb := tx_ge ht
  obtain ⟨c1, c2, c3, c4, c5, c6, c7⟩ := hC.2.2.1.at
  have h8 := hC.2.2.2.2.2.1
  subst h8
  have hix : i.toNatClampNeg = ls.length := cl_n hi
  have hmo : mostS 2 = 999 := by decide
  rcases nb2_0 hC.1 ht H with ⟨g1, g2, -, e1, v1, M1, rfl, H1, H⟩ | ⟨g1, g2, g3, -, -, e1, v1, M1, rfl, H1, H⟩ | ⟨g1, g2, g3, -, e1, v1, M1, rfl, H1, H⟩ | ⟨g1, e1, v1, M1, rfl, H1, H⟩
  · rw [c5] at g1
    rw [c4 g1] at g2
    obtain ⟨f1, f2⟩ := hC.err (v := v) (M' := M') H1 (fun y hy S => by subst hy; exact nb2_71 S (by rw [(hC.fail H1).1.fr (by simp [fP])]; exact ht) H)
    exact ⟨f1.ln, Or.inr (Or.inl ⟨g1, Or.inl (by rw [hmo]; exact g2), f2⟩)⟩
  · rw [c5] at g1
    rw [c4 g1] at g2 g3 H1 H
    rw [hix] at H1
    have hrd : zI (wF (wI M (fR M 3 8 + 3) ls.length (hdT s.1).2.2.2) (fR M 3 8) 10 (hdT s.1).2.2.2) 3 10 = tdS ls := by
      rw [fI_wF_ne (fun q => by omega), fI_wI]
      exact hF.2.2.2.2
    rw [hrd] at H1
    have F1 : FA [(fR M 3 8, 10), (3, 10)] [fR M 3 8 + 3] M (wF (wF (wI M (fR M 3 8 + 3) ls.length (hdT s.1).2.2.2) (fR M 3 8) 10 (hdT s.1).2.2.2) 3 10 (tdS ls ||| ((1 : Int32) <<< ((2 : Int32) &&& 31)))) := ((FA.wI (by simp)).trans (FA.wF (by simp))).trans (FA.wF (by simp))
    have S3 : SQ (wF (wF (wI M (fR M 3 8 + 3) ls.length (hdT s.1).2.2.2) (fR M 3 8) 10 (hdT s.1).2.2.2) 3 10 (tdS ls ||| ((1 : Int32) <<< ((2 : Int32) &&& 31)))) := hC.1.ki.kf.kf
    have L3 : LCt (wF (wF (wI M (fR M 3 8 + 3) ls.length (hdT s.1).2.2.2) (fR M 3 8) 10 (hdT s.1).2.2.2) 3 10 (tdS ls ||| ((1 : Int32) <<< ((2 : Int32) &&& 31)))) (fR M 3 8) ls := (hL.ui.uf (by decide)).uf (by decide)
    have hlen : ls.length < (zrw M (fR M 3 8 + 3)).length := by rw [(hC.1.1.row (fx_g2 ht) qw_31).2]; exact hl16
    have E3 : ENq (wF (wF (wI M (fR M 3 8 + 3) ls.length (hdT s.1).2.2.2) (fR M 3 8) 10 (hdT s.1).2.2.2) 3 10 (tdS ls ||| ((1 : Int32) <<< ((2 : Int32) &&& 31)))) (fR M 3 8) ls.length 2 m (hdT s.1).2.2.2 fr := ⟨by rw [rN_wF, rN_wF, rN_wI_ne (fun q => by omega)]; exact hE.1, by rw [rN_wF, rN_wF, rN_wI_ne (fun q => by omega)]; exact hE.2.1, by rw [rN_wF, rN_wF, rN_wI_eq hlen], by rw [rN_wF, rN_wF, rN_wI_ne (fun q => by omega)]; exact hE.2.2.2⟩
    have Q3 : FTq (wF (wF (wI M (fR M 3 8 + 3) ls.length (hdT s.1).2.2.2) (fR M 3 8) 10 (hdT s.1).2.2.2) 3 10 (tdS ls ||| ((1 : Int32) <<< ((2 : Int32) &&& 31)))) (fR M 3 8) (ls ++ [(2, m, (hdT s.1).2.2.2, fr, 0)]) := ⟨by rw [fI_wF_ne (fun q => by omega), fI_wF_eq hC.1.ki.1 ht qi_28_10, tv_app hk]; rfl, by rw [fI_wF_ne (fun q => by omega), fI_wF_ne (fun q => by omega), fI_wI, tv_app2 (by exact (by decide : (2 : Int32) ≠ 3))]; exact hF.2.1, by rw [fI_wF_ne (fun q => by omega), fI_wF_ne (fun q => by omega), fI_wI, tv_app2 (by exact (by decide : (2 : Int32) ≠ 4))]; exact hF.2.2.1, by rw [fI_wF_ne (fun q => by omega), fI_wF_ne (fun q => by omega), fI_wI, tv_app2 (by exact (by decide : (2 : Int32) ≠ 7))]; exact hF.2.2.2.1, by rw [fI_wF_eq hC.1.ki.kf.1 qa_3 qi_3_10, tdS_app]; exact (tdk2 _ _ _ _).symm⟩
    have C3 : CSt B n (fR M 3 8) (wF (wF (wI M (fR M 3 8 + 3) ls.length (hdT s.1).2.2.2) (fR M 3 8) 10 (hdT s.1).2.2.2) 3 10 (tdS ls ||| ((1 : Int32) <<< ((2 : Int32) &&& 31)))) s := hC.frm S3 F1 (fun q hq r => by
      simp only [List.mem_cons, List.not_mem_nil, or_false] at hq r
      rcases hq with rfl | rfl | rfl | rfl | rfl | rfl | rfl <;> simp only [Prod.mk.injEq] at r <;> omega) (fun b hb r => by
      simp only [List.mem_cons, List.not_mem_nil, or_false] at hb r
      omega)
    obtain ⟨rfl, F4, C4⟩ := C3.go ht (by rw [g1]; decide) (by rw [g1]; decide) H1
    obtain ⟨r1, rfl⟩ := nb2_217 C4.1 (by rw [F4.fr (by simp [fP]), F1.fr (by simp)]; exact ht) H
    obtain ⟨p1, p2, p3, p4⟩ := fP_no hb.1
    refine ⟨(F1.more (fun q hq => ?_) (fun q hq => ?_)).trans F4.ln, Or.inr (Or.inr ⟨g1, ?_, r1, C4, L3.frm F4 p2 p3, E3.frm F4 p4, Q3.frm F4 p1⟩)⟩
    · simp only [fLq, List.mem_cons, List.not_mem_nil, or_false] at hq ⊢
      rcases hq with h | h <;> simp [h]
    · simp only [wLn, List.mem_cons, List.not_mem_nil, or_false] at hq ⊢
      simp [hq]
    · rw [hmo]
      rintro (q | q)
      · exact g2 q
      · have q2 := q.2
        rw [Int32.lt_iff_toInt_lt] at q2
        rw [Int32.le_iff_toInt_le] at g3
        omega
  · rw [c5] at g1
    rw [c4 g1] at g2 g3
    obtain ⟨f1, f2⟩ := hC.err (v := v) (M' := M') H1 (fun y hy S => by subst hy; exact nb2_71 S (by rw [(hC.fail H1).1.fr (by simp [fP])]; exact ht) H)
    exact ⟨f1.ln, Or.inr (Or.inl ⟨g1, Or.inr ⟨rfl, by rw [Int32.lt_iff_toInt_lt]; rw [Int32.le_iff_toInt_le] at g3; omega⟩, f2⟩)⟩
  · rw [c5] at g1
    obtain ⟨f1, f2⟩ := hC.err (v := v) (M' := M') H1 (fun y hy S => by subst hy; exact nb2_13 S (by rw [(hC.fail H1).1.fr (by simp [fP])]; exact ht) H)
    exact ⟨f1.ln, Or.inl ⟨g1, f2⟩⟩
theorem tdk3 : ∀ a b c d : Bool, tdB (a || decide ((3 : Int32) = 2)) (b || decide ((3 : Int32) = 3)) (c || decide ((3 : Int32) = 4)) (d || decide ((3 : Int32) = 7)) = tdB a b c d ||| ((1 : Int32) <<< ((3 : Int32) &&& 31)) := by decide
theorem nu3_ok {e : Nat} {v : Option Value} {i m : Int32} {fr : Nat} (ht : gNth sT t = some 28) (hP : PRE B n t M s ls 3 m fr) (hi : i.toInt = (ls.length : Int)) (hk : hasK ls 3 = false) (H : Ev none e 35 0 [some (.ref 3), some (.int i), some (.int 3), none, none, none] [] M v M' 0 0) : FA (fLq t) (wLn t) M M' ∧ NUr B n t M' v s ls 3 m fr := by
  obtain ⟨hC, hL, hE, hF, hl16⟩ := hP
  have hb := tx_ge ht
  obtain ⟨c1, c2, c3, c4, c5, c6, c7⟩ := hC.2.2.1.at
  have h8 := hC.2.2.2.2.2.1
  subst h8
  have hix : i.toNatClampNeg = ls.length := cl_n hi
  have hmo : mostS 3 = 999 := by decide
  rcases nb3_0 hC.1 ht H with ⟨g1, g2, -, e1, v1, M1, rfl, H1, H⟩ | ⟨g1, g2, -, -, e1, v1, M1, rfl, H1, H⟩ | ⟨g1, e1, v1, M1, rfl, H1, H⟩
  · rw [c5] at g1
    rw [c4 g1] at g2
    obtain ⟨f1, f2⟩ := hC.err (v := v) (M' := M') H1 (fun y hy S => by subst hy; exact nb3_71 S (by rw [(hC.fail H1).1.fr (by simp [fP])]; exact ht) H)
    exact ⟨f1.ln, Or.inr (Or.inl ⟨g1, Or.inl (by rw [hmo]; exact g2), f2⟩)⟩
  · rw [c5] at g1
    rw [c4 g1] at g2 H1 H
    rw [hix] at H1
    have hrd : zI M 3 10 = tdS ls := by
      exact hF.2.2.2.2
    rw [hrd] at H1
    have F1 : FA [(fR M 3 8, 11), (3, 10)] [fR M 3 8 + 3] M (wF (wF (wI M (fR M 3 8 + 3) ls.length (hdT s.1).2.2.2) (fR M 3 8) 11 (hdT s.1).2.2.2) 3 10 (tdS ls ||| ((1 : Int32) <<< ((3 : Int32) &&& 31)))) := ((FA.wI (by simp)).trans (FA.wF (by simp))).trans (FA.wF (by simp))
    have S3 : SQ (wF (wF (wI M (fR M 3 8 + 3) ls.length (hdT s.1).2.2.2) (fR M 3 8) 11 (hdT s.1).2.2.2) 3 10 (tdS ls ||| ((1 : Int32) <<< ((3 : Int32) &&& 31)))) := hC.1.ki.kf.kf
    have L3 : LCt (wF (wF (wI M (fR M 3 8 + 3) ls.length (hdT s.1).2.2.2) (fR M 3 8) 11 (hdT s.1).2.2.2) 3 10 (tdS ls ||| ((1 : Int32) <<< ((3 : Int32) &&& 31)))) (fR M 3 8) ls := (hL.ui.uf (by decide)).uf (by decide)
    have hlen : ls.length < (zrw M (fR M 3 8 + 3)).length := by rw [(hC.1.1.row (fx_g2 ht) qw_31).2]; exact hl16
    have E3 : ENq (wF (wF (wI M (fR M 3 8 + 3) ls.length (hdT s.1).2.2.2) (fR M 3 8) 11 (hdT s.1).2.2.2) 3 10 (tdS ls ||| ((1 : Int32) <<< ((3 : Int32) &&& 31)))) (fR M 3 8) ls.length 3 m (hdT s.1).2.2.2 fr := ⟨by rw [rN_wF, rN_wF, rN_wI_ne (fun q => by omega)]; exact hE.1, by rw [rN_wF, rN_wF, rN_wI_ne (fun q => by omega)]; exact hE.2.1, by rw [rN_wF, rN_wF, rN_wI_eq hlen], by rw [rN_wF, rN_wF, rN_wI_ne (fun q => by omega)]; exact hE.2.2.2⟩
    have Q3 : FTq (wF (wF (wI M (fR M 3 8 + 3) ls.length (hdT s.1).2.2.2) (fR M 3 8) 11 (hdT s.1).2.2.2) 3 10 (tdS ls ||| ((1 : Int32) <<< ((3 : Int32) &&& 31)))) (fR M 3 8) (ls ++ [(3, m, (hdT s.1).2.2.2, fr, 0)]) := ⟨by rw [fI_wF_ne (fun q => by omega), fI_wF_ne (fun q => by omega), fI_wI, tv_app2 (by exact (by decide : (3 : Int32) ≠ 2))]; exact hF.1, by rw [fI_wF_ne (fun q => by omega), fI_wF_eq hC.1.ki.1 ht qi_28_11, tv_app hk]; rfl, by rw [fI_wF_ne (fun q => by omega), fI_wF_ne (fun q => by omega), fI_wI, tv_app2 (by exact (by decide : (3 : Int32) ≠ 4))]; exact hF.2.2.1, by rw [fI_wF_ne (fun q => by omega), fI_wF_ne (fun q => by omega), fI_wI, tv_app2 (by exact (by decide : (3 : Int32) ≠ 7))]; exact hF.2.2.2.1, by rw [fI_wF_eq hC.1.ki.kf.1 qa_3 qi_3_10, tdS_app]; exact (tdk3 _ _ _ _).symm⟩
    have C3 : CSt B n (fR M 3 8) (wF (wF (wI M (fR M 3 8 + 3) ls.length (hdT s.1).2.2.2) (fR M 3 8) 11 (hdT s.1).2.2.2) 3 10 (tdS ls ||| ((1 : Int32) <<< ((3 : Int32) &&& 31)))) s := hC.frm S3 F1 (fun q hq r => by
      simp only [List.mem_cons, List.not_mem_nil, or_false] at hq r
      rcases hq with rfl | rfl | rfl | rfl | rfl | rfl | rfl <;> simp only [Prod.mk.injEq] at r <;> omega) (fun b hb r => by
      simp only [List.mem_cons, List.not_mem_nil, or_false] at hb r
      omega)
    obtain ⟨rfl, F4, C4⟩ := C3.go ht (by rw [g1]; decide) (by rw [g1]; decide) H1
    obtain ⟨r1, rfl⟩ := nb3_217 C4.1 (by rw [F4.fr (by simp [fP]), F1.fr (by simp)]; exact ht) H
    obtain ⟨p1, p2, p3, p4⟩ := fP_no hb.1
    refine ⟨(F1.more (fun q hq => ?_) (fun q hq => ?_)).trans F4.ln, Or.inr (Or.inr ⟨g1, ?_, r1, C4, L3.frm F4 p2 p3, E3.frm F4 p4, Q3.frm F4 p1⟩)⟩
    · simp only [fLq, List.mem_cons, List.not_mem_nil, or_false] at hq ⊢
      rcases hq with h | h <;> simp [h]
    · simp only [wLn, List.mem_cons, List.not_mem_nil, or_false] at hq ⊢
      simp [hq]
    · rw [hmo]
      rintro (q | q)
      · exact g2 q
      · exact absurd q.1 (by decide)
  · rw [c5] at g1
    obtain ⟨f1, f2⟩ := hC.err (v := v) (M' := M') H1 (fun y hy S => by subst hy; exact nb3_13 S (by rw [(hC.fail H1).1.fr (by simp [fP])]; exact ht) H)
    exact ⟨f1.ln, Or.inl ⟨g1, f2⟩⟩
theorem tdk4 : ∀ a b c d : Bool, tdB (a || decide ((4 : Int32) = 2)) (b || decide ((4 : Int32) = 3)) (c || decide ((4 : Int32) = 4)) (d || decide ((4 : Int32) = 7)) = tdB a b c d ||| ((1 : Int32) <<< ((4 : Int32) &&& 31)) := by decide
theorem nu4_ok {e : Nat} {v : Option Value} {i m : Int32} {fr : Nat} (ht : gNth sT t = some 28) (hP : PRE B n t M s ls 4 m fr) (hi : i.toInt = (ls.length : Int)) (hk : hasK ls 4 = false) (H : Ev none e 35 0 [some (.ref 3), some (.int i), some (.int 4), none, none, none] [] M v M' 0 0) : FA (fLq t) (wLn t) M M' ∧ NUr B n t M' v s ls 4 m fr := by
  obtain ⟨hC, hL, hE, hF, hl16⟩ := hP
  have hb := tx_ge ht
  obtain ⟨c1, c2, c3, c4, c5, c6, c7⟩ := hC.2.2.1.at
  have h8 := hC.2.2.2.2.2.1
  subst h8
  have hix : i.toNatClampNeg = ls.length := cl_n hi
  have hmo : mostS 4 = 999 := by decide
  rcases nb4_0 hC.1 ht H with ⟨g1, g2, -, e1, v1, M1, rfl, H1, H⟩ | ⟨g1, g2, -, -, e1, v1, M1, rfl, H1, H⟩ | ⟨g1, e1, v1, M1, rfl, H1, H⟩
  · rw [c5] at g1
    rw [c4 g1] at g2
    obtain ⟨f1, f2⟩ := hC.err (v := v) (M' := M') H1 (fun y hy S => by subst hy; exact nb4_71 S (by rw [(hC.fail H1).1.fr (by simp [fP])]; exact ht) H)
    exact ⟨f1.ln, Or.inr (Or.inl ⟨g1, Or.inl (by rw [hmo]; exact g2), f2⟩)⟩
  · rw [c5] at g1
    rw [c4 g1] at g2 H1 H
    rw [hix] at H1
    have hrd : zI M 3 10 = tdS ls := by
      exact hF.2.2.2.2
    rw [hrd] at H1
    have F1 : FA [(fR M 3 8, 12), (3, 10)] [fR M 3 8 + 3] M (wF (wF (wI M (fR M 3 8 + 3) ls.length (hdT s.1).2.2.2) (fR M 3 8) 12 (hdT s.1).2.2.2) 3 10 (tdS ls ||| ((1 : Int32) <<< ((4 : Int32) &&& 31)))) := ((FA.wI (by simp)).trans (FA.wF (by simp))).trans (FA.wF (by simp))
    have S3 : SQ (wF (wF (wI M (fR M 3 8 + 3) ls.length (hdT s.1).2.2.2) (fR M 3 8) 12 (hdT s.1).2.2.2) 3 10 (tdS ls ||| ((1 : Int32) <<< ((4 : Int32) &&& 31)))) := hC.1.ki.kf.kf
    have L3 : LCt (wF (wF (wI M (fR M 3 8 + 3) ls.length (hdT s.1).2.2.2) (fR M 3 8) 12 (hdT s.1).2.2.2) 3 10 (tdS ls ||| ((1 : Int32) <<< ((4 : Int32) &&& 31)))) (fR M 3 8) ls := (hL.ui.uf (by decide)).uf (by decide)
    have hlen : ls.length < (zrw M (fR M 3 8 + 3)).length := by rw [(hC.1.1.row (fx_g2 ht) qw_31).2]; exact hl16
    have E3 : ENq (wF (wF (wI M (fR M 3 8 + 3) ls.length (hdT s.1).2.2.2) (fR M 3 8) 12 (hdT s.1).2.2.2) 3 10 (tdS ls ||| ((1 : Int32) <<< ((4 : Int32) &&& 31)))) (fR M 3 8) ls.length 4 m (hdT s.1).2.2.2 fr := ⟨by rw [rN_wF, rN_wF, rN_wI_ne (fun q => by omega)]; exact hE.1, by rw [rN_wF, rN_wF, rN_wI_ne (fun q => by omega)]; exact hE.2.1, by rw [rN_wF, rN_wF, rN_wI_eq hlen], by rw [rN_wF, rN_wF, rN_wI_ne (fun q => by omega)]; exact hE.2.2.2⟩
    have Q3 : FTq (wF (wF (wI M (fR M 3 8 + 3) ls.length (hdT s.1).2.2.2) (fR M 3 8) 12 (hdT s.1).2.2.2) 3 10 (tdS ls ||| ((1 : Int32) <<< ((4 : Int32) &&& 31)))) (fR M 3 8) (ls ++ [(4, m, (hdT s.1).2.2.2, fr, 0)]) := ⟨by rw [fI_wF_ne (fun q => by omega), fI_wF_ne (fun q => by omega), fI_wI, tv_app2 (by exact (by decide : (4 : Int32) ≠ 2))]; exact hF.1, by rw [fI_wF_ne (fun q => by omega), fI_wF_ne (fun q => by omega), fI_wI, tv_app2 (by exact (by decide : (4 : Int32) ≠ 3))]; exact hF.2.1, by rw [fI_wF_ne (fun q => by omega), fI_wF_eq hC.1.ki.1 ht qi_28_12, tv_app hk]; rfl, by rw [fI_wF_ne (fun q => by omega), fI_wF_ne (fun q => by omega), fI_wI, tv_app2 (by exact (by decide : (4 : Int32) ≠ 7))]; exact hF.2.2.2.1, by rw [fI_wF_eq hC.1.ki.kf.1 qa_3 qi_3_10, tdS_app]; exact (tdk4 _ _ _ _).symm⟩
    have C3 : CSt B n (fR M 3 8) (wF (wF (wI M (fR M 3 8 + 3) ls.length (hdT s.1).2.2.2) (fR M 3 8) 12 (hdT s.1).2.2.2) 3 10 (tdS ls ||| ((1 : Int32) <<< ((4 : Int32) &&& 31)))) s := hC.frm S3 F1 (fun q hq r => by
      simp only [List.mem_cons, List.not_mem_nil, or_false] at hq r
      rcases hq with rfl | rfl | rfl | rfl | rfl | rfl | rfl <;> simp only [Prod.mk.injEq] at r <;> omega) (fun b hb r => by
      simp only [List.mem_cons, List.not_mem_nil, or_false] at hb r
      omega)
    obtain ⟨rfl, F4, C4⟩ := C3.go ht (by rw [g1]; decide) (by rw [g1]; decide) H1
    obtain ⟨r1, rfl⟩ := nb4_217 C4.1 (by rw [F4.fr (by simp [fP]), F1.fr (by simp)]; exact ht) H
    obtain ⟨p1, p2, p3, p4⟩ := fP_no hb.1
    refine ⟨(F1.more (fun q hq => ?_) (fun q hq => ?_)).trans F4.ln, Or.inr (Or.inr ⟨g1, ?_, r1, C4, L3.frm F4 p2 p3, E3.frm F4 p4, Q3.frm F4 p1⟩)⟩
    · simp only [fLq, List.mem_cons, List.not_mem_nil, or_false] at hq ⊢
      rcases hq with h | h <;> simp [h]
    · simp only [wLn, List.mem_cons, List.not_mem_nil, or_false] at hq ⊢
      simp [hq]
    · rw [hmo]
      rintro (q | q)
      · exact g2 q
      · exact absurd q.1 (by decide)
  · rw [c5] at g1
    obtain ⟨f1, f2⟩ := hC.err (v := v) (M' := M') H1 (fun y hy S => by subst hy; exact nb4_13 S (by rw [(hC.fail H1).1.fr (by simp [fP])]; exact ht) H)
    exact ⟨f1.ln, Or.inl ⟨g1, f2⟩⟩
theorem tdk5 : ∀ a b c d : Bool, tdB (a || decide ((5 : Int32) = 2)) (b || decide ((5 : Int32) = 3)) (c || decide ((5 : Int32) = 4)) (d || decide ((5 : Int32) = 7)) = tdB a b c d ||| 0 := by decide
theorem nu5_ok {e : Nat} {v : Option Value} {i m : Int32} {fr : Nat} (ht : gNth sT t = some 28) (hP : PRE B n t M s ls 5 m fr) (hi : i.toInt = (ls.length : Int)) (H : Ev none e 35 0 [some (.ref 3), some (.int i), some (.int 5), none, none, none] [] M v M' 0 0) : FA (fLq t) (wLn t) M M' ∧ NUr B n t M' v s ls 5 m fr := by
  obtain ⟨hC, hL, hE, hF, hl16⟩ := hP
  have hb := tx_ge ht
  obtain ⟨c1, c2, c3, c4, c5, c6, c7⟩ := hC.2.2.1.at
  have h8 := hC.2.2.2.2.2.1
  subst h8
  have hix : i.toNatClampNeg = ls.length := cl_n hi
  have hmo : mostS 5 = 99 := by decide
  rcases nb5_0 hC.1 ht H with ⟨g1, g2, -, e1, v1, M1, rfl, H1, H⟩ | ⟨g1, g2, -, -, e1, v1, M1, rfl, H1, H⟩ | ⟨g1, e1, v1, M1, rfl, H1, H⟩
  · rw [c5] at g1
    rw [c4 g1] at g2
    obtain ⟨f1, f2⟩ := hC.err (v := v) (M' := M') H1 (fun y hy S => by subst hy; exact nb5_71 S (by rw [(hC.fail H1).1.fr (by simp [fP])]; exact ht) H)
    exact ⟨f1.ln, Or.inr (Or.inl ⟨g1, Or.inl (by rw [hmo]; exact g2), f2⟩)⟩
  · rw [c5] at g1
    rw [c4 g1] at g2 H1 H
    rw [hix] at H1
    have hrd : zI M 3 10 = tdS ls := hF.2.2.2.2
    rw [hrd] at H1
    have F1 : FA [(3, 10)] [fR M 3 8 + 3] M (wF (wI M (fR M 3 8 + 3) ls.length (hdT s.1).2.2.2) 3 10 (tdS ls ||| 0)) := (FA.wI (by simp)).trans (FA.wF (by simp))
    have S3 : SQ (wF (wI M (fR M 3 8 + 3) ls.length (hdT s.1).2.2.2) 3 10 (tdS ls ||| 0)) := hC.1.ki.kf
    have L3 : LCt (wF (wI M (fR M 3 8 + 3) ls.length (hdT s.1).2.2.2) 3 10 (tdS ls ||| 0)) (fR M 3 8) ls := hL.ui.uf (by decide)
    have hlen : ls.length < (zrw M (fR M 3 8 + 3)).length := by rw [(hC.1.1.row (fx_g2 ht) qw_31).2]; exact hl16
    have E3 : ENq (wF (wI M (fR M 3 8 + 3) ls.length (hdT s.1).2.2.2) 3 10 (tdS ls ||| 0)) (fR M 3 8) ls.length 5 m (hdT s.1).2.2.2 fr := ⟨by rw [rN_wF, rN_wI_ne (fun q => by omega)]; exact hE.1, by rw [rN_wF, rN_wI_ne (fun q => by omega)]; exact hE.2.1, by rw [rN_wF, rN_wI_eq hlen], by rw [rN_wF, rN_wI_ne (fun q => by omega)]; exact hE.2.2.2⟩
    have Q3 : FTq (wF (wI M (fR M 3 8 + 3) ls.length (hdT s.1).2.2.2) 3 10 (tdS ls ||| 0)) (fR M 3 8) (ls ++ [(5, m, (hdT s.1).2.2.2, fr, 0)]) := ⟨by rw [fI_wF_ne (fun q => by omega), fI_wI, tv_app2 (by exact (by decide : (5 : Int32) ≠ 2))]; exact hF.1, by rw [fI_wF_ne (fun q => by omega), fI_wI, tv_app2 (by exact (by decide : (5 : Int32) ≠ 3))]; exact hF.2.1, by rw [fI_wF_ne (fun q => by omega), fI_wI, tv_app2 (by exact (by decide : (5 : Int32) ≠ 4))]; exact hF.2.2.1, by rw [fI_wF_ne (fun q => by omega), fI_wI, tv_app2 (by exact (by decide : (5 : Int32) ≠ 7))]; exact hF.2.2.2.1, by rw [fI_wF_eq hC.1.ki.1 qa_3 qi_3_10, tdS_app]; exact (tdk5 _ _ _ _).symm⟩
    have C3 : CSt B n (fR M 3 8) (wF (wI M (fR M 3 8 + 3) ls.length (hdT s.1).2.2.2) 3 10 (tdS ls ||| 0)) s := hC.frm S3 F1 (fun q hq r => by
      simp only [List.mem_cons, List.not_mem_nil, or_false] at hq r
      rcases hq with rfl | rfl | rfl | rfl | rfl | rfl | rfl <;> simp only [Prod.mk.injEq] at r <;> omega) (fun b hb r => by
      simp only [List.mem_cons, List.not_mem_nil, or_false] at hb r
      omega)
    obtain ⟨rfl, F4, C4⟩ := C3.go ht (by rw [g1]; decide) (by rw [g1]; decide) H1
    obtain ⟨r1, rfl⟩ := nb5_217 C4.1 (by rw [F4.fr (by simp [fP]), F1.fr (by simp)]; exact ht) H
    obtain ⟨p1, p2, p3, p4⟩ := fP_no hb.1
    refine ⟨(F1.more (fun q hq => ?_) (fun q hq => ?_)).trans F4.ln, Or.inr (Or.inr ⟨g1, ?_, r1, C4, L3.frm F4 p2 p3, E3.frm F4 p4, Q3.frm F4 p1⟩)⟩
    · simp only [fLq, List.mem_cons, List.not_mem_nil, or_false] at hq ⊢
      simp [hq]
    · simp only [wLn, List.mem_cons, List.not_mem_nil, or_false] at hq ⊢
      simp [hq]
    · rw [hmo]
      rintro (q | q)
      · exact g2 q
      · exact absurd q.1 (by decide)
  · rw [c5] at g1
    obtain ⟨f1, f2⟩ := hC.err (v := v) (M' := M') H1 (fun y hy S => by subst hy; exact nb5_13 S (by rw [(hC.fail H1).1.fr (by simp [fP])]; exact ht) H)
    exact ⟨f1.ln, Or.inl ⟨g1, f2⟩⟩
theorem tdk7 : ∀ a b c d : Bool, tdB (a || decide ((7 : Int32) = 2)) (b || decide ((7 : Int32) = 3)) (c || decide ((7 : Int32) = 4)) (d || decide ((7 : Int32) = 7)) = tdB a b c d ||| ((1 : Int32) <<< ((7 : Int32) &&& 31)) := by decide
theorem nu7_ok {e : Nat} {v : Option Value} {i m : Int32} {fr : Nat} (ht : gNth sT t = some 28) (hP : PRE B n t M s ls 7 m fr) (hi : i.toInt = (ls.length : Int)) (hk : hasK ls 7 = false) (H : Ev none e 35 0 [some (.ref 3), some (.int i), some (.int 7), none, none, none] [] M v M' 0 0) : FA (fLq t) (wLn t) M M' ∧ NUr B n t M' v s ls 7 m fr := by
  obtain ⟨hC, hL, hE, hF, hl16⟩ := hP
  have hb := tx_ge ht
  obtain ⟨c1, c2, c3, c4, c5, c6, c7⟩ := hC.2.2.1.at
  have h8 := hC.2.2.2.2.2.1
  subst h8
  have hix : i.toNatClampNeg = ls.length := cl_n hi
  have hmo : mostS 7 = 9 := by decide
  rcases nb7_0 hC.1 ht H with ⟨g1, g2, -, e1, v1, M1, rfl, H1, H⟩ | ⟨g1, g2, -, -, e1, v1, M1, rfl, H1, H⟩ | ⟨g1, e1, v1, M1, rfl, H1, H⟩
  · rw [c5] at g1
    rw [c4 g1] at g2
    obtain ⟨f1, f2⟩ := hC.err (v := v) (M' := M') H1 (fun y hy S => by subst hy; exact nb7_71 S (by rw [(hC.fail H1).1.fr (by simp [fP])]; exact ht) H)
    exact ⟨f1.ln, Or.inr (Or.inl ⟨g1, Or.inl (by rw [hmo]; exact g2), f2⟩)⟩
  · rw [c5] at g1
    rw [c4 g1] at g2 H1 H
    rw [hix] at H1
    have hrd : zI M 3 10 = tdS ls := by
      exact hF.2.2.2.2
    rw [hrd] at H1
    have F1 : FA [(fR M 3 8, 13), (3, 10)] [fR M 3 8 + 3] M (wF (wF (wI M (fR M 3 8 + 3) ls.length (hdT s.1).2.2.2) (fR M 3 8) 13 (hdT s.1).2.2.2) 3 10 (tdS ls ||| ((1 : Int32) <<< ((7 : Int32) &&& 31)))) := ((FA.wI (by simp)).trans (FA.wF (by simp))).trans (FA.wF (by simp))
    have S3 : SQ (wF (wF (wI M (fR M 3 8 + 3) ls.length (hdT s.1).2.2.2) (fR M 3 8) 13 (hdT s.1).2.2.2) 3 10 (tdS ls ||| ((1 : Int32) <<< ((7 : Int32) &&& 31)))) := hC.1.ki.kf.kf
    have L3 : LCt (wF (wF (wI M (fR M 3 8 + 3) ls.length (hdT s.1).2.2.2) (fR M 3 8) 13 (hdT s.1).2.2.2) 3 10 (tdS ls ||| ((1 : Int32) <<< ((7 : Int32) &&& 31)))) (fR M 3 8) ls := (hL.ui.uf (by decide)).uf (by decide)
    have hlen : ls.length < (zrw M (fR M 3 8 + 3)).length := by rw [(hC.1.1.row (fx_g2 ht) qw_31).2]; exact hl16
    have E3 : ENq (wF (wF (wI M (fR M 3 8 + 3) ls.length (hdT s.1).2.2.2) (fR M 3 8) 13 (hdT s.1).2.2.2) 3 10 (tdS ls ||| ((1 : Int32) <<< ((7 : Int32) &&& 31)))) (fR M 3 8) ls.length 7 m (hdT s.1).2.2.2 fr := ⟨by rw [rN_wF, rN_wF, rN_wI_ne (fun q => by omega)]; exact hE.1, by rw [rN_wF, rN_wF, rN_wI_ne (fun q => by omega)]; exact hE.2.1, by rw [rN_wF, rN_wF, rN_wI_eq hlen], by rw [rN_wF, rN_wF, rN_wI_ne (fun q => by omega)]; exact hE.2.2.2⟩
    have Q3 : FTq (wF (wF (wI M (fR M 3 8 + 3) ls.length (hdT s.1).2.2.2) (fR M 3 8) 13 (hdT s.1).2.2.2) 3 10 (tdS ls ||| ((1 : Int32) <<< ((7 : Int32) &&& 31)))) (fR M 3 8) (ls ++ [(7, m, (hdT s.1).2.2.2, fr, 0)]) := ⟨by rw [fI_wF_ne (fun q => by omega), fI_wF_ne (fun q => by omega), fI_wI, tv_app2 (by exact (by decide : (7 : Int32) ≠ 2))]; exact hF.1, by rw [fI_wF_ne (fun q => by omega), fI_wF_ne (fun q => by omega), fI_wI, tv_app2 (by exact (by decide : (7 : Int32) ≠ 3))]; exact hF.2.1, by rw [fI_wF_ne (fun q => by omega), fI_wF_ne (fun q => by omega), fI_wI, tv_app2 (by exact (by decide : (7 : Int32) ≠ 4))]; exact hF.2.2.1, by rw [fI_wF_ne (fun q => by omega), fI_wF_eq hC.1.ki.1 ht qi_28_13, tv_app hk]; rfl, by rw [fI_wF_eq hC.1.ki.kf.1 qa_3 qi_3_10, tdS_app]; exact (tdk7 _ _ _ _).symm⟩
    have C3 : CSt B n (fR M 3 8) (wF (wF (wI M (fR M 3 8 + 3) ls.length (hdT s.1).2.2.2) (fR M 3 8) 13 (hdT s.1).2.2.2) 3 10 (tdS ls ||| ((1 : Int32) <<< ((7 : Int32) &&& 31)))) s := hC.frm S3 F1 (fun q hq r => by
      simp only [List.mem_cons, List.not_mem_nil, or_false] at hq r
      rcases hq with rfl | rfl | rfl | rfl | rfl | rfl | rfl <;> simp only [Prod.mk.injEq] at r <;> omega) (fun b hb r => by
      simp only [List.mem_cons, List.not_mem_nil, or_false] at hb r
      omega)
    obtain ⟨rfl, F4, C4⟩ := C3.go ht (by rw [g1]; decide) (by rw [g1]; decide) H1
    obtain ⟨r1, rfl⟩ := nb7_217 C4.1 (by rw [F4.fr (by simp [fP]), F1.fr (by simp)]; exact ht) H
    obtain ⟨p1, p2, p3, p4⟩ := fP_no hb.1
    refine ⟨(F1.more (fun q hq => ?_) (fun q hq => ?_)).trans F4.ln, Or.inr (Or.inr ⟨g1, ?_, r1, C4, L3.frm F4 p2 p3, E3.frm F4 p4, Q3.frm F4 p1⟩)⟩
    · simp only [fLq, List.mem_cons, List.not_mem_nil, or_false] at hq ⊢
      rcases hq with h | h <;> simp [h]
    · simp only [wLn, List.mem_cons, List.not_mem_nil, or_false] at hq ⊢
      simp [hq]
    · rw [hmo]
      rintro (q | q)
      · exact g2 q
      · exact absurd q.1 (by decide)
  · rw [c5] at g1
    obtain ⟨f1, f2⟩ := hC.err (v := v) (M' := M') H1 (fun y hy S => by subst hy; exact nb7_13 S (by rw [(hC.fail H1).1.fr (by simp [fP])]; exact ht) H)
    exact ⟨f1.ln, Or.inl ⟨g1, f2⟩⟩
theorem tdk6 : ∀ a b c d : Bool, tdB (a || decide ((6 : Int32) = 2)) (b || decide ((6 : Int32) = 3)) (c || decide ((6 : Int32) = 4)) (d || decide ((6 : Int32) = 7)) = tdB a b c d ||| 0 := by decide
end NUM
/-! THE CLASS'S LINES (made by glin2.py) -/
def LNr (B : Nat → Int32) (n t : Nat) (M' : Mem) (v : Option Value) (r : PLn) : Prop := match r with
  | .inr f => ERt M' v f
  | .inl q => v = some (.int 1) ∧ CL B n t M' q.1 q.2
section LIN
variable {n t : Nat} {B : Nat → Int32} {M M' : Mem} {s : Sg} {ls : List Lnq}
theorem tv_to {x m nu k d : Int32} {fr a b : Nat} : tvS (ls ++ [(x, m, nu, fr, a)]) k d = tvS (ls ++ [(x, m, nu, fr, b)]) k d := by
  unfold tvS
  rw [List.find?_append, List.find?_append]
  cases List.find? (fun l => decide (l.1 = k)) ls with
  | some l => rfl
  | none =>
    by_cases h : x = k
    · rw [List.find?_cons_of_pos (by exact decide_eq_true h), List.find?_cons_of_pos (by exact decide_eq_true h)]
      rfl
    · rw [List.find?_cons_of_neg (by exact fun q => absurd (of_decide_eq_true q) h), List.find?_cons_of_neg (by exact fun q => absurd (of_decide_eq_true q) h)]
theorem FTq.to {x m nu : Int32} {fr a b : Nat} (h : FTq M t (ls ++ [(x, m, nu, fr, a)])) : FTq M t (ls ++ [(x, m, nu, fr, b)]) := by
  obtain ⟨h1, h2, h3, h4, h5⟩ := h
  exact ⟨h1.trans tv_to, h2.trans tv_to, h3.trans tv_to, h4.trans tv_to, by rw [h5, tdS_app, tdS_app]⟩
theorem LCt.add {l : Lnq} {to : Int32} {tn : Nat} (hS : SQ M) (ht : gNth sT t = some 28) (h : LCt M t ls) (hE : ENq M t ls.length l.1 l.2.1 l.2.2.1 l.2.2.2.1) (h16 : ls.length < 16) (hto : to.toInt = (tn : Int)) : LCt (wF (wI M (t + 5) ls.length to) t 8 (zI M t 8 + 1)) t (ls ++ [(l.1, l.2.1, l.2.2.1, l.2.2.2.1, tn)]) := by
  have hu := h.ui (a := t + 5) (x := to)
  refine ⟨?_, by rw [List.length_append]; exact h16, fun j l2 hj => ?_⟩
  · rw [fI_wF_eq hS.ki.1 ht qi_28_8, i32_p1 (by have := h.1; omega), h.1, List.length_append]
    rfl
  · rw [rN_wF, rN_wF, rN_wF, rN_wF, rN_wF]
    by_cases hj2 : j = ls.length
    · subst hj2
      rw [List.getElem?_append_right (Nat.le_refl _), Nat.sub_self] at hj
      cases hj
      rw [rN_wI_ne (fun q => by omega), rN_wI_ne (fun q => by omega), rN_wI_ne (fun q => by omega), rN_wI_ne (fun q => by omega), rN_wI_eq (by rw [(hS.1.row (fx_g4 ht) qw_33).2]; exact h16)]
      exact ⟨hE.1, hE.2.1, hE.2.2.1, hE.2.2.2, hto⟩
    · have hlt : j < ls.length := by
        have h1 := (List.getElem?_eq_some_iff.mp hj).1
        rw [List.length_append] at h1
        have h1 : j < ls.length + 1 := h1
        omega
      rw [List.getElem?_append_left hlt] at hj
      exact hu.2.2 j l2 hj
theorem MID.h16 {l : Lnq} (h : MID B n t M s ls l) (hl : ls.length < 16) : ls.length < 16 := hl
theorem fin_ok {x m nu : Int32} {fr : Nat} {i : Int32} {v : Option Value} (ht : gNth sT t = some 28) (h : MID B n t M s ls (x, m, nu, fr, 0)) (hl : ls.length < 16) (hi : i.toInt = (ls.length : Int)) (h1 : v = some (.int 1)) (h2 : M' = wF (wI M (fR M 3 8 + 5) i.toNatClampNeg (zI M (fR M 3 8) 9)) (fR M 3 8) 8 (zI M (fR M 3 8) 8 + 1)) : FA (fLq t) (wLn t) M M' ∧ LNr B n t M' v (.inl (s, ls ++ [(x, m, nu, fr, s.2.2.length)])) := by
  obtain ⟨hC, hL, hE, hF⟩ := h
  have hb := tx_ge ht
  have h8 := hC.2.2.2.2.2.1
  have hcs := hC.2.2.2.2.2.2.1.1
  subst h8
  have hix : i.toNatClampNeg = ls.length := cl_n hi
  rw [hix] at h2
  have hL2 := hL.add hC.1 ht hE hl hcs
  subst h2
  have F1 : FA [(fR M 3 8, 8)] [fR M 3 8 + 5] M (wF (wI M (fR M 3 8 + 5) ls.length (zI M (fR M 3 8) 9)) (fR M 3 8) 8 (zI M (fR M 3 8) 8 + 1)) := (FA.wI (by simp)).trans (FA.wF (by simp))
  refine ⟨F1.more (fun q hq => ?_) (fun q hq => ?_), h1, hC.frm hC.1.ki.kf F1 (fun q hq r => ?_) (fun b hb r => ?_), hL2, (hF.frm F1 (fun q hq r => ?_)).to⟩
  · simp only [fLq, List.mem_cons, List.not_mem_nil, or_false] at hq ⊢
    simp [hq]
  · simp only [wLn, List.mem_cons, List.not_mem_nil, or_false] at hq ⊢
    simp [hq]
  · simp only [List.mem_cons, List.not_mem_nil, or_false] at hq r
    rcases hq with rfl | rfl | rfl | rfl | rfl | rfl | rfl <;> simp only [Prod.mk.injEq] at r <;> omega
  · simp only [List.mem_cons, List.not_mem_nil, or_false] at hb r
    omega
  · simp only [List.mem_cons, List.not_mem_nil, or_false] at hq r
    rcases hq with rfl | rfl | rfl | rfl | rfl <;> simp only [Prod.mk.injEq] at r <;> omega
theorem MID.go {l : Lnq} {e : Nat} {v : Option Value} (ht : gNth sT t = some 28) (h : MID B n t M s ls l) (h0 : (hdT s.1).1 ≠ 0) (h1 : (hdT s.1).1 ≠ 1) (H : Ev none e 31 0 [some (.ref 3)] [] M v M' 0 0) : v = none ∧ FA (fLq t) (wLn t) M M' ∧ MID B n t M' (s.1.tail, s.2.1, s.2.2) ls l := by
  obtain ⟨hC, hL, hE, hF⟩ := h
  have hb := tx_ge ht
  obtain ⟨p1, p2, p3, p4⟩ := fP_no hb.1
  obtain ⟨g1, g2, g3⟩ := hC.go ht h0 h1 H
  exact ⟨g1, g2.ln, g3, hL.frm g2 p2 p3, hE.frm g2 p4, hF.frm g2 p1⟩
theorem MID.con {l : Lnq} {e : Nat} {v : Option Value} (ht : gNth sT t = some 28) (hn2 : n ≤ 440) (h : MID B n t M s ls l) (H : Ev none e 36 0 [some (.ref 3), some (.int 1), none] [] M v M' 0 0) : FA (fLq t) (wLn t) M M' ∧ (match (prS B e).1 1 s with
  | .inr f => ERt M' v f
  | .inl s2 => v = some (.int 1) ∧ MID B n t M' s2 ls l) := by
  obtain ⟨hC, hL, hE, hF⟩ := h
  have hb := tx_ge ht
  obtain ⟨p1, p2, p3, p4⟩ := fP_no hb.1
  obtain ⟨F1, R1⟩ := (cc_main ht hn2 e).1 1 1 s M M' v rfl (by omega) hC H
  refine ⟨F1.ln, ?_⟩
  cases hr : (prS B e).1 1 s with
  | inr f =>
    rw [hr] at R1
    exact RS_err R1
  | inl s2 =>
    rw [hr] at R1
    obtain ⟨r1, r2⟩ := RS_ok R1
    exact ⟨r1, r2, hL.frm F1 p2 p3, hE.frm F1 p4, hF.frm F1 p1⟩
/-- a measure and a number -/
theorem wg_ok {e : Nat} {v : Option Value} {i : Int32} {fr : Nat} (ht : gNth sT t = some 28) (hn2 : n ≤ 440) (hP : PRE B n t M s ls 5 0 fr) (hi : i.toInt = (ls.length : Int)) (H : Ev none e 34 0 [some (.ref 3), some (.int i), none] [] M v M' 0 0) : FA (fLq t) (wLn t) M M' ∧ ((ixF (wdS B (hdT s.1)) meaW 0 < 0 ∧ ERt M' v (1, (hdT s.1).2.1)) ∨ (¬ ixF (wdS B (hdT s.1)) meaW 0 < 0 ∧ NUr B n t M' v (s.1.tail, s.2.1, s.2.2) ls 5 (ixF (wdS B (hdT s.1)) meaW 0) fr)) := by
  obtain ⟨hC, hL, hE, hF, hl16⟩ := hP
  have hb := tx_ge ht
  have h8 := hC.2.2.2.2.2.1
  subst h8
  obtain ⟨e1, v1, M1, rfl, H1, H⟩ := wg_0 hC.1 ht H
  obtain ⟨rfl, rfl⟩ := amq_all (ws := meaW) hC.1 hn2 hC.2.2.1 rfl (by decide) (List.cons_ne_nil _ _) (by decide) (by decide) H1
  rw [hC.wd] at H
  generalize ha : ixF (wdS B (hdT s.1)) meaW 0 = a at H ⊢
  have hneg : a < 0 ↔ ¬ 0 ≤ a := by rw [Int32.lt_iff_toInt_lt, Int32.le_iff_toInt_le]; omega
  have hix : i.toNatClampNeg = ls.length := cl_n hi
  rcases wg_6 hC.1 ht H with ⟨g1, -, e2, v2, M2, he, H2, H⟩ | ⟨g1, e2, v2, M2, he, H2, H⟩
  · rw [hix] at H2
    have hty : (hdT s.1).1 = 2 := by
      rcases ixF_bd (w := wdS B (hdT s.1)) meaW 0 (by decide) (by decide) with q | ⟨_, _, q3⟩
      · rw [ha] at q
        rw [q] at g1
        exact absurd g1 (by decide)
      · exact wd_ne (B := B) (u := wdS B (hdT s.1)) rfl (fun x => by rw [x] at q3; revert q3; decide)
    have F1 : FA [] [fR M1 3 8 + 2] M1 (wI M1 (fR M1 3 8 + 2) ls.length a) := FA.wI (by simp)
    have hlen : ls.length < (zrw M1 (fR M1 3 8 + 2)).length := by rw [(hC.1.1.row (fx_g1 ht) qw_30).2]; exact hl16
    have E3 : ENq (wI M1 (fR M1 3 8 + 2) ls.length a) (fR M1 3 8) ls.length 5 a 0 fr := ⟨by rw [rN_wI_ne (fun q => by omega)]; exact hE.1, by rw [rN_wI_eq hlen], by rw [rN_wI_ne (fun q => by omega)]; exact hE.2.2.1, by rw [rN_wI_ne (fun q => by omega)]; exact hE.2.2.2⟩
    have C3 : CSt B n (fR M1 3 8) (wI M1 (fR M1 3 8 + 2) ls.length a) s := hC.frm hC.1.ki F1 (fun q _ r => by cases r) (fun b hb r => by
      simp only [List.mem_cons, List.not_mem_nil, or_false] at hb r
      omega)
    obtain ⟨p1, p2, p3, p4⟩ := fP_no hb.1
    obtain ⟨rfl, F4, C4⟩ := C3.go ht (by rw [hty]; decide) (by rw [hty]; decide) H2
    have P4 : PRE B n (fR M1 3 8) M2 (s.1.tail, s.2.1, s.2.2) ls 5 a fr := ⟨C4, (hL.ui (a := fR M1 3 8 + 2) (x := a)).frm F4 p2 p3, E3.frm F4 p4, (hF.frm F1 (fun q _ r => by cases r)).frm F4 p1, hl16⟩
    have hr4 : fR M2 3 8 = fR M1 3 8 := by rw [F4.fr (by simp [fP]), F1.fr (by simp)]
    obtain ⟨e3, v3, M3, he, H3, H⟩ := wg_31 C4.1 (by rw [hr4]; exact ht) H
    obtain ⟨F5, R5⟩ := nu5_ok ht P4 hi H3
    have FX : FA (fLq (fR M1 3 8)) (wLn (fR M1 3 8)) M1 M3 := ((F1.more (fun q hq => by cases hq) (fun q hq => by
      simp only [wLn, List.mem_cons, List.not_mem_nil, or_false] at hq ⊢
      simp [hq])).trans F4.ln).trans F5
    have hr5 : fR M3 3 8 = fR M1 3 8 := FX.fr (by simp [fLq]; omega)
    rcases R5 with ⟨q1, q2⟩ | ⟨q1, q2, q3⟩ | ⟨q1, q2, rfl, q4⟩
    · obtain ⟨rfl, S9, r9⟩ := q2
      obtain ⟨r1, rfl⟩ := wg_37 S9 (by rw [hr5]; exact ht) H
      exact ⟨FX, Or.inr ⟨fun x => (hneg.mp x) g1, Or.inl ⟨q1, r1, S9, r9⟩⟩⟩
    · obtain ⟨rfl, S9, r9⟩ := q3
      obtain ⟨r1, rfl⟩ := wg_37 S9 (by rw [hr5]; exact ht) H
      exact ⟨FX, Or.inr ⟨fun x => (hneg.mp x) g1, Or.inr (Or.inl ⟨q1, q2, r1, S9, r9⟩)⟩⟩
    · obtain ⟨r1, rfl⟩ := wg_37 q4.1.1 (by rw [hr5]; exact ht) H
      exact ⟨FX, Or.inr ⟨fun x => (hneg.mp x) g1, Or.inr (Or.inr ⟨q1, q2, r1, q4⟩)⟩⟩
  · obtain ⟨f1, f2⟩ := hC.err (v := v) (M' := M') H2 (fun y hy S => by subst hy; exact wg_16 S (by rw [(hC.fail H2).1.fr (by simp [fP])]; exact ht) H)
    exact ⟨f1.ln, Or.inl ⟨hneg.mpr g1, f2⟩⟩
theorem en0_ok {e : Nat} {v : Option Value} {a i m nu : Int32} {fr : Nat} {c5 c6 : Option Value} (ht : gNth sT t = some 28) (h : MID B n t M s ls (0, m, nu, fr, 0)) (hl : ls.length < 16) (hi : i.toInt = (ls.length : Int)) (H : (zI M 3 7 = 59 ∧ ∃ e1 v1 M1, e = e1 + 1 ∧ Ev none e1 31 0 [some (.ref 3)] [] M v1 M1 0 0 ∧ Ev none e 33 283 [some (.ref 3), some (.int a), some (.int 0), some (.int i), some (.int 1), c5, c6] (v1.toList ++ []) M1 v M' 0 0) ∨ (¬ (zI M 3 7 = 59) ∧ ∃ e1 v1 M1, e = e1 + 1 ∧ Ev none e1 27 0 [some (.ref 3), some (.int 1)] [] M v1 M1 0 0 ∧ Ev none e 33 278 [some (.ref 3), some (.int a), some (.int 0), some (.int i), some (.int 1), c5, c6] (v1.toList ++ []) M1 v M' 0 0)) : FA (fLq t) (wLn t) M M' ∧ LNr B n t M' v (endB s ls 0 m nu fr) := by
  have c5' := h.1.2.2.1.at.2.2.2.2.1
  have h8 := h.1.2.2.2.2.2.1
  unfold endB
  rcases H with ⟨g1, e1, v1, M1, rfl, H1, H⟩ | ⟨g1, e1, v1, M1, rfl, H1, H⟩
  · rw [c5'] at g1
    rw [if_neg (fun q => q g1)]
    obtain ⟨rfl, F1, Q1⟩ := h.go ht (by rw [g1]; decide) (by rw [g1]; decide) H1
    have h9 : fR M1 3 8 = t := Q1.1.2.2.2.2.2.1
    obtain ⟨-, r1, r2⟩ := ln0_283 Q1.1.1 (by rw [h9]; exact ht) H
    obtain ⟨F2, R2⟩ := fin_ok ht Q1 hl hi r1 r2
    exact ⟨F1.trans F2, R2⟩
  · rw [c5'] at g1
    rw [if_pos g1]
    obtain ⟨f1, f2⟩ := h.1.err (v := v) (M' := M') H1 (fun y hy S => by subst hy; exact ln0_278 S (by rw [(h.1.fail H1).1.fr (by simp [fP]), h8]; exact ht) H)
    exact ⟨f1.ln, f2⟩
theorem en1_ok {e : Nat} {v : Option Value} {a i m nu : Int32} {fr : Nat} {c5 c6 : Option Value} (ht : gNth sT t = some 28) (h : MID B n t M s ls (1, m, nu, fr, 0)) (hl : ls.length < 16) (hi : i.toInt = (ls.length : Int)) (H : (zI M 3 7 = 59 ∧ ∃ e1 v1 M1, e = e1 + 1 ∧ Ev none e1 31 0 [some (.ref 3)] [] M v1 M1 0 0 ∧ Ev none e 33 283 [some (.ref 3), some (.int a), some (.int 1), some (.int i), some (.int 1), c5, c6] (v1.toList ++ []) M1 v M' 0 0) ∨ (¬ (zI M 3 7 = 59) ∧ ∃ e1 v1 M1, e = e1 + 1 ∧ Ev none e1 27 0 [some (.ref 3), some (.int 1)] [] M v1 M1 0 0 ∧ Ev none e 33 278 [some (.ref 3), some (.int a), some (.int 1), some (.int i), some (.int 1), c5, c6] (v1.toList ++ []) M1 v M' 0 0)) : FA (fLq t) (wLn t) M M' ∧ LNr B n t M' v (endB s ls 1 m nu fr) := by
  have c5' := h.1.2.2.1.at.2.2.2.2.1
  have h8 := h.1.2.2.2.2.2.1
  unfold endB
  rcases H with ⟨g1, e1, v1, M1, rfl, H1, H⟩ | ⟨g1, e1, v1, M1, rfl, H1, H⟩
  · rw [c5'] at g1
    rw [if_neg (fun q => q g1)]
    obtain ⟨rfl, F1, Q1⟩ := h.go ht (by rw [g1]; decide) (by rw [g1]; decide) H1
    have h9 : fR M1 3 8 = t := Q1.1.2.2.2.2.2.1
    obtain ⟨-, r1, r2⟩ := ln1_283 Q1.1.1 (by rw [h9]; exact ht) H
    obtain ⟨F2, R2⟩ := fin_ok ht Q1 hl hi r1 r2
    exact ⟨F1.trans F2, R2⟩
  · rw [c5'] at g1
    rw [if_pos g1]
    obtain ⟨f1, f2⟩ := h.1.err (v := v) (M' := M') H1 (fun y hy S => by subst hy; exact ln1_278 S (by rw [(h.1.fail H1).1.fr (by simp [fP]), h8]; exact ht) H)
    exact ⟨f1.ln, f2⟩
theorem en2_ok {e : Nat} {v : Option Value} {a i m nu : Int32} {fr : Nat} {c5 c6 : Option Value} (ht : gNth sT t = some 28) (h : MID B n t M s ls (2, m, nu, fr, 0)) (hl : ls.length < 16) (hi : i.toInt = (ls.length : Int)) (H : (zI M 3 7 = 59 ∧ ∃ e1 v1 M1, e = e1 + 1 ∧ Ev none e1 31 0 [some (.ref 3)] [] M v1 M1 0 0 ∧ Ev none e 33 283 [some (.ref 3), some (.int a), some (.int 2), some (.int i), some (.int 1), c5, c6] (v1.toList ++ []) M1 v M' 0 0) ∨ (¬ (zI M 3 7 = 59) ∧ ∃ e1 v1 M1, e = e1 + 1 ∧ Ev none e1 27 0 [some (.ref 3), some (.int 1)] [] M v1 M1 0 0 ∧ Ev none e 33 278 [some (.ref 3), some (.int a), some (.int 2), some (.int i), some (.int 1), c5, c6] (v1.toList ++ []) M1 v M' 0 0)) : FA (fLq t) (wLn t) M M' ∧ LNr B n t M' v (endB s ls 2 m nu fr) := by
  have c5' := h.1.2.2.1.at.2.2.2.2.1
  have h8 := h.1.2.2.2.2.2.1
  unfold endB
  rcases H with ⟨g1, e1, v1, M1, rfl, H1, H⟩ | ⟨g1, e1, v1, M1, rfl, H1, H⟩
  · rw [c5'] at g1
    rw [if_neg (fun q => q g1)]
    obtain ⟨rfl, F1, Q1⟩ := h.go ht (by rw [g1]; decide) (by rw [g1]; decide) H1
    have h9 : fR M1 3 8 = t := Q1.1.2.2.2.2.2.1
    obtain ⟨-, r1, r2⟩ := ln2_283 Q1.1.1 (by rw [h9]; exact ht) H
    obtain ⟨F2, R2⟩ := fin_ok ht Q1 hl hi r1 r2
    exact ⟨F1.trans F2, R2⟩
  · rw [c5'] at g1
    rw [if_pos g1]
    obtain ⟨f1, f2⟩ := h.1.err (v := v) (M' := M') H1 (fun y hy S => by subst hy; exact ln2_278 S (by rw [(h.1.fail H1).1.fr (by simp [fP]), h8]; exact ht) H)
    exact ⟨f1.ln, f2⟩
theorem en3_ok {e : Nat} {v : Option Value} {a i m nu : Int32} {fr : Nat} {c5 c6 : Option Value} (ht : gNth sT t = some 28) (h : MID B n t M s ls (3, m, nu, fr, 0)) (hl : ls.length < 16) (hi : i.toInt = (ls.length : Int)) (H : (zI M 3 7 = 59 ∧ ∃ e1 v1 M1, e = e1 + 1 ∧ Ev none e1 31 0 [some (.ref 3)] [] M v1 M1 0 0 ∧ Ev none e 33 283 [some (.ref 3), some (.int a), some (.int 3), some (.int i), some (.int 1), c5, c6] (v1.toList ++ []) M1 v M' 0 0) ∨ (¬ (zI M 3 7 = 59) ∧ ∃ e1 v1 M1, e = e1 + 1 ∧ Ev none e1 27 0 [some (.ref 3), some (.int 1)] [] M v1 M1 0 0 ∧ Ev none e 33 278 [some (.ref 3), some (.int a), some (.int 3), some (.int i), some (.int 1), c5, c6] (v1.toList ++ []) M1 v M' 0 0)) : FA (fLq t) (wLn t) M M' ∧ LNr B n t M' v (endB s ls 3 m nu fr) := by
  have c5' := h.1.2.2.1.at.2.2.2.2.1
  have h8 := h.1.2.2.2.2.2.1
  unfold endB
  rcases H with ⟨g1, e1, v1, M1, rfl, H1, H⟩ | ⟨g1, e1, v1, M1, rfl, H1, H⟩
  · rw [c5'] at g1
    rw [if_neg (fun q => q g1)]
    obtain ⟨rfl, F1, Q1⟩ := h.go ht (by rw [g1]; decide) (by rw [g1]; decide) H1
    have h9 : fR M1 3 8 = t := Q1.1.2.2.2.2.2.1
    obtain ⟨-, r1, r2⟩ := ln3_283 Q1.1.1 (by rw [h9]; exact ht) H
    obtain ⟨F2, R2⟩ := fin_ok ht Q1 hl hi r1 r2
    exact ⟨F1.trans F2, R2⟩
  · rw [c5'] at g1
    rw [if_pos g1]
    obtain ⟨f1, f2⟩ := h.1.err (v := v) (M' := M') H1 (fun y hy S => by subst hy; exact ln3_278 S (by rw [(h.1.fail H1).1.fr (by simp [fP]), h8]; exact ht) H)
    exact ⟨f1.ln, f2⟩
theorem en4_ok {e : Nat} {v : Option Value} {a i m nu : Int32} {fr : Nat} {c5 c6 : Option Value} (ht : gNth sT t = some 28) (h : MID B n t M s ls (4, m, nu, fr, 0)) (hl : ls.length < 16) (hi : i.toInt = (ls.length : Int)) (H : (zI M 3 7 = 59 ∧ ∃ e1 v1 M1, e = e1 + 1 ∧ Ev none e1 31 0 [some (.ref 3)] [] M v1 M1 0 0 ∧ Ev none e 33 283 [some (.ref 3), some (.int a), some (.int 4), some (.int i), some (.int 1), c5, c6] (v1.toList ++ []) M1 v M' 0 0) ∨ (¬ (zI M 3 7 = 59) ∧ ∃ e1 v1 M1, e = e1 + 1 ∧ Ev none e1 27 0 [some (.ref 3), some (.int 1)] [] M v1 M1 0 0 ∧ Ev none e 33 278 [some (.ref 3), some (.int a), some (.int 4), some (.int i), some (.int 1), c5, c6] (v1.toList ++ []) M1 v M' 0 0)) : FA (fLq t) (wLn t) M M' ∧ LNr B n t M' v (endB s ls 4 m nu fr) := by
  have c5' := h.1.2.2.1.at.2.2.2.2.1
  have h8 := h.1.2.2.2.2.2.1
  unfold endB
  rcases H with ⟨g1, e1, v1, M1, rfl, H1, H⟩ | ⟨g1, e1, v1, M1, rfl, H1, H⟩
  · rw [c5'] at g1
    rw [if_neg (fun q => q g1)]
    obtain ⟨rfl, F1, Q1⟩ := h.go ht (by rw [g1]; decide) (by rw [g1]; decide) H1
    have h9 : fR M1 3 8 = t := Q1.1.2.2.2.2.2.1
    obtain ⟨-, r1, r2⟩ := ln4_283 Q1.1.1 (by rw [h9]; exact ht) H
    obtain ⟨F2, R2⟩ := fin_ok ht Q1 hl hi r1 r2
    exact ⟨F1.trans F2, R2⟩
  · rw [c5'] at g1
    rw [if_pos g1]
    obtain ⟨f1, f2⟩ := h.1.err (v := v) (M' := M') H1 (fun y hy S => by subst hy; exact ln4_278 S (by rw [(h.1.fail H1).1.fr (by simp [fP]), h8]; exact ht) H)
    exact ⟨f1.ln, f2⟩
theorem en5_ok {e : Nat} {v : Option Value} {a i m nu : Int32} {fr : Nat} {c5 c6 : Option Value} (ht : gNth sT t = some 28) (h : MID B n t M s ls (5, m, nu, fr, 0)) (hl : ls.length < 16) (hi : i.toInt = (ls.length : Int)) (H : (zI M 3 7 = 59 ∧ ∃ e1 v1 M1, e = e1 + 1 ∧ Ev none e1 31 0 [some (.ref 3)] [] M v1 M1 0 0 ∧ Ev none e 33 283 [some (.ref 3), some (.int a), some (.int 5), some (.int i), some (.int 1), c5, c6] (v1.toList ++ []) M1 v M' 0 0) ∨ (¬ (zI M 3 7 = 59) ∧ ∃ e1 v1 M1, e = e1 + 1 ∧ Ev none e1 27 0 [some (.ref 3), some (.int 1)] [] M v1 M1 0 0 ∧ Ev none e 33 278 [some (.ref 3), some (.int a), some (.int 5), some (.int i), some (.int 1), c5, c6] (v1.toList ++ []) M1 v M' 0 0)) : FA (fLq t) (wLn t) M M' ∧ LNr B n t M' v (endB s ls 5 m nu fr) := by
  have c5' := h.1.2.2.1.at.2.2.2.2.1
  have h8 := h.1.2.2.2.2.2.1
  unfold endB
  rcases H with ⟨g1, e1, v1, M1, rfl, H1, H⟩ | ⟨g1, e1, v1, M1, rfl, H1, H⟩
  · rw [c5'] at g1
    rw [if_neg (fun q => q g1)]
    obtain ⟨rfl, F1, Q1⟩ := h.go ht (by rw [g1]; decide) (by rw [g1]; decide) H1
    have h9 : fR M1 3 8 = t := Q1.1.2.2.2.2.2.1
    obtain ⟨-, r1, r2⟩ := ln5_283 Q1.1.1 (by rw [h9]; exact ht) H
    obtain ⟨F2, R2⟩ := fin_ok ht Q1 hl hi r1 r2
    exact ⟨F1.trans F2, R2⟩
  · rw [c5'] at g1
    rw [if_pos g1]
    obtain ⟨f1, f2⟩ := h.1.err (v := v) (M' := M') H1 (fun y hy S => by subst hy; exact ln5_278 S (by rw [(h.1.fail H1).1.fr (by simp [fP]), h8]; exact ht) H)
    exact ⟨f1.ln, f2⟩
theorem en6_ok {e : Nat} {v : Option Value} {a i m nu : Int32} {fr : Nat} {c5 c6 : Option Value} (ht : gNth sT t = some 28) (h : MID B n t M s ls (6, m, nu, fr, 0)) (hl : ls.length < 16) (hi : i.toInt = (ls.length : Int)) (H : (zI M 3 7 = 59 ∧ ∃ e1 v1 M1, e = e1 + 1 ∧ Ev none e1 31 0 [some (.ref 3)] [] M v1 M1 0 0 ∧ Ev none e 33 283 [some (.ref 3), some (.int a), some (.int 6), some (.int i), some (.int 1), c5, c6] (v1.toList ++ []) M1 v M' 0 0) ∨ (¬ (zI M 3 7 = 59) ∧ ∃ e1 v1 M1, e = e1 + 1 ∧ Ev none e1 27 0 [some (.ref 3), some (.int 1)] [] M v1 M1 0 0 ∧ Ev none e 33 278 [some (.ref 3), some (.int a), some (.int 6), some (.int i), some (.int 1), c5, c6] (v1.toList ++ []) M1 v M' 0 0)) : FA (fLq t) (wLn t) M M' ∧ LNr B n t M' v (endB s ls 6 m nu fr) := by
  have c5' := h.1.2.2.1.at.2.2.2.2.1
  have h8 := h.1.2.2.2.2.2.1
  unfold endB
  rcases H with ⟨g1, e1, v1, M1, rfl, H1, H⟩ | ⟨g1, e1, v1, M1, rfl, H1, H⟩
  · rw [c5'] at g1
    rw [if_neg (fun q => q g1)]
    obtain ⟨rfl, F1, Q1⟩ := h.go ht (by rw [g1]; decide) (by rw [g1]; decide) H1
    have h9 : fR M1 3 8 = t := Q1.1.2.2.2.2.2.1
    obtain ⟨-, r1, r2⟩ := ln6_283 Q1.1.1 (by rw [h9]; exact ht) H
    obtain ⟨F2, R2⟩ := fin_ok ht Q1 hl hi r1 r2
    exact ⟨F1.trans F2, R2⟩
  · rw [c5'] at g1
    rw [if_pos g1]
    obtain ⟨f1, f2⟩ := h.1.err (v := v) (M' := M') H1 (fun y hy S => by subst hy; exact ln6_278 S (by rw [(h.1.fail H1).1.fr (by simp [fP]), h8]; exact ht) H)
    exact ⟨f1.ln, f2⟩
theorem en7_ok {e : Nat} {v : Option Value} {a i m nu : Int32} {fr : Nat} {c5 c6 : Option Value} (ht : gNth sT t = some 28) (h : MID B n t M s ls (7, m, nu, fr, 0)) (hl : ls.length < 16) (hi : i.toInt = (ls.length : Int)) (H : (zI M 3 7 = 59 ∧ ∃ e1 v1 M1, e = e1 + 1 ∧ Ev none e1 31 0 [some (.ref 3)] [] M v1 M1 0 0 ∧ Ev none e 33 283 [some (.ref 3), some (.int a), some (.int 7), some (.int i), some (.int 1), c5, c6] (v1.toList ++ []) M1 v M' 0 0) ∨ (¬ (zI M 3 7 = 59) ∧ ∃ e1 v1 M1, e = e1 + 1 ∧ Ev none e1 27 0 [some (.ref 3), some (.int 1)] [] M v1 M1 0 0 ∧ Ev none e 33 278 [some (.ref 3), some (.int a), some (.int 7), some (.int i), some (.int 1), c5, c6] (v1.toList ++ []) M1 v M' 0 0)) : FA (fLq t) (wLn t) M M' ∧ LNr B n t M' v (endB s ls 7 m nu fr) := by
  have c5' := h.1.2.2.1.at.2.2.2.2.1
  have h8 := h.1.2.2.2.2.2.1
  unfold endB
  rcases H with ⟨g1, e1, v1, M1, rfl, H1, H⟩ | ⟨g1, e1, v1, M1, rfl, H1, H⟩
  · rw [c5'] at g1
    rw [if_neg (fun q => q g1)]
    obtain ⟨rfl, F1, Q1⟩ := h.go ht (by rw [g1]; decide) (by rw [g1]; decide) H1
    have h9 : fR M1 3 8 = t := Q1.1.2.2.2.2.2.1
    obtain ⟨-, r1, r2⟩ := ln7_283 Q1.1.1 (by rw [h9]; exact ht) H
    obtain ⟨F2, R2⟩ := fin_ok ht Q1 hl hi r1 r2
    exact ⟨F1.trans F2, R2⟩
  · rw [c5'] at g1
    rw [if_pos g1]
    obtain ⟨f1, f2⟩ := h.1.err (v := v) (M' := M') H1 (fun y hy S => by subst hy; exact ln7_278 S (by rw [(h.1.fail H1).1.fr (by simp [fP]), h8]; exact ht) H)
    exact ⟨f1.ln, f2⟩
end LIN
/-! THE CLASS'S LINES, whole (made by glin3.py) -/
section LIX
variable {n t : Nat} {B : Nat → Int32} {M M' : Mem} {s : Sg} {ls : List Lnq}
theorem PRE.mid6 {fr : Nat} (h : PRE B n t M s ls 6 0 fr) : MID B n t M s ls (6, 0, 0, fr, 0) := by
  obtain ⟨hC, hL, hE, hF, _⟩ := h
  refine ⟨hC, hL, hE, ?_, ?_, ?_, ?_, ?_⟩
  · rw [tv_app2 (by exact (by decide : (6 : Int32) ≠ 2))]; exact hF.1
  · rw [tv_app2 (by exact (by decide : (6 : Int32) ≠ 3))]; exact hF.2.1
  · rw [tv_app2 (by exact (by decide : (6 : Int32) ≠ 4))]; exact hF.2.2.1
  · rw [tv_app2 (by exact (by decide : (6 : Int32) ≠ 7))]; exact hF.2.2.2.1
  · rw [tdS_app]
    exact (hF.2.2.2.2.trans (Int32.or_zero).symm).trans (tdk6 _ _ _ _).symm
theorem LNr.err {v : Option Value} {f : Int32 × Nat} (h : ERt M' v f) : LNr B n t M' v (.inr f) := h
theorem li0_ok {e : Nat} {v : Option Value} {a : Int32} (ht : gNth sT t = some 28) (hn2 : n ≤ 440) (hCL : CL B n t M s ls) (hw : (hdT s.1).1 = 2) (H : Ev none (e + 1) 33 44 [some (.ref 3), some (.int a), some (.int 0), none, none, none, none] [] M v M' 0 0) : FA (fLq t) (wLn t) M M' ∧ LNr B n t M' v (if 16 ≤ ls.length ∨ (onceB 0 = true ∧ hasK ls 0 = true) then .inr (3, (hdT s.1).2.1) else bodB B ((prS B e).1 1) (s.1.tail, s.2.1, s.2.2) ls 0) := by
  obtain ⟨hC, hL, hF⟩ := hCL
  have hb := tx_ge ht
  have h8 := hC.2.2.2.2.2.1
  have hcs := hC.2.2.2.2.2.2.1.1
  subst h8
  have hix : (zI M (fR M 3 8) 8).toNatClampNeg = ls.length := cl_n hL.1
  have o16 : (16 : Int32).toInt = 16 := rfl
  have h16 : (16 ≤ zI M (fR M 3 8) 8) ↔ 16 ≤ ls.length := by rw [Int32.le_iff_toInt_le, hL.1]; omega
  have bits := td_bits (hasK ls 2) (hasK ls 3) (hasK ls 4) (hasK ls 7)
  have htd : zI M 3 10 = tdB (hasK ls 2) (hasK ls 3) (hasK ls 4) (hasK ls 7) := hF.2.2.2.2
  rcases ln0_44 hC.1 ht H with ⟨g1, e1, v1, M1, he, H1, H⟩ | ⟨g1, g2, -, -, -, -, -, e1, v1, M1, he, H1, H⟩ | ⟨g1, g2, e1, v1, M1, he, H1, H⟩
  · rw [if_pos (Or.inl (h16.mp g1))]
    obtain ⟨f1, f2⟩ := hC.err (v := v) (M' := M') H1 (fun y hy S => by subst hy; exact ln0_72 S (by rw [(hC.fail H1).1.fr (by simp [fP])]; exact ht) H)
    exact ⟨f1.ln, f2⟩
  rotate_left
  · rw [htd] at g2
    exact absurd bits.2.2.2.2.1 g2
  have hno : ¬ (16 ≤ ls.length ∨ (onceB 0 = true ∧ hasK ls 0 = true)) := fun q => q.elim (fun x => g1 (h16.mpr x)) (fun x => absurd x.1 (by decide))
  have hl16 : ls.length < 16 := by
    by_cases q : 16 ≤ ls.length
    · exact absurd (Or.inl q) hno
    · omega
  rw [if_neg hno]
  cases he
  rw [hix] at H1
  have s1 : SQ (wI M (fR M 3 8 + 1) ls.length 0) := hC.1.ki
  have F1 : FA [] [fR M 3 8 + 1, fR M 3 8 + 2, fR M 3 8 + 3, fR M 3 8 + 4, fR M 3 8 + 5] M (wI (wI (wI (wI (wI M (fR M 3 8 + 1) ls.length 0) (fR M 3 8 + 2) ls.length 0) (fR M 3 8 + 3) ls.length 0) (fR M 3 8 + 4) ls.length (zI M (fR M 3 8) 9)) (fR M 3 8 + 5) ls.length (zI M (fR M 3 8) 9)) := ((((FA.wI (by simp)).trans (FA.wI (by simp))).trans (FA.wI (by simp))).trans (FA.wI (by simp))).trans (FA.wI (by simp))
  have S5 : SQ (wI (wI (wI (wI (wI M (fR M 3 8 + 1) ls.length 0) (fR M 3 8 + 2) ls.length 0) (fR M 3 8 + 3) ls.length 0) (fR M 3 8 + 4) ls.length (zI M (fR M 3 8) 9)) (fR M 3 8 + 5) ls.length (zI M (fR M 3 8) 9)) := hC.1.ki.ki.ki.ki.ki
  have C5 : CSt B n (fR M 3 8) (wI (wI (wI (wI (wI M (fR M 3 8 + 1) ls.length 0) (fR M 3 8 + 2) ls.length 0) (fR M 3 8 + 3) ls.length 0) (fR M 3 8 + 4) ls.length (zI M (fR M 3 8) 9)) (fR M 3 8 + 5) ls.length (zI M (fR M 3 8) 9)) s := hC.frm S5 F1 (fun q _ r => by cases r) (fun b hb r => by
    simp only [List.mem_cons, List.not_mem_nil, or_false] at hb r
    omega)
  have E5 : ENq (wI (wI (wI (wI (wI M (fR M 3 8 + 1) ls.length 0) (fR M 3 8 + 2) ls.length 0) (fR M 3 8 + 3) ls.length 0) (fR M 3 8 + 4) ls.length (zI M (fR M 3 8) 9)) (fR M 3 8 + 5) ls.length (zI M (fR M 3 8) 9)) (fR M 3 8) ls.length 0 0 0 s.2.2.length := by
    refine ⟨?_, ?_, ?_, ?_⟩
    · rw [rN_wI_ne (fun q => by omega), rN_wI_ne (fun q => by omega), rN_wI_ne (fun q => by omega), rN_wI_ne (fun q => by omega), rN_wI_eq (by rw [(hC.1.1.row (fx_g0 ht) qw_29).2]; exact hl16)]
    · rw [rN_wI_ne (fun q => by omega), rN_wI_ne (fun q => by omega), rN_wI_ne (fun q => by omega), rN_wI_eq (by rw [(s1.1.row (fx_g1 ht) qw_30).2]; exact hl16)]
    · rw [rN_wI_ne (fun q => by omega), rN_wI_ne (fun q => by omega), rN_wI_eq (by rw [(s1.ki.1.row (fx_g2 ht) qw_31).2]; exact hl16)]
    · rw [rN_wI_ne (fun q => by omega), rN_wI_eq (by rw [(s1.ki.ki.1.row (fx_g3 ht) qw_32).2]; exact hl16)]
      exact hcs
  obtain ⟨p1, p2, p3, p4⟩ := fP_no hb.1
  obtain ⟨rfl, F2, C2⟩ := C5.go ht (by rw [hw]; decide) (by rw [hw]; decide) H1
  have P2 : PRE B n (fR M 3 8) M1 (s.1.tail, s.2.1, s.2.2) ls 0 0 s.2.2.length := ⟨C2, (hL.ui.ui.ui.ui.ui).frm F2 p2 p3, E5.frm F2 p4, (hF.frm F1 (fun q _ r => by cases r)).frm F2 p1, hl16⟩
  have F12 : FA (fLq (fR M 3 8)) (wLn (fR M 3 8)) M M1 := (F1.more (fun q hq => by cases hq) (fun q hq => by
    simp only [wLn, List.mem_cons, List.not_mem_nil, or_false] at hq ⊢
    rcases hq with h | h | h | h | h <;> simp [h])).trans F2.ln
  have h91 : fR M1 3 8 = fR M 3 8 := F12.fr (by simp [fLq]; omega)
  unfold bodB
  rw [if_neg (by decide : ¬ (0 : Int32) = 6), if_neg (by decide : ¬ (0 : Int32) = 5)]
  obtain ⟨e3, v3, M3, he, H3, H⟩ := ln0_147 C2.1 (by rw [h91]; exact ht) H
  cases he
  obtain ⟨F3, R3⟩ := nu0_ok ht P2 hL.1 H3
  have FX := F12.trans F3
  have h93 : fR M3 3 8 = fR M 3 8 := FX.fr (by simp [fLq]; omega)
  rcases R3 with ⟨q1, q2⟩ | ⟨q1, q2, q3⟩ | ⟨q1, q2, rfl, Q3⟩
  · unfold numB
    rw [if_pos q1]
    obtain ⟨rfl, S9, r9⟩ := q2
    rcases ln0_175 S9 (by rw [h93]; exact ht) H with ⟨_, h3, rfl⟩ | ⟨h3, _⟩
    · exact ⟨FX, h3, S9, r9⟩
    · exact absurd rfl h3
  · unfold numB
    rw [if_neg (fun q => q q1), if_pos q2]
    obtain ⟨rfl, S9, r9⟩ := q3
    rcases ln0_175 S9 (by rw [h93]; exact ht) H with ⟨_, h3, rfl⟩ | ⟨h3, _⟩
    · exact ⟨FX, h3, S9, r9⟩
    · exact absurd rfl h3
  · unfold numB
    rw [if_neg (fun q => q q1), if_neg q2]
    rcases ln0_175 Q3.1.1 (by rw [h93]; exact ht) H with ⟨h3, _⟩ | ⟨_, e4, v4, M4, he, H4, H⟩
    · exact absurd h3 (by decide)
    cases he
    obtain ⟨rfl, rfl⟩ := amq_all (ws := [ifW]) Q3.1.1 hn2 Q3.1.2.2.1 rfl (by decide) (List.cons_ne_nil _ _) (by decide) (by decide) H4
    rw [Q3.1.wd] at H
    have hx : ∀ w : List Int32, ixF w [ifW] 0 = if w = ifW then 0 else -1 := fun w => rfl
    unfold cndB
    rw [if_neg (by decide : ¬ (0 : Int32) = 6)]
    by_cases hw2 : wdS B (hdT ((s.1.tail.tail, s.2.1, s.2.2) : Sg).1) = ifW
    · rw [hx, if_pos (by exact hw2)] at H
      rw [if_pos ⟨by decide, hw2⟩]
      have h2t := wd_ne hw2 (by decide)
      rcases ln0_224 Q3.1.1 (by rw [h93]; exact ht) H with ⟨_, e5, v5, M5, he, H5, H⟩ | ⟨h3, _⟩ | ⟨h3, _⟩
      rotate_left
      · exact absurd rfl h3
      · exact absurd rfl h3
      obtain ⟨rfl, F5, Q5⟩ := Q3.go ht (by rw [show (hdT ((s.1.tail.tail, s.2.1, s.2.2) : Sg).1).1 = 2 from h2t]; decide) (by rw [show (hdT ((s.1.tail.tail, s.2.1, s.2.2) : Sg).1).1 = 2 from h2t]; decide) H5
      have h95 : fR M5 3 8 = fR M 3 8 := Q5.1.2.2.2.2.2.1
      obtain ⟨e6, v6, M6, he, H6, H⟩ := ln0_243 Q5.1.1 (by rw [h95]; exact ht) H
      cases he
      obtain ⟨F6, R6⟩ := Q5.con ht hn2 H6
      have FY := (FX.trans F5).trans F6
      have h96 : fR M6 3 8 = fR M 3 8 := FY.fr (by simp [fLq]; omega)
      cases hr : (prS B e).1 1 (((s.1.tail.tail, s.2.1, s.2.2) : Sg).1.tail, ((s.1.tail.tail, s.2.1, s.2.2) : Sg).2.1, ((s.1.tail.tail, s.2.1, s.2.2) : Sg).2.2) with
      | inr f =>
        rw [hr] at R6
        obtain ⟨rfl, S9, r9⟩ := R6
        rcases ln0_259 S9 (by rw [h96]; exact ht) H with ⟨_, h3, rfl⟩ | ⟨h3, _⟩ | ⟨h3, _⟩
        · exact ⟨FY, h3, S9, r9⟩
        · exact absurd rfl h3
        · exact absurd rfl h3
      | inl s2 =>
        rw [hr] at R6
        obtain ⟨rfl, Q6⟩ := R6
        rcases ln0_259 Q6.1.1 (by rw [h96]; exact ht) H with ⟨h3, _⟩ | ⟨_, g4, g5⟩ | ⟨_, g4, g5⟩
        · exact absurd h3 (by decide)
        · obtain ⟨f7, r7⟩ := en0_ok ht Q6 hl16 hL.1 (Or.inl ⟨g4, g5⟩)
          exact ⟨FY.trans f7, r7⟩
        · obtain ⟨f7, r7⟩ := en0_ok ht Q6 hl16 hL.1 (Or.inr ⟨g4, g5⟩)
          exact ⟨FY.trans f7, r7⟩
    · rw [hx, if_neg (by exact hw2)] at H
      rw [if_neg (fun q => hw2 q.2)]
      rcases ln0_224 Q3.1.1 (by rw [h93]; exact ht) H with ⟨h3, _⟩ | ⟨_, g4, g5⟩ | ⟨_, g4, g5⟩
      · exact absurd h3 (by decide)
      · obtain ⟨f7, r7⟩ := en0_ok ht Q3 hl16 hL.1 (Or.inl ⟨g4, g5⟩)
        exact ⟨FX.trans f7, r7⟩
      · obtain ⟨f7, r7⟩ := en0_ok ht Q3 hl16 hL.1 (Or.inr ⟨g4, g5⟩)
        exact ⟨FX.trans f7, r7⟩
theorem li1_ok {e : Nat} {v : Option Value} {a : Int32} (ht : gNth sT t = some 28) (hn2 : n ≤ 440) (hCL : CL B n t M s ls) (hw : (hdT s.1).1 = 2) (H : Ev none (e + 1) 33 44 [some (.ref 3), some (.int a), some (.int 1), none, none, none, none] [] M v M' 0 0) : FA (fLq t) (wLn t) M M' ∧ LNr B n t M' v (if 16 ≤ ls.length ∨ (onceB 1 = true ∧ hasK ls 1 = true) then .inr (3, (hdT s.1).2.1) else bodB B ((prS B e).1 1) (s.1.tail, s.2.1, s.2.2) ls 1) := by
  obtain ⟨hC, hL, hF⟩ := hCL
  have hb := tx_ge ht
  have h8 := hC.2.2.2.2.2.1
  have hcs := hC.2.2.2.2.2.2.1.1
  subst h8
  have hix : (zI M (fR M 3 8) 8).toNatClampNeg = ls.length := cl_n hL.1
  have o16 : (16 : Int32).toInt = 16 := rfl
  have h16 : (16 ≤ zI M (fR M 3 8) 8) ↔ 16 ≤ ls.length := by rw [Int32.le_iff_toInt_le, hL.1]; omega
  have bits := td_bits (hasK ls 2) (hasK ls 3) (hasK ls 4) (hasK ls 7)
  have htd : zI M 3 10 = tdB (hasK ls 2) (hasK ls 3) (hasK ls 4) (hasK ls 7) := hF.2.2.2.2
  rcases ln1_44 hC.1 ht H with ⟨g1, e1, v1, M1, he, H1, H⟩ | ⟨g1, g2, -, -, -, -, -, e1, v1, M1, he, H1, H⟩ | ⟨g1, g2, e1, v1, M1, he, H1, H⟩
  · rw [if_pos (Or.inl (h16.mp g1))]
    obtain ⟨f1, f2⟩ := hC.err (v := v) (M' := M') H1 (fun y hy S => by subst hy; exact ln1_72 S (by rw [(hC.fail H1).1.fr (by simp [fP])]; exact ht) H)
    exact ⟨f1.ln, f2⟩
  rotate_left
  · rw [htd] at g2
    exact absurd bits.2.2.2.2.2.1 g2
  have hno : ¬ (16 ≤ ls.length ∨ (onceB 1 = true ∧ hasK ls 1 = true)) := fun q => q.elim (fun x => g1 (h16.mpr x)) (fun x => absurd x.1 (by decide))
  have hl16 : ls.length < 16 := by
    by_cases q : 16 ≤ ls.length
    · exact absurd (Or.inl q) hno
    · omega
  rw [if_neg hno]
  cases he
  rw [hix] at H1
  have s1 : SQ (wI M (fR M 3 8 + 1) ls.length 1) := hC.1.ki
  have F1 : FA [] [fR M 3 8 + 1, fR M 3 8 + 2, fR M 3 8 + 3, fR M 3 8 + 4, fR M 3 8 + 5] M (wI (wI (wI (wI (wI M (fR M 3 8 + 1) ls.length 1) (fR M 3 8 + 2) ls.length 0) (fR M 3 8 + 3) ls.length 0) (fR M 3 8 + 4) ls.length (zI M (fR M 3 8) 9)) (fR M 3 8 + 5) ls.length (zI M (fR M 3 8) 9)) := ((((FA.wI (by simp)).trans (FA.wI (by simp))).trans (FA.wI (by simp))).trans (FA.wI (by simp))).trans (FA.wI (by simp))
  have S5 : SQ (wI (wI (wI (wI (wI M (fR M 3 8 + 1) ls.length 1) (fR M 3 8 + 2) ls.length 0) (fR M 3 8 + 3) ls.length 0) (fR M 3 8 + 4) ls.length (zI M (fR M 3 8) 9)) (fR M 3 8 + 5) ls.length (zI M (fR M 3 8) 9)) := hC.1.ki.ki.ki.ki.ki
  have C5 : CSt B n (fR M 3 8) (wI (wI (wI (wI (wI M (fR M 3 8 + 1) ls.length 1) (fR M 3 8 + 2) ls.length 0) (fR M 3 8 + 3) ls.length 0) (fR M 3 8 + 4) ls.length (zI M (fR M 3 8) 9)) (fR M 3 8 + 5) ls.length (zI M (fR M 3 8) 9)) s := hC.frm S5 F1 (fun q _ r => by cases r) (fun b hb r => by
    simp only [List.mem_cons, List.not_mem_nil, or_false] at hb r
    omega)
  have E5 : ENq (wI (wI (wI (wI (wI M (fR M 3 8 + 1) ls.length 1) (fR M 3 8 + 2) ls.length 0) (fR M 3 8 + 3) ls.length 0) (fR M 3 8 + 4) ls.length (zI M (fR M 3 8) 9)) (fR M 3 8 + 5) ls.length (zI M (fR M 3 8) 9)) (fR M 3 8) ls.length 1 0 0 s.2.2.length := by
    refine ⟨?_, ?_, ?_, ?_⟩
    · rw [rN_wI_ne (fun q => by omega), rN_wI_ne (fun q => by omega), rN_wI_ne (fun q => by omega), rN_wI_ne (fun q => by omega), rN_wI_eq (by rw [(hC.1.1.row (fx_g0 ht) qw_29).2]; exact hl16)]
    · rw [rN_wI_ne (fun q => by omega), rN_wI_ne (fun q => by omega), rN_wI_ne (fun q => by omega), rN_wI_eq (by rw [(s1.1.row (fx_g1 ht) qw_30).2]; exact hl16)]
    · rw [rN_wI_ne (fun q => by omega), rN_wI_ne (fun q => by omega), rN_wI_eq (by rw [(s1.ki.1.row (fx_g2 ht) qw_31).2]; exact hl16)]
    · rw [rN_wI_ne (fun q => by omega), rN_wI_eq (by rw [(s1.ki.ki.1.row (fx_g3 ht) qw_32).2]; exact hl16)]
      exact hcs
  obtain ⟨p1, p2, p3, p4⟩ := fP_no hb.1
  obtain ⟨rfl, F2, C2⟩ := C5.go ht (by rw [hw]; decide) (by rw [hw]; decide) H1
  have P2 : PRE B n (fR M 3 8) M1 (s.1.tail, s.2.1, s.2.2) ls 1 0 s.2.2.length := ⟨C2, (hL.ui.ui.ui.ui.ui).frm F2 p2 p3, E5.frm F2 p4, (hF.frm F1 (fun q _ r => by cases r)).frm F2 p1, hl16⟩
  have F12 : FA (fLq (fR M 3 8)) (wLn (fR M 3 8)) M M1 := (F1.more (fun q hq => by cases hq) (fun q hq => by
    simp only [wLn, List.mem_cons, List.not_mem_nil, or_false] at hq ⊢
    rcases hq with h | h | h | h | h <;> simp [h])).trans F2.ln
  have h91 : fR M1 3 8 = fR M 3 8 := F12.fr (by simp [fLq]; omega)
  unfold bodB
  rw [if_neg (by decide : ¬ (1 : Int32) = 6), if_neg (by decide : ¬ (1 : Int32) = 5)]
  obtain ⟨e3, v3, M3, he, H3, H⟩ := ln1_147 C2.1 (by rw [h91]; exact ht) H
  cases he
  obtain ⟨F3, R3⟩ := nu1_ok ht P2 hL.1 H3
  have FX := F12.trans F3
  have h93 : fR M3 3 8 = fR M 3 8 := FX.fr (by simp [fLq]; omega)
  rcases R3 with ⟨q1, q2⟩ | ⟨q1, q2, q3⟩ | ⟨q1, q2, rfl, Q3⟩
  · unfold numB
    rw [if_pos q1]
    obtain ⟨rfl, S9, r9⟩ := q2
    rcases ln1_175 S9 (by rw [h93]; exact ht) H with ⟨_, h3, rfl⟩ | ⟨h3, _⟩
    · exact ⟨FX, h3, S9, r9⟩
    · exact absurd rfl h3
  · unfold numB
    rw [if_neg (fun q => q q1), if_pos q2]
    obtain ⟨rfl, S9, r9⟩ := q3
    rcases ln1_175 S9 (by rw [h93]; exact ht) H with ⟨_, h3, rfl⟩ | ⟨h3, _⟩
    · exact ⟨FX, h3, S9, r9⟩
    · exact absurd rfl h3
  · unfold numB
    rw [if_neg (fun q => q q1), if_neg q2]
    rcases ln1_175 Q3.1.1 (by rw [h93]; exact ht) H with ⟨h3, _⟩ | ⟨_, e4, v4, M4, he, H4, H⟩
    · exact absurd h3 (by decide)
    cases he
    obtain ⟨rfl, rfl⟩ := amq_all (ws := [ifW]) Q3.1.1 hn2 Q3.1.2.2.1 rfl (by decide) (List.cons_ne_nil _ _) (by decide) (by decide) H4
    rw [Q3.1.wd] at H
    have hx : ∀ w : List Int32, ixF w [ifW] 0 = if w = ifW then 0 else -1 := fun w => rfl
    unfold cndB
    rw [if_neg (by decide : ¬ (1 : Int32) = 6)]
    by_cases hw2 : wdS B (hdT ((s.1.tail.tail, s.2.1, s.2.2) : Sg).1) = ifW
    · rw [hx, if_pos (by exact hw2)] at H
      rw [if_pos ⟨by decide, hw2⟩]
      have h2t := wd_ne hw2 (by decide)
      rcases ln1_224 Q3.1.1 (by rw [h93]; exact ht) H with ⟨_, e5, v5, M5, he, H5, H⟩ | ⟨h3, _⟩ | ⟨h3, _⟩
      rotate_left
      · exact absurd rfl h3
      · exact absurd rfl h3
      obtain ⟨rfl, F5, Q5⟩ := Q3.go ht (by rw [show (hdT ((s.1.tail.tail, s.2.1, s.2.2) : Sg).1).1 = 2 from h2t]; decide) (by rw [show (hdT ((s.1.tail.tail, s.2.1, s.2.2) : Sg).1).1 = 2 from h2t]; decide) H5
      have h95 : fR M5 3 8 = fR M 3 8 := Q5.1.2.2.2.2.2.1
      obtain ⟨e6, v6, M6, he, H6, H⟩ := ln1_243 Q5.1.1 (by rw [h95]; exact ht) H
      cases he
      obtain ⟨F6, R6⟩ := Q5.con ht hn2 H6
      have FY := (FX.trans F5).trans F6
      have h96 : fR M6 3 8 = fR M 3 8 := FY.fr (by simp [fLq]; omega)
      cases hr : (prS B e).1 1 (((s.1.tail.tail, s.2.1, s.2.2) : Sg).1.tail, ((s.1.tail.tail, s.2.1, s.2.2) : Sg).2.1, ((s.1.tail.tail, s.2.1, s.2.2) : Sg).2.2) with
      | inr f =>
        rw [hr] at R6
        obtain ⟨rfl, S9, r9⟩ := R6
        rcases ln1_259 S9 (by rw [h96]; exact ht) H with ⟨_, h3, rfl⟩ | ⟨h3, _⟩ | ⟨h3, _⟩
        · exact ⟨FY, h3, S9, r9⟩
        · exact absurd rfl h3
        · exact absurd rfl h3
      | inl s2 =>
        rw [hr] at R6
        obtain ⟨rfl, Q6⟩ := R6
        rcases ln1_259 Q6.1.1 (by rw [h96]; exact ht) H with ⟨h3, _⟩ | ⟨_, g4, g5⟩ | ⟨_, g4, g5⟩
        · exact absurd h3 (by decide)
        · obtain ⟨f7, r7⟩ := en1_ok ht Q6 hl16 hL.1 (Or.inl ⟨g4, g5⟩)
          exact ⟨FY.trans f7, r7⟩
        · obtain ⟨f7, r7⟩ := en1_ok ht Q6 hl16 hL.1 (Or.inr ⟨g4, g5⟩)
          exact ⟨FY.trans f7, r7⟩
    · rw [hx, if_neg (by exact hw2)] at H
      rw [if_neg (fun q => hw2 q.2)]
      rcases ln1_224 Q3.1.1 (by rw [h93]; exact ht) H with ⟨h3, _⟩ | ⟨_, g4, g5⟩ | ⟨_, g4, g5⟩
      · exact absurd h3 (by decide)
      · obtain ⟨f7, r7⟩ := en1_ok ht Q3 hl16 hL.1 (Or.inl ⟨g4, g5⟩)
        exact ⟨FX.trans f7, r7⟩
      · obtain ⟨f7, r7⟩ := en1_ok ht Q3 hl16 hL.1 (Or.inr ⟨g4, g5⟩)
        exact ⟨FX.trans f7, r7⟩
theorem li2_ok {e : Nat} {v : Option Value} {a : Int32} (ht : gNth sT t = some 28) (hn2 : n ≤ 440) (hCL : CL B n t M s ls) (hw : (hdT s.1).1 = 2) (H : Ev none (e + 1) 33 44 [some (.ref 3), some (.int a), some (.int 2), none, none, none, none] [] M v M' 0 0) : FA (fLq t) (wLn t) M M' ∧ LNr B n t M' v (if 16 ≤ ls.length ∨ (onceB 2 = true ∧ hasK ls 2 = true) then .inr (3, (hdT s.1).2.1) else bodB B ((prS B e).1 1) (s.1.tail, s.2.1, s.2.2) ls 2) := by
  obtain ⟨hC, hL, hF⟩ := hCL
  have hb := tx_ge ht
  have h8 := hC.2.2.2.2.2.1
  have hcs := hC.2.2.2.2.2.2.1.1
  subst h8
  have hix : (zI M (fR M 3 8) 8).toNatClampNeg = ls.length := cl_n hL.1
  have o16 : (16 : Int32).toInt = 16 := rfl
  have h16 : (16 ≤ zI M (fR M 3 8) 8) ↔ 16 ≤ ls.length := by rw [Int32.le_iff_toInt_le, hL.1]; omega
  have bits := td_bits (hasK ls 2) (hasK ls 3) (hasK ls 4) (hasK ls 7)
  have htd : zI M 3 10 = tdB (hasK ls 2) (hasK ls 3) (hasK ls 4) (hasK ls 7) := hF.2.2.2.2
  rcases ln2_44 hC.1 ht H with ⟨g1, e1, v1, M1, he, H1, H⟩ | ⟨g1, g2, -, -, -, -, -, e1, v1, M1, he, H1, H⟩ | ⟨g1, g2, e1, v1, M1, he, H1, H⟩
  · rw [if_pos (Or.inl (h16.mp g1))]
    obtain ⟨f1, f2⟩ := hC.err (v := v) (M' := M') H1 (fun y hy S => by subst hy; exact ln2_72 S (by rw [(hC.fail H1).1.fr (by simp [fP])]; exact ht) H)
    exact ⟨f1.ln, f2⟩
  rotate_left
  · rw [htd] at g2
    have hk : hasK ls 2 = true := by
      cases hq : hasK ls 2 with
      | true => rfl
      | false => exact absurd (bits.1.mpr hq) g2
    rw [if_pos (Or.inr ⟨rfl, hk⟩)]
    obtain ⟨f1, f2⟩ := hC.err (v := v) (M' := M') H1 (fun y hy S => by subst hy; exact ln2_72 S (by rw [(hC.fail H1).1.fr (by simp [fP])]; exact ht) H)
    exact ⟨f1.ln, f2⟩
  rw [htd] at g2
  have hk : hasK ls 2 = false := bits.1.mp g2
  have hno : ¬ (16 ≤ ls.length ∨ (onceB 2 = true ∧ hasK ls 2 = true)) := fun q => q.elim (fun x => g1 (h16.mpr x)) (fun x => by rw [hk] at x; exact absurd x.2 (by decide))
  have hl16 : ls.length < 16 := by
    by_cases q : 16 ≤ ls.length
    · exact absurd (Or.inl q) hno
    · omega
  rw [if_neg hno]
  cases he
  rw [hix] at H1
  have s1 : SQ (wI M (fR M 3 8 + 1) ls.length 2) := hC.1.ki
  have F1 : FA [] [fR M 3 8 + 1, fR M 3 8 + 2, fR M 3 8 + 3, fR M 3 8 + 4, fR M 3 8 + 5] M (wI (wI (wI (wI (wI M (fR M 3 8 + 1) ls.length 2) (fR M 3 8 + 2) ls.length 0) (fR M 3 8 + 3) ls.length 0) (fR M 3 8 + 4) ls.length (zI M (fR M 3 8) 9)) (fR M 3 8 + 5) ls.length (zI M (fR M 3 8) 9)) := ((((FA.wI (by simp)).trans (FA.wI (by simp))).trans (FA.wI (by simp))).trans (FA.wI (by simp))).trans (FA.wI (by simp))
  have S5 : SQ (wI (wI (wI (wI (wI M (fR M 3 8 + 1) ls.length 2) (fR M 3 8 + 2) ls.length 0) (fR M 3 8 + 3) ls.length 0) (fR M 3 8 + 4) ls.length (zI M (fR M 3 8) 9)) (fR M 3 8 + 5) ls.length (zI M (fR M 3 8) 9)) := hC.1.ki.ki.ki.ki.ki
  have C5 : CSt B n (fR M 3 8) (wI (wI (wI (wI (wI M (fR M 3 8 + 1) ls.length 2) (fR M 3 8 + 2) ls.length 0) (fR M 3 8 + 3) ls.length 0) (fR M 3 8 + 4) ls.length (zI M (fR M 3 8) 9)) (fR M 3 8 + 5) ls.length (zI M (fR M 3 8) 9)) s := hC.frm S5 F1 (fun q _ r => by cases r) (fun b hb r => by
    simp only [List.mem_cons, List.not_mem_nil, or_false] at hb r
    omega)
  have E5 : ENq (wI (wI (wI (wI (wI M (fR M 3 8 + 1) ls.length 2) (fR M 3 8 + 2) ls.length 0) (fR M 3 8 + 3) ls.length 0) (fR M 3 8 + 4) ls.length (zI M (fR M 3 8) 9)) (fR M 3 8 + 5) ls.length (zI M (fR M 3 8) 9)) (fR M 3 8) ls.length 2 0 0 s.2.2.length := by
    refine ⟨?_, ?_, ?_, ?_⟩
    · rw [rN_wI_ne (fun q => by omega), rN_wI_ne (fun q => by omega), rN_wI_ne (fun q => by omega), rN_wI_ne (fun q => by omega), rN_wI_eq (by rw [(hC.1.1.row (fx_g0 ht) qw_29).2]; exact hl16)]
    · rw [rN_wI_ne (fun q => by omega), rN_wI_ne (fun q => by omega), rN_wI_ne (fun q => by omega), rN_wI_eq (by rw [(s1.1.row (fx_g1 ht) qw_30).2]; exact hl16)]
    · rw [rN_wI_ne (fun q => by omega), rN_wI_ne (fun q => by omega), rN_wI_eq (by rw [(s1.ki.1.row (fx_g2 ht) qw_31).2]; exact hl16)]
    · rw [rN_wI_ne (fun q => by omega), rN_wI_eq (by rw [(s1.ki.ki.1.row (fx_g3 ht) qw_32).2]; exact hl16)]
      exact hcs
  obtain ⟨p1, p2, p3, p4⟩ := fP_no hb.1
  obtain ⟨rfl, F2, C2⟩ := C5.go ht (by rw [hw]; decide) (by rw [hw]; decide) H1
  have P2 : PRE B n (fR M 3 8) M1 (s.1.tail, s.2.1, s.2.2) ls 2 0 s.2.2.length := ⟨C2, (hL.ui.ui.ui.ui.ui).frm F2 p2 p3, E5.frm F2 p4, (hF.frm F1 (fun q _ r => by cases r)).frm F2 p1, hl16⟩
  have F12 : FA (fLq (fR M 3 8)) (wLn (fR M 3 8)) M M1 := (F1.more (fun q hq => by cases hq) (fun q hq => by
    simp only [wLn, List.mem_cons, List.not_mem_nil, or_false] at hq ⊢
    rcases hq with h | h | h | h | h <;> simp [h])).trans F2.ln
  have h91 : fR M1 3 8 = fR M 3 8 := F12.fr (by simp [fLq]; omega)
  unfold bodB
  rw [if_neg (by decide : ¬ (2 : Int32) = 6), if_neg (by decide : ¬ (2 : Int32) = 5)]
  obtain ⟨e3, v3, M3, he, H3, H⟩ := ln2_147 C2.1 (by rw [h91]; exact ht) H
  cases he
  obtain ⟨F3, R3⟩ := nu2_ok ht P2 hL.1 hk H3
  have FX := F12.trans F3
  have h93 : fR M3 3 8 = fR M 3 8 := FX.fr (by simp [fLq]; omega)
  rcases R3 with ⟨q1, q2⟩ | ⟨q1, q2, q3⟩ | ⟨q1, q2, rfl, Q3⟩
  · unfold numB
    rw [if_pos q1]
    obtain ⟨rfl, S9, r9⟩ := q2
    rcases ln2_175 S9 (by rw [h93]; exact ht) H with ⟨_, h3, rfl⟩ | ⟨h3, _⟩ | ⟨h3, _⟩
    · exact ⟨FX, h3, S9, r9⟩
    · exact absurd rfl h3
    · exact absurd rfl h3
  · unfold numB
    rw [if_neg (fun q => q q1), if_pos q2]
    obtain ⟨rfl, S9, r9⟩ := q3
    rcases ln2_175 S9 (by rw [h93]; exact ht) H with ⟨_, h3, rfl⟩ | ⟨h3, _⟩ | ⟨h3, _⟩
    · exact ⟨FX, h3, S9, r9⟩
    · exact absurd rfl h3
    · exact absurd rfl h3
  · unfold numB
    rw [if_neg (fun q => q q1), if_neg q2]
    unfold cndB
    rw [if_neg (by decide : ¬ (2 : Int32) = 6), if_neg (fun q => absurd q.1 (by decide))]
    rcases ln2_175 Q3.1.1 (by rw [h93]; exact ht) H with ⟨h3, _⟩ | ⟨_, g4, g5⟩ | ⟨_, g4, g5⟩
    · exact absurd h3 (by decide)
    · obtain ⟨f7, r7⟩ := en2_ok ht Q3 hl16 hL.1 (Or.inl ⟨g4, g5⟩)
      exact ⟨FX.trans f7, r7⟩
    · obtain ⟨f7, r7⟩ := en2_ok ht Q3 hl16 hL.1 (Or.inr ⟨g4, g5⟩)
      exact ⟨FX.trans f7, r7⟩
theorem li3_ok {e : Nat} {v : Option Value} {a : Int32} (ht : gNth sT t = some 28) (hn2 : n ≤ 440) (hCL : CL B n t M s ls) (hw : (hdT s.1).1 = 2) (H : Ev none (e + 1) 33 44 [some (.ref 3), some (.int a), some (.int 3), none, none, none, none] [] M v M' 0 0) : FA (fLq t) (wLn t) M M' ∧ LNr B n t M' v (if 16 ≤ ls.length ∨ (onceB 3 = true ∧ hasK ls 3 = true) then .inr (3, (hdT s.1).2.1) else bodB B ((prS B e).1 1) (s.1.tail, s.2.1, s.2.2) ls 3) := by
  obtain ⟨hC, hL, hF⟩ := hCL
  have hb := tx_ge ht
  have h8 := hC.2.2.2.2.2.1
  have hcs := hC.2.2.2.2.2.2.1.1
  subst h8
  have hix : (zI M (fR M 3 8) 8).toNatClampNeg = ls.length := cl_n hL.1
  have o16 : (16 : Int32).toInt = 16 := rfl
  have h16 : (16 ≤ zI M (fR M 3 8) 8) ↔ 16 ≤ ls.length := by rw [Int32.le_iff_toInt_le, hL.1]; omega
  have bits := td_bits (hasK ls 2) (hasK ls 3) (hasK ls 4) (hasK ls 7)
  have htd : zI M 3 10 = tdB (hasK ls 2) (hasK ls 3) (hasK ls 4) (hasK ls 7) := hF.2.2.2.2
  rcases ln3_44 hC.1 ht H with ⟨g1, e1, v1, M1, he, H1, H⟩ | ⟨g1, g2, -, -, -, -, -, e1, v1, M1, he, H1, H⟩ | ⟨g1, g2, e1, v1, M1, he, H1, H⟩
  · rw [if_pos (Or.inl (h16.mp g1))]
    obtain ⟨f1, f2⟩ := hC.err (v := v) (M' := M') H1 (fun y hy S => by subst hy; exact ln3_72 S (by rw [(hC.fail H1).1.fr (by simp [fP])]; exact ht) H)
    exact ⟨f1.ln, f2⟩
  rotate_left
  · rw [htd] at g2
    have hk : hasK ls 3 = true := by
      cases hq : hasK ls 3 with
      | true => rfl
      | false => exact absurd (bits.2.1.mpr hq) g2
    rw [if_pos (Or.inr ⟨rfl, hk⟩)]
    obtain ⟨f1, f2⟩ := hC.err (v := v) (M' := M') H1 (fun y hy S => by subst hy; exact ln3_72 S (by rw [(hC.fail H1).1.fr (by simp [fP])]; exact ht) H)
    exact ⟨f1.ln, f2⟩
  rw [htd] at g2
  have hk : hasK ls 3 = false := bits.2.1.mp g2
  have hno : ¬ (16 ≤ ls.length ∨ (onceB 3 = true ∧ hasK ls 3 = true)) := fun q => q.elim (fun x => g1 (h16.mpr x)) (fun x => by rw [hk] at x; exact absurd x.2 (by decide))
  have hl16 : ls.length < 16 := by
    by_cases q : 16 ≤ ls.length
    · exact absurd (Or.inl q) hno
    · omega
  rw [if_neg hno]
  cases he
  rw [hix] at H1
  have s1 : SQ (wI M (fR M 3 8 + 1) ls.length 3) := hC.1.ki
  have F1 : FA [] [fR M 3 8 + 1, fR M 3 8 + 2, fR M 3 8 + 3, fR M 3 8 + 4, fR M 3 8 + 5] M (wI (wI (wI (wI (wI M (fR M 3 8 + 1) ls.length 3) (fR M 3 8 + 2) ls.length 0) (fR M 3 8 + 3) ls.length 0) (fR M 3 8 + 4) ls.length (zI M (fR M 3 8) 9)) (fR M 3 8 + 5) ls.length (zI M (fR M 3 8) 9)) := ((((FA.wI (by simp)).trans (FA.wI (by simp))).trans (FA.wI (by simp))).trans (FA.wI (by simp))).trans (FA.wI (by simp))
  have S5 : SQ (wI (wI (wI (wI (wI M (fR M 3 8 + 1) ls.length 3) (fR M 3 8 + 2) ls.length 0) (fR M 3 8 + 3) ls.length 0) (fR M 3 8 + 4) ls.length (zI M (fR M 3 8) 9)) (fR M 3 8 + 5) ls.length (zI M (fR M 3 8) 9)) := hC.1.ki.ki.ki.ki.ki
  have C5 : CSt B n (fR M 3 8) (wI (wI (wI (wI (wI M (fR M 3 8 + 1) ls.length 3) (fR M 3 8 + 2) ls.length 0) (fR M 3 8 + 3) ls.length 0) (fR M 3 8 + 4) ls.length (zI M (fR M 3 8) 9)) (fR M 3 8 + 5) ls.length (zI M (fR M 3 8) 9)) s := hC.frm S5 F1 (fun q _ r => by cases r) (fun b hb r => by
    simp only [List.mem_cons, List.not_mem_nil, or_false] at hb r
    omega)
  have E5 : ENq (wI (wI (wI (wI (wI M (fR M 3 8 + 1) ls.length 3) (fR M 3 8 + 2) ls.length 0) (fR M 3 8 + 3) ls.length 0) (fR M 3 8 + 4) ls.length (zI M (fR M 3 8) 9)) (fR M 3 8 + 5) ls.length (zI M (fR M 3 8) 9)) (fR M 3 8) ls.length 3 0 0 s.2.2.length := by
    refine ⟨?_, ?_, ?_, ?_⟩
    · rw [rN_wI_ne (fun q => by omega), rN_wI_ne (fun q => by omega), rN_wI_ne (fun q => by omega), rN_wI_ne (fun q => by omega), rN_wI_eq (by rw [(hC.1.1.row (fx_g0 ht) qw_29).2]; exact hl16)]
    · rw [rN_wI_ne (fun q => by omega), rN_wI_ne (fun q => by omega), rN_wI_ne (fun q => by omega), rN_wI_eq (by rw [(s1.1.row (fx_g1 ht) qw_30).2]; exact hl16)]
    · rw [rN_wI_ne (fun q => by omega), rN_wI_ne (fun q => by omega), rN_wI_eq (by rw [(s1.ki.1.row (fx_g2 ht) qw_31).2]; exact hl16)]
    · rw [rN_wI_ne (fun q => by omega), rN_wI_eq (by rw [(s1.ki.ki.1.row (fx_g3 ht) qw_32).2]; exact hl16)]
      exact hcs
  obtain ⟨p1, p2, p3, p4⟩ := fP_no hb.1
  obtain ⟨rfl, F2, C2⟩ := C5.go ht (by rw [hw]; decide) (by rw [hw]; decide) H1
  have P2 : PRE B n (fR M 3 8) M1 (s.1.tail, s.2.1, s.2.2) ls 3 0 s.2.2.length := ⟨C2, (hL.ui.ui.ui.ui.ui).frm F2 p2 p3, E5.frm F2 p4, (hF.frm F1 (fun q _ r => by cases r)).frm F2 p1, hl16⟩
  have F12 : FA (fLq (fR M 3 8)) (wLn (fR M 3 8)) M M1 := (F1.more (fun q hq => by cases hq) (fun q hq => by
    simp only [wLn, List.mem_cons, List.not_mem_nil, or_false] at hq ⊢
    rcases hq with h | h | h | h | h <;> simp [h])).trans F2.ln
  have h91 : fR M1 3 8 = fR M 3 8 := F12.fr (by simp [fLq]; omega)
  unfold bodB
  rw [if_neg (by decide : ¬ (3 : Int32) = 6), if_neg (by decide : ¬ (3 : Int32) = 5)]
  obtain ⟨e3, v3, M3, he, H3, H⟩ := ln3_147 C2.1 (by rw [h91]; exact ht) H
  cases he
  obtain ⟨F3, R3⟩ := nu3_ok ht P2 hL.1 hk H3
  have FX := F12.trans F3
  have h93 : fR M3 3 8 = fR M 3 8 := FX.fr (by simp [fLq]; omega)
  rcases R3 with ⟨q1, q2⟩ | ⟨q1, q2, q3⟩ | ⟨q1, q2, rfl, Q3⟩
  · unfold numB
    rw [if_pos q1]
    obtain ⟨rfl, S9, r9⟩ := q2
    rcases ln3_175 S9 (by rw [h93]; exact ht) H with ⟨_, h3, rfl⟩ | ⟨h3, _⟩ | ⟨h3, _⟩
    · exact ⟨FX, h3, S9, r9⟩
    · exact absurd rfl h3
    · exact absurd rfl h3
  · unfold numB
    rw [if_neg (fun q => q q1), if_pos q2]
    obtain ⟨rfl, S9, r9⟩ := q3
    rcases ln3_175 S9 (by rw [h93]; exact ht) H with ⟨_, h3, rfl⟩ | ⟨h3, _⟩ | ⟨h3, _⟩
    · exact ⟨FX, h3, S9, r9⟩
    · exact absurd rfl h3
    · exact absurd rfl h3
  · unfold numB
    rw [if_neg (fun q => q q1), if_neg q2]
    unfold cndB
    rw [if_neg (by decide : ¬ (3 : Int32) = 6), if_neg (fun q => absurd q.1 (by decide))]
    rcases ln3_175 Q3.1.1 (by rw [h93]; exact ht) H with ⟨h3, _⟩ | ⟨_, g4, g5⟩ | ⟨_, g4, g5⟩
    · exact absurd h3 (by decide)
    · obtain ⟨f7, r7⟩ := en3_ok ht Q3 hl16 hL.1 (Or.inl ⟨g4, g5⟩)
      exact ⟨FX.trans f7, r7⟩
    · obtain ⟨f7, r7⟩ := en3_ok ht Q3 hl16 hL.1 (Or.inr ⟨g4, g5⟩)
      exact ⟨FX.trans f7, r7⟩
theorem li4_ok {e : Nat} {v : Option Value} {a : Int32} (ht : gNth sT t = some 28) (hn2 : n ≤ 440) (hCL : CL B n t M s ls) (hw : (hdT s.1).1 = 2) (H : Ev none (e + 1) 33 44 [some (.ref 3), some (.int a), some (.int 4), none, none, none, none] [] M v M' 0 0) : FA (fLq t) (wLn t) M M' ∧ LNr B n t M' v (if 16 ≤ ls.length ∨ (onceB 4 = true ∧ hasK ls 4 = true) then .inr (3, (hdT s.1).2.1) else bodB B ((prS B e).1 1) (s.1.tail, s.2.1, s.2.2) ls 4) := by
  obtain ⟨hC, hL, hF⟩ := hCL
  have hb := tx_ge ht
  have h8 := hC.2.2.2.2.2.1
  have hcs := hC.2.2.2.2.2.2.1.1
  subst h8
  have hix : (zI M (fR M 3 8) 8).toNatClampNeg = ls.length := cl_n hL.1
  have o16 : (16 : Int32).toInt = 16 := rfl
  have h16 : (16 ≤ zI M (fR M 3 8) 8) ↔ 16 ≤ ls.length := by rw [Int32.le_iff_toInt_le, hL.1]; omega
  have bits := td_bits (hasK ls 2) (hasK ls 3) (hasK ls 4) (hasK ls 7)
  have htd : zI M 3 10 = tdB (hasK ls 2) (hasK ls 3) (hasK ls 4) (hasK ls 7) := hF.2.2.2.2
  rcases ln4_44 hC.1 ht H with ⟨g1, e1, v1, M1, he, H1, H⟩ | ⟨g1, g2, -, -, -, -, -, e1, v1, M1, he, H1, H⟩ | ⟨g1, g2, e1, v1, M1, he, H1, H⟩
  · rw [if_pos (Or.inl (h16.mp g1))]
    obtain ⟨f1, f2⟩ := hC.err (v := v) (M' := M') H1 (fun y hy S => by subst hy; exact ln4_72 S (by rw [(hC.fail H1).1.fr (by simp [fP])]; exact ht) H)
    exact ⟨f1.ln, f2⟩
  rotate_left
  · rw [htd] at g2
    have hk : hasK ls 4 = true := by
      cases hq : hasK ls 4 with
      | true => rfl
      | false => exact absurd (bits.2.2.1.mpr hq) g2
    rw [if_pos (Or.inr ⟨rfl, hk⟩)]
    obtain ⟨f1, f2⟩ := hC.err (v := v) (M' := M') H1 (fun y hy S => by subst hy; exact ln4_72 S (by rw [(hC.fail H1).1.fr (by simp [fP])]; exact ht) H)
    exact ⟨f1.ln, f2⟩
  rw [htd] at g2
  have hk : hasK ls 4 = false := bits.2.2.1.mp g2
  have hno : ¬ (16 ≤ ls.length ∨ (onceB 4 = true ∧ hasK ls 4 = true)) := fun q => q.elim (fun x => g1 (h16.mpr x)) (fun x => by rw [hk] at x; exact absurd x.2 (by decide))
  have hl16 : ls.length < 16 := by
    by_cases q : 16 ≤ ls.length
    · exact absurd (Or.inl q) hno
    · omega
  rw [if_neg hno]
  cases he
  rw [hix] at H1
  have s1 : SQ (wI M (fR M 3 8 + 1) ls.length 4) := hC.1.ki
  have F1 : FA [] [fR M 3 8 + 1, fR M 3 8 + 2, fR M 3 8 + 3, fR M 3 8 + 4, fR M 3 8 + 5] M (wI (wI (wI (wI (wI M (fR M 3 8 + 1) ls.length 4) (fR M 3 8 + 2) ls.length 0) (fR M 3 8 + 3) ls.length 0) (fR M 3 8 + 4) ls.length (zI M (fR M 3 8) 9)) (fR M 3 8 + 5) ls.length (zI M (fR M 3 8) 9)) := ((((FA.wI (by simp)).trans (FA.wI (by simp))).trans (FA.wI (by simp))).trans (FA.wI (by simp))).trans (FA.wI (by simp))
  have S5 : SQ (wI (wI (wI (wI (wI M (fR M 3 8 + 1) ls.length 4) (fR M 3 8 + 2) ls.length 0) (fR M 3 8 + 3) ls.length 0) (fR M 3 8 + 4) ls.length (zI M (fR M 3 8) 9)) (fR M 3 8 + 5) ls.length (zI M (fR M 3 8) 9)) := hC.1.ki.ki.ki.ki.ki
  have C5 : CSt B n (fR M 3 8) (wI (wI (wI (wI (wI M (fR M 3 8 + 1) ls.length 4) (fR M 3 8 + 2) ls.length 0) (fR M 3 8 + 3) ls.length 0) (fR M 3 8 + 4) ls.length (zI M (fR M 3 8) 9)) (fR M 3 8 + 5) ls.length (zI M (fR M 3 8) 9)) s := hC.frm S5 F1 (fun q _ r => by cases r) (fun b hb r => by
    simp only [List.mem_cons, List.not_mem_nil, or_false] at hb r
    omega)
  have E5 : ENq (wI (wI (wI (wI (wI M (fR M 3 8 + 1) ls.length 4) (fR M 3 8 + 2) ls.length 0) (fR M 3 8 + 3) ls.length 0) (fR M 3 8 + 4) ls.length (zI M (fR M 3 8) 9)) (fR M 3 8 + 5) ls.length (zI M (fR M 3 8) 9)) (fR M 3 8) ls.length 4 0 0 s.2.2.length := by
    refine ⟨?_, ?_, ?_, ?_⟩
    · rw [rN_wI_ne (fun q => by omega), rN_wI_ne (fun q => by omega), rN_wI_ne (fun q => by omega), rN_wI_ne (fun q => by omega), rN_wI_eq (by rw [(hC.1.1.row (fx_g0 ht) qw_29).2]; exact hl16)]
    · rw [rN_wI_ne (fun q => by omega), rN_wI_ne (fun q => by omega), rN_wI_ne (fun q => by omega), rN_wI_eq (by rw [(s1.1.row (fx_g1 ht) qw_30).2]; exact hl16)]
    · rw [rN_wI_ne (fun q => by omega), rN_wI_ne (fun q => by omega), rN_wI_eq (by rw [(s1.ki.1.row (fx_g2 ht) qw_31).2]; exact hl16)]
    · rw [rN_wI_ne (fun q => by omega), rN_wI_eq (by rw [(s1.ki.ki.1.row (fx_g3 ht) qw_32).2]; exact hl16)]
      exact hcs
  obtain ⟨p1, p2, p3, p4⟩ := fP_no hb.1
  obtain ⟨rfl, F2, C2⟩ := C5.go ht (by rw [hw]; decide) (by rw [hw]; decide) H1
  have P2 : PRE B n (fR M 3 8) M1 (s.1.tail, s.2.1, s.2.2) ls 4 0 s.2.2.length := ⟨C2, (hL.ui.ui.ui.ui.ui).frm F2 p2 p3, E5.frm F2 p4, (hF.frm F1 (fun q _ r => by cases r)).frm F2 p1, hl16⟩
  have F12 : FA (fLq (fR M 3 8)) (wLn (fR M 3 8)) M M1 := (F1.more (fun q hq => by cases hq) (fun q hq => by
    simp only [wLn, List.mem_cons, List.not_mem_nil, or_false] at hq ⊢
    rcases hq with h | h | h | h | h <;> simp [h])).trans F2.ln
  have h91 : fR M1 3 8 = fR M 3 8 := F12.fr (by simp [fLq]; omega)
  unfold bodB
  rw [if_neg (by decide : ¬ (4 : Int32) = 6), if_neg (by decide : ¬ (4 : Int32) = 5)]
  obtain ⟨e3, v3, M3, he, H3, H⟩ := ln4_147 C2.1 (by rw [h91]; exact ht) H
  cases he
  obtain ⟨F3, R3⟩ := nu4_ok ht P2 hL.1 hk H3
  have FX := F12.trans F3
  have h93 : fR M3 3 8 = fR M 3 8 := FX.fr (by simp [fLq]; omega)
  rcases R3 with ⟨q1, q2⟩ | ⟨q1, q2, q3⟩ | ⟨q1, q2, rfl, Q3⟩
  · unfold numB
    rw [if_pos q1]
    obtain ⟨rfl, S9, r9⟩ := q2
    rcases ln4_175 S9 (by rw [h93]; exact ht) H with ⟨_, h3, rfl⟩ | ⟨h3, _⟩ | ⟨h3, _⟩
    · exact ⟨FX, h3, S9, r9⟩
    · exact absurd rfl h3
    · exact absurd rfl h3
  · unfold numB
    rw [if_neg (fun q => q q1), if_pos q2]
    obtain ⟨rfl, S9, r9⟩ := q3
    rcases ln4_175 S9 (by rw [h93]; exact ht) H with ⟨_, h3, rfl⟩ | ⟨h3, _⟩ | ⟨h3, _⟩
    · exact ⟨FX, h3, S9, r9⟩
    · exact absurd rfl h3
    · exact absurd rfl h3
  · unfold numB
    rw [if_neg (fun q => q q1), if_neg q2]
    unfold cndB
    rw [if_neg (by decide : ¬ (4 : Int32) = 6), if_neg (fun q => absurd q.1 (by decide))]
    rcases ln4_175 Q3.1.1 (by rw [h93]; exact ht) H with ⟨h3, _⟩ | ⟨_, g4, g5⟩ | ⟨_, g4, g5⟩
    · exact absurd h3 (by decide)
    · obtain ⟨f7, r7⟩ := en4_ok ht Q3 hl16 hL.1 (Or.inl ⟨g4, g5⟩)
      exact ⟨FX.trans f7, r7⟩
    · obtain ⟨f7, r7⟩ := en4_ok ht Q3 hl16 hL.1 (Or.inr ⟨g4, g5⟩)
      exact ⟨FX.trans f7, r7⟩
theorem li5_ok {e : Nat} {v : Option Value} {a : Int32} (ht : gNth sT t = some 28) (hn2 : n ≤ 440) (hCL : CL B n t M s ls) (hw : (hdT s.1).1 = 2) (H : Ev none (e + 1) 33 44 [some (.ref 3), some (.int a), some (.int 5), none, none, none, none] [] M v M' 0 0) : FA (fLq t) (wLn t) M M' ∧ LNr B n t M' v (if 16 ≤ ls.length ∨ (onceB 5 = true ∧ hasK ls 5 = true) then .inr (3, (hdT s.1).2.1) else bodB B ((prS B e).1 1) (s.1.tail, s.2.1, s.2.2) ls 5) := by
  obtain ⟨hC, hL, hF⟩ := hCL
  have hb := tx_ge ht
  have h8 := hC.2.2.2.2.2.1
  have hcs := hC.2.2.2.2.2.2.1.1
  subst h8
  have hix : (zI M (fR M 3 8) 8).toNatClampNeg = ls.length := cl_n hL.1
  have o16 : (16 : Int32).toInt = 16 := rfl
  have h16 : (16 ≤ zI M (fR M 3 8) 8) ↔ 16 ≤ ls.length := by rw [Int32.le_iff_toInt_le, hL.1]; omega
  have bits := td_bits (hasK ls 2) (hasK ls 3) (hasK ls 4) (hasK ls 7)
  have htd : zI M 3 10 = tdB (hasK ls 2) (hasK ls 3) (hasK ls 4) (hasK ls 7) := hF.2.2.2.2
  rcases ln5_44 hC.1 ht H with ⟨g1, e1, v1, M1, he, H1, H⟩ | ⟨g1, g2, -, -, -, -, -, e1, v1, M1, he, H1, H⟩ | ⟨g1, g2, e1, v1, M1, he, H1, H⟩
  · rw [if_pos (Or.inl (h16.mp g1))]
    obtain ⟨f1, f2⟩ := hC.err (v := v) (M' := M') H1 (fun y hy S => by subst hy; exact ln5_72 S (by rw [(hC.fail H1).1.fr (by simp [fP])]; exact ht) H)
    exact ⟨f1.ln, f2⟩
  rotate_left
  · rw [htd] at g2
    exact absurd bits.2.2.2.2.2.2.1 g2
  have hno : ¬ (16 ≤ ls.length ∨ (onceB 5 = true ∧ hasK ls 5 = true)) := fun q => q.elim (fun x => g1 (h16.mpr x)) (fun x => absurd x.1 (by decide))
  have hl16 : ls.length < 16 := by
    by_cases q : 16 ≤ ls.length
    · exact absurd (Or.inl q) hno
    · omega
  rw [if_neg hno]
  cases he
  rw [hix] at H1
  have s1 : SQ (wI M (fR M 3 8 + 1) ls.length 5) := hC.1.ki
  have F1 : FA [] [fR M 3 8 + 1, fR M 3 8 + 2, fR M 3 8 + 3, fR M 3 8 + 4, fR M 3 8 + 5] M (wI (wI (wI (wI (wI M (fR M 3 8 + 1) ls.length 5) (fR M 3 8 + 2) ls.length 0) (fR M 3 8 + 3) ls.length 0) (fR M 3 8 + 4) ls.length (zI M (fR M 3 8) 9)) (fR M 3 8 + 5) ls.length (zI M (fR M 3 8) 9)) := ((((FA.wI (by simp)).trans (FA.wI (by simp))).trans (FA.wI (by simp))).trans (FA.wI (by simp))).trans (FA.wI (by simp))
  have S5 : SQ (wI (wI (wI (wI (wI M (fR M 3 8 + 1) ls.length 5) (fR M 3 8 + 2) ls.length 0) (fR M 3 8 + 3) ls.length 0) (fR M 3 8 + 4) ls.length (zI M (fR M 3 8) 9)) (fR M 3 8 + 5) ls.length (zI M (fR M 3 8) 9)) := hC.1.ki.ki.ki.ki.ki
  have C5 : CSt B n (fR M 3 8) (wI (wI (wI (wI (wI M (fR M 3 8 + 1) ls.length 5) (fR M 3 8 + 2) ls.length 0) (fR M 3 8 + 3) ls.length 0) (fR M 3 8 + 4) ls.length (zI M (fR M 3 8) 9)) (fR M 3 8 + 5) ls.length (zI M (fR M 3 8) 9)) s := hC.frm S5 F1 (fun q _ r => by cases r) (fun b hb r => by
    simp only [List.mem_cons, List.not_mem_nil, or_false] at hb r
    omega)
  have E5 : ENq (wI (wI (wI (wI (wI M (fR M 3 8 + 1) ls.length 5) (fR M 3 8 + 2) ls.length 0) (fR M 3 8 + 3) ls.length 0) (fR M 3 8 + 4) ls.length (zI M (fR M 3 8) 9)) (fR M 3 8 + 5) ls.length (zI M (fR M 3 8) 9)) (fR M 3 8) ls.length 5 0 0 s.2.2.length := by
    refine ⟨?_, ?_, ?_, ?_⟩
    · rw [rN_wI_ne (fun q => by omega), rN_wI_ne (fun q => by omega), rN_wI_ne (fun q => by omega), rN_wI_ne (fun q => by omega), rN_wI_eq (by rw [(hC.1.1.row (fx_g0 ht) qw_29).2]; exact hl16)]
    · rw [rN_wI_ne (fun q => by omega), rN_wI_ne (fun q => by omega), rN_wI_ne (fun q => by omega), rN_wI_eq (by rw [(s1.1.row (fx_g1 ht) qw_30).2]; exact hl16)]
    · rw [rN_wI_ne (fun q => by omega), rN_wI_ne (fun q => by omega), rN_wI_eq (by rw [(s1.ki.1.row (fx_g2 ht) qw_31).2]; exact hl16)]
    · rw [rN_wI_ne (fun q => by omega), rN_wI_eq (by rw [(s1.ki.ki.1.row (fx_g3 ht) qw_32).2]; exact hl16)]
      exact hcs
  obtain ⟨p1, p2, p3, p4⟩ := fP_no hb.1
  obtain ⟨rfl, F2, C2⟩ := C5.go ht (by rw [hw]; decide) (by rw [hw]; decide) H1
  have P2 : PRE B n (fR M 3 8) M1 (s.1.tail, s.2.1, s.2.2) ls 5 0 s.2.2.length := ⟨C2, (hL.ui.ui.ui.ui.ui).frm F2 p2 p3, E5.frm F2 p4, (hF.frm F1 (fun q _ r => by cases r)).frm F2 p1, hl16⟩
  have F12 : FA (fLq (fR M 3 8)) (wLn (fR M 3 8)) M M1 := (F1.more (fun q hq => by cases hq) (fun q hq => by
    simp only [wLn, List.mem_cons, List.not_mem_nil, or_false] at hq ⊢
    rcases hq with h | h | h | h | h <;> simp [h])).trans F2.ln
  have h91 : fR M1 3 8 = fR M 3 8 := F12.fr (by simp [fLq]; omega)
  unfold bodB
  rw [if_neg (by decide : ¬ (5 : Int32) = 6), if_pos rfl]
  obtain ⟨e3, v3, M3, he, H3, H⟩ := ln5_147 C2.1 (by rw [h91]; exact ht) H
  cases he
  obtain ⟨F3, R3⟩ := wg_ok ht hn2 P2 hL.1 H3
  have FX := F12.trans F3
  have h93 : fR M3 3 8 = fR M 3 8 := FX.fr (by simp [fLq]; omega)
  rcases R3 with ⟨q1, q2⟩ | ⟨q0, ⟨q1, q2⟩ | ⟨q1, q2, q3⟩ | ⟨q1, q2, rfl, Q3⟩⟩
  · rw [if_pos q1]
    obtain ⟨rfl, S9, r9⟩ := q2
    rcases ln5_163 S9 (by rw [h93]; exact ht) H with ⟨_, h3, rfl⟩ | ⟨h3, _⟩
    · exact ⟨FX, h3, S9, r9⟩
    · exact absurd rfl h3
  · rw [if_neg q0]
    unfold numB
    rw [if_pos q1]
    obtain ⟨rfl, S9, r9⟩ := q2
    rcases ln5_163 S9 (by rw [h93]; exact ht) H with ⟨_, h3, rfl⟩ | ⟨h3, _⟩
    · exact ⟨FX, h3, S9, r9⟩
    · exact absurd rfl h3
  · rw [if_neg q0]
    unfold numB
    rw [if_neg (fun q => q q1), if_pos q2]
    obtain ⟨rfl, S9, r9⟩ := q3
    rcases ln5_163 S9 (by rw [h93]; exact ht) H with ⟨_, h3, rfl⟩ | ⟨h3, _⟩
    · exact ⟨FX, h3, S9, r9⟩
    · exact absurd rfl h3
  · rw [if_neg q0]
    unfold numB
    rw [if_neg (fun q => q q1), if_neg q2]
    rcases ln5_163 Q3.1.1 (by rw [h93]; exact ht) H with ⟨h3, _⟩ | ⟨_, e4, v4, M4, he, H4, H⟩
    · exact absurd h3 (by decide)
    cases he
    obtain ⟨rfl, rfl⟩ := amq_all (ws := [ifW]) Q3.1.1 hn2 Q3.1.2.2.1 rfl (by decide) (List.cons_ne_nil _ _) (by decide) (by decide) H4
    rw [Q3.1.wd] at H
    have hx : ∀ w : List Int32, ixF w [ifW] 0 = if w = ifW then 0 else -1 := fun w => rfl
    unfold cndB
    rw [if_neg (by decide : ¬ (5 : Int32) = 6)]
    by_cases hw2 : wdS B (hdT ((s.1.tail.tail.tail, s.2.1, s.2.2) : Sg).1) = ifW
    · rw [hx, if_pos (by exact hw2)] at H
      rw [if_pos ⟨by decide, hw2⟩]
      have h2t := wd_ne hw2 (by decide)
      rcases ln5_224 Q3.1.1 (by rw [h93]; exact ht) H with ⟨_, e5, v5, M5, he, H5, H⟩ | ⟨h3, _⟩ | ⟨h3, _⟩
      rotate_left
      · exact absurd rfl h3
      · exact absurd rfl h3
      obtain ⟨rfl, F5, Q5⟩ := Q3.go ht (by rw [show (hdT ((s.1.tail.tail.tail, s.2.1, s.2.2) : Sg).1).1 = 2 from h2t]; decide) (by rw [show (hdT ((s.1.tail.tail.tail, s.2.1, s.2.2) : Sg).1).1 = 2 from h2t]; decide) H5
      have h95 : fR M5 3 8 = fR M 3 8 := Q5.1.2.2.2.2.2.1
      obtain ⟨e6, v6, M6, he, H6, H⟩ := ln5_243 Q5.1.1 (by rw [h95]; exact ht) H
      cases he
      obtain ⟨F6, R6⟩ := Q5.con ht hn2 H6
      have FY := (FX.trans F5).trans F6
      have h96 : fR M6 3 8 = fR M 3 8 := FY.fr (by simp [fLq]; omega)
      cases hr : (prS B e).1 1 (((s.1.tail.tail.tail, s.2.1, s.2.2) : Sg).1.tail, ((s.1.tail.tail.tail, s.2.1, s.2.2) : Sg).2.1, ((s.1.tail.tail.tail, s.2.1, s.2.2) : Sg).2.2) with
      | inr f =>
        rw [hr] at R6
        obtain ⟨rfl, S9, r9⟩ := R6
        rcases ln5_259 S9 (by rw [h96]; exact ht) H with ⟨_, h3, rfl⟩ | ⟨h3, _⟩ | ⟨h3, _⟩
        · exact ⟨FY, h3, S9, r9⟩
        · exact absurd rfl h3
        · exact absurd rfl h3
      | inl s2 =>
        rw [hr] at R6
        obtain ⟨rfl, Q6⟩ := R6
        rcases ln5_259 Q6.1.1 (by rw [h96]; exact ht) H with ⟨h3, _⟩ | ⟨_, g4, g5⟩ | ⟨_, g4, g5⟩
        · exact absurd h3 (by decide)
        · obtain ⟨f7, r7⟩ := en5_ok ht Q6 hl16 hL.1 (Or.inl ⟨g4, g5⟩)
          exact ⟨FY.trans f7, r7⟩
        · obtain ⟨f7, r7⟩ := en5_ok ht Q6 hl16 hL.1 (Or.inr ⟨g4, g5⟩)
          exact ⟨FY.trans f7, r7⟩
    · rw [hx, if_neg (by exact hw2)] at H
      rw [if_neg (fun q => hw2 q.2)]
      rcases ln5_224 Q3.1.1 (by rw [h93]; exact ht) H with ⟨h3, _⟩ | ⟨_, g4, g5⟩ | ⟨_, g4, g5⟩
      · exact absurd h3 (by decide)
      · obtain ⟨f7, r7⟩ := en5_ok ht Q3 hl16 hL.1 (Or.inl ⟨g4, g5⟩)
        exact ⟨FX.trans f7, r7⟩
      · obtain ⟨f7, r7⟩ := en5_ok ht Q3 hl16 hL.1 (Or.inr ⟨g4, g5⟩)
        exact ⟨FX.trans f7, r7⟩
theorem li6_ok {e : Nat} {v : Option Value} {a : Int32} (ht : gNth sT t = some 28) (hn2 : n ≤ 440) (hCL : CL B n t M s ls) (hw : (hdT s.1).1 = 2) (H : Ev none (e + 1) 33 44 [some (.ref 3), some (.int a), some (.int 6), none, none, none, none] [] M v M' 0 0) : FA (fLq t) (wLn t) M M' ∧ LNr B n t M' v (if 16 ≤ ls.length ∨ (onceB 6 = true ∧ hasK ls 6 = true) then .inr (3, (hdT s.1).2.1) else bodB B ((prS B e).1 1) (s.1.tail, s.2.1, s.2.2) ls 6) := by
  obtain ⟨hC, hL, hF⟩ := hCL
  have hb := tx_ge ht
  have h8 := hC.2.2.2.2.2.1
  have hcs := hC.2.2.2.2.2.2.1.1
  subst h8
  have hix : (zI M (fR M 3 8) 8).toNatClampNeg = ls.length := cl_n hL.1
  have o16 : (16 : Int32).toInt = 16 := rfl
  have h16 : (16 ≤ zI M (fR M 3 8) 8) ↔ 16 ≤ ls.length := by rw [Int32.le_iff_toInt_le, hL.1]; omega
  have bits := td_bits (hasK ls 2) (hasK ls 3) (hasK ls 4) (hasK ls 7)
  have htd : zI M 3 10 = tdB (hasK ls 2) (hasK ls 3) (hasK ls 4) (hasK ls 7) := hF.2.2.2.2
  rcases ln6_44 hC.1 ht H with ⟨g1, e1, v1, M1, he, H1, H⟩ | ⟨g1, g2, -, -, -, -, -, e1, v1, M1, he, H1, H⟩ | ⟨g1, g2, e1, v1, M1, he, H1, H⟩
  · rw [if_pos (Or.inl (h16.mp g1))]
    obtain ⟨f1, f2⟩ := hC.err (v := v) (M' := M') H1 (fun y hy S => by subst hy; exact ln6_72 S (by rw [(hC.fail H1).1.fr (by simp [fP])]; exact ht) H)
    exact ⟨f1.ln, f2⟩
  rotate_left
  · rw [htd] at g2
    exact absurd bits.2.2.2.2.2.2.2.1 g2
  have hno : ¬ (16 ≤ ls.length ∨ (onceB 6 = true ∧ hasK ls 6 = true)) := fun q => q.elim (fun x => g1 (h16.mpr x)) (fun x => absurd x.1 (by decide))
  have hl16 : ls.length < 16 := by
    by_cases q : 16 ≤ ls.length
    · exact absurd (Or.inl q) hno
    · omega
  rw [if_neg hno]
  cases he
  rw [hix] at H1
  have s1 : SQ (wI M (fR M 3 8 + 1) ls.length 6) := hC.1.ki
  have F1 : FA [] [fR M 3 8 + 1, fR M 3 8 + 2, fR M 3 8 + 3, fR M 3 8 + 4, fR M 3 8 + 5] M (wI (wI (wI (wI (wI M (fR M 3 8 + 1) ls.length 6) (fR M 3 8 + 2) ls.length 0) (fR M 3 8 + 3) ls.length 0) (fR M 3 8 + 4) ls.length (zI M (fR M 3 8) 9)) (fR M 3 8 + 5) ls.length (zI M (fR M 3 8) 9)) := ((((FA.wI (by simp)).trans (FA.wI (by simp))).trans (FA.wI (by simp))).trans (FA.wI (by simp))).trans (FA.wI (by simp))
  have S5 : SQ (wI (wI (wI (wI (wI M (fR M 3 8 + 1) ls.length 6) (fR M 3 8 + 2) ls.length 0) (fR M 3 8 + 3) ls.length 0) (fR M 3 8 + 4) ls.length (zI M (fR M 3 8) 9)) (fR M 3 8 + 5) ls.length (zI M (fR M 3 8) 9)) := hC.1.ki.ki.ki.ki.ki
  have C5 : CSt B n (fR M 3 8) (wI (wI (wI (wI (wI M (fR M 3 8 + 1) ls.length 6) (fR M 3 8 + 2) ls.length 0) (fR M 3 8 + 3) ls.length 0) (fR M 3 8 + 4) ls.length (zI M (fR M 3 8) 9)) (fR M 3 8 + 5) ls.length (zI M (fR M 3 8) 9)) s := hC.frm S5 F1 (fun q _ r => by cases r) (fun b hb r => by
    simp only [List.mem_cons, List.not_mem_nil, or_false] at hb r
    omega)
  have E5 : ENq (wI (wI (wI (wI (wI M (fR M 3 8 + 1) ls.length 6) (fR M 3 8 + 2) ls.length 0) (fR M 3 8 + 3) ls.length 0) (fR M 3 8 + 4) ls.length (zI M (fR M 3 8) 9)) (fR M 3 8 + 5) ls.length (zI M (fR M 3 8) 9)) (fR M 3 8) ls.length 6 0 0 s.2.2.length := by
    refine ⟨?_, ?_, ?_, ?_⟩
    · rw [rN_wI_ne (fun q => by omega), rN_wI_ne (fun q => by omega), rN_wI_ne (fun q => by omega), rN_wI_ne (fun q => by omega), rN_wI_eq (by rw [(hC.1.1.row (fx_g0 ht) qw_29).2]; exact hl16)]
    · rw [rN_wI_ne (fun q => by omega), rN_wI_ne (fun q => by omega), rN_wI_ne (fun q => by omega), rN_wI_eq (by rw [(s1.1.row (fx_g1 ht) qw_30).2]; exact hl16)]
    · rw [rN_wI_ne (fun q => by omega), rN_wI_ne (fun q => by omega), rN_wI_eq (by rw [(s1.ki.1.row (fx_g2 ht) qw_31).2]; exact hl16)]
    · rw [rN_wI_ne (fun q => by omega), rN_wI_eq (by rw [(s1.ki.ki.1.row (fx_g3 ht) qw_32).2]; exact hl16)]
      exact hcs
  obtain ⟨p1, p2, p3, p4⟩ := fP_no hb.1
  obtain ⟨rfl, F2, C2⟩ := C5.go ht (by rw [hw]; decide) (by rw [hw]; decide) H1
  have P2 : PRE B n (fR M 3 8) M1 (s.1.tail, s.2.1, s.2.2) ls 6 0 s.2.2.length := ⟨C2, (hL.ui.ui.ui.ui.ui).frm F2 p2 p3, E5.frm F2 p4, (hF.frm F1 (fun q _ r => by cases r)).frm F2 p1, hl16⟩
  have F12 : FA (fLq (fR M 3 8)) (wLn (fR M 3 8)) M M1 := (F1.more (fun q hq => by cases hq) (fun q hq => by
    simp only [wLn, List.mem_cons, List.not_mem_nil, or_false] at hq ⊢
    rcases hq with h | h | h | h | h <;> simp [h])).trans F2.ln
  have h91 : fR M1 3 8 = fR M 3 8 := F12.fr (by simp [fLq]; omega)
  unfold bodB cndB
  rw [if_pos rfl, if_pos rfl]
  obtain ⟨e3, v3, M3, he, H3, H⟩ := ln6_147 C2.1 (by rw [h91]; exact ht) H
  cases he
  obtain ⟨F3, R3⟩ := P2.mid6.con ht hn2 H3
  have FX := F12.trans F3
  have h93 : fR M3 3 8 = fR M 3 8 := FX.fr (by simp [fLq]; omega)
  cases hr : (prS B e).1 1 (s.1.tail, s.2.1, s.2.2) with
  | inr f =>
    rw [hr] at R3
    obtain ⟨rfl, S9, r9⟩ := R3
    rcases ln6_259 S9 (by rw [h93]; exact ht) H with ⟨_, h3, rfl⟩ | ⟨h3, _⟩ | ⟨h3, _⟩
    · exact ⟨FX, h3, S9, r9⟩
    · exact absurd rfl h3
    · exact absurd rfl h3
  | inl s2 =>
    rw [hr] at R3
    obtain ⟨rfl, Q3⟩ := R3
    rcases ln6_259 Q3.1.1 (by rw [h93]; exact ht) H with ⟨h3, _⟩ | ⟨_, g4, g5⟩ | ⟨_, g4, g5⟩
    · exact absurd h3 (by decide)
    · obtain ⟨f7, r7⟩ := en6_ok ht Q3 hl16 hL.1 (Or.inl ⟨g4, g5⟩)
      exact ⟨FX.trans f7, r7⟩
    · obtain ⟨f7, r7⟩ := en6_ok ht Q3 hl16 hL.1 (Or.inr ⟨g4, g5⟩)
      exact ⟨FX.trans f7, r7⟩
theorem li7_ok {e : Nat} {v : Option Value} {a : Int32} (ht : gNth sT t = some 28) (hn2 : n ≤ 440) (hCL : CL B n t M s ls) (hw : (hdT s.1).1 = 2) (H : Ev none (e + 1) 33 44 [some (.ref 3), some (.int a), some (.int 7), none, none, none, none] [] M v M' 0 0) : FA (fLq t) (wLn t) M M' ∧ LNr B n t M' v (if 16 ≤ ls.length ∨ (onceB 7 = true ∧ hasK ls 7 = true) then .inr (3, (hdT s.1).2.1) else bodB B ((prS B e).1 1) (s.1.tail, s.2.1, s.2.2) ls 7) := by
  obtain ⟨hC, hL, hF⟩ := hCL
  have hb := tx_ge ht
  have h8 := hC.2.2.2.2.2.1
  have hcs := hC.2.2.2.2.2.2.1.1
  subst h8
  have hix : (zI M (fR M 3 8) 8).toNatClampNeg = ls.length := cl_n hL.1
  have o16 : (16 : Int32).toInt = 16 := rfl
  have h16 : (16 ≤ zI M (fR M 3 8) 8) ↔ 16 ≤ ls.length := by rw [Int32.le_iff_toInt_le, hL.1]; omega
  have bits := td_bits (hasK ls 2) (hasK ls 3) (hasK ls 4) (hasK ls 7)
  have htd : zI M 3 10 = tdB (hasK ls 2) (hasK ls 3) (hasK ls 4) (hasK ls 7) := hF.2.2.2.2
  rcases ln7_44 hC.1 ht H with ⟨g1, e1, v1, M1, he, H1, H⟩ | ⟨g1, g2, -, -, -, -, -, e1, v1, M1, he, H1, H⟩ | ⟨g1, g2, e1, v1, M1, he, H1, H⟩
  · rw [if_pos (Or.inl (h16.mp g1))]
    obtain ⟨f1, f2⟩ := hC.err (v := v) (M' := M') H1 (fun y hy S => by subst hy; exact ln7_72 S (by rw [(hC.fail H1).1.fr (by simp [fP])]; exact ht) H)
    exact ⟨f1.ln, f2⟩
  rotate_left
  · rw [htd] at g2
    have hk : hasK ls 7 = true := by
      cases hq : hasK ls 7 with
      | true => rfl
      | false => exact absurd (bits.2.2.2.1.mpr hq) g2
    rw [if_pos (Or.inr ⟨rfl, hk⟩)]
    obtain ⟨f1, f2⟩ := hC.err (v := v) (M' := M') H1 (fun y hy S => by subst hy; exact ln7_72 S (by rw [(hC.fail H1).1.fr (by simp [fP])]; exact ht) H)
    exact ⟨f1.ln, f2⟩
  rw [htd] at g2
  have hk : hasK ls 7 = false := bits.2.2.2.1.mp g2
  have hno : ¬ (16 ≤ ls.length ∨ (onceB 7 = true ∧ hasK ls 7 = true)) := fun q => q.elim (fun x => g1 (h16.mpr x)) (fun x => by rw [hk] at x; exact absurd x.2 (by decide))
  have hl16 : ls.length < 16 := by
    by_cases q : 16 ≤ ls.length
    · exact absurd (Or.inl q) hno
    · omega
  rw [if_neg hno]
  cases he
  rw [hix] at H1
  have s1 : SQ (wI M (fR M 3 8 + 1) ls.length 7) := hC.1.ki
  have F1 : FA [] [fR M 3 8 + 1, fR M 3 8 + 2, fR M 3 8 + 3, fR M 3 8 + 4, fR M 3 8 + 5] M (wI (wI (wI (wI (wI M (fR M 3 8 + 1) ls.length 7) (fR M 3 8 + 2) ls.length 0) (fR M 3 8 + 3) ls.length 0) (fR M 3 8 + 4) ls.length (zI M (fR M 3 8) 9)) (fR M 3 8 + 5) ls.length (zI M (fR M 3 8) 9)) := ((((FA.wI (by simp)).trans (FA.wI (by simp))).trans (FA.wI (by simp))).trans (FA.wI (by simp))).trans (FA.wI (by simp))
  have S5 : SQ (wI (wI (wI (wI (wI M (fR M 3 8 + 1) ls.length 7) (fR M 3 8 + 2) ls.length 0) (fR M 3 8 + 3) ls.length 0) (fR M 3 8 + 4) ls.length (zI M (fR M 3 8) 9)) (fR M 3 8 + 5) ls.length (zI M (fR M 3 8) 9)) := hC.1.ki.ki.ki.ki.ki
  have C5 : CSt B n (fR M 3 8) (wI (wI (wI (wI (wI M (fR M 3 8 + 1) ls.length 7) (fR M 3 8 + 2) ls.length 0) (fR M 3 8 + 3) ls.length 0) (fR M 3 8 + 4) ls.length (zI M (fR M 3 8) 9)) (fR M 3 8 + 5) ls.length (zI M (fR M 3 8) 9)) s := hC.frm S5 F1 (fun q _ r => by cases r) (fun b hb r => by
    simp only [List.mem_cons, List.not_mem_nil, or_false] at hb r
    omega)
  have E5 : ENq (wI (wI (wI (wI (wI M (fR M 3 8 + 1) ls.length 7) (fR M 3 8 + 2) ls.length 0) (fR M 3 8 + 3) ls.length 0) (fR M 3 8 + 4) ls.length (zI M (fR M 3 8) 9)) (fR M 3 8 + 5) ls.length (zI M (fR M 3 8) 9)) (fR M 3 8) ls.length 7 0 0 s.2.2.length := by
    refine ⟨?_, ?_, ?_, ?_⟩
    · rw [rN_wI_ne (fun q => by omega), rN_wI_ne (fun q => by omega), rN_wI_ne (fun q => by omega), rN_wI_ne (fun q => by omega), rN_wI_eq (by rw [(hC.1.1.row (fx_g0 ht) qw_29).2]; exact hl16)]
    · rw [rN_wI_ne (fun q => by omega), rN_wI_ne (fun q => by omega), rN_wI_ne (fun q => by omega), rN_wI_eq (by rw [(s1.1.row (fx_g1 ht) qw_30).2]; exact hl16)]
    · rw [rN_wI_ne (fun q => by omega), rN_wI_ne (fun q => by omega), rN_wI_eq (by rw [(s1.ki.1.row (fx_g2 ht) qw_31).2]; exact hl16)]
    · rw [rN_wI_ne (fun q => by omega), rN_wI_eq (by rw [(s1.ki.ki.1.row (fx_g3 ht) qw_32).2]; exact hl16)]
      exact hcs
  obtain ⟨p1, p2, p3, p4⟩ := fP_no hb.1
  obtain ⟨rfl, F2, C2⟩ := C5.go ht (by rw [hw]; decide) (by rw [hw]; decide) H1
  have P2 : PRE B n (fR M 3 8) M1 (s.1.tail, s.2.1, s.2.2) ls 7 0 s.2.2.length := ⟨C2, (hL.ui.ui.ui.ui.ui).frm F2 p2 p3, E5.frm F2 p4, (hF.frm F1 (fun q _ r => by cases r)).frm F2 p1, hl16⟩
  have F12 : FA (fLq (fR M 3 8)) (wLn (fR M 3 8)) M M1 := (F1.more (fun q hq => by cases hq) (fun q hq => by
    simp only [wLn, List.mem_cons, List.not_mem_nil, or_false] at hq ⊢
    rcases hq with h | h | h | h | h <;> simp [h])).trans F2.ln
  have h91 : fR M1 3 8 = fR M 3 8 := F12.fr (by simp [fLq]; omega)
  unfold bodB
  rw [if_neg (by decide : ¬ (7 : Int32) = 6), if_neg (by decide : ¬ (7 : Int32) = 5)]
  obtain ⟨e3, v3, M3, he, H3, H⟩ := ln7_147 C2.1 (by rw [h91]; exact ht) H
  cases he
  obtain ⟨F3, R3⟩ := nu7_ok ht P2 hL.1 hk H3
  have FX := F12.trans F3
  have h93 : fR M3 3 8 = fR M 3 8 := FX.fr (by simp [fLq]; omega)
  rcases R3 with ⟨q1, q2⟩ | ⟨q1, q2, q3⟩ | ⟨q1, q2, rfl, Q3⟩
  · unfold numB
    rw [if_pos q1]
    obtain ⟨rfl, S9, r9⟩ := q2
    rcases ln7_175 S9 (by rw [h93]; exact ht) H with ⟨_, h3, rfl⟩ | ⟨h3, _⟩ | ⟨h3, _⟩
    · exact ⟨FX, h3, S9, r9⟩
    · exact absurd rfl h3
    · exact absurd rfl h3
  · unfold numB
    rw [if_neg (fun q => q q1), if_pos q2]
    obtain ⟨rfl, S9, r9⟩ := q3
    rcases ln7_175 S9 (by rw [h93]; exact ht) H with ⟨_, h3, rfl⟩ | ⟨h3, _⟩ | ⟨h3, _⟩
    · exact ⟨FX, h3, S9, r9⟩
    · exact absurd rfl h3
    · exact absurd rfl h3
  · unfold numB
    rw [if_neg (fun q => q q1), if_neg q2]
    unfold cndB
    rw [if_neg (by decide : ¬ (7 : Int32) = 6), if_neg (fun q => absurd q.1 (by decide))]
    rcases ln7_175 Q3.1.1 (by rw [h93]; exact ht) H with ⟨h3, _⟩ | ⟨_, g4, g5⟩ | ⟨_, g4, g5⟩
    · exact absurd h3 (by decide)
    · obtain ⟨f7, r7⟩ := en7_ok ht Q3 hl16 hL.1 (Or.inl ⟨g4, g5⟩)
      exact ⟨FX.trans f7, r7⟩
    · obtain ⟨f7, r7⟩ := en7_ok ht Q3 hl16 hL.1 (Or.inr ⟨g4, g5⟩)
      exact ⟨FX.trans f7, r7⟩
end LIX
/-! THE CLASS'S READER: pieces of readText, law, habit (made by gcl.py) -/
noncomputable def X_51 (M : Mem) (t : Nat) : Mem := (wF (wF (wF (wF (wF (wF M t 8 0) t 9 0) t 10 40) t 11 50) t 12 10) t 13 3)
theorem g_51 {e : Nat} {M M' : Mem} {v : Option Value} {t : Nat} (hS : SQ M) (a_t : gNth sT t = some 28) (H : Ev none e 51 0 [some (.ref t)] [] M v M' 0 0) : v = none ∧ M' = X_51 M t := by
  unfold X_51
  have H : Ev none e 51 2 [some (.ref t)] [.int 0, .ref t] M v M' 0 0 := Ev.back 2 (fun n => rfl) H
  obtain ⟨N2, eN2⟩ : ∃ N, N = (wF M t 8 0) := ⟨_, rfl⟩
  have hN2 : SQ N2 := by rw [eN2]; exact hS.kf
  have H : Ev none e 51 5 [some (.ref t)] [] N2 v M' 0 0 := by rw [eN2]; exact Ev.pfi rfl rfl rfl hS.1 a_t qi_28_8 H
  have H : Ev none e 51 7 [some (.ref t)] [.int 0, .ref t] N2 v M' 0 0 := Ev.back 2 (fun n => rfl) H
  obtain ⟨N4, eN4⟩ : ∃ N, N = (wF N2 t 9 0) := ⟨_, rfl⟩
  have hN4 : SQ N4 := by rw [eN4]; exact hN2.kf
  have H : Ev none e 51 10 [some (.ref t)] [] N4 v M' 0 0 := by rw [eN4]; exact Ev.pfi rfl rfl rfl hN2.1 a_t qi_28_9 H
  have H : Ev none e 51 13 [some (.ref t)] [.int 40, .ref t] N4 v M' 0 0 := Ev.back 2 (fun n => rfl) H
  obtain ⟨N6, eN6⟩ : ∃ N, N = (wF N4 t 10 40) := ⟨_, rfl⟩
  have hN6 : SQ N6 := by rw [eN6]; exact hN4.kf
  have H : Ev none e 51 16 [some (.ref t)] [] N6 v M' 0 0 := by rw [eN6]; exact Ev.pfi rfl rfl rfl hN4.1 a_t qi_28_10 H
  have H : Ev none e 51 19 [some (.ref t)] [.int 50, .ref t] N6 v M' 0 0 := Ev.back 2 (fun n => rfl) H
  obtain ⟨N8, eN8⟩ : ∃ N, N = (wF N6 t 11 50) := ⟨_, rfl⟩
  have hN8 : SQ N8 := by rw [eN8]; exact hN6.kf
  have H : Ev none e 51 22 [some (.ref t)] [] N8 v M' 0 0 := by rw [eN8]; exact Ev.pfi rfl rfl rfl hN6.1 a_t qi_28_11 H
  have H : Ev none e 51 25 [some (.ref t)] [.int 10, .ref t] N8 v M' 0 0 := Ev.back 2 (fun n => rfl) H
  obtain ⟨N10, eN10⟩ : ∃ N, N = (wF N8 t 12 10) := ⟨_, rfl⟩
  have hN10 : SQ N10 := by rw [eN10]; exact hN8.kf
  have H : Ev none e 51 28 [some (.ref t)] [] N10 v M' 0 0 := by rw [eN10]; exact Ev.pfi rfl rfl rfl hN8.1 a_t qi_28_12 H
  have H : Ev none e 51 30 [some (.ref t)] [.int 3, .ref t] N10 v M' 0 0 := Ev.back 2 (fun n => rfl) H
  obtain ⟨N12, eN12⟩ : ∃ N, N = (wF N10 t 13 3) := ⟨_, rfl⟩
  have hN12 : SQ N12 := by rw [eN12]; exact hN10.kf
  have H : Ev none e 51 33 [some (.ref t)] [] N12 v M' 0 0 := by rw [eN12]; exact Ev.pfi rfl rfl rfl hN10.1 a_t qi_28_13 H
  obtain ⟨p1, p2⟩ := Ev.retb (fun n => rfl) H
  subst eN2 eN4 eN6 eN8 eN10 eN12
  exact ⟨p1, p2⟩
theorem X_51_sx {M : Mem} {t : Nat} (hS : SQ M) (a_t : gNth sT t = some 28) : SQ (X_51 M t) := by
  unfold X_51
  exact (((((hS.kf).kf).kf).kf).kf).kf
theorem rt_0 {e : Nat} {M M' : Mem} {v : Option Value} {lw : Int32} {t : Nat} (hS : SQ M) (a_t : gNth sT t = some 28) (H : Ev none e 26 0 [some (.ref 3), some (.ref t), some (.int lw), none] [] M v M' 0 0) : (∃ e1 v1 M1, e = e1 + 1 ∧ Ev none e1 28 0 [some (.ref 3), none, none, none, none] [] (wF (wF (wF (wF (X_51 (wF (wR M 3 8 t) 3 9 lw) t) 3 10 0) 3 11 0) 3 12 0) 3 13 0) v1 M1 0 0 ∧ Ev none e 26 41 [some (.ref 3), some (.ref t), some (.int lw), none] (v1.toList ++ []) M1 v M' 0 0) := by
  have H : Ev none e 26 2 [some (.ref 3), some (.ref t), some (.int lw), none] [.ref t, .ref 3] M v M' 0 0 := Ev.back 2 (fun n => rfl) H
  obtain ⟨N2, eN2⟩ : ∃ N, N = (wR M 3 8 t) := ⟨_, rfl⟩
  have hN2 : SQ N2 := by rw [eN2]; exact hS.kr_3_8 a_t
  have H : Ev none e 26 5 [some (.ref 3), some (.ref t), some (.int lw), none] [] N2 v M' 0 0 := by rw [eN2]; exact Ev.pfr rfl rfl rfl hS.1 qa_3 qo_3 H
  have H : Ev none e 26 7 [some (.ref 3), some (.ref t), some (.int lw), none] [.int lw, .ref 3] N2 v M' 0 0 := Ev.back 2 (fun n => rfl) H
  obtain ⟨N4, eN4⟩ : ∃ N, N = (wF N2 3 9 lw) := ⟨_, rfl⟩
  have hN4 : SQ N4 := by rw [eN4]; exact hN2.kf
  have H : Ev none e 26 10 [some (.ref 3), some (.ref t), some (.int lw), none] [] N4 v M' 0 0 := by rw [eN4]; exact Ev.pfi rfl rfl rfl hN2.1 qa_3 qi_3_9 H
  have H : Ev none e 26 11 [some (.ref 3), some (.ref t), some (.int lw), none] [.ref 3] N4 v M' 0 0 := Ev.back 1 (fun n => rfl) H
  have H : Ev none e 26 14 [some (.ref 3), some (.ref t), some (.int lw), none] [.ref (fR N4 3 8)] N4 v M' 0 0 := Ev.back 1 (gs_3 rfl rfl (gf_n hN4.1 qa_3 qn_3_8 (by decide) (by rw [(show fR N4 3 8 = fR N2 3 8 from by rw [eN4]; exact fR_wF).trans (show fR N2 3 8 = t from by rw [eN2]; exact fR_wR_eq hS.1 qa_3 qk_3_8)]; exact a_t) rfl)) H
  rw [(show fR N4 3 8 = fR N2 3 8 from by rw [eN4]; exact fR_wF).trans (show fR N2 3 8 = t from by rw [eN2]; exact fR_wR_eq hS.1 qa_3 qk_3_8)] at H
  obtain ⟨e1, rfl⟩ := Ev.dpos rfl rfl H
  obtain ⟨vK5, MK5, K5, H⟩ := Ev.callb (fun n => gs_7 rfl rfl (show gCal (.invokevirtual 36) 3 (.ref t :: []) N4 = some (.inr (51, [some (.ref t)], [])) from by show @cond (Option ((List Value × Mem) ⊕ (Nat × Lo × List Value))) (true && gRecv N4 (.ref t) 6 && gRoom [] && true) (some (.inr (51, [some (.ref t)], []))) none = _; rw [recv_s hN4.1 a_t qo_28]; rfl)) H
  obtain ⟨pK5, qK5⟩ := g_51 hN4 a_t K5
  rw [pK5, qK5] at H
  obtain ⟨N6, eN6⟩ : ∃ N, N = (X_51 N4 t) := ⟨_, rfl⟩
  have hN6 : SQ N6 := by rw [eN6]; exact X_51_sx hN4 a_t
  rw [← eN6] at H
  have H : Ev none (e1 + 1) 26 17 [some (.ref 3), some (.ref t), some (.int lw), none] [] N6 v M' 0 0 := H
  have H : Ev none (e1 + 1) 26 19 [some (.ref 3), some (.ref t), some (.int lw), none] [.int 0, .ref 3] N6 v M' 0 0 := Ev.back 2 (fun n => rfl) H
  obtain ⟨N8, eN8⟩ : ∃ N, N = (wF N6 3 10 0) := ⟨_, rfl⟩
  have hN8 : SQ N8 := by rw [eN8]; exact hN6.kf
  have H : Ev none (e1 + 1) 26 22 [some (.ref 3), some (.ref t), some (.int lw), none] [] N8 v M' 0 0 := by rw [eN8]; exact Ev.pfi rfl rfl rfl hN6.1 qa_3 qi_3_10 H
  have H : Ev none (e1 + 1) 26 24 [some (.ref 3), some (.ref t), some (.int lw), none] [.int 0, .ref 3] N8 v M' 0 0 := Ev.back 2 (fun n => rfl) H
  obtain ⟨N10, eN10⟩ : ∃ N, N = (wF N8 3 11 0) := ⟨_, rfl⟩
  have hN10 : SQ N10 := by rw [eN10]; exact hN8.kf
  have H : Ev none (e1 + 1) 26 27 [some (.ref 3), some (.ref t), some (.int lw), none] [] N10 v M' 0 0 := by rw [eN10]; exact Ev.pfi rfl rfl rfl hN8.1 qa_3 qi_3_11 H
  have H : Ev none (e1 + 1) 26 29 [some (.ref 3), some (.ref t), some (.int lw), none] [.int 0, .ref 3] N10 v M' 0 0 := Ev.back 2 (fun n => rfl) H
  obtain ⟨N12, eN12⟩ : ∃ N, N = (wF N10 3 12 0) := ⟨_, rfl⟩
  have hN12 : SQ N12 := by rw [eN12]; exact hN10.kf
  have H : Ev none (e1 + 1) 26 32 [some (.ref 3), some (.ref t), some (.int lw), none] [] N12 v M' 0 0 := by rw [eN12]; exact Ev.pfi rfl rfl rfl hN10.1 qa_3 qi_3_12 H
  have H : Ev none (e1 + 1) 26 34 [some (.ref 3), some (.ref t), some (.int lw), none] [.int 0, .ref 3] N12 v M' 0 0 := Ev.back 2 (fun n => rfl) H
  obtain ⟨N14, eN14⟩ : ∃ N, N = (wF N12 3 13 0) := ⟨_, rfl⟩
  have hN14 : SQ N14 := by rw [eN14]; exact hN12.kf
  have H : Ev none (e1 + 1) 26 37 [some (.ref 3), some (.ref t), some (.int lw), none] [] N14 v M' 0 0 := by rw [eN14]; exact Ev.pfi rfl rfl rfl hN12.1 qa_3 qi_3_13 H
  have H : Ev none (e1 + 1) 26 38 [some (.ref 3), some (.ref t), some (.int lw), none] [.ref 3] N14 v M' 0 0 := Ev.back 1 (fun n => rfl) H
  obtain ⟨vK15, MK15, K15, H⟩ := Ev.callb (fun n => gs_7 rfl rfl (show gCal (.invokevirtual 54) 3 (.ref 3 :: []) N14 = some (.inr (28, [some (.ref 3), none, none, none, none], [])) from by show @cond (Option ((List Value × Mem) ⊕ (Nat × Lo × List Value))) (true && gRecv N14 (.ref 3) 3 && gRoom [] && true) (some (.inr (28, [some (.ref 3), none, none, none, none], []))) none = _; rw [recv_s hN14.1 qa_3 qo_3]; rfl)) H
  have K15 : Ev none e1 28 0 [some (.ref 3), none, none, none, none] [] N14 vK15 MK15 0 0 := K15
  have HF := H
  subst eN2 eN4 eN6 eN8 eN10 eN12 eN14
  exact ⟨e1, vK15, MK15, rfl, K15, HF⟩
theorem rt_41 {e : Nat} {M M' : Mem} {v : Option Value} {lw : Int32} {c1 : Option Value} (hS : SQ M) (H : Ev none e 26 41 [some (.ref 3), c1, some (.int lw), none] [] M v M' 0 0) : Ev none e 26 58 [some (.ref 3), c1, some (.int lw), some (.int 0)] [] (wF (wF M 3 6 0) 3 7 (rI M 4 0)) v M' 0 0 := by
  have H : Ev none e 26 43 [some (.ref 3), c1, some (.int lw), none] [.int 0, .ref 3] M v M' 0 0 := Ev.back 2 (fun n => rfl) H
  obtain ⟨N2, eN2⟩ : ∃ N, N = (wF M 3 6 0) := ⟨_, rfl⟩
  have hN2 : SQ N2 := by rw [eN2]; exact hS.kf
  have H : Ev none e 26 46 [some (.ref 3), c1, some (.int lw), none] [] N2 v M' 0 0 := by rw [eN2]; exact Ev.pfi rfl rfl rfl hS.1 qa_3 qi_3_6 H
  have H : Ev none e 26 48 [some (.ref 3), c1, some (.int lw), none] [.ref 3, .ref 3] N2 v M' 0 0 := Ev.back 2 (fun n => rfl) H
  have H : Ev none e 26 51 [some (.ref 3), c1, some (.int lw), none] [.ref 4, .ref 3] N2 v M' 0 0 := Ev.back 1 (gs_3 rfl rfl (gf_u hN2.1 qa_3 qr_3_1 qu_4 rfl)) H
  have H : Ev none e 26 52 [some (.ref 3), c1, some (.int lw), none] [.int 0, .ref 4, .ref 3] N2 v M' 0 0 := Ev.back 1 (fun n => rfl) H
  obtain ⟨b3, H⟩ := Ev.ial rfl rfl hN2.1 qa_4 qw_4 H
  have H : Ev none e 26 53 [some (.ref 3), c1, some (.int lw), none] [.int (rI N2 4 0), .ref 3] N2 v M' 0 0 := H
  rw [show rI N2 4 0 = rI M 4 0 from by rw [eN2]; exact rN_wF] at H
  obtain ⟨N5, eN5⟩ : ∃ N, N = (wF N2 3 7 (rI M 4 0)) := ⟨_, rfl⟩
  have hN5 : SQ N5 := by rw [eN5]; exact hN2.kf
  have H : Ev none e 26 56 [some (.ref 3), c1, some (.int lw), none] [] N5 v M' 0 0 := by rw [eN5]; exact Ev.pfi rfl rfl rfl hN2.1 qa_3 qi_3_7 H
  have H : Ev none e 26 58 [some (.ref 3), c1, some (.int lw), some (.int 0)] [] N5 v M' 0 0 := Ev.back 2 (fun n => rfl) H
  have HF := H
  subst eN2 eN5
  exact HF
theorem rt_58 {e : Nat} {M M' : Mem} {v : Option Value} {lw nn : Int32} {c1 : Option Value} (hS : SQ M) (H : Ev none e 26 58 [some (.ref 3), c1, some (.int lw), some (.int nn)] [] M v M' 0 0) : (16 < nn ∧ v = some (.int 0) ∧ M' = M) ∨ (¬ (16 < nn) ∧ (zI M 3 7) = 0 ∧ (zI M 1 1) ≤ 400 ∧ v = some (.int 1) ∧ M' = M) ∨ (¬ (16 < nn) ∧ (zI M 3 7) = 0 ∧ ¬ ((zI M 1 1) ≤ 400) ∧ (∃ e1 v1 M1, e = e1 + 1 ∧ Ev none e1 27 0 [some (.ref 3), some (.int 1)] [] M v1 M1 0 0 ∧ Ev none e 26 89 [some (.ref 3), c1, some (.int lw), some (.int nn)] (v1.toList ++ []) M1 v M' 0 0)) ∨ (¬ (16 < nn) ∧ ¬ ((zI M 3 7) = 0) ∧ (∃ e1 v1 M1, e = e1 + 1 ∧ Ev none e1 33 0 [some (.ref 3), none, none, none, none, none, none] [] M v1 M1 0 0 ∧ Ev none e 26 102 [some (.ref 3), c1, some (.int lw), some (.int nn)] (v1.toList ++ []) M1 v M' 0 0)) := by
  have H : Ev none e 26 (if 16 < nn then 113 else 64) [some (.ref 3), c1, some (.int lw), some (.int nn)] [] M v M' 0 0 := Ev.back 3 (fun n => rfl) H
  by_cases h1 : 16 < nn
  · rw [if_pos h1] at H
    have H : Ev none e 26 114 [some (.ref 3), c1, some (.int lw), some (.int nn)] [.int 0] M v M' 0 0 := Ev.back 1 (fun n => rfl) H
    obtain ⟨z1, z2⟩ := Ev.retz rfl rfl H
    exact Or.inl ⟨h1, z1, z2⟩
  · rw [if_neg h1] at H
    have H : Ev none e 26 65 [some (.ref 3), c1, some (.int lw), some (.int nn)] [.ref 3] M v M' 0 0 := Ev.back 1 (fun n => rfl) H
    have H : Ev none e 26 68 [some (.ref 3), c1, some (.int lw), some (.int nn)] [.int (zI M 3 7)] M v M' 0 0 := Ev.back 1 (gs_3 rfl rfl (gf_i hS.1 qa_3 qi_3_7 rfl)) H
    have H : Ev none e 26 (if (zI M 3 7) = 0 then 71 else 98) [some (.ref 3), c1, some (.int lw), some (.int nn)] [] M v M' 0 0 := Ev.back 1 (fun n => rfl) H
    by_cases h2 : (zI M 3 7) = 0
    · rw [if_pos h2] at H
      have H : Ev none e 26 72 [some (.ref 3), c1, some (.int lw), some (.int nn)] [.ref 3] M v M' 0 0 := Ev.back 1 (fun n => rfl) H
      have H : Ev none e 26 75 [some (.ref 3), c1, some (.int lw), some (.int nn)] [.ref 1] M v M' 0 0 := Ev.back 1 (gs_3 rfl rfl (gf_u hS.1 qa_3 qr_3_0 qu_1 rfl)) H
      have H : Ev none e 26 78 [some (.ref 3), c1, some (.int lw), some (.int nn)] [.int (zI M 1 1)] M v M' 0 0 := Ev.back 1 (gs_3 rfl rfl (gf_i hS.1 qa_1 qi_1_1 rfl)) H
      have H : Ev none e 26 (if (zI M 1 1) ≤ 400 then 92 else 84) [some (.ref 3), c1, some (.int lw), some (.int nn)] [] M v M' 0 0 := Ev.back 2 (fun n => rfl) H
      by_cases h3 : (zI M 1 1) ≤ 400
      · rw [if_pos h3] at H
        have H : Ev none e 26 97 [some (.ref 3), c1, some (.int lw), some (.int nn)] [.int 1] M v M' 0 0 := Ev.back 2 (fun n => rfl) H
        obtain ⟨z1, z2⟩ := Ev.retz rfl rfl H
        exact Or.inr (Or.inl ⟨h1, h2, h3, z1, z2⟩)
      · rw [if_neg h3] at H
        have H : Ev none e 26 86 [some (.ref 3), c1, some (.int lw), some (.int nn)] [.int 1, .ref 3] M v M' 0 0 := Ev.back 2 (fun n => rfl) H
        obtain ⟨e1, rfl⟩ := Ev.dpos rfl rfl H
        obtain ⟨vK4, MK4, K4, H⟩ := Ev.callb (fun n => gs_7 rfl rfl (show gCal (.invokevirtual 68) 3 (.int 1 :: .ref 3 :: []) M = some (.inr (27, [some (.ref 3), some (.int 1)], [])) from by show @cond (Option ((List Value × Mem) ⊕ (Nat × Lo × List Value))) (true && gRecv M (.ref 3) 3 && gRoom [] && true) (some (.inr (27, [some (.ref 3), some (.int 1)], []))) none = _; rw [recv_s hS.1 qa_3 qo_3]; rfl)) H
        have K4 : Ev none e1 27 0 [some (.ref 3), some (.int 1)] [] M vK4 MK4 0 0 := K4
        have HF := H
        exact Or.inr (Or.inr (Or.inl ⟨h1, h2, h3, ⟨e1, vK4, MK4, rfl, K4, HF⟩⟩))
    · rw [if_neg h2] at H
      have H : Ev none e 26 99 [some (.ref 3), c1, some (.int lw), some (.int nn)] [.ref 3] M v M' 0 0 := Ev.back 1 (fun n => rfl) H
      obtain ⟨e1, rfl⟩ := Ev.dpos rfl rfl H
      obtain ⟨vK5, MK5, K5, H⟩ := Ev.callb (fun n => gs_7 rfl rfl (show gCal (.invokevirtual 72) 3 (.ref 3 :: []) M = some (.inr (33, [some (.ref 3), none, none, none, none, none, none], [])) from by show @cond (Option ((List Value × Mem) ⊕ (Nat × Lo × List Value))) (true && gRecv M (.ref 3) 3 && gRoom [] && true) (some (.inr (33, [some (.ref 3), none, none, none, none, none, none], []))) none = _; rw [recv_s hS.1 qa_3 qo_3]; rfl)) H
      have K5 : Ev none e1 33 0 [some (.ref 3), none, none, none, none, none, none] [] M vK5 MK5 0 0 := K5
      have HF := H
      exact Or.inr (Or.inr (Or.inr (⟨h1, h2, ⟨e1, vK5, MK5, rfl, K5, HF⟩⟩)))
theorem rt_89 {e : Nat} {M M' : Mem} {v : Option Value} {lw nn y : Int32} {c1 : Option Value} (hS : SQ M) (H : Ev none e 26 89 [some (.ref 3), c1, some (.int lw), some (.int nn)] [.int y] M v M' 0 0) : (y = 0 ∧ v = some (.int 0) ∧ M' = M) ∨ (¬ (y = 0) ∧ v = some (.int 1) ∧ M' = M) := by
  have H : Ev none e 26 (if y = 0 then 96 else 92) [some (.ref 3), c1, some (.int lw), some (.int nn)] [] M v M' 0 0 := Ev.back 1 (fun n => rfl) H
  by_cases h1 : y = 0
  · rw [if_pos h1] at H
    have H : Ev none e 26 97 [some (.ref 3), c1, some (.int lw), some (.int nn)] [.int 0] M v M' 0 0 := Ev.back 1 (fun n => rfl) H
    obtain ⟨z1, z2⟩ := Ev.retz rfl rfl H
    exact Or.inl ⟨h1, z1, z2⟩
  · rw [if_neg h1] at H
    have H : Ev none e 26 97 [some (.ref 3), c1, some (.int lw), some (.int nn)] [.int 1] M v M' 0 0 := Ev.back 2 (fun n => rfl) H
    obtain ⟨z1, z2⟩ := Ev.retz rfl rfl H
    exact Or.inr (⟨h1, z1, z2⟩)
theorem rt_102 {e : Nat} {M M' : Mem} {v : Option Value} {lw nn y : Int32} {c1 : Option Value} (hS : SQ M) (H : Ev none e 26 102 [some (.ref 3), c1, some (.int lw), some (.int nn)] [.int y] M v M' 0 0) : (y = 0 ∧ v = some (.int 0) ∧ M' = M) ∨ (¬ (y = 0) ∧ Ev none e 26 58 [some (.ref 3), c1, some (.int lw), some (.int (nn + 1))] [] M v M' 0 0) := by
  have H : Ev none e 26 (if y = 0 then 105 else 107) [some (.ref 3), c1, some (.int lw), some (.int nn)] [] M v M' 0 0 := Ev.back 1 (fun n => rfl) H
  by_cases h1 : y = 0
  · rw [if_pos h1] at H
    have H : Ev none e 26 106 [some (.ref 3), c1, some (.int lw), some (.int nn)] [.int 0] M v M' 0 0 := Ev.back 1 (fun n => rfl) H
    obtain ⟨z1, z2⟩ := Ev.retz rfl rfl H
    exact Or.inl ⟨h1, z1, z2⟩
  · rw [if_neg h1] at H
    have H : Ev none e 26 58 [some (.ref 3), c1, some (.int lw), some (.int (nn + 1))] [] M v M' 0 0 := Ev.back 2 (fun n => rfl) H
    have HF := H
    exact Or.inr (⟨h1, HF⟩)
theorem lw_0 {e : Nat} {M M' : Mem} {v : Option Value} (hS : SQ M) (H : Ev none e 85 0 [some (.ref 0), none, none] [] M v M' 0 0) : (∃ e1 v1 M1, e = e1 + 1 ∧ Ev none e1 26 0 [some (.ref 3), some (.ref (fR M 104 3)), some (.int 1), none] [] M v1 M1 0 0 ∧ Ev none e 85 15 [some (.ref 0), none, none] (v1.toList ++ []) M1 v M' 0 0) := by
  have H : Ev none e 85 1 [some (.ref 0), none, none] [.ref 0] M v M' 0 0 := Ev.back 1 (fun n => rfl) H
  have H : Ev none e 85 4 [some (.ref 0), none, none] [.ref 3] M v M' 0 0 := Ev.back 1 (gs_3 rfl rfl (gf_u hS.1 qa_0 qr_0_1 qu_3 rfl)) H
  have H : Ev none e 85 5 [some (.ref 0), none, none] [.ref 0, .ref 3] M v M' 0 0 := Ev.back 1 (fun n => rfl) H
  have H : Ev none e 85 8 [some (.ref 0), none, none] [.ref 104, .ref 3] M v M' 0 0 := Ev.back 1 (gs_3 rfl rfl (gf_u hS.1 qa_0 qr_0_3 qu_22 rfl)) H
  have H : Ev none e 85 11 [some (.ref 0), none, none] [.ref (fR M 104 3), .ref 3] M v M' 0 0 := Ev.back 1 (gs_3 rfl rfl (gf_r hS.1 qa_104 qr_22_3 rfl)) H
  have H : Ev none e 85 12 [some (.ref 0), none, none] [.int 1, .ref (fR M 104 3), .ref 3] M v M' 0 0 := Ev.back 1 (fun n => rfl) H
  obtain ⟨e1, rfl⟩ := Ev.dpos rfl rfl H
  obtain ⟨vK1, MK1, K1, H⟩ := Ev.callb (fun n => gs_7 rfl rfl (show gCal (.invokevirtual 130) 10 (.int 1 :: .ref (fR M 104 3) :: .ref 3 :: []) M = some (.inr (26, [some (.ref 3), some (.ref (fR M 104 3)), some (.int 1), none], [])) from by show @cond (Option ((List Value × Mem) ⊕ (Nat × Lo × List Value))) (true && gRecv M (.ref 3) 3 && gRoom [] && true) (some (.inr (26, [some (.ref 3), some (.ref (fR M 104 3)), some (.int 1), none], []))) none = _; rw [recv_s hS.1 qa_3 qo_3]; rfl)) H
  have K1 : Ev none e1 26 0 [some (.ref 3), some (.ref (fR M 104 3)), some (.int 1), none] [] M vK1 MK1 0 0 := K1
  have HF := H
  exact ⟨e1, vK1, MK1, rfl, K1, HF⟩
theorem lw_15 {e : Nat} {M M' : Mem} {v : Option Value} {y : Int32} (hS : SQ M) (H : Ev none e 85 15 [some (.ref 0), none, none] [.int y] M v M' 0 0) : (y = 0 ∧ (∃ e1 v1 M1, e = e1 + 1 ∧ Ev none e1 87 0 [some (.ref 0), some (.int y), some (.ref (fR M 104 2))] [] M v1 M1 0 0 ∧ Ev none e 85 62 [some (.ref 0), some (.int y), none] (v1.toList ++ []) M1 v M' 0 0)) ∨ (¬ (y = 0) ∧ (∃ e1 v1 M1, e = e1 + 1 ∧ Ev none e1 87 0 [some (.ref 0), some (.int y), some (.ref (fR (wR (wR M 104 2 (fR M 104 3)) 104 3 (fR M 104 2)) 104 2))] [] (wR (wR M 104 2 (fR M 104 3)) 104 3 (fR M 104 2)) v1 M1 0 0 ∧ Ev none e 85 62 [some (.ref 0), some (.int y), some (.ref (fR M 104 2))] (v1.toList ++ []) M1 v M' 0 0)) := by
  have H : Ev none e 85 (if y = 0 then 50 else 20) [some (.ref 0), some (.int y), none] [] M v M' 0 0 := Ev.back 3 (fun n => rfl) H
  by_cases h1 : y = 0
  · rw [if_pos h1] at H
    have H : Ev none e 85 53 [some (.ref 0), some (.int y), none] [.ref 0, .int y, .ref 0] M v M' 0 0 := Ev.back 3 (fun n => rfl) H
    have H : Ev none e 85 56 [some (.ref 0), some (.int y), none] [.ref 104, .int y, .ref 0] M v M' 0 0 := Ev.back 1 (gs_3 rfl rfl (gf_u hS.1 qa_0 qr_0_3 qu_22 rfl)) H
    have H : Ev none e 85 59 [some (.ref 0), some (.int y), none] [.ref (fR M 104 2), .int y, .ref 0] M v M' 0 0 := Ev.back 1 (gs_3 rfl rfl (gf_r hS.1 qa_104 qr_22_2 rfl)) H
    obtain ⟨e1, rfl⟩ := Ev.dpos rfl rfl H
    obtain ⟨vK2, MK2, K2, H⟩ := Ev.callb (fun n => gs_7 rfl rfl (show gCal (.invokevirtual 137) 10 (.ref (fR M 104 2) :: .int y :: .ref 0 :: []) M = some (.inr (87, [some (.ref 0), some (.int y), some (.ref (fR M 104 2))], [])) from by show @cond (Option ((List Value × Mem) ⊕ (Nat × Lo × List Value))) (true && gRecv M (.ref 0) 10 && gRoom [] && true) (some (.inr (87, [some (.ref 0), some (.int y), some (.ref (fR M 104 2))], []))) none = _; rw [recv_s hS.1 qa_0 qo_0]; rfl)) H
    have K2 : Ev none e1 87 0 [some (.ref 0), some (.int y), some (.ref (fR M 104 2))] [] M vK2 MK2 0 0 := K2
    have HF := H
    exact Or.inl ⟨h1, ⟨e1, vK2, MK2, rfl, K2, HF⟩⟩
  · rw [if_neg h1] at H
    have H : Ev none e 85 21 [some (.ref 0), some (.int y), none] [.ref 0] M v M' 0 0 := Ev.back 1 (fun n => rfl) H
    have H : Ev none e 85 24 [some (.ref 0), some (.int y), none] [.ref 104] M v M' 0 0 := Ev.back 1 (gs_3 rfl rfl (gf_u hS.1 qa_0 qr_0_3 qu_22 rfl)) H
    have H : Ev none e 85 27 [some (.ref 0), some (.int y), none] [.ref (fR M 104 2)] M v M' 0 0 := Ev.back 1 (gs_3 rfl rfl (gf_r hS.1 qa_104 qr_22_2 rfl)) H
    have H : Ev none e 85 29 [some (.ref 0), some (.int y), some (.ref (fR M 104 2))] [.ref 0] M v M' 0 0 := Ev.back 2 (fun n => rfl) H
    have H : Ev none e 85 32 [some (.ref 0), some (.int y), some (.ref (fR M 104 2))] [.ref 104] M v M' 0 0 := Ev.back 1 (gs_3 rfl rfl (gf_u hS.1 qa_0 qr_0_3 qu_22 rfl)) H
    have H : Ev none e 85 33 [some (.ref 0), some (.int y), some (.ref (fR M 104 2))] [.ref 0, .ref 104] M v M' 0 0 := Ev.back 1 (fun n => rfl) H
    have H : Ev none e 85 36 [some (.ref 0), some (.int y), some (.ref (fR M 104 2))] [.ref 104, .ref 104] M v M' 0 0 := Ev.back 1 (gs_3 rfl rfl (gf_u hS.1 qa_0 qr_0_3 qu_22 rfl)) H
    have H : Ev none e 85 39 [some (.ref 0), some (.int y), some (.ref (fR M 104 2))] [.ref (fR M 104 3), .ref 104] M v M' 0 0 := Ev.back 1 (gs_3 rfl rfl (gf_r hS.1 qa_104 qr_22_3 rfl)) H
    obtain ⟨N4, eN4⟩ : ∃ N, N = (wR M 104 2 (fR M 104 3)) := ⟨_, rfl⟩
    have hN4 : SQ N4 := by rw [eN4]; exact hS.kr_22_2 (hS.1.fr qa_104 qr_22_3).2
    have H : Ev none e 85 42 [some (.ref 0), some (.int y), some (.ref (fR M 104 2))] [] N4 v M' 0 0 := by rw [eN4]; exact Ev.pfr rfl rfl rfl hS.1 qa_104 qo_22 H
    have H : Ev none e 85 43 [some (.ref 0), some (.int y), some (.ref (fR M 104 2))] [.ref 0] N4 v M' 0 0 := Ev.back 1 (fun n => rfl) H
    have H : Ev none e 85 46 [some (.ref 0), some (.int y), some (.ref (fR M 104 2))] [.ref 104] N4 v M' 0 0 := Ev.back 1 (gs_3 rfl rfl (gf_u hN4.1 qa_0 qr_0_3 qu_22 rfl)) H
    have H : Ev none e 85 47 [some (.ref 0), some (.int y), some (.ref (fR M 104 2))] [.ref (fR M 104 2), .ref 104] N4 v M' 0 0 := Ev.back 1 (fun n => rfl) H
    obtain ⟨N6, eN6⟩ : ∃ N, N = (wR N4 104 3 (fR M 104 2)) := ⟨_, rfl⟩
    have hN6 : SQ N6 := by rw [eN6]; exact hN4.kr_22_3 (hS.1.fr qa_104 qr_22_2).2
    have H : Ev none e 85 50 [some (.ref 0), some (.int y), some (.ref (fR M 104 2))] [] N6 v M' 0 0 := by rw [eN6]; exact Ev.pfr rfl rfl rfl hN4.1 qa_104 qo_22 H
    have H : Ev none e 85 53 [some (.ref 0), some (.int y), some (.ref (fR M 104 2))] [.ref 0, .int y, .ref 0] N6 v M' 0 0 := Ev.back 3 (fun n => rfl) H
    have H : Ev none e 85 56 [some (.ref 0), some (.int y), some (.ref (fR M 104 2))] [.ref 104, .int y, .ref 0] N6 v M' 0 0 := Ev.back 1 (gs_3 rfl rfl (gf_u hN6.1 qa_0 qr_0_3 qu_22 rfl)) H
    have H : Ev none e 85 59 [some (.ref 0), some (.int y), some (.ref (fR M 104 2))] [.ref (fR N6 104 2), .int y, .ref 0] N6 v M' 0 0 := Ev.back 1 (gs_3 rfl rfl (gf_r hN6.1 qa_104 qr_22_2 rfl)) H
    obtain ⟨e1, rfl⟩ := Ev.dpos rfl rfl H
    obtain ⟨vK7, MK7, K7, H⟩ := Ev.callb (fun n => gs_7 rfl rfl (show gCal (.invokevirtual 137) 10 (.ref (fR N6 104 2) :: .int y :: .ref 0 :: []) N6 = some (.inr (87, [some (.ref 0), some (.int y), some (.ref (fR N6 104 2))], [])) from by show @cond (Option ((List Value × Mem) ⊕ (Nat × Lo × List Value))) (true && gRecv N6 (.ref 0) 10 && gRoom [] && true) (some (.inr (87, [some (.ref 0), some (.int y), some (.ref (fR N6 104 2))], []))) none = _; rw [recv_s hN6.1 qa_0 qo_0]; rfl)) H
    have K7 : Ev none e1 87 0 [some (.ref 0), some (.int y), some (.ref (fR N6 104 2))] [] N6 vK7 MK7 0 0 := K7
    have HF := H
    subst eN4 eN6
    exact Or.inr (⟨h1, ⟨e1, vK7, MK7, rfl, K7, HF⟩⟩)
theorem lw_62 {e : Nat} {M M' : Mem} {v : Option Value} {y z : Int32} {c2 : Option Value} (hS : SQ M) (H : Ev none e 85 62 [some (.ref 0), some (.int y), c2] [.int z] M v M' 0 0) : v = some (.int z) ∧ M' = M := by
  obtain ⟨z1, z2⟩ := Ev.retz rfl rfl H
  exact ⟨z1, z2⟩
theorem rends_0 {e : Nat} {M M' : Mem} {v : Option Value} {y : Int32} {t : Nat} (hS : SQ M) (a_t : gNth sT t = some 28) (H : Ev none e 87 0 [some (.ref 0), some (.int y), some (.ref t)] [] M v M' 0 0) : (y = 0 ∧ v = some (.int ((-1) - (zI M 3 13))) ∧ M' = (wF (wF M 1 1 0) 0 15 (zI M 3 12))) ∨ (¬ (y = 0) ∧ v = some (.int (zI M t 8)) ∧ M' = (wF (wF M 1 1 0) 0 15 (zI M 3 12))) := by
  have H : Ev none e 87 1 [some (.ref 0), some (.int y), some (.ref t)] [.ref 0] M v M' 0 0 := Ev.back 1 (fun n => rfl) H
  have H : Ev none e 87 4 [some (.ref 0), some (.int y), some (.ref t)] [.ref 1] M v M' 0 0 := Ev.back 1 (gs_3 rfl rfl (gf_u hS.1 qa_0 qr_0_0 qu_1 rfl)) H
  have H : Ev none e 87 5 [some (.ref 0), some (.int y), some (.ref t)] [.int 0, .ref 1] M v M' 0 0 := Ev.back 1 (fun n => rfl) H
  obtain ⟨N2, eN2⟩ : ∃ N, N = (wF M 1 1 0) := ⟨_, rfl⟩
  have hN2 : SQ N2 := by rw [eN2]; exact hS.kf
  have H : Ev none e 87 8 [some (.ref 0), some (.int y), some (.ref t)] [] N2 v M' 0 0 := by rw [eN2]; exact Ev.pfi rfl rfl rfl hS.1 qa_1 qi_1_1 H
  have H : Ev none e 87 10 [some (.ref 0), some (.int y), some (.ref t)] [.ref 0, .ref 0] N2 v M' 0 0 := Ev.back 2 (fun n => rfl) H
  have H : Ev none e 87 13 [some (.ref 0), some (.int y), some (.ref t)] [.ref 3, .ref 0] N2 v M' 0 0 := Ev.back 1 (gs_3 rfl rfl (gf_u hN2.1 qa_0 qr_0_1 qu_3 rfl)) H
  have H : Ev none e 87 16 [some (.ref 0), some (.int y), some (.ref t)] [.int (zI N2 3 12), .ref 0] N2 v M' 0 0 := Ev.back 1 (gs_3 rfl rfl (gf_i hN2.1 qa_3 qi_3_12 rfl)) H
  rw [show zI N2 3 12 = zI M 3 12 from by rw [eN2]; exact fI_wF_ne (fun q => absurd q.2 (by decide))] at H
  obtain ⟨N4, eN4⟩ : ∃ N, N = (wF N2 0 15 (zI M 3 12)) := ⟨_, rfl⟩
  have hN4 : SQ N4 := by rw [eN4]; exact hN2.kf
  have H : Ev none e 87 19 [some (.ref 0), some (.int y), some (.ref t)] [] N4 v M' 0 0 := by rw [eN4]; exact Ev.pfi rfl rfl rfl hN2.1 qa_0 qi_0_15 H
  have H : Ev none e 87 (if y = 0 then 30 else 23) [some (.ref 0), some (.int y), some (.ref t)] [] N4 v M' 0 0 := Ev.back 2 (fun n => rfl) H
  by_cases h5 : y = 0
  · rw [if_pos h5] at H
    have H : Ev none e 87 32 [some (.ref 0), some (.int y), some (.ref t)] [.ref 0, .int (-1)] N4 v M' 0 0 := Ev.back 2 (fun n => rfl) H
    have H : Ev none e 87 35 [some (.ref 0), some (.int y), some (.ref t)] [.ref 3, .int (-1)] N4 v M' 0 0 := Ev.back 1 (gs_3 rfl rfl (gf_u hN4.1 qa_0 qr_0_1 qu_3 rfl)) H
    have H : Ev none e 87 38 [some (.ref 0), some (.int y), some (.ref t)] [.int (zI N4 3 13), .int (-1)] N4 v M' 0 0 := Ev.back 1 (gs_3 rfl rfl (gf_i hN4.1 qa_3 qi_3_13 rfl)) H
    rw [(show zI N4 3 13 = zI N2 3 13 from by rw [eN4]; exact fI_wF_ne (fun q => absurd q.2 (by decide))).trans (show zI N2 3 13 = zI M 3 13 from by rw [eN2]; exact fI_wF_ne (fun q => absurd q.2 (by decide)))] at H
    obtain ⟨m6, em6⟩ : ∃ m : Int32, m = (-1) := ⟨_, rfl⟩
    have H : Ev none e 87 38 [some (.ref 0), some (.int y), some (.ref t)] [.int (zI M 3 13), .int m6] N4 v M' 0 0 := by rw [em6]; exact H
    have H : Ev none e 87 39 [some (.ref 0), some (.int y), some (.ref t)] [.int (m6 - (zI M 3 13))] N4 v M' 0 0 := Ev.back 1 (fun n => rfl) H
    rw [em6] at H
    obtain ⟨z1, z2⟩ := Ev.retz rfl rfl H
    subst eN2 eN4
    exact Or.inl ⟨h5, z1, z2⟩
  · rw [if_neg h5] at H
    have H : Ev none e 87 24 [some (.ref 0), some (.int y), some (.ref t)] [.ref t] N4 v M' 0 0 := Ev.back 1 (fun n => rfl) H
    have H : Ev none e 87 27 [some (.ref 0), some (.int y), some (.ref t)] [.int (zI N4 t 8)] N4 v M' 0 0 := Ev.back 1 (gs_3 rfl rfl (gf_i hN4.1 a_t qi_28_8 rfl)) H
    rw [(show zI N4 t 8 = zI N2 t 8 from by rw [eN4]; exact fI_wF_ne (fun q => absurd q.2 (by decide))).trans (show zI N2 t 8 = zI M t 8 from by rw [eN2]; exact fI_wF_ne (fun q => absurd q.2 (by decide)))] at H
    have H : Ev none e 87 39 [some (.ref 0), some (.int y), some (.ref t)] [.int (zI M t 8)] N4 v M' 0 0 := Ev.back 1 (fun n => rfl) H
    obtain ⟨z1, z2⟩ := Ev.retz rfl rfl H
    subst eN2 eN4
    exact Or.inr (⟨h5, z1, z2⟩)
/-! THE CLASS READS A TEXT -/
noncomputable def txB (B : Nat → Int32) (law : Bool) (C : Sg → PR) (big : Bool) : Nat → Sg → List Lnq → PLn
  | 0, _, _ => .inr (0, 0)
  | j + 1, s, ls => if (hdT s.1).1 = 0 then (bif big then .inr (1, (hdT s.1).2.1) else .inl (s, ls)) else (match lnB B law C s ls with
    | .inr f => .inr f
    | .inl q => txB B law C big j q.1 q.2)
theorem lnB_len {B : Nat → Int32} {law : Bool} {C : Sg → PR} {s : Sg} {ls : List Lnq} {q : Sg × List Lnq} (h : lnB B law C s ls = .inl q) : q.2.length = ls.length + 1 := by
  have hE : ∀ {s x m nu fr q}, endB s ls x m nu fr = .inl q → q.2.length = ls.length + 1 := fun {s x m nu fr q} h => by
    unfold endB at h
    split at h
    · cases h
    · cases h
      rw [List.length_append]
      rfl
  have hC : ∀ {s x m nu fr q}, cndB B C s ls x m nu fr = .inl q → q.2.length = ls.length + 1 := fun {s x m nu fr q} h => by
    unfold cndB at h
    split at h
    · split at h
      · cases h
      · exact hE h
    · split at h
      · split at h
        · cases h
        · exact hE h
      · exact hE h
  have hN : ∀ {s x m q}, numB B C s ls x m = .inl q → q.2.length = ls.length + 1 := fun {s x m q} h => by
    unfold numB at h
    split at h
    · cases h
    · split at h
      · cases h
      · exact hC h
  unfold lnB at h
  split at h
  · cases h
  · split at h
    · cases h
    · unfold bodB at h
      split at h
      · exact hC h
      · split at h
        · split at h
          · cases h
          · exact hN h
        · exact hN h
section CTX
variable {n t : Nat} {B : Nat → Int32} {M M' : Mem} {s : Sg} {ls : List Lnq}
theorem law_cases {w : List Int32} (h : ¬ ixF w lawW 0 < 0) : ixF w lawW 0 = 0 ∨ ixF w lawW 0 = 1 ∨ ixF w lawW 0 = 2 ∨ ixF w lawW 0 = 3 ∨ ixF w lawW 0 = 4 := by
  rcases ixF_bd (w := w) lawW 0 (by decide) (by decide) with q | ⟨q1, q2, _⟩
  · rw [q] at h
    exact absurd (by decide) h
  · have z0 : (0 : Int32).toInt = 0 := rfl
    have h4 : (lawW.length : Int) = 5 := rfl
    obtain ⟨m, hm, he⟩ := i32_in (a := ixF w lawW 0) (k := 4) (by omega) (by omega) (by omega)
    rw [he]
    exact (by decide : ∀ m : Nat, m ≤ 4 → nI m = 0 ∨ nI m = 1 ∨ nI m = 2 ∨ nI m = 3 ∨ nI m = 4) m hm
theorem hab_cases {w : List Int32} (h : ¬ ixF w habW 0 < 0) : ixF w habW 0 = 0 ∨ ixF w habW 0 = 1 ∨ ixF w habW 0 = 2 := by
  rcases ixF_bd (w := w) habW 0 (by decide) (by decide) with q | ⟨q1, q2, _⟩
  · rw [q] at h
    exact absurd (by decide) h
  · have z0 : (0 : Int32).toInt = 0 := rfl
    have h4 : (habW.length : Int) = 3 := rfl
    obtain ⟨m, hm, he⟩ := i32_in (a := ixF w habW 0) (k := 2) (by omega) (by omega) (by omega)
    rw [he]
    exact (by decide : ∀ m : Nat, m ≤ 2 → nI m = 0 ∨ nI m = 1 ∨ nI m = 2) m hm
theorem ix_wd {tk : Tok} {ws : List (List Int32)} (hl : (ws.length : Int) ≤ 50) (hne : ∀ u ∈ ws, u ≠ []) (h : ¬ ixF (wdS B tk) ws 0 < 0) : tk.1 = 2 := by
  have z0 : (0 : Int32).toInt = 0 := rfl
  rcases ixF_bd (w := wdS B tk) ws 0 (by decide) (by omega) with q | ⟨_, _, q3⟩
  · rw [q] at h
    exact absurd (by decide) h
  · exact wd_ne (B := B) (u := wdS B tk) rfl (hne _ q3)
theorem ln_ok {e : Nat} {v : Option Value} {law : Bool} (ht : gNth sT t = some 28) (hn2 : n ≤ 440) (hCL : CL B n t M s ls) (hlw : zI M 3 9 = bif law then 1 else 0) (H : Ev none (e + 1) 33 0 [some (.ref 3), none, none, none, none, none, none] [] M v M' 0 0) : FA (fLq t) (wLn t) M M' ∧ LNr B n t M' v (lnB B law ((prS B e).1 1) s ls) := by
  have hC := hCL.1
  have h8 := hC.2.2.2.2.2.1
  have hneg : ∀ x : Int32, x < 0 ↔ ¬ 0 ≤ x := fun x => by rw [Int32.lt_iff_toInt_lt, Int32.le_iff_toInt_le]; omega
  have hz : (zI M 3 9 = 0) ↔ law = false := by
    rw [hlw]
    cases law
    · exact ⟨fun _ => rfl, fun _ => rfl⟩
    · exact ⟨fun q => absurd q (by decide), fun q => by cases q⟩
  have e27 : ∀ {e1 : Nat} {v2 : Option Value} {M2 : Mem} {a : Int32}, Ev none e1 27 0 [some (.ref 3), some (.int 1)] [] M v2 M2 0 0 → Ev none (e + 1) 33 28 [some (.ref 3), some (.int a), none, none, none, none, none] (v2.toList ++ []) M2 v M' 0 0 → FA (fLq t) (wLn t) M M' ∧ ERt M' v (1, (hdT s.1).2.1) := by
    intro e1 v2 M2 a H2 H
    obtain ⟨f1, f2⟩ := hC.err (v := v) (M' := M') H2 (fun y hy S => by subst hy; exact ln_28 S (by rw [(hC.fail H2).1.fr (by simp [fP]), h8]; exact ht) H)
    exact ⟨f1.ln, f2⟩
  unfold lnB kdS
  rcases ln_0 hC.1 (by rw [h8]; exact ht) H with ⟨g1, e1, v1, M1, he, H1, H⟩ | ⟨g1, e1, v1, M1, he, H1, H⟩
  · have hl := hz.mp g1
    subst hl
    cases he
    obtain ⟨rfl, rfl⟩ := amq_all (ws := habW) hC.1 hn2 hC.2.2.1 rfl (by decide) (List.cons_ne_nil _ _) (by decide) (by decide) H1
    rw [hC.wd] at H
    show FA (fLq t) (wLn t) M1 M' ∧ LNr B n t M' v (if (if ixF (wdS B (hdT s.1)) habW 0 < 0 then (-1 : Int32) else 5 + ixF (wdS B (hdT s.1)) habW 0) < 0 then .inr (1, (hdT s.1).2.1) else if 16 ≤ ls.length ∨ (onceB (if ixF (wdS B (hdT s.1)) habW 0 < 0 then (-1 : Int32) else 5 + ixF (wdS B (hdT s.1)) habW 0) = true ∧ hasK ls (if ixF (wdS B (hdT s.1)) habW 0 < 0 then (-1 : Int32) else 5 + ixF (wdS B (hdT s.1)) habW 0) = true) then .inr (3, (hdT s.1).2.1) else bodB B ((prS B e).1 1) (s.1.tail, s.2.1, s.2.2) ls (if ixF (wdS B (hdT s.1)) habW 0 < 0 then (-1 : Int32) else 5 + ixF (wdS B (hdT s.1)) habW 0))
    by_cases hx : ixF (wdS B (hdT s.1)) habW 0 < 0
    · rw [if_pos hx, if_pos (by decide)]
      rcases ln_18 hC.1 (by rw [h8]; exact ht) H with ⟨q, _⟩ | ⟨q, _⟩ | ⟨_, e2, v2, M2, he, H2, H⟩
      · exact absurd q ((hneg _).mp hx)
      · exact absurd q ((hneg _).mp hx)
      · exact e27 H2 H
    · have h2t := ix_wd (by decide) (by decide) hx
      rw [if_neg hx]
      rcases ln_18 hC.1 (by rw [h8]; exact ht) H with ⟨_, _, H⟩ | ⟨_, q, _⟩ | ⟨q, _⟩
      · rcases hab_cases hx with hk | hk | hk
        · rw [hk] at H ⊢
          rw [if_neg (by decide)]
          exact li5_ok ht hn2 hCL h2t H
        · rw [hk] at H ⊢
          rw [if_neg (by decide)]
          exact li6_ok ht hn2 hCL h2t H
        · rw [hk] at H ⊢
          rw [if_neg (by decide)]
          exact li7_ok ht hn2 hCL h2t H
      · exact absurd g1 q
      · exact absurd ((hneg _).mpr q) hx
  · have hl : law = true := by
      cases law
      · exact absurd (hz.mpr rfl) g1
      · rfl
    subst hl
    cases he
    obtain ⟨rfl, rfl⟩ := amq_all (ws := lawW) hC.1 hn2 hC.2.2.1 rfl (by decide) (List.cons_ne_nil _ _) (by decide) (by decide) H1
    rw [hC.wd] at H
    show FA (fLq t) (wLn t) M1 M' ∧ LNr B n t M' v (if ixF (wdS B (hdT s.1)) lawW 0 < 0 then .inr (1, (hdT s.1).2.1) else if 16 ≤ ls.length ∨ (onceB (ixF (wdS B (hdT s.1)) lawW 0) = true ∧ hasK ls (ixF (wdS B (hdT s.1)) lawW 0) = true) then .inr (3, (hdT s.1).2.1) else bodB B ((prS B e).1 1) (s.1.tail, s.2.1, s.2.2) ls (ixF (wdS B (hdT s.1)) lawW 0))
    by_cases hx : ixF (wdS B (hdT s.1)) lawW 0 < 0
    · rw [if_pos hx]
      rcases ln_18 hC.1 (by rw [h8]; exact ht) H with ⟨q, _⟩ | ⟨q, _⟩ | ⟨_, e2, v2, M2, he, H2, H⟩
      · exact absurd q ((hneg _).mp hx)
      · exact absurd q ((hneg _).mp hx)
      · exact e27 H2 H
    · have h2t := ix_wd (by decide) (by decide) hx
      rw [if_neg hx]
      rcases ln_18 hC.1 (by rw [h8]; exact ht) H with ⟨_, q, _⟩ | ⟨_, _, H⟩ | ⟨q, _⟩
      · exact absurd q g1
      · rcases law_cases hx with hk | hk | hk | hk | hk
        · rw [hk] at H ⊢
          exact li0_ok ht hn2 hCL h2t H
        · rw [hk] at H ⊢
          exact li1_ok ht hn2 hCL h2t H
        · rw [hk] at H ⊢
          exact li2_ok ht hn2 hCL h2t H
        · rw [hk] at H ⊢
          exact li3_ok ht hn2 hCL h2t H
        · rw [hk] at H ⊢
          exact li4_ok ht hn2 hCL h2t H
      · exact absurd ((hneg _).mpr q) hx
/-- line by line -/
theorem tx_loop {e : Nat} {law : Bool} {lw : Int32} {c1 : Option Value} (ht : gNth sT t = some 28) (hn2 : n ≤ 440) : ∀ (j : Nat) (nn : Int32) (s : Sg) (ls : List Lnq) (M M' : Mem) (v : Option Value), nn.toInt = (ls.length : Int) → ls.length + j = 17 → CL B n t M s ls → (zI M 1 1).toInt = (n : Int) → zI M 3 9 = (bif law then 1 else 0) → Ev none (e + 2) 26 58 [some (.ref 3), c1, some (.int lw), some (.int nn)] [] M v M' 0 0 → FA (fLq t) (wLn t) M M' ∧ LNr B n t M' v (txB B law ((prS B e).1 1) (decide (400 < n)) j s ls) := by
  intro j
  induction j with
  | zero =>
    intro nn s ls M M' v _ h1 hCL _ _ _
    have := hCL.2.1.2.1
    omega
  | succ j ih =>
    intro nn s ls M M' v hnn h1 hCL hn hlw H
    have hC := hCL.1
    have c5 := hC.2.2.1.at.2.2.2.2.1
    have o16 : (16 : Int32).toInt = 16 := rfl
    have o400 : (400 : Int32).toInt = 400 := rfl
    have hb := tx_ge ht
    have h8 := hC.2.2.2.2.2.1
    unfold txB
    rcases rt_58 hC.1 H with ⟨q, _⟩ | ⟨_, g1, g2, g3, rfl⟩ | ⟨_, g1, g2, e1, v1, M1, he, H1, H⟩ | ⟨_, g1, e1, v1, M1, he, H1, H⟩
    · rw [Int32.lt_iff_toInt_lt] at q
      omega
    · rw [c5] at g1
      rw [Int32.le_iff_toInt_le] at g2
      rw [if_pos g1, decide_eq_false (by omega)]
      exact ⟨FA.refl _, g3, hCL⟩
    · rw [c5] at g1
      rw [Int32.le_iff_toInt_le] at g2
      rw [if_pos g1, decide_eq_true (by omega)]
      obtain ⟨f1, f2⟩ := hC.err (v := v) (M' := M') H1 (fun y hy S => by
        subst hy
        have hy0 := (hC.fail H1).2
        obtain ⟨r1, _⟩ := RS_err hy0
        cases r1
        rcases rt_89 S H with ⟨_, r⟩ | ⟨r, _⟩
        · exact r
        · exact absurd rfl r)
      exact ⟨f1.ln, f2⟩
    · rw [c5] at g1
      rw [if_neg g1]
      cases he
      obtain ⟨F1, R1⟩ := ln_ok ht hn2 hCL hlw H1
      cases hr : lnB B law ((prS B e).1 1) s ls with
      | inr f =>
        rw [hr] at R1
        obtain ⟨rfl, S9, r9⟩ := R1
        rcases rt_102 S9 H with ⟨_, h3, rfl⟩ | ⟨h3, _⟩
        · exact ⟨F1, h3, S9, r9⟩
        · exact absurd rfl h3
      | inl q =>
        rw [hr] at R1
        obtain ⟨rfl, C1⟩ := R1
        have hlen := lnB_len hr
        rcases rt_102 C1.1.1 H with ⟨h3, _⟩ | ⟨_, H⟩
        · exact absurd h3 (by decide)
        have n1 : (nn + 1).toInt = nn.toInt + 1 := i32_p1 (by omega)
        obtain ⟨F2, R2⟩ := ih (nn + 1) q.1 q.2 _ _ _ (by omega) (by omega) C1 (by rw [F1.fi (by simp [fLq])]; exact hn) (by rw [F1.fi (by simp [fLq]; omega)]; exact hlw) H
        exact ⟨F1.trans F2, R2⟩
end CTX
/-! THE CLASS READS A TEXT, from its start; law -/
noncomputable def M0t (M : Mem) (t : Nat) (lw : Int32) : Mem := wF (wF (wF (wF (X_51 (wF (wR M 3 8 t) 3 9 lw) t) 3 10 0) 3 11 0) 3 12 0) 3 13 0
section RTX
variable {n t : Nat} {B : Nat → Int32} {M M' : Mem} {lw : Int32}
theorem bdT_tl {B : Nat → Int32} {n : Nat} : ∀ m p, n - p ≤ m → p ≤ n → bdT n (tlS B n p) ∧ (tlS B n p).length ≤ mn4 n - p + 1 := by
  intro m
  induction m with
  | zero =>
    intro p h1 h2
    have hm := mn4_le (n := n)
    rw [tlS_end h2 (by omega)]
    refine ⟨fun t ht => ?_, by simp⟩
    rw [List.mem_singleton] at ht
    subst ht
    exact ⟨Nat.le_refl _, hm⟩
  | succ m ih =>
    intro p h1 h2
    have hm := mn4_le (n := n)
    by_cases h : mn4 n ≤ p
    · rw [tlS_end h2 h]
      refine ⟨fun t ht => ?_, by simp⟩
      rw [List.mem_singleton] at ht
      subst ht
      exact ⟨Nat.le_refl _, hm⟩
    · by_cases hb : B p = 32 ∨ B p = 10
      · rw [tlS_bl h hb]
        have := ih (p + 1) (by omega) (by omega)
        exact ⟨this.1, by omega⟩
      · have a0 := tokS_at (B := B) (n := n) (p := p)
        have a1 := tokS_lt (B := B) (n := n) (p := p)
        have a2 := tokS_le (B := B) (n := n) (p := p) (by omega)
        by_cases h1 : (tokS B n p).1 = 1
        · rw [tlS_no h hb h1]
          refine ⟨fun t ht => ?_, by simp⟩
          rw [List.mem_singleton] at ht
          subst ht
          exact ⟨by omega, a2⟩
        · rw [tlS_tok h hb h1]
          have := ih (tokS B n p).2.2.1 (by omega) a2
          refine ⟨fun t ht => ?_, by rw [List.length_cons]; omega⟩
          rcases List.mem_cons.mp ht with rfl | ht
          · exact ⟨by omega, a2⟩
          · exact this.1 t ht
theorem M0t_eq : M0t M t lw = (wF (wF (wF (wF (wF (wF (wF (wF (wF (wF (wF (wR M 3 8 t) 3 9 lw) t 8 0) t 9 0) t 10 40) t 11 50) t 12 10) t 13 3) 3 10 0) 3 11 0) 3 12 0) 3 13 0) := rfl
theorem M0t_sq (hS : SQ M) (ht : gNth sT t = some 28) : SQ (M0t M t lw) := by
  rw [M0t_eq]
  exact (((((((((((((hS).kr_3_8 ht)).kf).kf).kf).kf).kf).kf).kf).kf).kf).kf).kf
theorem M0t_fa : FA [(3, 8), (3, 9), (t, 8), (t, 9), (t, 10), (t, 11), (t, 12), (t, 13), (3, 10), (3, 11), (3, 12), (3, 13)] [] M (M0t M t lw) := by
  rw [M0t_eq]
  exact (((((((((((FA.wR (by simp)).trans (FA.wF (by simp))).trans (FA.wF (by simp))).trans (FA.wF (by simp))).trans (FA.wF (by simp))).trans (FA.wF (by simp))).trans (FA.wF (by simp))).trans (FA.wF (by simp))).trans (FA.wF (by simp))).trans (FA.wF (by simp))).trans (FA.wF (by simp))).trans (FA.wF (by simp))
theorem M0t_3_9 (hS : SQ M) (ht : gNth sT t = some 28) : zI (M0t M t lw) 3 9 = lw := by
  have hb := tx_ge ht
  rw [M0t_eq, fI_wF_ne (by omega), fI_wF_ne (by omega), fI_wF_ne (by omega), fI_wF_ne (by omega), fI_wF_ne (by omega), fI_wF_ne (by omega), fI_wF_ne (by omega), fI_wF_ne (by omega), fI_wF_ne (by omega), fI_wF_ne (by omega)]
  exact fI_wF_eq ((hS).kr_3_8 ht).1 qa_3 qi_3_9
theorem M0t_t_8 (hS : SQ M) (ht : gNth sT t = some 28) : zI (M0t M t lw) t 8 = 0 := by
  have hb := tx_ge ht
  rw [M0t_eq, fI_wF_ne (by omega), fI_wF_ne (by omega), fI_wF_ne (by omega), fI_wF_ne (by omega), fI_wF_ne (by omega), fI_wF_ne (by omega), fI_wF_ne (by omega), fI_wF_ne (by omega), fI_wF_ne (by omega)]
  exact fI_wF_eq (((hS).kr_3_8 ht)).kf.1 ht qi_28_8
theorem M0t_t_9 (hS : SQ M) (ht : gNth sT t = some 28) : zI (M0t M t lw) t 9 = 0 := by
  have hb := tx_ge ht
  rw [M0t_eq, fI_wF_ne (by omega), fI_wF_ne (by omega), fI_wF_ne (by omega), fI_wF_ne (by omega), fI_wF_ne (by omega), fI_wF_ne (by omega), fI_wF_ne (by omega), fI_wF_ne (by omega)]
  exact fI_wF_eq ((((hS).kr_3_8 ht)).kf).kf.1 ht qi_28_9
theorem M0t_t_10 (hS : SQ M) (ht : gNth sT t = some 28) : zI (M0t M t lw) t 10 = 40 := by
  have hb := tx_ge ht
  rw [M0t_eq, fI_wF_ne (by omega), fI_wF_ne (by omega), fI_wF_ne (by omega), fI_wF_ne (by omega), fI_wF_ne (by omega), fI_wF_ne (by omega), fI_wF_ne (by omega)]
  exact fI_wF_eq (((((hS).kr_3_8 ht)).kf).kf).kf.1 ht qi_28_10
theorem M0t_t_11 (hS : SQ M) (ht : gNth sT t = some 28) : zI (M0t M t lw) t 11 = 50 := by
  have hb := tx_ge ht
  rw [M0t_eq, fI_wF_ne (by omega), fI_wF_ne (by omega), fI_wF_ne (by omega), fI_wF_ne (by omega), fI_wF_ne (by omega), fI_wF_ne (by omega)]
  exact fI_wF_eq ((((((hS).kr_3_8 ht)).kf).kf).kf).kf.1 ht qi_28_11
theorem M0t_t_12 (hS : SQ M) (ht : gNth sT t = some 28) : zI (M0t M t lw) t 12 = 10 := by
  have hb := tx_ge ht
  rw [M0t_eq, fI_wF_ne (by omega), fI_wF_ne (by omega), fI_wF_ne (by omega), fI_wF_ne (by omega), fI_wF_ne (by omega)]
  exact fI_wF_eq (((((((hS).kr_3_8 ht)).kf).kf).kf).kf).kf.1 ht qi_28_12
theorem M0t_t_13 (hS : SQ M) (ht : gNth sT t = some 28) : zI (M0t M t lw) t 13 = 3 := by
  have hb := tx_ge ht
  rw [M0t_eq, fI_wF_ne (by omega), fI_wF_ne (by omega), fI_wF_ne (by omega), fI_wF_ne (by omega)]
  exact fI_wF_eq ((((((((hS).kr_3_8 ht)).kf).kf).kf).kf).kf).kf.1 ht qi_28_13
theorem M0t_3_10 (hS : SQ M) (ht : gNth sT t = some 28) : zI (M0t M t lw) 3 10 = 0 := by
  have hb := tx_ge ht
  rw [M0t_eq, fI_wF_ne (by omega), fI_wF_ne (by omega), fI_wF_ne (by omega)]
  exact fI_wF_eq (((((((((hS).kr_3_8 ht)).kf).kf).kf).kf).kf).kf).kf.1 qa_3 qi_3_10
theorem M0t_3_11 (hS : SQ M) (ht : gNth sT t = some 28) : zI (M0t M t lw) 3 11 = 0 := by
  have hb := tx_ge ht
  rw [M0t_eq, fI_wF_ne (by omega), fI_wF_ne (by omega)]
  exact fI_wF_eq ((((((((((hS).kr_3_8 ht)).kf).kf).kf).kf).kf).kf).kf).kf.1 qa_3 qi_3_11
theorem M0t_3_12 (hS : SQ M) (ht : gNth sT t = some 28) : zI (M0t M t lw) 3 12 = 0 := by
  have hb := tx_ge ht
  rw [M0t_eq, fI_wF_ne (by omega)]
  exact fI_wF_eq (((((((((((hS).kr_3_8 ht)).kf).kf).kf).kf).kf).kf).kf).kf).kf.1 qa_3 qi_3_12
theorem M0t_r (hS : SQ M) (ht : gNth sT t = some 28) : fR (M0t M t lw) 3 8 = t := by
  rw [M0t_eq, fR_wF, fR_wF, fR_wF, fR_wF, fR_wF, fR_wF, fR_wF, fR_wF, fR_wF, fR_wF, fR_wF]
  exact fR_wR_eq hS.1 qa_3 qk_3_8
def fTx (t : Nat) : List (Nat × Nat) := [(3, 5), (3, 6), (3, 7), (3, 8), (3, 9), (3, 10), (3, 11), (3, 12), (3, 13), (t, 8), (t, 9), (t, 10), (t, 11), (t, 12), (t, 13)]
def wTx (t : Nat) : List Nat := [4, 5, 6, 7, t + 1, t + 2, t + 3, t + 4, t + 5, t + 6, t + 7, t + 8]
/-- what a text's reading comes to -/
noncomputable def rdB (B : Nat → Int32) (n : Nat) (law : Bool) (C : Sg → PR) : PLn := txB B law C (decide (400 < n)) 17 (tlS B n 0, 0, []) []
theorem rt_ok {e : Nat} {v : Option Value} {law : Bool} (hS : SQ M) (ht : gNth sT t = some 28) (hn : (zI M 1 1).toInt = (n : Int)) (hn2 : n ≤ 440) (hB : ∀ k, k < n → bC M k = B k) (H : Ev none (e + 2) 26 0 [some (.ref 3), some (.ref t), some (.int (bif law then 1 else 0)), none] [] M v M' 0 0) : FA (fTx t) (wTx t) M M' ∧ LNr B n t M' v (rdB B n law ((prS B e).1 1)) := by
  have hb := tx_ge ht
  obtain ⟨e1, v1, M1, he, H1, H⟩ := rt_0 hS ht H
  have H1 : Ev none e1 28 0 [some (.ref 3), none, none, none, none] [] (M0t M t (bif law then 1 else 0)) v1 M1 0 0 := H1
  have s0 := M0t_sq (lw := bif law then 1 else 0) hS ht
  have f0 := M0t_fa (M := M) (t := t) (lw := bif law then 1 else 0)
  have b0 : bC (M0t M t (bif law then 1 else 0)) = bC M := by
    funext k
    exact f0.rn (by simp)
  obtain ⟨rfl, s1, f1, c1, c2⟩ := ft_all (n := n) s0 (by rw [f0.fi (by simp)]; exact hn) hn2 H1
  rw [b0, tlS_cg hB n 0 (by omega) (by omega)] at c1 c2
  have H := rt_41 s1 H
  obtain ⟨z1, z2⟩ := bdT_tl (B := B) (n := n) n 0 (by omega) (by omega)
  have hw := tlS_wf (B := B) (n := n) n 0 (by omega) (by omega)
  have h4 : mn4 n ≤ 400 := by
    unfold mn4
    split <;> omega
  obtain ⟨r, hr⟩ := hw.ne
  have q1 : rI M1 4 0 = (hdT (tlS B n 0)).1 := by
    have := (c2 0 (hdT (tlS B n 0)) (by rw [hr]; rfl)).1
    exact this
  have s2 : SQ (wF (wF M1 3 6 0) 3 7 (rI M1 4 0)) := s1.kf.kf
  have f2 : FA [(3, 6), (3, 7)] [] M1 (wF (wF M1 3 6 0) 3 7 (rI M1 4 0)) := (FA.wF (by simp)).trans (FA.wF (by simp))
  have b1 : ∀ k, k < n → bC (wF (wF M1 3 6 0) 3 7 (rI M1 4 0)) k = B k := by
    intro k hk
    rw [← hB k hk, ← b0]
    exact (f2.rn (by simp)).trans (f1.rn (by simp))
  have g : ∀ a k, (a, k) ≠ (3, 5) → (a, k) ≠ (3, 6) → (a, k) ≠ (3, 7) → zI (wF (wF M1 3 6 0) 3 7 (rI M1 4 0)) a k = zI (M0t M t (bif law then 1 else 0)) a k := fun a k h1 h2 h3 => by
    rw [f2.fi (by simp only [List.mem_cons, List.not_mem_nil, or_false]; intro q; rcases q with q | q; exact h2 q; exact h3 q), f1.fi (by simp only [List.mem_cons, List.not_mem_nil, or_false]; exact h1)]
  have gt : ∀ k, zI (wF (wF M1 3 6 0) 3 7 (rI M1 4 0)) t k = zI (M0t M t (bif law then 1 else 0)) t k := fun k => g t k (fun q => by injection q; omega) (fun q => by injection q; omega) (fun q => by injection q; omega)
  have C0 : CL B n t (wF (wF M1 3 6 0) 3 7 (rI M1 4 0)) (tlS B n 0, 0, []) [] := by
    refine ⟨⟨s2, b1, ⟨tlS B n 0, 0, rfl, hw, z1, ?_, ?_, by omega, ?_, ?_⟩, ?_, Nat.zero_le _, ?_, ⟨?_, Nat.zero_le _, fun j c h => by cases h⟩, Nat.zero_le _, ?_⟩, ⟨?_, Nat.zero_le _, fun j c h => by cases h⟩, ?_, ?_, ?_, ?_, ?_⟩
    · rw [fI_wF_ne (by decide), fI_wF_eq s1.1 qa_3 qi_3_6]
      rfl
    · rw [f2.fi (by decide)]
      exact c1
    · intro j tk h
      have := c2 j tk h
      rw [f2.rn (by simp), f2.rn (by simp), f2.rn (by simp), f2.rn (by simp)]
      exact this
    · rw [fI_wF_eq s1.kf.1 qa_3 qi_3_7]
      exact q1
    · rw [g 3 11 (by decide) (by decide) (by decide), M0t_3_11 hS ht]
      rfl
    · rw [f2.fr (by decide), f1.fr (by decide)]
      exact M0t_r hS ht
    · rw [gt, M0t_t_9 hS ht]
      rfl
    · rw [g 3 12 (by decide) (by decide) (by decide), M0t_3_12 hS ht]
    · rw [gt, M0t_t_8 hS ht]
      rfl
    · rw [gt, M0t_t_10 hS ht]
      rfl
    · rw [gt, M0t_t_11 hS ht]
      rfl
    · rw [gt, M0t_t_12 hS ht]
      rfl
    · rw [gt, M0t_t_13 hS ht]
      rfl
    · rw [g 3 10 (by decide) (by decide) (by decide), M0t_3_10 hS ht]
      rfl
  obtain ⟨f3, R⟩ := tx_loop ht hn2 17 0 _ [] _ M' v rfl rfl C0 (by rw [f2.fi (by decide), f1.fi (by decide), f0.fi (by simp)]; exact hn) (by rw [g 3 9 (by decide) (by decide) (by decide), M0t_3_9 hS ht]) H
  refine ⟨?_, R⟩
  exact (((f0.more (fun q hq => by simp only [fTx, List.mem_cons, List.not_mem_nil, or_false] at hq ⊢; rcases hq with h | h | h | h | h | h | h | h | h | h | h | h <;> simp [h]) (fun q hq => by cases hq)).trans (f1.more (fun q hq => by simp only [fTx, List.mem_cons, List.not_mem_nil, or_false] at hq ⊢; simp [hq]) (fun q hq => by simp only [wTx, List.mem_cons, List.not_mem_nil, or_false] at hq ⊢; rcases hq with h | h | h | h <;> simp [h]))).trans (f2.more (fun q hq => by simp only [fTx, List.mem_cons, List.not_mem_nil, or_false] at hq ⊢; rcases hq with h | h <;> simp [h]) (fun q hq => by cases hq))).trans (f3.more (fun q hq => by simp only [fLq, fTx, List.mem_cons, List.not_mem_nil, or_false] at hq ⊢; rcases hq with h | h | h | h | h | h | h | h | h | h | h | h <;> simp [h]) (fun q hq => by simp only [wLn, wTx, List.mem_cons, List.not_mem_nil, or_false] at hq ⊢; rcases hq with h | h | h | h | h | h | h | h <;> simp [h]))
end RTX
/-! THE CLASS'S law -/
noncomputable def ansB (r : PLn) : Int := match r with
  | .inr f => -1 - (f.2 : Int)
  | .inl q => (q.2.length : Int)
noncomputable def fltB (r : PLn) : Int32 := match r with
  | .inr f => f.1
  | .inl _ => 0
/-- what a text holds -/
def TXT (M : Mem) (t : Nat) (q : Sg × List Lnq) : Prop := LCt M t q.2 ∧ CC M t q.1.2.2 ∧ zI M t 10 = tvS q.2 2 40 ∧ zI M t 11 = tvS q.2 3 50 ∧ zI M t 12 = tvS q.2 4 10 ∧ zI M t 13 = tvS q.2 7 3
section LAWC
variable {n t : Nat} {B : Nat → Int32} {M M' : Mem} {F : List (Nat × Nat)} {W : List Nat}
theorem TXT.frm {q : Sg × List Lnq} (h : TXT M t q) (hF : FA F W M M') (f : ∀ k, 8 ≤ k → k ≤ 13 → (t, k) ∉ F) (w : ∀ b, t < b → b ≤ t + 8 → b ∉ W) : TXT M' t q := by
  obtain ⟨a1, a2, a3, a4, a5, a6⟩ := h
  refine ⟨a1.frm hF (f 8 (by omega) (by omega)) (fun b hb => ?_), a2.frm hF (f 9 (by omega) (by omega)) (w _ (by omega) (by omega)) (w _ (by omega) (by omega)) (w _ (by omega) (by omega)), ?_, ?_, ?_, ?_⟩
  · simp only [List.mem_cons, List.not_mem_nil, or_false] at hb
    exact w b (by omega) (by omega)
  · rw [hF.fi (f 10 (by omega) (by omega))]; exact a3
  · rw [hF.fi (f 11 (by omega) (by omega))]; exact a4
  · rw [hF.fi (f 12 (by omega) (by omega))]; exact a5
  · rw [hF.fi (f 13 (by omega) (by omega))]; exact a6
theorem i32_m1x {x m : Int32} (hm : m = -1) (h : 0 ≤ x.toInt) : (m - x).toInt = -1 - x.toInt := by
  have h1 : m.toInt = -1 := by rw [hm]; rfl
  have h2 := i32_lt x
  rw [i32_sub (by omega) (by omega), h1]
theorem tN (hS : SQ M) : gNth sT (fR M 104 3) = some 28 ∧ gNth sT (fR M 104 2) = some 28 := ⟨(hS.1.fr qa_104 qr_22_3).2, (hS.1.fr qa_104 qr_22_2).2⟩
def fRe (t : Nat) : List (Nat × Nat) := [(104, 2), (104, 3), (1, 1), (0, 15)] ++ fTx t
theorem FA.re (h : FA (fTx t) (wTx t) M M') : FA (fRe t) (wTx t) M M' := h.more (fun q hq => List.mem_append_right _ hq) (fun _ hq => hq)
/-- both ends of a reading -/
theorem re_no {e : Nat} {v : Option Value} {f : Int32 × Nat} (hS : SQ M) (ht : gNth sT t = some 28) (h1 : zI M 3 12 = f.1) (h2 : (zI M 3 13).toInt = (f.2 : Int)) (H : Ev none e 87 0 [some (.ref 0), some (.int 0), some (.ref t)] [] M v M' 0 0) : (∃ x, v = some (.int x) ∧ x.toInt = -1 - (f.2 : Int)) ∧ SQ M' ∧ FA [(1, 1), (0, 15)] [] M M' ∧ zI M' 1 1 = 0 ∧ zI M' 0 15 = f.1 := by
  rcases rends_0 hS ht H with ⟨_, rfl, rfl⟩ | ⟨q, _⟩
  · obtain ⟨m, hm⟩ : ∃ m : Int32, m = -1 := ⟨_, rfl⟩
    refine ⟨⟨_, rfl, ?_⟩, hS.kf.kf, (FA.wF (by simp)).trans (FA.wF (by simp)), ?_, ?_⟩
    · rw [← hm, i32_m1x hm (by omega), h2]
    · rw [fI_wF_ne (by decide), fI_wF_eq hS.1 qa_1 qi_1_1]
    · rw [fI_wF_eq hS.kf.1 qa_0 qi_0_15]
      exact h1
  · exact absurd rfl q
theorem re_yes {e : Nat} {v : Option Value} (hS : SQ M) (ht : gNth sT t = some 28) (H : Ev none e 87 0 [some (.ref 0), some (.int 1), some (.ref t)] [] M v M' 0 0) : v = some (.int (zI M t 8)) ∧ SQ M' ∧ FA [(1, 1), (0, 15)] [] M M' ∧ zI M' 1 1 = 0 ∧ zI M' 0 15 = zI M 3 12 := by
  rcases rends_0 hS ht H with ⟨q, _⟩ | ⟨_, rfl, rfl⟩
  · exact absurd q (by decide)
  · refine ⟨rfl, hS.kf.kf, (FA.wF (by simp)).trans (FA.wF (by simp)), ?_, ?_⟩
    · rw [fI_wF_ne (by decide), fI_wF_eq hS.1 qa_1 qi_1_1]
    · rw [fI_wF_eq hS.kf.1 qa_0 qi_0_15]
theorem law_ok {e : Nat} {v : Option Value} (hS : SQ M) (hn : (zI M 1 1).toInt = (n : Int)) (hn2 : n ≤ 440) (hB : ∀ k, k < n → bC M k = B k) (H : Ev none (e + 3) 85 0 [some (.ref 0), none, none] [] M v M' 0 0) : (∃ x, v = some (.int x) ∧ x.toInt = ansB (rdB B n true ((prS B e).1 1))) ∧ SQ M' ∧ FA (fRe (fR M 104 3)) (wTx (fR M 104 3)) M M' ∧ zI M' 1 1 = 0 ∧ zI M' 0 15 = fltB (rdB B n true ((prS B e).1 1)) ∧ (match rdB B n true ((prS B e).1 1) with
    | .inr _ => fR M' 104 2 = fR M 104 2 ∧ fR M' 104 3 = fR M 104 3
    | .inl q => fR M' 104 2 = fR M 104 3 ∧ fR M' 104 3 = fR M 104 2 ∧ TXT M' (fR M 104 3) q) := by
  obtain ⟨t3, t2⟩ := tN hS
  obtain ⟨e1, v1, M1, he, H1, H⟩ := lw_0 hS H
  obtain ⟨rfl⟩ : e + 2 = e1 := by omega
  obtain ⟨f1, R⟩ := rt_ok (law := true) hS t3 hn hn2 hB H1
  obtain ⟨sp, hsp⟩ : ∃ sp, sp = fR M 104 3 := ⟨_, rfl⟩
  rw [← hsp] at t3 f1 R ⊢
  have hb := tx_ge t3
  cases hr : rdB B n true ((prS B e).1 1) with
  | inr f =>
    rw [hr] at R
    obtain ⟨rfl, s1, r1, r2⟩ := R
    rcases lw_15 s1 H with ⟨_, e2, v2, M2, he2, H2, H⟩ | ⟨q, _⟩
    · obtain ⟨⟨x, rfl, hx⟩, s2, f2, z1, z2⟩ := re_no s1 (tN s1).2 r1 r2 H2
      obtain ⟨rfl, rfl⟩ := lw_62 s2 H
      refine ⟨⟨x, rfl, hx⟩, s2, f1.re.trans (f2.more (fun q hq => ?_) (fun q hq => by cases hq)), z1, z2, ?_, ?_⟩
      · simp only [List.mem_cons, List.not_mem_nil, or_false] at hq
        rcases hq with rfl | rfl <;> simp [fRe]
      · rw [f2.fr (by decide), f1.fr (by simp [fTx])]
      · rw [f2.fr (by decide), f1.fr (by simp [fTx])]
        exact hsp.symm
    · exact absurd rfl q
  | inl q =>
    rw [hr] at R
    obtain ⟨rfl, C1⟩ := R
    have s1 := C1.1.1
    rcases lw_15 s1 H with ⟨q, _⟩ | ⟨_, e2, v2, M2, he2, H2, H⟩
    · exact absurd q (by decide)
    · obtain ⟨t13, t12⟩ := tN s1
      have r3 : fR M1 104 3 = sp := (f1.fr (by simp [fTx])).trans hsp.symm
      have r2 : fR M1 104 2 = fR M 104 2 := f1.fr (by simp [fTx])
      have s1b : SQ (wR M1 104 2 (fR M1 104 3)) := s1.kr_22_2 t13
      have s2 : SQ (wR (wR M1 104 2 (fR M1 104 3)) 104 3 (fR M1 104 2)) := s1b.kr_22_3 t12
      have f2 : FA [(104, 2), (104, 3)] [] M1 (wR (wR M1 104 2 (fR M1 104 3)) 104 3 (fR M1 104 2)) := (FA.wR (by simp)).trans (FA.wR (by simp))
      have e2 : fR (wR (wR M1 104 2 (fR M1 104 3)) 104 3 (fR M1 104 2)) 104 2 = sp := by
        rw [fR_wR_ne (by decide), fR_wR_eq s1.1 qa_104 qk_22_2, r3]
      have e3 : fR (wR (wR M1 104 2 (fR M1 104 3)) 104 3 (fR M1 104 2)) 104 3 = fR M 104 2 := by
        rw [fR_wR_eq s1b.1 qa_104 qk_22_3, r2]
      have h9 : zI M1 3 12 = 0 := C1.1.2.2.2.2.2.2.2.2
      rw [e2] at H2
      obtain ⟨rfl, s3, f3, z1, z2⟩ := re_yes s2 t3 H2
      obtain ⟨rfl, rfl⟩ := lw_62 s3 H
      refine ⟨⟨_, rfl, ?_⟩, s3, (f1.re.trans (f2.more (fun q hq => ?_) (fun q hq => by cases hq))).trans (f3.more (fun q hq => ?_) (fun q hq => by cases hq)), z1, ?_, ?_, ?_, ?_⟩
      · rw [f2.fi (by simp)]
        exact C1.2.1.1
      · simp only [List.mem_cons, List.not_mem_nil, or_false] at hq
        rcases hq with rfl | rfl <;> simp [fRe]
      · simp only [List.mem_cons, List.not_mem_nil, or_false] at hq
        rcases hq with rfl | rfl <;> simp [fRe]
      · rw [z2, f2.fi (by simp), h9]
        rfl
      · rw [f3.fr (by decide), e2]
      · rw [f3.fr (by decide), e3]
      · exact (TXT.frm ⟨C1.2.1, C1.1.2.2.2.2.2.2.1, C1.2.2.1, C1.2.2.2.1, C1.2.2.2.2.1, C1.2.2.2.2.2.1⟩ f2 (fun k _ _ => by simp; omega) (fun b _ _ => by simp)).frm f3 (fun k _ _ => by simp; omega) (fun b _ _ => by simp)
end LAWC
/-! THE CLASS: pieces of habit (made by gcl.py) -/
theorem hb_0 {e : Nat} {M M' : Mem} {v : Option Value} {x : Int32} (hS : SQ M) (H : Ev none e 86 0 [some (.ref 0), some (.int x), none, none] [] M v M' 0 0) : ((G_126 M x 0 5) = 0 ∧ v = some (.int (-1000)) ∧ M' = (wF M 1 1 0)) ∨ (¬ ((G_126 M x 0 5) = 0) ∧ (∃ e1 v1 M1, e = e1 + 1 ∧ Ev none e1 26 0 [some (.ref 3), some (.ref (fR M 104 3)), some (.int 0), none] [] M v1 M1 0 0 ∧ Ev none e 86 36 [some (.ref 0), some (.int x), none, none] (v1.toList ++ []) M1 v M' 0 0)) := by
  have H : Ev none e 86 3 [some (.ref 0), some (.int x), none, none] [.int 5, .int 0, .int x] M v M' 0 0 := Ev.back 3 (fun n => rfl) H
  obtain ⟨e1, rfl⟩ := Ev.dpos rfl rfl H
  obtain ⟨vK1, MK1, K1, H⟩ := Ev.callb (fun n => rfl) H
  obtain ⟨pK1, qK1⟩ := g_126 hS K1
  rw [pK1, qK1] at H
  have H : Ev none (e1 + 1) 86 6 [some (.ref 0), some (.int x), none, none] [.int (G_126 M x 0 5)] M v M' 0 0 := H
  have H : Ev none (e1 + 1) 86 (if (G_126 M x 0 5) = 0 then 9 else 21) [some (.ref 0), some (.int x), none, none] [] M v M' 0 0 := Ev.back 1 (fun n => rfl) H
  by_cases h2 : (G_126 M x 0 5) = 0
  · rw [if_pos h2] at H
    have H : Ev none (e1 + 1) 86 10 [some (.ref 0), some (.int x), none, none] [.ref 0] M v M' 0 0 := Ev.back 1 (fun n => rfl) H
    have H : Ev none (e1 + 1) 86 13 [some (.ref 0), some (.int x), none, none] [.ref 1] M v M' 0 0 := Ev.back 1 (gs_3 rfl rfl (gf_u hS.1 qa_0 qr_0_0 qu_1 rfl)) H
    have H : Ev none (e1 + 1) 86 14 [some (.ref 0), some (.int x), none, none] [.int 0, .ref 1] M v M' 0 0 := Ev.back 1 (fun n => rfl) H
    obtain ⟨N4, eN4⟩ : ∃ N, N = (wF M 1 1 0) := ⟨_, rfl⟩
    have hN4 : SQ N4 := by rw [eN4]; exact hS.kf
    have H : Ev none (e1 + 1) 86 17 [some (.ref 0), some (.int x), none, none] [] N4 v M' 0 0 := by rw [eN4]; exact Ev.pfi rfl rfl rfl hS.1 qa_1 qi_1_1 H
    have H : Ev none (e1 + 1) 86 20 [some (.ref 0), some (.int x), none, none] [.int (-1000)] N4 v M' 0 0 := Ev.back 1 (fun n => rfl) H
    obtain ⟨z1, z2⟩ := Ev.retz rfl rfl H
    subst eN4
    exact Or.inl ⟨h2, z1, z2⟩
  · rw [if_neg h2] at H
    have H : Ev none (e1 + 1) 86 22 [some (.ref 0), some (.int x), none, none] [.ref 0] M v M' 0 0 := Ev.back 1 (fun n => rfl) H
    have H : Ev none (e1 + 1) 86 25 [some (.ref 0), some (.int x), none, none] [.ref 3] M v M' 0 0 := Ev.back 1 (gs_3 rfl rfl (gf_u hS.1 qa_0 qr_0_1 qu_3 rfl)) H
    have H : Ev none (e1 + 1) 86 26 [some (.ref 0), some (.int x), none, none] [.ref 0, .ref 3] M v M' 0 0 := Ev.back 1 (fun n => rfl) H
    have H : Ev none (e1 + 1) 86 29 [some (.ref 0), some (.int x), none, none] [.ref 104, .ref 3] M v M' 0 0 := Ev.back 1 (gs_3 rfl rfl (gf_u hS.1 qa_0 qr_0_3 qu_22 rfl)) H
    have H : Ev none (e1 + 1) 86 32 [some (.ref 0), some (.int x), none, none] [.ref (fR M 104 3), .ref 3] M v M' 0 0 := Ev.back 1 (gs_3 rfl rfl (gf_r hS.1 qa_104 qr_22_3 rfl)) H
    have H : Ev none (e1 + 1) 86 33 [some (.ref 0), some (.int x), none, none] [.int 0, .ref (fR M 104 3), .ref 3] M v M' 0 0 := Ev.back 1 (fun n => rfl) H
    obtain ⟨vK5, MK5, K5, H⟩ := Ev.callb (fun n => gs_7 rfl rfl (show gCal (.invokevirtual 130) 10 (.int 0 :: .ref (fR M 104 3) :: .ref 3 :: []) M = some (.inr (26, [some (.ref 3), some (.ref (fR M 104 3)), some (.int 0), none], [])) from by show @cond (Option ((List Value × Mem) ⊕ (Nat × Lo × List Value))) (true && gRecv M (.ref 3) 3 && gRoom [] && true) (some (.inr (26, [some (.ref 3), some (.ref (fR M 104 3)), some (.int 0), none], []))) none = _; rw [recv_s hS.1 qa_3 qo_3]; rfl)) H
    have K5 : Ev none e1 26 0 [some (.ref 3), some (.ref (fR M 104 3)), some (.int 0), none] [] M vK5 MK5 0 0 := K5
    have HF := H
    exact Or.inr (⟨h2, ⟨e1, vK5, MK5, rfl, K5, HF⟩⟩)
theorem hb_21 {e : Nat} {M M' : Mem} {v : Option Value} {x : Int32} (hS : SQ M) (H : Ev none e 86 21 [some (.ref 0), some (.int x), none, none] [] M v M' 0 0) : (∃ e1 v1 M1, e = e1 + 1 ∧ Ev none e1 26 0 [some (.ref 3), some (.ref (fR M 104 3)), some (.int 0), none] [] M v1 M1 0 0 ∧ Ev none e 86 36 [some (.ref 0), some (.int x), none, none] (v1.toList ++ []) M1 v M' 0 0) := by
  have H : Ev none e 86 22 [some (.ref 0), some (.int x), none, none] [.ref 0] M v M' 0 0 := Ev.back 1 (fun n => rfl) H
  have H : Ev none e 86 25 [some (.ref 0), some (.int x), none, none] [.ref 3] M v M' 0 0 := Ev.back 1 (gs_3 rfl rfl (gf_u hS.1 qa_0 qr_0_1 qu_3 rfl)) H
  have H : Ev none e 86 26 [some (.ref 0), some (.int x), none, none] [.ref 0, .ref 3] M v M' 0 0 := Ev.back 1 (fun n => rfl) H
  have H : Ev none e 86 29 [some (.ref 0), some (.int x), none, none] [.ref 104, .ref 3] M v M' 0 0 := Ev.back 1 (gs_3 rfl rfl (gf_u hS.1 qa_0 qr_0_3 qu_22 rfl)) H
  have H : Ev none e 86 32 [some (.ref 0), some (.int x), none, none] [.ref (fR M 104 3), .ref 3] M v M' 0 0 := Ev.back 1 (gs_3 rfl rfl (gf_r hS.1 qa_104 qr_22_3 rfl)) H
  have H : Ev none e 86 33 [some (.ref 0), some (.int x), none, none] [.int 0, .ref (fR M 104 3), .ref 3] M v M' 0 0 := Ev.back 1 (fun n => rfl) H
  obtain ⟨e1, rfl⟩ := Ev.dpos rfl rfl H
  obtain ⟨vK1, MK1, K1, H⟩ := Ev.callb (fun n => gs_7 rfl rfl (show gCal (.invokevirtual 130) 10 (.int 0 :: .ref (fR M 104 3) :: .ref 3 :: []) M = some (.inr (26, [some (.ref 3), some (.ref (fR M 104 3)), some (.int 0), none], [])) from by show @cond (Option ((List Value × Mem) ⊕ (Nat × Lo × List Value))) (true && gRecv M (.ref 3) 3 && gRoom [] && true) (some (.inr (26, [some (.ref 3), some (.ref (fR M 104 3)), some (.int 0), none], []))) none = _; rw [recv_s hS.1 qa_3 qo_3]; rfl)) H
  have K1 : Ev none e1 26 0 [some (.ref 3), some (.ref (fR M 104 3)), some (.int 0), none] [] M vK1 MK1 0 0 := K1
  have HF := H
  exact ⟨e1, vK1, MK1, rfl, K1, HF⟩
theorem hb_36 {e : Nat} {M M' : Mem} {v : Option Value} {x y : Int32} (hS : SQ M) (H : Ev none e 86 36 [some (.ref 0), some (.int x), none, none] [.int y] M v M' 0 0) : (y = 0 ∧ (0 ≤ x.toInt ∧ x.toInt < 6) ∧ (∃ e1 v1 M1, e = e1 + 1 ∧ Ev none e1 87 0 [some (.ref 0), some (.int y), some (.ref (oI M 109 x))] [] M v1 M1 0 0 ∧ Ev none e 86 89 [some (.ref 0), some (.int x), some (.int y), none] (v1.toList ++ []) M1 v M' 0 0)) ∨ (¬ (y = 0) ∧ (0 ≤ x.toInt ∧ x.toInt < 6) ∧ (0 ≤ x.toInt ∧ x.toInt < 6) ∧ (0 ≤ x.toInt ∧ x.toInt < 6) ∧ (∃ e1 v1 M1, e = e1 + 1 ∧ Ev none e1 87 0 [some (.ref 0), some (.int y), some (.ref (oI (wR (wO M 109 x.toNatClampNeg (fR M 104 3)) 104 3 (oI M 109 x)) 109 x))] [] (wR (wO M 109 x.toNatClampNeg (fR M 104 3)) 104 3 (oI M 109 x)) v1 M1 0 0 ∧ Ev none e 86 89 [some (.ref 0), some (.int x), some (.int y), some (.ref (oI M 109 x))] (v1.toList ++ []) M1 v M' 0 0)) := by
  have H : Ev none e 86 (if y = 0 then 75 else 41) [some (.ref 0), some (.int x), some (.int y), none] [] M v M' 0 0 := Ev.back 3 (fun n => rfl) H
  by_cases h1 : y = 0
  · rw [if_pos h1] at H
    have H : Ev none e 86 78 [some (.ref 0), some (.int x), some (.int y), none] [.ref 0, .int y, .ref 0] M v M' 0 0 := Ev.back 3 (fun n => rfl) H
    have H : Ev none e 86 81 [some (.ref 0), some (.int x), some (.int y), none] [.ref 104, .int y, .ref 0] M v M' 0 0 := Ev.back 1 (gs_3 rfl rfl (gf_u hS.1 qa_0 qr_0_3 qu_22 rfl)) H
    have H : Ev none e 86 84 [some (.ref 0), some (.int x), some (.int y), none] [.ref 109, .int y, .ref 0] M v M' 0 0 := Ev.back 1 (gs_3 rfl rfl (gf_u hS.1 qa_104 qr_22_1 qu_27 rfl)) H
    have H : Ev none e 86 85 [some (.ref 0), some (.int x), some (.int y), none] [.int x, .ref 109, .int y, .ref 0] M v M' 0 0 := Ev.back 1 (fun n => rfl) H
    obtain ⟨b2, H⟩ := Ev.aal rfl rfl hS.1 qa_109 qz_27 H
    have H : Ev none e 86 86 [some (.ref 0), some (.int x), some (.int y), none] [.ref (oI M 109 x), .int y, .ref 0] M v M' 0 0 := H
    obtain ⟨e1, rfl⟩ := Ev.dpos rfl rfl H
    obtain ⟨vK3, MK3, K3, H⟩ := Ev.callb (fun n => gs_7 rfl rfl (show gCal (.invokevirtual 137) 10 (.ref (oI M 109 x) :: .int y :: .ref 0 :: []) M = some (.inr (87, [some (.ref 0), some (.int y), some (.ref (oI M 109 x))], [])) from by show @cond (Option ((List Value × Mem) ⊕ (Nat × Lo × List Value))) (true && gRecv M (.ref 0) 10 && gRoom [] && true) (some (.inr (87, [some (.ref 0), some (.int y), some (.ref (oI M 109 x))], []))) none = _; rw [recv_s hS.1 qa_0 qo_0]; rfl)) H
    have K3 : Ev none e1 87 0 [some (.ref 0), some (.int y), some (.ref (oI M 109 x))] [] M vK3 MK3 0 0 := K3
    have HF := H
    exact Or.inl ⟨h1, b2.1, ⟨e1, vK3, MK3, rfl, K3, HF⟩⟩
  · rw [if_neg h1] at H
    have H : Ev none e 86 42 [some (.ref 0), some (.int x), some (.int y), none] [.ref 0] M v M' 0 0 := Ev.back 1 (fun n => rfl) H
    have H : Ev none e 86 45 [some (.ref 0), some (.int x), some (.int y), none] [.ref 104] M v M' 0 0 := Ev.back 1 (gs_3 rfl rfl (gf_u hS.1 qa_0 qr_0_3 qu_22 rfl)) H
    have H : Ev none e 86 48 [some (.ref 0), some (.int x), some (.int y), none] [.ref 109] M v M' 0 0 := Ev.back 1 (gs_3 rfl rfl (gf_u hS.1 qa_104 qr_22_1 qu_27 rfl)) H
    have H : Ev none e 86 49 [some (.ref 0), some (.int x), some (.int y), none] [.int x, .ref 109] M v M' 0 0 := Ev.back 1 (fun n => rfl) H
    obtain ⟨b4, H⟩ := Ev.aal rfl rfl hS.1 qa_109 qz_27 H
    have H : Ev none e 86 50 [some (.ref 0), some (.int x), some (.int y), none] [.ref (oI M 109 x)] M v M' 0 0 := H
    have H : Ev none e 86 52 [some (.ref 0), some (.int x), some (.int y), some (.ref (oI M 109 x))] [.ref 0] M v M' 0 0 := Ev.back 2 (fun n => rfl) H
    have H : Ev none e 86 55 [some (.ref 0), some (.int x), some (.int y), some (.ref (oI M 109 x))] [.ref 104] M v M' 0 0 := Ev.back 1 (gs_3 rfl rfl (gf_u hS.1 qa_0 qr_0_3 qu_22 rfl)) H
    have H : Ev none e 86 58 [some (.ref 0), some (.int x), some (.int y), some (.ref (oI M 109 x))] [.ref 109] M v M' 0 0 := Ev.back 1 (gs_3 rfl rfl (gf_u hS.1 qa_104 qr_22_1 qu_27 rfl)) H
    have H : Ev none e 86 60 [some (.ref 0), some (.int x), some (.int y), some (.ref (oI M 109 x))] [.ref 0, .int x, .ref 109] M v M' 0 0 := Ev.back 2 (fun n => rfl) H
    have H : Ev none e 86 63 [some (.ref 0), some (.int x), some (.int y), some (.ref (oI M 109 x))] [.ref 104, .int x, .ref 109] M v M' 0 0 := Ev.back 1 (gs_3 rfl rfl (gf_u hS.1 qa_0 qr_0_3 qu_22 rfl)) H
    have H : Ev none e 86 66 [some (.ref 0), some (.int x), some (.int y), some (.ref (oI M 109 x))] [.ref (fR M 104 3), .int x, .ref 109] M v M' 0 0 := Ev.back 1 (gs_3 rfl rfl (gf_r hS.1 qa_104 qr_22_3 rfl)) H
    obtain ⟨b5, H⟩ := Ev.aas rfl rfl hS.1 qa_109 qz_27 H
    obtain ⟨N6, eN6⟩ : ∃ N, N = (wO M 109 x.toNatClampNeg (fR M 104 3)) := ⟨_, rfl⟩
    have hN6 : SQ N6 := by rw [eN6]; exact hS.ko qa_109 qz_27 (hS.1.fr qa_104 qr_22_3).2
    have H : Ev none e 86 67 [some (.ref 0), some (.int x), some (.int y), some (.ref (oI M 109 x))] [] N6 v M' 0 0 := by rw [eN6]; exact H
    have H : Ev none e 86 68 [some (.ref 0), some (.int x), some (.int y), some (.ref (oI M 109 x))] [.ref 0] N6 v M' 0 0 := Ev.back 1 (fun n => rfl) H
    have H : Ev none e 86 71 [some (.ref 0), some (.int x), some (.int y), some (.ref (oI M 109 x))] [.ref 104] N6 v M' 0 0 := Ev.back 1 (gs_3 rfl rfl (gf_u hN6.1 qa_0 qr_0_3 qu_22 rfl)) H
    have H : Ev none e 86 72 [some (.ref 0), some (.int x), some (.int y), some (.ref (oI M 109 x))] [.ref (oI M 109 x), .ref 104] N6 v M' 0 0 := Ev.back 1 (fun n => rfl) H
    obtain ⟨N8, eN8⟩ : ∃ N, N = (wR N6 104 3 (oI M 109 x)) := ⟨_, rfl⟩
    have hN8 : SQ N8 := by rw [eN8]; exact hN6.kr_22_3 b4.2
    have H : Ev none e 86 75 [some (.ref 0), some (.int x), some (.int y), some (.ref (oI M 109 x))] [] N8 v M' 0 0 := by rw [eN8]; exact Ev.pfr rfl rfl rfl hN6.1 qa_104 qo_22 H
    have H : Ev none e 86 78 [some (.ref 0), some (.int x), some (.int y), some (.ref (oI M 109 x))] [.ref 0, .int y, .ref 0] N8 v M' 0 0 := Ev.back 3 (fun n => rfl) H
    have H : Ev none e 86 81 [some (.ref 0), some (.int x), some (.int y), some (.ref (oI M 109 x))] [.ref 104, .int y, .ref 0] N8 v M' 0 0 := Ev.back 1 (gs_3 rfl rfl (gf_u hN8.1 qa_0 qr_0_3 qu_22 rfl)) H
    have H : Ev none e 86 84 [some (.ref 0), some (.int x), some (.int y), some (.ref (oI M 109 x))] [.ref 109, .int y, .ref 0] N8 v M' 0 0 := Ev.back 1 (gs_3 rfl rfl (gf_u hN8.1 qa_104 qr_22_1 qu_27 rfl)) H
    have H : Ev none e 86 85 [some (.ref 0), some (.int x), some (.int y), some (.ref (oI M 109 x))] [.int x, .ref 109, .int y, .ref 0] N8 v M' 0 0 := Ev.back 1 (fun n => rfl) H
    obtain ⟨b9, H⟩ := Ev.aal rfl rfl hN8.1 qa_109 qz_27 H
    have H : Ev none e 86 86 [some (.ref 0), some (.int x), some (.int y), some (.ref (oI M 109 x))] [.ref (oI N8 109 x), .int y, .ref 0] N8 v M' 0 0 := H
    obtain ⟨e1, rfl⟩ := Ev.dpos rfl rfl H
    obtain ⟨vK10, MK10, K10, H⟩ := Ev.callb (fun n => gs_7 rfl rfl (show gCal (.invokevirtual 137) 10 (.ref (oI N8 109 x) :: .int y :: .ref 0 :: []) N8 = some (.inr (87, [some (.ref 0), some (.int y), some (.ref (oI N8 109 x))], [])) from by show @cond (Option ((List Value × Mem) ⊕ (Nat × Lo × List Value))) (true && gRecv N8 (.ref 0) 10 && gRoom [] && true) (some (.inr (87, [some (.ref 0), some (.int y), some (.ref (oI N8 109 x))], []))) none = _; rw [recv_s hN8.1 qa_0 qo_0]; rfl)) H
    have K10 : Ev none e1 87 0 [some (.ref 0), some (.int y), some (.ref (oI N8 109 x))] [] N8 vK10 MK10 0 0 := K10
    have HF := H
    subst eN6 eN8
    exact Or.inr (⟨h1, b4.1, b5, b9.1, ⟨e1, vK10, MK10, rfl, K10, HF⟩⟩)
theorem hb_89 {e : Nat} {M M' : Mem} {v : Option Value} {x y z : Int32} {c2 : Option Value} (hS : SQ M) (H : Ev none e 86 89 [some (.ref 0), some (.int x), some (.int y), c2] [.int z] M v M' 0 0) : v = some (.int z) ∧ M' = M := by
  obtain ⟨z1, z2⟩ := Ev.retz rfl rfl H
  exact ⟨z1, z2⟩
theorem flt_0 {e : Nat} {M M' : Mem} {v : Option Value} (hS : SQ M) (H : Ev none e 88 0 [some (.ref 0)] [] M v M' 0 0) : v = some (.int (zI M 0 15)) ∧ M' = M := by
  have H : Ev none e 88 1 [some (.ref 0)] [.ref 0] M v M' 0 0 := Ev.back 1 (fun n => rfl) H
  have H : Ev none e 88 4 [some (.ref 0)] [.int (zI M 0 15)] M v M' 0 0 := Ev.back 1 (gs_3 rfl rfl (gf_i hS.1 qa_0 qi_0_15 rfl)) H
  obtain ⟨z1, z2⟩ := Ev.retz rfl rfl H
  exact ⟨z1, z2⟩
/-! THE CLASS'S habit -/
section HABC
variable {n : Nat} {B : Nat → Int32} {M M' : Mem}
theorem g126 {x : Int32} : G_126 M x 0 5 = 0 ↔ ¬ (0 ≤ x.toInt ∧ x.toInt ≤ 5) := by
  have z0 : (0 : Int32).toInt = 0 := rfl
  have z5 : (5 : Int32).toInt = 5 := rfl
  unfold G_126
  by_cases h1 : x < 0
  · rw [if_pos h1]
    rw [Int32.lt_iff_toInt_lt] at h1
    exact ⟨fun _ => by omega, fun _ => rfl⟩
  · rw [if_neg h1]
    rw [Int32.lt_iff_toInt_lt] at h1
    by_cases h2 : 5 < x
    · rw [if_pos h2]
      rw [Int32.lt_iff_toInt_lt] at h2
      exact ⟨fun _ => by omega, fun _ => rfl⟩
    · rw [if_neg h2]
      rw [Int32.lt_iff_toInt_lt] at h2
      exact ⟨fun q => absurd q (by decide), fun q => absurd (by omega) q⟩
theorem clp {x : Int32} (h : 0 ≤ x.toInt) : (x.toNatClampNeg : Int) = x.toInt := Int.toNat_of_nonneg h
theorem hab_out {e : Nat} {v : Option Value} {x : Int32} (hS : SQ M) (hx : ¬ (0 ≤ x.toInt ∧ x.toInt ≤ 5)) (H : Ev none e 86 0 [some (.ref 0), some (.int x), none, none] [] M v M' 0 0) : v = some (.int (-1000)) ∧ M' = wF M 1 1 0 := by
  rcases hb_0 hS H with ⟨_, h⟩ | ⟨q, _⟩
  · exact h
  · exact absurd (g126.mpr hx) q
theorem hab_ok {e : Nat} {v : Option Value} {x : Int32} (hS : SQ M) (hx : 0 ≤ x.toInt ∧ x.toInt ≤ 5) (hn : (zI M 1 1).toInt = (n : Int)) (hn2 : n ≤ 440) (hB : ∀ k, k < n → bC M k = B k) (H : Ev none (e + 3) 86 0 [some (.ref 0), some (.int x), none, none] [] M v M' 0 0) : (∃ x, v = some (.int x) ∧ x.toInt = ansB (rdB B n false ((prS B e).1 1))) ∧ SQ M' ∧ (∀ a k, (a, k) ∉ fRe (fR M 104 3) → fV M' a k = fV M a k) ∧ (∀ b, b ∉ wTx (fR M 104 3) → zrw M' b = zrw M b) ∧ (∀ b, b ≠ 109 → roL M' b = roL M b) ∧ zI M' 1 1 = 0 ∧ zI M' 0 15 = fltB (rdB B n false ((prS B e).1 1)) ∧ fR M' 104 2 = fR M 104 2 ∧ (match rdB B n false ((prS B e).1 1) with
    | .inr _ => roL M' 109 = roL M 109 ∧ fR M' 104 3 = fR M 104 3
    | .inl q => roL M' 109 = gPut (roL M 109) x.toNatClampNeg (some (fR M 104 3)) ∧ fR M' 104 3 = oI M 109 x ∧ TXT M' (fR M 104 3) q) := by
  obtain ⟨t3, t2⟩ := tN hS
  rcases hb_0 hS H with ⟨q, _⟩ | ⟨_, e1, v1, M1, he, H1, H⟩
  · exact absurd (g126.mp q) (by omega)
  obtain ⟨rfl⟩ : e + 2 = e1 := by omega
  obtain ⟨f1, R⟩ := rt_ok (law := false) hS t3 hn hn2 hB H1
  obtain ⟨sp, hsp⟩ : ∃ sp, sp = fR M 104 3 := ⟨_, rfl⟩
  rw [← hsp] at t3 f1 R ⊢
  have hb := tx_ge t3
  have f1r := f1.re
  have h109 : gNth sT 109 = some 27 := qa_109
  cases hr : rdB B n false ((prS B e).1 1) with
  | inr f =>
    rw [hr] at R
    obtain ⟨rfl, s1, r1, r2⟩ := R
    rcases hb_36 s1 H with ⟨_, b1, e2, v2, M2, he2, H2, H⟩ | ⟨q, _⟩
    · have tx : gNth sT (oI M1 109 x) = some 28 := ((s1.1.ror qa_109 qz_27).2.2 x.toNatClampNeg (by have := clp hx.1; omega)).2
      obtain ⟨⟨y, rfl, hy⟩, s2, f2, z1, z2⟩ := re_no s1 tx r1 r2 H2
      obtain ⟨rfl, rfl⟩ := hb_89 s2 H
      have f3 : FA (fRe sp) (wTx sp) M M' := f1r.trans (f2.more (fun q hq => by
        simp only [List.mem_cons, List.not_mem_nil, or_false] at hq
        rcases hq with rfl | rfl <;> simp [fRe]) (fun q hq => by cases hq))
      refine ⟨⟨y, rfl, hy⟩, s2, f3.1, f3.2.1, fun b _ => f3.2.2 b, z1, z2, ?_, f3.2.2 109, ?_⟩
      · rw [f2.fr (by decide), f1.fr (by simp [fTx])]
      · rw [f2.fr (by decide), f1.fr (by simp [fTx])]
        exact hsp.symm
    · exact absurd rfl q
  | inl q =>
    rw [hr] at R
    obtain ⟨rfl, C1⟩ := R
    have s1 := C1.1.1
    rcases hb_36 s1 H with ⟨q, _⟩ | ⟨_, b1, _, _, e2, v2, M2, he2, H2, H⟩
    · exact absurd q (by decide)
    · obtain ⟨t13, t12⟩ := tN s1
      have hlt : x.toNatClampNeg < 6 := by have := clp hx.1; omega
      have tx : gNth sT (oI M1 109 x) = some 28 := ((s1.1.ror qa_109 qz_27).2.2 x.toNatClampNeg hlt).2
      have r3 : fR M1 104 3 = sp := (f1.fr (by simp [fTx])).trans hsp.symm
      have o1 : oI M1 109 x = oI M 109 x := f1.on
      rw [r3] at H2 t13
      have s1b : SQ (wO M1 109 x.toNatClampNeg sp) := s1.ko qa_109 qz_27 t13
      have s2 : SQ (wR (wO M1 109 x.toNatClampNeg sp) 104 3 (oI M1 109 x)) := s1b.kr_22_3 tx
      have e2 : oI (wR (wO M1 109 x.toNatClampNeg sp) 104 3 (oI M1 109 x)) 109 x = sp := by
        show oN _ 109 _ = _
        rw [show oN (wR (wO M1 109 x.toNatClampNeg sp) 104 3 (oI M1 109 x)) 109 x.toNatClampNeg = oN (wO M1 109 x.toNatClampNeg sp) 109 x.toNatClampNeg from by unfold oN; rw [roL_wR]]
        exact oN_wO_eq s1.1 qa_109 qz_27 hlt
      have h9 : zI M1 3 12 = 0 := C1.1.2.2.2.2.2.2.2.2
      rw [e2] at H2
      obtain ⟨rfl, s3, f3, z1, z2⟩ := re_yes s2 t3 H2
      obtain ⟨rfl, rfl⟩ := hb_89 s3 H
      have g2 : ∀ a k, (a, k) ≠ (104, 3) → fV (wR (wO M1 109 x.toNatClampNeg sp) 104 3 (oI M1 109 x)) a k = fV M1 a k := fun a k h => by
        rw [fV_wR_ne (fun q => h (by rw [q.1, q.2])), fV_wO]
      have gI : ∀ a k, (a, k) ≠ (104, 3) → zI (wR (wO M1 109 x.toNatClampNeg sp) 104 3 (oI M1 109 x)) a k = zI M1 a k := fun a k h => by
        unfold zI
        rw [g2 a k h]
      have gW : ∀ b, zrw (wR (wO M1 109 x.toNatClampNeg sp) 104 3 (oI M1 109 x)) b = zrw M1 b := fun b => by
        rw [rwL_wR, rwL_wO]
      refine ⟨⟨_, rfl, ?_⟩, s3, fun a k h => ?_, fun b h => ?_, fun b h => ?_, z1, ?_, ?_, ?_, ?_, ?_⟩
      · rw [gI _ _ (fun q => by injection q; omega)]
        exact C1.2.1.1
      · have h' := h
        rw [f3.1 a k (fun q => h' (by
          simp only [List.mem_cons, List.not_mem_nil, or_false] at q
          rcases q with q | q <;> rw [q] <;> simp [fRe])), g2 a k (fun q => h' (by rw [q]; simp [fRe])), f1r.1 a k h]
      · rw [f3.2.1 b (fun q => by cases q), gW, f1.2.1 b h]
      · rw [f3.2.2, roL_wR, roL_wO_ne h, f1.2.2]
      · rw [z2, gI _ _ (by decide), h9]
        rfl
      · rw [f3.fr (by decide), fR_wR_ne (by decide), fR_wO, f1.fr (by simp [fTx])]
      · rw [f3.2.2, roL_wR, roL_wO_eq s1.1 qa_109 qz_27, f1.2.2]
      · rw [f3.fr (by decide), fR_wR_eq s1b.1 qa_104 qk_22_3]
        exact o1
      · have f2' : FA [(104, 3)] [] M1 (wR M1 104 3 (oI M1 109 x)) := FA.wR (by simp)
        have T1 : TXT M1 sp q := ⟨C1.2.1, C1.1.2.2.2.2.2.2.1, C1.2.2.1, C1.2.2.2.1, C1.2.2.2.2.1, C1.2.2.2.2.2.1⟩
        have T2 : TXT (wR (wO M1 109 x.toNatClampNeg sp) 104 3 (oI M1 109 x)) sp q := by
          have hR : ∀ b j, rN (wR (wO M1 109 x.toNatClampNeg sp) 104 3 (oI M1 109 x)) b j = rN M1 b j := fun b j => by
            unfold rN
            rw [gW]
          have hI : ∀ k, zI (wR (wO M1 109 x.toNatClampNeg sp) 104 3 (oI M1 109 x)) sp k = zI M1 sp k := fun k => gI sp k (fun q => by injection q; omega)
          obtain ⟨⟨u1, u2, u3⟩, ⟨w1, w2, w3⟩, x1, x2, x3, x4⟩ := T1
          refine ⟨⟨by rw [hI]; exact u1, u2, fun j l hj => ?_⟩, ⟨by rw [hI]; exact w1, w2, fun j c hj => ?_⟩, by rw [hI]; exact x1, by rw [hI]; exact x2, by rw [hI]; exact x3, by rw [hI]; exact x4⟩
          · rw [hR, hR, hR, hR, hR]
            exact u3 j l hj
          · rw [hR, hR, hR]
            exact w3 j c hj
        exact T2.frm f3 (fun k _ _ => by simp; omega) (fun b _ _ => by simp)
end HABC
