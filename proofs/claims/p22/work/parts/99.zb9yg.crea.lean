/-! THE REFERENCE'S READER: pieces of read, line, text, law, habit (made by gre.py) -/
noncomputable def G_168 (M : Mem) (l : Int32) : Int32 := if (zI M 633 22) = 1 then (if l = 0 then (if (lg_cmp (fL M 633 31) 512802514792) = 0 then 5 else (if (lg_cmp (fL M 633 31) 474148660594) = 0 then 6 else (if (lg_cmp (fL M 633 31) 495689623668) = 0 then 7 else (-1)))) else (if (lg_cmp (fL M 633 31) 2003132786) = 0 then 0 else (if (lg_cmp (fL M 633 31) 1735552887) = 0 then 1 else (if (lg_cmp (fL M 633 31) 1818848869) = 0 then 2 else (if (lg_cmp (fL M 633 31) 7173476) = 0 then 3 else (if (lg_cmp (fL M 633 31) 6582905) = 0 then 4 else (-1))))))) else (-1)
theorem g_168 {e : Nat} {M M' : Mem} {v : Option Value} {l : Int32} (hS : SQ M) (H : Ev none e 168 0 [some (.ref 633), some (.int l)] [] M v M' 0 0) : v = some (.int (G_168 M l)) ∧ M' = M := by
  unfold G_168
  have H : Ev none e 168 1 [some (.ref 633), some (.int l)] [.ref 633] M v M' 0 0 := Ev.back 1 (fun n => rfl) H
  have H : Ev none e 168 4 [some (.ref 633), some (.int l)] [.int (zI M 633 22)] M v M' 0 0 := Ev.back 1 (gs_3 rfl rfl (gf_i hS.1 qa_633 qi_61_22 rfl)) H
  have H : Ev none e 168 (if (zI M 633 22) = 1 then 10 else 8) [some (.ref 633), some (.int l)] [] M v M' 0 0 := Ev.back 2 (fun n => rfl) H
  by_cases h1 : (zI M 633 22) = 1
  · rw [if_pos h1] at H
    have H : Ev none e 168 (if l = 0 then 91 else 14) [some (.ref 633), some (.int l)] [] M v M' 0 0 := Ev.back 2 (fun n => rfl) H
    by_cases h2 : l = 0
    · rw [if_pos h2] at H
      have H : Ev none e 168 92 [some (.ref 633), some (.int l)] [.ref 633] M v M' 0 0 := Ev.back 1 (fun n => rfl) H
      have H : Ev none e 168 95 [some (.ref 633), some (.int l)] [.long (fL M 633 31)] M v M' 0 0 := Ev.back 1 (gs_3 rfl rfl (gf_l hS.1 qa_633 ql_61_31 rfl)) H
      have H : Ev none e 168 (if (lg_cmp (fL M 633 31) 512802514792) = 0 then 102 else 106) [some (.ref 633), some (.int l)] [] M v M' 0 0 := Ev.back 3 (fun n => rfl) H
      by_cases h3 : (lg_cmp (fL M 633 31) 512802514792) = 0
      · rw [if_pos h3] at H
        have H : Ev none e 168 139 [some (.ref 633), some (.int l)] [.int 5] M v M' 0 0 := Ev.back 2 (fun n => rfl) H
        obtain ⟨p1, p2⟩ := Ev.retz rfl rfl H
        exact ⟨by rw [if_pos h1, if_pos h2, if_pos h3]; exact p1, p2⟩
      · rw [if_neg h3] at H
        have H : Ev none e 168 107 [some (.ref 633), some (.int l)] [.ref 633] M v M' 0 0 := Ev.back 1 (fun n => rfl) H
        have H : Ev none e 168 110 [some (.ref 633), some (.int l)] [.long (fL M 633 31)] M v M' 0 0 := Ev.back 1 (gs_3 rfl rfl (gf_l hS.1 qa_633 ql_61_31 rfl)) H
        have H : Ev none e 168 (if (lg_cmp (fL M 633 31) 474148660594) = 0 then 117 else 122) [some (.ref 633), some (.int l)] [] M v M' 0 0 := Ev.back 3 (fun n => rfl) H
        by_cases h4 : (lg_cmp (fL M 633 31) 474148660594) = 0
        · rw [if_pos h4] at H
          have H : Ev none e 168 139 [some (.ref 633), some (.int l)] [.int 6] M v M' 0 0 := Ev.back 2 (fun n => rfl) H
          obtain ⟨p1, p2⟩ := Ev.retz rfl rfl H
          exact ⟨by rw [if_pos h1, if_pos h2, if_neg h3, if_pos h4]; exact p1, p2⟩
        · rw [if_neg h4] at H
          have H : Ev none e 168 123 [some (.ref 633), some (.int l)] [.ref 633] M v M' 0 0 := Ev.back 1 (fun n => rfl) H
          have H : Ev none e 168 126 [some (.ref 633), some (.int l)] [.long (fL M 633 31)] M v M' 0 0 := Ev.back 1 (gs_3 rfl rfl (gf_l hS.1 qa_633 ql_61_31 rfl)) H
          have H : Ev none e 168 (if (lg_cmp (fL M 633 31) 495689623668) = 0 then 133 else 138) [some (.ref 633), some (.int l)] [] M v M' 0 0 := Ev.back 3 (fun n => rfl) H
          by_cases h5 : (lg_cmp (fL M 633 31) 495689623668) = 0
          · rw [if_pos h5] at H
            have H : Ev none e 168 139 [some (.ref 633), some (.int l)] [.int 7] M v M' 0 0 := Ev.back 2 (fun n => rfl) H
            obtain ⟨p1, p2⟩ := Ev.retz rfl rfl H
            exact ⟨by rw [if_pos h1, if_pos h2, if_neg h3, if_neg h4, if_pos h5]; exact p1, p2⟩
          · rw [if_neg h5] at H
            have H : Ev none e 168 139 [some (.ref 633), some (.int l)] [.int (-1)] M v M' 0 0 := Ev.back 1 (fun n => rfl) H
            obtain ⟨p1, p2⟩ := Ev.retz rfl rfl H
            exact ⟨by rw [if_pos h1, if_pos h2, if_neg h3, if_neg h4, if_neg h5]; exact p1, p2⟩
    · rw [if_neg h2] at H
      have H : Ev none e 168 15 [some (.ref 633), some (.int l)] [.ref 633] M v M' 0 0 := Ev.back 1 (fun n => rfl) H
      have H : Ev none e 168 18 [some (.ref 633), some (.int l)] [.long (fL M 633 31)] M v M' 0 0 := Ev.back 1 (gs_3 rfl rfl (gf_l hS.1 qa_633 ql_61_31 rfl)) H
      have H : Ev none e 168 (if (lg_cmp (fL M 633 31) 2003132786) = 0 then 25 else 29) [some (.ref 633), some (.int l)] [] M v M' 0 0 := Ev.back 3 (fun n => rfl) H
      by_cases h6 : (lg_cmp (fL M 633 31) 2003132786) = 0
      · rw [if_pos h6] at H
        have H : Ev none e 168 90 [some (.ref 633), some (.int l)] [.int 0] M v M' 0 0 := Ev.back 2 (fun n => rfl) H
        obtain ⟨p1, p2⟩ := Ev.retz rfl rfl H
        exact ⟨by rw [if_pos h1, if_neg h2, if_pos h6]; exact p1, p2⟩
      · rw [if_neg h6] at H
        have H : Ev none e 168 30 [some (.ref 633), some (.int l)] [.ref 633] M v M' 0 0 := Ev.back 1 (fun n => rfl) H
        have H : Ev none e 168 33 [some (.ref 633), some (.int l)] [.long (fL M 633 31)] M v M' 0 0 := Ev.back 1 (gs_3 rfl rfl (gf_l hS.1 qa_633 ql_61_31 rfl)) H
        have H : Ev none e 168 (if (lg_cmp (fL M 633 31) 1735552887) = 0 then 40 else 44) [some (.ref 633), some (.int l)] [] M v M' 0 0 := Ev.back 3 (fun n => rfl) H
        by_cases h7 : (lg_cmp (fL M 633 31) 1735552887) = 0
        · rw [if_pos h7] at H
          have H : Ev none e 168 90 [some (.ref 633), some (.int l)] [.int 1] M v M' 0 0 := Ev.back 2 (fun n => rfl) H
          obtain ⟨p1, p2⟩ := Ev.retz rfl rfl H
          exact ⟨by rw [if_pos h1, if_neg h2, if_neg h6, if_pos h7]; exact p1, p2⟩
        · rw [if_neg h7] at H
          have H : Ev none e 168 45 [some (.ref 633), some (.int l)] [.ref 633] M v M' 0 0 := Ev.back 1 (fun n => rfl) H
          have H : Ev none e 168 48 [some (.ref 633), some (.int l)] [.long (fL M 633 31)] M v M' 0 0 := Ev.back 1 (gs_3 rfl rfl (gf_l hS.1 qa_633 ql_61_31 rfl)) H
          have H : Ev none e 168 (if (lg_cmp (fL M 633 31) 1818848869) = 0 then 55 else 59) [some (.ref 633), some (.int l)] [] M v M' 0 0 := Ev.back 3 (fun n => rfl) H
          by_cases h8 : (lg_cmp (fL M 633 31) 1818848869) = 0
          · rw [if_pos h8] at H
            have H : Ev none e 168 90 [some (.ref 633), some (.int l)] [.int 2] M v M' 0 0 := Ev.back 2 (fun n => rfl) H
            obtain ⟨p1, p2⟩ := Ev.retz rfl rfl H
            exact ⟨by rw [if_pos h1, if_neg h2, if_neg h6, if_neg h7, if_pos h8]; exact p1, p2⟩
          · rw [if_neg h8] at H
            have H : Ev none e 168 60 [some (.ref 633), some (.int l)] [.ref 633] M v M' 0 0 := Ev.back 1 (fun n => rfl) H
            have H : Ev none e 168 63 [some (.ref 633), some (.int l)] [.long (fL M 633 31)] M v M' 0 0 := Ev.back 1 (gs_3 rfl rfl (gf_l hS.1 qa_633 ql_61_31 rfl)) H
            have H : Ev none e 168 (if (lg_cmp (fL M 633 31) 7173476) = 0 then 70 else 74) [some (.ref 633), some (.int l)] [] M v M' 0 0 := Ev.back 3 (fun n => rfl) H
            by_cases h9 : (lg_cmp (fL M 633 31) 7173476) = 0
            · rw [if_pos h9] at H
              have H : Ev none e 168 90 [some (.ref 633), some (.int l)] [.int 3] M v M' 0 0 := Ev.back 2 (fun n => rfl) H
              obtain ⟨p1, p2⟩ := Ev.retz rfl rfl H
              exact ⟨by rw [if_pos h1, if_neg h2, if_neg h6, if_neg h7, if_neg h8, if_pos h9]; exact p1, p2⟩
            · rw [if_neg h9] at H
              have H : Ev none e 168 75 [some (.ref 633), some (.int l)] [.ref 633] M v M' 0 0 := Ev.back 1 (fun n => rfl) H
              have H : Ev none e 168 78 [some (.ref 633), some (.int l)] [.long (fL M 633 31)] M v M' 0 0 := Ev.back 1 (gs_3 rfl rfl (gf_l hS.1 qa_633 ql_61_31 rfl)) H
              have H : Ev none e 168 (if (lg_cmp (fL M 633 31) 6582905) = 0 then 85 else 89) [some (.ref 633), some (.int l)] [] M v M' 0 0 := Ev.back 3 (fun n => rfl) H
              by_cases h10 : (lg_cmp (fL M 633 31) 6582905) = 0
              · rw [if_pos h10] at H
                have H : Ev none e 168 90 [some (.ref 633), some (.int l)] [.int 4] M v M' 0 0 := Ev.back 2 (fun n => rfl) H
                obtain ⟨p1, p2⟩ := Ev.retz rfl rfl H
                exact ⟨by rw [if_pos h1, if_neg h2, if_neg h6, if_neg h7, if_neg h8, if_neg h9, if_pos h10]; exact p1, p2⟩
              · rw [if_neg h10] at H
                have H : Ev none e 168 90 [some (.ref 633), some (.int l)] [.int (-1)] M v M' 0 0 := Ev.back 1 (fun n => rfl) H
                obtain ⟨p1, p2⟩ := Ev.retz rfl rfl H
                exact ⟨by rw [if_pos h1, if_neg h2, if_neg h6, if_neg h7, if_neg h8, if_neg h9, if_neg h10]; exact p1, p2⟩
  · rw [if_neg h1] at H
    have H : Ev none e 168 9 [some (.ref 633), some (.int l)] [.int (-1)] M v M' 0 0 := Ev.back 1 (fun n => rfl) H
    obtain ⟨p1, p2⟩ := Ev.retz rfl rfl H
    exact ⟨by rw [if_neg h1]; exact p1, p2⟩
noncomputable def G_171 (M : Mem) : Int32 := if (zI M 633 22) = 1 then (if (lg_cmp (fL M 633 31) 444300879214) = 0 then 0 else (if (lg_cmp (fL M 633 31) 7824756) = 0 then 1 else (if (lg_cmp (fL M 633 31) 427020610914) = 0 then 2 else (if (lg_cmp (fL M 633 31) 427121669988) = 0 then 3 else (if (lg_cmp (fL M 633 31) 1953854062) = 0 then 4 else (if (lg_cmp (fL M 633 31) 1668246885) = 0 then 5 else (if (lg_cmp (fL M 633 31) 1818848869) = 0 then 6 else (-1)))))))) else (-1)
theorem g_171 {e : Nat} {M M' : Mem} {v : Option Value} (hS : SQ M) (H : Ev none e 171 0 [some (.ref 633)] [] M v M' 0 0) : v = some (.int (G_171 M)) ∧ M' = M := by
  unfold G_171
  have H : Ev none e 171 1 [some (.ref 633)] [.ref 633] M v M' 0 0 := Ev.back 1 (fun n => rfl) H
  have H : Ev none e 171 4 [some (.ref 633)] [.int (zI M 633 22)] M v M' 0 0 := Ev.back 1 (gs_3 rfl rfl (gf_i hS.1 qa_633 qi_61_22 rfl)) H
  have H : Ev none e 171 (if (zI M 633 22) = 1 then 10 else 8) [some (.ref 633)] [] M v M' 0 0 := Ev.back 2 (fun n => rfl) H
  by_cases h1 : (zI M 633 22) = 1
  · rw [if_pos h1] at H
    have H : Ev none e 171 11 [some (.ref 633)] [.ref 633] M v M' 0 0 := Ev.back 1 (fun n => rfl) H
    have H : Ev none e 171 14 [some (.ref 633)] [.long (fL M 633 31)] M v M' 0 0 := Ev.back 1 (gs_3 rfl rfl (gf_l hS.1 qa_633 ql_61_31 rfl)) H
    have H : Ev none e 171 (if (lg_cmp (fL M 633 31) 444300879214) = 0 then 21 else 25) [some (.ref 633)] [] M v M' 0 0 := Ev.back 3 (fun n => rfl) H
    by_cases h2 : (lg_cmp (fL M 633 31) 444300879214) = 0
    · rw [if_pos h2] at H
      have H : Ev none e 171 117 [some (.ref 633)] [.int 0] M v M' 0 0 := Ev.back 2 (fun n => rfl) H
      obtain ⟨p1, p2⟩ := Ev.retz rfl rfl H
      exact ⟨by rw [if_pos h1, if_pos h2]; exact p1, p2⟩
    · rw [if_neg h2] at H
      have H : Ev none e 171 26 [some (.ref 633)] [.ref 633] M v M' 0 0 := Ev.back 1 (fun n => rfl) H
      have H : Ev none e 171 29 [some (.ref 633)] [.long (fL M 633 31)] M v M' 0 0 := Ev.back 1 (gs_3 rfl rfl (gf_l hS.1 qa_633 ql_61_31 rfl)) H
      have H : Ev none e 171 (if (lg_cmp (fL M 633 31) 7824756) = 0 then 36 else 40) [some (.ref 633)] [] M v M' 0 0 := Ev.back 3 (fun n => rfl) H
      by_cases h3 : (lg_cmp (fL M 633 31) 7824756) = 0
      · rw [if_pos h3] at H
        have H : Ev none e 171 117 [some (.ref 633)] [.int 1] M v M' 0 0 := Ev.back 2 (fun n => rfl) H
        obtain ⟨p1, p2⟩ := Ev.retz rfl rfl H
        exact ⟨by rw [if_pos h1, if_neg h2, if_pos h3]; exact p1, p2⟩
      · rw [if_neg h3] at H
        have H : Ev none e 171 41 [some (.ref 633)] [.ref 633] M v M' 0 0 := Ev.back 1 (fun n => rfl) H
        have H : Ev none e 171 44 [some (.ref 633)] [.long (fL M 633 31)] M v M' 0 0 := Ev.back 1 (gs_3 rfl rfl (gf_l hS.1 qa_633 ql_61_31 rfl)) H
        have H : Ev none e 171 (if (lg_cmp (fL M 633 31) 427020610914) = 0 then 51 else 55) [some (.ref 633)] [] M v M' 0 0 := Ev.back 3 (fun n => rfl) H
        by_cases h4 : (lg_cmp (fL M 633 31) 427020610914) = 0
        · rw [if_pos h4] at H
          have H : Ev none e 171 117 [some (.ref 633)] [.int 2] M v M' 0 0 := Ev.back 2 (fun n => rfl) H
          obtain ⟨p1, p2⟩ := Ev.retz rfl rfl H
          exact ⟨by rw [if_pos h1, if_neg h2, if_neg h3, if_pos h4]; exact p1, p2⟩
        · rw [if_neg h4] at H
          have H : Ev none e 171 56 [some (.ref 633)] [.ref 633] M v M' 0 0 := Ev.back 1 (fun n => rfl) H
          have H : Ev none e 171 59 [some (.ref 633)] [.long (fL M 633 31)] M v M' 0 0 := Ev.back 1 (gs_3 rfl rfl (gf_l hS.1 qa_633 ql_61_31 rfl)) H
          have H : Ev none e 171 (if (lg_cmp (fL M 633 31) 427121669988) = 0 then 66 else 70) [some (.ref 633)] [] M v M' 0 0 := Ev.back 3 (fun n => rfl) H
          by_cases h5 : (lg_cmp (fL M 633 31) 427121669988) = 0
          · rw [if_pos h5] at H
            have H : Ev none e 171 117 [some (.ref 633)] [.int 3] M v M' 0 0 := Ev.back 2 (fun n => rfl) H
            obtain ⟨p1, p2⟩ := Ev.retz rfl rfl H
            exact ⟨by rw [if_pos h1, if_neg h2, if_neg h3, if_neg h4, if_pos h5]; exact p1, p2⟩
          · rw [if_neg h5] at H
            have H : Ev none e 171 71 [some (.ref 633)] [.ref 633] M v M' 0 0 := Ev.back 1 (fun n => rfl) H
            have H : Ev none e 171 74 [some (.ref 633)] [.long (fL M 633 31)] M v M' 0 0 := Ev.back 1 (gs_3 rfl rfl (gf_l hS.1 qa_633 ql_61_31 rfl)) H
            have H : Ev none e 171 (if (lg_cmp (fL M 633 31) 1953854062) = 0 then 81 else 85) [some (.ref 633)] [] M v M' 0 0 := Ev.back 3 (fun n => rfl) H
            by_cases h6 : (lg_cmp (fL M 633 31) 1953854062) = 0
            · rw [if_pos h6] at H
              have H : Ev none e 171 117 [some (.ref 633)] [.int 4] M v M' 0 0 := Ev.back 2 (fun n => rfl) H
              obtain ⟨p1, p2⟩ := Ev.retz rfl rfl H
              exact ⟨by rw [if_pos h1, if_neg h2, if_neg h3, if_neg h4, if_neg h5, if_pos h6]; exact p1, p2⟩
            · rw [if_neg h6] at H
              have H : Ev none e 171 86 [some (.ref 633)] [.ref 633] M v M' 0 0 := Ev.back 1 (fun n => rfl) H
              have H : Ev none e 171 89 [some (.ref 633)] [.long (fL M 633 31)] M v M' 0 0 := Ev.back 1 (gs_3 rfl rfl (gf_l hS.1 qa_633 ql_61_31 rfl)) H
              have H : Ev none e 171 (if (lg_cmp (fL M 633 31) 1668246885) = 0 then 96 else 100) [some (.ref 633)] [] M v M' 0 0 := Ev.back 3 (fun n => rfl) H
              by_cases h7 : (lg_cmp (fL M 633 31) 1668246885) = 0
              · rw [if_pos h7] at H
                have H : Ev none e 171 117 [some (.ref 633)] [.int 5] M v M' 0 0 := Ev.back 2 (fun n => rfl) H
                obtain ⟨p1, p2⟩ := Ev.retz rfl rfl H
                exact ⟨by rw [if_pos h1, if_neg h2, if_neg h3, if_neg h4, if_neg h5, if_neg h6, if_pos h7]; exact p1, p2⟩
              · rw [if_neg h7] at H
                have H : Ev none e 171 101 [some (.ref 633)] [.ref 633] M v M' 0 0 := Ev.back 1 (fun n => rfl) H
                have H : Ev none e 171 104 [some (.ref 633)] [.long (fL M 633 31)] M v M' 0 0 := Ev.back 1 (gs_3 rfl rfl (gf_l hS.1 qa_633 ql_61_31 rfl)) H
                have H : Ev none e 171 (if (lg_cmp (fL M 633 31) 1818848869) = 0 then 111 else 116) [some (.ref 633)] [] M v M' 0 0 := Ev.back 3 (fun n => rfl) H
                by_cases h8 : (lg_cmp (fL M 633 31) 1818848869) = 0
                · rw [if_pos h8] at H
                  have H : Ev none e 171 117 [some (.ref 633)] [.int 6] M v M' 0 0 := Ev.back 2 (fun n => rfl) H
                  obtain ⟨p1, p2⟩ := Ev.retz rfl rfl H
                  exact ⟨by rw [if_pos h1, if_neg h2, if_neg h3, if_neg h4, if_neg h5, if_neg h6, if_neg h7, if_pos h8]; exact p1, p2⟩
                · rw [if_neg h8] at H
                  have H : Ev none e 171 117 [some (.ref 633)] [.int (-1)] M v M' 0 0 := Ev.back 1 (fun n => rfl) H
                  obtain ⟨p1, p2⟩ := Ev.retz rfl rfl H
                  exact ⟨by rw [if_pos h1, if_neg h2, if_neg h3, if_neg h4, if_neg h5, if_neg h6, if_neg h7, if_neg h8]; exact p1, p2⟩
  · rw [if_neg h1] at H
    have H : Ev none e 171 9 [some (.ref 633)] [.int (-1)] M v M' 0 0 := Ev.back 1 (fun n => rfl) H
    obtain ⟨p1, p2⟩ := Ev.retz rfl rfl H
    exact ⟨by rw [if_neg h1]; exact p1, p2⟩
noncomputable def X_139 (M : Mem) : Mem := (wF (wF (wF M 633 3 (zI M 633 2)) 633 2 0) 633 4 0)
theorem g_139 {e : Nat} {M M' : Mem} {v : Option Value} (hS : SQ M) (H : Ev none e 139 0 [some (.ref 633)] [] M v M' 0 0) : v = none ∧ M' = X_139 M := by
  unfold X_139
  have H : Ev none e 139 2 [some (.ref 633)] [.ref 633, .ref 633] M v M' 0 0 := Ev.back 2 (fun n => rfl) H
  have H : Ev none e 139 5 [some (.ref 633)] [.int (zI M 633 2), .ref 633] M v M' 0 0 := Ev.back 1 (gs_3 rfl rfl (gf_i hS.1 qa_633 qi_61_2 rfl)) H
  obtain ⟨N2, eN2⟩ : ∃ N, N = (wF M 633 3 (zI M 633 2)) := ⟨_, rfl⟩
  have hN2 : SQ N2 := by rw [eN2]; exact hS.kf
  have H : Ev none e 139 8 [some (.ref 633)] [] N2 v M' 0 0 := by rw [eN2]; exact Ev.pfi rfl rfl rfl hS.1 qa_633 qi_61_3 H
  have H : Ev none e 139 10 [some (.ref 633)] [.int 0, .ref 633] N2 v M' 0 0 := Ev.back 2 (fun n => rfl) H
  obtain ⟨N4, eN4⟩ : ∃ N, N = (wF N2 633 2 0) := ⟨_, rfl⟩
  have hN4 : SQ N4 := by rw [eN4]; exact hN2.kf
  have H : Ev none e 139 13 [some (.ref 633)] [] N4 v M' 0 0 := by rw [eN4]; exact Ev.pfi rfl rfl rfl hN2.1 qa_633 qi_61_2 H
  have H : Ev none e 139 15 [some (.ref 633)] [.int 0, .ref 633] N4 v M' 0 0 := Ev.back 2 (fun n => rfl) H
  obtain ⟨N6, eN6⟩ : ∃ N, N = (wF N4 633 4 0) := ⟨_, rfl⟩
  have hN6 : SQ N6 := by rw [eN6]; exact hN4.kf
  have H : Ev none e 139 18 [some (.ref 633)] [] N6 v M' 0 0 := by rw [eN6]; exact Ev.pfi rfl rfl rfl hN4.1 qa_633 qi_61_4 H
  obtain ⟨p1, p2⟩ := Ev.retb (fun n => rfl) H
  subst eN2 eN4 eN6
  exact ⟨p1, p2⟩
theorem X_139_sx {M : Mem} (hS : SQ M) : SQ (X_139 M) := by
  unfold X_139
  exact ((hS.kf).kf).kf
noncomputable def A_185 (M : Mem) : Int32 := zI M 633 26
noncomputable def X_185 (M : Mem) : Mem := (wF M 633 0 0)
theorem g_185 {e : Nat} {M M' : Mem} {v : Option Value} (hS : SQ M) (H : Ev none e 185 0 [some (.ref 633)] [] M v M' 0 0) : v = some (.int (A_185 M)) ∧ M' = X_185 M := by
  unfold A_185 X_185
  have H : Ev none e 185 2 [some (.ref 633)] [.int 0, .ref 633] M v M' 0 0 := Ev.back 2 (fun n => rfl) H
  obtain ⟨N2, eN2⟩ : ∃ N, N = (wF M 633 0 0) := ⟨_, rfl⟩
  have hN2 : SQ N2 := by rw [eN2]; exact hS.kf
  have H : Ev none e 185 5 [some (.ref 633)] [] N2 v M' 0 0 := by rw [eN2]; exact Ev.pfi rfl rfl rfl hS.1 qa_633 qi_61_0 H
  have H : Ev none e 185 6 [some (.ref 633)] [.ref 633] N2 v M' 0 0 := Ev.back 1 (fun n => rfl) H
  have H : Ev none e 185 9 [some (.ref 633)] [.int (zI N2 633 26)] N2 v M' 0 0 := Ev.back 1 (gs_3 rfl rfl (gf_i hN2.1 qa_633 qi_61_26 rfl)) H
  rw [show zI N2 633 26 = zI M 633 26 from by rw [eN2]; exact fI_wF_ne (fun q => absurd q.2 (by decide))] at H
  obtain ⟨p1, p2⟩ := Ev.retz rfl rfl H
  subst eN2
  exact ⟨p1, p2⟩
theorem X_185_sx {M : Mem} (hS : SQ M) : SQ (X_185 M) := by
  unfold X_185
  exact hS.kf
theorem snq_0 {e : Nat} {M M' : Mem} {v : Option Value} (hS : SQ M) (H : Ev none e 166 0 [some (.ref 633), some (.int 59)] [] M v M' 0 0) : ((G_165 M 59) = 0 ∧ (∃ e1 v1 M1, e = e1 + 1 ∧ Ev none e1 163 0 [some (.ref 633), some (.int 1)] [] M v1 M1 0 0 ∧ Ev none e 166 13 [some (.ref 633), some (.int 59)] (v1.toList ++ []) M1 v M' 0 0)) ∨ (¬ ((G_165 M 59) = 0) ∧ (∃ e1 v1 M1, e = e1 + 1 ∧ Ev none e1 162 0 [some (.ref 633), none, none, none] [] M v1 M1 0 0 ∧ Ev none e 166 18 [some (.ref 633), some (.int 59)] (v1.toList ++ []) M1 v M' 0 0)) := by
  have H : Ev none e 166 2 [some (.ref 633), some (.int 59)] [.int 59, .ref 633] M v M' 0 0 := Ev.back 2 (fun n => rfl) H
  obtain ⟨e1, rfl⟩ := Ev.dpos rfl rfl H
  obtain ⟨vK1, MK1, K1, H⟩ := Ev.callb (fun n => gs_7 rfl rfl (show gCal (.invokevirtual 195) 11 (.int 59 :: .ref 633 :: []) M = some (.inr (165, [some (.ref 633), some (.int 59)], [])) from by show @cond (Option ((List Value × Mem) ⊕ (Nat × Lo × List Value))) (true && gRecv M (.ref 633) 11 && gRoom [] && true) (some (.inr (165, [some (.ref 633), some (.int 59)], []))) none = _; rw [recv_s hS.1 qa_633 qo_61]; rfl)) H
  obtain ⟨pK1, qK1⟩ := g_165 hS K1
  rw [pK1, qK1] at H
  have H : Ev none (e1 + 1) 166 5 [some (.ref 633), some (.int 59)] [.int (G_165 M 59)] M v M' 0 0 := H
  have H : Ev none (e1 + 1) 166 (if (G_165 M 59) = 0 then 8 else 14) [some (.ref 633), some (.int 59)] [] M v M' 0 0 := Ev.back 1 (fun n => rfl) H
  by_cases h2 : (G_165 M 59) = 0
  · rw [if_pos h2] at H
    have H : Ev none (e1 + 1) 166 10 [some (.ref 633), some (.int 59)] [.int 1, .ref 633] M v M' 0 0 := Ev.back 2 (fun n => rfl) H
    obtain ⟨vK3, MK3, K3, H⟩ := Ev.callb (fun n => gs_7 rfl rfl (show gCal (.invokevirtual 198) 11 (.int 1 :: .ref 633 :: []) M = some (.inr (163, [some (.ref 633), some (.int 1)], [])) from by show @cond (Option ((List Value × Mem) ⊕ (Nat × Lo × List Value))) (true && gRecv M (.ref 633) 11 && gRoom [] && true) (some (.inr (163, [some (.ref 633), some (.int 1)], []))) none = _; rw [recv_s hS.1 qa_633 qo_61]; rfl)) H
    have K3 : Ev none e1 163 0 [some (.ref 633), some (.int 1)] [] M vK3 MK3 0 0 := K3
    have HF := H
    exact Or.inl ⟨h2, ⟨e1, vK3, MK3, rfl, K3, HF⟩⟩
  · rw [if_neg h2] at H
    have H : Ev none (e1 + 1) 166 15 [some (.ref 633), some (.int 59)] [.ref 633] M v M' 0 0 := Ev.back 1 (fun n => rfl) H
    obtain ⟨vK4, MK4, K4, H⟩ := Ev.callb (fun n => gs_7 rfl rfl (show gCal (.invokevirtual 201) 11 (.ref 633 :: []) M = some (.inr (162, [some (.ref 633), none, none, none], [])) from by show @cond (Option ((List Value × Mem) ⊕ (Nat × Lo × List Value))) (true && gRecv M (.ref 633) 11 && gRoom [] && true) (some (.inr (162, [some (.ref 633), none, none, none], []))) none = _; rw [recv_s hS.1 qa_633 qo_61]; rfl)) H
    have K4 : Ev none e1 162 0 [some (.ref 633), none, none, none] [] M vK4 MK4 0 0 := K4
    have HF := H
    exact Or.inr (⟨h2, ⟨e1, vK4, MK4, rfl, K4, HF⟩⟩)
theorem snq_13 {e : Nat} {M M' : Mem} {v : Option Value} {y : Int32} {c1 : Option Value} (hS : SQ M) (H : Ev none e 166 13 [some (.ref 633), c1] [.int y] M v M' 0 0) : v = some (.int y) ∧ M' = M := by
  obtain ⟨z1, z2⟩ := Ev.retz rfl rfl H
  exact ⟨z1, z2⟩
theorem snq_18 {e : Nat} {M M' : Mem} {v : Option Value} {c1 : Option Value} (hS : SQ M) (H : Ev none e 166 18 [some (.ref 633), c1] [] M v M' 0 0) : v = some (.int 1) ∧ M' = M := by
  have H : Ev none e 166 19 [some (.ref 633), c1] [.int 1] M v M' 0 0 := Ev.back 1 (fun n => rfl) H
  obtain ⟨z1, z2⟩ := Ev.retz rfl rfl H
  exact ⟨z1, z2⟩
theorem tkq_0 {e : Nat} {M M' : Mem} {v : Option Value} {lo hi : Int32} (hS : SQ M) (H : Ev none e 167 0 [some (.ref 633), some (.int lo), some (.int hi)] [] M v M' 0 0) : ((zI M 633 22) = 2 ∧ (G_140 M (zI M 633 25) lo hi) = 0 ∧ (∃ e1 v1 M1, e = e1 + 1 ∧ Ev none e1 163 0 [some (.ref 633), some (.int 2)] [] M v1 M1 0 0 ∧ Ev none e 167 31 [some (.ref 633), some (.int lo), some (.int hi)] (v1.toList ++ []) M1 v M' 0 0)) ∨ ((zI M 633 22) = 2 ∧ ¬ ((G_140 M (zI M 633 25) lo hi) = 0) ∧ (∃ e1 v1 M1, e = e1 + 1 ∧ Ev none e1 162 0 [some (.ref 633), none, none, none] [] (wF M 633 32 (zI M 633 25)) v1 M1 0 0 ∧ Ev none e 167 44 [some (.ref 633), some (.int lo), some (.int hi)] (v1.toList ++ []) M1 v M' 0 0)) ∨ (¬ ((zI M 633 22) = 2) ∧ (∃ e1 v1 M1, e = e1 + 1 ∧ Ev none e1 163 0 [some (.ref 633), some (.int 1)] [] M v1 M1 0 0 ∧ Ev none e 167 13 [some (.ref 633), some (.int lo), some (.int hi)] (v1.toList ++ []) M1 v M' 0 0)) := by
  have H : Ev none e 167 1 [some (.ref 633), some (.int lo), some (.int hi)] [.ref 633] M v M' 0 0 := Ev.back 1 (fun n => rfl) H
  have H : Ev none e 167 4 [some (.ref 633), some (.int lo), some (.int hi)] [.int (zI M 633 22)] M v M' 0 0 := Ev.back 1 (gs_3 rfl rfl (gf_i hS.1 qa_633 qi_61_22 rfl)) H
  have H : Ev none e 167 (if (zI M 633 22) = 2 then 14 else 8) [some (.ref 633), some (.int lo), some (.int hi)] [] M v M' 0 0 := Ev.back 2 (fun n => rfl) H
  by_cases h1 : (zI M 633 22) = 2
  · rw [if_pos h1] at H
    have H : Ev none e 167 15 [some (.ref 633), some (.int lo), some (.int hi)] [.ref 633] M v M' 0 0 := Ev.back 1 (fun n => rfl) H
    have H : Ev none e 167 18 [some (.ref 633), some (.int lo), some (.int hi)] [.int (zI M 633 25)] M v M' 0 0 := Ev.back 1 (gs_3 rfl rfl (gf_i hS.1 qa_633 qi_61_25 rfl)) H
    have H : Ev none e 167 20 [some (.ref 633), some (.int lo), some (.int hi)] [.int hi, .int lo, .int (zI M 633 25)] M v M' 0 0 := Ev.back 2 (fun n => rfl) H
    obtain ⟨e1, rfl⟩ := Ev.dpos rfl rfl H
    obtain ⟨vK2, MK2, K2, H⟩ := Ev.callb (fun n => rfl) H
    obtain ⟨pK2, qK2⟩ := g_140 hS K2
    rw [pK2, qK2] at H
    have H : Ev none (e1 + 1) 167 23 [some (.ref 633), some (.int lo), some (.int hi)] [.int (G_140 M (zI M 633 25) lo hi)] M v M' 0 0 := H
    have H : Ev none (e1 + 1) 167 (if (G_140 M (zI M 633 25) lo hi) = 0 then 26 else 32) [some (.ref 633), some (.int lo), some (.int hi)] [] M v M' 0 0 := Ev.back 1 (fun n => rfl) H
    by_cases h3 : (G_140 M (zI M 633 25) lo hi) = 0
    · rw [if_pos h3] at H
      have H : Ev none (e1 + 1) 167 28 [some (.ref 633), some (.int lo), some (.int hi)] [.int 2, .ref 633] M v M' 0 0 := Ev.back 2 (fun n => rfl) H
      obtain ⟨vK4, MK4, K4, H⟩ := Ev.callb (fun n => gs_7 rfl rfl (show gCal (.invokevirtual 198) 11 (.int 2 :: .ref 633 :: []) M = some (.inr (163, [some (.ref 633), some (.int 2)], [])) from by show @cond (Option ((List Value × Mem) ⊕ (Nat × Lo × List Value))) (true && gRecv M (.ref 633) 11 && gRoom [] && true) (some (.inr (163, [some (.ref 633), some (.int 2)], []))) none = _; rw [recv_s hS.1 qa_633 qo_61]; rfl)) H
      have K4 : Ev none e1 163 0 [some (.ref 633), some (.int 2)] [] M vK4 MK4 0 0 := K4
      have HF := H
      exact Or.inl ⟨h1, h3, ⟨e1, vK4, MK4, rfl, K4, HF⟩⟩
    · rw [if_neg h3] at H
      have H : Ev none (e1 + 1) 167 34 [some (.ref 633), some (.int lo), some (.int hi)] [.ref 633, .ref 633] M v M' 0 0 := Ev.back 2 (fun n => rfl) H
      have H : Ev none (e1 + 1) 167 37 [some (.ref 633), some (.int lo), some (.int hi)] [.int (zI M 633 25), .ref 633] M v M' 0 0 := Ev.back 1 (gs_3 rfl rfl (gf_i hS.1 qa_633 qi_61_25 rfl)) H
      obtain ⟨N6, eN6⟩ : ∃ N, N = (wF M 633 32 (zI M 633 25)) := ⟨_, rfl⟩
      have hN6 : SQ N6 := by rw [eN6]; exact hS.kf
      have H : Ev none (e1 + 1) 167 40 [some (.ref 633), some (.int lo), some (.int hi)] [] N6 v M' 0 0 := by rw [eN6]; exact Ev.pfi rfl rfl rfl hS.1 qa_633 qi_61_32 H
      have H : Ev none (e1 + 1) 167 41 [some (.ref 633), some (.int lo), some (.int hi)] [.ref 633] N6 v M' 0 0 := Ev.back 1 (fun n => rfl) H
      obtain ⟨vK7, MK7, K7, H⟩ := Ev.callb (fun n => gs_7 rfl rfl (show gCal (.invokevirtual 201) 11 (.ref 633 :: []) N6 = some (.inr (162, [some (.ref 633), none, none, none], [])) from by show @cond (Option ((List Value × Mem) ⊕ (Nat × Lo × List Value))) (true && gRecv N6 (.ref 633) 11 && gRoom [] && true) (some (.inr (162, [some (.ref 633), none, none, none], []))) none = _; rw [recv_s hN6.1 qa_633 qo_61]; rfl)) H
      have K7 : Ev none e1 162 0 [some (.ref 633), none, none, none] [] N6 vK7 MK7 0 0 := K7
      have HF := H
      subst eN6
      exact Or.inr (Or.inl ⟨h1, h3, ⟨e1, vK7, MK7, rfl, K7, HF⟩⟩)
  · rw [if_neg h1] at H
    have H : Ev none e 167 10 [some (.ref 633), some (.int lo), some (.int hi)] [.int 1, .ref 633] M v M' 0 0 := Ev.back 2 (fun n => rfl) H
    obtain ⟨e1, rfl⟩ := Ev.dpos rfl rfl H
    obtain ⟨vK8, MK8, K8, H⟩ := Ev.callb (fun n => gs_7 rfl rfl (show gCal (.invokevirtual 198) 11 (.int 1 :: .ref 633 :: []) M = some (.inr (163, [some (.ref 633), some (.int 1)], [])) from by show @cond (Option ((List Value × Mem) ⊕ (Nat × Lo × List Value))) (true && gRecv M (.ref 633) 11 && gRoom [] && true) (some (.inr (163, [some (.ref 633), some (.int 1)], []))) none = _; rw [recv_s hS.1 qa_633 qo_61]; rfl)) H
    have K8 : Ev none e1 163 0 [some (.ref 633), some (.int 1)] [] M vK8 MK8 0 0 := K8
    have HF := H
    exact Or.inr (Or.inr (⟨h1, ⟨e1, vK8, MK8, rfl, K8, HF⟩⟩))
theorem tkq_13 {e : Nat} {M M' : Mem} {v : Option Value} {lo hi y : Int32} (hS : SQ M) (H : Ev none e 167 13 [some (.ref 633), some (.int lo), some (.int hi)] [.int y] M v M' 0 0) : v = some (.int y) ∧ M' = M := by
  obtain ⟨z1, z2⟩ := Ev.retz rfl rfl H
  exact ⟨z1, z2⟩
theorem tkq_31 {e : Nat} {M M' : Mem} {v : Option Value} {lo hi y : Int32} (hS : SQ M) (H : Ev none e 167 31 [some (.ref 633), some (.int lo), some (.int hi)] [.int y] M v M' 0 0) : v = some (.int y) ∧ M' = M := by
  obtain ⟨z1, z2⟩ := Ev.retz rfl rfl H
  exact ⟨z1, z2⟩
theorem tkq_44 {e : Nat} {M M' : Mem} {v : Option Value} {lo hi : Int32} (hS : SQ M) (H : Ev none e 167 44 [some (.ref 633), some (.int lo), some (.int hi)] [] M v M' 0 0) : v = some (.int 1) ∧ M' = M := by
  have H : Ev none e 167 45 [some (.ref 633), some (.int lo), some (.int hi)] [.int 1] M v M' 0 0 := Ev.back 1 (fun n => rfl) H
  obtain ⟨z1, z2⟩ := Ev.retz rfl rfl H
  exact ⟨z1, z2⟩
theorem fdq_0 {e : Nat} {M M' : Mem} {v : Option Value} {t k : Int32} (hS : SQ M) (H : Ev none e 172 0 [some (.ref 633), some (.int t), some (.int k), none] [] M v M' 0 0) : Ev none e 172 5 [some (.ref 633), some (.int t), some (.int k), some (.int (16 * t))] [] M v M' 0 0 := by
  have H : Ev none e 172 5 [some (.ref 633), some (.int t), some (.int k), some (.int (16 * t))] [] M v M' 0 0 := Ev.back 4 (fun n => rfl) H
  have HF := H
  exact HF
theorem fdq_5 {e : Nat} {M M' : Mem} {v : Option Value} {t k j : Int32} (hS : SQ M) (H : Ev none e 172 5 [some (.ref 633), some (.int t), some (.int k), some (.int j)] [] M v M' 0 0) : (((16 * t) + (rI M 639 t)) ≤ j ∧ (0 ≤ t.toInt ∧ t.toInt < 8) ∧ v = some (.int (-1)) ∧ M' = M) ∨ (¬ (((16 * t) + (rI M 639 t)) ≤ j) ∧ (rI M 640 j) = k ∧ (0 ≤ t.toInt ∧ t.toInt < 8) ∧ (0 ≤ j.toInt ∧ j.toInt < 128) ∧ v = some (.int j) ∧ M' = M) ∨ (¬ (((16 * t) + (rI M 639 t)) ≤ j) ∧ ¬ ((rI M 640 j) = k) ∧ (0 ≤ t.toInt ∧ t.toInt < 8) ∧ (0 ≤ j.toInt ∧ j.toInt < 128) ∧ Ev none e 172 5 [some (.ref 633), some (.int t), some (.int k), some (.int (j + 1))] [] M v M' 0 0) := by
  have H : Ev none e 172 11 [some (.ref 633), some (.int t), some (.int k), some (.int j)] [.ref 633, .int (16 * t), .int j] M v M' 0 0 := Ev.back 5 (fun n => rfl) H
  have H : Ev none e 172 14 [some (.ref 633), some (.int t), some (.int k), some (.int j)] [.ref 639, .int (16 * t), .int j] M v M' 0 0 := Ev.back 1 (gs_3 rfl rfl (gf_u hS.1 qa_633 qr_61_9 qu_67 rfl)) H
  have H : Ev none e 172 15 [some (.ref 633), some (.int t), some (.int k), some (.int j)] [.int t, .ref 639, .int (16 * t), .int j] M v M' 0 0 := Ev.back 1 (fun n => rfl) H
  obtain ⟨b1, H⟩ := Ev.ial rfl rfl hS.1 qa_639 qw_67 H
  have H : Ev none e 172 16 [some (.ref 633), some (.int t), some (.int k), some (.int j)] [.int (rI M 639 t), .int (16 * t), .int j] M v M' 0 0 := H
  have H : Ev none e 172 (if ((16 * t) + (rI M 639 t)) ≤ j then 38 else 20) [some (.ref 633), some (.int t), some (.int k), some (.int j)] [] M v M' 0 0 := Ev.back 2 (fun n => rfl) H
  by_cases h2 : ((16 * t) + (rI M 639 t)) ≤ j
  · rw [if_pos h2] at H
    have H : Ev none e 172 39 [some (.ref 633), some (.int t), some (.int k), some (.int j)] [.int (-1)] M v M' 0 0 := Ev.back 1 (fun n => rfl) H
    obtain ⟨z1, z2⟩ := Ev.retz rfl rfl H
    exact Or.inl ⟨h2, b1, z1, z2⟩
  · rw [if_neg h2] at H
    have H : Ev none e 172 21 [some (.ref 633), some (.int t), some (.int k), some (.int j)] [.ref 633] M v M' 0 0 := Ev.back 1 (fun n => rfl) H
    have H : Ev none e 172 24 [some (.ref 633), some (.int t), some (.int k), some (.int j)] [.ref 640] M v M' 0 0 := Ev.back 1 (gs_3 rfl rfl (gf_u hS.1 qa_633 qr_61_10 qu_68 rfl)) H
    have H : Ev none e 172 25 [some (.ref 633), some (.int t), some (.int k), some (.int j)] [.int j, .ref 640] M v M' 0 0 := Ev.back 1 (fun n => rfl) H
    obtain ⟨b3, H⟩ := Ev.ial rfl rfl hS.1 qa_640 qw_68 H
    have H : Ev none e 172 26 [some (.ref 633), some (.int t), some (.int k), some (.int j)] [.int (rI M 640 j)] M v M' 0 0 := H
    have H : Ev none e 172 (if (rI M 640 j) = k then 30 else 32) [some (.ref 633), some (.int t), some (.int k), some (.int j)] [] M v M' 0 0 := Ev.back 2 (fun n => rfl) H
    by_cases h4 : (rI M 640 j) = k
    · rw [if_pos h4] at H
      have H : Ev none e 172 31 [some (.ref 633), some (.int t), some (.int k), some (.int j)] [.int j] M v M' 0 0 := Ev.back 1 (fun n => rfl) H
      obtain ⟨z1, z2⟩ := Ev.retz rfl rfl H
      exact Or.inr (Or.inl ⟨h2, h4, b1, b3, z1, z2⟩)
    · rw [if_neg h4] at H
      have H : Ev none e 172 5 [some (.ref 633), some (.int t), some (.int k), some (.int (j + 1))] [] M v M' 0 0 := Ev.back 2 (fun n => rfl) H
      have HF := H
      exact Or.inr (Or.inr (⟨h2, h4, b1, b3, HF⟩))
theorem rlq0_0 {e : Nat} {M M' : Mem} {v : Option Value} {i : Int32} (hS : SQ M) (H : Ev none e 170 0 [some (.ref 633), some (.int i), some (.int 0), none] [] M v M' 0 0) : (∃ e1 v1 M1, e = e1 + 1 ∧ Ev none e1 167 0 [some (.ref 633), some (.int 0), some (.int 999)] [] M v1 M1 0 0 ∧ Ev none e 170 75 [some (.ref 633), some (.int i), some (.int 0), none] (v1.toList ++ []) M1 v M' 0 0) := by
  have H : Ev none e 170 (if 0 = 5 then 5 else 31) [some (.ref 633), some (.int i), some (.int 0), none] [] M v M' 0 0 := Ev.back 3 (fun n => rfl) H
  rw [if_neg (by decide)] at H
  have H : Ev none e 170 (if 0 = 6 then 90 else 37) [some (.ref 633), some (.int i), some (.int 0), none] [] M v M' 0 0 := Ev.back 3 (fun n => rfl) H
  rw [if_neg (by decide)] at H
  have H : Ev none e 170 (if 0 = 2 then 43 else 47) [some (.ref 633), some (.int i), some (.int 0), none] [.ref 633] M v M' 0 0 := Ev.back 4 (fun n => rfl) H
  rw [if_neg (by decide)] at H
  have H : Ev none e 170 (if 0 = 5 then 53 else 58) [some (.ref 633), some (.int i), some (.int 0), none] [.int 0, .ref 633] M v M' 0 0 := Ev.back 4 (fun n => rfl) H
  rw [if_neg (by decide)] at H
  have H : Ev none e 170 (if 0 = 7 then 64 else 69) [some (.ref 633), some (.int i), some (.int 0), none] [.int 0, .ref 633] M v M' 0 0 := Ev.back 3 (fun n => rfl) H
  rw [if_neg (by decide)] at H
  have H : Ev none e 170 72 [some (.ref 633), some (.int i), some (.int 0), none] [.int 999, .int 0, .ref 633] M v M' 0 0 := Ev.back 1 (fun n => rfl) H
  obtain ⟨e1, rfl⟩ := Ev.dpos rfl rfl H
  obtain ⟨vK1, MK1, K1, H⟩ := Ev.callb (fun n => gs_7 rfl rfl (show gCal (.invokevirtual 240) 11 (.int 999 :: .int 0 :: .ref 633 :: []) M = some (.inr (167, [some (.ref 633), some (.int 0), some (.int 999)], [])) from by show @cond (Option ((List Value × Mem) ⊕ (Nat × Lo × List Value))) (true && gRecv M (.ref 633) 11 && gRoom [] && true) (some (.inr (167, [some (.ref 633), some (.int 0), some (.int 999)], []))) none = _; rw [recv_s hS.1 qa_633 qo_61]; rfl)) H
  have K1 : Ev none e1 167 0 [some (.ref 633), some (.int 0), some (.int 999)] [] M vK1 MK1 0 0 := K1
  have HF := H
  exact ⟨e1, vK1, MK1, rfl, K1, HF⟩
theorem rlq0_75 {e : Nat} {M M' : Mem} {v : Option Value} {i y : Int32} {c3 : Option Value} (hS : SQ M) (H : Ev none e 170 75 [some (.ref 633), some (.int i), some (.int 0), c3] [.int y] M v M' 0 0) : (y = 0 ∧ v = some (.int 0) ∧ M' = M) ∨ (¬ (y = 0) ∧ (G_164 (wI (wI M 642 i.toNatClampNeg (zI M 633 32)) 643 i.toNatClampNeg (zI M 633 19)) 26982) = 0 ∧ (0 ≤ i.toInt ∧ i.toInt < 128) ∧ (0 ≤ i.toInt ∧ i.toInt < 128) ∧ (0 ≤ i.toInt ∧ i.toInt < 128) ∧ v = some (.int 1) ∧ M' = (wI (wI (wI M 642 i.toNatClampNeg (zI M 633 32)) 643 i.toNatClampNeg (zI M 633 19)) 644 i.toNatClampNeg (zI M 633 19))) ∨ (¬ (y = 0) ∧ ¬ ((G_164 (wI (wI M 642 i.toNatClampNeg (zI M 633 32)) 643 i.toNatClampNeg (zI M 633 19)) 26982) = 0) ∧ (0 ≤ i.toInt ∧ i.toInt < 128) ∧ (0 ≤ i.toInt ∧ i.toInt < 128) ∧ (∃ e1 v1 M1, e = e1 + 1 ∧ Ev none e1 162 0 [some (.ref 633), none, none, none] [] (wI (wI M 642 i.toNatClampNeg (zI M 633 32)) 643 i.toNatClampNeg (zI M 633 19)) v1 M1 0 0 ∧ Ev none e 170 140 [some (.ref 633), some (.int i), some (.int 0), some (.int 0)] (v1.toList ++ []) M1 v M' 0 0)) := by
  have H : Ev none e 170 (if y = 0 then 78 else 80) [some (.ref 633), some (.int i), some (.int 0), c3] [] M v M' 0 0 := Ev.back 1 (fun n => rfl) H
  by_cases h1 : y = 0
  · rw [if_pos h1] at H
    have H : Ev none e 170 79 [some (.ref 633), some (.int i), some (.int 0), c3] [.int 0] M v M' 0 0 := Ev.back 1 (fun n => rfl) H
    obtain ⟨z1, z2⟩ := Ev.retz rfl rfl H
    exact Or.inl ⟨h1, z1, z2⟩
  · rw [if_neg h1] at H
    have H : Ev none e 170 81 [some (.ref 633), some (.int i), some (.int 0), c3] [.ref 633] M v M' 0 0 := Ev.back 1 (fun n => rfl) H
    have H : Ev none e 170 84 [some (.ref 633), some (.int i), some (.int 0), c3] [.ref 642] M v M' 0 0 := Ev.back 1 (gs_3 rfl rfl (gf_u hS.1 qa_633 qr_61_12 qu_70 rfl)) H
    have H : Ev none e 170 86 [some (.ref 633), some (.int i), some (.int 0), c3] [.ref 633, .int i, .ref 642] M v M' 0 0 := Ev.back 2 (fun n => rfl) H
    have H : Ev none e 170 89 [some (.ref 633), some (.int i), some (.int 0), c3] [.int (zI M 633 32), .int i, .ref 642] M v M' 0 0 := Ev.back 1 (gs_3 rfl rfl (gf_i hS.1 qa_633 qi_61_32 rfl)) H
    obtain ⟨b2, H⟩ := Ev.ias rfl rfl hS.1 qa_642 qw_70 H
    obtain ⟨N3, eN3⟩ : ∃ N, N = (wI M 642 i.toNatClampNeg (zI M 633 32)) := ⟨_, rfl⟩
    have hN3 : SQ N3 := by rw [eN3]; exact hS.ki
    have H : Ev none e 170 90 [some (.ref 633), some (.int i), some (.int 0), c3] [] N3 v M' 0 0 := by rw [eN3]; exact H
    have H : Ev none e 170 91 [some (.ref 633), some (.int i), some (.int 0), c3] [.ref 633] N3 v M' 0 0 := Ev.back 1 (fun n => rfl) H
    have H : Ev none e 170 94 [some (.ref 633), some (.int i), some (.int 0), c3] [.ref 643] N3 v M' 0 0 := Ev.back 1 (gs_3 rfl rfl (gf_u hN3.1 qa_633 qr_61_13 qu_71 rfl)) H
    have H : Ev none e 170 96 [some (.ref 633), some (.int i), some (.int 0), c3] [.ref 633, .int i, .ref 643] N3 v M' 0 0 := Ev.back 2 (fun n => rfl) H
    have H : Ev none e 170 99 [some (.ref 633), some (.int i), some (.int 0), c3] [.int (zI N3 633 19), .int i, .ref 643] N3 v M' 0 0 := Ev.back 1 (gs_3 rfl rfl (gf_i hN3.1 qa_633 qi_61_19 rfl)) H
    rw [show zI N3 633 19 = zI M 633 19 from by rw [eN3]; exact fI_wI] at H
    obtain ⟨b4, H⟩ := Ev.ias rfl rfl hN3.1 qa_643 qw_71 H
    obtain ⟨N5, eN5⟩ : ∃ N, N = (wI N3 643 i.toNatClampNeg (zI M 633 19)) := ⟨_, rfl⟩
    have hN5 : SQ N5 := by rw [eN5]; exact hN3.ki
    have H : Ev none e 170 100 [some (.ref 633), some (.int i), some (.int 0), c3] [] N5 v M' 0 0 := by rw [eN5]; exact H
    have H : Ev none e 170 (if 0 = 6 then 106 else 110) [some (.ref 633), some (.int i), some (.int 0), c3] [] N5 v M' 0 0 := Ev.back 3 (fun n => rfl) H
    rw [if_neg (by decide)] at H
    have H : Ev none e 170 (if 0 = 0 then 126 else 116) [some (.ref 633), some (.int i), some (.int 0), some (.int 0)] [] N5 v M' 0 0 := Ev.back 4 (fun n => rfl) H
    rw [if_pos (by decide)] at H
    have H : Ev none e 170 130 [some (.ref 633), some (.int i), some (.int 0), some (.int 0)] [.long 26982, .ref 633] N5 v M' 0 0 := Ev.back 2 (fun n => rfl) H
    obtain ⟨e1, rfl⟩ := Ev.dpos rfl rfl H
    obtain ⟨vK6, MK6, K6, H⟩ := Ev.callb (fun n => gs_7 rfl rfl (show gCal (.invokevirtual 248) 11 (.long 26982 :: .ref 633 :: []) N5 = some (.inr (164, [some (.ref 633), some (.long 26982), none], [])) from by show @cond (Option ((List Value × Mem) ⊕ (Nat × Lo × List Value))) (true && gRecv N5 (.ref 633) 11 && gRoom [] && true) (some (.inr (164, [some (.ref 633), some (.long 26982), none], []))) none = _; rw [recv_s hN5.1 qa_633 qo_61]; rfl)) H
    obtain ⟨pK6, qK6⟩ := g_164 hN5 K6
    rw [pK6, qK6] at H
    have H : Ev none (e1 + 1) 170 133 [some (.ref 633), some (.int i), some (.int 0), some (.int 0)] [.int (G_164 N5 26982)] N5 v M' 0 0 := H
    have H : Ev none (e1 + 1) 170 (if (G_164 N5 26982) = 0 then 142 else 136) [some (.ref 633), some (.int i), some (.int 0), some (.int 0)] [] N5 v M' 0 0 := Ev.back 1 (fun n => rfl) H
    by_cases h7 : (G_164 N5 26982) = 0
    · rw [if_pos h7] at H
      have H : Ev none (e1 + 1) 170 (if 0 = 0 then 155 else 146) [some (.ref 633), some (.int i), some (.int 0), some (.int 0)] [] N5 v M' 0 0 := Ev.back 2 (fun n => rfl) H
      rw [if_pos (by decide)] at H
      have H : Ev none (e1 + 1) 170 156 [some (.ref 633), some (.int i), some (.int 0), some (.int 0)] [.ref 633] N5 v M' 0 0 := Ev.back 1 (fun n => rfl) H
      have H : Ev none (e1 + 1) 170 159 [some (.ref 633), some (.int i), some (.int 0), some (.int 0)] [.ref 644] N5 v M' 0 0 := Ev.back 1 (gs_3 rfl rfl (gf_u hN5.1 qa_633 qr_61_14 qu_72 rfl)) H
      have H : Ev none (e1 + 1) 170 161 [some (.ref 633), some (.int i), some (.int 0), some (.int 0)] [.ref 633, .int i, .ref 644] N5 v M' 0 0 := Ev.back 2 (fun n => rfl) H
      have H : Ev none (e1 + 1) 170 164 [some (.ref 633), some (.int i), some (.int 0), some (.int 0)] [.int (zI N5 633 19), .int i, .ref 644] N5 v M' 0 0 := Ev.back 1 (gs_3 rfl rfl (gf_i hN5.1 qa_633 qi_61_19 rfl)) H
      rw [(show zI N5 633 19 = zI N3 633 19 from by rw [eN5]; exact fI_wI).trans (show zI N3 633 19 = zI M 633 19 from by rw [eN3]; exact fI_wI)] at H
      obtain ⟨b8, H⟩ := Ev.ias rfl rfl hN5.1 qa_644 qw_72 H
      obtain ⟨N9, eN9⟩ : ∃ N, N = (wI N5 644 i.toNatClampNeg (zI M 633 19)) := ⟨_, rfl⟩
      have hN9 : SQ N9 := by rw [eN9]; exact hN5.ki
      have H : Ev none (e1 + 1) 170 165 [some (.ref 633), some (.int i), some (.int 0), some (.int 0)] [] N9 v M' 0 0 := by rw [eN9]; exact H
      have H : Ev none (e1 + 1) 170 166 [some (.ref 633), some (.int i), some (.int 0), some (.int 0)] [.int 1] N9 v M' 0 0 := Ev.back 1 (fun n => rfl) H
      obtain ⟨z1, z2⟩ := Ev.retz rfl rfl H
      subst eN3 eN5 eN9
      exact Or.inr (Or.inl ⟨h1, h7, b2, b4, b8, z1, z2⟩)
    · rw [if_neg h7] at H
      have H : Ev none (e1 + 1) 170 137 [some (.ref 633), some (.int i), some (.int 0), some (.int 0)] [.ref 633] N5 v M' 0 0 := Ev.back 1 (fun n => rfl) H
      obtain ⟨vK10, MK10, K10, H⟩ := Ev.callb (fun n => gs_7 rfl rfl (show gCal (.invokevirtual 201) 11 (.ref 633 :: []) N5 = some (.inr (162, [some (.ref 633), none, none, none], [])) from by show @cond (Option ((List Value × Mem) ⊕ (Nat × Lo × List Value))) (true && gRecv N5 (.ref 633) 11 && gRoom [] && true) (some (.inr (162, [some (.ref 633), none, none, none], []))) none = _; rw [recv_s hN5.1 qa_633 qo_61]; rfl)) H
      have K10 : Ev none e1 162 0 [some (.ref 633), none, none, none] [] N5 vK10 MK10 0 0 := K10
      have HF := H
      subst eN3 eN5
      exact Or.inr (Or.inr (⟨h1, h7, b2, b4, ⟨e1, vK10, MK10, rfl, K10, HF⟩⟩))
theorem rlq0_140 {e : Nat} {M M' : Mem} {v : Option Value} {i : Int32} {c3 : Option Value} (hS : SQ M) (H : Ev none e 170 140 [some (.ref 633), some (.int i), some (.int 0), c3] [] M v M' 0 0) : (∃ e1 v1 M1, e = e1 + 1 ∧ Ev none e1 179 0 [some (.ref 633), none] [] M v1 M1 0 0 ∧ Ev none e 170 150 [some (.ref 633), some (.int i), some (.int 0), some (.int 1)] (v1.toList ++ []) M1 v M' 0 0) := by
  have H : Ev none e 170 (if 1 = 0 then 155 else 146) [some (.ref 633), some (.int i), some (.int 0), some (.int 1)] [] M v M' 0 0 := Ev.back 4 (fun n => rfl) H
  rw [if_neg (by decide)] at H
  have H : Ev none e 170 147 [some (.ref 633), some (.int i), some (.int 0), some (.int 1)] [.ref 633] M v M' 0 0 := Ev.back 1 (fun n => rfl) H
  obtain ⟨e1, rfl⟩ := Ev.dpos rfl rfl H
  obtain ⟨vK1, MK1, K1, H⟩ := Ev.callb (fun n => gs_7 rfl rfl (show gCal (.invokevirtual 252) 11 (.ref 633 :: []) M = some (.inr (179, [some (.ref 633), none], [])) from by show @cond (Option ((List Value × Mem) ⊕ (Nat × Lo × List Value))) (true && gRecv M (.ref 633) 11 && gRoom [] && true) (some (.inr (179, [some (.ref 633), none], []))) none = _; rw [recv_s hS.1 qa_633 qo_61]; rfl)) H
  have K1 : Ev none e1 179 0 [some (.ref 633), none] [] M vK1 MK1 0 0 := K1
  have HF := H
  exact ⟨e1, vK1, MK1, rfl, K1, HF⟩
theorem rlq0_150 {e : Nat} {M M' : Mem} {v : Option Value} {i y : Int32} {c3 : Option Value} (hS : SQ M) (H : Ev none e 170 150 [some (.ref 633), some (.int i), some (.int 0), c3] [.int y] M v M' 0 0) : (y = 0 ∧ v = some (.int 0) ∧ M' = M) ∨ (¬ (y = 0) ∧ (0 ≤ i.toInt ∧ i.toInt < 128) ∧ v = some (.int 1) ∧ M' = (wI M 644 i.toNatClampNeg (zI M 633 19))) := by
  have H : Ev none e 170 (if y = 0 then 153 else 155) [some (.ref 633), some (.int i), some (.int 0), c3] [] M v M' 0 0 := Ev.back 1 (fun n => rfl) H
  by_cases h1 : y = 0
  · rw [if_pos h1] at H
    have H : Ev none e 170 154 [some (.ref 633), some (.int i), some (.int 0), c3] [.int 0] M v M' 0 0 := Ev.back 1 (fun n => rfl) H
    obtain ⟨z1, z2⟩ := Ev.retz rfl rfl H
    exact Or.inl ⟨h1, z1, z2⟩
  · rw [if_neg h1] at H
    have H : Ev none e 170 156 [some (.ref 633), some (.int i), some (.int 0), c3] [.ref 633] M v M' 0 0 := Ev.back 1 (fun n => rfl) H
    have H : Ev none e 170 159 [some (.ref 633), some (.int i), some (.int 0), c3] [.ref 644] M v M' 0 0 := Ev.back 1 (gs_3 rfl rfl (gf_u hS.1 qa_633 qr_61_14 qu_72 rfl)) H
    have H : Ev none e 170 161 [some (.ref 633), some (.int i), some (.int 0), c3] [.ref 633, .int i, .ref 644] M v M' 0 0 := Ev.back 2 (fun n => rfl) H
    have H : Ev none e 170 164 [some (.ref 633), some (.int i), some (.int 0), c3] [.int (zI M 633 19), .int i, .ref 644] M v M' 0 0 := Ev.back 1 (gs_3 rfl rfl (gf_i hS.1 qa_633 qi_61_19 rfl)) H
    obtain ⟨b2, H⟩ := Ev.ias rfl rfl hS.1 qa_644 qw_72 H
    obtain ⟨N3, eN3⟩ : ∃ N, N = (wI M 644 i.toNatClampNeg (zI M 633 19)) := ⟨_, rfl⟩
    have hN3 : SQ N3 := by rw [eN3]; exact hS.ki
    have H : Ev none e 170 165 [some (.ref 633), some (.int i), some (.int 0), c3] [] N3 v M' 0 0 := by rw [eN3]; exact H
    have H : Ev none e 170 166 [some (.ref 633), some (.int i), some (.int 0), c3] [.int 1] N3 v M' 0 0 := Ev.back 1 (fun n => rfl) H
    obtain ⟨z1, z2⟩ := Ev.retz rfl rfl H
    subst eN3
    exact Or.inr (⟨h1, b2, z1, z2⟩)
theorem rlq1_0 {e : Nat} {M M' : Mem} {v : Option Value} {i : Int32} (hS : SQ M) (H : Ev none e 170 0 [some (.ref 633), some (.int i), some (.int 1), none] [] M v M' 0 0) : (∃ e1 v1 M1, e = e1 + 1 ∧ Ev none e1 167 0 [some (.ref 633), some (.int 0), some (.int 999)] [] M v1 M1 0 0 ∧ Ev none e 170 75 [some (.ref 633), some (.int i), some (.int 1), none] (v1.toList ++ []) M1 v M' 0 0) := by
  have H : Ev none e 170 (if 1 = 5 then 5 else 31) [some (.ref 633), some (.int i), some (.int 1), none] [] M v M' 0 0 := Ev.back 3 (fun n => rfl) H
  rw [if_neg (by decide)] at H
  have H : Ev none e 170 (if 1 = 6 then 90 else 37) [some (.ref 633), some (.int i), some (.int 1), none] [] M v M' 0 0 := Ev.back 3 (fun n => rfl) H
  rw [if_neg (by decide)] at H
  have H : Ev none e 170 (if 1 = 2 then 43 else 47) [some (.ref 633), some (.int i), some (.int 1), none] [.ref 633] M v M' 0 0 := Ev.back 4 (fun n => rfl) H
  rw [if_neg (by decide)] at H
  have H : Ev none e 170 (if 1 = 5 then 53 else 58) [some (.ref 633), some (.int i), some (.int 1), none] [.int 0, .ref 633] M v M' 0 0 := Ev.back 4 (fun n => rfl) H
  rw [if_neg (by decide)] at H
  have H : Ev none e 170 (if 1 = 7 then 64 else 69) [some (.ref 633), some (.int i), some (.int 1), none] [.int 0, .ref 633] M v M' 0 0 := Ev.back 3 (fun n => rfl) H
  rw [if_neg (by decide)] at H
  have H : Ev none e 170 72 [some (.ref 633), some (.int i), some (.int 1), none] [.int 999, .int 0, .ref 633] M v M' 0 0 := Ev.back 1 (fun n => rfl) H
  obtain ⟨e1, rfl⟩ := Ev.dpos rfl rfl H
  obtain ⟨vK1, MK1, K1, H⟩ := Ev.callb (fun n => gs_7 rfl rfl (show gCal (.invokevirtual 240) 11 (.int 999 :: .int 0 :: .ref 633 :: []) M = some (.inr (167, [some (.ref 633), some (.int 0), some (.int 999)], [])) from by show @cond (Option ((List Value × Mem) ⊕ (Nat × Lo × List Value))) (true && gRecv M (.ref 633) 11 && gRoom [] && true) (some (.inr (167, [some (.ref 633), some (.int 0), some (.int 999)], []))) none = _; rw [recv_s hS.1 qa_633 qo_61]; rfl)) H
  have K1 : Ev none e1 167 0 [some (.ref 633), some (.int 0), some (.int 999)] [] M vK1 MK1 0 0 := K1
  have HF := H
  exact ⟨e1, vK1, MK1, rfl, K1, HF⟩
theorem rlq1_75 {e : Nat} {M M' : Mem} {v : Option Value} {i y : Int32} {c3 : Option Value} (hS : SQ M) (H : Ev none e 170 75 [some (.ref 633), some (.int i), some (.int 1), c3] [.int y] M v M' 0 0) : (y = 0 ∧ v = some (.int 0) ∧ M' = M) ∨ (¬ (y = 0) ∧ (G_164 (wI (wI M 642 i.toNatClampNeg (zI M 633 32)) 643 i.toNatClampNeg (zI M 633 19)) 26982) = 0 ∧ (0 ≤ i.toInt ∧ i.toInt < 128) ∧ (0 ≤ i.toInt ∧ i.toInt < 128) ∧ (0 ≤ i.toInt ∧ i.toInt < 128) ∧ v = some (.int 1) ∧ M' = (wI (wI (wI M 642 i.toNatClampNeg (zI M 633 32)) 643 i.toNatClampNeg (zI M 633 19)) 644 i.toNatClampNeg (zI M 633 19))) ∨ (¬ (y = 0) ∧ ¬ ((G_164 (wI (wI M 642 i.toNatClampNeg (zI M 633 32)) 643 i.toNatClampNeg (zI M 633 19)) 26982) = 0) ∧ (0 ≤ i.toInt ∧ i.toInt < 128) ∧ (0 ≤ i.toInt ∧ i.toInt < 128) ∧ (∃ e1 v1 M1, e = e1 + 1 ∧ Ev none e1 162 0 [some (.ref 633), none, none, none] [] (wI (wI M 642 i.toNatClampNeg (zI M 633 32)) 643 i.toNatClampNeg (zI M 633 19)) v1 M1 0 0 ∧ Ev none e 170 140 [some (.ref 633), some (.int i), some (.int 1), some (.int 0)] (v1.toList ++ []) M1 v M' 0 0)) := by
  have H : Ev none e 170 (if y = 0 then 78 else 80) [some (.ref 633), some (.int i), some (.int 1), c3] [] M v M' 0 0 := Ev.back 1 (fun n => rfl) H
  by_cases h1 : y = 0
  · rw [if_pos h1] at H
    have H : Ev none e 170 79 [some (.ref 633), some (.int i), some (.int 1), c3] [.int 0] M v M' 0 0 := Ev.back 1 (fun n => rfl) H
    obtain ⟨z1, z2⟩ := Ev.retz rfl rfl H
    exact Or.inl ⟨h1, z1, z2⟩
  · rw [if_neg h1] at H
    have H : Ev none e 170 81 [some (.ref 633), some (.int i), some (.int 1), c3] [.ref 633] M v M' 0 0 := Ev.back 1 (fun n => rfl) H
    have H : Ev none e 170 84 [some (.ref 633), some (.int i), some (.int 1), c3] [.ref 642] M v M' 0 0 := Ev.back 1 (gs_3 rfl rfl (gf_u hS.1 qa_633 qr_61_12 qu_70 rfl)) H
    have H : Ev none e 170 86 [some (.ref 633), some (.int i), some (.int 1), c3] [.ref 633, .int i, .ref 642] M v M' 0 0 := Ev.back 2 (fun n => rfl) H
    have H : Ev none e 170 89 [some (.ref 633), some (.int i), some (.int 1), c3] [.int (zI M 633 32), .int i, .ref 642] M v M' 0 0 := Ev.back 1 (gs_3 rfl rfl (gf_i hS.1 qa_633 qi_61_32 rfl)) H
    obtain ⟨b2, H⟩ := Ev.ias rfl rfl hS.1 qa_642 qw_70 H
    obtain ⟨N3, eN3⟩ : ∃ N, N = (wI M 642 i.toNatClampNeg (zI M 633 32)) := ⟨_, rfl⟩
    have hN3 : SQ N3 := by rw [eN3]; exact hS.ki
    have H : Ev none e 170 90 [some (.ref 633), some (.int i), some (.int 1), c3] [] N3 v M' 0 0 := by rw [eN3]; exact H
    have H : Ev none e 170 91 [some (.ref 633), some (.int i), some (.int 1), c3] [.ref 633] N3 v M' 0 0 := Ev.back 1 (fun n => rfl) H
    have H : Ev none e 170 94 [some (.ref 633), some (.int i), some (.int 1), c3] [.ref 643] N3 v M' 0 0 := Ev.back 1 (gs_3 rfl rfl (gf_u hN3.1 qa_633 qr_61_13 qu_71 rfl)) H
    have H : Ev none e 170 96 [some (.ref 633), some (.int i), some (.int 1), c3] [.ref 633, .int i, .ref 643] N3 v M' 0 0 := Ev.back 2 (fun n => rfl) H
    have H : Ev none e 170 99 [some (.ref 633), some (.int i), some (.int 1), c3] [.int (zI N3 633 19), .int i, .ref 643] N3 v M' 0 0 := Ev.back 1 (gs_3 rfl rfl (gf_i hN3.1 qa_633 qi_61_19 rfl)) H
    rw [show zI N3 633 19 = zI M 633 19 from by rw [eN3]; exact fI_wI] at H
    obtain ⟨b4, H⟩ := Ev.ias rfl rfl hN3.1 qa_643 qw_71 H
    obtain ⟨N5, eN5⟩ : ∃ N, N = (wI N3 643 i.toNatClampNeg (zI M 633 19)) := ⟨_, rfl⟩
    have hN5 : SQ N5 := by rw [eN5]; exact hN3.ki
    have H : Ev none e 170 100 [some (.ref 633), some (.int i), some (.int 1), c3] [] N5 v M' 0 0 := by rw [eN5]; exact H
    have H : Ev none e 170 (if 1 = 6 then 106 else 110) [some (.ref 633), some (.int i), some (.int 1), c3] [] N5 v M' 0 0 := Ev.back 3 (fun n => rfl) H
    rw [if_neg (by decide)] at H
    have H : Ev none e 170 (if 1 = 0 then 126 else 116) [some (.ref 633), some (.int i), some (.int 1), some (.int 0)] [] N5 v M' 0 0 := Ev.back 4 (fun n => rfl) H
    rw [if_neg (by decide)] at H
    have H : Ev none e 170 (if 1 = 1 then 126 else 121) [some (.ref 633), some (.int i), some (.int 1), some (.int 0)] [] N5 v M' 0 0 := Ev.back 3 (fun n => rfl) H
    rw [if_pos (by decide)] at H
    have H : Ev none e 170 130 [some (.ref 633), some (.int i), some (.int 1), some (.int 0)] [.long 26982, .ref 633] N5 v M' 0 0 := Ev.back 2 (fun n => rfl) H
    obtain ⟨e1, rfl⟩ := Ev.dpos rfl rfl H
    obtain ⟨vK6, MK6, K6, H⟩ := Ev.callb (fun n => gs_7 rfl rfl (show gCal (.invokevirtual 248) 11 (.long 26982 :: .ref 633 :: []) N5 = some (.inr (164, [some (.ref 633), some (.long 26982), none], [])) from by show @cond (Option ((List Value × Mem) ⊕ (Nat × Lo × List Value))) (true && gRecv N5 (.ref 633) 11 && gRoom [] && true) (some (.inr (164, [some (.ref 633), some (.long 26982), none], []))) none = _; rw [recv_s hN5.1 qa_633 qo_61]; rfl)) H
    obtain ⟨pK6, qK6⟩ := g_164 hN5 K6
    rw [pK6, qK6] at H
    have H : Ev none (e1 + 1) 170 133 [some (.ref 633), some (.int i), some (.int 1), some (.int 0)] [.int (G_164 N5 26982)] N5 v M' 0 0 := H
    have H : Ev none (e1 + 1) 170 (if (G_164 N5 26982) = 0 then 142 else 136) [some (.ref 633), some (.int i), some (.int 1), some (.int 0)] [] N5 v M' 0 0 := Ev.back 1 (fun n => rfl) H
    by_cases h7 : (G_164 N5 26982) = 0
    · rw [if_pos h7] at H
      have H : Ev none (e1 + 1) 170 (if 0 = 0 then 155 else 146) [some (.ref 633), some (.int i), some (.int 1), some (.int 0)] [] N5 v M' 0 0 := Ev.back 2 (fun n => rfl) H
      rw [if_pos (by decide)] at H
      have H : Ev none (e1 + 1) 170 156 [some (.ref 633), some (.int i), some (.int 1), some (.int 0)] [.ref 633] N5 v M' 0 0 := Ev.back 1 (fun n => rfl) H
      have H : Ev none (e1 + 1) 170 159 [some (.ref 633), some (.int i), some (.int 1), some (.int 0)] [.ref 644] N5 v M' 0 0 := Ev.back 1 (gs_3 rfl rfl (gf_u hN5.1 qa_633 qr_61_14 qu_72 rfl)) H
      have H : Ev none (e1 + 1) 170 161 [some (.ref 633), some (.int i), some (.int 1), some (.int 0)] [.ref 633, .int i, .ref 644] N5 v M' 0 0 := Ev.back 2 (fun n => rfl) H
      have H : Ev none (e1 + 1) 170 164 [some (.ref 633), some (.int i), some (.int 1), some (.int 0)] [.int (zI N5 633 19), .int i, .ref 644] N5 v M' 0 0 := Ev.back 1 (gs_3 rfl rfl (gf_i hN5.1 qa_633 qi_61_19 rfl)) H
      rw [(show zI N5 633 19 = zI N3 633 19 from by rw [eN5]; exact fI_wI).trans (show zI N3 633 19 = zI M 633 19 from by rw [eN3]; exact fI_wI)] at H
      obtain ⟨b8, H⟩ := Ev.ias rfl rfl hN5.1 qa_644 qw_72 H
      obtain ⟨N9, eN9⟩ : ∃ N, N = (wI N5 644 i.toNatClampNeg (zI M 633 19)) := ⟨_, rfl⟩
      have hN9 : SQ N9 := by rw [eN9]; exact hN5.ki
      have H : Ev none (e1 + 1) 170 165 [some (.ref 633), some (.int i), some (.int 1), some (.int 0)] [] N9 v M' 0 0 := by rw [eN9]; exact H
      have H : Ev none (e1 + 1) 170 166 [some (.ref 633), some (.int i), some (.int 1), some (.int 0)] [.int 1] N9 v M' 0 0 := Ev.back 1 (fun n => rfl) H
      obtain ⟨z1, z2⟩ := Ev.retz rfl rfl H
      subst eN3 eN5 eN9
      exact Or.inr (Or.inl ⟨h1, h7, b2, b4, b8, z1, z2⟩)
    · rw [if_neg h7] at H
      have H : Ev none (e1 + 1) 170 137 [some (.ref 633), some (.int i), some (.int 1), some (.int 0)] [.ref 633] N5 v M' 0 0 := Ev.back 1 (fun n => rfl) H
      obtain ⟨vK10, MK10, K10, H⟩ := Ev.callb (fun n => gs_7 rfl rfl (show gCal (.invokevirtual 201) 11 (.ref 633 :: []) N5 = some (.inr (162, [some (.ref 633), none, none, none], [])) from by show @cond (Option ((List Value × Mem) ⊕ (Nat × Lo × List Value))) (true && gRecv N5 (.ref 633) 11 && gRoom [] && true) (some (.inr (162, [some (.ref 633), none, none, none], []))) none = _; rw [recv_s hN5.1 qa_633 qo_61]; rfl)) H
      have K10 : Ev none e1 162 0 [some (.ref 633), none, none, none] [] N5 vK10 MK10 0 0 := K10
      have HF := H
      subst eN3 eN5
      exact Or.inr (Or.inr (⟨h1, h7, b2, b4, ⟨e1, vK10, MK10, rfl, K10, HF⟩⟩))
theorem rlq1_140 {e : Nat} {M M' : Mem} {v : Option Value} {i : Int32} {c3 : Option Value} (hS : SQ M) (H : Ev none e 170 140 [some (.ref 633), some (.int i), some (.int 1), c3] [] M v M' 0 0) : (∃ e1 v1 M1, e = e1 + 1 ∧ Ev none e1 179 0 [some (.ref 633), none] [] M v1 M1 0 0 ∧ Ev none e 170 150 [some (.ref 633), some (.int i), some (.int 1), some (.int 1)] (v1.toList ++ []) M1 v M' 0 0) := by
  have H : Ev none e 170 (if 1 = 0 then 155 else 146) [some (.ref 633), some (.int i), some (.int 1), some (.int 1)] [] M v M' 0 0 := Ev.back 4 (fun n => rfl) H
  rw [if_neg (by decide)] at H
  have H : Ev none e 170 147 [some (.ref 633), some (.int i), some (.int 1), some (.int 1)] [.ref 633] M v M' 0 0 := Ev.back 1 (fun n => rfl) H
  obtain ⟨e1, rfl⟩ := Ev.dpos rfl rfl H
  obtain ⟨vK1, MK1, K1, H⟩ := Ev.callb (fun n => gs_7 rfl rfl (show gCal (.invokevirtual 252) 11 (.ref 633 :: []) M = some (.inr (179, [some (.ref 633), none], [])) from by show @cond (Option ((List Value × Mem) ⊕ (Nat × Lo × List Value))) (true && gRecv M (.ref 633) 11 && gRoom [] && true) (some (.inr (179, [some (.ref 633), none], []))) none = _; rw [recv_s hS.1 qa_633 qo_61]; rfl)) H
  have K1 : Ev none e1 179 0 [some (.ref 633), none] [] M vK1 MK1 0 0 := K1
  have HF := H
  exact ⟨e1, vK1, MK1, rfl, K1, HF⟩
theorem rlq1_150 {e : Nat} {M M' : Mem} {v : Option Value} {i y : Int32} {c3 : Option Value} (hS : SQ M) (H : Ev none e 170 150 [some (.ref 633), some (.int i), some (.int 1), c3] [.int y] M v M' 0 0) : (y = 0 ∧ v = some (.int 0) ∧ M' = M) ∨ (¬ (y = 0) ∧ (0 ≤ i.toInt ∧ i.toInt < 128) ∧ v = some (.int 1) ∧ M' = (wI M 644 i.toNatClampNeg (zI M 633 19))) := by
  have H : Ev none e 170 (if y = 0 then 153 else 155) [some (.ref 633), some (.int i), some (.int 1), c3] [] M v M' 0 0 := Ev.back 1 (fun n => rfl) H
  by_cases h1 : y = 0
  · rw [if_pos h1] at H
    have H : Ev none e 170 154 [some (.ref 633), some (.int i), some (.int 1), c3] [.int 0] M v M' 0 0 := Ev.back 1 (fun n => rfl) H
    obtain ⟨z1, z2⟩ := Ev.retz rfl rfl H
    exact Or.inl ⟨h1, z1, z2⟩
  · rw [if_neg h1] at H
    have H : Ev none e 170 156 [some (.ref 633), some (.int i), some (.int 1), c3] [.ref 633] M v M' 0 0 := Ev.back 1 (fun n => rfl) H
    have H : Ev none e 170 159 [some (.ref 633), some (.int i), some (.int 1), c3] [.ref 644] M v M' 0 0 := Ev.back 1 (gs_3 rfl rfl (gf_u hS.1 qa_633 qr_61_14 qu_72 rfl)) H
    have H : Ev none e 170 161 [some (.ref 633), some (.int i), some (.int 1), c3] [.ref 633, .int i, .ref 644] M v M' 0 0 := Ev.back 2 (fun n => rfl) H
    have H : Ev none e 170 164 [some (.ref 633), some (.int i), some (.int 1), c3] [.int (zI M 633 19), .int i, .ref 644] M v M' 0 0 := Ev.back 1 (gs_3 rfl rfl (gf_i hS.1 qa_633 qi_61_19 rfl)) H
    obtain ⟨b2, H⟩ := Ev.ias rfl rfl hS.1 qa_644 qw_72 H
    obtain ⟨N3, eN3⟩ : ∃ N, N = (wI M 644 i.toNatClampNeg (zI M 633 19)) := ⟨_, rfl⟩
    have hN3 : SQ N3 := by rw [eN3]; exact hS.ki
    have H : Ev none e 170 165 [some (.ref 633), some (.int i), some (.int 1), c3] [] N3 v M' 0 0 := by rw [eN3]; exact H
    have H : Ev none e 170 166 [some (.ref 633), some (.int i), some (.int 1), c3] [.int 1] N3 v M' 0 0 := Ev.back 1 (fun n => rfl) H
    obtain ⟨z1, z2⟩ := Ev.retz rfl rfl H
    subst eN3
    exact Or.inr (⟨h1, b2, z1, z2⟩)
theorem rlq2_0 {e : Nat} {M M' : Mem} {v : Option Value} {i : Int32} (hS : SQ M) (H : Ev none e 170 0 [some (.ref 633), some (.int i), some (.int 2), none] [] M v M' 0 0) : (∃ e1 v1 M1, e = e1 + 1 ∧ Ev none e1 167 0 [some (.ref 633), some (.int 1), some (.int 999)] [] M v1 M1 0 0 ∧ Ev none e 170 75 [some (.ref 633), some (.int i), some (.int 2), none] (v1.toList ++ []) M1 v M' 0 0) := by
  have H : Ev none e 170 (if 2 = 5 then 5 else 31) [some (.ref 633), some (.int i), some (.int 2), none] [] M v M' 0 0 := Ev.back 3 (fun n => rfl) H
  rw [if_neg (by decide)] at H
  have H : Ev none e 170 (if 2 = 6 then 90 else 37) [some (.ref 633), some (.int i), some (.int 2), none] [] M v M' 0 0 := Ev.back 3 (fun n => rfl) H
  rw [if_neg (by decide)] at H
  have H : Ev none e 170 (if 2 = 2 then 43 else 47) [some (.ref 633), some (.int i), some (.int 2), none] [.ref 633] M v M' 0 0 := Ev.back 4 (fun n => rfl) H
  rw [if_pos (by decide)] at H
  have H : Ev none e 170 (if 2 = 5 then 53 else 58) [some (.ref 633), some (.int i), some (.int 2), none] [.int 1, .ref 633] M v M' 0 0 := Ev.back 5 (fun n => rfl) H
  rw [if_neg (by decide)] at H
  have H : Ev none e 170 (if 2 = 7 then 64 else 69) [some (.ref 633), some (.int i), some (.int 2), none] [.int 1, .ref 633] M v M' 0 0 := Ev.back 3 (fun n => rfl) H
  rw [if_neg (by decide)] at H
  have H : Ev none e 170 72 [some (.ref 633), some (.int i), some (.int 2), none] [.int 999, .int 1, .ref 633] M v M' 0 0 := Ev.back 1 (fun n => rfl) H
  obtain ⟨e1, rfl⟩ := Ev.dpos rfl rfl H
  obtain ⟨vK1, MK1, K1, H⟩ := Ev.callb (fun n => gs_7 rfl rfl (show gCal (.invokevirtual 240) 11 (.int 999 :: .int 1 :: .ref 633 :: []) M = some (.inr (167, [some (.ref 633), some (.int 1), some (.int 999)], [])) from by show @cond (Option ((List Value × Mem) ⊕ (Nat × Lo × List Value))) (true && gRecv M (.ref 633) 11 && gRoom [] && true) (some (.inr (167, [some (.ref 633), some (.int 1), some (.int 999)], []))) none = _; rw [recv_s hS.1 qa_633 qo_61]; rfl)) H
  have K1 : Ev none e1 167 0 [some (.ref 633), some (.int 1), some (.int 999)] [] M vK1 MK1 0 0 := K1
  have HF := H
  exact ⟨e1, vK1, MK1, rfl, K1, HF⟩
theorem rlq2_75 {e : Nat} {M M' : Mem} {v : Option Value} {i y : Int32} {c3 : Option Value} (hS : SQ M) (H : Ev none e 170 75 [some (.ref 633), some (.int i), some (.int 2), c3] [.int y] M v M' 0 0) : (y = 0 ∧ v = some (.int 0) ∧ M' = M) ∨ (¬ (y = 0) ∧ (0 ≤ i.toInt ∧ i.toInt < 128) ∧ (0 ≤ i.toInt ∧ i.toInt < 128) ∧ (0 ≤ i.toInt ∧ i.toInt < 128) ∧ v = some (.int 1) ∧ M' = (wI (wI (wI M 642 i.toNatClampNeg (zI M 633 32)) 643 i.toNatClampNeg (zI M 633 19)) 644 i.toNatClampNeg (zI M 633 19))) := by
  have H : Ev none e 170 (if y = 0 then 78 else 80) [some (.ref 633), some (.int i), some (.int 2), c3] [] M v M' 0 0 := Ev.back 1 (fun n => rfl) H
  by_cases h1 : y = 0
  · rw [if_pos h1] at H
    have H : Ev none e 170 79 [some (.ref 633), some (.int i), some (.int 2), c3] [.int 0] M v M' 0 0 := Ev.back 1 (fun n => rfl) H
    obtain ⟨z1, z2⟩ := Ev.retz rfl rfl H
    exact Or.inl ⟨h1, z1, z2⟩
  · rw [if_neg h1] at H
    have H : Ev none e 170 81 [some (.ref 633), some (.int i), some (.int 2), c3] [.ref 633] M v M' 0 0 := Ev.back 1 (fun n => rfl) H
    have H : Ev none e 170 84 [some (.ref 633), some (.int i), some (.int 2), c3] [.ref 642] M v M' 0 0 := Ev.back 1 (gs_3 rfl rfl (gf_u hS.1 qa_633 qr_61_12 qu_70 rfl)) H
    have H : Ev none e 170 86 [some (.ref 633), some (.int i), some (.int 2), c3] [.ref 633, .int i, .ref 642] M v M' 0 0 := Ev.back 2 (fun n => rfl) H
    have H : Ev none e 170 89 [some (.ref 633), some (.int i), some (.int 2), c3] [.int (zI M 633 32), .int i, .ref 642] M v M' 0 0 := Ev.back 1 (gs_3 rfl rfl (gf_i hS.1 qa_633 qi_61_32 rfl)) H
    obtain ⟨b2, H⟩ := Ev.ias rfl rfl hS.1 qa_642 qw_70 H
    obtain ⟨N3, eN3⟩ : ∃ N, N = (wI M 642 i.toNatClampNeg (zI M 633 32)) := ⟨_, rfl⟩
    have hN3 : SQ N3 := by rw [eN3]; exact hS.ki
    have H : Ev none e 170 90 [some (.ref 633), some (.int i), some (.int 2), c3] [] N3 v M' 0 0 := by rw [eN3]; exact H
    have H : Ev none e 170 91 [some (.ref 633), some (.int i), some (.int 2), c3] [.ref 633] N3 v M' 0 0 := Ev.back 1 (fun n => rfl) H
    have H : Ev none e 170 94 [some (.ref 633), some (.int i), some (.int 2), c3] [.ref 643] N3 v M' 0 0 := Ev.back 1 (gs_3 rfl rfl (gf_u hN3.1 qa_633 qr_61_13 qu_71 rfl)) H
    have H : Ev none e 170 96 [some (.ref 633), some (.int i), some (.int 2), c3] [.ref 633, .int i, .ref 643] N3 v M' 0 0 := Ev.back 2 (fun n => rfl) H
    have H : Ev none e 170 99 [some (.ref 633), some (.int i), some (.int 2), c3] [.int (zI N3 633 19), .int i, .ref 643] N3 v M' 0 0 := Ev.back 1 (gs_3 rfl rfl (gf_i hN3.1 qa_633 qi_61_19 rfl)) H
    rw [show zI N3 633 19 = zI M 633 19 from by rw [eN3]; exact fI_wI] at H
    obtain ⟨b4, H⟩ := Ev.ias rfl rfl hN3.1 qa_643 qw_71 H
    obtain ⟨N5, eN5⟩ : ∃ N, N = (wI N3 643 i.toNatClampNeg (zI M 633 19)) := ⟨_, rfl⟩
    have hN5 : SQ N5 := by rw [eN5]; exact hN3.ki
    have H : Ev none e 170 100 [some (.ref 633), some (.int i), some (.int 2), c3] [] N5 v M' 0 0 := by rw [eN5]; exact H
    have H : Ev none e 170 (if 2 = 6 then 106 else 110) [some (.ref 633), some (.int i), some (.int 2), c3] [] N5 v M' 0 0 := Ev.back 3 (fun n => rfl) H
    rw [if_neg (by decide)] at H
    have H : Ev none e 170 (if 2 = 0 then 126 else 116) [some (.ref 633), some (.int i), some (.int 2), some (.int 0)] [] N5 v M' 0 0 := Ev.back 4 (fun n => rfl) H
    rw [if_neg (by decide)] at H
    have H : Ev none e 170 (if 2 = 1 then 126 else 121) [some (.ref 633), some (.int i), some (.int 2), some (.int 0)] [] N5 v M' 0 0 := Ev.back 3 (fun n => rfl) H
    rw [if_neg (by decide)] at H
    have H : Ev none e 170 (if 2 = 5 then 126 else 142) [some (.ref 633), some (.int i), some (.int 2), some (.int 0)] [] N5 v M' 0 0 := Ev.back 3 (fun n => rfl) H
    rw [if_neg (by decide)] at H
    have H : Ev none e 170 (if 0 = 0 then 155 else 146) [some (.ref 633), some (.int i), some (.int 2), some (.int 0)] [] N5 v M' 0 0 := Ev.back 2 (fun n => rfl) H
    rw [if_pos (by decide)] at H
    have H : Ev none e 170 156 [some (.ref 633), some (.int i), some (.int 2), some (.int 0)] [.ref 633] N5 v M' 0 0 := Ev.back 1 (fun n => rfl) H
    have H : Ev none e 170 159 [some (.ref 633), some (.int i), some (.int 2), some (.int 0)] [.ref 644] N5 v M' 0 0 := Ev.back 1 (gs_3 rfl rfl (gf_u hN5.1 qa_633 qr_61_14 qu_72 rfl)) H
    have H : Ev none e 170 161 [some (.ref 633), some (.int i), some (.int 2), some (.int 0)] [.ref 633, .int i, .ref 644] N5 v M' 0 0 := Ev.back 2 (fun n => rfl) H
    have H : Ev none e 170 164 [some (.ref 633), some (.int i), some (.int 2), some (.int 0)] [.int (zI N5 633 19), .int i, .ref 644] N5 v M' 0 0 := Ev.back 1 (gs_3 rfl rfl (gf_i hN5.1 qa_633 qi_61_19 rfl)) H
    rw [(show zI N5 633 19 = zI N3 633 19 from by rw [eN5]; exact fI_wI).trans (show zI N3 633 19 = zI M 633 19 from by rw [eN3]; exact fI_wI)] at H
    obtain ⟨b6, H⟩ := Ev.ias rfl rfl hN5.1 qa_644 qw_72 H
    obtain ⟨N7, eN7⟩ : ∃ N, N = (wI N5 644 i.toNatClampNeg (zI M 633 19)) := ⟨_, rfl⟩
    have hN7 : SQ N7 := by rw [eN7]; exact hN5.ki
    have H : Ev none e 170 165 [some (.ref 633), some (.int i), some (.int 2), some (.int 0)] [] N7 v M' 0 0 := by rw [eN7]; exact H
    have H : Ev none e 170 166 [some (.ref 633), some (.int i), some (.int 2), some (.int 0)] [.int 1] N7 v M' 0 0 := Ev.back 1 (fun n => rfl) H
    obtain ⟨z1, z2⟩ := Ev.retz rfl rfl H
    subst eN3 eN5 eN7
    exact Or.inr (⟨h1, b2, b4, b6, z1, z2⟩)
theorem rlq3_0 {e : Nat} {M M' : Mem} {v : Option Value} {i : Int32} (hS : SQ M) (H : Ev none e 170 0 [some (.ref 633), some (.int i), some (.int 3), none] [] M v M' 0 0) : (∃ e1 v1 M1, e = e1 + 1 ∧ Ev none e1 167 0 [some (.ref 633), some (.int 0), some (.int 999)] [] M v1 M1 0 0 ∧ Ev none e 170 75 [some (.ref 633), some (.int i), some (.int 3), none] (v1.toList ++ []) M1 v M' 0 0) := by
  have H : Ev none e 170 (if 3 = 5 then 5 else 31) [some (.ref 633), some (.int i), some (.int 3), none] [] M v M' 0 0 := Ev.back 3 (fun n => rfl) H
  rw [if_neg (by decide)] at H
  have H : Ev none e 170 (if 3 = 6 then 90 else 37) [some (.ref 633), some (.int i), some (.int 3), none] [] M v M' 0 0 := Ev.back 3 (fun n => rfl) H
  rw [if_neg (by decide)] at H
  have H : Ev none e 170 (if 3 = 2 then 43 else 47) [some (.ref 633), some (.int i), some (.int 3), none] [.ref 633] M v M' 0 0 := Ev.back 4 (fun n => rfl) H
  rw [if_neg (by decide)] at H
  have H : Ev none e 170 (if 3 = 5 then 53 else 58) [some (.ref 633), some (.int i), some (.int 3), none] [.int 0, .ref 633] M v M' 0 0 := Ev.back 4 (fun n => rfl) H
  rw [if_neg (by decide)] at H
  have H : Ev none e 170 (if 3 = 7 then 64 else 69) [some (.ref 633), some (.int i), some (.int 3), none] [.int 0, .ref 633] M v M' 0 0 := Ev.back 3 (fun n => rfl) H
  rw [if_neg (by decide)] at H
  have H : Ev none e 170 72 [some (.ref 633), some (.int i), some (.int 3), none] [.int 999, .int 0, .ref 633] M v M' 0 0 := Ev.back 1 (fun n => rfl) H
  obtain ⟨e1, rfl⟩ := Ev.dpos rfl rfl H
  obtain ⟨vK1, MK1, K1, H⟩ := Ev.callb (fun n => gs_7 rfl rfl (show gCal (.invokevirtual 240) 11 (.int 999 :: .int 0 :: .ref 633 :: []) M = some (.inr (167, [some (.ref 633), some (.int 0), some (.int 999)], [])) from by show @cond (Option ((List Value × Mem) ⊕ (Nat × Lo × List Value))) (true && gRecv M (.ref 633) 11 && gRoom [] && true) (some (.inr (167, [some (.ref 633), some (.int 0), some (.int 999)], []))) none = _; rw [recv_s hS.1 qa_633 qo_61]; rfl)) H
  have K1 : Ev none e1 167 0 [some (.ref 633), some (.int 0), some (.int 999)] [] M vK1 MK1 0 0 := K1
  have HF := H
  exact ⟨e1, vK1, MK1, rfl, K1, HF⟩
theorem rlq3_75 {e : Nat} {M M' : Mem} {v : Option Value} {i y : Int32} {c3 : Option Value} (hS : SQ M) (H : Ev none e 170 75 [some (.ref 633), some (.int i), some (.int 3), c3] [.int y] M v M' 0 0) : (y = 0 ∧ v = some (.int 0) ∧ M' = M) ∨ (¬ (y = 0) ∧ (0 ≤ i.toInt ∧ i.toInt < 128) ∧ (0 ≤ i.toInt ∧ i.toInt < 128) ∧ (0 ≤ i.toInt ∧ i.toInt < 128) ∧ v = some (.int 1) ∧ M' = (wI (wI (wI M 642 i.toNatClampNeg (zI M 633 32)) 643 i.toNatClampNeg (zI M 633 19)) 644 i.toNatClampNeg (zI M 633 19))) := by
  have H : Ev none e 170 (if y = 0 then 78 else 80) [some (.ref 633), some (.int i), some (.int 3), c3] [] M v M' 0 0 := Ev.back 1 (fun n => rfl) H
  by_cases h1 : y = 0
  · rw [if_pos h1] at H
    have H : Ev none e 170 79 [some (.ref 633), some (.int i), some (.int 3), c3] [.int 0] M v M' 0 0 := Ev.back 1 (fun n => rfl) H
    obtain ⟨z1, z2⟩ := Ev.retz rfl rfl H
    exact Or.inl ⟨h1, z1, z2⟩
  · rw [if_neg h1] at H
    have H : Ev none e 170 81 [some (.ref 633), some (.int i), some (.int 3), c3] [.ref 633] M v M' 0 0 := Ev.back 1 (fun n => rfl) H
    have H : Ev none e 170 84 [some (.ref 633), some (.int i), some (.int 3), c3] [.ref 642] M v M' 0 0 := Ev.back 1 (gs_3 rfl rfl (gf_u hS.1 qa_633 qr_61_12 qu_70 rfl)) H
    have H : Ev none e 170 86 [some (.ref 633), some (.int i), some (.int 3), c3] [.ref 633, .int i, .ref 642] M v M' 0 0 := Ev.back 2 (fun n => rfl) H
    have H : Ev none e 170 89 [some (.ref 633), some (.int i), some (.int 3), c3] [.int (zI M 633 32), .int i, .ref 642] M v M' 0 0 := Ev.back 1 (gs_3 rfl rfl (gf_i hS.1 qa_633 qi_61_32 rfl)) H
    obtain ⟨b2, H⟩ := Ev.ias rfl rfl hS.1 qa_642 qw_70 H
    obtain ⟨N3, eN3⟩ : ∃ N, N = (wI M 642 i.toNatClampNeg (zI M 633 32)) := ⟨_, rfl⟩
    have hN3 : SQ N3 := by rw [eN3]; exact hS.ki
    have H : Ev none e 170 90 [some (.ref 633), some (.int i), some (.int 3), c3] [] N3 v M' 0 0 := by rw [eN3]; exact H
    have H : Ev none e 170 91 [some (.ref 633), some (.int i), some (.int 3), c3] [.ref 633] N3 v M' 0 0 := Ev.back 1 (fun n => rfl) H
    have H : Ev none e 170 94 [some (.ref 633), some (.int i), some (.int 3), c3] [.ref 643] N3 v M' 0 0 := Ev.back 1 (gs_3 rfl rfl (gf_u hN3.1 qa_633 qr_61_13 qu_71 rfl)) H
    have H : Ev none e 170 96 [some (.ref 633), some (.int i), some (.int 3), c3] [.ref 633, .int i, .ref 643] N3 v M' 0 0 := Ev.back 2 (fun n => rfl) H
    have H : Ev none e 170 99 [some (.ref 633), some (.int i), some (.int 3), c3] [.int (zI N3 633 19), .int i, .ref 643] N3 v M' 0 0 := Ev.back 1 (gs_3 rfl rfl (gf_i hN3.1 qa_633 qi_61_19 rfl)) H
    rw [show zI N3 633 19 = zI M 633 19 from by rw [eN3]; exact fI_wI] at H
    obtain ⟨b4, H⟩ := Ev.ias rfl rfl hN3.1 qa_643 qw_71 H
    obtain ⟨N5, eN5⟩ : ∃ N, N = (wI N3 643 i.toNatClampNeg (zI M 633 19)) := ⟨_, rfl⟩
    have hN5 : SQ N5 := by rw [eN5]; exact hN3.ki
    have H : Ev none e 170 100 [some (.ref 633), some (.int i), some (.int 3), c3] [] N5 v M' 0 0 := by rw [eN5]; exact H
    have H : Ev none e 170 (if 3 = 6 then 106 else 110) [some (.ref 633), some (.int i), some (.int 3), c3] [] N5 v M' 0 0 := Ev.back 3 (fun n => rfl) H
    rw [if_neg (by decide)] at H
    have H : Ev none e 170 (if 3 = 0 then 126 else 116) [some (.ref 633), some (.int i), some (.int 3), some (.int 0)] [] N5 v M' 0 0 := Ev.back 4 (fun n => rfl) H
    rw [if_neg (by decide)] at H
    have H : Ev none e 170 (if 3 = 1 then 126 else 121) [some (.ref 633), some (.int i), some (.int 3), some (.int 0)] [] N5 v M' 0 0 := Ev.back 3 (fun n => rfl) H
    rw [if_neg (by decide)] at H
    have H : Ev none e 170 (if 3 = 5 then 126 else 142) [some (.ref 633), some (.int i), some (.int 3), some (.int 0)] [] N5 v M' 0 0 := Ev.back 3 (fun n => rfl) H
    rw [if_neg (by decide)] at H
    have H : Ev none e 170 (if 0 = 0 then 155 else 146) [some (.ref 633), some (.int i), some (.int 3), some (.int 0)] [] N5 v M' 0 0 := Ev.back 2 (fun n => rfl) H
    rw [if_pos (by decide)] at H
    have H : Ev none e 170 156 [some (.ref 633), some (.int i), some (.int 3), some (.int 0)] [.ref 633] N5 v M' 0 0 := Ev.back 1 (fun n => rfl) H
    have H : Ev none e 170 159 [some (.ref 633), some (.int i), some (.int 3), some (.int 0)] [.ref 644] N5 v M' 0 0 := Ev.back 1 (gs_3 rfl rfl (gf_u hN5.1 qa_633 qr_61_14 qu_72 rfl)) H
    have H : Ev none e 170 161 [some (.ref 633), some (.int i), some (.int 3), some (.int 0)] [.ref 633, .int i, .ref 644] N5 v M' 0 0 := Ev.back 2 (fun n => rfl) H
    have H : Ev none e 170 164 [some (.ref 633), some (.int i), some (.int 3), some (.int 0)] [.int (zI N5 633 19), .int i, .ref 644] N5 v M' 0 0 := Ev.back 1 (gs_3 rfl rfl (gf_i hN5.1 qa_633 qi_61_19 rfl)) H
    rw [(show zI N5 633 19 = zI N3 633 19 from by rw [eN5]; exact fI_wI).trans (show zI N3 633 19 = zI M 633 19 from by rw [eN3]; exact fI_wI)] at H
    obtain ⟨b6, H⟩ := Ev.ias rfl rfl hN5.1 qa_644 qw_72 H
    obtain ⟨N7, eN7⟩ : ∃ N, N = (wI N5 644 i.toNatClampNeg (zI M 633 19)) := ⟨_, rfl⟩
    have hN7 : SQ N7 := by rw [eN7]; exact hN5.ki
    have H : Ev none e 170 165 [some (.ref 633), some (.int i), some (.int 3), some (.int 0)] [] N7 v M' 0 0 := by rw [eN7]; exact H
    have H : Ev none e 170 166 [some (.ref 633), some (.int i), some (.int 3), some (.int 0)] [.int 1] N7 v M' 0 0 := Ev.back 1 (fun n => rfl) H
    obtain ⟨z1, z2⟩ := Ev.retz rfl rfl H
    subst eN3 eN5 eN7
    exact Or.inr (⟨h1, b2, b4, b6, z1, z2⟩)
theorem rlq4_0 {e : Nat} {M M' : Mem} {v : Option Value} {i : Int32} (hS : SQ M) (H : Ev none e 170 0 [some (.ref 633), some (.int i), some (.int 4), none] [] M v M' 0 0) : (∃ e1 v1 M1, e = e1 + 1 ∧ Ev none e1 167 0 [some (.ref 633), some (.int 0), some (.int 999)] [] M v1 M1 0 0 ∧ Ev none e 170 75 [some (.ref 633), some (.int i), some (.int 4), none] (v1.toList ++ []) M1 v M' 0 0) := by
  have H : Ev none e 170 (if 4 = 5 then 5 else 31) [some (.ref 633), some (.int i), some (.int 4), none] [] M v M' 0 0 := Ev.back 3 (fun n => rfl) H
  rw [if_neg (by decide)] at H
  have H : Ev none e 170 (if 4 = 6 then 90 else 37) [some (.ref 633), some (.int i), some (.int 4), none] [] M v M' 0 0 := Ev.back 3 (fun n => rfl) H
  rw [if_neg (by decide)] at H
  have H : Ev none e 170 (if 4 = 2 then 43 else 47) [some (.ref 633), some (.int i), some (.int 4), none] [.ref 633] M v M' 0 0 := Ev.back 4 (fun n => rfl) H
  rw [if_neg (by decide)] at H
  have H : Ev none e 170 (if 4 = 5 then 53 else 58) [some (.ref 633), some (.int i), some (.int 4), none] [.int 0, .ref 633] M v M' 0 0 := Ev.back 4 (fun n => rfl) H
  rw [if_neg (by decide)] at H
  have H : Ev none e 170 (if 4 = 7 then 64 else 69) [some (.ref 633), some (.int i), some (.int 4), none] [.int 0, .ref 633] M v M' 0 0 := Ev.back 3 (fun n => rfl) H
  rw [if_neg (by decide)] at H
  have H : Ev none e 170 72 [some (.ref 633), some (.int i), some (.int 4), none] [.int 999, .int 0, .ref 633] M v M' 0 0 := Ev.back 1 (fun n => rfl) H
  obtain ⟨e1, rfl⟩ := Ev.dpos rfl rfl H
  obtain ⟨vK1, MK1, K1, H⟩ := Ev.callb (fun n => gs_7 rfl rfl (show gCal (.invokevirtual 240) 11 (.int 999 :: .int 0 :: .ref 633 :: []) M = some (.inr (167, [some (.ref 633), some (.int 0), some (.int 999)], [])) from by show @cond (Option ((List Value × Mem) ⊕ (Nat × Lo × List Value))) (true && gRecv M (.ref 633) 11 && gRoom [] && true) (some (.inr (167, [some (.ref 633), some (.int 0), some (.int 999)], []))) none = _; rw [recv_s hS.1 qa_633 qo_61]; rfl)) H
  have K1 : Ev none e1 167 0 [some (.ref 633), some (.int 0), some (.int 999)] [] M vK1 MK1 0 0 := K1
  have HF := H
  exact ⟨e1, vK1, MK1, rfl, K1, HF⟩
theorem rlq4_75 {e : Nat} {M M' : Mem} {v : Option Value} {i y : Int32} {c3 : Option Value} (hS : SQ M) (H : Ev none e 170 75 [some (.ref 633), some (.int i), some (.int 4), c3] [.int y] M v M' 0 0) : (y = 0 ∧ v = some (.int 0) ∧ M' = M) ∨ (¬ (y = 0) ∧ (0 ≤ i.toInt ∧ i.toInt < 128) ∧ (0 ≤ i.toInt ∧ i.toInt < 128) ∧ (0 ≤ i.toInt ∧ i.toInt < 128) ∧ v = some (.int 1) ∧ M' = (wI (wI (wI M 642 i.toNatClampNeg (zI M 633 32)) 643 i.toNatClampNeg (zI M 633 19)) 644 i.toNatClampNeg (zI M 633 19))) := by
  have H : Ev none e 170 (if y = 0 then 78 else 80) [some (.ref 633), some (.int i), some (.int 4), c3] [] M v M' 0 0 := Ev.back 1 (fun n => rfl) H
  by_cases h1 : y = 0
  · rw [if_pos h1] at H
    have H : Ev none e 170 79 [some (.ref 633), some (.int i), some (.int 4), c3] [.int 0] M v M' 0 0 := Ev.back 1 (fun n => rfl) H
    obtain ⟨z1, z2⟩ := Ev.retz rfl rfl H
    exact Or.inl ⟨h1, z1, z2⟩
  · rw [if_neg h1] at H
    have H : Ev none e 170 81 [some (.ref 633), some (.int i), some (.int 4), c3] [.ref 633] M v M' 0 0 := Ev.back 1 (fun n => rfl) H
    have H : Ev none e 170 84 [some (.ref 633), some (.int i), some (.int 4), c3] [.ref 642] M v M' 0 0 := Ev.back 1 (gs_3 rfl rfl (gf_u hS.1 qa_633 qr_61_12 qu_70 rfl)) H
    have H : Ev none e 170 86 [some (.ref 633), some (.int i), some (.int 4), c3] [.ref 633, .int i, .ref 642] M v M' 0 0 := Ev.back 2 (fun n => rfl) H
    have H : Ev none e 170 89 [some (.ref 633), some (.int i), some (.int 4), c3] [.int (zI M 633 32), .int i, .ref 642] M v M' 0 0 := Ev.back 1 (gs_3 rfl rfl (gf_i hS.1 qa_633 qi_61_32 rfl)) H
    obtain ⟨b2, H⟩ := Ev.ias rfl rfl hS.1 qa_642 qw_70 H
    obtain ⟨N3, eN3⟩ : ∃ N, N = (wI M 642 i.toNatClampNeg (zI M 633 32)) := ⟨_, rfl⟩
    have hN3 : SQ N3 := by rw [eN3]; exact hS.ki
    have H : Ev none e 170 90 [some (.ref 633), some (.int i), some (.int 4), c3] [] N3 v M' 0 0 := by rw [eN3]; exact H
    have H : Ev none e 170 91 [some (.ref 633), some (.int i), some (.int 4), c3] [.ref 633] N3 v M' 0 0 := Ev.back 1 (fun n => rfl) H
    have H : Ev none e 170 94 [some (.ref 633), some (.int i), some (.int 4), c3] [.ref 643] N3 v M' 0 0 := Ev.back 1 (gs_3 rfl rfl (gf_u hN3.1 qa_633 qr_61_13 qu_71 rfl)) H
    have H : Ev none e 170 96 [some (.ref 633), some (.int i), some (.int 4), c3] [.ref 633, .int i, .ref 643] N3 v M' 0 0 := Ev.back 2 (fun n => rfl) H
    have H : Ev none e 170 99 [some (.ref 633), some (.int i), some (.int 4), c3] [.int (zI N3 633 19), .int i, .ref 643] N3 v M' 0 0 := Ev.back 1 (gs_3 rfl rfl (gf_i hN3.1 qa_633 qi_61_19 rfl)) H
    rw [show zI N3 633 19 = zI M 633 19 from by rw [eN3]; exact fI_wI] at H
    obtain ⟨b4, H⟩ := Ev.ias rfl rfl hN3.1 qa_643 qw_71 H
    obtain ⟨N5, eN5⟩ : ∃ N, N = (wI N3 643 i.toNatClampNeg (zI M 633 19)) := ⟨_, rfl⟩
    have hN5 : SQ N5 := by rw [eN5]; exact hN3.ki
    have H : Ev none e 170 100 [some (.ref 633), some (.int i), some (.int 4), c3] [] N5 v M' 0 0 := by rw [eN5]; exact H
    have H : Ev none e 170 (if 4 = 6 then 106 else 110) [some (.ref 633), some (.int i), some (.int 4), c3] [] N5 v M' 0 0 := Ev.back 3 (fun n => rfl) H
    rw [if_neg (by decide)] at H
    have H : Ev none e 170 (if 4 = 0 then 126 else 116) [some (.ref 633), some (.int i), some (.int 4), some (.int 0)] [] N5 v M' 0 0 := Ev.back 4 (fun n => rfl) H
    rw [if_neg (by decide)] at H
    have H : Ev none e 170 (if 4 = 1 then 126 else 121) [some (.ref 633), some (.int i), some (.int 4), some (.int 0)] [] N5 v M' 0 0 := Ev.back 3 (fun n => rfl) H
    rw [if_neg (by decide)] at H
    have H : Ev none e 170 (if 4 = 5 then 126 else 142) [some (.ref 633), some (.int i), some (.int 4), some (.int 0)] [] N5 v M' 0 0 := Ev.back 3 (fun n => rfl) H
    rw [if_neg (by decide)] at H
    have H : Ev none e 170 (if 0 = 0 then 155 else 146) [some (.ref 633), some (.int i), some (.int 4), some (.int 0)] [] N5 v M' 0 0 := Ev.back 2 (fun n => rfl) H
    rw [if_pos (by decide)] at H
    have H : Ev none e 170 156 [some (.ref 633), some (.int i), some (.int 4), some (.int 0)] [.ref 633] N5 v M' 0 0 := Ev.back 1 (fun n => rfl) H
    have H : Ev none e 170 159 [some (.ref 633), some (.int i), some (.int 4), some (.int 0)] [.ref 644] N5 v M' 0 0 := Ev.back 1 (gs_3 rfl rfl (gf_u hN5.1 qa_633 qr_61_14 qu_72 rfl)) H
    have H : Ev none e 170 161 [some (.ref 633), some (.int i), some (.int 4), some (.int 0)] [.ref 633, .int i, .ref 644] N5 v M' 0 0 := Ev.back 2 (fun n => rfl) H
    have H : Ev none e 170 164 [some (.ref 633), some (.int i), some (.int 4), some (.int 0)] [.int (zI N5 633 19), .int i, .ref 644] N5 v M' 0 0 := Ev.back 1 (gs_3 rfl rfl (gf_i hN5.1 qa_633 qi_61_19 rfl)) H
    rw [(show zI N5 633 19 = zI N3 633 19 from by rw [eN5]; exact fI_wI).trans (show zI N3 633 19 = zI M 633 19 from by rw [eN3]; exact fI_wI)] at H
    obtain ⟨b6, H⟩ := Ev.ias rfl rfl hN5.1 qa_644 qw_72 H
    obtain ⟨N7, eN7⟩ : ∃ N, N = (wI N5 644 i.toNatClampNeg (zI M 633 19)) := ⟨_, rfl⟩
    have hN7 : SQ N7 := by rw [eN7]; exact hN5.ki
    have H : Ev none e 170 165 [some (.ref 633), some (.int i), some (.int 4), some (.int 0)] [] N7 v M' 0 0 := by rw [eN7]; exact H
    have H : Ev none e 170 166 [some (.ref 633), some (.int i), some (.int 4), some (.int 0)] [.int 1] N7 v M' 0 0 := Ev.back 1 (fun n => rfl) H
    obtain ⟨z1, z2⟩ := Ev.retz rfl rfl H
    subst eN3 eN5 eN7
    exact Or.inr (⟨h1, b2, b4, b6, z1, z2⟩)
theorem rlq5_0 {e : Nat} {M M' : Mem} {v : Option Value} {i : Int32} (hS : SQ M) (H : Ev none e 170 0 [some (.ref 633), some (.int i), some (.int 5), none] [] M v M' 0 0) : (0 ≤ (G_171 M) ∧ (0 ≤ i.toInt ∧ i.toInt < 128) ∧ (∃ e1 v1 M1, e = e1 + 1 ∧ Ev none e1 162 0 [some (.ref 633), none, none, none] [] (wI M 641 i.toNatClampNeg (G_171 M)) v1 M1 0 0 ∧ Ev none e 170 31 [some (.ref 633), some (.int i), some (.int 5), some (.int (G_171 M))] (v1.toList ++ []) M1 v M' 0 0)) ∨ (¬ (0 ≤ (G_171 M)) ∧ (∃ e1 v1 M1, e = e1 + 1 ∧ Ev none e1 163 0 [some (.ref 633), some (.int 1)] [] M v1 M1 0 0 ∧ Ev none e 170 19 [some (.ref 633), some (.int i), some (.int 5), some (.int (G_171 M))] (v1.toList ++ []) M1 v M' 0 0)) := by
  have H : Ev none e 170 (if 5 = 5 then 5 else 31) [some (.ref 633), some (.int i), some (.int 5), none] [] M v M' 0 0 := Ev.back 3 (fun n => rfl) H
  rw [if_pos (by decide)] at H
  have H : Ev none e 170 6 [some (.ref 633), some (.int i), some (.int 5), none] [.ref 633] M v M' 0 0 := Ev.back 1 (fun n => rfl) H
  obtain ⟨e1, rfl⟩ := Ev.dpos rfl rfl H
  obtain ⟨vK1, MK1, K1, H⟩ := Ev.callb (fun n => gs_7 rfl rfl (show gCal (.invokevirtual 237) 11 (.ref 633 :: []) M = some (.inr (171, [some (.ref 633)], [])) from by show @cond (Option ((List Value × Mem) ⊕ (Nat × Lo × List Value))) (true && gRecv M (.ref 633) 11 && gRoom [] && true) (some (.inr (171, [some (.ref 633)], []))) none = _; rw [recv_s hS.1 qa_633 qo_61]; rfl)) H
  obtain ⟨pK1, qK1⟩ := g_171 hS K1
  rw [pK1, qK1] at H
  have H : Ev none (e1 + 1) 170 9 [some (.ref 633), some (.int i), some (.int 5), none] [.int (G_171 M)] M v M' 0 0 := H
  have H : Ev none (e1 + 1) 170 (if 0 ≤ (G_171 M) then 20 else 14) [some (.ref 633), some (.int i), some (.int 5), some (.int (G_171 M))] [] M v M' 0 0 := Ev.back 3 (fun n => rfl) H
  by_cases h2 : 0 ≤ (G_171 M)
  · rw [if_pos h2] at H
    have H : Ev none (e1 + 1) 170 21 [some (.ref 633), some (.int i), some (.int 5), some (.int (G_171 M))] [.ref 633] M v M' 0 0 := Ev.back 1 (fun n => rfl) H
    have H : Ev none (e1 + 1) 170 24 [some (.ref 633), some (.int i), some (.int 5), some (.int (G_171 M))] [.ref 641] M v M' 0 0 := Ev.back 1 (gs_3 rfl rfl (gf_u hS.1 qa_633 qr_61_11 qu_69 rfl)) H
    have H : Ev none (e1 + 1) 170 26 [some (.ref 633), some (.int i), some (.int 5), some (.int (G_171 M))] [.int (G_171 M), .int i, .ref 641] M v M' 0 0 := Ev.back 2 (fun n => rfl) H
    obtain ⟨b3, H⟩ := Ev.ias rfl rfl hS.1 qa_641 qw_69 H
    obtain ⟨N4, eN4⟩ : ∃ N, N = (wI M 641 i.toNatClampNeg (G_171 M)) := ⟨_, rfl⟩
    have hN4 : SQ N4 := by rw [eN4]; exact hS.ki
    have H : Ev none (e1 + 1) 170 27 [some (.ref 633), some (.int i), some (.int 5), some (.int (G_171 M))] [] N4 v M' 0 0 := by rw [eN4]; exact H
    have H : Ev none (e1 + 1) 170 28 [some (.ref 633), some (.int i), some (.int 5), some (.int (G_171 M))] [.ref 633] N4 v M' 0 0 := Ev.back 1 (fun n => rfl) H
    obtain ⟨vK5, MK5, K5, H⟩ := Ev.callb (fun n => gs_7 rfl rfl (show gCal (.invokevirtual 201) 11 (.ref 633 :: []) N4 = some (.inr (162, [some (.ref 633), none, none, none], [])) from by show @cond (Option ((List Value × Mem) ⊕ (Nat × Lo × List Value))) (true && gRecv N4 (.ref 633) 11 && gRoom [] && true) (some (.inr (162, [some (.ref 633), none, none, none], []))) none = _; rw [recv_s hN4.1 qa_633 qo_61]; rfl)) H
    have K5 : Ev none e1 162 0 [some (.ref 633), none, none, none] [] N4 vK5 MK5 0 0 := K5
    have HF := H
    subst eN4
    exact Or.inl ⟨h2, b3, ⟨e1, vK5, MK5, rfl, K5, HF⟩⟩
  · rw [if_neg h2] at H
    have H : Ev none (e1 + 1) 170 16 [some (.ref 633), some (.int i), some (.int 5), some (.int (G_171 M))] [.int 1, .ref 633] M v M' 0 0 := Ev.back 2 (fun n => rfl) H
    obtain ⟨vK6, MK6, K6, H⟩ := Ev.callb (fun n => gs_7 rfl rfl (show gCal (.invokevirtual 198) 11 (.int 1 :: .ref 633 :: []) M = some (.inr (163, [some (.ref 633), some (.int 1)], [])) from by show @cond (Option ((List Value × Mem) ⊕ (Nat × Lo × List Value))) (true && gRecv M (.ref 633) 11 && gRoom [] && true) (some (.inr (163, [some (.ref 633), some (.int 1)], []))) none = _; rw [recv_s hS.1 qa_633 qo_61]; rfl)) H
    have K6 : Ev none e1 163 0 [some (.ref 633), some (.int 1)] [] M vK6 MK6 0 0 := K6
    have HF := H
    exact Or.inr (⟨h2, ⟨e1, vK6, MK6, rfl, K6, HF⟩⟩)
theorem rlq5_31 {e : Nat} {M M' : Mem} {v : Option Value} {i : Int32} {c3 : Option Value} (hS : SQ M) (H : Ev none e 170 31 [some (.ref 633), some (.int i), some (.int 5), c3] [] M v M' 0 0) : (∃ e1 v1 M1, e = e1 + 1 ∧ Ev none e1 167 0 [some (.ref 633), some (.int 0), some (.int 99)] [] M v1 M1 0 0 ∧ Ev none e 170 75 [some (.ref 633), some (.int i), some (.int 5), c3] (v1.toList ++ []) M1 v M' 0 0) := by
  have H : Ev none e 170 (if 5 = 6 then 90 else 37) [some (.ref 633), some (.int i), some (.int 5), c3] [] M v M' 0 0 := Ev.back 3 (fun n => rfl) H
  rw [if_neg (by decide)] at H
  have H : Ev none e 170 (if 5 = 2 then 43 else 47) [some (.ref 633), some (.int i), some (.int 5), c3] [.ref 633] M v M' 0 0 := Ev.back 4 (fun n => rfl) H
  rw [if_neg (by decide)] at H
  have H : Ev none e 170 (if 5 = 5 then 53 else 58) [some (.ref 633), some (.int i), some (.int 5), c3] [.int 0, .ref 633] M v M' 0 0 := Ev.back 4 (fun n => rfl) H
  rw [if_pos (by decide)] at H
  have H : Ev none e 170 72 [some (.ref 633), some (.int i), some (.int 5), c3] [.int 99, .int 0, .ref 633] M v M' 0 0 := Ev.back 2 (fun n => rfl) H
  obtain ⟨e1, rfl⟩ := Ev.dpos rfl rfl H
  obtain ⟨vK1, MK1, K1, H⟩ := Ev.callb (fun n => gs_7 rfl rfl (show gCal (.invokevirtual 240) 11 (.int 99 :: .int 0 :: .ref 633 :: []) M = some (.inr (167, [some (.ref 633), some (.int 0), some (.int 99)], [])) from by show @cond (Option ((List Value × Mem) ⊕ (Nat × Lo × List Value))) (true && gRecv M (.ref 633) 11 && gRoom [] && true) (some (.inr (167, [some (.ref 633), some (.int 0), some (.int 99)], []))) none = _; rw [recv_s hS.1 qa_633 qo_61]; rfl)) H
  have K1 : Ev none e1 167 0 [some (.ref 633), some (.int 0), some (.int 99)] [] M vK1 MK1 0 0 := K1
  have HF := H
  exact ⟨e1, vK1, MK1, rfl, K1, HF⟩
theorem rlq5_75 {e : Nat} {M M' : Mem} {v : Option Value} {i y : Int32} {c3 : Option Value} (hS : SQ M) (H : Ev none e 170 75 [some (.ref 633), some (.int i), some (.int 5), c3] [.int y] M v M' 0 0) : (y = 0 ∧ v = some (.int 0) ∧ M' = M) ∨ (¬ (y = 0) ∧ (G_164 (wI (wI M 642 i.toNatClampNeg (zI M 633 32)) 643 i.toNatClampNeg (zI M 633 19)) 26982) = 0 ∧ (0 ≤ i.toInt ∧ i.toInt < 128) ∧ (0 ≤ i.toInt ∧ i.toInt < 128) ∧ (0 ≤ i.toInt ∧ i.toInt < 128) ∧ v = some (.int 1) ∧ M' = (wI (wI (wI M 642 i.toNatClampNeg (zI M 633 32)) 643 i.toNatClampNeg (zI M 633 19)) 644 i.toNatClampNeg (zI M 633 19))) ∨ (¬ (y = 0) ∧ ¬ ((G_164 (wI (wI M 642 i.toNatClampNeg (zI M 633 32)) 643 i.toNatClampNeg (zI M 633 19)) 26982) = 0) ∧ (0 ≤ i.toInt ∧ i.toInt < 128) ∧ (0 ≤ i.toInt ∧ i.toInt < 128) ∧ (∃ e1 v1 M1, e = e1 + 1 ∧ Ev none e1 162 0 [some (.ref 633), none, none, none] [] (wI (wI M 642 i.toNatClampNeg (zI M 633 32)) 643 i.toNatClampNeg (zI M 633 19)) v1 M1 0 0 ∧ Ev none e 170 140 [some (.ref 633), some (.int i), some (.int 5), some (.int 0)] (v1.toList ++ []) M1 v M' 0 0)) := by
  have H : Ev none e 170 (if y = 0 then 78 else 80) [some (.ref 633), some (.int i), some (.int 5), c3] [] M v M' 0 0 := Ev.back 1 (fun n => rfl) H
  by_cases h1 : y = 0
  · rw [if_pos h1] at H
    have H : Ev none e 170 79 [some (.ref 633), some (.int i), some (.int 5), c3] [.int 0] M v M' 0 0 := Ev.back 1 (fun n => rfl) H
    obtain ⟨z1, z2⟩ := Ev.retz rfl rfl H
    exact Or.inl ⟨h1, z1, z2⟩
  · rw [if_neg h1] at H
    have H : Ev none e 170 81 [some (.ref 633), some (.int i), some (.int 5), c3] [.ref 633] M v M' 0 0 := Ev.back 1 (fun n => rfl) H
    have H : Ev none e 170 84 [some (.ref 633), some (.int i), some (.int 5), c3] [.ref 642] M v M' 0 0 := Ev.back 1 (gs_3 rfl rfl (gf_u hS.1 qa_633 qr_61_12 qu_70 rfl)) H
    have H : Ev none e 170 86 [some (.ref 633), some (.int i), some (.int 5), c3] [.ref 633, .int i, .ref 642] M v M' 0 0 := Ev.back 2 (fun n => rfl) H
    have H : Ev none e 170 89 [some (.ref 633), some (.int i), some (.int 5), c3] [.int (zI M 633 32), .int i, .ref 642] M v M' 0 0 := Ev.back 1 (gs_3 rfl rfl (gf_i hS.1 qa_633 qi_61_32 rfl)) H
    obtain ⟨b2, H⟩ := Ev.ias rfl rfl hS.1 qa_642 qw_70 H
    obtain ⟨N3, eN3⟩ : ∃ N, N = (wI M 642 i.toNatClampNeg (zI M 633 32)) := ⟨_, rfl⟩
    have hN3 : SQ N3 := by rw [eN3]; exact hS.ki
    have H : Ev none e 170 90 [some (.ref 633), some (.int i), some (.int 5), c3] [] N3 v M' 0 0 := by rw [eN3]; exact H
    have H : Ev none e 170 91 [some (.ref 633), some (.int i), some (.int 5), c3] [.ref 633] N3 v M' 0 0 := Ev.back 1 (fun n => rfl) H
    have H : Ev none e 170 94 [some (.ref 633), some (.int i), some (.int 5), c3] [.ref 643] N3 v M' 0 0 := Ev.back 1 (gs_3 rfl rfl (gf_u hN3.1 qa_633 qr_61_13 qu_71 rfl)) H
    have H : Ev none e 170 96 [some (.ref 633), some (.int i), some (.int 5), c3] [.ref 633, .int i, .ref 643] N3 v M' 0 0 := Ev.back 2 (fun n => rfl) H
    have H : Ev none e 170 99 [some (.ref 633), some (.int i), some (.int 5), c3] [.int (zI N3 633 19), .int i, .ref 643] N3 v M' 0 0 := Ev.back 1 (gs_3 rfl rfl (gf_i hN3.1 qa_633 qi_61_19 rfl)) H
    rw [show zI N3 633 19 = zI M 633 19 from by rw [eN3]; exact fI_wI] at H
    obtain ⟨b4, H⟩ := Ev.ias rfl rfl hN3.1 qa_643 qw_71 H
    obtain ⟨N5, eN5⟩ : ∃ N, N = (wI N3 643 i.toNatClampNeg (zI M 633 19)) := ⟨_, rfl⟩
    have hN5 : SQ N5 := by rw [eN5]; exact hN3.ki
    have H : Ev none e 170 100 [some (.ref 633), some (.int i), some (.int 5), c3] [] N5 v M' 0 0 := by rw [eN5]; exact H
    have H : Ev none e 170 (if 5 = 6 then 106 else 110) [some (.ref 633), some (.int i), some (.int 5), c3] [] N5 v M' 0 0 := Ev.back 3 (fun n => rfl) H
    rw [if_neg (by decide)] at H
    have H : Ev none e 170 (if 5 = 0 then 126 else 116) [some (.ref 633), some (.int i), some (.int 5), some (.int 0)] [] N5 v M' 0 0 := Ev.back 4 (fun n => rfl) H
    rw [if_neg (by decide)] at H
    have H : Ev none e 170 (if 5 = 1 then 126 else 121) [some (.ref 633), some (.int i), some (.int 5), some (.int 0)] [] N5 v M' 0 0 := Ev.back 3 (fun n => rfl) H
    rw [if_neg (by decide)] at H
    have H : Ev none e 170 (if 5 = 5 then 126 else 142) [some (.ref 633), some (.int i), some (.int 5), some (.int 0)] [] N5 v M' 0 0 := Ev.back 3 (fun n => rfl) H
    rw [if_pos (by decide)] at H
    have H : Ev none e 170 130 [some (.ref 633), some (.int i), some (.int 5), some (.int 0)] [.long 26982, .ref 633] N5 v M' 0 0 := Ev.back 2 (fun n => rfl) H
    obtain ⟨e1, rfl⟩ := Ev.dpos rfl rfl H
    obtain ⟨vK6, MK6, K6, H⟩ := Ev.callb (fun n => gs_7 rfl rfl (show gCal (.invokevirtual 248) 11 (.long 26982 :: .ref 633 :: []) N5 = some (.inr (164, [some (.ref 633), some (.long 26982), none], [])) from by show @cond (Option ((List Value × Mem) ⊕ (Nat × Lo × List Value))) (true && gRecv N5 (.ref 633) 11 && gRoom [] && true) (some (.inr (164, [some (.ref 633), some (.long 26982), none], []))) none = _; rw [recv_s hN5.1 qa_633 qo_61]; rfl)) H
    obtain ⟨pK6, qK6⟩ := g_164 hN5 K6
    rw [pK6, qK6] at H
    have H : Ev none (e1 + 1) 170 133 [some (.ref 633), some (.int i), some (.int 5), some (.int 0)] [.int (G_164 N5 26982)] N5 v M' 0 0 := H
    have H : Ev none (e1 + 1) 170 (if (G_164 N5 26982) = 0 then 142 else 136) [some (.ref 633), some (.int i), some (.int 5), some (.int 0)] [] N5 v M' 0 0 := Ev.back 1 (fun n => rfl) H
    by_cases h7 : (G_164 N5 26982) = 0
    · rw [if_pos h7] at H
      have H : Ev none (e1 + 1) 170 (if 0 = 0 then 155 else 146) [some (.ref 633), some (.int i), some (.int 5), some (.int 0)] [] N5 v M' 0 0 := Ev.back 2 (fun n => rfl) H
      rw [if_pos (by decide)] at H
      have H : Ev none (e1 + 1) 170 156 [some (.ref 633), some (.int i), some (.int 5), some (.int 0)] [.ref 633] N5 v M' 0 0 := Ev.back 1 (fun n => rfl) H
      have H : Ev none (e1 + 1) 170 159 [some (.ref 633), some (.int i), some (.int 5), some (.int 0)] [.ref 644] N5 v M' 0 0 := Ev.back 1 (gs_3 rfl rfl (gf_u hN5.1 qa_633 qr_61_14 qu_72 rfl)) H
      have H : Ev none (e1 + 1) 170 161 [some (.ref 633), some (.int i), some (.int 5), some (.int 0)] [.ref 633, .int i, .ref 644] N5 v M' 0 0 := Ev.back 2 (fun n => rfl) H
      have H : Ev none (e1 + 1) 170 164 [some (.ref 633), some (.int i), some (.int 5), some (.int 0)] [.int (zI N5 633 19), .int i, .ref 644] N5 v M' 0 0 := Ev.back 1 (gs_3 rfl rfl (gf_i hN5.1 qa_633 qi_61_19 rfl)) H
      rw [(show zI N5 633 19 = zI N3 633 19 from by rw [eN5]; exact fI_wI).trans (show zI N3 633 19 = zI M 633 19 from by rw [eN3]; exact fI_wI)] at H
      obtain ⟨b8, H⟩ := Ev.ias rfl rfl hN5.1 qa_644 qw_72 H
      obtain ⟨N9, eN9⟩ : ∃ N, N = (wI N5 644 i.toNatClampNeg (zI M 633 19)) := ⟨_, rfl⟩
      have hN9 : SQ N9 := by rw [eN9]; exact hN5.ki
      have H : Ev none (e1 + 1) 170 165 [some (.ref 633), some (.int i), some (.int 5), some (.int 0)] [] N9 v M' 0 0 := by rw [eN9]; exact H
      have H : Ev none (e1 + 1) 170 166 [some (.ref 633), some (.int i), some (.int 5), some (.int 0)] [.int 1] N9 v M' 0 0 := Ev.back 1 (fun n => rfl) H
      obtain ⟨z1, z2⟩ := Ev.retz rfl rfl H
      subst eN3 eN5 eN9
      exact Or.inr (Or.inl ⟨h1, h7, b2, b4, b8, z1, z2⟩)
    · rw [if_neg h7] at H
      have H : Ev none (e1 + 1) 170 137 [some (.ref 633), some (.int i), some (.int 5), some (.int 0)] [.ref 633] N5 v M' 0 0 := Ev.back 1 (fun n => rfl) H
      obtain ⟨vK10, MK10, K10, H⟩ := Ev.callb (fun n => gs_7 rfl rfl (show gCal (.invokevirtual 201) 11 (.ref 633 :: []) N5 = some (.inr (162, [some (.ref 633), none, none, none], [])) from by show @cond (Option ((List Value × Mem) ⊕ (Nat × Lo × List Value))) (true && gRecv N5 (.ref 633) 11 && gRoom [] && true) (some (.inr (162, [some (.ref 633), none, none, none], []))) none = _; rw [recv_s hN5.1 qa_633 qo_61]; rfl)) H
      have K10 : Ev none e1 162 0 [some (.ref 633), none, none, none] [] N5 vK10 MK10 0 0 := K10
      have HF := H
      subst eN3 eN5
      exact Or.inr (Or.inr (⟨h1, h7, b2, b4, ⟨e1, vK10, MK10, rfl, K10, HF⟩⟩))
theorem rlq5_140 {e : Nat} {M M' : Mem} {v : Option Value} {i : Int32} {c3 : Option Value} (hS : SQ M) (H : Ev none e 170 140 [some (.ref 633), some (.int i), some (.int 5), c3] [] M v M' 0 0) : (∃ e1 v1 M1, e = e1 + 1 ∧ Ev none e1 179 0 [some (.ref 633), none] [] M v1 M1 0 0 ∧ Ev none e 170 150 [some (.ref 633), some (.int i), some (.int 5), some (.int 1)] (v1.toList ++ []) M1 v M' 0 0) := by
  have H : Ev none e 170 (if 1 = 0 then 155 else 146) [some (.ref 633), some (.int i), some (.int 5), some (.int 1)] [] M v M' 0 0 := Ev.back 4 (fun n => rfl) H
  rw [if_neg (by decide)] at H
  have H : Ev none e 170 147 [some (.ref 633), some (.int i), some (.int 5), some (.int 1)] [.ref 633] M v M' 0 0 := Ev.back 1 (fun n => rfl) H
  obtain ⟨e1, rfl⟩ := Ev.dpos rfl rfl H
  obtain ⟨vK1, MK1, K1, H⟩ := Ev.callb (fun n => gs_7 rfl rfl (show gCal (.invokevirtual 252) 11 (.ref 633 :: []) M = some (.inr (179, [some (.ref 633), none], [])) from by show @cond (Option ((List Value × Mem) ⊕ (Nat × Lo × List Value))) (true && gRecv M (.ref 633) 11 && gRoom [] && true) (some (.inr (179, [some (.ref 633), none], []))) none = _; rw [recv_s hS.1 qa_633 qo_61]; rfl)) H
  have K1 : Ev none e1 179 0 [some (.ref 633), none] [] M vK1 MK1 0 0 := K1
  have HF := H
  exact ⟨e1, vK1, MK1, rfl, K1, HF⟩
theorem rlq5_150 {e : Nat} {M M' : Mem} {v : Option Value} {i y : Int32} {c3 : Option Value} (hS : SQ M) (H : Ev none e 170 150 [some (.ref 633), some (.int i), some (.int 5), c3] [.int y] M v M' 0 0) : (y = 0 ∧ v = some (.int 0) ∧ M' = M) ∨ (¬ (y = 0) ∧ (0 ≤ i.toInt ∧ i.toInt < 128) ∧ v = some (.int 1) ∧ M' = (wI M 644 i.toNatClampNeg (zI M 633 19))) := by
  have H : Ev none e 170 (if y = 0 then 153 else 155) [some (.ref 633), some (.int i), some (.int 5), c3] [] M v M' 0 0 := Ev.back 1 (fun n => rfl) H
  by_cases h1 : y = 0
  · rw [if_pos h1] at H
    have H : Ev none e 170 154 [some (.ref 633), some (.int i), some (.int 5), c3] [.int 0] M v M' 0 0 := Ev.back 1 (fun n => rfl) H
    obtain ⟨z1, z2⟩ := Ev.retz rfl rfl H
    exact Or.inl ⟨h1, z1, z2⟩
  · rw [if_neg h1] at H
    have H : Ev none e 170 156 [some (.ref 633), some (.int i), some (.int 5), c3] [.ref 633] M v M' 0 0 := Ev.back 1 (fun n => rfl) H
    have H : Ev none e 170 159 [some (.ref 633), some (.int i), some (.int 5), c3] [.ref 644] M v M' 0 0 := Ev.back 1 (gs_3 rfl rfl (gf_u hS.1 qa_633 qr_61_14 qu_72 rfl)) H
    have H : Ev none e 170 161 [some (.ref 633), some (.int i), some (.int 5), c3] [.ref 633, .int i, .ref 644] M v M' 0 0 := Ev.back 2 (fun n => rfl) H
    have H : Ev none e 170 164 [some (.ref 633), some (.int i), some (.int 5), c3] [.int (zI M 633 19), .int i, .ref 644] M v M' 0 0 := Ev.back 1 (gs_3 rfl rfl (gf_i hS.1 qa_633 qi_61_19 rfl)) H
    obtain ⟨b2, H⟩ := Ev.ias rfl rfl hS.1 qa_644 qw_72 H
    obtain ⟨N3, eN3⟩ : ∃ N, N = (wI M 644 i.toNatClampNeg (zI M 633 19)) := ⟨_, rfl⟩
    have hN3 : SQ N3 := by rw [eN3]; exact hS.ki
    have H : Ev none e 170 165 [some (.ref 633), some (.int i), some (.int 5), c3] [] N3 v M' 0 0 := by rw [eN3]; exact H
    have H : Ev none e 170 166 [some (.ref 633), some (.int i), some (.int 5), c3] [.int 1] N3 v M' 0 0 := Ev.back 1 (fun n => rfl) H
    obtain ⟨z1, z2⟩ := Ev.retz rfl rfl H
    subst eN3
    exact Or.inr (⟨h1, b2, z1, z2⟩)
theorem rlq6_0 {e : Nat} {M M' : Mem} {v : Option Value} {i : Int32} (hS : SQ M) (H : Ev none e 170 0 [some (.ref 633), some (.int i), some (.int 6), none] [] M v M' 0 0) : (0 ≤ i.toInt ∧ i.toInt < 128) ∧ (∃ e1 v1 M1, e = e1 + 1 ∧ Ev none e1 179 0 [some (.ref 633), none] [] (wI M 643 i.toNatClampNeg (zI M 633 19)) v1 M1 0 0 ∧ Ev none e 170 150 [some (.ref 633), some (.int i), some (.int 6), some (.int 1)] (v1.toList ++ []) M1 v M' 0 0) := by
  have H : Ev none e 170 (if 6 = 5 then 5 else 31) [some (.ref 633), some (.int i), some (.int 6), none] [] M v M' 0 0 := Ev.back 3 (fun n => rfl) H
  rw [if_neg (by decide)] at H
  have H : Ev none e 170 (if 6 = 6 then 90 else 37) [some (.ref 633), some (.int i), some (.int 6), none] [] M v M' 0 0 := Ev.back 3 (fun n => rfl) H
  rw [if_pos (by decide)] at H
  have H : Ev none e 170 91 [some (.ref 633), some (.int i), some (.int 6), none] [.ref 633] M v M' 0 0 := Ev.back 1 (fun n => rfl) H
  have H : Ev none e 170 94 [some (.ref 633), some (.int i), some (.int 6), none] [.ref 643] M v M' 0 0 := Ev.back 1 (gs_3 rfl rfl (gf_u hS.1 qa_633 qr_61_13 qu_71 rfl)) H
  have H : Ev none e 170 96 [some (.ref 633), some (.int i), some (.int 6), none] [.ref 633, .int i, .ref 643] M v M' 0 0 := Ev.back 2 (fun n => rfl) H
  have H : Ev none e 170 99 [some (.ref 633), some (.int i), some (.int 6), none] [.int (zI M 633 19), .int i, .ref 643] M v M' 0 0 := Ev.back 1 (gs_3 rfl rfl (gf_i hS.1 qa_633 qi_61_19 rfl)) H
  obtain ⟨b1, H⟩ := Ev.ias rfl rfl hS.1 qa_643 qw_71 H
  obtain ⟨N2, eN2⟩ : ∃ N, N = (wI M 643 i.toNatClampNeg (zI M 633 19)) := ⟨_, rfl⟩
  have hN2 : SQ N2 := by rw [eN2]; exact hS.ki
  have H : Ev none e 170 100 [some (.ref 633), some (.int i), some (.int 6), none] [] N2 v M' 0 0 := by rw [eN2]; exact H
  have H : Ev none e 170 (if 6 = 6 then 106 else 110) [some (.ref 633), some (.int i), some (.int 6), none] [] N2 v M' 0 0 := Ev.back 3 (fun n => rfl) H
  rw [if_pos (by decide)] at H
  have H : Ev none e 170 (if 6 = 0 then 126 else 116) [some (.ref 633), some (.int i), some (.int 6), some (.int 1)] [] N2 v M' 0 0 := Ev.back 5 (fun n => rfl) H
  rw [if_neg (by decide)] at H
  have H : Ev none e 170 (if 6 = 1 then 126 else 121) [some (.ref 633), some (.int i), some (.int 6), some (.int 1)] [] N2 v M' 0 0 := Ev.back 3 (fun n => rfl) H
  rw [if_neg (by decide)] at H
  have H : Ev none e 170 (if 6 = 5 then 126 else 142) [some (.ref 633), some (.int i), some (.int 6), some (.int 1)] [] N2 v M' 0 0 := Ev.back 3 (fun n => rfl) H
  rw [if_neg (by decide)] at H
  have H : Ev none e 170 (if 1 = 0 then 155 else 146) [some (.ref 633), some (.int i), some (.int 6), some (.int 1)] [] N2 v M' 0 0 := Ev.back 2 (fun n => rfl) H
  rw [if_neg (by decide)] at H
  have H : Ev none e 170 147 [some (.ref 633), some (.int i), some (.int 6), some (.int 1)] [.ref 633] N2 v M' 0 0 := Ev.back 1 (fun n => rfl) H
  obtain ⟨e1, rfl⟩ := Ev.dpos rfl rfl H
  obtain ⟨vK3, MK3, K3, H⟩ := Ev.callb (fun n => gs_7 rfl rfl (show gCal (.invokevirtual 252) 11 (.ref 633 :: []) N2 = some (.inr (179, [some (.ref 633), none], [])) from by show @cond (Option ((List Value × Mem) ⊕ (Nat × Lo × List Value))) (true && gRecv N2 (.ref 633) 11 && gRoom [] && true) (some (.inr (179, [some (.ref 633), none], []))) none = _; rw [recv_s hN2.1 qa_633 qo_61]; rfl)) H
  have K3 : Ev none e1 179 0 [some (.ref 633), none] [] N2 vK3 MK3 0 0 := K3
  have HF := H
  subst eN2
  exact ⟨b1, ⟨e1, vK3, MK3, rfl, K3, HF⟩⟩
theorem rlq6_150 {e : Nat} {M M' : Mem} {v : Option Value} {i y : Int32} {c3 : Option Value} (hS : SQ M) (H : Ev none e 170 150 [some (.ref 633), some (.int i), some (.int 6), c3] [.int y] M v M' 0 0) : (y = 0 ∧ v = some (.int 0) ∧ M' = M) ∨ (¬ (y = 0) ∧ (0 ≤ i.toInt ∧ i.toInt < 128) ∧ v = some (.int 1) ∧ M' = (wI M 644 i.toNatClampNeg (zI M 633 19))) := by
  have H : Ev none e 170 (if y = 0 then 153 else 155) [some (.ref 633), some (.int i), some (.int 6), c3] [] M v M' 0 0 := Ev.back 1 (fun n => rfl) H
  by_cases h1 : y = 0
  · rw [if_pos h1] at H
    have H : Ev none e 170 154 [some (.ref 633), some (.int i), some (.int 6), c3] [.int 0] M v M' 0 0 := Ev.back 1 (fun n => rfl) H
    obtain ⟨z1, z2⟩ := Ev.retz rfl rfl H
    exact Or.inl ⟨h1, z1, z2⟩
  · rw [if_neg h1] at H
    have H : Ev none e 170 156 [some (.ref 633), some (.int i), some (.int 6), c3] [.ref 633] M v M' 0 0 := Ev.back 1 (fun n => rfl) H
    have H : Ev none e 170 159 [some (.ref 633), some (.int i), some (.int 6), c3] [.ref 644] M v M' 0 0 := Ev.back 1 (gs_3 rfl rfl (gf_u hS.1 qa_633 qr_61_14 qu_72 rfl)) H
    have H : Ev none e 170 161 [some (.ref 633), some (.int i), some (.int 6), c3] [.ref 633, .int i, .ref 644] M v M' 0 0 := Ev.back 2 (fun n => rfl) H
    have H : Ev none e 170 164 [some (.ref 633), some (.int i), some (.int 6), c3] [.int (zI M 633 19), .int i, .ref 644] M v M' 0 0 := Ev.back 1 (gs_3 rfl rfl (gf_i hS.1 qa_633 qi_61_19 rfl)) H
    obtain ⟨b2, H⟩ := Ev.ias rfl rfl hS.1 qa_644 qw_72 H
    obtain ⟨N3, eN3⟩ : ∃ N, N = (wI M 644 i.toNatClampNeg (zI M 633 19)) := ⟨_, rfl⟩
    have hN3 : SQ N3 := by rw [eN3]; exact hS.ki
    have H : Ev none e 170 165 [some (.ref 633), some (.int i), some (.int 6), c3] [] N3 v M' 0 0 := by rw [eN3]; exact H
    have H : Ev none e 170 166 [some (.ref 633), some (.int i), some (.int 6), c3] [.int 1] N3 v M' 0 0 := Ev.back 1 (fun n => rfl) H
    obtain ⟨z1, z2⟩ := Ev.retz rfl rfl H
    subst eN3
    exact Or.inr (⟨h1, b2, z1, z2⟩)
theorem rlq7_0 {e : Nat} {M M' : Mem} {v : Option Value} {i : Int32} (hS : SQ M) (H : Ev none e 170 0 [some (.ref 633), some (.int i), some (.int 7), none] [] M v M' 0 0) : (∃ e1 v1 M1, e = e1 + 1 ∧ Ev none e1 167 0 [some (.ref 633), some (.int 0), some (.int 9)] [] M v1 M1 0 0 ∧ Ev none e 170 75 [some (.ref 633), some (.int i), some (.int 7), none] (v1.toList ++ []) M1 v M' 0 0) := by
  have H : Ev none e 170 (if 7 = 5 then 5 else 31) [some (.ref 633), some (.int i), some (.int 7), none] [] M v M' 0 0 := Ev.back 3 (fun n => rfl) H
  rw [if_neg (by decide)] at H
  have H : Ev none e 170 (if 7 = 6 then 90 else 37) [some (.ref 633), some (.int i), some (.int 7), none] [] M v M' 0 0 := Ev.back 3 (fun n => rfl) H
  rw [if_neg (by decide)] at H
  have H : Ev none e 170 (if 7 = 2 then 43 else 47) [some (.ref 633), some (.int i), some (.int 7), none] [.ref 633] M v M' 0 0 := Ev.back 4 (fun n => rfl) H
  rw [if_neg (by decide)] at H
  have H : Ev none e 170 (if 7 = 5 then 53 else 58) [some (.ref 633), some (.int i), some (.int 7), none] [.int 0, .ref 633] M v M' 0 0 := Ev.back 4 (fun n => rfl) H
  rw [if_neg (by decide)] at H
  have H : Ev none e 170 (if 7 = 7 then 64 else 69) [some (.ref 633), some (.int i), some (.int 7), none] [.int 0, .ref 633] M v M' 0 0 := Ev.back 3 (fun n => rfl) H
  rw [if_pos (by decide)] at H
  have H : Ev none e 170 72 [some (.ref 633), some (.int i), some (.int 7), none] [.int 9, .int 0, .ref 633] M v M' 0 0 := Ev.back 2 (fun n => rfl) H
  obtain ⟨e1, rfl⟩ := Ev.dpos rfl rfl H
  obtain ⟨vK1, MK1, K1, H⟩ := Ev.callb (fun n => gs_7 rfl rfl (show gCal (.invokevirtual 240) 11 (.int 9 :: .int 0 :: .ref 633 :: []) M = some (.inr (167, [some (.ref 633), some (.int 0), some (.int 9)], [])) from by show @cond (Option ((List Value × Mem) ⊕ (Nat × Lo × List Value))) (true && gRecv M (.ref 633) 11 && gRoom [] && true) (some (.inr (167, [some (.ref 633), some (.int 0), some (.int 9)], []))) none = _; rw [recv_s hS.1 qa_633 qo_61]; rfl)) H
  have K1 : Ev none e1 167 0 [some (.ref 633), some (.int 0), some (.int 9)] [] M vK1 MK1 0 0 := K1
  have HF := H
  exact ⟨e1, vK1, MK1, rfl, K1, HF⟩
theorem rlq7_75 {e : Nat} {M M' : Mem} {v : Option Value} {i y : Int32} {c3 : Option Value} (hS : SQ M) (H : Ev none e 170 75 [some (.ref 633), some (.int i), some (.int 7), c3] [.int y] M v M' 0 0) : (y = 0 ∧ v = some (.int 0) ∧ M' = M) ∨ (¬ (y = 0) ∧ (0 ≤ i.toInt ∧ i.toInt < 128) ∧ (0 ≤ i.toInt ∧ i.toInt < 128) ∧ (0 ≤ i.toInt ∧ i.toInt < 128) ∧ v = some (.int 1) ∧ M' = (wI (wI (wI M 642 i.toNatClampNeg (zI M 633 32)) 643 i.toNatClampNeg (zI M 633 19)) 644 i.toNatClampNeg (zI M 633 19))) := by
  have H : Ev none e 170 (if y = 0 then 78 else 80) [some (.ref 633), some (.int i), some (.int 7), c3] [] M v M' 0 0 := Ev.back 1 (fun n => rfl) H
  by_cases h1 : y = 0
  · rw [if_pos h1] at H
    have H : Ev none e 170 79 [some (.ref 633), some (.int i), some (.int 7), c3] [.int 0] M v M' 0 0 := Ev.back 1 (fun n => rfl) H
    obtain ⟨z1, z2⟩ := Ev.retz rfl rfl H
    exact Or.inl ⟨h1, z1, z2⟩
  · rw [if_neg h1] at H
    have H : Ev none e 170 81 [some (.ref 633), some (.int i), some (.int 7), c3] [.ref 633] M v M' 0 0 := Ev.back 1 (fun n => rfl) H
    have H : Ev none e 170 84 [some (.ref 633), some (.int i), some (.int 7), c3] [.ref 642] M v M' 0 0 := Ev.back 1 (gs_3 rfl rfl (gf_u hS.1 qa_633 qr_61_12 qu_70 rfl)) H
    have H : Ev none e 170 86 [some (.ref 633), some (.int i), some (.int 7), c3] [.ref 633, .int i, .ref 642] M v M' 0 0 := Ev.back 2 (fun n => rfl) H
    have H : Ev none e 170 89 [some (.ref 633), some (.int i), some (.int 7), c3] [.int (zI M 633 32), .int i, .ref 642] M v M' 0 0 := Ev.back 1 (gs_3 rfl rfl (gf_i hS.1 qa_633 qi_61_32 rfl)) H
    obtain ⟨b2, H⟩ := Ev.ias rfl rfl hS.1 qa_642 qw_70 H
    obtain ⟨N3, eN3⟩ : ∃ N, N = (wI M 642 i.toNatClampNeg (zI M 633 32)) := ⟨_, rfl⟩
    have hN3 : SQ N3 := by rw [eN3]; exact hS.ki
    have H : Ev none e 170 90 [some (.ref 633), some (.int i), some (.int 7), c3] [] N3 v M' 0 0 := by rw [eN3]; exact H
    have H : Ev none e 170 91 [some (.ref 633), some (.int i), some (.int 7), c3] [.ref 633] N3 v M' 0 0 := Ev.back 1 (fun n => rfl) H
    have H : Ev none e 170 94 [some (.ref 633), some (.int i), some (.int 7), c3] [.ref 643] N3 v M' 0 0 := Ev.back 1 (gs_3 rfl rfl (gf_u hN3.1 qa_633 qr_61_13 qu_71 rfl)) H
    have H : Ev none e 170 96 [some (.ref 633), some (.int i), some (.int 7), c3] [.ref 633, .int i, .ref 643] N3 v M' 0 0 := Ev.back 2 (fun n => rfl) H
    have H : Ev none e 170 99 [some (.ref 633), some (.int i), some (.int 7), c3] [.int (zI N3 633 19), .int i, .ref 643] N3 v M' 0 0 := Ev.back 1 (gs_3 rfl rfl (gf_i hN3.1 qa_633 qi_61_19 rfl)) H
    rw [show zI N3 633 19 = zI M 633 19 from by rw [eN3]; exact fI_wI] at H
    obtain ⟨b4, H⟩ := Ev.ias rfl rfl hN3.1 qa_643 qw_71 H
    obtain ⟨N5, eN5⟩ : ∃ N, N = (wI N3 643 i.toNatClampNeg (zI M 633 19)) := ⟨_, rfl⟩
    have hN5 : SQ N5 := by rw [eN5]; exact hN3.ki
    have H : Ev none e 170 100 [some (.ref 633), some (.int i), some (.int 7), c3] [] N5 v M' 0 0 := by rw [eN5]; exact H
    have H : Ev none e 170 (if 7 = 6 then 106 else 110) [some (.ref 633), some (.int i), some (.int 7), c3] [] N5 v M' 0 0 := Ev.back 3 (fun n => rfl) H
    rw [if_neg (by decide)] at H
    have H : Ev none e 170 (if 7 = 0 then 126 else 116) [some (.ref 633), some (.int i), some (.int 7), some (.int 0)] [] N5 v M' 0 0 := Ev.back 4 (fun n => rfl) H
    rw [if_neg (by decide)] at H
    have H : Ev none e 170 (if 7 = 1 then 126 else 121) [some (.ref 633), some (.int i), some (.int 7), some (.int 0)] [] N5 v M' 0 0 := Ev.back 3 (fun n => rfl) H
    rw [if_neg (by decide)] at H
    have H : Ev none e 170 (if 7 = 5 then 126 else 142) [some (.ref 633), some (.int i), some (.int 7), some (.int 0)] [] N5 v M' 0 0 := Ev.back 3 (fun n => rfl) H
    rw [if_neg (by decide)] at H
    have H : Ev none e 170 (if 0 = 0 then 155 else 146) [some (.ref 633), some (.int i), some (.int 7), some (.int 0)] [] N5 v M' 0 0 := Ev.back 2 (fun n => rfl) H
    rw [if_pos (by decide)] at H
    have H : Ev none e 170 156 [some (.ref 633), some (.int i), some (.int 7), some (.int 0)] [.ref 633] N5 v M' 0 0 := Ev.back 1 (fun n => rfl) H
    have H : Ev none e 170 159 [some (.ref 633), some (.int i), some (.int 7), some (.int 0)] [.ref 644] N5 v M' 0 0 := Ev.back 1 (gs_3 rfl rfl (gf_u hN5.1 qa_633 qr_61_14 qu_72 rfl)) H
    have H : Ev none e 170 161 [some (.ref 633), some (.int i), some (.int 7), some (.int 0)] [.ref 633, .int i, .ref 644] N5 v M' 0 0 := Ev.back 2 (fun n => rfl) H
    have H : Ev none e 170 164 [some (.ref 633), some (.int i), some (.int 7), some (.int 0)] [.int (zI N5 633 19), .int i, .ref 644] N5 v M' 0 0 := Ev.back 1 (gs_3 rfl rfl (gf_i hN5.1 qa_633 qi_61_19 rfl)) H
    rw [(show zI N5 633 19 = zI N3 633 19 from by rw [eN5]; exact fI_wI).trans (show zI N3 633 19 = zI M 633 19 from by rw [eN3]; exact fI_wI)] at H
    obtain ⟨b6, H⟩ := Ev.ias rfl rfl hN5.1 qa_644 qw_72 H
    obtain ⟨N7, eN7⟩ : ∃ N, N = (wI N5 644 i.toNatClampNeg (zI M 633 19)) := ⟨_, rfl⟩
    have hN7 : SQ N7 := by rw [eN7]; exact hN5.ki
    have H : Ev none e 170 165 [some (.ref 633), some (.int i), some (.int 7), some (.int 0)] [] N7 v M' 0 0 := by rw [eN7]; exact H
    have H : Ev none e 170 166 [some (.ref 633), some (.int i), some (.int 7), some (.int 0)] [.int 1] N7 v M' 0 0 := Ev.back 1 (fun n => rfl) H
    obtain ⟨z1, z2⟩ := Ev.retz rfl rfl H
    subst eN3 eN5 eN7
    exact Or.inr (⟨h1, b2, b4, b6, z1, z2⟩)
theorem rlq5_19 {e : Nat} {M M' : Mem} {v : Option Value} {i y : Int32} {c2 c3 : Option Value} (hS : SQ M) (H : Ev none e 170 19 [some (.ref 633), some (.int i), c2, c3] [.int y] M v M' 0 0) : v = some (.int y) ∧ M' = M := by
  obtain ⟨z1, z2⟩ := Ev.retz rfl rfl H
  exact ⟨z1, z2⟩
theorem rdq_0 {e : Nat} {M M' : Mem} {v : Option Value} {l : Int32} {c2 c3 c4 : Option Value} (hS : SQ M) (H : Ev none e 169 0 [some (.ref 633), some (.int l), c2, c3, c4] [] M v M' 0 0) : ((zI M 633 22) = 0 ∧ v = some (.int 1) ∧ M' = M) ∨ (¬ ((zI M 633 22) = 0) ∧ 0 ≤ (G_168 M l) ∧ (G_140 M (G_168 M l) 2 4) = 0 ∧ (G_168 M l) = 7 ∧ (∃ e1 v1 M1, e = e1 + 1 ∧ Ev none e1 172 0 [some (.ref 633), some (.int 7), some (.int (G_168 M l)), none] [] M v1 M1 0 0 ∧ Ev none e 169 45 [some (.ref 633), some (.int l), some (.int (G_168 M l)), c3, c4] (v1.toList ++ []) M1 v M' 0 0)) ∨ (¬ ((zI M 633 22) = 0) ∧ 0 ≤ (G_168 M l) ∧ (G_140 M (G_168 M l) 2 4) = 0 ∧ ¬ ((G_168 M l) = 7) ∧ (rI M 639 7) = 16 ∧ (∃ e1 v1 M1, e = e1 + 1 ∧ Ev none e1 163 0 [some (.ref 633), some (.int 3)] [] M v1 M1 0 0 ∧ Ev none e 169 75 [some (.ref 633), some (.int l), some (.int (G_168 M l)), some (.int 0), c4] (v1.toList ++ []) M1 v M' 0 0)) ∨ (¬ ((zI M 633 22) = 0) ∧ 0 ≤ (G_168 M l) ∧ (G_140 M (G_168 M l) 2 4) = 0 ∧ ¬ ((G_168 M l) = 7) ∧ ¬ ((rI M 639 7) = 16) ∧ (∃ e1 v1 M1, e = e1 + 1 ∧ Ev none e1 162 0 [some (.ref 633), none, none, none] [] M v1 M1 0 0 ∧ Ev none e 169 92 [some (.ref 633), some (.int l), some (.int (G_168 M l)), some (.int 0), some (.int (112 + (rI M 639 7)))] (v1.toList ++ []) M1 v M' 0 0)) ∨ (¬ ((zI M 633 22) = 0) ∧ 0 ≤ (G_168 M l) ∧ ¬ ((G_140 M (G_168 M l) 2 4) = 0) ∧ (∃ e1 v1 M1, e = e1 + 1 ∧ Ev none e1 172 0 [some (.ref 633), some (.int 7), some (.int (G_168 M l)), none] [] M v1 M1 0 0 ∧ Ev none e 169 45 [some (.ref 633), some (.int l), some (.int (G_168 M l)), c3, c4] (v1.toList ++ []) M1 v M' 0 0)) ∨ (¬ ((zI M 633 22) = 0) ∧ ¬ (0 ≤ (G_168 M l)) ∧ (∃ e1 v1 M1, e = e1 + 1 ∧ Ev none e1 163 0 [some (.ref 633), some (.int 1)] [] M v1 M1 0 0 ∧ Ev none e 169 22 [some (.ref 633), some (.int l), some (.int (G_168 M l)), c3, c4] (v1.toList ++ []) M1 v M' 0 0)) := by
  have H : Ev none e 169 1 [some (.ref 633), some (.int l), c2, c3, c4] [.ref 633] M v M' 0 0 := Ev.back 1 (fun n => rfl) H
  have H : Ev none e 169 4 [some (.ref 633), some (.int l), c2, c3, c4] [.int (zI M 633 22)] M v M' 0 0 := Ev.back 1 (gs_3 rfl rfl (gf_i hS.1 qa_633 qi_61_22 rfl)) H
  have H : Ev none e 169 (if (zI M 633 22) = 0 then 151 else 7) [some (.ref 633), some (.int l), c2, c3, c4] [] M v M' 0 0 := Ev.back 1 (fun n => rfl) H
  by_cases h1 : (zI M 633 22) = 0
  · rw [if_pos h1] at H
    have H : Ev none e 169 152 [some (.ref 633), some (.int l), c2, c3, c4] [.int 1] M v M' 0 0 := Ev.back 1 (fun n => rfl) H
    obtain ⟨z1, z2⟩ := Ev.retz rfl rfl H
    exact Or.inl ⟨h1, z1, z2⟩
  · rw [if_neg h1] at H
    have H : Ev none e 169 9 [some (.ref 633), some (.int l), c2, c3, c4] [.int l, .ref 633] M v M' 0 0 := Ev.back 2 (fun n => rfl) H
    obtain ⟨e1, rfl⟩ := Ev.dpos rfl rfl H
    obtain ⟨vK2, MK2, K2, H⟩ := Ev.callb (fun n => gs_7 rfl rfl (show gCal (.invokevirtual 223) 11 (.int l :: .ref 633 :: []) M = some (.inr (168, [some (.ref 633), some (.int l)], [])) from by show @cond (Option ((List Value × Mem) ⊕ (Nat × Lo × List Value))) (true && gRecv M (.ref 633) 11 && gRoom [] && true) (some (.inr (168, [some (.ref 633), some (.int l)], []))) none = _; rw [recv_s hS.1 qa_633 qo_61]; rfl)) H
    obtain ⟨pK2, qK2⟩ := g_168 hS K2
    rw [pK2, qK2] at H
    have H : Ev none (e1 + 1) 169 12 [some (.ref 633), some (.int l), c2, c3, c4] [.int (G_168 M l)] M v M' 0 0 := H
    have H : Ev none (e1 + 1) 169 (if 0 ≤ (G_168 M l) then 23 else 17) [some (.ref 633), some (.int l), some (.int (G_168 M l)), c3, c4] [] M v M' 0 0 := Ev.back 3 (fun n => rfl) H
    by_cases h3 : 0 ≤ (G_168 M l)
    · rw [if_pos h3] at H
      have H : Ev none (e1 + 1) 169 26 [some (.ref 633), some (.int l), some (.int (G_168 M l)), c3, c4] [.int 4, .int 2, .int (G_168 M l)] M v M' 0 0 := Ev.back 3 (fun n => rfl) H
      obtain ⟨vK4, MK4, K4, H⟩ := Ev.callb (fun n => rfl) H
      obtain ⟨pK4, qK4⟩ := g_140 hS K4
      rw [pK4, qK4] at H
      have H : Ev none (e1 + 1) 169 29 [some (.ref 633), some (.int l), some (.int (G_168 M l)), c3, c4] [.int (G_140 M (G_168 M l) 2 4)] M v M' 0 0 := H
      have H : Ev none (e1 + 1) 169 (if (G_140 M (G_168 M l) 2 4) = 0 then 32 else 38) [some (.ref 633), some (.int l), some (.int (G_168 M l)), c3, c4] [] M v M' 0 0 := Ev.back 1 (fun n => rfl) H
      by_cases h5 : (G_140 M (G_168 M l) 2 4) = 0
      · rw [if_pos h5] at H
        have H : Ev none (e1 + 1) 169 (if (G_168 M l) = 7 then 38 else 52) [some (.ref 633), some (.int l), some (.int (G_168 M l)), c3, c4] [] M v M' 0 0 := Ev.back 3 (fun n => rfl) H
        by_cases h6 : (G_168 M l) = 7
        · rw [if_pos h6] at H
          have H : Ev none (e1 + 1) 169 42 [some (.ref 633), some (.int l), some (.int (G_168 M l)), c3, c4] [.int (G_168 M l), .int 7, .ref 633] M v M' 0 0 := Ev.back 3 (fun n => rfl) H
          obtain ⟨vK7, MK7, K7, H⟩ := Ev.callb (fun n => gs_7 rfl rfl (show gCal (.invokevirtual 227) 11 (.int (G_168 M l) :: .int 7 :: .ref 633 :: []) M = some (.inr (172, [some (.ref 633), some (.int 7), some (.int (G_168 M l)), none], [])) from by show @cond (Option ((List Value × Mem) ⊕ (Nat × Lo × List Value))) (true && gRecv M (.ref 633) 11 && gRoom [] && true) (some (.inr (172, [some (.ref 633), some (.int 7), some (.int (G_168 M l)), none], []))) none = _; rw [recv_s hS.1 qa_633 qo_61]; rfl)) H
          have K7 : Ev none e1 172 0 [some (.ref 633), some (.int 7), some (.int (G_168 M l)), none] [] M vK7 MK7 0 0 := K7
          have HF := H
          exact Or.inr (Or.inl ⟨h1, h3, h5, h6, ⟨e1, vK7, MK7, rfl, K7, HF⟩⟩)
        · rw [if_neg h6] at H
          have H : Ev none (e1 + 1) 169 (if 0 = 0 then 58 else 70) [some (.ref 633), some (.int l), some (.int (G_168 M l)), some (.int 0), c4] [] M v M' 0 0 := Ev.back 4 (fun n => rfl) H
          rw [if_pos (by decide)] at H
          have H : Ev none (e1 + 1) 169 59 [some (.ref 633), some (.int l), some (.int (G_168 M l)), some (.int 0), c4] [.ref 633] M v M' 0 0 := Ev.back 1 (fun n => rfl) H
          have H : Ev none (e1 + 1) 169 62 [some (.ref 633), some (.int l), some (.int (G_168 M l)), some (.int 0), c4] [.ref 639] M v M' 0 0 := Ev.back 1 (gs_3 rfl rfl (gf_u hS.1 qa_633 qr_61_9 qu_67 rfl)) H
          have H : Ev none (e1 + 1) 169 64 [some (.ref 633), some (.int l), some (.int (G_168 M l)), some (.int 0), c4] [.int 7, .ref 639] M v M' 0 0 := Ev.back 1 (fun n => rfl) H
          obtain ⟨b8, H⟩ := Ev.ial rfl rfl hS.1 qa_639 qw_67 H
          have H : Ev none (e1 + 1) 169 65 [some (.ref 633), some (.int l), some (.int (G_168 M l)), some (.int 0), c4] [.int (rI M 639 7)] M v M' 0 0 := H
          have H : Ev none (e1 + 1) 169 (if (rI M 639 7) = 16 then 70 else 76) [some (.ref 633), some (.int l), some (.int (G_168 M l)), some (.int 0), c4] [] M v M' 0 0 := Ev.back 2 (fun n => rfl) H
          by_cases h9 : (rI M 639 7) = 16
          · rw [if_pos h9] at H
            have H : Ev none (e1 + 1) 169 72 [some (.ref 633), some (.int l), some (.int (G_168 M l)), some (.int 0), c4] [.int 3, .ref 633] M v M' 0 0 := Ev.back 2 (fun n => rfl) H
            obtain ⟨vK10, MK10, K10, H⟩ := Ev.callb (fun n => gs_7 rfl rfl (show gCal (.invokevirtual 198) 11 (.int 3 :: .ref 633 :: []) M = some (.inr (163, [some (.ref 633), some (.int 3)], [])) from by show @cond (Option ((List Value × Mem) ⊕ (Nat × Lo × List Value))) (true && gRecv M (.ref 633) 11 && gRoom [] && true) (some (.inr (163, [some (.ref 633), some (.int 3)], []))) none = _; rw [recv_s hS.1 qa_633 qo_61]; rfl)) H
            have K10 : Ev none e1 163 0 [some (.ref 633), some (.int 3)] [] M vK10 MK10 0 0 := K10
            have HF := H
            exact Or.inr (Or.inr (Or.inl ⟨h1, h3, h5, h6, h9, ⟨e1, vK10, MK10, rfl, K10, HF⟩⟩))
          · rw [if_neg h9] at H
            have H : Ev none (e1 + 1) 169 79 [some (.ref 633), some (.int l), some (.int (G_168 M l)), some (.int 0), c4] [.ref 633, .int 112] M v M' 0 0 := Ev.back 2 (fun n => rfl) H
            have H : Ev none (e1 + 1) 169 82 [some (.ref 633), some (.int l), some (.int (G_168 M l)), some (.int 0), c4] [.ref 639, .int 112] M v M' 0 0 := Ev.back 1 (gs_3 rfl rfl (gf_u hS.1 qa_633 qr_61_9 qu_67 rfl)) H
            have H : Ev none (e1 + 1) 169 84 [some (.ref 633), some (.int l), some (.int (G_168 M l)), some (.int 0), c4] [.int 7, .ref 639, .int 112] M v M' 0 0 := Ev.back 1 (fun n => rfl) H
            obtain ⟨b11, H⟩ := Ev.ial rfl rfl hS.1 qa_639 qw_67 H
            have H : Ev none (e1 + 1) 169 85 [some (.ref 633), some (.int l), some (.int (G_168 M l)), some (.int 0), c4] [.int (rI M 639 7), .int 112] M v M' 0 0 := H
            have H : Ev none (e1 + 1) 169 89 [some (.ref 633), some (.int l), some (.int (G_168 M l)), some (.int 0), some (.int (112 + (rI M 639 7)))] [.ref 633] M v M' 0 0 := Ev.back 3 (fun n => rfl) H
            obtain ⟨vK12, MK12, K12, H⟩ := Ev.callb (fun n => gs_7 rfl rfl (show gCal (.invokevirtual 201) 11 (.ref 633 :: []) M = some (.inr (162, [some (.ref 633), none, none, none], [])) from by show @cond (Option ((List Value × Mem) ⊕ (Nat × Lo × List Value))) (true && gRecv M (.ref 633) 11 && gRoom [] && true) (some (.inr (162, [some (.ref 633), none, none, none], []))) none = _; rw [recv_s hS.1 qa_633 qo_61]; rfl)) H
            have K12 : Ev none e1 162 0 [some (.ref 633), none, none, none] [] M vK12 MK12 0 0 := K12
            have HF := H
            exact Or.inr (Or.inr (Or.inr (Or.inl ⟨h1, h3, h5, h6, h9, ⟨e1, vK12, MK12, rfl, K12, HF⟩⟩)))
      · rw [if_neg h5] at H
        have H : Ev none (e1 + 1) 169 42 [some (.ref 633), some (.int l), some (.int (G_168 M l)), c3, c4] [.int (G_168 M l), .int 7, .ref 633] M v M' 0 0 := Ev.back 3 (fun n => rfl) H
        obtain ⟨vK13, MK13, K13, H⟩ := Ev.callb (fun n => gs_7 rfl rfl (show gCal (.invokevirtual 227) 11 (.int (G_168 M l) :: .int 7 :: .ref 633 :: []) M = some (.inr (172, [some (.ref 633), some (.int 7), some (.int (G_168 M l)), none], [])) from by show @cond (Option ((List Value × Mem) ⊕ (Nat × Lo × List Value))) (true && gRecv M (.ref 633) 11 && gRoom [] && true) (some (.inr (172, [some (.ref 633), some (.int 7), some (.int (G_168 M l)), none], []))) none = _; rw [recv_s hS.1 qa_633 qo_61]; rfl)) H
        have K13 : Ev none e1 172 0 [some (.ref 633), some (.int 7), some (.int (G_168 M l)), none] [] M vK13 MK13 0 0 := K13
        have HF := H
        exact Or.inr (Or.inr (Or.inr (Or.inr (Or.inl ⟨h1, h3, h5, ⟨e1, vK13, MK13, rfl, K13, HF⟩⟩))))
    · rw [if_neg h3] at H
      have H : Ev none (e1 + 1) 169 19 [some (.ref 633), some (.int l), some (.int (G_168 M l)), c3, c4] [.int 1, .ref 633] M v M' 0 0 := Ev.back 2 (fun n => rfl) H
      obtain ⟨vK14, MK14, K14, H⟩ := Ev.callb (fun n => gs_7 rfl rfl (show gCal (.invokevirtual 198) 11 (.int 1 :: .ref 633 :: []) M = some (.inr (163, [some (.ref 633), some (.int 1)], [])) from by show @cond (Option ((List Value × Mem) ⊕ (Nat × Lo × List Value))) (true && gRecv M (.ref 633) 11 && gRoom [] && true) (some (.inr (163, [some (.ref 633), some (.int 1)], []))) none = _; rw [recv_s hS.1 qa_633 qo_61]; rfl)) H
      have K14 : Ev none e1 163 0 [some (.ref 633), some (.int 1)] [] M vK14 MK14 0 0 := K14
      have HF := H
      exact Or.inr (Or.inr (Or.inr (Or.inr (Or.inr (⟨h1, h3, ⟨e1, vK14, MK14, rfl, K14, HF⟩⟩)))))
theorem rdq_22 {e : Nat} {M M' : Mem} {v : Option Value} {l y : Int32} {c2 c3 c4 : Option Value} (hS : SQ M) (H : Ev none e 169 22 [some (.ref 633), some (.int l), c2, c3, c4] [.int y] M v M' 0 0) : v = some (.int y) ∧ M' = M := by
  obtain ⟨z1, z2⟩ := Ev.retz rfl rfl H
  exact ⟨z1, z2⟩
theorem rdq_45 {e : Nat} {M M' : Mem} {v : Option Value} {l k y : Int32} {c3 c4 : Option Value} (hS : SQ M) (H : Ev none e 169 45 [some (.ref 633), some (.int l), some (.int k), c3, c4] [.int y] M v M' 0 0) : (y < 0 ∧ (rI M 639 7) = 16 ∧ (∃ e1 v1 M1, e = e1 + 1 ∧ Ev none e1 163 0 [some (.ref 633), some (.int 3)] [] M v1 M1 0 0 ∧ Ev none e 169 75 [some (.ref 633), some (.int l), some (.int k), some (.int 0), c4] (v1.toList ++ []) M1 v M' 0 0)) ∨ (y < 0 ∧ ¬ ((rI M 639 7) = 16) ∧ (∃ e1 v1 M1, e = e1 + 1 ∧ Ev none e1 162 0 [some (.ref 633), none, none, none] [] M v1 M1 0 0 ∧ Ev none e 169 92 [some (.ref 633), some (.int l), some (.int k), some (.int 0), some (.int (112 + (rI M 639 7)))] (v1.toList ++ []) M1 v M' 0 0)) ∨ (¬ (y < 0) ∧ (∃ e1 v1 M1, e = e1 + 1 ∧ Ev none e1 163 0 [some (.ref 633), some (.int 3)] [] M v1 M1 0 0 ∧ Ev none e 169 75 [some (.ref 633), some (.int l), some (.int k), some (.int 1), c4] (v1.toList ++ []) M1 v M' 0 0)) := by
  have H : Ev none e 169 (if y < 0 then 52 else 48) [some (.ref 633), some (.int l), some (.int k), c3, c4] [] M v M' 0 0 := Ev.back 1 (fun n => rfl) H
  by_cases h1 : y < 0
  · rw [if_pos h1] at H
    have H : Ev none e 169 (if 0 = 0 then 58 else 70) [some (.ref 633), some (.int l), some (.int k), some (.int 0), c4] [] M v M' 0 0 := Ev.back 4 (fun n => rfl) H
    rw [if_pos (by decide)] at H
    have H : Ev none e 169 59 [some (.ref 633), some (.int l), some (.int k), some (.int 0), c4] [.ref 633] M v M' 0 0 := Ev.back 1 (fun n => rfl) H
    have H : Ev none e 169 62 [some (.ref 633), some (.int l), some (.int k), some (.int 0), c4] [.ref 639] M v M' 0 0 := Ev.back 1 (gs_3 rfl rfl (gf_u hS.1 qa_633 qr_61_9 qu_67 rfl)) H
    have H : Ev none e 169 64 [some (.ref 633), some (.int l), some (.int k), some (.int 0), c4] [.int 7, .ref 639] M v M' 0 0 := Ev.back 1 (fun n => rfl) H
    obtain ⟨b2, H⟩ := Ev.ial rfl rfl hS.1 qa_639 qw_67 H
    have H : Ev none e 169 65 [some (.ref 633), some (.int l), some (.int k), some (.int 0), c4] [.int (rI M 639 7)] M v M' 0 0 := H
    have H : Ev none e 169 (if (rI M 639 7) = 16 then 70 else 76) [some (.ref 633), some (.int l), some (.int k), some (.int 0), c4] [] M v M' 0 0 := Ev.back 2 (fun n => rfl) H
    by_cases h3 : (rI M 639 7) = 16
    · rw [if_pos h3] at H
      have H : Ev none e 169 72 [some (.ref 633), some (.int l), some (.int k), some (.int 0), c4] [.int 3, .ref 633] M v M' 0 0 := Ev.back 2 (fun n => rfl) H
      obtain ⟨e1, rfl⟩ := Ev.dpos rfl rfl H
      obtain ⟨vK4, MK4, K4, H⟩ := Ev.callb (fun n => gs_7 rfl rfl (show gCal (.invokevirtual 198) 11 (.int 3 :: .ref 633 :: []) M = some (.inr (163, [some (.ref 633), some (.int 3)], [])) from by show @cond (Option ((List Value × Mem) ⊕ (Nat × Lo × List Value))) (true && gRecv M (.ref 633) 11 && gRoom [] && true) (some (.inr (163, [some (.ref 633), some (.int 3)], []))) none = _; rw [recv_s hS.1 qa_633 qo_61]; rfl)) H
      have K4 : Ev none e1 163 0 [some (.ref 633), some (.int 3)] [] M vK4 MK4 0 0 := K4
      have HF := H
      exact Or.inl ⟨h1, h3, ⟨e1, vK4, MK4, rfl, K4, HF⟩⟩
    · rw [if_neg h3] at H
      have H : Ev none e 169 79 [some (.ref 633), some (.int l), some (.int k), some (.int 0), c4] [.ref 633, .int 112] M v M' 0 0 := Ev.back 2 (fun n => rfl) H
      have H : Ev none e 169 82 [some (.ref 633), some (.int l), some (.int k), some (.int 0), c4] [.ref 639, .int 112] M v M' 0 0 := Ev.back 1 (gs_3 rfl rfl (gf_u hS.1 qa_633 qr_61_9 qu_67 rfl)) H
      have H : Ev none e 169 84 [some (.ref 633), some (.int l), some (.int k), some (.int 0), c4] [.int 7, .ref 639, .int 112] M v M' 0 0 := Ev.back 1 (fun n => rfl) H
      obtain ⟨b5, H⟩ := Ev.ial rfl rfl hS.1 qa_639 qw_67 H
      have H : Ev none e 169 85 [some (.ref 633), some (.int l), some (.int k), some (.int 0), c4] [.int (rI M 639 7), .int 112] M v M' 0 0 := H
      have H : Ev none e 169 89 [some (.ref 633), some (.int l), some (.int k), some (.int 0), some (.int (112 + (rI M 639 7)))] [.ref 633] M v M' 0 0 := Ev.back 3 (fun n => rfl) H
      obtain ⟨e1, rfl⟩ := Ev.dpos rfl rfl H
      obtain ⟨vK6, MK6, K6, H⟩ := Ev.callb (fun n => gs_7 rfl rfl (show gCal (.invokevirtual 201) 11 (.ref 633 :: []) M = some (.inr (162, [some (.ref 633), none, none, none], [])) from by show @cond (Option ((List Value × Mem) ⊕ (Nat × Lo × List Value))) (true && gRecv M (.ref 633) 11 && gRoom [] && true) (some (.inr (162, [some (.ref 633), none, none, none], []))) none = _; rw [recv_s hS.1 qa_633 qo_61]; rfl)) H
      have K6 : Ev none e1 162 0 [some (.ref 633), none, none, none] [] M vK6 MK6 0 0 := K6
      have HF := H
      exact Or.inr (Or.inl ⟨h1, h3, ⟨e1, vK6, MK6, rfl, K6, HF⟩⟩)
  · rw [if_neg h1] at H
    have H : Ev none e 169 (if 1 = 0 then 58 else 70) [some (.ref 633), some (.int l), some (.int k), some (.int 1), c4] [] M v M' 0 0 := Ev.back 5 (fun n => rfl) H
    rw [if_neg (by decide)] at H
    have H : Ev none e 169 72 [some (.ref 633), some (.int l), some (.int k), some (.int 1), c4] [.int 3, .ref 633] M v M' 0 0 := Ev.back 2 (fun n => rfl) H
    obtain ⟨e1, rfl⟩ := Ev.dpos rfl rfl H
    obtain ⟨vK7, MK7, K7, H⟩ := Ev.callb (fun n => gs_7 rfl rfl (show gCal (.invokevirtual 198) 11 (.int 3 :: .ref 633 :: []) M = some (.inr (163, [some (.ref 633), some (.int 3)], [])) from by show @cond (Option ((List Value × Mem) ⊕ (Nat × Lo × List Value))) (true && gRecv M (.ref 633) 11 && gRoom [] && true) (some (.inr (163, [some (.ref 633), some (.int 3)], []))) none = _; rw [recv_s hS.1 qa_633 qo_61]; rfl)) H
    have K7 : Ev none e1 163 0 [some (.ref 633), some (.int 3)] [] M vK7 MK7 0 0 := K7
    have HF := H
    exact Or.inr (Or.inr (⟨h1, ⟨e1, vK7, MK7, rfl, K7, HF⟩⟩))
theorem rdq_92 {e : Nat} {M M' : Mem} {v : Option Value} {l k j : Int32} {c3 : Option Value} (hS : SQ M) (H : Ev none e 169 92 [some (.ref 633), some (.int l), some (.int k), c3, some (.int j)] [] M v M' 0 0) : (∃ e1 v1 M1, e = e1 + 1 ∧ Ev none e1 170 0 [some (.ref 633), some (.int j), some (.int k), none] [] (wI (wI (wI M 640 j.toNatClampNeg k) 641 j.toNatClampNeg 0) 642 j.toNatClampNeg 0) v1 M1 0 0 ∧ Ev none e 169 123 [some (.ref 633), some (.int l), some (.int k), c3, some (.int j)] (v1.toList ++ []) M1 v M' 0 0) := by
  have H : Ev none e 169 93 [some (.ref 633), some (.int l), some (.int k), c3, some (.int j)] [.ref 633] M v M' 0 0 := Ev.back 1 (fun n => rfl) H
  have H : Ev none e 169 96 [some (.ref 633), some (.int l), some (.int k), c3, some (.int j)] [.ref 640] M v M' 0 0 := Ev.back 1 (gs_3 rfl rfl (gf_u hS.1 qa_633 qr_61_10 qu_68 rfl)) H
  have H : Ev none e 169 99 [some (.ref 633), some (.int l), some (.int k), c3, some (.int j)] [.int k, .int j, .ref 640] M v M' 0 0 := Ev.back 2 (fun n => rfl) H
  obtain ⟨b1, H⟩ := Ev.ias rfl rfl hS.1 qa_640 qw_68 H
  obtain ⟨N2, eN2⟩ : ∃ N, N = (wI M 640 j.toNatClampNeg k) := ⟨_, rfl⟩
  have hN2 : SQ N2 := by rw [eN2]; exact hS.ki
  have H : Ev none e 169 100 [some (.ref 633), some (.int l), some (.int k), c3, some (.int j)] [] N2 v M' 0 0 := by rw [eN2]; exact H
  have H : Ev none e 169 101 [some (.ref 633), some (.int l), some (.int k), c3, some (.int j)] [.ref 633] N2 v M' 0 0 := Ev.back 1 (fun n => rfl) H
  have H : Ev none e 169 104 [some (.ref 633), some (.int l), some (.int k), c3, some (.int j)] [.ref 641] N2 v M' 0 0 := Ev.back 1 (gs_3 rfl rfl (gf_u hN2.1 qa_633 qr_61_11 qu_69 rfl)) H
  have H : Ev none e 169 107 [some (.ref 633), some (.int l), some (.int k), c3, some (.int j)] [.int 0, .int j, .ref 641] N2 v M' 0 0 := Ev.back 2 (fun n => rfl) H
  obtain ⟨b3, H⟩ := Ev.ias rfl rfl hN2.1 qa_641 qw_69 H
  obtain ⟨N4, eN4⟩ : ∃ N, N = (wI N2 641 j.toNatClampNeg 0) := ⟨_, rfl⟩
  have hN4 : SQ N4 := by rw [eN4]; exact hN2.ki
  have H : Ev none e 169 108 [some (.ref 633), some (.int l), some (.int k), c3, some (.int j)] [] N4 v M' 0 0 := by rw [eN4]; exact H
  have H : Ev none e 169 109 [some (.ref 633), some (.int l), some (.int k), c3, some (.int j)] [.ref 633] N4 v M' 0 0 := Ev.back 1 (fun n => rfl) H
  have H : Ev none e 169 112 [some (.ref 633), some (.int l), some (.int k), c3, some (.int j)] [.ref 642] N4 v M' 0 0 := Ev.back 1 (gs_3 rfl rfl (gf_u hN4.1 qa_633 qr_61_12 qu_70 rfl)) H
  have H : Ev none e 169 115 [some (.ref 633), some (.int l), some (.int k), c3, some (.int j)] [.int 0, .int j, .ref 642] N4 v M' 0 0 := Ev.back 2 (fun n => rfl) H
  obtain ⟨b5, H⟩ := Ev.ias rfl rfl hN4.1 qa_642 qw_70 H
  obtain ⟨N6, eN6⟩ : ∃ N, N = (wI N4 642 j.toNatClampNeg 0) := ⟨_, rfl⟩
  have hN6 : SQ N6 := by rw [eN6]; exact hN4.ki
  have H : Ev none e 169 116 [some (.ref 633), some (.int l), some (.int k), c3, some (.int j)] [] N6 v M' 0 0 := by rw [eN6]; exact H
  have H : Ev none e 169 120 [some (.ref 633), some (.int l), some (.int k), c3, some (.int j)] [.int k, .int j, .ref 633] N6 v M' 0 0 := Ev.back 3 (fun n => rfl) H
  obtain ⟨e1, rfl⟩ := Ev.dpos rfl rfl H
  obtain ⟨vK7, MK7, K7, H⟩ := Ev.callb (fun n => gs_7 rfl rfl (show gCal (.invokevirtual 230) 11 (.int k :: .int j :: .ref 633 :: []) N6 = some (.inr (170, [some (.ref 633), some (.int j), some (.int k), none], [])) from by show @cond (Option ((List Value × Mem) ⊕ (Nat × Lo × List Value))) (true && gRecv N6 (.ref 633) 11 && gRoom [] && true) (some (.inr (170, [some (.ref 633), some (.int j), some (.int k), none], []))) none = _; rw [recv_s hN6.1 qa_633 qo_61]; rfl)) H
  have K7 : Ev none e1 170 0 [some (.ref 633), some (.int j), some (.int k), none] [] N6 vK7 MK7 0 0 := K7
  have HF := H
  subst eN2 eN4 eN6
  exact ⟨e1, vK7, MK7, rfl, K7, HF⟩
theorem rdq_75 {e : Nat} {M M' : Mem} {v : Option Value} {l y : Int32} {c2 c3 c4 : Option Value} (hS : SQ M) (H : Ev none e 169 75 [some (.ref 633), some (.int l), c2, c3, c4] [.int y] M v M' 0 0) : v = some (.int y) ∧ M' = M := by
  obtain ⟨z1, z2⟩ := Ev.retz rfl rfl H
  exact ⟨z1, z2⟩
theorem rdq_123 {e : Nat} {M M' : Mem} {v : Option Value} {l y : Int32} {c2 c3 c4 : Option Value} (hS : SQ M) (H : Ev none e 169 123 [some (.ref 633), some (.int l), c2, c3, c4] [.int y] M v M' 0 0) : (y = 0 ∧ v = some (.int 0) ∧ M' = M) ∨ (¬ (y = 0) ∧ (∃ e1 v1 M1, e = e1 + 1 ∧ Ev none e1 166 0 [some (.ref 633), some (.int 59)] [] M v1 M1 0 0 ∧ Ev none e 169 132 [some (.ref 633), some (.int l), c2, c3, c4] (v1.toList ++ []) M1 v M' 0 0)) := by
  have H : Ev none e 169 (if y = 0 then 135 else 126) [some (.ref 633), some (.int l), c2, c3, c4] [] M v M' 0 0 := Ev.back 1 (fun n => rfl) H
  by_cases h1 : y = 0
  · rw [if_pos h1] at H
    have H : Ev none e 169 136 [some (.ref 633), some (.int l), c2, c3, c4] [.int 0] M v M' 0 0 := Ev.back 1 (fun n => rfl) H
    obtain ⟨z1, z2⟩ := Ev.retz rfl rfl H
    exact Or.inl ⟨h1, z1, z2⟩
  · rw [if_neg h1] at H
    have H : Ev none e 169 129 [some (.ref 633), some (.int l), c2, c3, c4] [.int 59, .ref 633] M v M' 0 0 := Ev.back 2 (fun n => rfl) H
    obtain ⟨e1, rfl⟩ := Ev.dpos rfl rfl H
    obtain ⟨vK2, MK2, K2, H⟩ := Ev.callb (fun n => gs_7 rfl rfl (show gCal (.invokevirtual 234) 11 (.int 59 :: .ref 633 :: []) M = some (.inr (166, [some (.ref 633), some (.int 59)], [])) from by show @cond (Option ((List Value × Mem) ⊕ (Nat × Lo × List Value))) (true && gRecv M (.ref 633) 11 && gRoom [] && true) (some (.inr (166, [some (.ref 633), some (.int 59)], []))) none = _; rw [recv_s hS.1 qa_633 qo_61]; rfl)) H
    have K2 : Ev none e1 166 0 [some (.ref 633), some (.int 59)] [] M vK2 MK2 0 0 := K2
    have HF := H
    exact Or.inr (⟨h1, ⟨e1, vK2, MK2, rfl, K2, HF⟩⟩)
theorem rdq_132 {e : Nat} {M M' : Mem} {v : Option Value} {l y : Int32} {c2 c3 c4 : Option Value} (hS : SQ M) (H : Ev none e 169 132 [some (.ref 633), some (.int l), c2, c3, c4] [.int y] M v M' 0 0) : (y = 0 ∧ v = some (.int 0) ∧ M' = M) ∨ (¬ (y = 0) ∧ (0 ≤ (7 : Int32).toInt ∧ (7 : Int32).toInt < 8) ∧ (0 ≤ (7 : Int32).toInt ∧ (7 : Int32).toInt < 8) ∧ Ev none e 169 0 [some (.ref 633), some (.int l), c2, c3, c4] [] (wI M 639 ((7 : Int32).toNatClampNeg) ((rI M 639 7) + 1)) v M' 0 0) := by
  have H : Ev none e 169 (if y = 0 then 135 else 137) [some (.ref 633), some (.int l), c2, c3, c4] [] M v M' 0 0 := Ev.back 1 (fun n => rfl) H
  by_cases h1 : y = 0
  · rw [if_pos h1] at H
    have H : Ev none e 169 136 [some (.ref 633), some (.int l), c2, c3, c4] [.int 0] M v M' 0 0 := Ev.back 1 (fun n => rfl) H
    obtain ⟨z1, z2⟩ := Ev.retz rfl rfl H
    exact Or.inl ⟨h1, z1, z2⟩
  · rw [if_neg h1] at H
    have H : Ev none e 169 138 [some (.ref 633), some (.int l), c2, c3, c4] [.ref 633] M v M' 0 0 := Ev.back 1 (fun n => rfl) H
    have H : Ev none e 169 141 [some (.ref 633), some (.int l), c2, c3, c4] [.ref 639] M v M' 0 0 := Ev.back 1 (gs_3 rfl rfl (gf_u hS.1 qa_633 qr_61_9 qu_67 rfl)) H
    have H : Ev none e 169 144 [some (.ref 633), some (.int l), c2, c3, c4] [.int 7, .ref 639, .int 7, .ref 639] M v M' 0 0 := Ev.back 2 (fun n => rfl) H
    obtain ⟨b2, H⟩ := Ev.ial rfl rfl hS.1 qa_639 qw_67 H
    have H : Ev none e 169 145 [some (.ref 633), some (.int l), c2, c3, c4] [.int (rI M 639 7), .int 7, .ref 639] M v M' 0 0 := H
    have H : Ev none e 169 147 [some (.ref 633), some (.int l), c2, c3, c4] [.int ((rI M 639 7) + 1), .int 7, .ref 639] M v M' 0 0 := Ev.back 2 (fun n => rfl) H
    obtain ⟨b3, H⟩ := Ev.ias rfl rfl hS.1 qa_639 qw_67 H
    obtain ⟨N4, eN4⟩ : ∃ N, N = (wI M 639 ((7 : Int32).toNatClampNeg) ((rI M 639 7) + 1)) := ⟨_, rfl⟩
    have hN4 : SQ N4 := by rw [eN4]; exact hS.ki
    have H : Ev none e 169 148 [some (.ref 633), some (.int l), c2, c3, c4] [] N4 v M' 0 0 := by rw [eN4]; exact H
    have H : Ev none e 169 0 [some (.ref 633), some (.int l), c2, c3, c4] [] N4 v M' 0 0 := Ev.back 1 (fun n => rfl) H
    have HF := H
    subst eN4
    exact Or.inr (⟨h1, b2, b3, HF⟩)
