/-! THE REFERENCE'S READER: pieces of read, line, text, law, habit (made by gre.py) -/
noncomputable def G_168 (M : Mem) (l : Int32) : Int32 := if (zI M 633 22) = 1 then (if l = 0 then (if (lg_cmp (fL M 633 31) 512802514792) = 0 then 5 else (if (lg_cmp (fL M 633 31) 474148660594) = 0 then 6 else (if (lg_cmp (fL M 633 31) 495689623668) = 0 then 7 else (-1)))) else (if (lg_cmp (fL M 633 31) 2003132786) = 0 then 0 else (if (lg_cmp (fL M 633 31) 1735552887) = 0 then 1 else (if (lg_cmp (fL M 633 31) 1818848869) = 0 then 2 else (if (lg_cmp (fL M 633 31) 7173476) = 0 then 3 else (if (lg_cmp (fL M 633 31) 6582905) = 0 then 4 else (-1))))))) else (-1)
theorem g_168 {e : Nat} {M M' : Mem} {v : Option Value} {l : Int32} (hS : SQ M) (H : Ev none e 168 0 [some (.ref 633), some (.int l)] [] M v M' 0 0) : v = some (.int (G_168 M l)) ∧ M' = M := by
  unfold G_168
  have H : Ev none e 168 1 [some (.ref 633), some (.int l)] [.ref 633] M v M' 0 0 := Ev.back 1 (fun n => rfl) H
  have H : Ev none e 168 4 [some (.ref 633), some (.int l)] [.int (zI M 633 22)] M v M' 0 0 := Ev.back 1 (gs_3 rfl rfl (gf_i hS.1 qa_633 qi_61_22 rfl)) H
  have H : Ev none e 168 (if (zI M 633 22) = 1 then 10 else 8) [some (.ref 633), some (.int l)] [] M v M' 0 0 := Ev.back 2 (fun n => rfl) H
  by_cases h1 : (zI M 633 22) = 1
  · rw [if_pos h1] at H
    have H : Ev none e 168 (if l = 0 then 91 else 14) [some (.ref 633), some (.int l)] [] M v M' 0 0 := Ev.back 2 (fun n => rfl) H
    by_cases h2 : l = 0
    · rw [if_pos h2] at H
      have H : Ev none e 168 92 [some (.ref 633), some (.int l)] [.ref 633] M v M' 0 0 := Ev.back 1 (fun n => rfl) H
      have H : Ev none e 168 95 [some (.ref 633), some (.int l)] [.long (fL M 633 31)] M v M' 0 0 := Ev.back 1 (gs_3 rfl rfl (gf_l hS.1 qa_633 ql_61_31 rfl)) H
      have H : Ev none e 168 (if (lg_cmp (fL M 633 31) 512802514792) = 0 then 102 else 106) [some (.ref 633), some (.int l)] [] M v M' 0 0 := Ev.back 3 (fun n => rfl) H
      by_cases h3 : (lg_cmp (fL M 633 31) 512802514792) = 0
      · rw [if_pos h3] at H
        have H : Ev none e 168 139 [some (.ref 633), some (.int l)] [.int 5] M v M' 0 0 := Ev.back 2 (fun n => rfl) H
        obtain ⟨p1, p2⟩ := Ev.retz rfl rfl H
        exact ⟨by rw [if_pos h1, if_pos h2, if_pos h3]; exact p1, p2⟩
      · rw [if_neg h3] at H
        have H : Ev none e 168 107 [some (.ref 633), some (.int l)] [.ref 633] M v M' 0 0 := Ev.back 1 (fun n => rfl) H
        have H : Ev none e 168 110 [some (.ref 633), some (.int l)] [.long (fL M 633 31)] M v M' 0 0 := Ev.back 1 (gs_3 rfl rfl (gf_l hS.1 qa_633 ql_61_31 rfl)) H
        have H : Ev none e 168 (if (lg_cmp (fL M 633 31) 474148660594) = 0 then 117 else 122) [some (.ref 633), some (.int l)] [] M v M' 0 0 := Ev.back 3 (fun n => rfl) H
        by_cases h4 : (lg_cmp (fL M 633 31) 474148660594) = 0
        · rw [if_pos h4] at H
          have H : Ev none e 168 139 [some (.ref 633), some (.int l)] [.int 6] M v M' 0 0 := Ev.back 2 (fun n => rfl) H
          obtain ⟨p1, p2⟩ := Ev.retz rfl rfl H
          exact ⟨by rw [if_pos h1, if_pos h2, if_neg h3, if_pos h4]; exact p1, p2⟩
        · rw [if_neg h4] at H
          have H : Ev none e 168 123 [some (.ref 633), some (.int l)] [.ref 633] M v M' 0 0 := Ev.back 1 (fun n => rfl) H
          have H : Ev none e 168 126 [some (.ref 633), some (.int l)] [.long (fL M 633 31)] M v M' 0 0 := Ev.back 1 (gs_3 rfl rfl (gf_l hS.1 qa_633 ql_61_31 rfl)) H
          have H : Ev none e 168 (if (lg_cmp (fL M 633 31) 495689623668) = 0 then 133 else 138) [some (.ref 633), some (.int l)] [] M v M' 0 0 := Ev.back 3 (fun n => rfl) H
          by_cases h5 : (lg_cmp (fL M 633 31) 495689623668) = 0
          · rw [if_pos h5] at H
            have H : Ev none e 168 139 [some (.ref 633), some (.int l)] [.int 7] M v M' 0 0 := Ev.back 2 (fun n => rfl) H
            obtain ⟨p1, p2⟩ := Ev.retz rfl rfl H
            exact ⟨by rw [if_pos h1, if_pos h2, if_neg h3, if_neg h4, if_pos h5]; exact p1, p2⟩
          · rw [if_neg h5] at H
            have H : Ev none e 168 139 [some (.ref 633), some (.int l)] [.int (-1)] M v M' 0 0 := Ev.back 1 (fun n => rfl) H
            obtain ⟨p1, p2⟩ := Ev.retz rfl rfl H
            exact ⟨by rw [if_pos h1, if_pos h2, if_neg h3, if_neg h4, if_neg h5]; exact p1, p2⟩
    · rw [if_neg h2] at H
      have H : Ev none e 168 15 [some (.ref 633), some (.int l)] [.ref 633] M v M' 0 0 := Ev.back 1 (fun n => rfl) H
      have H : Ev none e 168 18 [some (.ref 633), some (.int l)] [.long (fL M 633 31)] M v M' 0 0 := Ev.back 1 (gs_3 rfl rfl (gf_l hS.1 qa_633 ql_61_31 rfl)) H
      have H : Ev none e 168 (if (lg_cmp (fL M 633 31) 2003132786) = 0 then 25 else 29) [some (.ref 633), some (.int l)] [] M v M' 0 0 := Ev.back 3 (fun n => rfl) H
      by_cases h6 : (lg_cmp (fL M 633 31) 2003132786) = 0
      · rw [if_pos h6] at H
        have H : Ev none e 168 90 [some (.ref 633), some (.int l)] [.int 0] M v M' 0 0 := Ev.back 2 (fun n => rfl) H
        obtain ⟨p1, p2⟩ := Ev.retz rfl rfl H
        exact ⟨by rw [if_pos h1, if_neg h2, if_pos h6]; exact p1, p2⟩
      · rw [if_neg h6] at H
        have H : Ev none e 168 30 [some (.ref 633), some (.int l)] [.ref 633] M v M' 0 0 := Ev.back 1 (fun n => rfl) H
        have H : Ev none e 168 33 [some (.ref 633), some (.int l)] [.long (fL M 633 31)] M v M' 0 0 := Ev.back 1 (gs_3 rfl rfl (gf_l hS.1 qa_633 ql_61_31 rfl)) H
        have H : Ev none e 168 (if (lg_cmp (fL M 633 31) 1735552887) = 0 then 40 else 44) [some (.ref 633), some (.int l)] [] M v M' 0 0 := Ev.back 3 (fun n => rfl) H
        by_cases h7 : (lg_cmp (fL M 633 31) 1735552887) = 0
        · rw [if_pos h7] at H
          have H : Ev none e 168 90 [some (.ref 633), some (.int l)] [.int 1] M v M' 0 0 := Ev.back 2 (fun n => rfl) H
          obtain ⟨p1, p2⟩ := Ev.retz rfl rfl H
          exact ⟨by rw [if_pos h1, if_neg h2, if_neg h6, if_pos h7]; exact p1, p2⟩
        · rw [if_neg h7] at H
          have H : Ev none e 168 45 [some (.ref 633), some (.int l)] [.ref 633] M v M' 0 0 := Ev.back 1 (fun n => rfl) H
          have H : Ev none e 168 48 [some (.ref 633), some (.int l)] [.long (fL M 633 31)] M v M' 0 0 := Ev.back 1 (gs_3 rfl rfl (gf_l hS.1 qa_633 ql_61_31 rfl)) H
          have H : Ev none e 168 (if (lg_cmp (fL M 633 31) 1818848869) = 0 then 55 else 59) [some (.ref 633), some (.int l)] [] M v M' 0 0 := Ev.back 3 (fun n => rfl) H
          by_cases h8 : (lg_cmp (fL M 633 31) 1818848869) = 0
          · rw [if_pos h8] at H
            have H : Ev none e 168 90 [some (.ref 633), some (.int l)] [.int 2] M v M' 0 0 := Ev.back 2 (fun n => rfl) H
            obtain ⟨p1, p2⟩ := Ev.retz rfl rfl H
            exact ⟨by rw [if_pos h1, if_neg h2, if_neg h6, if_neg h7, if_pos h8]; exact p1, p2⟩
          · rw [if_neg h8] at H
            have H : Ev none e 168 60 [some (.ref 633), some (.int l)] [.ref 633] M v M' 0 0 := Ev.back 1 (fun n => rfl) H
            have H : Ev none e 168 63 [some (.ref 633), some (.int l)] [.long (fL M 633 31)] M v M' 0 0 := Ev.back 1 (gs_3 rfl rfl (gf_l hS.1 qa_633 ql_61_31 rfl)) H
            have H : Ev none e 168 (if (lg_cmp (fL M 633 31) 7173476) = 0 then 70 else 74) [some (.ref 633), some (.int l)] [] M v M' 0 0 := Ev.back 3 (fun n => rfl) H
            by_cases h9 : (lg_cmp (fL M 633 31) 7173476) = 0
            · rw [if_pos h9] at H
              have H : Ev none e 168 90 [some (.ref 633), some (.int l)] [.int 3] M v M' 0 0 := Ev.back 2 (fun n => rfl) H
              obtain ⟨p1, p2⟩ := Ev.retz rfl rfl H
              exact ⟨by rw [if_pos h1, if_neg h2, if_neg h6, if_neg h7, if_neg h8, if_pos h9]; exact p1, p2⟩
            · rw [if_neg h9] at H
              have H : Ev none e 168 75 [some (.ref 633), some (.int l)] [.ref 633] M v M' 0 0 := Ev.back 1 (fun n => rfl) H
              have H : Ev none e 168 78 [some (.ref 633), some (.int l)] [.long (fL M 633 31)] M v M' 0 0 := Ev.back 1 (gs_3 rfl rfl (gf_l hS.1 qa_633 ql_61_31 rfl)) H
              have H : Ev none e 168 (if (lg_cmp (fL M 633 31) 6582905) = 0 then 85 else 89) [some (.ref 633), some (.int l)] [] M v M' 0 0 := Ev.back 3 (fun n => rfl) H
              by_cases h10 : (lg_cmp (fL M 633 31) 6582905) = 0
              · rw [if_pos h10] at H
                have H : Ev none e 168 90 [some (.ref 633), some (.int l)] [.int 4] M v M' 0 0 := Ev.back 2 (fun n => rfl) H
                obtain ⟨p1, p2⟩ := Ev.retz rfl rfl H
                exact ⟨by rw [if_pos h1, if_neg h2, if_neg h6, if_neg h7, if_neg h8, if_neg h9, if_pos h10]; exact p1, p2⟩
              · rw [if_neg h10] at H
                have H : Ev none e 168 90 [some (.ref 633), some (.int l)] [.int (-1)] M v M' 0 0 := Ev.back 1 (fun n => rfl) H
                obtain ⟨p1, p2⟩ := Ev.retz rfl rfl H
                exact ⟨by rw [if_pos h1, if_neg h2, if_neg h6, if_neg h7, if_neg h8, if_neg h9, if_neg h10]; exact p1, p2⟩
  · rw [if_neg h1] at H
    have H : Ev none e 168 9 [some (.ref 633), some (.int l)] [.int (-1)] M v M' 0 0 := Ev.back 1 (fun n => rfl) H
    obtain ⟨p1, p2⟩ := Ev.retz rfl rfl H
    exact ⟨by rw [if_neg h1]; exact p1, p2⟩
noncomputable def G_171 (M : Mem) : Int32 := if (zI M 633 22) = 1 then (if (lg_cmp (fL M 633 31) 444300879214) = 0 then 0 else (if (lg_cmp (fL M 633 31) 7824756) = 0 then 1 else (if (lg_cmp (fL M 633 31) 427020610914) = 0 then 2 else (if (lg_cmp (fL M 633 31) 427121669988) = 0 then 3 else (if (lg_cmp (fL M 633 31) 1953854062) = 0 then 4 else (if (lg_cmp (fL M 633 31) 1668246885) = 0 then 5 else (if (lg_cmp (fL M 633 31) 1818848869) = 0 then 6 else (-1)))))))) else (-1)
theorem g_171 {e : Nat} {M M' : Mem} {v : Option Value} (hS : SQ M) (H : Ev none e 171 0 [some (.ref 633)] [] M v M' 0 0) : v = some (.int (G_171 M)) ∧ M' = M := by
  unfold G_171
  have H : Ev none e 171 1 [some (.ref 633)] [.ref 633] M v M' 0 0 := Ev.back 1 (fun n => rfl) H
  have H : Ev none e 171 4 [some (.ref 633)] [.int (zI M 633 22)] M v M' 0 0 := Ev.back 1 (gs_3 rfl rfl (gf_i hS.1 qa_633 qi_61_22 rfl)) H
  have H : Ev none e 171 (if (zI M 633 22) = 1 then 10 else 8) [some (.ref 633)] [] M v M' 0 0 := Ev.back 2 (fun n => rfl) H
  by_cases h1 : (zI M 633 22) = 1
  · rw [if_pos h1] at H
    have H : Ev none e 171 11 [some (.ref 633)] [.ref 633] M v M' 0 0 := Ev.back 1 (fun n => rfl) H
    have H : Ev none e 171 14 [some (.ref 633)] [.long (fL M 633 31)] M v M' 0 0 := Ev.back 1 (gs_3 rfl rfl (gf_l hS.1 qa_633 ql_61_31 rfl)) H
    have H : Ev none e 171 (if (lg_cmp (fL M 633 31) 444300879214) = 0 then 21 else 25) [some (.ref 633)] [] M v M' 0 0 := Ev.back 3 (fun n => rfl) H
    by_cases h2 : (lg_cmp (fL M 633 31) 444300879214) = 0
    · rw [if_pos h2] at H
      have H : Ev none e 171 117 [some (.ref 633)] [.int 0] M v M' 0 0 := Ev.back 2 (fun n => rfl) H
      obtain ⟨p1, p2⟩ := Ev.retz rfl rfl H
      exact ⟨by rw [if_pos h1, if_pos h2]; exact p1, p2⟩
    · rw [if_neg h2] at H
      have H : Ev none e 171 26 [some (.ref 633)] [.ref 633] M v M' 0 0 := Ev.back 1 (fun n => rfl) H
      have H : Ev none e 171 29 [some (.ref 633)] [.long (fL M 633 31)] M v M' 0 0 := Ev.back 1 (gs_3 rfl rfl (gf_l hS.1 qa_633 ql_61_31 rfl)) H
      have H : Ev none e 171 (if (lg_cmp (fL M 633 31) 7824756) = 0 then 36 else 40) [some (.ref 633)] [] M v M' 0 0 := Ev.back 3 (fun n => rfl) H
      by_cases h3 : (lg_cmp (fL M 633 31) 7824756) = 0
      · rw [if_pos h3] at H
        have H : Ev none e 171 117 [some (.ref 633)] [.int 1] M v M' 0 0 := Ev.back 2 (fun n => rfl) H
        obtain ⟨p1, p2⟩ := Ev.retz rfl rfl H
        exact ⟨by rw [if_pos h1, if_neg h2, if_pos h3]; exact p1, p2⟩
      · rw [if_neg h3] at H
        have H : Ev none e 171 41 [some (.ref 633)] [.ref 633] M v M' 0 0 := Ev.back 1 (fun n => rfl) H
        have H : Ev none e 171 44 [some (.ref 633)] [.long (fL M 633 31)] M v M' 0 0 := Ev.back 1 (gs_3 rfl rfl (gf_l hS.1 qa_633 ql_61_31 rfl)) H
        have H : Ev none e 171 (if (lg_cmp (fL M 633 31) 427020610914) = 0 then 51 else 55) [some (.ref 633)] [] M v M' 0 0 := Ev.back 3 (fun n => rfl) H
        by_cases h4 : (lg_cmp (fL M 633 31) 427020610914) = 0
        · rw [if_pos h4] at H
          have H : Ev none e 171 117 [some (.ref 633)] [.int 2] M v M' 0 0 := Ev.back 2 (fun n => rfl) H
          obtain ⟨p1, p2⟩ := Ev.retz rfl rfl H
          exact ⟨by rw [if_pos h1, if_neg h2, if_neg h3, if_pos h4]; exact p1, p2⟩
        · rw [if_neg h4] at H
          have H : Ev none e 171 56 [some (.ref 633)] [.ref 633] M v M' 0 0 := Ev.back 1 (fun n => rfl) H
          have H : Ev none e 171 59 [some (.ref 633)] [.long (fL M 633 31)] M v M' 0 0 := Ev.back 1 (gs_3 rfl rfl (gf_l hS.1 qa_633 ql_61_31 rfl)) H
          have H : Ev none e 171 (if (lg_cmp (fL M 633 31) 427121669988) = 0 then 66 else 70) [some (.ref 633)] [] M v M' 0 0 := Ev.back 3 (fun n => rfl) H
          by_cases h5 : (lg_cmp (fL M 633 31) 427121669988) = 0
          · rw [if_pos h5] at H
            have H : Ev none e 171 117 [some (.ref 633)] [.int 3] M v M' 0 0 := Ev.back 2 (fun n => rfl) H
            obtain ⟨p1, p2⟩ := Ev.retz rfl rfl H
            exact ⟨by rw [if_pos h1, if_neg h2, if_neg h3, if_neg h4, if_pos h5]; exact p1, p2⟩
          · rw [if_neg h5] at H
            have H : Ev none e 171 71 [some (.ref 633)] [.ref 633] M v M' 0 0 := Ev.back 1 (fun n => rfl) H
            have H : Ev none e 171 74 [some (.ref 633)] [.long (fL M 633 31)] M v M' 0 0 := Ev.back 1 (gs_3 rfl rfl (gf_l hS.1 qa_633 ql_61_31 rfl)) H
            have H : Ev none e 171 (if (lg_cmp (fL M 633 31) 1953854062) = 0 then 81 else 85) [some (.ref 633)] [] M v M' 0 0 := Ev.back 3 (fun n => rfl) H
            by_cases h6 : (lg_cmp (fL M 633 31) 1953854062) = 0
            · rw [if_pos h6] at H
              have H : Ev none e 171 117 [some (.ref 633)] [.int 4] M v M' 0 0 := Ev.back 2 (fun n => rfl) H
              obtain ⟨p1, p2⟩ := Ev.retz rfl rfl H
              exact ⟨by rw [if_pos h1, if_neg h2, if_neg h3, if_neg h4, if_neg h5, if_pos h6]; exact p1, p2⟩
            · rw [if_neg h6] at H
              have H : Ev none e 171 86 [some (.ref 633)] [.ref 633] M v M' 0 0 := Ev.back 1 (fun n => rfl) H
              have H : Ev none e 171 89 [some (.ref 633)] [.long (fL M 633 31)] M v M' 0 0 := Ev.back 1 (gs_3 rfl rfl (gf_l hS.1 qa_633 ql_61_31 rfl)) H
              have H : Ev none e 171 (if (lg_cmp (fL M 633 31) 1668246885) = 0 then 96 else 100) [some (.ref 633)] [] M v M' 0 0 := Ev.back 3 (fun n => rfl) H
              by_cases h7 : (lg_cmp (fL M 633 31) 1668246885) = 0
              · rw [if_pos h7] at H
                have H : Ev none e 171 117 [some (.ref 633)] [.int 5] M v M' 0 0 := Ev.back 2 (fun n => rfl) H
                obtain ⟨p1, p2⟩ := Ev.retz rfl rfl H
                exact ⟨by rw [if_pos h1, if_neg h2, if_neg h3, if_neg h4, if_neg h5, if_neg h6, if_pos h7]; exact p1, p2⟩
              · rw [if_neg h7] at H
                have H : Ev none e 171 101 [some (.ref 633)] [.ref 633] M v M' 0 0 := Ev.back 1 (fun n => rfl) H
                have H : Ev none e 171 104 [some (.ref 633)] [.long (fL M 633 31)] M v M' 0 0 := Ev.back 1 (gs_3 rfl rfl (gf_l hS.1 qa_633 ql_61_31 rfl)) H
                have H : Ev none e 171 (if (lg_cmp (fL M 633 31) 1818848869) = 0 then 111 else 116) [some (.ref 633)] [] M v M' 0 0 := Ev.back 3 (fun n => rfl) H
                by_cases h8 : (lg_cmp (fL M 633 31) 1818848869) = 0
                · rw [if_pos h8] at H
                  have H : Ev none e 171 117 [some (.ref 633)] [.int 6] M v M' 0 0 := Ev.back 2 (fun n => rfl) H
                  obtain ⟨p1, p2⟩ := Ev.retz rfl rfl H
                  exact ⟨by rw [if_pos h1, if_neg h2, if_neg h3, if_neg h4, if_neg h5, if_neg h6, if_neg h7, if_pos h8]; exact p1, p2⟩
                · rw [if_neg h8] at H
                  have H : Ev none e 171 117 [some (.ref 633)] [.int (-1)] M v M' 0 0 := Ev.back 1 (fun n => rfl) H
                  obtain ⟨p1, p2⟩ := Ev.retz rfl rfl H
                  exact ⟨by rw [if_pos h1, if_neg h2, if_neg h3, if_neg h4, if_neg h5, if_neg h6, if_neg h7, if_neg h8]; exact p1, p2⟩
  · rw [if_neg h1] at H
    have H : Ev none e 171 9 [some (.ref 633)] [.int (-1)] M v M' 0 0 := Ev.back 1 (fun n => rfl) H
    obtain ⟨p1, p2⟩ := Ev.retz rfl rfl H
    exact ⟨by rw [if_neg h1]; exact p1, p2⟩
noncomputable def X_139 (M : Mem) : Mem := (wF (wF (wF M 633 3 (zI M 633 2)) 633 2 0) 633 4 0)
theorem g_139 {e : Nat} {M M' : Mem} {v : Option Value} (hS : SQ M) (H : Ev none e 139 0 [some (.ref 633)] [] M v M' 0 0) : v = none ∧ M' = X_139 M := by
  unfold X_139
  have H : Ev none e 139 2 [some (.ref 633)] [.ref 633, .ref 633] M v M' 0 0 := Ev.back 2 (fun n => rfl) H
  have H : Ev none e 139 5 [some (.ref 633)] [.int (zI M 633 2), .ref 633] M v M' 0 0 := Ev.back 1 (gs_3 rfl rfl (gf_i hS.1 qa_633 qi_61_2 rfl)) H
  obtain ⟨N2, eN2⟩ : ∃ N, N = (wF M 633 3 (zI M 633 2)) := ⟨_, rfl⟩
  have hN2 : SQ N2 := by rw [eN2]; exact hS.kf
  have H : Ev none e 139 8 [some (.ref 633)] [] N2 v M' 0 0 := by rw [eN2]; exact Ev.pfi rfl rfl rfl hS.1 qa_633 qi_61_3 H
  have H : Ev none e 139 10 [some (.ref 633)] [.int 0, .ref 633] N2 v M' 0 0 := Ev.back 2 (fun n => rfl) H
  obtain ⟨N4, eN4⟩ : ∃ N, N = (wF N2 633 2 0) := ⟨_, rfl⟩
  have hN4 : SQ N4 := by rw [eN4]; exact hN2.kf
  have H : Ev none e 139 13 [some (.ref 633)] [] N4 v M' 0 0 := by rw [eN4]; exact Ev.pfi rfl rfl rfl hN2.1 qa_633 qi_61_2 H
  have H : Ev none e 139 15 [some (.ref 633)] [.int 0, .ref 633] N4 v M' 0 0 := Ev.back 2 (fun n => rfl) H
  obtain ⟨N6, eN6⟩ : ∃ N, N = (wF N4 633 4 0) := ⟨_, rfl⟩
  have hN6 : SQ N6 := by rw [eN6]; exact hN4.kf
  have H : Ev none e 139 18 [some (.ref 633)] [] N6 v M' 0 0 := by rw [eN6]; exact Ev.pfi rfl rfl rfl hN4.1 qa_633 qi_61_4 H
  obtain ⟨p1, p2⟩ := Ev.retb (fun n => rfl) H
  subst eN2 eN4 eN6
  exact ⟨p1, p2⟩
theorem X_139_sx {M : Mem} (hS : SQ M) : SQ (X_139 M) := by
  unfold X_139
  exact ((hS.kf).kf).kf
noncomputable def A_185 (M : Mem) : Int32 := zI M 633 26
noncomputable def X_185 (M : Mem) : Mem := (wF M 633 0 0)
theorem g_185 {e : Nat} {M M' : Mem} {v : Option Value} (hS : SQ M) (H : Ev none e 185 0 [some (.ref 633)] [] M v M' 0 0) : v = some (.int (A_185 M)) ∧ M' = X_185 M := by
  unfold A_185 X_185
  have H : Ev none e 185 2 [some (.ref 633)] [.int 0, .ref 633] M v M' 0 0 := Ev.back 2 (fun n => rfl) H
  obtain ⟨N2, eN2⟩ : ∃ N, N = (wF M 633 0 0) := ⟨_, rfl⟩
  have hN2 : SQ N2 := by rw [eN2]; exact hS.kf
  have H : Ev none e 185 5 [some (.ref 633)] [] N2 v M' 0 0 := by rw [eN2]; exact Ev.pfi rfl rfl rfl hS.1 qa_633 qi_61_0 H
  have H : Ev none e 185 6 [some (.ref 633)] [.ref 633] N2 v M' 0 0 := Ev.back 1 (fun n => rfl) H
  have H : Ev none e 185 9 [some (.ref 633)] [.int (zI N2 633 26)] N2 v M' 0 0 := Ev.back 1 (gs_3 rfl rfl (gf_i hN2.1 qa_633 qi_61_26 rfl)) H
  rw [show zI N2 633 26 = zI M 633 26 from by rw [eN2]; exact fI_wF_ne (fun q => absurd q.2 (by decide))] at H
  obtain ⟨p1, p2⟩ := Ev.retz rfl rfl H
  subst eN2
  exact ⟨p1, p2⟩
theorem X_185_sx {M : Mem} (hS : SQ M) : SQ (X_185 M) := by
  unfold X_185
  exact hS.kf
theorem snq_0 {e : Nat} {M M' : Mem} {v : Option Value} (hS : SQ M) (H : Ev none e 166 0 [some (.ref 633), some (.int 59)] [] M v M' 0 0) : ((G_165 M 59) = 0 ∧ (∃ e1 v1 M1, e = e1 + 1 ∧ Ev none e1 163 0 [some (.ref 633), some (.int 1)] [] M v1 M1 0 0 ∧ Ev none e 166 13 [some (.ref 633), some (.int 59)] (v1.toList ++ []) M1 v M' 0 0)) ∨ (¬ ((G_165 M 59) = 0) ∧ (∃ e1 v1 M1, e = e1 + 1 ∧ Ev none e1 162 0 [some (.ref 633), none, none, none] [] M v1 M1 0 0 ∧ Ev none e 166 18 [some (.ref 633), some (.int 59)] (v1.toList ++ []) M1 v M' 0 0)) := by
  have H : Ev none e 166 2 [some (.ref 633), some (.int 59)] [.int 59, .ref 633] M v M' 0 0 := Ev.back 2 (fun n => rfl) H
  obtain ⟨e1, rfl⟩ := Ev.dpos rfl rfl H
  obtain ⟨vK1, MK1, K1, H⟩ := Ev.callb (fun n => gs_7 rfl rfl (show gCal (.invokevirtual 195) 11 (.int 59 :: .ref 633 :: []) M = some (.inr (165, [some (.ref 633), some (.int 59)], [])) from by show @cond (Option ((List Value × Mem) ⊕ (Nat × Lo × List Value))) (true && gRecv M (.ref 633) 11 && gRoom [] && true) (some (.inr (165, [some (.ref 633), some (.int 59)], []))) none = _; rw [recv_s hS.1 qa_633 qo_61]; rfl)) H
  obtain ⟨pK1, qK1⟩ := g_165 hS K1
  rw [pK1, qK1] at H
  have H : Ev none (e1 + 1) 166 5 [some (.ref 633), some (.int 59)] [.int (G_165 M 59)] M v M' 0 0 := H
  have H : Ev none (e1 + 1) 166 (if (G_165 M 59) = 0 then 8 else 14) [some (.ref 633), some (.int 59)] [] M v M' 0 0 := Ev.back 1 (fun n => rfl) H
  by_cases h2 : (G_165 M 59) = 0
  · rw [if_pos h2] at H
    have H : Ev none (e1 + 1) 166 10 [some (.ref 633), some (.int 59)] [.int 1, .ref 633] M v M' 0 0 := Ev.back 2 (fun n => rfl) H
    obtain ⟨vK3, MK3, K3, H⟩ := Ev.callb (fun n => gs_7 rfl rfl (show gCal (.invokevirtual 198) 11 (.int 1 :: .ref 633 :: []) M = some (.inr (163, [some (.ref 633), some (.int 1)], [])) from by show @cond (Option ((List Value × Mem) ⊕ (Nat × Lo × List Value))) (true && gRecv M (.ref 633) 11 && gRoom [] && true) (some (.inr (163, [some (.ref 633), some (.int 1)], []))) none = _; rw [recv_s hS.1 qa_633 qo_61]; rfl)) H
    have K3 : Ev none e1 163 0 [some (.ref 633), some (.int 1)] [] M vK3 MK3 0 0 := K3
    have HF := H
    exact Or.inl ⟨h2, ⟨e1, vK3, MK3, rfl, K3, HF⟩⟩
  · rw [if_neg h2] at H
    have H : Ev none (e1 + 1) 166 15 [some (.ref 633), some (.int 59)] [.ref 633] M v M' 0 0 := Ev.back 1 (fun n => rfl) H
    obtain ⟨vK4, MK4, K4, H⟩ := Ev.callb (fun n => gs_7 rfl rfl (show gCal (.invokevirtual 201) 11 (.ref 633 :: []) M = some (.inr (162, [some (.ref 633), none, none, none], [])) from by show @cond (Option ((List Value × Mem) ⊕ (Nat × Lo × List Value))) (true && gRecv M (.ref 633) 11 && gRoom [] && true) (some (.inr (162, [some (.ref 633), none, none, none], []))) none = _; rw [recv_s hS.1 qa_633 qo_61]; rfl)) H
    have K4 : Ev none e1 162 0 [some (.ref 633), none, none, none] [] M vK4 MK4 0 0 := K4
    have HF := H
    exact Or.inr (⟨h2, ⟨e1, vK4, MK4, rfl, K4, HF⟩⟩)
theorem snq_13 {e : Nat} {M M' : Mem} {v : Option Value} {y : Int32} {c1 : Option Value} (hS : SQ M) (H : Ev none e 166 13 [some (.ref 633), c1] [.int y] M v M' 0 0) : v = some (.int y) ∧ M' = M := by
  obtain ⟨z1, z2⟩ := Ev.retz rfl rfl H
  exact ⟨z1, z2⟩
theorem snq_18 {e : Nat} {M M' : Mem} {v : Option Value} {c1 : Option Value} (hS : SQ M) (H : Ev none e 166 18 [some (.ref 633), c1] [] M v M' 0 0) : v = some (.int 1) ∧ M' = M := by
  have H : Ev none e 166 19 [some (.ref 633), c1] [.int 1] M v M' 0 0 := Ev.back 1 (fun n => rfl) H
  obtain ⟨z1, z2⟩ := Ev.retz rfl rfl H
  exact ⟨z1, z2⟩
theorem tkq_0 {e : Nat} {M M' : Mem} {v : Option Value} {lo hi : Int32} (hS : SQ M) (H : Ev none e 167 0 [some (.ref 633), some (.int lo), some (.int hi)] [] M v M' 0 0) : ((zI M 633 22) = 2 ∧ (G_140 M (zI M 633 25) lo hi) = 0 ∧ (∃ e1 v1 M1, e = e1 + 1 ∧ Ev none e1 163 0 [some (.ref 633), some (.int 2)] [] M v1 M1 0 0 ∧ Ev none e 167 31 [some (.ref 633), some (.int lo), some (.int hi)] (v1.toList ++ []) M1 v M' 0 0)) ∨ ((zI M 633 22) = 2 ∧ ¬ ((G_140 M (zI M 633 25) lo hi) = 0) ∧ (∃ e1 v1 M1, e = e1 + 1 ∧ Ev none e1 162 0 [some (.ref 633), none, none, none] [] (wF M 633 32 (zI M 633 25)) v1 M1 0 0 ∧ Ev none e 167 44 [some (.ref 633), some (.int lo), some (.int hi)] (v1.toList ++ []) M1 v M' 0 0)) ∨ (¬ ((zI M 633 22) = 2) ∧ (∃ e1 v1 M1, e = e1 + 1 ∧ Ev none e1 163 0 [some (.ref 633), some (.int 1)] [] M v1 M1 0 0 ∧ Ev none e 167 13 [some (.ref 633), some (.int lo), some (.int hi)] (v1.toList ++ []) M1 v M' 0 0)) := by
  have H : Ev none e 167 1 [some (.ref 633), some (.int lo), some (.int hi)] [.ref 633] M v M' 0 0 := Ev.back 1 (fun n => rfl) H
  have H : Ev none e 167 4 [some (.ref 633), some (.int lo), some (.int hi)] [.int (zI M 633 22)] M v M' 0 0 := Ev.back 1 (gs_3 rfl rfl (gf_i hS.1 qa_633 qi_61_22 rfl)) H
  have H : Ev none e 167 (if (zI M 633 22) = 2 then 14 else 8) [some (.ref 633), some (.int lo), some (.int hi)] [] M v M' 0 0 := Ev.back 2 (fun n => rfl) H
  by_cases h1 : (zI M 633 22) = 2
  · rw [if_pos h1] at H
    have H : Ev none e 167 15 [some (.ref 633), some (.int lo), some (.int hi)] [.ref 633] M v M' 0 0 := Ev.back 1 (fun n => rfl) H
    have H : Ev none e 167 18 [some (.ref 633), some (.int lo), some (.int hi)] [.int (zI M 633 25)] M v M' 0 0 := Ev.back 1 (gs_3 rfl rfl (gf_i hS.1 qa_633 qi_61_25 rfl)) H
    have H : Ev none e 167 20 [some (.ref 633), some (.int lo), some (.int hi)] [.int hi, .int lo, .int (zI M 633 25)] M v M' 0 0 := Ev.back 2 (fun n => rfl) H
    obtain ⟨e1, rfl⟩ := Ev.dpos rfl rfl H
    obtain ⟨vK2, MK2, K2, H⟩ := Ev.callb (fun n => rfl) H
    obtain ⟨pK2, qK2⟩ := g_140 hS K2
    rw [pK2, qK2] at H
    have H : Ev none (e1 + 1) 167 23 [some (.ref 633), some (.int lo), some (.int hi)] [.int (G_140 M (zI M 633 25) lo hi)] M v M' 0 0 := H
    have H : Ev none (e1 + 1) 167 (if (G_140 M (zI M 633 25) lo hi) = 0 then 26 else 32) [some (.ref 633), some (.int lo), some (.int hi)] [] M v M' 0 0 := Ev.back 1 (fun n => rfl) H
    by_cases h3 : (G_140 M (zI M 633 25) lo hi) = 0
    · rw [if_pos h3] at H
      have H : Ev none (e1 + 1) 167 28 [some (.ref 633), some (.int lo), some (.int hi)] [.int 2, .ref 633] M v M' 0 0 := Ev.back 2 (fun n => rfl) H
      obtain ⟨vK4, MK4, K4, H⟩ := Ev.callb (fun n => gs_7 rfl rfl (show gCal (.invokevirtual 198) 11 (.int 2 :: .ref 633 :: []) M = some (.inr (163, [some (.ref 633), some (.int 2)], [])) from by show @cond (Option ((List Value × Mem) ⊕ (Nat × Lo × List Value))) (true && gRecv M (.ref 633) 11 && gRoom [] && true) (some (.inr (163, [some (.ref 633), some (.int 2)], []))) none = _; rw [recv_s hS.1 qa_633 qo_61]; rfl)) H
      have K4 : Ev none e1 163 0 [some (.ref 633), some (.int 2)] [] M vK4 MK4 0 0 := K4
      have HF := H
      exact Or.inl ⟨h1, h3, ⟨e1, vK4, MK4, rfl, K4, HF⟩⟩
    · rw [if_neg h3] at H
      have H : Ev none (e1 + 1) 167 34 [some (.ref 633), some (.int lo), some (.int hi)] [.ref 633, .ref 633] M v M' 0 0 := Ev.back 2 (fun n => rfl) H
      have H : Ev none (e1 + 1) 167 37 [some (.ref 633), some (.int lo), some (.int hi)] [.int (zI M 633 25), .ref 633] M v M' 0 0 := Ev.back 1 (gs_3 rfl rfl (gf_i hS.1 qa_633 qi_61_25 rfl)) H
      obtain ⟨N6, eN6⟩ : ∃ N, N = (wF M 633 32 (zI M 633 25)) := ⟨_, rfl⟩
      have hN6 : SQ N6 := by rw [eN6]; exact hS.kf
      have H : Ev none (e1 + 1) 167 40 [some (.ref 633), some (.int lo), some (.int hi)] [] N6 v M' 0 0 := by rw [eN6]; exact Ev.pfi rfl rfl rfl hS.1 qa_633 qi_61_32 H
      have H : Ev none (e1 + 1) 167 41 [some (.ref 633), some (.int lo), some (.int hi)] [.ref 633] N6 v M' 0 0 := Ev.back 1 (fun n => rfl) H
      obtain ⟨vK7, MK7, K7, H⟩ := Ev.callb (fun n => gs_7 rfl rfl (show gCal (.invokevirtual 201) 11 (.ref 633 :: []) N6 = some (.inr (162, [some (.ref 633), none, none, none], [])) from by show @cond (Option ((List Value × Mem) ⊕ (Nat × Lo × List Value))) (true && gRecv N6 (.ref 633) 11 && gRoom [] && true) (some (.inr (162, [some (.ref 633), none, none, none], []))) none = _; rw [recv_s hN6.1 qa_633 qo_61]; rfl)) H
      have K7 : Ev none e1 162 0 [some (.ref 633), none, none, none] [] N6 vK7 MK7 0 0 := K7
      have HF := H
      subst eN6
      exact Or.inr (Or.inl ⟨h1, h3, ⟨e1, vK7, MK7, rfl, K7, HF⟩⟩)
  · rw [if_neg h1] at H
    have H : Ev none e 167 10 [some (.ref 633), some (.int lo), some (.int hi)] [.int 1, .ref 633] M v M' 0 0 := Ev.back 2 (fun n => rfl) H
    obtain ⟨e1, rfl⟩ := Ev.dpos rfl rfl H
    obtain ⟨vK8, MK8, K8, H⟩ := Ev.callb (fun n => gs_7 rfl rfl (show gCal (.invokevirtual 198) 11 (.int 1 :: .ref 633 :: []) M = some (.inr (163, [some (.ref 633), some (.int 1)], [])) from by show @cond (Option ((List Value × Mem) ⊕ (Nat × Lo × List Value))) (true && gRecv M (.ref 633) 11 && gRoom [] && true) (some (.inr (163, [some (.ref 633), some (.int 1)], []))) none = _; rw [recv_s hS.1 qa_633 qo_61]; rfl)) H
    have K8 : Ev none e1 163 0 [some (.ref 633), some (.int 1)] [] M vK8 MK8 0 0 := K8
    have HF := H
    exact Or.inr (Or.inr (⟨h1, ⟨e1, vK8, MK8, rfl, K8, HF⟩⟩))
theorem tkq_13 {e : Nat} {M M' : Mem} {v : Option Value} {lo hi y : Int32} (hS : SQ M) (H : Ev none e 167 13 [some (.ref 633), some (.int lo), some (.int hi)] [.int y] M v M' 0 0) : v = some (.int y) ∧ M' = M := by
  obtain ⟨z1, z2⟩ := Ev.retz rfl rfl H
  exact ⟨z1, z2⟩
theorem tkq_31 {e : Nat} {M M' : Mem} {v : Option Value} {lo hi y : Int32} (hS : SQ M) (H : Ev none e 167 31 [some (.ref 633), some (.int lo), some (.int hi)] [.int y] M v M' 0 0) : v = some (.int y) ∧ M' = M := by
  obtain ⟨z1, z2⟩ := Ev.retz rfl rfl H
  exact ⟨z1, z2⟩
theorem tkq_44 {e : Nat} {M M' : Mem} {v : Option Value} {lo hi : Int32} (hS : SQ M) (H : Ev none e 167 44 [some (.ref 633), some (.int lo), some (.int hi)] [] M v M' 0 0) : v = some (.int 1) ∧ M' = M := by
  have H : Ev none e 167 45 [some (.ref 633), some (.int lo), some (.int hi)] [.int 1] M v M' 0 0 := Ev.back 1 (fun n => rfl) H
  obtain ⟨z1, z2⟩ := Ev.retz rfl rfl H
  exact ⟨z1, z2⟩
theorem fdq_0 {e : Nat} {M M' : Mem} {v : Option Value} {t k : Int32} (hS : SQ M) (H : Ev none e 172 0 [some (.ref 633), some (.int t), some (.int k), none] [] M v M' 0 0) : Ev none e 172 5 [some (.ref 633), some (.int t), some (.int k), some (.int (16 * t))] [] M v M' 0 0 := by
  have H : Ev none e 172 5 [some (.ref 633), some (.int t), some (.int k), some (.int (16 * t))] [] M v M' 0 0 := Ev.back 4 (fun n => rfl) H
  have HF := H
  exact HF
theorem fdq_5 {e : Nat} {M M' : Mem} {v : Option Value} {t k j : Int32} (hS : SQ M) (H : Ev none e 172 5 [some (.ref 633), some (.int t), some (.int k), some (.int j)] [] M v M' 0 0) : (((16 * t) + (rI M 639 t)) ≤ j ∧ (0 ≤ t.toInt ∧ t.toInt < 8) ∧ v = some (.int (-1)) ∧ M' = M) ∨ (¬ (((16 * t) + (rI M 639 t)) ≤ j) ∧ (rI M 640 j) = k ∧ (0 ≤ t.toInt ∧ t.toInt < 8) ∧ (0 ≤ j.toInt ∧ j.toInt < 128) ∧ v = some (.int j) ∧ M' = M) ∨ (¬ (((16 * t) + (rI M 639 t)) ≤ j) ∧ ¬ ((rI M 640 j) = k) ∧ (0 ≤ t.toInt ∧ t.toInt < 8) ∧ (0 ≤ j.toInt ∧ j.toInt < 128) ∧ Ev none e 172 5 [some (.ref 633), some (.int t), some (.int k), some (.int (j + 1))] [] M v M' 0 0) := by
  have H : Ev none e 172 11 [some (.ref 633), some (.int t), some (.int k), some (.int j)] [.ref 633, .int (16 * t), .int j] M v M' 0 0 := Ev.back 5 (fun n => rfl) H
  have H : Ev none e 172 14 [some (.ref 633), some (.int t), some (.int k), some (.int j)] [.ref 639, .int (16 * t), .int j] M v M' 0 0 := Ev.back 1 (gs_3 rfl rfl (gf_u hS.1 qa_633 qr_61_9 qu_67 rfl)) H
  have H : Ev none e 172 15 [some (.ref 633), some (.int t), some (.int k), some (.int j)] [.int t, .ref 639, .int (16 * t), .int j] M v M' 0 0 := Ev.back 1 (fun n => rfl) H
  obtain ⟨b1, H⟩ := Ev.ial rfl rfl hS.1 qa_639 qw_67 H
  have H : Ev none e 172 16 [some (.ref 633), some (.int t), some (.int k), some (.int j)] [.int (rI M 639 t), .int (16 * t), .int j] M v M' 0 0 := H
  have H : Ev none e 172 (if ((16 * t) + (rI M 639 t)) ≤ j then 38 else 20) [some (.ref 633), some (.int t), some (.int k), some (.int j)] [] M v M' 0 0 := Ev.back 2 (fun n => rfl) H
  by_cases h2 : ((16 * t) + (rI M 639 t)) ≤ j
  · rw [if_pos h2] at H
    have H : Ev none e 172 39 [some (.ref 633), some (.int t), some (.int k), some (.int j)] [.int (-1)] M v M' 0 0 := Ev.back 1 (fun n => rfl) H
    obtain ⟨z1, z2⟩ := Ev.retz rfl rfl H
    exact Or.inl ⟨h2, b1, z1, z2⟩
  · rw [if_neg h2] at H
    have H : Ev none e 172 21 [some (.ref 633), some (.int t), some (.int k), some (.int j)] [.ref 633] M v M' 0 0 := Ev.back 1 (fun n => rfl) H
    have H : Ev none e 172 24 [some (.ref 633), some (.int t), some (.int k), some (.int j)] [.ref 640] M v M' 0 0 := Ev.back 1 (gs_3 rfl rfl (gf_u hS.1 qa_633 qr_61_10 qu_68 rfl)) H
    have H : Ev none e 172 25 [some (.ref 633), some (.int t), some (.int k), some (.int j)] [.int j, .ref 640] M v M' 0 0 := Ev.back 1 (fun n => rfl) H
    obtain ⟨b3, H⟩ := Ev.ial rfl rfl hS.1 qa_640 qw_68 H
    have H : Ev none e 172 26 [some (.ref 633), some (.int t), some (.int k), some (.int j)] [.int (rI M 640 j)] M v M' 0 0 := H
    have H : Ev none e 172 (if (rI M 640 j) = k then 30 else 32) [some (.ref 633), some (.int t), some (.int k), some (.int j)] [] M v M' 0 0 := Ev.back 2 (fun n => rfl) H
    by_cases h4 : (rI M 640 j) = k
    · rw [if_pos h4] at H
      have H : Ev none e 172 31 [some (.ref 633), some (.int t), some (.int k), some (.int j)] [.int j] M v M' 0 0 := Ev.back 1 (fun n => rfl) H
      obtain ⟨z1, z2⟩ := Ev.retz rfl rfl H
      exact Or.inr (Or.inl ⟨h2, h4, b1, b3, z1, z2⟩)
    · rw [if_neg h4] at H
      have H : Ev none e 172 5 [some (.ref 633), some (.int t), some (.int k), some (.int (j + 1))] [] M v M' 0 0 := Ev.back 2 (fun n => rfl) H
      have HF := H
      exact Or.inr (Or.inr (⟨h2, h4, b1, b3, HF⟩))
theorem rlq0_0 {e : Nat} {M M' : Mem} {v : Option Value} {i : Int32} (hS : SQ M) (H : Ev none e 170 0 [some (.ref 633), some (.int i), some (.int 0), none] [] M v M' 0 0) : (∃ e1 v1 M1, e = e1 + 1 ∧ Ev none e1 167 0 [some (.ref 633), some (.int 0), some (.int 999)] [] M v1 M1 0 0 ∧ Ev none e 170 75 [some (.ref 633), some (.int i), some (.int 0), none] (v1.toList ++ []) M1 v M' 0 0) := by
  have H : Ev none e 170 (if 0 = 5 then 5 else 31) [some (.ref 633), some (.int i), some (.int 0), none] [] M v M' 0 0 := Ev.back 3 (fun n => rfl) H
  rw [if_neg (by decide)] at H
  have H : Ev none e 170 (if 0 = 6 then 90 else 37) [some (.ref 633), some (.int i), some (.int 0), none] [] M v M' 0 0 := Ev.back 3 (fun n => rfl) H
  rw [if_neg (by decide)] at H
  have H : Ev none e 170 (if 0 = 2 then 43 else 47) [some (.ref 633), some (.int i), some (.int 0), none] [.ref 633] M v M' 0 0 := Ev.back 4 (fun n => rfl) H
  rw [if_neg (by decide)] at H
  have H : Ev none e 170 (if 0 = 5 then 53 else 58) [some (.ref 633), some (.int i), some (.int 0), none] [.int 0, .ref 633] M v M' 0 0 := Ev.back 4 (fun n => rfl) H
  rw [if_neg (by decide)] at H
  have H : Ev none e 170 (if 0 = 7 then 64 else 69) [some (.ref 633), some (.int i), some (.int 0), none] [.int 0, .ref 633] M v M' 0 0 := Ev.back 3 (fun n => rfl) H
  rw [if_neg (by decide)] at H
  have H : Ev none e 170 72 [some (.ref 633), some (.int i), some (.int 0), none] [.int 999, .int 0, .ref 633] M v M' 0 0 := Ev.back 1 (fun n => rfl) H
  obtain ⟨e1, rfl⟩ := Ev.dpos rfl rfl H
  obtain ⟨vK1, MK1, K1, H⟩ := Ev.callb (fun n => gs_7 rfl rfl (show gCal (.invokevirtual 240) 11 (.int 999 :: .int 0 :: .ref 633 :: []) M = some (.inr (167, [some (.ref 633), some (.int 0), some (.int 999)], [])) from by show @cond (Option ((List Value × Mem) ⊕ (Nat × Lo × List Value))) (true && gRecv M (.ref 633) 11 && gRoom [] && true) (some (.inr (167, [some (.ref 633), some (.int 0), some (.int 999)], []))) none = _; rw [recv_s hS.1 qa_633 qo_61]; rfl)) H
  have K1 : Ev none e1 167 0 [some (.ref 633), some (.int 0), some (.int 999)] [] M vK1 MK1 0 0 := K1
  have HF := H
  exact ⟨e1, vK1, MK1, rfl, K1, HF⟩
theorem rlq0_75 {e : Nat} {M M' : Mem} {v : Option Value} {i y : Int32} {c3 : Option Value} (hS : SQ M) (H : Ev none e 170 75 [some (.ref 633), some (.int i), some (.int 0), c3] [.int y] M v M' 0 0) : (y = 0 ∧ v = some (.int 0) ∧ M' = M) ∨ (¬ (y = 0) ∧ (G_164 (wI (wI M 642 i.toNatClampNeg (zI M 633 32)) 643 i.toNatClampNeg (zI M 633 19)) 26982) = 0 ∧ (0 ≤ i.toInt ∧ i.toInt < 128) ∧ (0 ≤ i.toInt ∧ i.toInt < 128) ∧ (0 ≤ i.toInt ∧ i.toInt < 128) ∧ v = some (.int 1) ∧ M' = (wI (wI (wI M 642 i.toNatClampNeg (zI M 633 32)) 643 i.toNatClampNeg (zI M 633 19)) 644 i.toNatClampNeg (zI M 633 19))) ∨ (¬ (y = 0) ∧ ¬ ((G_164 (wI (wI M 642 i.toNatClampNeg (zI M 633 32)) 643 i.toNatClampNeg (zI M 633 19)) 26982) = 0) ∧ (0 ≤ i.toInt ∧ i.toInt < 128) ∧ (0 ≤ i.toInt ∧ i.toInt < 128) ∧ (∃ e1 v1 M1, e = e1 + 1 ∧ Ev none e1 162 0 [some (.ref 633), none, none, none] [] (wI (wI M 642 i.toNatClampNeg (zI M 633 32)) 643 i.toNatClampNeg (zI M 633 19)) v1 M1 0 0 ∧ Ev none e 170 140 [some (.ref 633), some (.int i), some (.int 0), some (.int 0)] (v1.toList ++ []) M1 v M' 0 0)) := by
  have H : Ev none e 170 (if y = 0 then 78 else 80) [some (.ref 633), some (.int i), some (.int 0), c3] [] M v M' 0 0 := Ev.back 1 (fun n => rfl) H
  by_cases h1 : y = 0
  · rw [if_pos h1] at H
    have H : Ev none e 170 79 [some (.ref 633), some (.int i), some (.int 0), c3] [.int 0] M v M' 0 0 := Ev.back 1 (fun n => rfl) H
    obtain ⟨z1, z2⟩ := Ev.retz rfl rfl H
    exact Or.inl ⟨h1, z1, z2⟩
  · rw [if_neg h1] at H
    have H : Ev none e 170 81 [some (.ref 633), some (.int i), some (.int 0), c3] [.ref 633] M v M' 0 0 := Ev.back 1 (fun n => rfl) H
    have H : Ev none e 170 84 [some (.ref 633), some (.int i), some (.int 0), c3] [.ref 642] M v M' 0 0 := Ev.back 1 (gs_3 rfl rfl (gf_u hS.1 qa_633 qr_61_12 qu_70 rfl)) H
    have H : Ev none e 170 86 [some (.ref 633), some (.int i), some (.int 0), c3] [.ref 633, .int i, .ref 642] M v M' 0 0 := Ev.back 2 (fun n => rfl) H
    have H : Ev none e 170 89 [some (.ref 633), some (.int i), some (.int 0), c3] [.int (zI M 633 32), .int i, .ref 642] M v M' 0 0 := Ev.back 1 (gs_3 rfl rfl (gf_i hS.1 qa_633 qi_61_32 rfl)) H
    obtain ⟨b2, H⟩ := Ev.ias rfl rfl hS.1 qa_642 qw_70 H
    obtain ⟨N3, eN3⟩ : ∃ N, N = (wI M 642 i.toNatClampNeg (zI M 633 32)) := ⟨_, rfl⟩
    have hN3 : SQ N3 := by rw [eN3]; exact hS.ki
    have H : Ev none e 170 90 [some (.ref 633), some (.int i), some (.int 0), c3] [] N3 v M' 0 0 := by rw [eN3]; exact H
    have H : Ev none e 170 91 [some (.ref 633), some (.int i), some (.int 0), c3] [.ref 633] N3 v M' 0 0 := Ev.back 1 (fun n => rfl) H
    have H : Ev none e 170 94 [some (.ref 633), some (.int i), some (.int 0), c3] [.ref 643] N3 v M' 0 0 := Ev.back 1 (gs_3 rfl rfl (gf_u hN3.1 qa_633 qr_61_13 qu_71 rfl)) H
    have H : Ev none e 170 96 [some (.ref 633), some (.int i), some (.int 0), c3] [.ref 633, .int i, .ref 643] N3 v M' 0 0 := Ev.back 2 (fun n => rfl) H
    have H : Ev none e 170 99 [some (.ref 633), some (.int i), some (.int 0), c3] [.int (zI N3 633 19), .int i, .ref 643] N3 v M' 0 0 := Ev.back 1 (gs_3 rfl rfl (gf_i hN3.1 qa_633 qi_61_19 rfl)) H
    rw [show zI N3 633 19 = zI M 633 19 from by rw [eN3]; exact fI_wI] at H
    obtain ⟨b4, H⟩ := Ev.ias rfl rfl hN3.1 qa_643 qw_71 H
    obtain ⟨N5, eN5⟩ : ∃ N, N = (wI N3 643 i.toNatClampNeg (zI M 633 19)) := ⟨_, rfl⟩
    have hN5 : SQ N5 := by rw [eN5]; exact hN3.ki
    have H : Ev none e 170 100 [some (.ref 633), some (.int i), some (.int 0), c3] [] N5 v M' 0 0 := by rw [eN5]; exact H
    have H : Ev none e 170 (if 0 = 6 then 106 else 110) [some (.ref 633), some (.int i), some (.int 0), c3] [] N5 v M' 0 0 := Ev.back 3 (fun n => rfl) H
    rw [if_neg (by decide)] at H
    have H : Ev none e 170 (if 0 = 0 then 126 else 116) [some (.ref 633), some (.int i), some (.int 0), some (.int 0)] [] N5 v M' 0 0 := Ev.back 4 (fun n => rfl) H
    rw [if_pos (by decide)] at H
    have H : Ev none e 170 130 [some (.ref 633), some (.int i), some (.int 0), some (.int 0)] [.long 26982, .ref 633] N5 v M' 0 0 := Ev.back 2 (fun n => rfl) H
    obtain ⟨e1, rfl⟩ := Ev.dpos rfl rfl H
    obtain ⟨vK6, MK6, K6, H⟩ := Ev.callb (fun n => gs_7 rfl rfl (show gCal (.invokevirtual 248) 11 (.long 26982 :: .ref 633 :: []) N5 = some (.inr (164, [some (.ref 633), some (.long 26982), none], [])) from by show @cond (Option ((List Value × Mem) ⊕ (Nat × Lo × List Value))) (true && gRecv N5 (.ref 633) 11 && gRoom [] && true) (some (.inr (164, [some (.ref 633), some (.long 26982), none], []))) none = _; rw [recv_s hN5.1 qa_633 qo_61]; rfl)) H
    obtain ⟨pK6, qK6⟩ := g_164 hN5 K6
    rw [pK6, qK6] at H
    have H : Ev none (e1 + 1) 170 133 [some (.ref 633), some (.int i), some (.int 0), some (.int 0)] [.int (G_164 N5 26982)] N5 v M' 0 0 := H
    have H : Ev none (e1 + 1) 170 (if (G_164 N5 26982) = 0 then 142 else 136) [some (.ref 633), some (.int i), some (.int 0), some (.int 0)] [] N5 v M' 0 0 := Ev.back 1 (fun n => rfl) H
    by_cases h7 : (G_164 N5 26982) = 0
    · rw [if_pos h7] at H
      have H : Ev none (e1 + 1) 170 (if 0 = 0 then 155 else 146) [some (.ref 633), some (.int i), some (.int 0), some (.int 0)] [] N5 v M' 0 0 := Ev.back 2 (fun n => rfl) H
      rw [if_pos (by decide)] at H
      have H : Ev none (e1 + 1) 170 156 [some (.ref 633), some (.int i), some (.int 0), some (.int 0)] [.ref 633] N5 v M' 0 0 := Ev.back 1 (fun n => rfl) H
      have H : Ev none (e1 + 1) 170 159 [some (.ref 633), some (.int i), some (.int 0), some (.int 0)] [.ref 644] N5 v M' 0 0 := Ev.back 1 (gs_3 rfl rfl (gf_u hN5.1 qa_633 qr_61_14 qu_72 rfl)) H
      have H : Ev none (e1 + 1) 170 161 [some (.ref 633), some (.int i), some (.int 0), some (.int 0)] [.ref 633, .int i, .ref 644] N5 v M' 0 0 := Ev.back 2 (fun n => rfl) H
      have H : Ev none (e1 + 1) 170 164 [some (.ref 633), some (.int i), some (.int 0), some (.int 0)] [.int (zI N5 633 19), .int i, .ref 644] N5 v M' 0 0 := Ev.back 1 (gs_3 rfl rfl (gf_i hN5.1 qa_633 qi_61_19 rfl)) H
      rw [(show zI N5 633 19 = zI N3 633 19 from by rw [eN5]; exact fI_wI).trans (show zI N3 633 19 = zI M 633 19 from by rw [eN3]; exact fI_wI)] at H
      obtain ⟨b8, H⟩ := Ev.ias rfl rfl hN5.1 qa_644 qw_72 H
      obtain ⟨N9, eN9⟩ : ∃ N, N = (wI N5 644 i.toNatClampNeg (zI M 633 19)) := ⟨_, rfl⟩
      have hN9 : SQ N9 := by rw [eN9]; exact hN5.ki
      have H : Ev none (e1 + 1) 170 165 [some (.ref 633), some (.int i), some (.int 0), some (.int 0)] [] N9 v M' 0 0 := by rw [eN9]; exact H
      have H : Ev none (e1 + 1) 170 166 [some (.ref 633), some (.int i), some (.int 0), some (.int 0)] [.int 1] N9 v M' 0 0 := Ev.back 1 (fun n => rfl) H
      obtain ⟨z1, z2⟩ := Ev.retz rfl rfl H
      subst eN3 eN5 eN9
      exact Or.inr (Or.inl ⟨h1, h7, b2, b4, b8, z1, z2⟩)
    · rw [if_neg h7] at H
      have H : Ev none (e1 + 1) 170 137 [some (.ref 633), some (.int i), some (.int 0), some (.int 0)] [.ref 633] N5 v M' 0 0 := Ev.back 1 (fun n => rfl) H
      obtain ⟨vK10, MK10, K10, H⟩ := Ev.callb (fun n => gs_7 rfl rfl (show gCal (.invokevirtual 201) 11 (.ref 633 :: []) N5 = some (.inr (162, [some (.ref 633), none, none, none], [])) from by show @cond (Option ((List Value × Mem) ⊕ (Nat × Lo × List Value))) (true && gRecv N5 (.ref 633) 11 && gRoom [] && true) (some (.inr (162, [some (.ref 633), none, none, none], []))) none = _; rw [recv_s hN5.1 qa_633 qo_61]; rfl)) H
      have K10 : Ev none e1 162 0 [some (.ref 633), none, none, none] [] N5 vK10 MK10 0 0 := K10
      have HF := H
      subst eN3 eN5
      exact Or.inr (Or.inr (⟨h1, h7, b2, b4, ⟨e1, vK10, MK10, rfl, K10, HF⟩⟩))
theorem rlq0_140 {e : Nat} {M M' : Mem} {v : Option Value} {i : Int32} {c3 : Option Value} (hS : SQ M) (H : Ev none e 170 140 [some (.ref 633), some (.int i), some (.int 0), c3] [] M v M' 0 0) : (∃ e1 v1 M1, e = e1 + 1 ∧ Ev none e1 179 0 [some (.ref 633), none] [] M v1 M1 0 0 ∧ Ev none e 170 150 [some (.ref 633), some (.int i), some (.int 0), some (.int 1)] (v1.toList ++ []) M1 v M' 0 0) := by
  have H : Ev none e 170 (if 1 = 0 then 155 else 146) [some (.ref 633), some (.int i), some (.int 0), some (.int 1)] [] M v M' 0 0 := Ev.back 4 (fun n => rfl) H
  rw [if_neg (by decide)] at H
  have H : Ev none e 170 147 [some (.ref 633), some (.int i), some (.int 0), some (.int 1)] [.ref 633] M v M' 0 0 := Ev.back 1 (fun n => rfl) H
  obtain ⟨e1, rfl⟩ := Ev.dpos rfl rfl H
  obtain ⟨vK1, MK1, K1, H⟩ := Ev.callb (fun n => gs_7 rfl rfl (show gCal (.invokevirtual 252) 11 (.ref 633 :: []) M = some (.inr (179, [some (.ref 633), none], [])) from by show @cond (Option ((List Value × Mem) ⊕ (Nat × Lo × List Value))) (true && gRecv M (.ref 633) 11 && gRoom [] && true) (some (.inr (179, [some (.ref 633), none], []))) none = _; rw [recv_s hS.1 qa_633 qo_61]; rfl)) H
  have K1 : Ev none e1 179 0 [some (.ref 633), none] [] M vK1 MK1 0 0 := K1
  have HF := H
  exact ⟨e1, vK1, MK1, rfl, K1, HF⟩
theorem rlq0_150 {e : Nat} {M M' : Mem} {v : Option Value} {i y : Int32} {c3 : Option Value} (hS : SQ M) (H : Ev none e 170 150 [some (.ref 633), some (.int i), some (.int 0), c3] [.int y] M v M' 0 0) : (y = 0 ∧ v = some (.int 0) ∧ M' = M) ∨ (¬ (y = 0) ∧ (0 ≤ i.toInt ∧ i.toInt < 128) ∧ v = some (.int 1) ∧ M' = (wI M 644 i.toNatClampNeg (zI M 633 19))) := by
  have H : Ev none e 170 (if y = 0 then 153 else 155) [some (.ref 633), some (.int i), some (.int 0), c3] [] M v M' 0 0 := Ev.back 1 (fun n => rfl) H
  by_cases h1 : y = 0
  · rw [if_pos h1] at H
    have H : Ev none e 170 154 [some (.ref 633), some (.int i), some (.int 0), c3] [.int 0] M v M' 0 0 := Ev.back 1 (fun n => rfl) H
    obtain ⟨z1, z2⟩ := Ev.retz rfl rfl H
    exact Or.inl ⟨h1, z1, z2⟩
  · rw [if_neg h1] at H
    have H : Ev none e 170 156 [some (.ref 633), some (.int i), some (.int 0), c3] [.ref 633] M v M' 0 0 := Ev.back 1 (fun n => rfl) H
    have H : Ev none e 170 159 [some (.ref 633), some (.int i), some (.int 0), c3] [.ref 644] M v M' 0 0 := Ev.back 1 (gs_3 rfl rfl (gf_u hS.1 qa_633 qr_61_14 qu_72 rfl)) H
    have H : Ev none e 170 161 [some (.ref 633), some (.int i), some (.int 0), c3] [.ref 633, .int i, .ref 644] M v M' 0 0 := Ev.back 2 (fun n => rfl) H
    have H : Ev none e 170 164 [some (.ref 633), some (.int i), some (.int 0), c3] [.int (zI M 633 19), .int i, .ref 644] M v M' 0 0 := Ev.back 1 (gs_3 rfl rfl (gf_i hS.1 qa_633 qi_61_19 rfl)) H
    obtain ⟨b2, H⟩ := Ev.ias rfl rfl hS.1 qa_644 qw_72 H
    obtain ⟨N3, eN3⟩ : ∃ N, N = (wI M 644 i.toNatClampNeg (zI M 633 19)) := ⟨_, rfl⟩
    have hN3 : SQ N3 := by rw [eN3]; exact hS.ki
    have H : Ev none e 170 165 [some (.ref 633), some (.int i), some (.int 0), c3] [] N3 v M' 0 0 := by rw [eN3]; exact H
    have H : Ev none e 170 166 [some (.ref 633), some (.int i), some (.int 0), c3] [.int 1] N3 v M' 0 0 := Ev.back 1 (fun n => rfl) H
    obtain ⟨z1, z2⟩ := Ev.retz rfl rfl H
    subst eN3
    exact Or.inr (⟨h1, b2, z1, z2⟩)
theorem rlq1_0 {e : Nat} {M M' : Mem} {v : Option Value} {i : Int32} (hS : SQ M) (H : Ev none e 170 0 [some (.ref 633), some (.int i), some (.int 1), none] [] M v M' 0 0) : (∃ e1 v1 M1, e = e1 + 1 ∧ Ev none e1 167 0 [some (.ref 633), some (.int 0), some (.int 999)] [] M v1 M1 0 0 ∧ Ev none e 170 75 [some (.ref 633), some (.int i), some (.int 1), none] (v1.toList ++ []) M1 v M' 0 0) := by
  have H : Ev none e 170 (if 1 = 5 then 5 else 31) [some (.ref 633), some (.int i), some (.int 1), none] [] M v M' 0 0 := Ev.back 3 (fun n => rfl) H
  rw [if_neg (by decide)] at H
  have H : Ev none e 170 (if 1 = 6 then 90 else 37) [some (.ref 633), some (.int i), some (.int 1), none] [] M v M' 0 0 := Ev.back 3 (fun n => rfl) H
  rw [if_neg (by decide)] at H
  have H : Ev none e 170 (if 1 = 2 then 43 else 47) [some (.ref 633), some (.int i), some (.int 1), none] [.ref 633] M v M' 0 0 := Ev.back 4 (fun n => rfl) H
  rw [if_neg (by decide)] at H
  have H : Ev none e 170 (if 1 = 5 then 53 else 58) [some (.ref 633), some (.int i), some (.int 1), none] [.int 0, .ref 633] M v M' 0 0 := Ev.back 4 (fun n => rfl) H
  rw [if_neg (by decide)] at H
  have H : Ev none e 170 (if 1 = 7 then 64 else 69) [some (.ref 633), some (.int i), some (.int 1), none] [.int 0, .ref 633] M v M' 0 0 := Ev.back 3 (fun n => rfl) H
  rw [if_neg (by decide)] at H
  have H : Ev none e 170 72 [some (.ref 633), some (.int i), some (.int 1), none] [.int 999, .int 0, .ref 633] M v M' 0 0 := Ev.back 1 (fun n => rfl) H
  obtain ⟨e1, rfl⟩ := Ev.dpos rfl rfl H
  obtain ⟨vK1, MK1, K1, H⟩ := Ev.callb (fun n => gs_7 rfl rfl (show gCal (.invokevirtual 240) 11 (.int 999 :: .int 0 :: .ref 633 :: []) M = some (.inr (167, [some (.ref 633), some (.int 0), some (.int 999)], [])) from by show @cond (Option ((List Value × Mem) ⊕ (Nat × Lo × List Value))) (true && gRecv M (.ref 633) 11 && gRoom [] && true) (some (.inr (167, [some (.ref 633), some (.int 0), some (.int 999)], []))) none = _; rw [recv_s hS.1 qa_633 qo_61]; rfl)) H
  have K1 : Ev none e1 167 0 [some (.ref 633), some (.int 0), some (.int 999)] [] M vK1 MK1 0 0 := K1
  have HF := H
  exact ⟨e1, vK1, MK1, rfl, K1, HF⟩
theorem rlq1_75 {e : Nat} {M M' : Mem} {v : Option Value} {i y : Int32} {c3 : Option Value} (hS : SQ M) (H : Ev none e 170 75 [some (.ref 633), some (.int i), some (.int 1), c3] [.int y] M v M' 0 0) : (y = 0 ∧ v = some (.int 0) ∧ M' = M) ∨ (¬ (y = 0) ∧ (G_164 (wI (wI M 642 i.toNatClampNeg (zI M 633 32)) 643 i.toNatClampNeg (zI M 633 19)) 26982) = 0 ∧ (0 ≤ i.toInt ∧ i.toInt < 128) ∧ (0 ≤ i.toInt ∧ i.toInt < 128) ∧ (0 ≤ i.toInt ∧ i.toInt < 128) ∧ v = some (.int 1) ∧ M' = (wI (wI (wI M 642 i.toNatClampNeg (zI M 633 32)) 643 i.toNatClampNeg (zI M 633 19)) 644 i.toNatClampNeg (zI M 633 19))) ∨ (¬ (y = 0) ∧ ¬ ((G_164 (wI (wI M 642 i.toNatClampNeg (zI M 633 32)) 643 i.toNatClampNeg (zI M 633 19)) 26982) = 0) ∧ (0 ≤ i.toInt ∧ i.toInt < 128) ∧ (0 ≤ i.toInt ∧ i.toInt < 128) ∧ (∃ e1 v1 M1, e = e1 + 1 ∧ Ev none e1 162 0 [some (.ref 633), none, none, none] [] (wI (wI M 642 i.toNatClampNeg (zI M 633 32)) 643 i.toNatClampNeg (zI M 633 19)) v1 M1 0 0 ∧ Ev none e 170 140 [some (.ref 633), some (.int i), some (.int 1), some (.int 0)] (v1.toList ++ []) M1 v M' 0 0)) := by
  have H : Ev none e 170 (if y = 0 then 78 else 80) [some (.ref 633), some (.int i), some (.int 1), c3] [] M v M' 0 0 := Ev.back 1 (fun n => rfl) H
  by_cases h1 : y = 0
  · rw [if_pos h1] at H
    have H : Ev none e 170 79 [some (.ref 633), some (.int i), some (.int 1), c3] [.int 0] M v M' 0 0 := Ev.back 1 (fun n => rfl) H
    obtain ⟨z1, z2⟩ := Ev.retz rfl rfl H
    exact Or.inl ⟨h1, z1, z2⟩
  · rw [if_neg h1] at H
    have H : Ev none e 170 81 [some (.ref 633), some (.int i), some (.int 1), c3] [.ref 633] M v M' 0 0 := Ev.back 1 (fun n => rfl) H
    have H : Ev none e 170 84 [some (.ref 633), some (.int i), some (.int 1), c3] [.ref 642] M v M' 0 0 := Ev.back 1 (gs_3 rfl rfl (gf_u hS.1 qa_633 qr_61_12 qu_70 rfl)) H
    have H : Ev none e 170 86 [some (.ref 633), some (.int i), some (.int 1), c3] [.ref 633, .int i, .ref 642] M v M' 0 0 := Ev.back 2 (fun n => rfl) H
    have H : Ev none e 170 89 [some (.ref 633), some (.int i), some (.int 1), c3] [.int (zI M 633 32), .int i, .ref 642] M v M' 0 0 := Ev.back 1 (gs_3 rfl rfl (gf_i hS.1 qa_633 qi_61_32 rfl)) H
    obtain ⟨b2, H⟩ := Ev.ias rfl rfl hS.1 qa_642 qw_70 H
    obtain ⟨N3, eN3⟩ : ∃ N, N = (wI M 642 i.toNatClampNeg (zI M 633 32)) := ⟨_, rfl⟩
    have hN3 : SQ N3 := by rw [eN3]; exact hS.ki
    have H : Ev none e 170 90 [some (.ref 633), some (.int i), some (.int 1), c3] [] N3 v M' 0 0 := by rw [eN3]; exact H
    have H : Ev none e 170 91 [some (.ref 633), some (.int i), some (.int 1), c3] [.ref 633] N3 v M' 0 0 := Ev.back 1 (fun n => rfl) H
    have H : Ev none e 170 94 [some (.ref 633), some (.int i), some (.int 1), c3] [.ref 643] N3 v M' 0 0 := Ev.back 1 (gs_3 rfl rfl (gf_u hN3.1 qa_633 qr_61_13 qu_71 rfl)) H
    have H : Ev none e 170 96 [some (.ref 633), some (.int i), some (.int 1), c3] [.ref 633, .int i, .ref 643] N3 v M' 0 0 := Ev.back 2 (fun n => rfl) H
    have H : Ev none e 170 99 [some (.ref 633), some (.int i), some (.int 1), c3] [.int (zI N3 633 19), .int i, .ref 643] N3 v M' 0 0 := Ev.back 1 (gs_3 rfl rfl (gf_i hN3.1 qa_633 qi_61_19 rfl)) H
    rw [show zI N3 633 19 = zI M 633 19 from by rw [eN3]; exact fI_wI] at H
    obtain ⟨b4, H⟩ := Ev.ias rfl rfl hN3.1 qa_643 qw_71 H
    obtain ⟨N5, eN5⟩ : ∃ N, N = (wI N3 643 i.toNatClampNeg (zI M 633 19)) := ⟨_, rfl⟩
    have hN5 : SQ N5 := by rw [eN5]; exact hN3.ki
    have H : Ev none e 170 100 [some (.ref 633), some (.int i), some (.int 1), c3] [] N5 v M' 0 0 := by rw [eN5]; exact H
    have H : Ev none e 170 (if 1 = 6 then 106 else 110) [some (.ref 633), some (.int i), some (.int 1), c3] [] N5 v M' 0 0 := Ev.back 3 (fun n => rfl) H
    rw [if_neg (by decide)] at H
    have H : Ev none e 170 (if 1 = 0 then 126 else 116) [some (.ref 633), some (.int i), some (.int 1), some (.int 0)] [] N5 v M' 0 0 := Ev.back 4 (fun n => rfl) H
    rw [if_neg (by decide)] at H
    have H : Ev none e 170 (if 1 = 1 then 126 else 121) [some (.ref 633), some (.int i), some (.int 1), some (.int 0)] [] N5 v M' 0 0 := Ev.back 3 (fun n => rfl) H
    rw [if_pos (by decide)] at H
    have H : Ev none e 170 130 [some (.ref 633), some (.int i), some (.int 1), some (.int 0)] [.long 26982, .ref 633] N5 v M' 0 0 := Ev.back 2 (fun n => rfl) H
    obtain ⟨e1, rfl⟩ := Ev.dpos rfl rfl H
    obtain ⟨vK6, MK6, K6, H⟩ := Ev.callb (fun n => gs_7 rfl rfl (show gCal (.invokevirtual 248) 11 (.long 26982 :: .ref 633 :: []) N5 = some (.inr (164, [some (.ref 633), some (.long 26982), none], [])) from by show @cond (Option ((List Value × Mem) ⊕ (Nat × Lo × List Value))) (true && gRecv N5 (.ref 633) 11 && gRoom [] && true) (some (.inr (164, [some (.ref 633), some (.long 26982), none], []))) none = _; rw [recv_s hN5.1 qa_633 qo_61]; rfl)) H
    obtain ⟨pK6, qK6⟩ := g_164 hN5 K6
    rw [pK6, qK6] at H
    have H : Ev none (e1 + 1) 170 133 [some (.ref 633), some (.int i), some (.int 1), some (.int 0)] [.int (G_164 N5 26982)] N5 v M' 0 0 := H
    have H : Ev none (e1 + 1) 170 (if (G_164 N5 26982) = 0 then 142 else 136) [some (.ref 633), some (.int i), some (.int 1), some (.int 0)] [] N5 v M' 0 0 := Ev.back 1 (fun n => rfl) H
    by_cases h7 : (G_164 N5 26982) = 0
    · rw [if_pos h7] at H
      have H : Ev none (e1 + 1) 170 (if 0 = 0 then 155 else 146) [some (.ref 633), some (.int i), some (.int 1), some (.int 0)] [] N5 v M' 0 0 := Ev.back 2 (fun n => rfl) H
      rw [if_pos (by decide)] at H
      have H : Ev none (e1 + 1) 170 156 [some (.ref 633), some (.int i), some (.int 1), some (.int 0)] [.ref 633] N5 v M' 0 0 := Ev.back 1 (fun n => rfl) H
      have H : Ev none (e1 + 1) 170 159 [some (.ref 633), some (.int i), some (.int 1), some (.int 0)] [.ref 644] N5 v M' 0 0 := Ev.back 1 (gs_3 rfl rfl (gf_u hN5.1 qa_633 qr_61_14 qu_72 rfl)) H
      have H : Ev none (e1 + 1) 170 161 [some (.ref 633), some (.int i), some (.int 1), some (.int 0)] [.ref 633, .int i, .ref 644] N5 v M' 0 0 := Ev.back 2 (fun n => rfl) H
      have H : Ev none (e1 + 1) 170 164 [some (.ref 633), some (.int i), some (.int 1), some (.int 0)] [.int (zI N5 633 19), .int i, .ref 644] N5 v M' 0 0 := Ev.back 1 (gs_3 rfl rfl (gf_i hN5.1 qa_633 qi_61_19 rfl)) H
      rw [(show zI N5 633 19 = zI N3 633 19 from by rw [eN5]; exact fI_wI).trans (show zI N3 633 19 = zI M 633 19 from by rw [eN3]; exact fI_wI)] at H
      obtain ⟨b8, H⟩ := Ev.ias rfl rfl hN5.1 qa_644 qw_72 H
      obtain ⟨N9, eN9⟩ : ∃ N, N = (wI N5 644 i.toNatClampNeg (zI M 633 19)) := ⟨_, rfl⟩
      have hN9 : SQ N9 := by rw [eN9]; exact hN5.ki
      have H : Ev none (e1 + 1) 170 165 [some (.ref 633), some (.int i), some (.int 1), some (.int 0)] [] N9 v M' 0 0 := by rw [eN9]; exact H
      have H : Ev none (e1 + 1) 170 166 [some (.ref 633), some (.int i), some (.int 1), some (.int 0)] [.int 1] N9 v M' 0 0 := Ev.back 1 (fun n => rfl) H
      obtain ⟨z1, z2⟩ := Ev.retz rfl rfl H
      subst eN3 eN5 eN9
      exact Or.inr (Or.inl ⟨h1, h7, b2, b4, b8, z1, z2⟩)
    · rw [if_neg h7] at H
      have H : Ev none (e1 + 1) 170 137 [some (.ref 633), some (.int i), some (.int 1), some (.int 0)] [.ref 633] N5 v M' 0 0 := Ev.back 1 (fun n => rfl) H
      obtain ⟨vK10, MK10, K10, H⟩ := Ev.callb (fun n => gs_7 rfl rfl (show gCal (.invokevirtual 201) 11 (.ref 633 :: []) N5 = some (.inr (162, [some (.ref 633), none, none, none], [])) from by show @cond (Option ((List Value × Mem) ⊕ (Nat × Lo × List Value))) (true && gRecv N5 (.ref 633) 11 && gRoom [] && true) (some (.inr (162, [some (.ref 633), none, none, none], []))) none = _; rw [recv_s hN5.1 qa_633 qo_61]; rfl)) H
      have K10 : Ev none e1 162 0 [some (.ref 633), none, none, none] [] N5 vK10 MK10 0 0 := K10
      have HF := H
      subst eN3 eN5
      exact Or.inr (Or.inr (⟨h1, h7, b2, b4, ⟨e1, vK10, MK10, rfl, K10, HF⟩⟩))
theorem rlq1_140 {e : Nat} {M M' : Mem} {v : Option Value} {i : Int32} {c3 : Option Value} (hS : SQ M) (H : Ev none e 170 140 [some (.ref 633), some (.int i), some (.int 1), c3] [] M v M' 0 0) : (∃ e1 v1 M1, e = e1 + 1 ∧ Ev none e1 179 0 [some (.ref 633), none] [] M v1 M1 0 0 ∧ Ev none e 170 150 [some (.ref 633), some (.int i), some (.int 1), some (.int 1)] (v1.toList ++ []) M1 v M' 0 0) := by
  have H : Ev none e 170 (if 1 = 0 then 155 else 146) [some (.ref 633), some (.int i), some (.int 1), some (.int 1)] [] M v M' 0 0 := Ev.back 4 (fun n => rfl) H
  rw [if_neg (by decide)] at H
  have H : Ev none e 170 147 [some (.ref 633), some (.int i), some (.int 1), some (.int 1)] [.ref 633] M v M' 0 0 := Ev.back 1 (fun n => rfl) H
  obtain ⟨e1, rfl⟩ := Ev.dpos rfl rfl H
  obtain ⟨vK1, MK1, K1, H⟩ := Ev.callb (fun n => gs_7 rfl rfl (show gCal (.invokevirtual 252) 11 (.ref 633 :: []) M = some (.inr (179, [some (.ref 633), none], [])) from by show @cond (Option ((List Value × Mem) ⊕ (Nat × Lo × List Value))) (true && gRecv M (.ref 633) 11 && gRoom [] && true) (some (.inr (179, [some (.ref 633), none], []))) none = _; rw [recv_s hS.1 qa_633 qo_61]; rfl)) H
  have K1 : Ev none e1 179 0 [some (.ref 633), none] [] M vK1 MK1 0 0 := K1
  have HF := H
  exact ⟨e1, vK1, MK1, rfl, K1, HF⟩
theorem rlq1_150 {e : Nat} {M M' : Mem} {v : Option Value} {i y : Int32} {c3 : Option Value} (hS : SQ M) (H : Ev none e 170 150 [some (.ref 633), some (.int i), some (.int 1), c3] [.int y] M v M' 0 0) : (y = 0 ∧ v = some (.int 0) ∧ M' = M) ∨ (¬ (y = 0) ∧ (0 ≤ i.toInt ∧ i.toInt < 128) ∧ v = some (.int 1) ∧ M' = (wI M 644 i.toNatClampNeg (zI M 633 19))) := by
  have H : Ev none e 170 (if y = 0 then 153 else 155) [some (.ref 633), some (.int i), some (.int 1), c3] [] M v M' 0 0 := Ev.back 1 (fun n => rfl) H
  by_cases h1 : y = 0
  · rw [if_pos h1] at H
    have H : Ev none e 170 154 [some (.ref 633), some (.int i), some (.int 1), c3] [.int 0] M v M' 0 0 := Ev.back 1 (fun n => rfl) H
    obtain ⟨z1, z2⟩ := Ev.retz rfl rfl H
    exact Or.inl ⟨h1, z1, z2⟩
  · rw [if_neg h1] at H
    have H : Ev none e 170 156 [some (.ref 633), some (.int i), some (.int 1), c3] [.ref 633] M v M' 0 0 := Ev.back 1 (fun n => rfl) H
    have H : Ev none e 170 159 [some (.ref 633), some (.int i), some (.int 1), c3] [.ref 644] M v M' 0 0 := Ev.back 1 (gs_3 rfl rfl (gf_u hS.1 qa_633 qr_61_14 qu_72 rfl)) H
    have H : Ev none e 170 161 [some (.ref 633), some (.int i), some (.int 1), c3] [.ref 633, .int i, .ref 644] M v M' 0 0 := Ev.back 2 (fun n => rfl) H
    have H : Ev none e 170 164 [some (.ref 633), some (.int i), some (.int 1), c3] [.int (zI M 633 19), .int i, .ref 644] M v M' 0 0 := Ev.back 1 (gs_3 rfl rfl (gf_i hS.1 qa_633 qi_61_19 rfl)) H
    obtain ⟨b2, H⟩ := Ev.ias rfl rfl hS.1 qa_644 qw_72 H
    obtain ⟨N3, eN3⟩ : ∃ N, N = (wI M 644 i.toNatClampNeg (zI M 633 19)) := ⟨_, rfl⟩
    have hN3 : SQ N3 := by rw [eN3]; exact hS.ki
    have H : Ev none e 170 165 [some (.ref 633), some (.int i), some (.int 1), c3] [] N3 v M' 0 0 := by rw [eN3]; exact H
    have H : Ev none e 170 166 [some (.ref 633), some (.int i), some (.int 1), c3] [.int 1] N3 v M' 0 0 := Ev.back 1 (fun n => rfl) H
    obtain ⟨z1, z2⟩ := Ev.retz rfl rfl H
    subst eN3
    exact Or.inr (⟨h1, b2, z1, z2⟩)
theorem rlq2_0 {e : Nat} {M M' : Mem} {v : Option Value} {i : Int32} (hS : SQ M) (H : Ev none e 170 0 [some (.ref 633), some (.int i), some (.int 2), none] [] M v M' 0 0) : (∃ e1 v1 M1, e = e1 + 1 ∧ Ev none e1 167 0 [some (.ref 633), some (.int 1), some (.int 999)] [] M v1 M1 0 0 ∧ Ev none e 170 75 [some (.ref 633), some (.int i), some (.int 2), none] (v1.toList ++ []) M1 v M' 0 0) := by
  have H : Ev none e 170 (if 2 = 5 then 5 else 31) [some (.ref 633), some (.int i), some (.int 2), none] [] M v M' 0 0 := Ev.back 3 (fun n => rfl) H
  rw [if_neg (by decide)] at H
  have H : Ev none e 170 (if 2 = 6 then 90 else 37) [some (.ref 633), some (.int i), some (.int 2), none] [] M v M' 0 0 := Ev.back 3 (fun n => rfl) H
  rw [if_neg (by decide)] at H
  have H : Ev none e 170 (if 2 = 2 then 43 else 47) [some (.ref 633), some (.int i), some (.int 2), none] [.ref 633] M v M' 0 0 := Ev.back 4 (fun n => rfl) H
  rw [if_pos (by decide)] at H
  have H : Ev none e 170 (if 2 = 5 then 53 else 58) [some (.ref 633), some (.int i), some (.int 2), none] [.int 1, .ref 633] M v M' 0 0 := Ev.back 5 (fun n => rfl) H
  rw [if_neg (by decide)] at H
  have H : Ev none e 170 (if 2 = 7 then 64 else 69) [some (.ref 633), some (.int i), some (.int 2), none] [.int 1, .ref 633] M v M' 0 0 := Ev.back 3 (fun n => rfl) H
  rw [if_neg (by decide)] at H
  have H : Ev none e 170 72 [some (.ref 633), some (.int i), some (.int 2), none] [.int 999, .int 1, .ref 633] M v M' 0 0 := Ev.back 1 (fun n => rfl) H
  obtain ⟨e1, rfl⟩ := Ev.dpos rfl rfl H
  obtain ⟨vK1, MK1, K1, H⟩ := Ev.callb (fun n => gs_7 rfl rfl (show gCal (.invokevirtual 240) 11 (.int 999 :: .int 1 :: .ref 633 :: []) M = some (.inr (167, [some (.ref 633), some (.int 1), some (.int 999)], [])) from by show @cond (Option ((List Value × Mem) ⊕ (Nat × Lo × List Value))) (true && gRecv M (.ref 633) 11 && gRoom [] && true) (some (.inr (167, [some (.ref 633), some (.int 1), some (.int 999)], []))) none = _; rw [recv_s hS.1 qa_633 qo_61]; rfl)) H
  have K1 : Ev none e1 167 0 [some (.ref 633), some (.int 1), some (.int 999)] [] M vK1 MK1 0 0 := K1
  have HF := H
  exact ⟨e1, vK1, MK1, rfl, K1, HF⟩
theorem rlq2_75 {e : Nat} {M M' : Mem} {v : Option Value} {i y : Int32} {c3 : Option Value} (hS : SQ M) (H : Ev none e 170 75 [some (.ref 633), some (.int i), some (.int 2), c3] [.int y] M v M' 0 0) : (y = 0 ∧ v = some (.int 0) ∧ M' = M) ∨ (¬ (y = 0) ∧ (0 ≤ i.toInt ∧ i.toInt < 128) ∧ (0 ≤ i.toInt ∧ i.toInt < 128) ∧ (0 ≤ i.toInt ∧ i.toInt < 128) ∧ v = some (.int 1) ∧ M' = (wI (wI (wI M 642 i.toNatClampNeg (zI M 633 32)) 643 i.toNatClampNeg (zI M 633 19)) 644 i.toNatClampNeg (zI M 633 19))) := by
  have H : Ev none e 170 (if y = 0 then 78 else 80) [some (.ref 633), some (.int i), some (.int 2), c3] [] M v M' 0 0 := Ev.back 1 (fun n => rfl) H
  by_cases h1 : y = 0
  · rw [if_pos h1] at H
    have H : Ev none e 170 79 [some (.ref 633), some (.int i), some (.int 2), c3] [.int 0] M v M' 0 0 := Ev.back 1 (fun n => rfl) H
    obtain ⟨z1, z2⟩ := Ev.retz rfl rfl H
    exact Or.inl ⟨h1, z1, z2⟩
  · rw [if_neg h1] at H
    have H : Ev none e 170 81 [some (.ref 633), some (.int i), some (.int 2), c3] [.ref 633] M v M' 0 0 := Ev.back 1 (fun n => rfl) H
    have H : Ev none e 170 84 [some (.ref 633), some (.int i), some (.int 2), c3] [.ref 642] M v M' 0 0 := Ev.back 1 (gs_3 rfl rfl (gf_u hS.1 qa_633 qr_61_12 qu_70 rfl)) H
    have H : Ev none e 170 86 [some (.ref 633), some (.int i), some (.int 2), c3] [.ref 633, .int i, .ref 642] M v M' 0 0 := Ev.back 2 (fun n => rfl) H
    have H : Ev none e 170 89 [some (.ref 633), some (.int i), some (.int 2), c3] [.int (zI M 633 32), .int i, .ref 642] M v M' 0 0 := Ev.back 1 (gs_3 rfl rfl (gf_i hS.1 qa_633 qi_61_32 rfl)) H
    obtain ⟨b2, H⟩ := Ev.ias rfl rfl hS.1 qa_642 qw_70 H
    obtain ⟨N3, eN3⟩ : ∃ N, N = (wI M 642 i.toNatClampNeg (zI M 633 32)) := ⟨_, rfl⟩
    have hN3 : SQ N3 := by rw [eN3]; exact hS.ki
    have H : Ev none e 170 90 [some (.ref 633), some (.int i), some (.int 2), c3] [] N3 v M' 0 0 := by rw [eN3]; exact H
    have H : Ev none e 170 91 [some (.ref 633), some (.int i), some (.int 2), c3] [.ref 633] N3 v M' 0 0 := Ev.back 1 (fun n => rfl) H
    have H : Ev none e 170 94 [some (.ref 633), some (.int i), some (.int 2), c3] [.ref 643] N3 v M' 0 0 := Ev.back 1 (gs_3 rfl rfl (gf_u hN3.1 qa_633 qr_61_13 qu_71 rfl)) H
    have H : Ev none e 170 96 [some (.ref 633), some (.int i), some (.int 2), c3] [.ref 633, .int i, .ref 643] N3 v M' 0 0 := Ev.back 2 (fun n => rfl) H
    have H : Ev none e 170 99 [some (.ref 633), some (.int i), some (.int 2), c3] [.int (zI N3 633 19), .int i, .ref 643] N3 v M' 0 0 := Ev.back 1 (gs_3 rfl rfl (gf_i hN3.1 qa_633 qi_61_19 rfl)) H
    rw [show zI N3 633 19 = zI M 633 19 from by rw [eN3]; exact fI_wI] at H
    obtain ⟨b4, H⟩ := Ev.ias rfl rfl hN3.1 qa_643 qw_71 H
    obtain ⟨N5, eN5⟩ : ∃ N, N = (wI N3 643 i.toNatClampNeg (zI M 633 19)) := ⟨_, rfl⟩
    have hN5 : SQ N5 := by rw [eN5]; exact hN3.ki
    have H : Ev none e 170 100 [some (.ref 633), some (.int i), some (.int 2), c3] [] N5 v M' 0 0 := by rw [eN5]; exact H
    have H : Ev none e 170 (if 2 = 6 then 106 else 110) [some (.ref 633), some (.int i), some (.int 2), c3] [] N5 v M' 0 0 := Ev.back 3 (fun n => rfl) H
    rw [if_neg (by decide)] at H
    have H : Ev none e 170 (if 2 = 0 then 126 else 116) [some (.ref 633), some (.int i), some (.int 2), some (.int 0)] [] N5 v M' 0 0 := Ev.back 4 (fun n => rfl) H
    rw [if_neg (by decide)] at H
    have H : Ev none e 170 (if 2 = 1 then 126 else 121) [some (.ref 633), some (.int i), some (.int 2), some (.int 0)] [] N5 v M' 0 0 := Ev.back 3 (fun n => rfl) H
    rw [if_neg (by decide)] at H
    have H : Ev none e 170 (if 2 = 5 then 126 else 142) [some (.ref 633), some (.int i), some (.int 2), some (.int 0)] [] N5 v M' 0 0 := Ev.back 3 (fun n => rfl) H
    rw [if_neg (by decide)] at H
    have H : Ev none e 170 (if 0 = 0 then 155 else 146) [some (.ref 633), some (.int i), some (.int 2), some (.int 0)] [] N5 v M' 0 0 := Ev.back 2 (fun n => rfl) H
    rw [if_pos (by decide)] at H
    have H : Ev none e 170 156 [some (.ref 633), some (.int i), some (.int 2), some (.int 0)] [.ref 633] N5 v M' 0 0 := Ev.back 1 (fun n => rfl) H
    have H : Ev none e 170 159 [some (.ref 633), some (.int i), some (.int 2), some (.int 0)] [.ref 644] N5 v M' 0 0 := Ev.back 1 (gs_3 rfl rfl (gf_u hN5.1 qa_633 qr_61_14 qu_72 rfl)) H
    have H : Ev none e 170 161 [some (.ref 633), some (.int i), some (.int 2), some (.int 0)] [.ref 633, .int i, .ref 644] N5 v M' 0 0 := Ev.back 2 (fun n => rfl) H
    have H : Ev none e 170 164 [some (.ref 633), some (.int i), some (.int 2), some (.int 0)] [.int (zI N5 633 19), .int i, .ref 644] N5 v M' 0 0 := Ev.back 1 (gs_3 rfl rfl (gf_i hN5.1 qa_633 qi_61_19 rfl)) H
    rw [(show zI N5 633 19 = zI N3 633 19 from by rw [eN5]; exact fI_wI).trans (show zI N3 633 19 = zI M 633 19 from by rw [eN3]; exact fI_wI)] at H
    obtain ⟨b6, H⟩ := Ev.ias rfl rfl hN5.1 qa_644 qw_72 H
    obtain ⟨N7, eN7⟩ : ∃ N, N = (wI N5 644 i.toNatClampNeg (zI M 633 19)) := ⟨_, rfl⟩
    have hN7 : SQ N7 := by rw [eN7]; exact hN5.ki
    have H : Ev none e 170 165 [some (.ref 633), some (.int i), some (.int 2), some (.int 0)] [] N7 v M' 0 0 := by rw [eN7]; exact H
    have H : Ev none e 170 166 [some (.ref 633), some (.int i), some (.int 2), some (.int 0)] [.int 1] N7 v M' 0 0 := Ev.back 1 (fun n => rfl) H
    obtain ⟨z1, z2⟩ := Ev.retz rfl rfl H
    subst eN3 eN5 eN7
    exact Or.inr (⟨h1, b2, b4, b6, z1, z2⟩)
theorem rlq3_0 {e : Nat} {M M' : Mem} {v : Option Value} {i : Int32} (hS : SQ M) (H : Ev none e 170 0 [some (.ref 633), some (.int i), some (.int 3), none] [] M v M' 0 0) : (∃ e1 v1 M1, e = e1 + 1 ∧ Ev none e1 167 0 [some (.ref 633), some (.int 0), some (.int 999)] [] M v1 M1 0 0 ∧ Ev none e 170 75 [some (.ref 633), some (.int i), some (.int 3), none] (v1.toList ++ []) M1 v M' 0 0) := by
  have H : Ev none e 170 (if 3 = 5 then 5 else 31) [some (.ref 633), some (.int i), some (.int 3), none] [] M v M' 0 0 := Ev.back 3 (fun n => rfl) H
  rw [if_neg (by decide)] at H
  have H : Ev none e 170 (if 3 = 6 then 90 else 37) [some (.ref 633), some (.int i), some (.int 3), none] [] M v M' 0 0 := Ev.back 3 (fun n => rfl) H
  rw [if_neg (by decide)] at H
  have H : Ev none e 170 (if 3 = 2 then 43 else 47) [some (.ref 633), some (.int i), some (.int 3), none] [.ref 633] M v M' 0 0 := Ev.back 4 (fun n => rfl) H
  rw [if_neg (by decide)] at H
  have H : Ev none e 170 (if 3 = 5 then 53 else 58) [some (.ref 633), some (.int i), some (.int 3), none] [.int 0, .ref 633] M v M' 0 0 := Ev.back 4 (fun n => rfl) H
  rw [if_neg (by decide)] at H
  have H : Ev none e 170 (if 3 = 7 then 64 else 69) [some (.ref 633), some (.int i), some (.int 3), none] [.int 0, .ref 633] M v M' 0 0 := Ev.back 3 (fun n => rfl) H
  rw [if_neg (by decide)] at H
  have H : Ev none e 170 72 [some (.ref 633), some (.int i), some (.int 3), none] [.int 999, .int 0, .ref 633] M v M' 0 0 := Ev.back 1 (fun n => rfl) H
  obtain ⟨e1, rfl⟩ := Ev.dpos rfl rfl H
  obtain ⟨vK1, MK1, K1, H⟩ := Ev.callb (fun n => gs_7 rfl rfl (show gCal (.invokevirtual 240) 11 (.int 999 :: .int 0 :: .ref 633 :: []) M = some (.inr (167, [some (.ref 633), some (.int 0), some (.int 999)], [])) from by show @cond (Option ((List Value × Mem) ⊕ (Nat × Lo × List Value))) (true && gRecv M (.ref 633) 11 && gRoom [] && true) (some (.inr (167, [some (.ref 633), some (.int 0), some (.int 999)], []))) none = _; rw [recv_s hS.1 qa_633 qo_61]; rfl)) H
  have K1 : Ev none e1 167 0 [some (.ref 633), some (.int 0), some (.int 999)] [] M vK1 MK1 0 0 := K1
  have HF := H
  exact ⟨e1, vK1, MK1, rfl, K1, HF⟩
theorem rlq3_75 {e : Nat} {M M' : Mem} {v : Option Value} {i y : Int32} {c3 : Option Value} (hS : SQ M) (H : Ev none e 170 75 [some (.ref 633), some (.int i), some (.int 3), c3] [.int y] M v M' 0 0) : (y = 0 ∧ v = some (.int 0) ∧ M' = M) ∨ (¬ (y = 0) ∧ (0 ≤ i.toInt ∧ i.toInt < 128) ∧ (0 ≤ i.toInt ∧ i.toInt < 128) ∧ (0 ≤ i.toInt ∧ i.toInt < 128) ∧ v = some (.int 1) ∧ M' = (wI (wI (wI M 642 i.toNatClampNeg (zI M 633 32)) 643 i.toNatClampNeg (zI M 633 19)) 644 i.toNatClampNeg (zI M 633 19))) := by
  have H : Ev none e 170 (if y = 0 then 78 else 80) [some (.ref 633), some (.int i), some (.int 3), c3] [] M v M' 0 0 := Ev.back 1 (fun n => rfl) H
  by_cases h1 : y = 0
  · rw [if_pos h1] at H
    have H : Ev none e 170 79 [some (.ref 633), some (.int i), some (.int 3), c3] [.int 0] M v M' 0 0 := Ev.back 1 (fun n => rfl) H
    obtain ⟨z1, z2⟩ := Ev.retz rfl rfl H
    exact Or.inl ⟨h1, z1, z2⟩
  · rw [if_neg h1] at H
    have H : Ev none e 170 81 [some (.ref 633), some (.int i), some (.int 3), c3] [.ref 633] M v M' 0 0 := Ev.back 1 (fun n => rfl) H
    have H : Ev none e 170 84 [some (.ref 633), some (.int i), some (.int 3), c3] [.ref 642] M v M' 0 0 := Ev.back 1 (gs_3 rfl rfl (gf_u hS.1 qa_633 qr_61_12 qu_70 rfl)) H
    have H : Ev none e 170 86 [some (.ref 633), some (.int i), some (.int 3), c3] [.ref 633, .int i, .ref 642] M v M' 0 0 := Ev.back 2 (fun n => rfl) H
    have H : Ev none e 170 89 [some (.ref 633), some (.int i), some (.int 3), c3] [.int (zI M 633 32), .int i, .ref 642] M v M' 0 0 := Ev.back 1 (gs_3 rfl rfl (gf_i hS.1 qa_633 qi_61_32 rfl)) H
    obtain ⟨b2, H⟩ := Ev.ias rfl rfl hS.1 qa_642 qw_70 H
    obtain ⟨N3, eN3⟩ : ∃ N, N = (wI M 642 i.toNatClampNeg (zI M 633 32)) := ⟨_, rfl⟩
    have hN3 : SQ N3 := by rw [eN3]; exact hS.ki
    have H : Ev none e 170 90 [some (.ref 633), some (.int i), some (.int 3), c3] [] N3 v M' 0 0 := by rw [eN3]; exact H
    have H : Ev none e 170 91 [some (.ref 633), some (.int i), some (.int 3), c3] [.ref 633] N3 v M' 0 0 := Ev.back 1 (fun n => rfl) H
    have H : Ev none e 170 94 [some (.ref 633), some (.int i), some (.int 3), c3] [.ref 643] N3 v M' 0 0 := Ev.back 1 (gs_3 rfl rfl (gf_u hN3.1 qa_633 qr_61_13 qu_71 rfl)) H
    have H : Ev none e 170 96 [some (.ref 633), some (.int i), some (.int 3), c3] [.ref 633, .int i, .ref 643] N3 v M' 0 0 := Ev.back 2 (fun n => rfl) H
    have H : Ev none e 170 99 [some (.ref 633), some (.int i), some (.int 3), c3] [.int (zI N3 633 19), .int i, .ref 643] N3 v M' 0 0 := Ev.back 1 (gs_3 rfl rfl (gf_i hN3.1 qa_633 qi_61_19 rfl)) H
    rw [show zI N3 633 19 = zI M 633 19 from by rw [eN3]; exact fI_wI] at H
    obtain ⟨b4, H⟩ := Ev.ias rfl rfl hN3.1 qa_643 qw_71 H
    obtain ⟨N5, eN5⟩ : ∃ N, N = (wI N3 643 i.toNatClampNeg (zI M 633 19)) := ⟨_, rfl⟩
    have hN5 : SQ N5 := by rw [eN5]; exact hN3.ki
    have H : Ev none e 170 100 [some (.ref 633), some (.int i), some (.int 3), c3] [] N5 v M' 0 0 := by rw [eN5]; exact H
    have H : Ev none e 170 (if 3 = 6 then 106 else 110) [some (.ref 633), some (.int i), some (.int 3), c3] [] N5 v M' 0 0 := Ev.back 3 (fun n => rfl) H
    rw [if_neg (by decide)] at H
    have H : Ev none e 170 (if 3 = 0 then 126 else 116) [some (.ref 633), some (.int i), some (.int 3), some (.int 0)] [] N5 v M' 0 0 := Ev.back 4 (fun n => rfl) H
    rw [if_neg (by decide)] at H
    have H : Ev none e 170 (if 3 = 1 then 126 else 121) [some (.ref 633), some (.int i), some (.int 3), some (.int 0)] [] N5 v M' 0 0 := Ev.back 3 (fun n => rfl) H
    rw [if_neg (by decide)] at H
    have H : Ev none e 170 (if 3 = 5 then 126 else 142) [some (.ref 633), some (.int i), some (.int 3), some (.int 0)] [] N5 v M' 0 0 := Ev.back 3 (fun n => rfl) H
    rw [if_neg (by decide)] at H
    have H : Ev none e 170 (if 0 = 0 then 155 else 146) [some (.ref 633), some (.int i), some (.int 3), some (.int 0)] [] N5 v M' 0 0 := Ev.back 2 (fun n => rfl) H
    rw [if_pos (by decide)] at H
    have H : Ev none e 170 156 [some (.ref 633), some (.int i), some (.int 3), some (.int 0)] [.ref 633] N5 v M' 0 0 := Ev.back 1 (fun n => rfl) H
    have H : Ev none e 170 159 [some (.ref 633), some (.int i), some (.int 3), some (.int 0)] [.ref 644] N5 v M' 0 0 := Ev.back 1 (gs_3 rfl rfl (gf_u hN5.1 qa_633 qr_61_14 qu_72 rfl)) H
    have H : Ev none e 170 161 [some (.ref 633), some (.int i), some (.int 3), some (.int 0)] [.ref 633, .int i, .ref 644] N5 v M' 0 0 := Ev.back 2 (fun n => rfl) H
    have H : Ev none e 170 164 [some (.ref 633), some (.int i), some (.int 3), some (.int 0)] [.int (zI N5 633 19), .int i, .ref 644] N5 v M' 0 0 := Ev.back 1 (gs_3 rfl rfl (gf_i hN5.1 qa_633 qi_61_19 rfl)) H
    rw [(show zI N5 633 19 = zI N3 633 19 from by rw [eN5]; exact fI_wI).trans (show zI N3 633 19 = zI M 633 19 from by rw [eN3]; exact fI_wI)] at H
    obtain ⟨b6, H⟩ := Ev.ias rfl rfl hN5.1 qa_644 qw_72 H
    obtain ⟨N7, eN7⟩ : ∃ N, N = (wI N5 644 i.toNatClampNeg (zI M 633 19)) := ⟨_, rfl⟩
    have hN7 : SQ N7 := by rw [eN7]; exact hN5.ki
    have H : Ev none e 170 165 [some (.ref 633), some (.int i), some (.int 3), some (.int 0)] [] N7 v M' 0 0 := by rw [eN7]; exact H
    have H : Ev none e 170 166 [some (.ref 633), some (.int i), some (.int 3), some (.int 0)] [.int 1] N7 v M' 0 0 := Ev.back 1 (fun n => rfl) H
    obtain ⟨z1, z2⟩ := Ev.retz rfl rfl H
    subst eN3 eN5 eN7
    exact Or.inr (⟨h1, b2, b4, b6, z1, z2⟩)
theorem rlq4_0 {e : Nat} {M M' : Mem} {v : Option Value} {i : Int32} (hS : SQ M) (H : Ev none e 170 0 [some (.ref 633), some (.int i), some (.int 4), none] [] M v M' 0 0) : (∃ e1 v1 M1, e = e1 + 1 ∧ Ev none e1 167 0 [some (.ref 633), some (.int 0), some (.int 999)] [] M v1 M1 0 0 ∧ Ev none e 170 75 [some (.ref 633), some (.int i), some (.int 4), none] (v1.toList ++ []) M1 v M' 0 0) := by
  have H : Ev none e 170 (if 4 = 5 then 5 else 31) [some (.ref 633), some (.int i), some (.int 4), none] [] M v M' 0 0 := Ev.back 3 (fun n => rfl) H
  rw [if_neg (by decide)] at H
  have H : Ev none e 170 (if 4 = 6 then 90 else 37) [some (.ref 633), some (.int i), some (.int 4), none] [] M v M' 0 0 := Ev.back 3 (fun n => rfl) H
  rw [if_neg (by decide)] at H
  have H : Ev none e 170 (if 4 = 2 then 43 else 47) [some (.ref 633), some (.int i), some (.int 4), none] [.ref 633] M v M' 0 0 := Ev.back 4 (fun n => rfl) H
  rw [if_neg (by decide)] at H
  have H : Ev none e 170 (if 4 = 5 then 53 else 58) [some (.ref 633), some (.int i), some (.int 4), none] [.int 0, .ref 633] M v M' 0 0 := Ev.back 4 (fun n => rfl) H
  rw [if_neg (by decide)] at H
  have H : Ev none e 170 (if 4 = 7 then 64 else 69) [some (.ref 633), some (.int i), some (.int 4), none] [.int 0, .ref 633] M v M' 0 0 := Ev.back 3 (fun n => rfl) H
  rw [if_neg (by decide)] at H
  have H : Ev none e 170 72 [some (.ref 633), some (.int i), some (.int 4), none] [.int 999, .int 0, .ref 633] M v M' 0 0 := Ev.back 1 (fun n => rfl) H
  obtain ⟨e1, rfl⟩ := Ev.dpos rfl rfl H
  obtain ⟨vK1, MK1, K1, H⟩ := Ev.callb (fun n => gs_7 rfl rfl (show gCal (.invokevirtual 240) 11 (.int 999 :: .int 0 :: .ref 633 :: []) M = some (.inr (167, [some (.ref 633), some (.int 0), some (.int 999)], [])) from by show @cond (Option ((List Value × Mem) ⊕ (Nat × Lo × List Value))) (true && gRecv M (.ref 633) 11 && gRoom [] && true) (some (.inr (167, [some (.ref 633), some (.int 0), some (.int 999)], []))) none = _; rw [recv_s hS.1 qa_633 qo_61]; rfl)) H
  have K1 : Ev none e1 167 0 [some (.ref 633), some (.int 0), some (.int 999)] [] M vK1 MK1 0 0 := K1
  have HF := H
  exact ⟨e1, vK1, MK1, rfl, K1, HF⟩
theorem rlq4_75 {e : Nat} {M M' : Mem} {v : Option Value} {i y : Int32} {c3 : Option Value} (hS : SQ M) (H : Ev none e 170 75 [some (.ref 633), some (.int i), some (.int 4), c3] [.int y] M v M' 0 0) : (y = 0 ∧ v = some (.int 0) ∧ M' = M) ∨ (¬ (y = 0) ∧ (0 ≤ i.toInt ∧ i.toInt < 128) ∧ (0 ≤ i.toInt ∧ i.toInt < 128) ∧ (0 ≤ i.toInt ∧ i.toInt < 128) ∧ v = some (.int 1) ∧ M' = (wI (wI (wI M 642 i.toNatClampNeg (zI M 633 32)) 643 i.toNatClampNeg (zI M 633 19)) 644 i.toNatClampNeg (zI M 633 19))) := by
  have H : Ev none e 170 (if y = 0 then 78 else 80) [some (.ref 633), some (.int i), some (.int 4), c3] [] M v M' 0 0 := Ev.back 1 (fun n => rfl) H
  by_cases h1 : y = 0
  · rw [if_pos h1] at H
    have H : Ev none e 170 79 [some (.ref 633), some (.int i), some (.int 4), c3] [.int 0] M v M' 0 0 := Ev.back 1 (fun n => rfl) H
    obtain ⟨z1, z2⟩ := Ev.retz rfl rfl H
    exact Or.inl ⟨h1, z1, z2⟩
  · rw [if_neg h1] at H
    have H : Ev none e 170 81 [some (.ref 633), some (.int i), some (.int 4), c3] [.ref 633] M v M' 0 0 := Ev.back 1 (fun n => rfl) H
    have H : Ev none e 170 84 [some (.ref 633), some (.int i), some (.int 4), c3] [.ref 642] M v M' 0 0 := Ev.back 1 (gs_3 rfl rfl (gf_u hS.1 qa_633 qr_61_12 qu_70 rfl)) H
    have H : Ev none e 170 86 [some (.ref 633), some (.int i), some (.int 4), c3] [.ref 633, .int i, .ref 642] M v M' 0 0 := Ev.back 2 (fun n => rfl) H
    have H : Ev none e 170 89 [some (.ref 633), some (.int i), some (.int 4), c3] [.int (zI M 633 32), .int i, .ref 642] M v M' 0 0 := Ev.back 1 (gs_3 rfl rfl (gf_i hS.1 qa_633 qi_61_32 rfl)) H
    obtain ⟨b2, H⟩ := Ev.ias rfl rfl hS.1 qa_642 qw_70 H
    obtain ⟨N3, eN3⟩ : ∃ N, N = (wI M 642 i.toNatClampNeg (zI M 633 32)) := ⟨_, rfl⟩
    have hN3 : SQ N3 := by rw [eN3]; exact hS.ki
    have H : Ev none e 170 90 [some (.ref 633), some (.int i), some (.int 4), c3] [] N3 v M' 0 0 := by rw [eN3]; exact H
    have H : Ev none e 170 91 [some (.ref 633), some (.int i), some (.int 4), c3] [.ref 633] N3 v M' 0 0 := Ev.back 1 (fun n => rfl) H
    have H : Ev none e 170 94 [some (.ref 633), some (.int i), some (.int 4), c3] [.ref 643] N3 v M' 0 0 := Ev.back 1 (gs_3 rfl rfl (gf_u hN3.1 qa_633 qr_61_13 qu_71 rfl)) H
    have H : Ev none e 170 96 [some (.ref 633), some (.int i), some (.int 4), c3] [.ref 633, .int i, .ref 643] N3 v M' 0 0 := Ev.back 2 (fun n => rfl) H
    have H : Ev none e 170 99 [some (.ref 633), some (.int i), some (.int 4), c3] [.int (zI N3 633 19), .int i, .ref 643] N3 v M' 0 0 := Ev.back 1 (gs_3 rfl rfl (gf_i hN3.1 qa_633 qi_61_19 rfl)) H
    rw [show zI N3 633 19 = zI M 633 19 from by rw [eN3]; exact fI_wI] at H
    obtain ⟨b4, H⟩ := Ev.ias rfl rfl hN3.1 qa_643 qw_71 H
    obtain ⟨N5, eN5⟩ : ∃ N, N = (wI N3 643 i.toNatClampNeg (zI M 633 19)) := ⟨_, rfl⟩
    have hN5 : SQ N5 := by rw [eN5]; exact hN3.ki
    have H : Ev none e 170 100 [some (.ref 633), some (.int i), some (.int 4), c3] [] N5 v M' 0 0 := by rw [eN5]; exact H
    have H : Ev none e 170 (if 4 = 6 then 106 else 110) [some (.ref 633), some (.int i), some (.int 4), c3] [] N5 v M' 0 0 := Ev.back 3 (fun n => rfl) H
    rw [if_neg (by decide)] at H
    have H : Ev none e 170 (if 4 = 0 then 126 else 116) [some (.ref 633), some (.int i), some (.int 4), some (.int 0)] [] N5 v M' 0 0 := Ev.back 4 (fun n => rfl) H
    rw [if_neg (by decide)] at H
    have H : Ev none e 170 (if 4 = 1 then 126 else 121) [some (.ref 633), some (.int i), some (.int 4), some (.int 0)] [] N5 v M' 0 0 := Ev.back 3 (fun n => rfl) H
    rw [if_neg (by decide)] at H
    have H : Ev none e 170 (if 4 = 5 then 126 else 142) [some (.ref 633), some (.int i), some (.int 4), some (.int 0)] [] N5 v M' 0 0 := Ev.back 3 (fun n => rfl) H
    rw [if_neg (by decide)] at H
    have H : Ev none e 170 (if 0 = 0 then 155 else 146) [some (.ref 633), some (.int i), some (.int 4), some (.int 0)] [] N5 v M' 0 0 := Ev.back 2 (fun n => rfl) H
    rw [if_pos (by decide)] at H
    have H : Ev none e 170 156 [some (.ref 633), some (.int i), some (.int 4), some (.int 0)] [.ref 633] N5 v M' 0 0 := Ev.back 1 (fun n => rfl) H
    have H : Ev none e 170 159 [some (.ref 633), some (.int i), some (.int 4), some (.int 0)] [.ref 644] N5 v M' 0 0 := Ev.back 1 (gs_3 rfl rfl (gf_u hN5.1 qa_633 qr_61_14 qu_72 rfl)) H
    have H : Ev none e 170 161 [some (.ref 633), some (.int i), some (.int 4), some (.int 0)] [.ref 633, .int i, .ref 644] N5 v M' 0 0 := Ev.back 2 (fun n => rfl) H
    have H : Ev none e 170 164 [some (.ref 633), some (.int i), some (.int 4), some (.int 0)] [.int (zI N5 633 19), .int i, .ref 644] N5 v M' 0 0 := Ev.back 1 (gs_3 rfl rfl (gf_i hN5.1 qa_633 qi_61_19 rfl)) H
    rw [(show zI N5 633 19 = zI N3 633 19 from by rw [eN5]; exact fI_wI).trans (show zI N3 633 19 = zI M 633 19 from by rw [eN3]; exact fI_wI)] at H
    obtain ⟨b6, H⟩ := Ev.ias rfl rfl hN5.1 qa_644 qw_72 H
    obtain ⟨N7, eN7⟩ : ∃ N, N = (wI N5 644 i.toNatClampNeg (zI M 633 19)) := ⟨_, rfl⟩
    have hN7 : SQ N7 := by rw [eN7]; exact hN5.ki
    have H : Ev none e 170 165 [some (.ref 633), some (.int i), some (.int 4), some (.int 0)] [] N7 v M' 0 0 := by rw [eN7]; exact H
    have H : Ev none e 170 166 [some (.ref 633), some (.int i), some (.int 4), some (.int 0)] [.int 1] N7 v M' 0 0 := Ev.back 1 (fun n => rfl) H
    obtain ⟨z1, z2⟩ := Ev.retz rfl rfl H
    subst eN3 eN5 eN7
    exact Or.inr (⟨h1, b2, b4, b6, z1, z2⟩)
theorem rlq5_0 {e : Nat} {M M' : Mem} {v : Option Value} {i : Int32} (hS : SQ M) (H : Ev none e 170 0 [some (.ref 633), some (.int i), some (.int 5), none] [] M v M' 0 0) : (0 ≤ (G_171 M) ∧ (0 ≤ i.toInt ∧ i.toInt < 128) ∧ (∃ e1 v1 M1, e = e1 + 1 ∧ Ev none e1 162 0 [some (.ref 633), none, none, none] [] (wI M 641 i.toNatClampNeg (G_171 M)) v1 M1 0 0 ∧ Ev none e 170 31 [some (.ref 633), some (.int i), some (.int 5), some (.int (G_171 M))] (v1.toList ++ []) M1 v M' 0 0)) ∨ (¬ (0 ≤ (G_171 M)) ∧ (∃ e1 v1 M1, e = e1 + 1 ∧ Ev none e1 163 0 [some (.ref 633), some (.int 1)] [] M v1 M1 0 0 ∧ Ev none e 170 19 [some (.ref 633), some (.int i), some (.int 5), some (.int (G_171 M))] (v1.toList ++ []) M1 v M' 0 0)) := by
  have H : Ev none e 170 (if 5 = 5 then 5 else 31) [some (.ref 633), some (.int i), some (.int 5), none] [] M v M' 0 0 := Ev.back 3 (fun n => rfl) H
  rw [if_pos (by decide)] at H
  have H : Ev none e 170 6 [some (.ref 633), some (.int i), some (.int 5), none] [.ref 633] M v M' 0 0 := Ev.back 1 (fun n => rfl) H
  obtain ⟨e1, rfl⟩ := Ev.dpos rfl rfl H
  obtain ⟨vK1, MK1, K1, H⟩ := Ev.callb (fun n => gs_7 rfl rfl (show gCal (.invokevirtual 237) 11 (.ref 633 :: []) M = some (.inr (171, [some (.ref 633)], [])) from by show @cond (Option ((List Value × Mem) ⊕ (Nat × Lo × List Value))) (true && gRecv M (.ref 633) 11 && gRoom [] && true) (some (.inr (171, [some (.ref 633)], []))) none = _; rw [recv_s hS.1 qa_633 qo_61]; rfl)) H
  obtain ⟨pK1, qK1⟩ := g_171 hS K1
  rw [pK1, qK1] at H
  have H : Ev none (e1 + 1) 170 9 [some (.ref 633), some (.int i), some (.int 5), none] [.int (G_171 M)] M v M' 0 0 := H
  have H : Ev none (e1 + 1) 170 (if 0 ≤ (G_171 M) then 20 else 14) [some (.ref 633), some (.int i), some (.int 5), some (.int (G_171 M))] [] M v M' 0 0 := Ev.back 3 (fun n => rfl) H
  by_cases h2 : 0 ≤ (G_171 M)
  · rw [if_pos h2] at H
    have H : Ev none (e1 + 1) 170 21 [some (.ref 633), some (.int i), some (.int 5), some (.int (G_171 M))] [.ref 633] M v M' 0 0 := Ev.back 1 (fun n => rfl) H
    have H : Ev none (e1 + 1) 170 24 [some (.ref 633), some (.int i), some (.int 5), some (.int (G_171 M))] [.ref 641] M v M' 0 0 := Ev.back 1 (gs_3 rfl rfl (gf_u hS.1 qa_633 qr_61_11 qu_69 rfl)) H
    have H : Ev none (e1 + 1) 170 26 [some (.ref 633), some (.int i), some (.int 5), some (.int (G_171 M))] [.int (G_171 M), .int i, .ref 641] M v M' 0 0 := Ev.back 2 (fun n => rfl) H
    obtain ⟨b3, H⟩ := Ev.ias rfl rfl hS.1 qa_641 qw_69 H
    obtain ⟨N4, eN4⟩ : ∃ N, N = (wI M 641 i.toNatClampNeg (G_171 M)) := ⟨_, rfl⟩
    have hN4 : SQ N4 := by rw [eN4]; exact hS.ki
    have H : Ev none (e1 + 1) 170 27 [some (.ref 633), some (.int i), some (.int 5), some (.int (G_171 M))] [] N4 v M' 0 0 := by rw [eN4]; exact H
    have H : Ev none (e1 + 1) 170 28 [some (.ref 633), some (.int i), some (.int 5), some (.int (G_171 M))] [.ref 633] N4 v M' 0 0 := Ev.back 1 (fun n => rfl) H
    obtain ⟨vK5, MK5, K5, H⟩ := Ev.callb (fun n => gs_7 rfl rfl (show gCal (.invokevirtual 201) 11 (.ref 633 :: []) N4 = some (.inr (162, [some (.ref 633), none, none, none], [])) from by show @cond (Option ((List Value × Mem) ⊕ (Nat × Lo × List Value))) (true && gRecv N4 (.ref 633) 11 && gRoom [] && true) (some (.inr (162, [some (.ref 633), none, none, none], []))) none = _; rw [recv_s hN4.1 qa_633 qo_61]; rfl)) H
    have K5 : Ev none e1 162 0 [some (.ref 633), none, none, none] [] N4 vK5 MK5 0 0 := K5
    have HF := H
    subst eN4
    exact Or.inl ⟨h2, b3, ⟨e1, vK5, MK5, rfl, K5, HF⟩⟩
  · rw [if_neg h2] at H
    have H : Ev none (e1 + 1) 170 16 [some (.ref 633), some (.int i), some (.int 5), some (.int (G_171 M))] [.int 1, .ref 633] M v M' 0 0 := Ev.back 2 (fun n => rfl) H
    obtain ⟨vK6, MK6, K6, H⟩ := Ev.callb (fun n => gs_7 rfl rfl (show gCal (.invokevirtual 198) 11 (.int 1 :: .ref 633 :: []) M = some (.inr (163, [some (.ref 633), some (.int 1)], [])) from by show @cond (Option ((List Value × Mem) ⊕ (Nat × Lo × List Value))) (true && gRecv M (.ref 633) 11 && gRoom [] && true) (some (.inr (163, [some (.ref 633), some (.int 1)], []))) none = _; rw [recv_s hS.1 qa_633 qo_61]; rfl)) H
    have K6 : Ev none e1 163 0 [some (.ref 633), some (.int 1)] [] M vK6 MK6 0 0 := K6
    have HF := H
    exact Or.inr (⟨h2, ⟨e1, vK6, MK6, rfl, K6, HF⟩⟩)
theorem rlq5_31 {e : Nat} {M M' : Mem} {v : Option Value} {i : Int32} {c3 : Option Value} (hS : SQ M) (H : Ev none e 170 31 [some (.ref 633), some (.int i), some (.int 5), c3] [] M v M' 0 0) : (∃ e1 v1 M1, e = e1 + 1 ∧ Ev none e1 167 0 [some (.ref 633), some (.int 0), some (.int 99)] [] M v1 M1 0 0 ∧ Ev none e 170 75 [some (.ref 633), some (.int i), some (.int 5), c3] (v1.toList ++ []) M1 v M' 0 0) := by
  have H : Ev none e 170 (if 5 = 6 then 90 else 37) [some (.ref 633), some (.int i), some (.int 5), c3] [] M v M' 0 0 := Ev.back 3 (fun n => rfl) H
  rw [if_neg (by decide)] at H
  have H : Ev none e 170 (if 5 = 2 then 43 else 47) [some (.ref 633), some (.int i), some (.int 5), c3] [.ref 633] M v M' 0 0 := Ev.back 4 (fun n => rfl) H
  rw [if_neg (by decide)] at H
  have H : Ev none e 170 (if 5 = 5 then 53 else 58) [some (.ref 633), some (.int i), some (.int 5), c3] [.int 0, .ref 633] M v M' 0 0 := Ev.back 4 (fun n => rfl) H
  rw [if_pos (by decide)] at H
  have H : Ev none e 170 72 [some (.ref 633), some (.int i), some (.int 5), c3] [.int 99, .int 0, .ref 633] M v M' 0 0 := Ev.back 2 (fun n => rfl) H
  obtain ⟨e1, rfl⟩ := Ev.dpos rfl rfl H
  obtain ⟨vK1, MK1, K1, H⟩ := Ev.callb (fun n => gs_7 rfl rfl (show gCal (.invokevirtual 240) 11 (.int 99 :: .int 0 :: .ref 633 :: []) M = some (.inr (167, [some (.ref 633), some (.int 0), some (.int 99)], [])) from by show @cond (Option ((List Value × Mem) ⊕ (Nat × Lo × List Value))) (true && gRecv M (.ref 633) 11 && gRoom [] && true) (some (.inr (167, [some (.ref 633), some (.int 0), some (.int 99)], []))) none = _; rw [recv_s hS.1 qa_633 qo_61]; rfl)) H
  have K1 : Ev none e1 167 0 [some (.ref 633), some (.int 0), some (.int 99)] [] M vK1 MK1 0 0 := K1
  have HF := H
  exact ⟨e1, vK1, MK1, rfl, K1, HF⟩
theorem rlq5_75 {e : Nat} {M M' : Mem} {v : Option Value} {i y : Int32} {c3 : Option Value} (hS : SQ M) (H : Ev none e 170 75 [some (.ref 633), some (.int i), some (.int 5), c3] [.int y] M v M' 0 0) : (y = 0 ∧ v = some (.int 0) ∧ M' = M) ∨ (¬ (y = 0) ∧ (G_164 (wI (wI M 642 i.toNatClampNeg (zI M 633 32)) 643 i.toNatClampNeg (zI M 633 19)) 26982) = 0 ∧ (0 ≤ i.toInt ∧ i.toInt < 128) ∧ (0 ≤ i.toInt ∧ i.toInt < 128) ∧ (0 ≤ i.toInt ∧ i.toInt < 128) ∧ v = some (.int 1) ∧ M' = (wI (wI (wI M 642 i.toNatClampNeg (zI M 633 32)) 643 i.toNatClampNeg (zI M 633 19)) 644 i.toNatClampNeg (zI M 633 19))) ∨ (¬ (y = 0) ∧ ¬ ((G_164 (wI (wI M 642 i.toNatClampNeg (zI M 633 32)) 643 i.toNatClampNeg (zI M 633 19)) 26982) = 0) ∧ (0 ≤ i.toInt ∧ i.toInt < 128) ∧ (0 ≤ i.toInt ∧ i.toInt < 128) ∧ (∃ e1 v1 M1, e = e1 + 1 ∧ Ev none e1 162 0 [some (.ref 633), none, none, none] [] (wI (wI M 642 i.toNatClampNeg (zI M 633 32)) 643 i.toNatClampNeg (zI M 633 19)) v1 M1 0 0 ∧ Ev none e 170 140 [some (.ref 633), some (.int i), some (.int 5), some (.int 0)] (v1.toList ++ []) M1 v M' 0 0)) := by
  have H : Ev none e 170 (if y = 0 then 78 else 80) [some (.ref 633), some (.int i), some (.int 5), c3] [] M v M' 0 0 := Ev.back 1 (fun n => rfl) H
  by_cases h1 : y = 0
  · rw [if_pos h1] at H
    have H : Ev none e 170 79 [some (.ref 633), some (.int i), some (.int 5), c3] [.int 0] M v M' 0 0 := Ev.back 1 (fun n => rfl) H
    obtain ⟨z1, z2⟩ := Ev.retz rfl rfl H
    exact Or.inl ⟨h1, z1, z2⟩
  · rw [if_neg h1] at H
    have H : Ev none e 170 81 [some (.ref 633), some (.int i), some (.int 5), c3] [.ref 633] M v M' 0 0 := Ev.back 1 (fun n => rfl) H
    have H : Ev none e 170 84 [some (.ref 633), some (.int i), some (.int 5), c3] [.ref 642] M v M' 0 0 := Ev.back 1 (gs_3 rfl rfl (gf_u hS.1 qa_633 qr_61_12 qu_70 rfl)) H
    have H : Ev none e 170 86 [some (.ref 633), some (.int i), some (.int 5), c3] [.ref 633, .int i, .ref 642] M v M' 0 0 := Ev.back 2 (fun n => rfl) H
    have H : Ev none e 170 89 [some (.ref 633), some (.int i), some (.int 5), c3] [.int (zI M 633 32), .int i, .ref 642] M v M' 0 0 := Ev.back 1 (gs_3 rfl rfl (gf_i hS.1 qa_633 qi_61_32 rfl)) H
    obtain ⟨b2, H⟩ := Ev.ias rfl rfl hS.1 qa_642 qw_70 H
    obtain ⟨N3, eN3⟩ : ∃ N, N = (wI M 642 i.toNatClampNeg (zI M 633 32)) := ⟨_, rfl⟩
    have hN3 : SQ N3 := by rw [eN3]; exact hS.ki
    have H : Ev none e 170 90 [some (.ref 633), some (.int i), some (.int 5), c3] [] N3 v M' 0 0 := by rw [eN3]; exact H
    have H : Ev none e 170 91 [some (.ref 633), some (.int i), some (.int 5), c3] [.ref 633] N3 v M' 0 0 := Ev.back 1 (fun n => rfl) H
    have H : Ev none e 170 94 [some (.ref 633), some (.int i), some (.int 5), c3] [.ref 643] N3 v M' 0 0 := Ev.back 1 (gs_3 rfl rfl (gf_u hN3.1 qa_633 qr_61_13 qu_71 rfl)) H
    have H : Ev none e 170 96 [some (.ref 633), some (.int i), some (.int 5), c3] [.ref 633, .int i, .ref 643] N3 v M' 0 0 := Ev.back 2 (fun n => rfl) H
    have H : Ev none e 170 99 [some (.ref 633), some (.int i), some (.int 5), c3] [.int (zI N3 633 19), .int i, .ref 643] N3 v M' 0 0 := Ev.back 1 (gs_3 rfl rfl (gf_i hN3.1 qa_633 qi_61_19 rfl)) H
    rw [show zI N3 633 19 = zI M 633 19 from by rw [eN3]; exact fI_wI] at H
    obtain ⟨b4, H⟩ := Ev.ias rfl rfl hN3.1 qa_643 qw_71 H
    obtain ⟨N5, eN5⟩ : ∃ N, N = (wI N3 643 i.toNatClampNeg (zI M 633 19)) := ⟨_, rfl⟩
    have hN5 : SQ N5 := by rw [eN5]; exact hN3.ki
    have H : Ev none e 170 100 [some (.ref 633), some (.int i), some (.int 5), c3] [] N5 v M' 0 0 := by rw [eN5]; exact H
    have H : Ev none e 170 (if 5 = 6 then 106 else 110) [some (.ref 633), some (.int i), some (.int 5), c3] [] N5 v M' 0 0 := Ev.back 3 (fun n => rfl) H
    rw [if_neg (by decide)] at H
    have H : Ev none e 170 (if 5 = 0 then 126 else 116) [some (.ref 633), some (.int i), some (.int 5), some (.int 0)] [] N5 v M' 0 0 := Ev.back 4 (fun n => rfl) H
    rw [if_neg (by decide)] at H
    have H : Ev none e 170 (if 5 = 1 then 126 else 121) [some (.ref 633), some (.int i), some (.int 5), some (.int 0)] [] N5 v M' 0 0 := Ev.back 3 (fun n => rfl) H
    rw [if_neg (by decide)] at H
    have H : Ev none e 170 (if 5 = 5 then 126 else 142) [some (.ref 633), some (.int i), some (.int 5), some (.int 0)] [] N5 v M' 0 0 := Ev.back 3 (fun n => rfl) H
    rw [if_pos (by decide)] at H
    have H : Ev none e 170 130 [some (.ref 633), some (.int i), some (.int 5), some (.int 0)] [.long 26982, .ref 633] N5 v M' 0 0 := Ev.back 2 (fun n => rfl) H
    obtain ⟨e1, rfl⟩ := Ev.dpos rfl rfl H
    obtain ⟨vK6, MK6, K6, H⟩ := Ev.callb (fun n => gs_7 rfl rfl (show gCal (.invokevirtual 248) 11 (.long 26982 :: .ref 633 :: []) N5 = some (.inr (164, [some (.ref 633), some (.long 26982), none], [])) from by show @cond (Option ((List Value × Mem) ⊕ (Nat × Lo × List Value))) (true && gRecv N5 (.ref 633) 11 && gRoom [] && true) (some (.inr (164, [some (.ref 633), some (.long 26982), none], []))) none = _; rw [recv_s hN5.1 qa_633 qo_61]; rfl)) H
    obtain ⟨pK6, qK6⟩ := g_164 hN5 K6
    rw [pK6, qK6] at H
    have H : Ev none (e1 + 1) 170 133 [some (.ref 633), some (.int i), some (.int 5), some (.int 0)] [.int (G_164 N5 26982)] N5 v M' 0 0 := H
    have H : Ev none (e1 + 1) 170 (if (G_164 N5 26982) = 0 then 142 else 136) [some (.ref 633), some (.int i), some (.int 5), some (.int 0)] [] N5 v M' 0 0 := Ev.back 1 (fun n => rfl) H
    by_cases h7 : (G_164 N5 26982) = 0
    · rw [if_pos h7] at H
      have H : Ev none (e1 + 1) 170 (if 0 = 0 then 155 else 146) [some (.ref 633), some (.int i), some (.int 5), some (.int 0)] [] N5 v M' 0 0 := Ev.back 2 (fun n => rfl) H
      rw [if_pos (by decide)] at H
      have H : Ev none (e1 + 1) 170 156 [some (.ref 633), some (.int i), some (.int 5), some (.int 0)] [.ref 633] N5 v M' 0 0 := Ev.back 1 (fun n => rfl) H
      have H : Ev none (e1 + 1) 170 159 [some (.ref 633), some (.int i), some (.int 5), some (.int 0)] [.ref 644] N5 v M' 0 0 := Ev.back 1 (gs_3 rfl rfl (gf_u hN5.1 qa_633 qr_61_14 qu_72 rfl)) H
      have H : Ev none (e1 + 1) 170 161 [some (.ref 633), some (.int i), some (.int 5), some (.int 0)] [.ref 633, .int i, .ref 644] N5 v M' 0 0 := Ev.back 2 (fun n => rfl) H
      have H : Ev none (e1 + 1) 170 164 [some (.ref 633), some (.int i), some (.int 5), some (.int 0)] [.int (zI N5 633 19), .int i, .ref 644] N5 v M' 0 0 := Ev.back 1 (gs_3 rfl rfl (gf_i hN5.1 qa_633 qi_61_19 rfl)) H
      rw [(show zI N5 633 19 = zI N3 633 19 from by rw [eN5]; exact fI_wI).trans (show zI N3 633 19 = zI M 633 19 from by rw [eN3]; exact fI_wI)] at H
      obtain ⟨b8, H⟩ := Ev.ias rfl rfl hN5.1 qa_644 qw_72 H
      obtain ⟨N9, eN9⟩ : ∃ N, N = (wI N5 644 i.toNatClampNeg (zI M 633 19)) := ⟨_, rfl⟩
      have hN9 : SQ N9 := by rw [eN9]; exact hN5.ki
      have H : Ev none (e1 + 1) 170 165 [some (.ref 633), some (.int i), some (.int 5), some (.int 0)] [] N9 v M' 0 0 := by rw [eN9]; exact H
      have H : Ev none (e1 + 1) 170 166 [some (.ref 633), some (.int i), some (.int 5), some (.int 0)] [.int 1] N9 v M' 0 0 := Ev.back 1 (fun n => rfl) H
      obtain ⟨z1, z2⟩ := Ev.retz rfl rfl H
      subst eN3 eN5 eN9
      exact Or.inr (Or.inl ⟨h1, h7, b2, b4, b8, z1, z2⟩)
    · rw [if_neg h7] at H
      have H : Ev none (e1 + 1) 170 137 [some (.ref 633), some (.int i), some (.int 5), some (.int 0)] [.ref 633] N5 v M' 0 0 := Ev.back 1 (fun n => rfl) H
      obtain ⟨vK10, MK10, K10, H⟩ := Ev.callb (fun n => gs_7 rfl rfl (show gCal (.invokevirtual 201) 11 (.ref 633 :: []) N5 = some (.inr (162, [some (.ref 633), none, none, none], [])) from by show @cond (Option ((List Value × Mem) ⊕ (Nat × Lo × List Value))) (true && gRecv N5 (.ref 633) 11 && gRoom [] && true) (some (.inr (162, [some (.ref 633), none, none, none], []))) none = _; rw [recv_s hN5.1 qa_633 qo_61]; rfl)) H
      have K10 : Ev none e1 162 0 [some (.ref 633), none, none, none] [] N5 vK10 MK10 0 0 := K10
      have HF := H
      subst eN3 eN5
      exact Or.inr (Or.inr (⟨h1, h7, b2, b4, ⟨e1, vK10, MK10, rfl, K10, HF⟩⟩))
theorem rlq5_140 {e : Nat} {M M' : Mem} {v : Option Value} {i : Int32} {c3 : Option Value} (hS : SQ M) (H : Ev none e 170 140 [some (.ref 633), some (.int i), some (.int 5), c3] [] M v M' 0 0) : (∃ e1 v1 M1, e = e1 + 1 ∧ Ev none e1 179 0 [some (.ref 633), none] [] M v1 M1 0 0 ∧ Ev none e 170 150 [some (.ref 633), some (.int i), some (.int 5), some (.int 1)] (v1.toList ++ []) M1 v M' 0 0) := by
  have H : Ev none e 170 (if 1 = 0 then 155 else 146) [some (.ref 633), some (.int i), some (.int 5), some (.int 1)] [] M v M' 0 0 := Ev.back 4 (fun n => rfl) H
  rw [if_neg (by decide)] at H
  have H : Ev none e 170 147 [some (.ref 633), some (.int i), some (.int 5), some (.int 1)] [.ref 633] M v M' 0 0 := Ev.back 1 (fun n => rfl) H
  obtain ⟨e1, rfl⟩ := Ev.dpos rfl rfl H
  obtain ⟨vK1, MK1, K1, H⟩ := Ev.callb (fun n => gs_7 rfl rfl (show gCal (.invokevirtual 252) 11 (.ref 633 :: []) M = some (.inr (179, [some (.ref 633), none], [])) from by show @cond (Option ((List Value × Mem) ⊕ (Nat × Lo × List Value))) (true && gRecv M (.ref 633) 11 && gRoom [] && true) (some (.inr (179, [some (.ref 633), none], []))) none = _; rw [recv_s hS.1 qa_633 qo_61]; rfl)) H
  have K1 : Ev none e1 179 0 [some (.ref 633), none] [] M vK1 MK1 0 0 := K1
  have HF := H
  exact ⟨e1, vK1, MK1, rfl, K1, HF⟩
theorem rlq5_150 {e : Nat} {M M' : Mem} {v : Option Value} {i y : Int32} {c3 : Option Value} (hS : SQ M) (H : Ev none e 170 150 [some (.ref 633), some (.int i), some (.int 5), c3] [.int y] M v M' 0 0) : (y = 0 ∧ v = some (.int 0) ∧ M' = M) ∨ (¬ (y = 0) ∧ (0 ≤ i.toInt ∧ i.toInt < 128) ∧ v = some (.int 1) ∧ M' = (wI M 644 i.toNatClampNeg (zI M 633 19))) := by
  have H : Ev none e 170 (if y = 0 then 153 else 155) [some (.ref 633), some (.int i), some (.int 5), c3] [] M v M' 0 0 := Ev.back 1 (fun n => rfl) H
  by_cases h1 : y = 0
  · rw [if_pos h1] at H
    have H : Ev none e 170 154 [some (.ref 633), some (.int i), some (.int 5), c3] [.int 0] M v M' 0 0 := Ev.back 1 (fun n => rfl) H
    obtain ⟨z1, z2⟩ := Ev.retz rfl rfl H
    exact Or.inl ⟨h1, z1, z2⟩
  · rw [if_neg h1] at H
    have H : Ev none e 170 156 [some (.ref 633), some (.int i), some (.int 5), c3] [.ref 633] M v M' 0 0 := Ev.back 1 (fun n => rfl) H
    have H : Ev none e 170 159 [some (.ref 633), some (.int i), some (.int 5), c3] [.ref 644] M v M' 0 0 := Ev.back 1 (gs_3 rfl rfl (gf_u hS.1 qa_633 qr_61_14 qu_72 rfl)) H
    have H : Ev none e 170 161 [some (.ref 633), some (.int i), some (.int 5), c3] [.ref 633, .int i, .ref 644] M v M' 0 0 := Ev.back 2 (fun n => rfl) H
    have H : Ev none e 170 164 [some (.ref 633), some (.int i), some (.int 5), c3] [.int (zI M 633 19), .int i, .ref 644] M v M' 0 0 := Ev.back 1 (gs_3 rfl rfl (gf_i hS.1 qa_633 qi_61_19 rfl)) H
    obtain ⟨b2, H⟩ := Ev.ias rfl rfl hS.1 qa_644 qw_72 H
    obtain ⟨N3, eN3⟩ : ∃ N, N = (wI M 644 i.toNatClampNeg (zI M 633 19)) := ⟨_, rfl⟩
    have hN3 : SQ N3 := by rw [eN3]; exact hS.ki
    have H : Ev none e 170 165 [some (.ref 633), some (.int i), some (.int 5), c3] [] N3 v M' 0 0 := by rw [eN3]; exact H
    have H : Ev none e 170 166 [some (.ref 633), some (.int i), some (.int 5), c3] [.int 1] N3 v M' 0 0 := Ev.back 1 (fun n => rfl) H
    obtain ⟨z1, z2⟩ := Ev.retz rfl rfl H
    subst eN3
    exact Or.inr (⟨h1, b2, z1, z2⟩)
theorem rlq6_0 {e : Nat} {M M' : Mem} {v : Option Value} {i : Int32} (hS : SQ M) (H : Ev none e 170 0 [some (.ref 633), some (.int i), some (.int 6), none] [] M v M' 0 0) : (0 ≤ i.toInt ∧ i.toInt < 128) ∧ (∃ e1 v1 M1, e = e1 + 1 ∧ Ev none e1 179 0 [some (.ref 633), none] [] (wI M 643 i.toNatClampNeg (zI M 633 19)) v1 M1 0 0 ∧ Ev none e 170 150 [some (.ref 633), some (.int i), some (.int 6), some (.int 1)] (v1.toList ++ []) M1 v M' 0 0) := by
  have H : Ev none e 170 (if 6 = 5 then 5 else 31) [some (.ref 633), some (.int i), some (.int 6), none] [] M v M' 0 0 := Ev.back 3 (fun n => rfl) H
  rw [if_neg (by decide)] at H
  have H : Ev none e 170 (if 6 = 6 then 90 else 37) [some (.ref 633), some (.int i), some (.int 6), none] [] M v M' 0 0 := Ev.back 3 (fun n => rfl) H
  rw [if_pos (by decide)] at H
  have H : Ev none e 170 91 [some (.ref 633), some (.int i), some (.int 6), none] [.ref 633] M v M' 0 0 := Ev.back 1 (fun n => rfl) H
  have H : Ev none e 170 94 [some (.ref 633), some (.int i), some (.int 6), none] [.ref 643] M v M' 0 0 := Ev.back 1 (gs_3 rfl rfl (gf_u hS.1 qa_633 qr_61_13 qu_71 rfl)) H
  have H : Ev none e 170 96 [some (.ref 633), some (.int i), some (.int 6), none] [.ref 633, .int i, .ref 643] M v M' 0 0 := Ev.back 2 (fun n => rfl) H
  have H : Ev none e 170 99 [some (.ref 633), some (.int i), some (.int 6), none] [.int (zI M 633 19), .int i, .ref 643] M v M' 0 0 := Ev.back 1 (gs_3 rfl rfl (gf_i hS.1 qa_633 qi_61_19 rfl)) H
  obtain ⟨b1, H⟩ := Ev.ias rfl rfl hS.1 qa_643 qw_71 H
  obtain ⟨N2, eN2⟩ : ∃ N, N = (wI M 643 i.toNatClampNeg (zI M 633 19)) := ⟨_, rfl⟩
  have hN2 : SQ N2 := by rw [eN2]; exact hS.ki
  have H : Ev none e 170 100 [some (.ref 633), some (.int i), some (.int 6), none] [] N2 v M' 0 0 := by rw [eN2]; exact H
  have H : Ev none e 170 (if 6 = 6 then 106 else 110) [some (.ref 633), some (.int i), some (.int 6), none] [] N2 v M' 0 0 := Ev.back 3 (fun n => rfl) H
  rw [if_pos (by decide)] at H
  have H : Ev none e 170 (if 6 = 0 then 126 else 116) [some (.ref 633), some (.int i), some (.int 6), some (.int 1)] [] N2 v M' 0 0 := Ev.back 5 (fun n => rfl) H
  rw [if_neg (by decide)] at H
  have H : Ev none e 170 (if 6 = 1 then 126 else 121) [some (.ref 633), some (.int i), some (.int 6), some (.int 1)] [] N2 v M' 0 0 := Ev.back 3 (fun n => rfl) H
  rw [if_neg (by decide)] at H
  have H : Ev none e 170 (if 6 = 5 then 126 else 142) [some (.ref 633), some (.int i), some (.int 6), some (.int 1)] [] N2 v M' 0 0 := Ev.back 3 (fun n => rfl) H
  rw [if_neg (by decide)] at H
  have H : Ev none e 170 (if 1 = 0 then 155 else 146) [some (.ref 633), some (.int i), some (.int 6), some (.int 1)] [] N2 v M' 0 0 := Ev.back 2 (fun n => rfl) H
  rw [if_neg (by decide)] at H
  have H : Ev none e 170 147 [some (.ref 633), some (.int i), some (.int 6), some (.int 1)] [.ref 633] N2 v M' 0 0 := Ev.back 1 (fun n => rfl) H
  obtain ⟨e1, rfl⟩ := Ev.dpos rfl rfl H
  obtain ⟨vK3, MK3, K3, H⟩ := Ev.callb (fun n => gs_7 rfl rfl (show gCal (.invokevirtual 252) 11 (.ref 633 :: []) N2 = some (.inr (179, [some (.ref 633), none], [])) from by show @cond (Option ((List Value × Mem) ⊕ (Nat × Lo × List Value))) (true && gRecv N2 (.ref 633) 11 && gRoom [] && true) (some (.inr (179, [some (.ref 633), none], []))) none = _; rw [recv_s hN2.1 qa_633 qo_61]; rfl)) H
  have K3 : Ev none e1 179 0 [some (.ref 633), none] [] N2 vK3 MK3 0 0 := K3
  have HF := H
  subst eN2
  exact ⟨b1, ⟨e1, vK3, MK3, rfl, K3, HF⟩⟩
theorem rlq6_150 {e : Nat} {M M' : Mem} {v : Option Value} {i y : Int32} {c3 : Option Value} (hS : SQ M) (H : Ev none e 170 150 [some (.ref 633), some (.int i), some (.int 6), c3] [.int y] M v M' 0 0) : (y = 0 ∧ v = some (.int 0) ∧ M' = M) ∨ (¬ (y = 0) ∧ (0 ≤ i.toInt ∧ i.toInt < 128) ∧ v = some (.int 1) ∧ M' = (wI M 644 i.toNatClampNeg (zI M 633 19))) := by
  have H : Ev none e 170 (if y = 0 then 153 else 155) [some (.ref 633), some (.int i), some (.int 6), c3] [] M v M' 0 0 := Ev.back 1 (fun n => rfl) H
  by_cases h1 : y = 0
  · rw [if_pos h1] at H
    have H : Ev none e 170 154 [some (.ref 633), some (.int i), some (.int 6), c3] [.int 0] M v M' 0 0 := Ev.back 1 (fun n => rfl) H
    obtain ⟨z1, z2⟩ := Ev.retz rfl rfl H
    exact Or.inl ⟨h1, z1, z2⟩
  · rw [if_neg h1] at H
    have H : Ev none e 170 156 [some (.ref 633), some (.int i), some (.int 6), c3] [.ref 633] M v M' 0 0 := Ev.back 1 (fun n => rfl) H
    have H : Ev none e 170 159 [some (.ref 633), some (.int i), some (.int 6), c3] [.ref 644] M v M' 0 0 := Ev.back 1 (gs_3 rfl rfl (gf_u hS.1 qa_633 qr_61_14 qu_72 rfl)) H
    have H : Ev none e 170 161 [some (.ref 633), some (.int i), some (.int 6), c3] [.ref 633, .int i, .ref 644] M v M' 0 0 := Ev.back 2 (fun n => rfl) H
    have H : Ev none e 170 164 [some (.ref 633), some (.int i), some (.int 6), c3] [.int (zI M 633 19), .int i, .ref 644] M v M' 0 0 := Ev.back 1 (gs_3 rfl rfl (gf_i hS.1 qa_633 qi_61_19 rfl)) H
    obtain ⟨b2, H⟩ := Ev.ias rfl rfl hS.1 qa_644 qw_72 H
    obtain ⟨N3, eN3⟩ : ∃ N, N = (wI M 644 i.toNatClampNeg (zI M 633 19)) := ⟨_, rfl⟩
    have hN3 : SQ N3 := by rw [eN3]; exact hS.ki
    have H : Ev none e 170 165 [some (.ref 633), some (.int i), some (.int 6), c3] [] N3 v M' 0 0 := by rw [eN3]; exact H
    have H : Ev none e 170 166 [some (.ref 633), some (.int i), some (.int 6), c3] [.int 1] N3 v M' 0 0 := Ev.back 1 (fun n => rfl) H
    obtain ⟨z1, z2⟩ := Ev.retz rfl rfl H
    subst eN3
    exact Or.inr (⟨h1, b2, z1, z2⟩)
theorem rlq7_0 {e : Nat} {M M' : Mem} {v : Option Value} {i : Int32} (hS : SQ M) (H : Ev none e 170 0 [some (.ref 633), some (.int i), some (.int 7), none] [] M v M' 0 0) : (∃ e1 v1 M1, e = e1 + 1 ∧ Ev none e1 167 0 [some (.ref 633), some (.int 0), some (.int 9)] [] M v1 M1 0 0 ∧ Ev none e 170 75 [some (.ref 633), some (.int i), some (.int 7), none] (v1.toList ++ []) M1 v M' 0 0) := by
  have H : Ev none e 170 (if 7 = 5 then 5 else 31) [some (.ref 633), some (.int i), some (.int 7), none] [] M v M' 0 0 := Ev.back 3 (fun n => rfl) H
  rw [if_neg (by decide)] at H
  have H : Ev none e 170 (if 7 = 6 then 90 else 37) [some (.ref 633), some (.int i), some (.int 7), none] [] M v M' 0 0 := Ev.back 3 (fun n => rfl) H
  rw [if_neg (by decide)] at H
  have H : Ev none e 170 (if 7 = 2 then 43 else 47) [some (.ref 633), some (.int i), some (.int 7), none] [.ref 633] M v M' 0 0 := Ev.back 4 (fun n => rfl) H
  rw [if_neg (by decide)] at H
  have H : Ev none e 170 (if 7 = 5 then 53 else 58) [some (.ref 633), some (.int i), some (.int 7), none] [.int 0, .ref 633] M v M' 0 0 := Ev.back 4 (fun n => rfl) H
  rw [if_neg (by decide)] at H
  have H : Ev none e 170 (if 7 = 7 then 64 else 69) [some (.ref 633), some (.int i), some (.int 7), none] [.int 0, .ref 633] M v M' 0 0 := Ev.back 3 (fun n => rfl) H
  rw [if_pos (by decide)] at H
  have H : Ev none e 170 72 [some (.ref 633), some (.int i), some (.int 7), none] [.int 9, .int 0, .ref 633] M v M' 0 0 := Ev.back 2 (fun n => rfl) H
  obtain ⟨e1, rfl⟩ := Ev.dpos rfl rfl H
  obtain ⟨vK1, MK1, K1, H⟩ := Ev.callb (fun n => gs_7 rfl rfl (show gCal (.invokevirtual 240) 11 (.int 9 :: .int 0 :: .ref 633 :: []) M = some (.inr (167, [some (.ref 633), some (.int 0), some (.int 9)], [])) from by show @cond (Option ((List Value × Mem) ⊕ (Nat × Lo × List Value))) (true && gRecv M (.ref 633) 11 && gRoom [] && true) (some (.inr (167, [some (.ref 633), some (.int 0), some (.int 9)], []))) none = _; rw [recv_s hS.1 qa_633 qo_61]; rfl)) H
  have K1 : Ev none e1 167 0 [some (.ref 633), some (.int 0), some (.int 9)] [] M vK1 MK1 0 0 := K1
  have HF := H
  exact ⟨e1, vK1, MK1, rfl, K1, HF⟩
theorem rlq7_75 {e : Nat} {M M' : Mem} {v : Option Value} {i y : Int32} {c3 : Option Value} (hS : SQ M) (H : Ev none e 170 75 [some (.ref 633), some (.int i), some (.int 7), c3] [.int y] M v M' 0 0) : (y = 0 ∧ v = some (.int 0) ∧ M' = M) ∨ (¬ (y = 0) ∧ (0 ≤ i.toInt ∧ i.toInt < 128) ∧ (0 ≤ i.toInt ∧ i.toInt < 128) ∧ (0 ≤ i.toInt ∧ i.toInt < 128) ∧ v = some (.int 1) ∧ M' = (wI (wI (wI M 642 i.toNatClampNeg (zI M 633 32)) 643 i.toNatClampNeg (zI M 633 19)) 644 i.toNatClampNeg (zI M 633 19))) := by
  have H : Ev none e 170 (if y = 0 then 78 else 80) [some (.ref 633), some (.int i), some (.int 7), c3] [] M v M' 0 0 := Ev.back 1 (fun n => rfl) H
  by_cases h1 : y = 0
  · rw [if_pos h1] at H
    have H : Ev none e 170 79 [some (.ref 633), some (.int i), some (.int 7), c3] [.int 0] M v M' 0 0 := Ev.back 1 (fun n => rfl) H
    obtain ⟨z1, z2⟩ := Ev.retz rfl rfl H
    exact Or.inl ⟨h1, z1, z2⟩
  · rw [if_neg h1] at H
    have H : Ev none e 170 81 [some (.ref 633), some (.int i), some (.int 7), c3] [.ref 633] M v M' 0 0 := Ev.back 1 (fun n => rfl) H
    have H : Ev none e 170 84 [some (.ref 633), some (.int i), some (.int 7), c3] [.ref 642] M v M' 0 0 := Ev.back 1 (gs_3 rfl rfl (gf_u hS.1 qa_633 qr_61_12 qu_70 rfl)) H
    have H : Ev none e 170 86 [some (.ref 633), some (.int i), some (.int 7), c3] [.ref 633, .int i, .ref 642] M v M' 0 0 := Ev.back 2 (fun n => rfl) H
    have H : Ev none e 170 89 [some (.ref 633), some (.int i), some (.int 7), c3] [.int (zI M 633 32), .int i, .ref 642] M v M' 0 0 := Ev.back 1 (gs_3 rfl rfl (gf_i hS.1 qa_633 qi_61_32 rfl)) H
    obtain ⟨b2, H⟩ := Ev.ias rfl rfl hS.1 qa_642 qw_70 H
    obtain ⟨N3, eN3⟩ : ∃ N, N = (wI M 642 i.toNatClampNeg (zI M 633 32)) := ⟨_, rfl⟩
    have hN3 : SQ N3 := by rw [eN3]; exact hS.ki
    have H : Ev none e 170 90 [some (.ref 633), some (.int i), some (.int 7), c3] [] N3 v M' 0 0 := by rw [eN3]; exact H
    have H : Ev none e 170 91 [some (.ref 633), some (.int i), some (.int 7), c3] [.ref 633] N3 v M' 0 0 := Ev.back 1 (fun n => rfl) H
    have H : Ev none e 170 94 [some (.ref 633), some (.int i), some (.int 7), c3] [.ref 643] N3 v M' 0 0 := Ev.back 1 (gs_3 rfl rfl (gf_u hN3.1 qa_633 qr_61_13 qu_71 rfl)) H
    have H : Ev none e 170 96 [some (.ref 633), some (.int i), some (.int 7), c3] [.ref 633, .int i, .ref 643] N3 v M' 0 0 := Ev.back 2 (fun n => rfl) H
    have H : Ev none e 170 99 [some (.ref 633), some (.int i), some (.int 7), c3] [.int (zI N3 633 19), .int i, .ref 643] N3 v M' 0 0 := Ev.back 1 (gs_3 rfl rfl (gf_i hN3.1 qa_633 qi_61_19 rfl)) H
    rw [show zI N3 633 19 = zI M 633 19 from by rw [eN3]; exact fI_wI] at H
    obtain ⟨b4, H⟩ := Ev.ias rfl rfl hN3.1 qa_643 qw_71 H
    obtain ⟨N5, eN5⟩ : ∃ N, N = (wI N3 643 i.toNatClampNeg (zI M 633 19)) := ⟨_, rfl⟩
    have hN5 : SQ N5 := by rw [eN5]; exact hN3.ki
    have H : Ev none e 170 100 [some (.ref 633), some (.int i), some (.int 7), c3] [] N5 v M' 0 0 := by rw [eN5]; exact H
    have H : Ev none e 170 (if 7 = 6 then 106 else 110) [some (.ref 633), some (.int i), some (.int 7), c3] [] N5 v M' 0 0 := Ev.back 3 (fun n => rfl) H
    rw [if_neg (by decide)] at H
    have H : Ev none e 170 (if 7 = 0 then 126 else 116) [some (.ref 633), some (.int i), some (.int 7), some (.int 0)] [] N5 v M' 0 0 := Ev.back 4 (fun n => rfl) H
    rw [if_neg (by decide)] at H
    have H : Ev none e 170 (if 7 = 1 then 126 else 121) [some (.ref 633), some (.int i), some (.int 7), some (.int 0)] [] N5 v M' 0 0 := Ev.back 3 (fun n => rfl) H
    rw [if_neg (by decide)] at H
    have H : Ev none e 170 (if 7 = 5 then 126 else 142) [some (.ref 633), some (.int i), some (.int 7), some (.int 0)] [] N5 v M' 0 0 := Ev.back 3 (fun n => rfl) H
    rw [if_neg (by decide)] at H
    have H : Ev none e 170 (if 0 = 0 then 155 else 146) [some (.ref 633), some (.int i), some (.int 7), some (.int 0)] [] N5 v M' 0 0 := Ev.back 2 (fun n => rfl) H
    rw [if_pos (by decide)] at H
    have H : Ev none e 170 156 [some (.ref 633), some (.int i), some (.int 7), some (.int 0)] [.ref 633] N5 v M' 0 0 := Ev.back 1 (fun n => rfl) H
    have H : Ev none e 170 159 [some (.ref 633), some (.int i), some (.int 7), some (.int 0)] [.ref 644] N5 v M' 0 0 := Ev.back 1 (gs_3 rfl rfl (gf_u hN5.1 qa_633 qr_61_14 qu_72 rfl)) H
    have H : Ev none e 170 161 [some (.ref 633), some (.int i), some (.int 7), some (.int 0)] [.ref 633, .int i, .ref 644] N5 v M' 0 0 := Ev.back 2 (fun n => rfl) H
    have H : Ev none e 170 164 [some (.ref 633), some (.int i), some (.int 7), some (.int 0)] [.int (zI N5 633 19), .int i, .ref 644] N5 v M' 0 0 := Ev.back 1 (gs_3 rfl rfl (gf_i hN5.1 qa_633 qi_61_19 rfl)) H
    rw [(show zI N5 633 19 = zI N3 633 19 from by rw [eN5]; exact fI_wI).trans (show zI N3 633 19 = zI M 633 19 from by rw [eN3]; exact fI_wI)] at H
    obtain ⟨b6, H⟩ := Ev.ias rfl rfl hN5.1 qa_644 qw_72 H
    obtain ⟨N7, eN7⟩ : ∃ N, N = (wI N5 644 i.toNatClampNeg (zI M 633 19)) := ⟨_, rfl⟩
    have hN7 : SQ N7 := by rw [eN7]; exact hN5.ki
    have H : Ev none e 170 165 [some (.ref 633), some (.int i), some (.int 7), some (.int 0)] [] N7 v M' 0 0 := by rw [eN7]; exact H
    have H : Ev none e 170 166 [some (.ref 633), some (.int i), some (.int 7), some (.int 0)] [.int 1] N7 v M' 0 0 := Ev.back 1 (fun n => rfl) H
    obtain ⟨z1, z2⟩ := Ev.retz rfl rfl H
    subst eN3 eN5 eN7
    exact Or.inr (⟨h1, b2, b4, b6, z1, z2⟩)
theorem rlq5_19 {e : Nat} {M M' : Mem} {v : Option Value} {i y : Int32} {c2 c3 : Option Value} (hS : SQ M) (H : Ev none e 170 19 [some (.ref 633), some (.int i), c2, c3] [.int y] M v M' 0 0) : v = some (.int y) ∧ M' = M := by
  obtain ⟨z1, z2⟩ := Ev.retz rfl rfl H
  exact ⟨z1, z2⟩
theorem rdq_0 {e : Nat} {M M' : Mem} {v : Option Value} {l : Int32} {c2 c3 c4 : Option Value} (hS : SQ M) (H : Ev none e 169 0 [some (.ref 633), some (.int l), c2, c3, c4] [] M v M' 0 0) : ((zI M 633 22) = 0 ∧ v = some (.int 1) ∧ M' = M) ∨ (¬ ((zI M 633 22) = 0) ∧ 0 ≤ (G_168 M l) ∧ (G_140 M (G_168 M l) 2 4) = 0 ∧ (G_168 M l) = 7 ∧ (∃ e1 v1 M1, e = e1 + 1 ∧ Ev none e1 172 0 [some (.ref 633), some (.int 7), some (.int (G_168 M l)), none] [] M v1 M1 0 0 ∧ Ev none e 169 45 [some (.ref 633), some (.int l), some (.int (G_168 M l)), c3, c4] (v1.toList ++ []) M1 v M' 0 0)) ∨ (¬ ((zI M 633 22) = 0) ∧ 0 ≤ (G_168 M l) ∧ (G_140 M (G_168 M l) 2 4) = 0 ∧ ¬ ((G_168 M l) = 7) ∧ (rI M 639 7) = 16 ∧ (∃ e1 v1 M1, e = e1 + 1 ∧ Ev none e1 163 0 [some (.ref 633), some (.int 3)] [] M v1 M1 0 0 ∧ Ev none e 169 75 [some (.ref 633), some (.int l), some (.int (G_168 M l)), some (.int 0), c4] (v1.toList ++ []) M1 v M' 0 0)) ∨ (¬ ((zI M 633 22) = 0) ∧ 0 ≤ (G_168 M l) ∧ (G_140 M (G_168 M l) 2 4) = 0 ∧ ¬ ((G_168 M l) = 7) ∧ ¬ ((rI M 639 7) = 16) ∧ (∃ e1 v1 M1, e = e1 + 1 ∧ Ev none e1 162 0 [some (.ref 633), none, none, none] [] M v1 M1 0 0 ∧ Ev none e 169 92 [some (.ref 633), some (.int l), some (.int (G_168 M l)), some (.int 0), some (.int (112 + (rI M 639 7)))] (v1.toList ++ []) M1 v M' 0 0)) ∨ (¬ ((zI M 633 22) = 0) ∧ 0 ≤ (G_168 M l) ∧ ¬ ((G_140 M (G_168 M l) 2 4) = 0) ∧ (∃ e1 v1 M1, e = e1 + 1 ∧ Ev none e1 172 0 [some (.ref 633), some (.int 7), some (.int (G_168 M l)), none] [] M v1 M1 0 0 ∧ Ev none e 169 45 [some (.ref 633), some (.int l), some (.int (G_168 M l)), c3, c4] (v1.toList ++ []) M1 v M' 0 0)) ∨ (¬ ((zI M 633 22) = 0) ∧ ¬ (0 ≤ (G_168 M l)) ∧ (∃ e1 v1 M1, e = e1 + 1 ∧ Ev none e1 163 0 [some (.ref 633), some (.int 1)] [] M v1 M1 0 0 ∧ Ev none e 169 22 [some (.ref 633), some (.int l), some (.int (G_168 M l)), c3, c4] (v1.toList ++ []) M1 v M' 0 0)) := by
  have H : Ev none e 169 1 [some (.ref 633), some (.int l), c2, c3, c4] [.ref 633] M v M' 0 0 := Ev.back 1 (fun n => rfl) H
  have H : Ev none e 169 4 [some (.ref 633), some (.int l), c2, c3, c4] [.int (zI M 633 22)] M v M' 0 0 := Ev.back 1 (gs_3 rfl rfl (gf_i hS.1 qa_633 qi_61_22 rfl)) H
  have H : Ev none e 169 (if (zI M 633 22) = 0 then 151 else 7) [some (.ref 633), some (.int l), c2, c3, c4] [] M v M' 0 0 := Ev.back 1 (fun n => rfl) H
  by_cases h1 : (zI M 633 22) = 0
  · rw [if_pos h1] at H
    have H : Ev none e 169 152 [some (.ref 633), some (.int l), c2, c3, c4] [.int 1] M v M' 0 0 := Ev.back 1 (fun n => rfl) H
    obtain ⟨z1, z2⟩ := Ev.retz rfl rfl H
    exact Or.inl ⟨h1, z1, z2⟩
  · rw [if_neg h1] at H
    have H : Ev none e 169 9 [some (.ref 633), some (.int l), c2, c3, c4] [.int l, .ref 633] M v M' 0 0 := Ev.back 2 (fun n => rfl) H
    obtain ⟨e1, rfl⟩ := Ev.dpos rfl rfl H
    obtain ⟨vK2, MK2, K2, H⟩ := Ev.callb (fun n => gs_7 rfl rfl (show gCal (.invokevirtual 223) 11 (.int l :: .ref 633 :: []) M = some (.inr (168, [some (.ref 633), some (.int l)], [])) from by show @cond (Option ((List Value × Mem) ⊕ (Nat × Lo × List Value))) (true && gRecv M (.ref 633) 11 && gRoom [] && true) (some (.inr (168, [some (.ref 633), some (.int l)], []))) none = _; rw [recv_s hS.1 qa_633 qo_61]; rfl)) H
    obtain ⟨pK2, qK2⟩ := g_168 hS K2
    rw [pK2, qK2] at H
    have H : Ev none (e1 + 1) 169 12 [some (.ref 633), some (.int l), c2, c3, c4] [.int (G_168 M l)] M v M' 0 0 := H
    have H : Ev none (e1 + 1) 169 (if 0 ≤ (G_168 M l) then 23 else 17) [some (.ref 633), some (.int l), some (.int (G_168 M l)), c3, c4] [] M v M' 0 0 := Ev.back 3 (fun n => rfl) H
    by_cases h3 : 0 ≤ (G_168 M l)
    · rw [if_pos h3] at H
      have H : Ev none (e1 + 1) 169 26 [some (.ref 633), some (.int l), some (.int (G_168 M l)), c3, c4] [.int 4, .int 2, .int (G_168 M l)] M v M' 0 0 := Ev.back 3 (fun n => rfl) H
      obtain ⟨vK4, MK4, K4, H⟩ := Ev.callb (fun n => rfl) H
      obtain ⟨pK4, qK4⟩ := g_140 hS K4
      rw [pK4, qK4] at H
      have H : Ev none (e1 + 1) 169 29 [some (.ref 633), some (.int l), some (.int (G_168 M l)), c3, c4] [.int (G_140 M (G_168 M l) 2 4)] M v M' 0 0 := H
      have H : Ev none (e1 + 1) 169 (if (G_140 M (G_168 M l) 2 4) = 0 then 32 else 38) [some (.ref 633), some (.int l), some (.int (G_168 M l)), c3, c4] [] M v M' 0 0 := Ev.back 1 (fun n => rfl) H
      by_cases h5 : (G_140 M (G_168 M l) 2 4) = 0
      · rw [if_pos h5] at H
        have H : Ev none (e1 + 1) 169 (if (G_168 M l) = 7 then 38 else 52) [some (.ref 633), some (.int l), some (.int (G_168 M l)), c3, c4] [] M v M' 0 0 := Ev.back 3 (fun n => rfl) H
        by_cases h6 : (G_168 M l) = 7
        · rw [if_pos h6] at H
          have H : Ev none (e1 + 1) 169 42 [some (.ref 633), some (.int l), some (.int (G_168 M l)), c3, c4] [.int (G_168 M l), .int 7, .ref 633] M v M' 0 0 := Ev.back 3 (fun n => rfl) H
          obtain ⟨vK7, MK7, K7, H⟩ := Ev.callb (fun n => gs_7 rfl rfl (show gCal (.invokevirtual 227) 11 (.int (G_168 M l) :: .int 7 :: .ref 633 :: []) M = some (.inr (172, [some (.ref 633), some (.int 7), some (.int (G_168 M l)), none], [])) from by show @cond (Option ((List Value × Mem) ⊕ (Nat × Lo × List Value))) (true && gRecv M (.ref 633) 11 && gRoom [] && true) (some (.inr (172, [some (.ref 633), some (.int 7), some (.int (G_168 M l)), none], []))) none = _; rw [recv_s hS.1 qa_633 qo_61]; rfl)) H
          have K7 : Ev none e1 172 0 [some (.ref 633), some (.int 7), some (.int (G_168 M l)), none] [] M vK7 MK7 0 0 := K7
          have HF := H
          exact Or.inr (Or.inl ⟨h1, h3, h5, h6, ⟨e1, vK7, MK7, rfl, K7, HF⟩⟩)
        · rw [if_neg h6] at H
          have H : Ev none (e1 + 1) 169 (if 0 = 0 then 58 else 70) [some (.ref 633), some (.int l), some (.int (G_168 M l)), some (.int 0), c4] [] M v M' 0 0 := Ev.back 4 (fun n => rfl) H
          rw [if_pos (by decide)] at H
          have H : Ev none (e1 + 1) 169 59 [some (.ref 633), some (.int l), some (.int (G_168 M l)), some (.int 0), c4] [.ref 633] M v M' 0 0 := Ev.back 1 (fun n => rfl) H
          have H : Ev none (e1 + 1) 169 62 [some (.ref 633), some (.int l), some (.int (G_168 M l)), some (.int 0), c4] [.ref 639] M v M' 0 0 := Ev.back 1 (gs_3 rfl rfl (gf_u hS.1 qa_633 qr_61_9 qu_67 rfl)) H
          have H : Ev none (e1 + 1) 169 64 [some (.ref 633), some (.int l), some (.int (G_168 M l)), some (.int 0), c4] [.int 7, .ref 639] M v M' 0 0 := Ev.back 1 (fun n => rfl) H
          obtain ⟨b8, H⟩ := Ev.ial rfl rfl hS.1 qa_639 qw_67 H
          have H : Ev none (e1 + 1) 169 65 [some (.ref 633), some (.int l), some (.int (G_168 M l)), some (.int 0), c4] [.int (rI M 639 7)] M v M' 0 0 := H
          have H : Ev none (e1 + 1) 169 (if (rI M 639 7) = 16 then 70 else 76) [some (.ref 633), some (.int l), some (.int (G_168 M l)), some (.int 0), c4] [] M v M' 0 0 := Ev.back 2 (fun n => rfl) H
          by_cases h9 : (rI M 639 7) = 16
          · rw [if_pos h9] at H
            have H : Ev none (e1 + 1) 169 72 [some (.ref 633), some (.int l), some (.int (G_168 M l)), some (.int 0), c4] [.int 3, .ref 633] M v M' 0 0 := Ev.back 2 (fun n => rfl) H
            obtain ⟨vK10, MK10, K10, H⟩ := Ev.callb (fun n => gs_7 rfl rfl (show gCal (.invokevirtual 198) 11 (.int 3 :: .ref 633 :: []) M = some (.inr (163, [some (.ref 633), some (.int 3)], [])) from by show @cond (Option ((List Value × Mem) ⊕ (Nat × Lo × List Value))) (true && gRecv M (.ref 633) 11 && gRoom [] && true) (some (.inr (163, [some (.ref 633), some (.int 3)], []))) none = _; rw [recv_s hS.1 qa_633 qo_61]; rfl)) H
            have K10 : Ev none e1 163 0 [some (.ref 633), some (.int 3)] [] M vK10 MK10 0 0 := K10
            have HF := H
            exact Or.inr (Or.inr (Or.inl ⟨h1, h3, h5, h6, h9, ⟨e1, vK10, MK10, rfl, K10, HF⟩⟩))
          · rw [if_neg h9] at H
            have H : Ev none (e1 + 1) 169 79 [some (.ref 633), some (.int l), some (.int (G_168 M l)), some (.int 0), c4] [.ref 633, .int 112] M v M' 0 0 := Ev.back 2 (fun n => rfl) H
            have H : Ev none (e1 + 1) 169 82 [some (.ref 633), some (.int l), some (.int (G_168 M l)), some (.int 0), c4] [.ref 639, .int 112] M v M' 0 0 := Ev.back 1 (gs_3 rfl rfl (gf_u hS.1 qa_633 qr_61_9 qu_67 rfl)) H
            have H : Ev none (e1 + 1) 169 84 [some (.ref 633), some (.int l), some (.int (G_168 M l)), some (.int 0), c4] [.int 7, .ref 639, .int 112] M v M' 0 0 := Ev.back 1 (fun n => rfl) H
            obtain ⟨b11, H⟩ := Ev.ial rfl rfl hS.1 qa_639 qw_67 H
            have H : Ev none (e1 + 1) 169 85 [some (.ref 633), some (.int l), some (.int (G_168 M l)), some (.int 0), c4] [.int (rI M 639 7), .int 112] M v M' 0 0 := H
            have H : Ev none (e1 + 1) 169 89 [some (.ref 633), some (.int l), some (.int (G_168 M l)), some (.int 0), some (.int (112 + (rI M 639 7)))] [.ref 633] M v M' 0 0 := Ev.back 3 (fun n => rfl) H
            obtain ⟨vK12, MK12, K12, H⟩ := Ev.callb (fun n => gs_7 rfl rfl (show gCal (.invokevirtual 201) 11 (.ref 633 :: []) M = some (.inr (162, [some (.ref 633), none, none, none], [])) from by show @cond (Option ((List Value × Mem) ⊕ (Nat × Lo × List Value))) (true && gRecv M (.ref 633) 11 && gRoom [] && true) (some (.inr (162, [some (.ref 633), none, none, none], []))) none = _; rw [recv_s hS.1 qa_633 qo_61]; rfl)) H
            have K12 : Ev none e1 162 0 [some (.ref 633), none, none, none] [] M vK12 MK12 0 0 := K12
            have HF := H
            exact Or.inr (Or.inr (Or.inr (Or.inl ⟨h1, h3, h5, h6, h9, ⟨e1, vK12, MK12, rfl, K12, HF⟩⟩)))
      · rw [if_neg h5] at H
        have H : Ev none (e1 + 1) 169 42 [some (.ref 633), some (.int l), some (.int (G_168 M l)), c3, c4] [.int (G_168 M l), .int 7, .ref 633] M v M' 0 0 := Ev.back 3 (fun n => rfl) H
        obtain ⟨vK13, MK13, K13, H⟩ := Ev.callb (fun n => gs_7 rfl rfl (show gCal (.invokevirtual 227) 11 (.int (G_168 M l) :: .int 7 :: .ref 633 :: []) M = some (.inr (172, [some (.ref 633), some (.int 7), some (.int (G_168 M l)), none], [])) from by show @cond (Option ((List Value × Mem) ⊕ (Nat × Lo × List Value))) (true && gRecv M (.ref 633) 11 && gRoom [] && true) (some (.inr (172, [some (.ref 633), some (.int 7), some (.int (G_168 M l)), none], []))) none = _; rw [recv_s hS.1 qa_633 qo_61]; rfl)) H
        have K13 : Ev none e1 172 0 [some (.ref 633), some (.int 7), some (.int (G_168 M l)), none] [] M vK13 MK13 0 0 := K13
        have HF := H
        exact Or.inr (Or.inr (Or.inr (Or.inr (Or.inl ⟨h1, h3, h5, ⟨e1, vK13, MK13, rfl, K13, HF⟩⟩))))
    · rw [if_neg h3] at H
      have H : Ev none (e1 + 1) 169 19 [some (.ref 633), some (.int l), some (.int (G_168 M l)), c3, c4] [.int 1, .ref 633] M v M' 0 0 := Ev.back 2 (fun n => rfl) H
      obtain ⟨vK14, MK14, K14, H⟩ := Ev.callb (fun n => gs_7 rfl rfl (show gCal (.invokevirtual 198) 11 (.int 1 :: .ref 633 :: []) M = some (.inr (163, [some (.ref 633), some (.int 1)], [])) from by show @cond (Option ((List Value × Mem) ⊕ (Nat × Lo × List Value))) (true && gRecv M (.ref 633) 11 && gRoom [] && true) (some (.inr (163, [some (.ref 633), some (.int 1)], []))) none = _; rw [recv_s hS.1 qa_633 qo_61]; rfl)) H
      have K14 : Ev none e1 163 0 [some (.ref 633), some (.int 1)] [] M vK14 MK14 0 0 := K14
      have HF := H
      exact Or.inr (Or.inr (Or.inr (Or.inr (Or.inr (⟨h1, h3, ⟨e1, vK14, MK14, rfl, K14, HF⟩⟩)))))
theorem rdq_22 {e : Nat} {M M' : Mem} {v : Option Value} {l y : Int32} {c2 c3 c4 : Option Value} (hS : SQ M) (H : Ev none e 169 22 [some (.ref 633), some (.int l), c2, c3, c4] [.int y] M v M' 0 0) : v = some (.int y) ∧ M' = M := by
  obtain ⟨z1, z2⟩ := Ev.retz rfl rfl H
  exact ⟨z1, z2⟩
theorem rdq_45 {e : Nat} {M M' : Mem} {v : Option Value} {l k y : Int32} {c3 c4 : Option Value} (hS : SQ M) (H : Ev none e 169 45 [some (.ref 633), some (.int l), some (.int k), c3, c4] [.int y] M v M' 0 0) : (y < 0 ∧ (rI M 639 7) = 16 ∧ (∃ e1 v1 M1, e = e1 + 1 ∧ Ev none e1 163 0 [some (.ref 633), some (.int 3)] [] M v1 M1 0 0 ∧ Ev none e 169 75 [some (.ref 633), some (.int l), some (.int k), some (.int 0), c4] (v1.toList ++ []) M1 v M' 0 0)) ∨ (y < 0 ∧ ¬ ((rI M 639 7) = 16) ∧ (∃ e1 v1 M1, e = e1 + 1 ∧ Ev none e1 162 0 [some (.ref 633), none, none, none] [] M v1 M1 0 0 ∧ Ev none e 169 92 [some (.ref 633), some (.int l), some (.int k), some (.int 0), some (.int (112 + (rI M 639 7)))] (v1.toList ++ []) M1 v M' 0 0)) ∨ (¬ (y < 0) ∧ (∃ e1 v1 M1, e = e1 + 1 ∧ Ev none e1 163 0 [some (.ref 633), some (.int 3)] [] M v1 M1 0 0 ∧ Ev none e 169 75 [some (.ref 633), some (.int l), some (.int k), some (.int 1), c4] (v1.toList ++ []) M1 v M' 0 0)) := by
  have H : Ev none e 169 (if y < 0 then 52 else 48) [some (.ref 633), some (.int l), some (.int k), c3, c4] [] M v M' 0 0 := Ev.back 1 (fun n => rfl) H
  by_cases h1 : y < 0
  · rw [if_pos h1] at H
    have H : Ev none e 169 (if 0 = 0 then 58 else 70) [some (.ref 633), some (.int l), some (.int k), some (.int 0), c4] [] M v M' 0 0 := Ev.back 4 (fun n => rfl) H
    rw [if_pos (by decide)] at H
    have H : Ev none e 169 59 [some (.ref 633), some (.int l), some (.int k), some (.int 0), c4] [.ref 633] M v M' 0 0 := Ev.back 1 (fun n => rfl) H
    have H : Ev none e 169 62 [some (.ref 633), some (.int l), some (.int k), some (.int 0), c4] [.ref 639] M v M' 0 0 := Ev.back 1 (gs_3 rfl rfl (gf_u hS.1 qa_633 qr_61_9 qu_67 rfl)) H
    have H : Ev none e 169 64 [some (.ref 633), some (.int l), some (.int k), some (.int 0), c4] [.int 7, .ref 639] M v M' 0 0 := Ev.back 1 (fun n => rfl) H
    obtain ⟨b2, H⟩ := Ev.ial rfl rfl hS.1 qa_639 qw_67 H
    have H : Ev none e 169 65 [some (.ref 633), some (.int l), some (.int k), some (.int 0), c4] [.int (rI M 639 7)] M v M' 0 0 := H
    have H : Ev none e 169 (if (rI M 639 7) = 16 then 70 else 76) [some (.ref 633), some (.int l), some (.int k), some (.int 0), c4] [] M v M' 0 0 := Ev.back 2 (fun n => rfl) H
    by_cases h3 : (rI M 639 7) = 16
    · rw [if_pos h3] at H
      have H : Ev none e 169 72 [some (.ref 633), some (.int l), some (.int k), some (.int 0), c4] [.int 3, .ref 633] M v M' 0 0 := Ev.back 2 (fun n => rfl) H
      obtain ⟨e1, rfl⟩ := Ev.dpos rfl rfl H
      obtain ⟨vK4, MK4, K4, H⟩ := Ev.callb (fun n => gs_7 rfl rfl (show gCal (.invokevirtual 198) 11 (.int 3 :: .ref 633 :: []) M = some (.inr (163, [some (.ref 633), some (.int 3)], [])) from by show @cond (Option ((List Value × Mem) ⊕ (Nat × Lo × List Value))) (true && gRecv M (.ref 633) 11 && gRoom [] && true) (some (.inr (163, [some (.ref 633), some (.int 3)], []))) none = _; rw [recv_s hS.1 qa_633 qo_61]; rfl)) H
      have K4 : Ev none e1 163 0 [some (.ref 633), some (.int 3)] [] M vK4 MK4 0 0 := K4
      have HF := H
      exact Or.inl ⟨h1, h3, ⟨e1, vK4, MK4, rfl, K4, HF⟩⟩
    · rw [if_neg h3] at H
      have H : Ev none e 169 79 [some (.ref 633), some (.int l), some (.int k), some (.int 0), c4] [.ref 633, .int 112] M v M' 0 0 := Ev.back 2 (fun n => rfl) H
      have H : Ev none e 169 82 [some (.ref 633), some (.int l), some (.int k), some (.int 0), c4] [.ref 639, .int 112] M v M' 0 0 := Ev.back 1 (gs_3 rfl rfl (gf_u hS.1 qa_633 qr_61_9 qu_67 rfl)) H
      have H : Ev none e 169 84 [some (.ref 633), some (.int l), some (.int k), some (.int 0), c4] [.int 7, .ref 639, .int 112] M v M' 0 0 := Ev.back 1 (fun n => rfl) H
      obtain ⟨b5, H⟩ := Ev.ial rfl rfl hS.1 qa_639 qw_67 H
      have H : Ev none e 169 85 [some (.ref 633), some (.int l), some (.int k), some (.int 0), c4] [.int (rI M 639 7), .int 112] M v M' 0 0 := H
      have H : Ev none e 169 89 [some (.ref 633), some (.int l), some (.int k), some (.int 0), some (.int (112 + (rI M 639 7)))] [.ref 633] M v M' 0 0 := Ev.back 3 (fun n => rfl) H
      obtain ⟨e1, rfl⟩ := Ev.dpos rfl rfl H
      obtain ⟨vK6, MK6, K6, H⟩ := Ev.callb (fun n => gs_7 rfl rfl (show gCal (.invokevirtual 201) 11 (.ref 633 :: []) M = some (.inr (162, [some (.ref 633), none, none, none], [])) from by show @cond (Option ((List Value × Mem) ⊕ (Nat × Lo × List Value))) (true && gRecv M (.ref 633) 11 && gRoom [] && true) (some (.inr (162, [some (.ref 633), none, none, none], []))) none = _; rw [recv_s hS.1 qa_633 qo_61]; rfl)) H
      have K6 : Ev none e1 162 0 [some (.ref 633), none, none, none] [] M vK6 MK6 0 0 := K6
      have HF := H
      exact Or.inr (Or.inl ⟨h1, h3, ⟨e1, vK6, MK6, rfl, K6, HF⟩⟩)
  · rw [if_neg h1] at H
    have H : Ev none e 169 (if 1 = 0 then 58 else 70) [some (.ref 633), some (.int l), some (.int k), some (.int 1), c4] [] M v M' 0 0 := Ev.back 5 (fun n => rfl) H
    rw [if_neg (by decide)] at H
    have H : Ev none e 169 72 [some (.ref 633), some (.int l), some (.int k), some (.int 1), c4] [.int 3, .ref 633] M v M' 0 0 := Ev.back 2 (fun n => rfl) H
    obtain ⟨e1, rfl⟩ := Ev.dpos rfl rfl H
    obtain ⟨vK7, MK7, K7, H⟩ := Ev.callb (fun n => gs_7 rfl rfl (show gCal (.invokevirtual 198) 11 (.int 3 :: .ref 633 :: []) M = some (.inr (163, [some (.ref 633), some (.int 3)], [])) from by show @cond (Option ((List Value × Mem) ⊕ (Nat × Lo × List Value))) (true && gRecv M (.ref 633) 11 && gRoom [] && true) (some (.inr (163, [some (.ref 633), some (.int 3)], []))) none = _; rw [recv_s hS.1 qa_633 qo_61]; rfl)) H
    have K7 : Ev none e1 163 0 [some (.ref 633), some (.int 3)] [] M vK7 MK7 0 0 := K7
    have HF := H
    exact Or.inr (Or.inr (⟨h1, ⟨e1, vK7, MK7, rfl, K7, HF⟩⟩))
theorem rdq_92 {e : Nat} {M M' : Mem} {v : Option Value} {l k j : Int32} {c3 : Option Value} (hS : SQ M) (H : Ev none e 169 92 [some (.ref 633), some (.int l), some (.int k), c3, some (.int j)] [] M v M' 0 0) : (∃ e1 v1 M1, e = e1 + 1 ∧ Ev none e1 170 0 [some (.ref 633), some (.int j), some (.int k), none] [] (wI (wI (wI M 640 j.toNatClampNeg k) 641 j.toNatClampNeg 0) 642 j.toNatClampNeg 0) v1 M1 0 0 ∧ Ev none e 169 123 [some (.ref 633), some (.int l), some (.int k), c3, some (.int j)] (v1.toList ++ []) M1 v M' 0 0) := by
  have H : Ev none e 169 93 [some (.ref 633), some (.int l), some (.int k), c3, some (.int j)] [.ref 633] M v M' 0 0 := Ev.back 1 (fun n => rfl) H
  have H : Ev none e 169 96 [some (.ref 633), some (.int l), some (.int k), c3, some (.int j)] [.ref 640] M v M' 0 0 := Ev.back 1 (gs_3 rfl rfl (gf_u hS.1 qa_633 qr_61_10 qu_68 rfl)) H
  have H : Ev none e 169 99 [some (.ref 633), some (.int l), some (.int k), c3, some (.int j)] [.int k, .int j, .ref 640] M v M' 0 0 := Ev.back 2 (fun n => rfl) H
  obtain ⟨b1, H⟩ := Ev.ias rfl rfl hS.1 qa_640 qw_68 H
  obtain ⟨N2, eN2⟩ : ∃ N, N = (wI M 640 j.toNatClampNeg k) := ⟨_, rfl⟩
  have hN2 : SQ N2 := by rw [eN2]; exact hS.ki
  have H : Ev none e 169 100 [some (.ref 633), some (.int l), some (.int k), c3, some (.int j)] [] N2 v M' 0 0 := by rw [eN2]; exact H
  have H : Ev none e 169 101 [some (.ref 633), some (.int l), some (.int k), c3, some (.int j)] [.ref 633] N2 v M' 0 0 := Ev.back 1 (fun n => rfl) H
  have H : Ev none e 169 104 [some (.ref 633), some (.int l), some (.int k), c3, some (.int j)] [.ref 641] N2 v M' 0 0 := Ev.back 1 (gs_3 rfl rfl (gf_u hN2.1 qa_633 qr_61_11 qu_69 rfl)) H
  have H : Ev none e 169 107 [some (.ref 633), some (.int l), some (.int k), c3, some (.int j)] [.int 0, .int j, .ref 641] N2 v M' 0 0 := Ev.back 2 (fun n => rfl) H
  obtain ⟨b3, H⟩ := Ev.ias rfl rfl hN2.1 qa_641 qw_69 H
  obtain ⟨N4, eN4⟩ : ∃ N, N = (wI N2 641 j.toNatClampNeg 0) := ⟨_, rfl⟩
  have hN4 : SQ N4 := by rw [eN4]; exact hN2.ki
  have H : Ev none e 169 108 [some (.ref 633), some (.int l), some (.int k), c3, some (.int j)] [] N4 v M' 0 0 := by rw [eN4]; exact H
  have H : Ev none e 169 109 [some (.ref 633), some (.int l), some (.int k), c3, some (.int j)] [.ref 633] N4 v M' 0 0 := Ev.back 1 (fun n => rfl) H
  have H : Ev none e 169 112 [some (.ref 633), some (.int l), some (.int k), c3, some (.int j)] [.ref 642] N4 v M' 0 0 := Ev.back 1 (gs_3 rfl rfl (gf_u hN4.1 qa_633 qr_61_12 qu_70 rfl)) H
  have H : Ev none e 169 115 [some (.ref 633), some (.int l), some (.int k), c3, some (.int j)] [.int 0, .int j, .ref 642] N4 v M' 0 0 := Ev.back 2 (fun n => rfl) H
  obtain ⟨b5, H⟩ := Ev.ias rfl rfl hN4.1 qa_642 qw_70 H
  obtain ⟨N6, eN6⟩ : ∃ N, N = (wI N4 642 j.toNatClampNeg 0) := ⟨_, rfl⟩
  have hN6 : SQ N6 := by rw [eN6]; exact hN4.ki
  have H : Ev none e 169 116 [some (.ref 633), some (.int l), some (.int k), c3, some (.int j)] [] N6 v M' 0 0 := by rw [eN6]; exact H
  have H : Ev none e 169 120 [some (.ref 633), some (.int l), some (.int k), c3, some (.int j)] [.int k, .int j, .ref 633] N6 v M' 0 0 := Ev.back 3 (fun n => rfl) H
  obtain ⟨e1, rfl⟩ := Ev.dpos rfl rfl H
  obtain ⟨vK7, MK7, K7, H⟩ := Ev.callb (fun n => gs_7 rfl rfl (show gCal (.invokevirtual 230) 11 (.int k :: .int j :: .ref 633 :: []) N6 = some (.inr (170, [some (.ref 633), some (.int j), some (.int k), none], [])) from by show @cond (Option ((List Value × Mem) ⊕ (Nat × Lo × List Value))) (true && gRecv N6 (.ref 633) 11 && gRoom [] && true) (some (.inr (170, [some (.ref 633), some (.int j), some (.int k), none], []))) none = _; rw [recv_s hN6.1 qa_633 qo_61]; rfl)) H
  have K7 : Ev none e1 170 0 [some (.ref 633), some (.int j), some (.int k), none] [] N6 vK7 MK7 0 0 := K7
  have HF := H
  subst eN2 eN4 eN6
  exact ⟨e1, vK7, MK7, rfl, K7, HF⟩
theorem rdq_75 {e : Nat} {M M' : Mem} {v : Option Value} {l y : Int32} {c2 c3 c4 : Option Value} (hS : SQ M) (H : Ev none e 169 75 [some (.ref 633), some (.int l), c2, c3, c4] [.int y] M v M' 0 0) : v = some (.int y) ∧ M' = M := by
  obtain ⟨z1, z2⟩ := Ev.retz rfl rfl H
  exact ⟨z1, z2⟩
theorem rdq_123 {e : Nat} {M M' : Mem} {v : Option Value} {l y : Int32} {c2 c3 c4 : Option Value} (hS : SQ M) (H : Ev none e 169 123 [some (.ref 633), some (.int l), c2, c3, c4] [.int y] M v M' 0 0) : (y = 0 ∧ v = some (.int 0) ∧ M' = M) ∨ (¬ (y = 0) ∧ (∃ e1 v1 M1, e = e1 + 1 ∧ Ev none e1 166 0 [some (.ref 633), some (.int 59)] [] M v1 M1 0 0 ∧ Ev none e 169 132 [some (.ref 633), some (.int l), c2, c3, c4] (v1.toList ++ []) M1 v M' 0 0)) := by
  have H : Ev none e 169 (if y = 0 then 135 else 126) [some (.ref 633), some (.int l), c2, c3, c4] [] M v M' 0 0 := Ev.back 1 (fun n => rfl) H
  by_cases h1 : y = 0
  · rw [if_pos h1] at H
    have H : Ev none e 169 136 [some (.ref 633), some (.int l), c2, c3, c4] [.int 0] M v M' 0 0 := Ev.back 1 (fun n => rfl) H
    obtain ⟨z1, z2⟩ := Ev.retz rfl rfl H
    exact Or.inl ⟨h1, z1, z2⟩
  · rw [if_neg h1] at H
    have H : Ev none e 169 129 [some (.ref 633), some (.int l), c2, c3, c4] [.int 59, .ref 633] M v M' 0 0 := Ev.back 2 (fun n => rfl) H
    obtain ⟨e1, rfl⟩ := Ev.dpos rfl rfl H
    obtain ⟨vK2, MK2, K2, H⟩ := Ev.callb (fun n => gs_7 rfl rfl (show gCal (.invokevirtual 234) 11 (.int 59 :: .ref 633 :: []) M = some (.inr (166, [some (.ref 633), some (.int 59)], [])) from by show @cond (Option ((List Value × Mem) ⊕ (Nat × Lo × List Value))) (true && gRecv M (.ref 633) 11 && gRoom [] && true) (some (.inr (166, [some (.ref 633), some (.int 59)], []))) none = _; rw [recv_s hS.1 qa_633 qo_61]; rfl)) H
    have K2 : Ev none e1 166 0 [some (.ref 633), some (.int 59)] [] M vK2 MK2 0 0 := K2
    have HF := H
    exact Or.inr (⟨h1, ⟨e1, vK2, MK2, rfl, K2, HF⟩⟩)
theorem rdq_132 {e : Nat} {M M' : Mem} {v : Option Value} {l y : Int32} {c2 c3 c4 : Option Value} (hS : SQ M) (H : Ev none e 169 132 [some (.ref 633), some (.int l), c2, c3, c4] [.int y] M v M' 0 0) : (y = 0 ∧ v = some (.int 0) ∧ M' = M) ∨ (¬ (y = 0) ∧ (0 ≤ (7 : Int32).toInt ∧ (7 : Int32).toInt < 8) ∧ (0 ≤ (7 : Int32).toInt ∧ (7 : Int32).toInt < 8) ∧ Ev none e 169 0 [some (.ref 633), some (.int l), c2, c3, c4] [] (wI M 639 ((7 : Int32).toNatClampNeg) ((rI M 639 7) + 1)) v M' 0 0) := by
  have H : Ev none e 169 (if y = 0 then 135 else 137) [some (.ref 633), some (.int l), c2, c3, c4] [] M v M' 0 0 := Ev.back 1 (fun n => rfl) H
  by_cases h1 : y = 0
  · rw [if_pos h1] at H
    have H : Ev none e 169 136 [some (.ref 633), some (.int l), c2, c3, c4] [.int 0] M v M' 0 0 := Ev.back 1 (fun n => rfl) H
    obtain ⟨z1, z2⟩ := Ev.retz rfl rfl H
    exact Or.inl ⟨h1, z1, z2⟩
  · rw [if_neg h1] at H
    have H : Ev none e 169 138 [some (.ref 633), some (.int l), c2, c3, c4] [.ref 633] M v M' 0 0 := Ev.back 1 (fun n => rfl) H
    have H : Ev none e 169 141 [some (.ref 633), some (.int l), c2, c3, c4] [.ref 639] M v M' 0 0 := Ev.back 1 (gs_3 rfl rfl (gf_u hS.1 qa_633 qr_61_9 qu_67 rfl)) H
    have H : Ev none e 169 144 [some (.ref 633), some (.int l), c2, c3, c4] [.int 7, .ref 639, .int 7, .ref 639] M v M' 0 0 := Ev.back 2 (fun n => rfl) H
    obtain ⟨b2, H⟩ := Ev.ial rfl rfl hS.1 qa_639 qw_67 H
    have H : Ev none e 169 145 [some (.ref 633), some (.int l), c2, c3, c4] [.int (rI M 639 7), .int 7, .ref 639] M v M' 0 0 := H
    have H : Ev none e 169 147 [some (.ref 633), some (.int l), c2, c3, c4] [.int ((rI M 639 7) + 1), .int 7, .ref 639] M v M' 0 0 := Ev.back 2 (fun n => rfl) H
    obtain ⟨b3, H⟩ := Ev.ias rfl rfl hS.1 qa_639 qw_67 H
    obtain ⟨N4, eN4⟩ : ∃ N, N = (wI M 639 ((7 : Int32).toNatClampNeg) ((rI M 639 7) + 1)) := ⟨_, rfl⟩
    have hN4 : SQ N4 := by rw [eN4]; exact hS.ki
    have H : Ev none e 169 148 [some (.ref 633), some (.int l), c2, c3, c4] [] N4 v M' 0 0 := by rw [eN4]; exact H
    have H : Ev none e 169 0 [some (.ref 633), some (.int l), c2, c3, c4] [] N4 v M' 0 0 := Ev.back 1 (fun n => rfl) H
    have HF := H
    subst eN4
    exact Or.inr (⟨h1, b2, b3, HF⟩)
/-! THE REFERENCE: pieces of text, law, habit (made by gre.py) -/
theorem teq_0 {e : Nat} {M M' : Mem} {v : Option Value} {t l : Int32} {c3 c4 c5 : Option Value} (hS : SQ M) (H : Ev none e 181 0 [some (.ref 633), some (.int t), some (.int l), c3, c4, c5] [] M v M' 0 0) : (0 ≤ (7 : Int32).toInt ∧ (7 : Int32).toInt < 8) ∧ (∃ e1 v1 M1, e = e1 + 1 ∧ Ev none e1 162 0 [some (.ref 633), none, none, none] [] (wF (wF (wI (wF M 633 26 0) 639 ((7 : Int32).toNatClampNeg) 0) 633 19 0) 633 21 0) v1 M1 0 0 ∧ Ev none e 181 27 [some (.ref 633), some (.int t), some (.int l), c3, c4, c5] (v1.toList ++ []) M1 v M' 0 0) := by
  have H : Ev none e 181 2 [some (.ref 633), some (.int t), some (.int l), c3, c4, c5] [.int 0, .ref 633] M v M' 0 0 := Ev.back 2 (fun n => rfl) H
  obtain ⟨N2, eN2⟩ : ∃ N, N = (wF M 633 26 0) := ⟨_, rfl⟩
  have hN2 : SQ N2 := by rw [eN2]; exact hS.kf
  have H : Ev none e 181 5 [some (.ref 633), some (.int t), some (.int l), c3, c4, c5] [] N2 v M' 0 0 := by rw [eN2]; exact Ev.pfi rfl rfl rfl hS.1 qa_633 qi_61_26 H
  have H : Ev none e 181 6 [some (.ref 633), some (.int t), some (.int l), c3, c4, c5] [.ref 633] N2 v M' 0 0 := Ev.back 1 (fun n => rfl) H
  have H : Ev none e 181 9 [some (.ref 633), some (.int t), some (.int l), c3, c4, c5] [.ref 639] N2 v M' 0 0 := Ev.back 1 (gs_3 rfl rfl (gf_u hN2.1 qa_633 qr_61_9 qu_67 rfl)) H
  have H : Ev none e 181 12 [some (.ref 633), some (.int t), some (.int l), c3, c4, c5] [.int 0, .int 7, .ref 639] N2 v M' 0 0 := Ev.back 2 (fun n => rfl) H
  obtain ⟨b3, H⟩ := Ev.ias rfl rfl hN2.1 qa_639 qw_67 H
  obtain ⟨N4, eN4⟩ : ∃ N, N = (wI N2 639 ((7 : Int32).toNatClampNeg) 0) := ⟨_, rfl⟩
  have hN4 : SQ N4 := by rw [eN4]; exact hN2.ki
  have H : Ev none e 181 13 [some (.ref 633), some (.int t), some (.int l), c3, c4, c5] [] N4 v M' 0 0 := by rw [eN4]; exact H
  have H : Ev none e 181 15 [some (.ref 633), some (.int t), some (.int l), c3, c4, c5] [.int 0, .ref 633] N4 v M' 0 0 := Ev.back 2 (fun n => rfl) H
  obtain ⟨N6, eN6⟩ : ∃ N, N = (wF N4 633 19 0) := ⟨_, rfl⟩
  have hN6 : SQ N6 := by rw [eN6]; exact hN4.kf
  have H : Ev none e 181 18 [some (.ref 633), some (.int t), some (.int l), c3, c4, c5] [] N6 v M' 0 0 := by rw [eN6]; exact Ev.pfi rfl rfl rfl hN4.1 qa_633 qi_61_19 H
  have H : Ev none e 181 20 [some (.ref 633), some (.int t), some (.int l), c3, c4, c5] [.int 0, .ref 633] N6 v M' 0 0 := Ev.back 2 (fun n => rfl) H
  obtain ⟨N8, eN8⟩ : ∃ N, N = (wF N6 633 21 0) := ⟨_, rfl⟩
  have hN8 : SQ N8 := by rw [eN8]; exact hN6.kf
  have H : Ev none e 181 23 [some (.ref 633), some (.int t), some (.int l), c3, c4, c5] [] N8 v M' 0 0 := by rw [eN8]; exact Ev.pfi rfl rfl rfl hN6.1 qa_633 qi_61_21 H
  have H : Ev none e 181 24 [some (.ref 633), some (.int t), some (.int l), c3, c4, c5] [.ref 633] N8 v M' 0 0 := Ev.back 1 (fun n => rfl) H
  obtain ⟨e1, rfl⟩ := Ev.dpos rfl rfl H
  obtain ⟨vK9, MK9, K9, H⟩ := Ev.callb (fun n => gs_7 rfl rfl (show gCal (.invokevirtual 201) 11 (.ref 633 :: []) N8 = some (.inr (162, [some (.ref 633), none, none, none], [])) from by show @cond (Option ((List Value × Mem) ⊕ (Nat × Lo × List Value))) (true && gRecv N8 (.ref 633) 11 && gRoom [] && true) (some (.inr (162, [some (.ref 633), none, none, none], []))) none = _; rw [recv_s hN8.1 qa_633 qo_61]; rfl)) H
  have K9 : Ev none e1 162 0 [some (.ref 633), none, none, none] [] N8 vK9 MK9 0 0 := K9
  have HF := H
  subst eN2 eN4 eN6 eN8
  exact ⟨b3, ⟨e1, vK9, MK9, rfl, K9, HF⟩⟩
theorem teq_27 {e : Nat} {M M' : Mem} {v : Option Value} {t l : Int32} {c3 c4 c5 : Option Value} (hS : SQ M) (H : Ev none e 181 27 [some (.ref 633), some (.int t), some (.int l), c3, c4, c5] [] M v M' 0 0) : (∃ e1 v1 M1, e = e1 + 1 ∧ Ev none e1 169 0 [some (.ref 633), some (.int l), none, none, none] [] M v1 M1 0 0 ∧ Ev none e 181 32 [some (.ref 633), some (.int t), some (.int l), c3, c4, c5] (v1.toList ++ []) M1 v M' 0 0) := by
  have H : Ev none e 181 29 [some (.ref 633), some (.int t), some (.int l), c3, c4, c5] [.int l, .ref 633] M v M' 0 0 := Ev.back 2 (fun n => rfl) H
  obtain ⟨e1, rfl⟩ := Ev.dpos rfl rfl H
  obtain ⟨vK1, MK1, K1, H⟩ := Ev.callb (fun n => gs_7 rfl rfl (show gCal (.invokevirtual 321) 11 (.int l :: .ref 633 :: []) M = some (.inr (169, [some (.ref 633), some (.int l), none, none, none], [])) from by show @cond (Option ((List Value × Mem) ⊕ (Nat × Lo × List Value))) (true && gRecv M (.ref 633) 11 && gRoom [] && true) (some (.inr (169, [some (.ref 633), some (.int l), none, none, none], []))) none = _; rw [recv_s hS.1 qa_633 qo_61]; rfl)) H
  have K1 : Ev none e1 169 0 [some (.ref 633), some (.int l), none, none, none] [] M vK1 MK1 0 0 := K1
  have HF := H
  exact ⟨e1, vK1, MK1, rfl, K1, HF⟩
theorem teq_32 {e : Nat} {M M' : Mem} {v : Option Value} {t l y : Int32} {c3 c4 c5 : Option Value} (hS : SQ M) (H : Ev none e 181 32 [some (.ref 633), some (.int t), some (.int l), c3, c4, c5] [.int y] M v M' 0 0) : (y = 0 ∧ v = some (.int ((-1) - (zI M 633 27))) ∧ M' = M) ∨ (¬ (y = 0) ∧ (0 ≤ (7 : Int32).toInt ∧ (7 : Int32).toInt < 8) ∧ (0 ≤ t.toInt ∧ t.toInt < 8) ∧ Ev none e 181 57 [some (.ref 633), some (.int t), some (.int l), some (.int 0), c4, c5] [] (wI M 639 t.toNatClampNeg (rI M 639 7)) v M' 0 0) := by
  have H : Ev none e 181 (if y = 0 then 35 else 42) [some (.ref 633), some (.int t), some (.int l), c3, c4, c5] [] M v M' 0 0 := Ev.back 1 (fun n => rfl) H
  by_cases h1 : y = 0
  · rw [if_pos h1] at H
    have H : Ev none e 181 37 [some (.ref 633), some (.int t), some (.int l), c3, c4, c5] [.ref 633, .int (-1)] M v M' 0 0 := Ev.back 2 (fun n => rfl) H
    have H : Ev none e 181 40 [some (.ref 633), some (.int t), some (.int l), c3, c4, c5] [.int (zI M 633 27), .int (-1)] M v M' 0 0 := Ev.back 1 (gs_3 rfl rfl (gf_i hS.1 qa_633 qi_61_27 rfl)) H
    obtain ⟨m2, em2⟩ : ∃ m : Int32, m = (-1) := ⟨_, rfl⟩
    have H : Ev none e 181 40 [some (.ref 633), some (.int t), some (.int l), c3, c4, c5] [.int (zI M 633 27), .int m2] M v M' 0 0 := by rw [em2]; exact H
    have H : Ev none e 181 41 [some (.ref 633), some (.int t), some (.int l), c3, c4, c5] [.int (m2 - (zI M 633 27))] M v M' 0 0 := Ev.back 1 (fun n => rfl) H
    rw [em2] at H
    obtain ⟨z1, z2⟩ := Ev.retz rfl rfl H
    exact Or.inl ⟨h1, z1, z2⟩
  · rw [if_neg h1] at H
    have H : Ev none e 181 43 [some (.ref 633), some (.int t), some (.int l), c3, c4, c5] [.ref 633] M v M' 0 0 := Ev.back 1 (fun n => rfl) H
    have H : Ev none e 181 46 [some (.ref 633), some (.int t), some (.int l), c3, c4, c5] [.ref 639] M v M' 0 0 := Ev.back 1 (gs_3 rfl rfl (gf_u hS.1 qa_633 qr_61_9 qu_67 rfl)) H
    have H : Ev none e 181 48 [some (.ref 633), some (.int t), some (.int l), c3, c4, c5] [.ref 633, .int t, .ref 639] M v M' 0 0 := Ev.back 2 (fun n => rfl) H
    have H : Ev none e 181 51 [some (.ref 633), some (.int t), some (.int l), c3, c4, c5] [.ref 639, .int t, .ref 639] M v M' 0 0 := Ev.back 1 (gs_3 rfl rfl (gf_u hS.1 qa_633 qr_61_9 qu_67 rfl)) H
    have H : Ev none e 181 53 [some (.ref 633), some (.int t), some (.int l), c3, c4, c5] [.int 7, .ref 639, .int t, .ref 639] M v M' 0 0 := Ev.back 1 (fun n => rfl) H
    obtain ⟨b3, H⟩ := Ev.ial rfl rfl hS.1 qa_639 qw_67 H
    have H : Ev none e 181 54 [some (.ref 633), some (.int t), some (.int l), c3, c4, c5] [.int (rI M 639 7), .int t, .ref 639] M v M' 0 0 := H
    obtain ⟨b4, H⟩ := Ev.ias rfl rfl hS.1 qa_639 qw_67 H
    obtain ⟨N5, eN5⟩ : ∃ N, N = (wI M 639 t.toNatClampNeg (rI M 639 7)) := ⟨_, rfl⟩
    have hN5 : SQ N5 := by rw [eN5]; exact hS.ki
    have H : Ev none e 181 55 [some (.ref 633), some (.int t), some (.int l), c3, c4, c5] [] N5 v M' 0 0 := by rw [eN5]; exact H
    have H : Ev none e 181 57 [some (.ref 633), some (.int t), some (.int l), some (.int 0), c4, c5] [] N5 v M' 0 0 := Ev.back 2 (fun n => rfl) H
    have HF := H
    subst eN5
    exact Or.inr (⟨h1, b3, b4, HF⟩)
theorem teq_57 {e : Nat} {M M' : Mem} {v : Option Value} {t l k : Int32} {c4 c5 : Option Value} (hS : SQ M) (H : Ev none e 181 57 [some (.ref 633), some (.int t), some (.int l), some (.int k), c4, c5] [] M v M' 0 0) : (16 ≤ k ∧ Ev none e 181 155 [some (.ref 633), some (.int t), some (.int l), some (.int 0), c4, c5] [] M v M' 0 0) ∨ (¬ (16 ≤ k) ∧ (0 ≤ (112 + k).toInt ∧ (112 + k).toInt < 128) ∧ (0 ≤ ((16 * t) + k).toInt ∧ ((16 * t) + k).toInt < 128) ∧ (0 ≤ (112 + k).toInt ∧ (112 + k).toInt < 128) ∧ (0 ≤ ((16 * t) + k).toInt ∧ ((16 * t) + k).toInt < 128) ∧ (0 ≤ (112 + k).toInt ∧ (112 + k).toInt < 128) ∧ (0 ≤ ((16 * t) + k).toInt ∧ ((16 * t) + k).toInt < 128) ∧ (0 ≤ (112 + k).toInt ∧ (112 + k).toInt < 128) ∧ (0 ≤ ((16 * t) + k).toInt ∧ ((16 * t) + k).toInt < 128) ∧ (0 ≤ (112 + k).toInt ∧ (112 + k).toInt < 128) ∧ (0 ≤ ((16 * t) + k).toInt ∧ ((16 * t) + k).toInt < 128) ∧ Ev none e 181 57 [some (.ref 633), some (.int t), some (.int l), some (.int (k + 1)), some (.int (112 + k)), some (.int ((16 * t) + k))] [] (wI (wI (wI (wI (wI M 640 (((16 * t) + k).toNatClampNeg) (rI M 640 (112 + k))) 641 (((16 * t) + k).toNatClampNeg) (rI M 641 (112 + k))) 642 (((16 * t) + k).toNatClampNeg) (rI M 642 (112 + k))) 643 (((16 * t) + k).toNatClampNeg) (rI M 643 (112 + k))) 644 (((16 * t) + k).toNatClampNeg) (rI M 644 (112 + k))) v M' 0 0) := by
  have H : Ev none e 181 (if 16 ≤ k then 153 else 63) [some (.ref 633), some (.int t), some (.int l), some (.int k), c4, c5] [] M v M' 0 0 := Ev.back 3 (fun n => rfl) H
  by_cases h1 : 16 ≤ k
  · rw [if_pos h1] at H
    have H : Ev none e 181 155 [some (.ref 633), some (.int t), some (.int l), some (.int 0), c4, c5] [] M v M' 0 0 := Ev.back 2 (fun n => rfl) H
    have HF := H
    exact Or.inl ⟨h1, HF⟩
  · rw [if_neg h1] at H
    have H : Ev none e 181 78 [some (.ref 633), some (.int t), some (.int l), some (.int k), some (.int (112 + k)), some (.int ((16 * t) + k))] [.ref 633] M v M' 0 0 := Ev.back 11 (fun n => rfl) H
    have H : Ev none e 181 81 [some (.ref 633), some (.int t), some (.int l), some (.int k), some (.int (112 + k)), some (.int ((16 * t) + k))] [.ref 640] M v M' 0 0 := Ev.back 1 (gs_3 rfl rfl (gf_u hS.1 qa_633 qr_61_10 qu_68 rfl)) H
    have H : Ev none e 181 84 [some (.ref 633), some (.int t), some (.int l), some (.int k), some (.int (112 + k)), some (.int ((16 * t) + k))] [.ref 633, .int ((16 * t) + k), .ref 640] M v M' 0 0 := Ev.back 2 (fun n => rfl) H
    have H : Ev none e 181 87 [some (.ref 633), some (.int t), some (.int l), some (.int k), some (.int (112 + k)), some (.int ((16 * t) + k))] [.ref 640, .int ((16 * t) + k), .ref 640] M v M' 0 0 := Ev.back 1 (gs_3 rfl rfl (gf_u hS.1 qa_633 qr_61_10 qu_68 rfl)) H
    have H : Ev none e 181 89 [some (.ref 633), some (.int t), some (.int l), some (.int k), some (.int (112 + k)), some (.int ((16 * t) + k))] [.int (112 + k), .ref 640, .int ((16 * t) + k), .ref 640] M v M' 0 0 := Ev.back 1 (fun n => rfl) H
    obtain ⟨b2, H⟩ := Ev.ial rfl rfl hS.1 qa_640 qw_68 H
    have H : Ev none e 181 90 [some (.ref 633), some (.int t), some (.int l), some (.int k), some (.int (112 + k)), some (.int ((16 * t) + k))] [.int (rI M 640 (112 + k)), .int ((16 * t) + k), .ref 640] M v M' 0 0 := H
    obtain ⟨b3, H⟩ := Ev.ias rfl rfl hS.1 qa_640 qw_68 H
    obtain ⟨N4, eN4⟩ : ∃ N, N = (wI M 640 (((16 * t) + k).toNatClampNeg) (rI M 640 (112 + k))) := ⟨_, rfl⟩
    have hN4 : SQ N4 := by rw [eN4]; exact hS.ki
    have H : Ev none e 181 91 [some (.ref 633), some (.int t), some (.int l), some (.int k), some (.int (112 + k)), some (.int ((16 * t) + k))] [] N4 v M' 0 0 := by rw [eN4]; exact H
    have H : Ev none e 181 92 [some (.ref 633), some (.int t), some (.int l), some (.int k), some (.int (112 + k)), some (.int ((16 * t) + k))] [.ref 633] N4 v M' 0 0 := Ev.back 1 (fun n => rfl) H
    have H : Ev none e 181 95 [some (.ref 633), some (.int t), some (.int l), some (.int k), some (.int (112 + k)), some (.int ((16 * t) + k))] [.ref 641] N4 v M' 0 0 := Ev.back 1 (gs_3 rfl rfl (gf_u hN4.1 qa_633 qr_61_11 qu_69 rfl)) H
    have H : Ev none e 181 98 [some (.ref 633), some (.int t), some (.int l), some (.int k), some (.int (112 + k)), some (.int ((16 * t) + k))] [.ref 633, .int ((16 * t) + k), .ref 641] N4 v M' 0 0 := Ev.back 2 (fun n => rfl) H
    have H : Ev none e 181 101 [some (.ref 633), some (.int t), some (.int l), some (.int k), some (.int (112 + k)), some (.int ((16 * t) + k))] [.ref 641, .int ((16 * t) + k), .ref 641] N4 v M' 0 0 := Ev.back 1 (gs_3 rfl rfl (gf_u hN4.1 qa_633 qr_61_11 qu_69 rfl)) H
    have H : Ev none e 181 103 [some (.ref 633), some (.int t), some (.int l), some (.int k), some (.int (112 + k)), some (.int ((16 * t) + k))] [.int (112 + k), .ref 641, .int ((16 * t) + k), .ref 641] N4 v M' 0 0 := Ev.back 1 (fun n => rfl) H
    obtain ⟨b5, H⟩ := Ev.ial rfl rfl hN4.1 qa_641 qw_69 H
    have H : Ev none e 181 104 [some (.ref 633), some (.int t), some (.int l), some (.int k), some (.int (112 + k)), some (.int ((16 * t) + k))] [.int (rI N4 641 (112 + k)), .int ((16 * t) + k), .ref 641] N4 v M' 0 0 := H
    rw [show rI N4 641 (112 + k) = rI M 641 (112 + k) from by rw [eN4]; exact rN_wI_ne (fun q => absurd q.1 (by decide))] at H
    obtain ⟨b6, H⟩ := Ev.ias rfl rfl hN4.1 qa_641 qw_69 H
    obtain ⟨N7, eN7⟩ : ∃ N, N = (wI N4 641 (((16 * t) + k).toNatClampNeg) (rI M 641 (112 + k))) := ⟨_, rfl⟩
    have hN7 : SQ N7 := by rw [eN7]; exact hN4.ki
    have H : Ev none e 181 105 [some (.ref 633), some (.int t), some (.int l), some (.int k), some (.int (112 + k)), some (.int ((16 * t) + k))] [] N7 v M' 0 0 := by rw [eN7]; exact H
    have H : Ev none e 181 106 [some (.ref 633), some (.int t), some (.int l), some (.int k), some (.int (112 + k)), some (.int ((16 * t) + k))] [.ref 633] N7 v M' 0 0 := Ev.back 1 (fun n => rfl) H
    have H : Ev none e 181 109 [some (.ref 633), some (.int t), some (.int l), some (.int k), some (.int (112 + k)), some (.int ((16 * t) + k))] [.ref 642] N7 v M' 0 0 := Ev.back 1 (gs_3 rfl rfl (gf_u hN7.1 qa_633 qr_61_12 qu_70 rfl)) H
    have H : Ev none e 181 112 [some (.ref 633), some (.int t), some (.int l), some (.int k), some (.int (112 + k)), some (.int ((16 * t) + k))] [.ref 633, .int ((16 * t) + k), .ref 642] N7 v M' 0 0 := Ev.back 2 (fun n => rfl) H
    have H : Ev none e 181 115 [some (.ref 633), some (.int t), some (.int l), some (.int k), some (.int (112 + k)), some (.int ((16 * t) + k))] [.ref 642, .int ((16 * t) + k), .ref 642] N7 v M' 0 0 := Ev.back 1 (gs_3 rfl rfl (gf_u hN7.1 qa_633 qr_61_12 qu_70 rfl)) H
    have H : Ev none e 181 117 [some (.ref 633), some (.int t), some (.int l), some (.int k), some (.int (112 + k)), some (.int ((16 * t) + k))] [.int (112 + k), .ref 642, .int ((16 * t) + k), .ref 642] N7 v M' 0 0 := Ev.back 1 (fun n => rfl) H
    obtain ⟨b8, H⟩ := Ev.ial rfl rfl hN7.1 qa_642 qw_70 H
    have H : Ev none e 181 118 [some (.ref 633), some (.int t), some (.int l), some (.int k), some (.int (112 + k)), some (.int ((16 * t) + k))] [.int (rI N7 642 (112 + k)), .int ((16 * t) + k), .ref 642] N7 v M' 0 0 := H
    rw [(show rI N7 642 (112 + k) = rI N4 642 (112 + k) from by rw [eN7]; exact rN_wI_ne (fun q => absurd q.1 (by decide))).trans (show rI N4 642 (112 + k) = rI M 642 (112 + k) from by rw [eN4]; exact rN_wI_ne (fun q => absurd q.1 (by decide)))] at H
    obtain ⟨b9, H⟩ := Ev.ias rfl rfl hN7.1 qa_642 qw_70 H
    obtain ⟨N10, eN10⟩ : ∃ N, N = (wI N7 642 (((16 * t) + k).toNatClampNeg) (rI M 642 (112 + k))) := ⟨_, rfl⟩
    have hN10 : SQ N10 := by rw [eN10]; exact hN7.ki
    have H : Ev none e 181 119 [some (.ref 633), some (.int t), some (.int l), some (.int k), some (.int (112 + k)), some (.int ((16 * t) + k))] [] N10 v M' 0 0 := by rw [eN10]; exact H
    have H : Ev none e 181 120 [some (.ref 633), some (.int t), some (.int l), some (.int k), some (.int (112 + k)), some (.int ((16 * t) + k))] [.ref 633] N10 v M' 0 0 := Ev.back 1 (fun n => rfl) H
    have H : Ev none e 181 123 [some (.ref 633), some (.int t), some (.int l), some (.int k), some (.int (112 + k)), some (.int ((16 * t) + k))] [.ref 643] N10 v M' 0 0 := Ev.back 1 (gs_3 rfl rfl (gf_u hN10.1 qa_633 qr_61_13 qu_71 rfl)) H
    have H : Ev none e 181 126 [some (.ref 633), some (.int t), some (.int l), some (.int k), some (.int (112 + k)), some (.int ((16 * t) + k))] [.ref 633, .int ((16 * t) + k), .ref 643] N10 v M' 0 0 := Ev.back 2 (fun n => rfl) H
    have H : Ev none e 181 129 [some (.ref 633), some (.int t), some (.int l), some (.int k), some (.int (112 + k)), some (.int ((16 * t) + k))] [.ref 643, .int ((16 * t) + k), .ref 643] N10 v M' 0 0 := Ev.back 1 (gs_3 rfl rfl (gf_u hN10.1 qa_633 qr_61_13 qu_71 rfl)) H
    have H : Ev none e 181 131 [some (.ref 633), some (.int t), some (.int l), some (.int k), some (.int (112 + k)), some (.int ((16 * t) + k))] [.int (112 + k), .ref 643, .int ((16 * t) + k), .ref 643] N10 v M' 0 0 := Ev.back 1 (fun n => rfl) H
    obtain ⟨b11, H⟩ := Ev.ial rfl rfl hN10.1 qa_643 qw_71 H
    have H : Ev none e 181 132 [some (.ref 633), some (.int t), some (.int l), some (.int k), some (.int (112 + k)), some (.int ((16 * t) + k))] [.int (rI N10 643 (112 + k)), .int ((16 * t) + k), .ref 643] N10 v M' 0 0 := H
    rw [((show rI N10 643 (112 + k) = rI N7 643 (112 + k) from by rw [eN10]; exact rN_wI_ne (fun q => absurd q.1 (by decide))).trans (show rI N7 643 (112 + k) = rI N4 643 (112 + k) from by rw [eN7]; exact rN_wI_ne (fun q => absurd q.1 (by decide)))).trans (show rI N4 643 (112 + k) = rI M 643 (112 + k) from by rw [eN4]; exact rN_wI_ne (fun q => absurd q.1 (by decide)))] at H
    obtain ⟨b12, H⟩ := Ev.ias rfl rfl hN10.1 qa_643 qw_71 H
    obtain ⟨N13, eN13⟩ : ∃ N, N = (wI N10 643 (((16 * t) + k).toNatClampNeg) (rI M 643 (112 + k))) := ⟨_, rfl⟩
    have hN13 : SQ N13 := by rw [eN13]; exact hN10.ki
    have H : Ev none e 181 133 [some (.ref 633), some (.int t), some (.int l), some (.int k), some (.int (112 + k)), some (.int ((16 * t) + k))] [] N13 v M' 0 0 := by rw [eN13]; exact H
    have H : Ev none e 181 134 [some (.ref 633), some (.int t), some (.int l), some (.int k), some (.int (112 + k)), some (.int ((16 * t) + k))] [.ref 633] N13 v M' 0 0 := Ev.back 1 (fun n => rfl) H
    have H : Ev none e 181 137 [some (.ref 633), some (.int t), some (.int l), some (.int k), some (.int (112 + k)), some (.int ((16 * t) + k))] [.ref 644] N13 v M' 0 0 := Ev.back 1 (gs_3 rfl rfl (gf_u hN13.1 qa_633 qr_61_14 qu_72 rfl)) H
    have H : Ev none e 181 140 [some (.ref 633), some (.int t), some (.int l), some (.int k), some (.int (112 + k)), some (.int ((16 * t) + k))] [.ref 633, .int ((16 * t) + k), .ref 644] N13 v M' 0 0 := Ev.back 2 (fun n => rfl) H
    have H : Ev none e 181 143 [some (.ref 633), some (.int t), some (.int l), some (.int k), some (.int (112 + k)), some (.int ((16 * t) + k))] [.ref 644, .int ((16 * t) + k), .ref 644] N13 v M' 0 0 := Ev.back 1 (gs_3 rfl rfl (gf_u hN13.1 qa_633 qr_61_14 qu_72 rfl)) H
    have H : Ev none e 181 145 [some (.ref 633), some (.int t), some (.int l), some (.int k), some (.int (112 + k)), some (.int ((16 * t) + k))] [.int (112 + k), .ref 644, .int ((16 * t) + k), .ref 644] N13 v M' 0 0 := Ev.back 1 (fun n => rfl) H
    obtain ⟨b14, H⟩ := Ev.ial rfl rfl hN13.1 qa_644 qw_72 H
    have H : Ev none e 181 146 [some (.ref 633), some (.int t), some (.int l), some (.int k), some (.int (112 + k)), some (.int ((16 * t) + k))] [.int (rI N13 644 (112 + k)), .int ((16 * t) + k), .ref 644] N13 v M' 0 0 := H
    rw [(((show rI N13 644 (112 + k) = rI N10 644 (112 + k) from by rw [eN13]; exact rN_wI_ne (fun q => absurd q.1 (by decide))).trans (show rI N10 644 (112 + k) = rI N7 644 (112 + k) from by rw [eN10]; exact rN_wI_ne (fun q => absurd q.1 (by decide)))).trans (show rI N7 644 (112 + k) = rI N4 644 (112 + k) from by rw [eN7]; exact rN_wI_ne (fun q => absurd q.1 (by decide)))).trans (show rI N4 644 (112 + k) = rI M 644 (112 + k) from by rw [eN4]; exact rN_wI_ne (fun q => absurd q.1 (by decide)))] at H
    obtain ⟨b15, H⟩ := Ev.ias rfl rfl hN13.1 qa_644 qw_72 H
    obtain ⟨N16, eN16⟩ : ∃ N, N = (wI N13 644 (((16 * t) + k).toNatClampNeg) (rI M 644 (112 + k))) := ⟨_, rfl⟩
    have hN16 : SQ N16 := by rw [eN16]; exact hN13.ki
    have H : Ev none e 181 147 [some (.ref 633), some (.int t), some (.int l), some (.int k), some (.int (112 + k)), some (.int ((16 * t) + k))] [] N16 v M' 0 0 := by rw [eN16]; exact H
    have H : Ev none e 181 57 [some (.ref 633), some (.int t), some (.int l), some (.int (k + 1)), some (.int (112 + k)), some (.int ((16 * t) + k))] [] N16 v M' 0 0 := Ev.back 2 (fun n => rfl) H
    have HF := H
    subst eN4 eN7 eN10 eN13 eN16
    exact Or.inr (⟨h1, b2, b3, b5, b6, b8, b9, b11, b12, b14, b15, HF⟩)
theorem teq_155 {e : Nat} {M M' : Mem} {v : Option Value} {t l k : Int32} {c4 c5 : Option Value} (hS : SQ M) (H : Ev none e 181 155 [some (.ref 633), some (.int t), some (.int l), some (.int k), c4, c5] [] M v M' 0 0) : (200 ≤ k ∧ (0 ≤ t.toInt ∧ t.toInt < 8) ∧ v = some (.int (rI M 639 t)) ∧ M' = M) ∨ (¬ (200 ≤ k) ∧ (0 ≤ (1400 + k).toInt ∧ (1400 + k).toInt < 1600) ∧ (0 ≤ ((200 * t) + k).toInt ∧ ((200 * t) + k).toInt < 1600) ∧ (0 ≤ (1400 + k).toInt ∧ (1400 + k).toInt < 1600) ∧ (0 ≤ ((200 * t) + k).toInt ∧ ((200 * t) + k).toInt < 1600) ∧ (0 ≤ (1400 + k).toInt ∧ (1400 + k).toInt < 1600) ∧ (0 ≤ ((200 * t) + k).toInt ∧ ((200 * t) + k).toInt < 1600) ∧ Ev none e 181 155 [some (.ref 633), some (.int t), some (.int l), some (.int (k + 1)), c4, c5] [] (wI (wI (wI M 645 (((200 * t) + k).toNatClampNeg) (rI M 645 (1400 + k))) 646 (((200 * t) + k).toNatClampNeg) (rI M 646 (1400 + k))) 647 (((200 * t) + k).toNatClampNeg) (rI M 647 (1400 + k))) v M' 0 0) := by
  have H : Ev none e 181 (if 200 ≤ k then 234 else 162) [some (.ref 633), some (.int t), some (.int l), some (.int k), c4, c5] [] M v M' 0 0 := Ev.back 3 (fun n => rfl) H
  by_cases h1 : 200 ≤ k
  · rw [if_pos h1] at H
    have H : Ev none e 181 235 [some (.ref 633), some (.int t), some (.int l), some (.int k), c4, c5] [.ref 633] M v M' 0 0 := Ev.back 1 (fun n => rfl) H
    have H : Ev none e 181 238 [some (.ref 633), some (.int t), some (.int l), some (.int k), c4, c5] [.ref 639] M v M' 0 0 := Ev.back 1 (gs_3 rfl rfl (gf_u hS.1 qa_633 qr_61_9 qu_67 rfl)) H
    have H : Ev none e 181 239 [some (.ref 633), some (.int t), some (.int l), some (.int k), c4, c5] [.int t, .ref 639] M v M' 0 0 := Ev.back 1 (fun n => rfl) H
    obtain ⟨b2, H⟩ := Ev.ial rfl rfl hS.1 qa_639 qw_67 H
    have H : Ev none e 181 240 [some (.ref 633), some (.int t), some (.int l), some (.int k), c4, c5] [.int (rI M 639 t)] M v M' 0 0 := H
    obtain ⟨z1, z2⟩ := Ev.retz rfl rfl H
    exact Or.inl ⟨h1, b2, z1, z2⟩
  · rw [if_neg h1] at H
    have H : Ev none e 181 163 [some (.ref 633), some (.int t), some (.int l), some (.int k), c4, c5] [.ref 633] M v M' 0 0 := Ev.back 1 (fun n => rfl) H
    have H : Ev none e 181 166 [some (.ref 633), some (.int t), some (.int l), some (.int k), c4, c5] [.ref 645] M v M' 0 0 := Ev.back 1 (gs_3 rfl rfl (gf_u hS.1 qa_633 qr_61_15 qu_73 rfl)) H
    have H : Ev none e 181 174 [some (.ref 633), some (.int t), some (.int l), some (.int k), c4, c5] [.ref 633, .int ((200 * t) + k), .ref 645] M v M' 0 0 := Ev.back 6 (fun n => rfl) H
    have H : Ev none e 181 177 [some (.ref 633), some (.int t), some (.int l), some (.int k), c4, c5] [.ref 645, .int ((200 * t) + k), .ref 645] M v M' 0 0 := Ev.back 1 (gs_3 rfl rfl (gf_u hS.1 qa_633 qr_61_15 qu_73 rfl)) H
    have H : Ev none e 181 182 [some (.ref 633), some (.int t), some (.int l), some (.int k), c4, c5] [.int (1400 + k), .ref 645, .int ((200 * t) + k), .ref 645] M v M' 0 0 := Ev.back 3 (fun n => rfl) H
    obtain ⟨b3, H⟩ := Ev.ial rfl rfl hS.1 qa_645 qw_73 H
    have H : Ev none e 181 183 [some (.ref 633), some (.int t), some (.int l), some (.int k), c4, c5] [.int (rI M 645 (1400 + k)), .int ((200 * t) + k), .ref 645] M v M' 0 0 := H
    obtain ⟨b4, H⟩ := Ev.ias rfl rfl hS.1 qa_645 qw_73 H
    obtain ⟨N5, eN5⟩ : ∃ N, N = (wI M 645 (((200 * t) + k).toNatClampNeg) (rI M 645 (1400 + k))) := ⟨_, rfl⟩
    have hN5 : SQ N5 := by rw [eN5]; exact hS.ki
    have H : Ev none e 181 184 [some (.ref 633), some (.int t), some (.int l), some (.int k), c4, c5] [] N5 v M' 0 0 := by rw [eN5]; exact H
    have H : Ev none e 181 185 [some (.ref 633), some (.int t), some (.int l), some (.int k), c4, c5] [.ref 633] N5 v M' 0 0 := Ev.back 1 (fun n => rfl) H
    have H : Ev none e 181 188 [some (.ref 633), some (.int t), some (.int l), some (.int k), c4, c5] [.ref 646] N5 v M' 0 0 := Ev.back 1 (gs_3 rfl rfl (gf_u hN5.1 qa_633 qr_61_16 qu_74 rfl)) H
    have H : Ev none e 181 196 [some (.ref 633), some (.int t), some (.int l), some (.int k), c4, c5] [.ref 633, .int ((200 * t) + k), .ref 646] N5 v M' 0 0 := Ev.back 6 (fun n => rfl) H
    have H : Ev none e 181 199 [some (.ref 633), some (.int t), some (.int l), some (.int k), c4, c5] [.ref 646, .int ((200 * t) + k), .ref 646] N5 v M' 0 0 := Ev.back 1 (gs_3 rfl rfl (gf_u hN5.1 qa_633 qr_61_16 qu_74 rfl)) H
    have H : Ev none e 181 204 [some (.ref 633), some (.int t), some (.int l), some (.int k), c4, c5] [.int (1400 + k), .ref 646, .int ((200 * t) + k), .ref 646] N5 v M' 0 0 := Ev.back 3 (fun n => rfl) H
    obtain ⟨b6, H⟩ := Ev.ial rfl rfl hN5.1 qa_646 qw_74 H
    have H : Ev none e 181 205 [some (.ref 633), some (.int t), some (.int l), some (.int k), c4, c5] [.int (rI N5 646 (1400 + k)), .int ((200 * t) + k), .ref 646] N5 v M' 0 0 := H
    rw [show rI N5 646 (1400 + k) = rI M 646 (1400 + k) from by rw [eN5]; exact rN_wI_ne (fun q => absurd q.1 (by decide))] at H
    obtain ⟨b7, H⟩ := Ev.ias rfl rfl hN5.1 qa_646 qw_74 H
    obtain ⟨N8, eN8⟩ : ∃ N, N = (wI N5 646 (((200 * t) + k).toNatClampNeg) (rI M 646 (1400 + k))) := ⟨_, rfl⟩
    have hN8 : SQ N8 := by rw [eN8]; exact hN5.ki
    have H : Ev none e 181 206 [some (.ref 633), some (.int t), some (.int l), some (.int k), c4, c5] [] N8 v M' 0 0 := by rw [eN8]; exact H
    have H : Ev none e 181 207 [some (.ref 633), some (.int t), some (.int l), some (.int k), c4, c5] [.ref 633] N8 v M' 0 0 := Ev.back 1 (fun n => rfl) H
    have H : Ev none e 181 210 [some (.ref 633), some (.int t), some (.int l), some (.int k), c4, c5] [.ref 647] N8 v M' 0 0 := Ev.back 1 (gs_3 rfl rfl (gf_u hN8.1 qa_633 qr_61_17 qu_75 rfl)) H
    have H : Ev none e 181 218 [some (.ref 633), some (.int t), some (.int l), some (.int k), c4, c5] [.ref 633, .int ((200 * t) + k), .ref 647] N8 v M' 0 0 := Ev.back 6 (fun n => rfl) H
    have H : Ev none e 181 221 [some (.ref 633), some (.int t), some (.int l), some (.int k), c4, c5] [.ref 647, .int ((200 * t) + k), .ref 647] N8 v M' 0 0 := Ev.back 1 (gs_3 rfl rfl (gf_u hN8.1 qa_633 qr_61_17 qu_75 rfl)) H
    have H : Ev none e 181 226 [some (.ref 633), some (.int t), some (.int l), some (.int k), c4, c5] [.int (1400 + k), .ref 647, .int ((200 * t) + k), .ref 647] N8 v M' 0 0 := Ev.back 3 (fun n => rfl) H
    obtain ⟨b9, H⟩ := Ev.ial rfl rfl hN8.1 qa_647 qw_75 H
    have H : Ev none e 181 227 [some (.ref 633), some (.int t), some (.int l), some (.int k), c4, c5] [.int (rI N8 647 (1400 + k)), .int ((200 * t) + k), .ref 647] N8 v M' 0 0 := H
    rw [(show rI N8 647 (1400 + k) = rI N5 647 (1400 + k) from by rw [eN8]; exact rN_wI_ne (fun q => absurd q.1 (by decide))).trans (show rI N5 647 (1400 + k) = rI M 647 (1400 + k) from by rw [eN5]; exact rN_wI_ne (fun q => absurd q.1 (by decide)))] at H
    obtain ⟨b10, H⟩ := Ev.ias rfl rfl hN8.1 qa_647 qw_75 H
    obtain ⟨N11, eN11⟩ : ∃ N, N = (wI N8 647 (((200 * t) + k).toNatClampNeg) (rI M 647 (1400 + k))) := ⟨_, rfl⟩
    have hN11 : SQ N11 := by rw [eN11]; exact hN8.ki
    have H : Ev none e 181 228 [some (.ref 633), some (.int t), some (.int l), some (.int k), c4, c5] [] N11 v M' 0 0 := by rw [eN11]; exact H
    have H : Ev none e 181 155 [some (.ref 633), some (.int t), some (.int l), some (.int (k + 1)), c4, c5] [] N11 v M' 0 0 := Ev.back 2 (fun n => rfl) H
    have HF := H
    subst eN5 eN8 eN11
    exact Or.inr (⟨h1, b3, b4, b6, b7, b9, b10, HF⟩)
theorem toq_0 {e : Nat} {M M' : Mem} {v : Option Value} {k d : Int32} (hS : SQ M) (H : Ev none e 182 0 [some (.ref 633), some (.int k), some (.int d), none] [] M v M' 0 0) : (∃ e1 v1 M1, e = e1 + 1 ∧ Ev none e1 172 0 [some (.ref 633), some (.int 0), some (.int k), none] [] M v1 M1 0 0 ∧ Ev none e 182 6 [some (.ref 633), some (.int k), some (.int d), none] (v1.toList ++ []) M1 v M' 0 0) := by
  have H : Ev none e 182 3 [some (.ref 633), some (.int k), some (.int d), none] [.int k, .int 0, .ref 633] M v M' 0 0 := Ev.back 3 (fun n => rfl) H
  obtain ⟨e1, rfl⟩ := Ev.dpos rfl rfl H
  obtain ⟨vK1, MK1, K1, H⟩ := Ev.callb (fun n => gs_7 rfl rfl (show gCal (.invokevirtual 227) 11 (.int k :: .int 0 :: .ref 633 :: []) M = some (.inr (172, [some (.ref 633), some (.int 0), some (.int k), none], [])) from by show @cond (Option ((List Value × Mem) ⊕ (Nat × Lo × List Value))) (true && gRecv M (.ref 633) 11 && gRoom [] && true) (some (.inr (172, [some (.ref 633), some (.int 0), some (.int k), none], []))) none = _; rw [recv_s hS.1 qa_633 qo_61]; rfl)) H
  have K1 : Ev none e1 172 0 [some (.ref 633), some (.int 0), some (.int k), none] [] M vK1 MK1 0 0 := K1
  have HF := H
  exact ⟨e1, vK1, MK1, rfl, K1, HF⟩
theorem toq_6 {e : Nat} {M M' : Mem} {v : Option Value} {k d y : Int32} (hS : SQ M) (H : Ev none e 182 6 [some (.ref 633), some (.int k), some (.int d), none] [.int y] M v M' 0 0) : (0 ≤ y ∧ (0 ≤ y.toInt ∧ y.toInt < 128) ∧ v = some (.int (rI M 642 y)) ∧ M' = M) ∨ (¬ (0 ≤ y) ∧ v = some (.int d) ∧ M' = M) := by
  have H : Ev none e 182 (if 0 ≤ y then 15 else 11) [some (.ref 633), some (.int k), some (.int d), some (.int y)] [] M v M' 0 0 := Ev.back 3 (fun n => rfl) H
  by_cases h1 : 0 ≤ y
  · rw [if_pos h1] at H
    have H : Ev none e 182 16 [some (.ref 633), some (.int k), some (.int d), some (.int y)] [.ref 633] M v M' 0 0 := Ev.back 1 (fun n => rfl) H
    have H : Ev none e 182 19 [some (.ref 633), some (.int k), some (.int d), some (.int y)] [.ref 642] M v M' 0 0 := Ev.back 1 (gs_3 rfl rfl (gf_u hS.1 qa_633 qr_61_12 qu_70 rfl)) H
    have H : Ev none e 182 20 [some (.ref 633), some (.int k), some (.int d), some (.int y)] [.int y, .ref 642] M v M' 0 0 := Ev.back 1 (fun n => rfl) H
    obtain ⟨b2, H⟩ := Ev.ial rfl rfl hS.1 qa_642 qw_70 H
    have H : Ev none e 182 21 [some (.ref 633), some (.int k), some (.int d), some (.int y)] [.int (rI M 642 y)] M v M' 0 0 := H
    obtain ⟨z1, z2⟩ := Ev.retz rfl rfl H
    exact Or.inl ⟨h1, b2, z1, z2⟩
  · rw [if_neg h1] at H
    have H : Ev none e 182 21 [some (.ref 633), some (.int k), some (.int d), some (.int y)] [.int d] M v M' 0 0 := Ev.back 2 (fun n => rfl) H
    obtain ⟨z1, z2⟩ := Ev.retz rfl rfl H
    exact Or.inr (⟨h1, z1, z2⟩)
theorem lrq_0 {e : Nat} {M M' : Mem} {v : Option Value} (hS : SQ M) (H : Ev none e 183 0 [some (.ref 633), none] [] M v M' 0 0) : (∃ e1 v1 M1, e = e1 + 1 ∧ Ev none e1 181 0 [some (.ref 633), some (.int 0), some (.int 1), none, none, none] [] (X_139 (wF M 633 0 0)) v1 M1 0 0 ∧ Ev none e 183 15 [some (.ref 633), none] (v1.toList ++ []) M1 v M' 0 0) := by
  have H : Ev none e 183 2 [some (.ref 633), none] [.int 0, .ref 633] M v M' 0 0 := Ev.back 2 (fun n => rfl) H
  obtain ⟨N2, eN2⟩ : ∃ N, N = (wF M 633 0 0) := ⟨_, rfl⟩
  have hN2 : SQ N2 := by rw [eN2]; exact hS.kf
  have H : Ev none e 183 5 [some (.ref 633), none] [] N2 v M' 0 0 := by rw [eN2]; exact Ev.pfi rfl rfl rfl hS.1 qa_633 qi_61_0 H
  have H : Ev none e 183 6 [some (.ref 633), none] [.ref 633] N2 v M' 0 0 := Ev.back 1 (fun n => rfl) H
  obtain ⟨e1, rfl⟩ := Ev.dpos rfl rfl H
  obtain ⟨vK3, MK3, K3, H⟩ := Ev.callb (fun n => gs_7 rfl rfl (show gCal (.invokevirtual 144) 11 (.ref 633 :: []) N2 = some (.inr (139, [some (.ref 633)], [])) from by show @cond (Option ((List Value × Mem) ⊕ (Nat × Lo × List Value))) (true && gRecv N2 (.ref 633) 11 && gRoom [] && true) (some (.inr (139, [some (.ref 633)], []))) none = _; rw [recv_s hN2.1 qa_633 qo_61]; rfl)) H
  obtain ⟨pK3, qK3⟩ := g_139 hN2 K3
  rw [pK3, qK3] at H
  obtain ⟨N4, eN4⟩ : ∃ N, N = (X_139 N2) := ⟨_, rfl⟩
  have hN4 : SQ N4 := by rw [eN4]; exact X_139_sx hN2
  rw [← eN4] at H
  have H : Ev none (e1 + 1) 183 9 [some (.ref 633), none] [] N4 v M' 0 0 := H
  have H : Ev none (e1 + 1) 183 12 [some (.ref 633), none] [.int 1, .int 0, .ref 633] N4 v M' 0 0 := Ev.back 3 (fun n => rfl) H
  obtain ⟨vK5, MK5, K5, H⟩ := Ev.callb (fun n => gs_7 rfl rfl (show gCal (.invokevirtual 325) 11 (.int 1 :: .int 0 :: .ref 633 :: []) N4 = some (.inr (181, [some (.ref 633), some (.int 0), some (.int 1), none, none, none], [])) from by show @cond (Option ((List Value × Mem) ⊕ (Nat × Lo × List Value))) (true && gRecv N4 (.ref 633) 11 && gRoom [] && true) (some (.inr (181, [some (.ref 633), some (.int 0), some (.int 1), none, none, none], []))) none = _; rw [recv_s hN4.1 qa_633 qo_61]; rfl)) H
  have K5 : Ev none e1 181 0 [some (.ref 633), some (.int 0), some (.int 1), none, none, none] [] N4 vK5 MK5 0 0 := K5
  have HF := H
  subst eN2 eN4
  exact ⟨e1, vK5, MK5, rfl, K5, HF⟩
theorem lrq_15 {e : Nat} {M M' : Mem} {v : Option Value} {y : Int32} (hS : SQ M) (H : Ev none e 183 15 [some (.ref 633), none] [.int y] M v M' 0 0) : (0 ≤ y ∧ (∃ e1 v1 M1, e = e1 + 1 ∧ Ev none e1 182 0 [some (.ref 633), some (.int 2), some (.int 40), none] [] M v1 M1 0 0 ∧ Ev none e 183 30 [some (.ref 633), some (.int y)] (v1.toList ++ [.ref 633]) M1 v M' 0 0)) ∨ (¬ (0 ≤ y) ∧ v = some (.int y) ∧ M' = M) := by
  have H : Ev none e 183 (if 0 ≤ y then 22 else 20) [some (.ref 633), some (.int y)] [] M v M' 0 0 := Ev.back 3 (fun n => rfl) H
  by_cases h1 : 0 ≤ y
  · rw [if_pos h1] at H
    have H : Ev none e 183 27 [some (.ref 633), some (.int y)] [.int 40, .int 2, .ref 633, .ref 633] M v M' 0 0 := Ev.back 4 (fun n => rfl) H
    obtain ⟨e1, rfl⟩ := Ev.dpos rfl rfl H
    obtain ⟨vK2, MK2, K2, H⟩ := Ev.callb (fun n => gs_7 rfl rfl (show gCal (.invokevirtual 329) 11 (.int 40 :: .int 2 :: .ref 633 :: [.ref 633]) M = some (.inr (182, [some (.ref 633), some (.int 2), some (.int 40), none], [.ref 633])) from by show @cond (Option ((List Value × Mem) ⊕ (Nat × Lo × List Value))) (true && gRecv M (.ref 633) 11 && gRoom [.ref 633] && true) (some (.inr (182, [some (.ref 633), some (.int 2), some (.int 40), none], [.ref 633]))) none = _; rw [recv_s hS.1 qa_633 qo_61]; rfl)) H
    have K2 : Ev none e1 182 0 [some (.ref 633), some (.int 2), some (.int 40), none] [] M vK2 MK2 0 0 := K2
    have HF := H
    exact Or.inl ⟨h1, ⟨e1, vK2, MK2, rfl, K2, HF⟩⟩
  · rw [if_neg h1] at H
    have H : Ev none e 183 21 [some (.ref 633), some (.int y)] [.int y] M v M' 0 0 := Ev.back 1 (fun n => rfl) H
    obtain ⟨z1, z2⟩ := Ev.retz rfl rfl H
    exact Or.inr (⟨h1, z1, z2⟩)
theorem lrq_30 {e : Nat} {M M' : Mem} {v : Option Value} {y z : Int32} (hS : SQ M) (H : Ev none e 183 30 [some (.ref 633), some (.int y)] [.int z, .ref 633] M v M' 0 0) : (∃ e1 v1 M1, e = e1 + 1 ∧ Ev none e1 182 0 [some (.ref 633), some (.int 3), some (.int 50), none] [] (wF M 633 28 z) v1 M1 0 0 ∧ Ev none e 183 41 [some (.ref 633), some (.int y)] (v1.toList ++ [.ref 633]) M1 v M' 0 0) := by
  obtain ⟨N2, eN2⟩ : ∃ N, N = (wF M 633 28 z) := ⟨_, rfl⟩
  have hN2 : SQ N2 := by rw [eN2]; exact hS.kf
  have H : Ev none e 183 33 [some (.ref 633), some (.int y)] [] N2 v M' 0 0 := by rw [eN2]; exact Ev.pfi rfl rfl rfl hS.1 qa_633 qi_61_28 H
  have H : Ev none e 183 38 [some (.ref 633), some (.int y)] [.int 50, .int 3, .ref 633, .ref 633] N2 v M' 0 0 := Ev.back 4 (fun n => rfl) H
  obtain ⟨e1, rfl⟩ := Ev.dpos rfl rfl H
  obtain ⟨vK3, MK3, K3, H⟩ := Ev.callb (fun n => gs_7 rfl rfl (show gCal (.invokevirtual 329) 11 (.int 50 :: .int 3 :: .ref 633 :: [.ref 633]) N2 = some (.inr (182, [some (.ref 633), some (.int 3), some (.int 50), none], [.ref 633])) from by show @cond (Option ((List Value × Mem) ⊕ (Nat × Lo × List Value))) (true && gRecv N2 (.ref 633) 11 && gRoom [.ref 633] && true) (some (.inr (182, [some (.ref 633), some (.int 3), some (.int 50), none], [.ref 633]))) none = _; rw [recv_s hN2.1 qa_633 qo_61]; rfl)) H
  have K3 : Ev none e1 182 0 [some (.ref 633), some (.int 3), some (.int 50), none] [] N2 vK3 MK3 0 0 := K3
  have HF := H
  subst eN2
  exact ⟨e1, vK3, MK3, rfl, K3, HF⟩
theorem lrq_41 {e : Nat} {M M' : Mem} {v : Option Value} {y z : Int32} (hS : SQ M) (H : Ev none e 183 41 [some (.ref 633), some (.int y)] [.int z, .ref 633] M v M' 0 0) : (∃ e1 v1 M1, e = e1 + 1 ∧ Ev none e1 182 0 [some (.ref 633), some (.int 4), some (.int 10), none] [] (wF M 633 29 z) v1 M1 0 0 ∧ Ev none e 183 52 [some (.ref 633), some (.int y)] (v1.toList ++ [.ref 633]) M1 v M' 0 0) := by
  obtain ⟨N2, eN2⟩ : ∃ N, N = (wF M 633 29 z) := ⟨_, rfl⟩
  have hN2 : SQ N2 := by rw [eN2]; exact hS.kf
  have H : Ev none e 183 44 [some (.ref 633), some (.int y)] [] N2 v M' 0 0 := by rw [eN2]; exact Ev.pfi rfl rfl rfl hS.1 qa_633 qi_61_29 H
  have H : Ev none e 183 49 [some (.ref 633), some (.int y)] [.int 10, .int 4, .ref 633, .ref 633] N2 v M' 0 0 := Ev.back 4 (fun n => rfl) H
  obtain ⟨e1, rfl⟩ := Ev.dpos rfl rfl H
  obtain ⟨vK3, MK3, K3, H⟩ := Ev.callb (fun n => gs_7 rfl rfl (show gCal (.invokevirtual 329) 11 (.int 10 :: .int 4 :: .ref 633 :: [.ref 633]) N2 = some (.inr (182, [some (.ref 633), some (.int 4), some (.int 10), none], [.ref 633])) from by show @cond (Option ((List Value × Mem) ⊕ (Nat × Lo × List Value))) (true && gRecv N2 (.ref 633) 11 && gRoom [.ref 633] && true) (some (.inr (182, [some (.ref 633), some (.int 4), some (.int 10), none], [.ref 633]))) none = _; rw [recv_s hN2.1 qa_633 qo_61]; rfl)) H
  have K3 : Ev none e1 182 0 [some (.ref 633), some (.int 4), some (.int 10), none] [] N2 vK3 MK3 0 0 := K3
  have HF := H
  subst eN2
  exact ⟨e1, vK3, MK3, rfl, K3, HF⟩
theorem lrq_52 {e : Nat} {M M' : Mem} {v : Option Value} {y z : Int32} (hS : SQ M) (H : Ev none e 183 52 [some (.ref 633), some (.int y)] [.int z, .ref 633] M v M' 0 0) : v = some (.int y) ∧ M' = (wF M 633 30 z) := by
  obtain ⟨N2, eN2⟩ : ∃ N, N = (wF M 633 30 z) := ⟨_, rfl⟩
  have hN2 : SQ N2 := by rw [eN2]; exact hS.kf
  have H : Ev none e 183 55 [some (.ref 633), some (.int y)] [] N2 v M' 0 0 := by rw [eN2]; exact Ev.pfi rfl rfl rfl hS.1 qa_633 qi_61_30 H
  have H : Ev none e 183 56 [some (.ref 633), some (.int y)] [.int y] N2 v M' 0 0 := Ev.back 1 (fun n => rfl) H
  obtain ⟨z1, z2⟩ := Ev.retz rfl rfl H
  subst eN2
  exact ⟨z1, z2⟩
theorem hrq_0 {e : Nat} {M M' : Mem} {v : Option Value} {x : Int32} (hS : SQ M) (H : Ev none e 184 0 [some (.ref 633), some (.int x)] [] M v M' 0 0) : ((G_140 (X_139 (wF M 633 0 0)) x 0 5) = 0 ∧ v = some (.int (-1000)) ∧ M' = (X_139 (wF M 633 0 0))) ∨ (¬ ((G_140 (X_139 (wF M 633 0 0)) x 0 5) = 0) ∧ (∃ e1 v1 M1, e = e1 + 1 ∧ Ev none e1 181 0 [some (.ref 633), some (.int (1 + x)), some (.int 0), none, none, none] [] (X_139 (wF M 633 0 0)) v1 M1 0 0 ∧ Ev none e 184 26 [some (.ref 633), some (.int x)] (v1.toList ++ []) M1 v M' 0 0)) := by
  have H : Ev none e 184 2 [some (.ref 633), some (.int x)] [.int 0, .ref 633] M v M' 0 0 := Ev.back 2 (fun n => rfl) H
  obtain ⟨N2, eN2⟩ : ∃ N, N = (wF M 633 0 0) := ⟨_, rfl⟩
  have hN2 : SQ N2 := by rw [eN2]; exact hS.kf
  have H : Ev none e 184 5 [some (.ref 633), some (.int x)] [] N2 v M' 0 0 := by rw [eN2]; exact Ev.pfi rfl rfl rfl hS.1 qa_633 qi_61_0 H
  have H : Ev none e 184 6 [some (.ref 633), some (.int x)] [.ref 633] N2 v M' 0 0 := Ev.back 1 (fun n => rfl) H
  obtain ⟨e1, rfl⟩ := Ev.dpos rfl rfl H
  obtain ⟨vK3, MK3, K3, H⟩ := Ev.callb (fun n => gs_7 rfl rfl (show gCal (.invokevirtual 144) 11 (.ref 633 :: []) N2 = some (.inr (139, [some (.ref 633)], [])) from by show @cond (Option ((List Value × Mem) ⊕ (Nat × Lo × List Value))) (true && gRecv N2 (.ref 633) 11 && gRoom [] && true) (some (.inr (139, [some (.ref 633)], []))) none = _; rw [recv_s hN2.1 qa_633 qo_61]; rfl)) H
  obtain ⟨pK3, qK3⟩ := g_139 hN2 K3
  rw [pK3, qK3] at H
  obtain ⟨N4, eN4⟩ : ∃ N, N = (X_139 N2) := ⟨_, rfl⟩
  have hN4 : SQ N4 := by rw [eN4]; exact X_139_sx hN2
  rw [← eN4] at H
  have H : Ev none (e1 + 1) 184 9 [some (.ref 633), some (.int x)] [] N4 v M' 0 0 := H
  have H : Ev none (e1 + 1) 184 12 [some (.ref 633), some (.int x)] [.int 5, .int 0, .int x] N4 v M' 0 0 := Ev.back 3 (fun n => rfl) H
  obtain ⟨vK5, MK5, K5, H⟩ := Ev.callb (fun n => rfl) H
  obtain ⟨pK5, qK5⟩ := g_140 hN4 K5
  rw [pK5, qK5] at H
  have H : Ev none (e1 + 1) 184 15 [some (.ref 633), some (.int x)] [.int (G_140 N4 x 0 5)] N4 v M' 0 0 := H
  have H : Ev none (e1 + 1) 184 (if (G_140 N4 x 0 5) = 0 then 29 else 18) [some (.ref 633), some (.int x)] [] N4 v M' 0 0 := Ev.back 1 (fun n => rfl) H
  by_cases h6 : (G_140 N4 x 0 5) = 0
  · rw [if_pos h6] at H
    have H : Ev none (e1 + 1) 184 32 [some (.ref 633), some (.int x)] [.int (-1000)] N4 v M' 0 0 := Ev.back 1 (fun n => rfl) H
    obtain ⟨z1, z2⟩ := Ev.retz rfl rfl H
    subst eN2 eN4
    exact Or.inl ⟨h6, z1, z2⟩
  · rw [if_neg h6] at H
    have H : Ev none (e1 + 1) 184 23 [some (.ref 633), some (.int x)] [.int 0, .int (1 + x), .ref 633] N4 v M' 0 0 := Ev.back 5 (fun n => rfl) H
    obtain ⟨vK7, MK7, K7, H⟩ := Ev.callb (fun n => gs_7 rfl rfl (show gCal (.invokevirtual 325) 11 (.int 0 :: .int (1 + x) :: .ref 633 :: []) N4 = some (.inr (181, [some (.ref 633), some (.int (1 + x)), some (.int 0), none, none, none], [])) from by show @cond (Option ((List Value × Mem) ⊕ (Nat × Lo × List Value))) (true && gRecv N4 (.ref 633) 11 && gRoom [] && true) (some (.inr (181, [some (.ref 633), some (.int (1 + x)), some (.int 0), none, none, none], []))) none = _; rw [recv_s hN4.1 qa_633 qo_61]; rfl)) H
    have K7 : Ev none e1 181 0 [some (.ref 633), some (.int (1 + x)), some (.int 0), none, none, none] [] N4 vK7 MK7 0 0 := K7
    have HF := H
    subst eN2 eN4
    exact Or.inr (⟨h6, ⟨e1, vK7, MK7, rfl, K7, HF⟩⟩)
theorem hrq_26 {e : Nat} {M M' : Mem} {v : Option Value} {x y : Int32} (hS : SQ M) (H : Ev none e 184 26 [some (.ref 633), some (.int x)] [.int y] M v M' 0 0) : v = some (.int y) ∧ M' = M := by
  have H : Ev none e 184 32 [some (.ref 633), some (.int x)] [.int y] M v M' 0 0 := Ev.back 1 (fun n => rfl) H
  obtain ⟨z1, z2⟩ := Ev.retz rfl rfl H
  exact ⟨z1, z2⟩
/-! THE REFERENCE'S line -/
def lawP : List (List Int32 × Int32) := [([119, 101, 97, 114], 0), ([103, 114, 111, 119], 1), ([108, 105, 110, 101], 2), ([109, 117, 100], 3), ([100, 114, 121], 4)]
theorem pk_law : lawP.map (fun q => (pkF q.1, q.2)) = [(2003132786, 0), (1735552887, 1), (1818848869, 2), (7173476, 3), (6582905, 4)] := by decide +kernel
theorem ok_law : ∀ q ∈ lawP, okBw q.1 = true := by decide +kernel
def habP : List (List Int32 × Int32) := [([119, 101, 105, 103, 104], 5), ([110, 101, 118, 101, 114], 6), ([115, 105, 103, 104, 116], 7)]
theorem pk_hab : habP.map (fun q => (pkF q.1, q.2)) = [(512802514792, 5), (474148660594, 6), (495689623668, 7)] := by decide +kernel
theorem ok_hab : ∀ q ∈ habP, okBw q.1 = true := by decide +kernel
def meaP : List (List Int32 × Int32) := [([103, 114, 101, 101, 110], 0), ([119, 101, 116], 1), ([99, 108, 105, 109, 98], 2), ([99, 114, 111, 119, 100], 3), ([116, 117, 114, 110], 4), ([99, 111, 109, 101], 5), ([108, 105, 110, 101], 6)]
theorem pk_mea : meaP.map (fun q => (pkF q.1, q.2)) = [(444300879214, 0), (7824756, 1), (427020610914, 2), (427121669988, 3), (1953854062, 4), (1668246885, 5), (1818848869, 6)] := by decide +kernel
theorem ok_mea : ∀ q ∈ meaP, okBw q.1 = true := by decide +kernel
theorem law_ix (w : List Int32) : ixF w lawW 0 = ixP w lawP := rfl
theorem mea_ix (w : List Int32) : ixF w meaW 0 = ixP w meaP := rfl
theorem hab_ix (w : List Int32) : (if ixF w habW 0 < 0 then (-1 : Int32) else 5 + ixF w habW 0) = ixP w habP := by
  unfold habW habP
  unfold ixF ixP
  by_cases h1 : w = [119, 101, 105, 103, 104]
  · rw [if_pos h1, if_pos h1]; decide
  · rw [if_neg h1, if_neg h1]
    unfold ixF ixP
    by_cases h2 : w = [110, 101, 118, 101, 114]
    · rw [if_pos h2, if_pos h2]; decide
    · rw [if_neg h2, if_neg h2]
      unfold ixF ixP
      by_cases h3 : w = [115, 105, 103, 104, 116]
      · rw [if_pos h3, if_pos h3]; decide
      · rw [if_neg h3, if_neg h3]
        unfold ixF ixP
        decide
theorem fls {B : Nat → Int32} {n : Nat} {M : Mem} {ts : List Tok} (h : RTk B n M ts) (hg : gdT B ts) : G_171 M = ixF (wdS B (hdT ts)) meaW 0 := by
  rw [mea_ix, ← h.ch hg meaP ok_mea, pk_mea]
  rfl
theorem fll {B : Nat → Int32} {n : Nat} {M : Mem} {ts : List Tok} {law : Bool} (h : RTk B n M ts) (hg : gdT B ts) : G_168 M (bif law then 1 else 0) = kdS B law (hdT ts) := by
  unfold kdS
  cases law
  · show G_168 M 0 = (if ixF (wdS B (hdT ts)) habW 0 < 0 then (-1 : Int32) else 5 + ixF (wdS B (hdT ts)) habW 0)
    unfold G_168
    rw [if_pos (show (0 : Int32) = 0 from rfl), hab_ix, ← h.ch hg habP ok_hab, pk_hab]
    rfl
  · show G_168 M 1 = ixF (wdS B (hdT ts)) lawW 0
    unfold G_168
    rw [if_neg (show ¬ (1 : Int32) = 0 by decide), law_ix, ← h.ch hg lawP ok_law, pk_law]
    rfl
/-- a number taken -/
noncomputable def tkR (s : Sg) (lo hi : Int32) : (Int32 × Nat) ⊕ Int32 := if (hdT s.1).1 ≠ 3 then .inl (1, (hdT s.1).2.1) else if (hdT s.1).2.2.2 < lo ∨ hi < (hdT s.1).2.2.2 then .inl (2, (hdT s.1).2.1) else .inr (hdT s.1).2.2.2
noncomputable def cndR (B : Nat → Int32) (C : Sg → PR) (s : Sg) (x : Int32) : PR := if x = 6 then C s else if (x = 0 ∨ x = 1 ∨ x = 5) ∧ wdS B (hdT s.1) = ifW then C (s.1.tail, s.2.1, s.2.2) else .inl s
/-- what a line's body comes to: the state, its measure, its number, from which step -/
abbrev PBd : Type := (Int32 × Nat) ⊕ (Sg × Int32 × Int32 × Nat)
noncomputable def cnR (B : Nat → Int32) (C : Sg → PR) (s : Sg) (x m nu : Int32) : PBd := match cndR B C s x with
  | .inr f => .inl f
  | .inl s2 => .inr (s2, m, nu, s.2.2.length)
noncomputable def nmR (B : Nat → Int32) (C : Sg → PR) (s : Sg) (x m : Int32) : PBd := match tkR s (if x = 2 then 1 else 0) (mostS x) with
  | .inl f => .inl f
  | .inr nu => cnR B C (s.1.tail, s.2.1, s.2.2) x m nu
noncomputable def bdR (B : Nat → Int32) (C : Sg → PR) (s : Sg) (x : Int32) : PBd := if x = 6 then cnR B C s 6 0 0 else if x = 5 then (if ixF (wdS B (hdT s.1)) meaW 0 < 0 then .inl (1, (hdT s.1).2.1) else nmR B C (s.1.tail, s.2.1, s.2.2) 5 (ixF (wdS B (hdT s.1)) meaW 0)) else nmR B C s x 0
noncomputable def enR (ls : List Lnq) (x : Int32) (r : PBd) : PLn := match r with
  | .inl f => .inr f
  | .inr q => endB q.1 ls x q.2.1 q.2.2.1 q.2.2.2
theorem cn_en {B : Nat → Int32} {C : Sg → PR} {s : Sg} {ls : List Lnq} {x m nu : Int32} : cndB B C s ls x m nu s.2.2.length = enR ls x (cnR B C s x m nu) := by
  unfold cndB cnR cndR
  by_cases h1 : x = 6
  · rw [if_pos h1, if_pos h1]
    cases C s <;> rfl
  · rw [if_neg h1, if_neg h1]
    by_cases h2 : (x = 0 ∨ x = 1 ∨ x = 5) ∧ wdS B (hdT s.1) = ifW
    · rw [if_pos h2, if_pos h2]
      cases C (s.1.tail, s.2.1, s.2.2) <;> rfl
    · rw [if_neg h2, if_neg h2]
      rfl
theorem nm_en {B : Nat → Int32} {C : Sg → PR} {s : Sg} {ls : List Lnq} {x m : Int32} (hg : (hdT s.1).1 = 3 → 0 ≤ (hdT s.1).2.2.2.toInt) : numB B C s ls x m = enR ls x (nmR B C s x m) := by
  unfold numB nmR tkR
  by_cases h1 : (hdT s.1).1 ≠ 3
  · rw [if_pos h1, if_pos h1]
    rfl
  · rw [if_neg h1, if_neg h1]
    have h0 := hg (Decidable.not_not.mp h1)
    have z0 : (0 : Int32).toInt = 0 := rfl
    have hc : (mostS x < (hdT s.1).2.2.2 ∨ (x = 2 ∧ (hdT s.1).2.2.2 < 1)) ↔ ((hdT s.1).2.2.2 < (if x = 2 then 1 else 0) ∨ mostS x < (hdT s.1).2.2.2) := by
      by_cases h2 : x = 2
      · rw [if_pos h2]
        exact ⟨fun q => q.elim Or.inr (fun q => Or.inl q.2), fun q => q.elim (fun q => Or.inr ⟨h2, q⟩) Or.inl⟩
      · rw [if_neg h2]
        refine ⟨fun q => q.elim Or.inr (fun q => absurd q.1 h2), fun q => q.elim (fun q => ?_) Or.inl⟩
        rw [Int32.lt_iff_toInt_lt] at q
        omega
    by_cases h2 : mostS x < (hdT s.1).2.2.2 ∨ (x = 2 ∧ (hdT s.1).2.2.2 < 1)
    · rw [if_pos h2, if_pos (hc.mp h2)]
      rfl
    · rw [if_neg h2, if_neg (fun q => h2 (hc.mpr q))]
      exact cn_en (s := (s.1.tail, s.2.1, s.2.2))
theorem bd_en {B : Nat → Int32} {C : Sg → PR} {s : Sg} {ls : List Lnq} {x : Int32} (hw : wfT s.1) (hg : gdT B s.1) : bodB B C s ls x = enR ls x (bdR B C s x) := by
  obtain ⟨r, hr⟩ := hw.ne
  unfold bodB bdR
  by_cases h1 : x = 6
  · rw [if_pos h1, if_pos h1, h1]
    exact cn_en
  · rw [if_neg h1, if_neg h1]
    by_cases h2 : x = 5
    · rw [if_pos h2, if_pos h2, h2]
      by_cases h3 : ixF (wdS B (hdT s.1)) meaW 0 < 0
      · rw [if_pos h3, if_pos h3]
        rfl
      · rw [if_neg h3, if_neg h3]
        refine nm_en (fun q => ?_)
        have hq : (hdT s.1.tail) ∈ s.1.tail := by
          cases ht : s.1.tail with
          | nil =>
            rw [ht] at q
            exact absurd q (show ¬ (0 : Int32) = 3 by decide)
          | cons a l => exact List.mem_cons_self
        exact (hg _ (List.mem_of_mem_tail hq)).2 q
    · rw [if_neg h2, if_neg h2]
      refine nm_en (fun q => (hg (hdT s.1) ?_).2 q)
      rw [hr]
      exact List.mem_cons_self
/-! THE REFERENCE'S line: the state, and how it moves -/
def fQl : List (Nat × Nat) := (633, 32) :: fQ
def wQl : List Nat := [639, 640, 641, 642, 643, 644] ++ wQ
def FLq (M M' : Mem) (v : Option Value) (f : Int32 × Nat) : Prop := v = some (.int 0) ∧ SQ M' ∧ FB fQl wQl M M' ∧ zI M' 633 26 = f.1 ∧ (zI M' 633 27).toInt = (f.2 : Int)
/-- the lines read so far -/
def LQ (M : Mem) (ls : List Lnq) : Prop := (rN M 639 7).toInt = (ls.length : Int) ∧ ls.length ≤ 16 ∧ ∀ j l, ls[j]? = some l → rN M 640 (112 + j) = l.1 ∧ rN M 641 (112 + j) = l.2.1 ∧ rN M 642 (112 + j) = l.2.2.1 ∧ (rN M 643 (112 + j)).toInt = (l.2.2.2.1 : Int) ∧ (rN M 644 (112 + j)).toInt = (l.2.2.2.2 : Int)
section RLS
variable {e n : Nat} {M M1 M' : Mem} {v : Option Value} {B : Nat → Int32} {s : Sg} {ls : List Lnq} {F : List (Nat × Nat)} {W : List Nat}
theorem FB.ql (h : FB fQ wQ M M') : FB fQl wQl M M' := h.more (fun q hq => List.mem_cons_of_mem _ hq) (fun q hq => List.mem_append_right _ hq)
theorem FLT.ql {f : Int32 × Nat} (h : FLT M M' v f) : FLq M M' v f := ⟨h.1, h.2.1, h.2.2.1.ql, h.2.2.2⟩
theorem FLq.pre {f : Int32 × Nat} (h : FB fQl wQl M M1) (h2 : FLq M1 M' v f) : FLq M M' v f := ⟨h2.1, h2.2.1, h.trans h2.2.2.1, h2.2.2.2⟩
theorem R0.frm (h : R0 B n M s) (hS : SQ M') (hF : FB F W M M') (f : ∀ k ∈ [3, 4, 19, 21, 22, 23, 25, 26, 31], (633, k) ∉ F) (w : ∀ b ∈ [634, 645, 646, 647], b ∉ W) : R0 B n M' s := by
  obtain ⟨a1, a2, a3, a4, a5, a6, a7, a8, a9⟩ := h
  exact ⟨hS, (hF.bR (w _ (by simp))).trans a2, by rw [hF.fi (f _ (by simp))]; exact a3, a4.frm hF (f _ (by simp)) (f _ (by simp)) (f _ (by simp)) (f _ (by simp)) (f _ (by simp)), a5, a6, by rw [hF.fi (f _ (by simp))]; exact a7, a8.frm hF (f _ (by simp)) (w _ (by simp)) (w _ (by simp)) (w _ (by simp)), by rw [hF.fi (f _ (by simp))]; exact a9⟩
theorem R0.next (hn2 : n ≤ 440) (h : R0 B n M s) (h0 : (hdT s.1).1 ≠ 0) (h1 : (hdT s.1).1 ≠ 1) (H : Ev none e 162 0 [some (.ref 633), none, none, none] [] M v M' 0 0) : v = none ∧ FB fQ wQ M M' ∧ R0 B n M' (s.1.tail, s.2.1, s.2.2) := by
  obtain ⟨a1, a2, a3, a4, a5, a6, a7, a8, a11⟩ := h
  obtain ⟨r, hr⟩ := a5.ne
  have h4 := a4
  rw [hr] at h4
  obtain ⟨b1, b2⟩ := h4
  rcases b2 with ⟨b2, _⟩ | ⟨b2, _⟩ | ⟨_, _, b3, b4, b5⟩
  · exact absurd b2 h0
  · exact absurd b2 h1
  obtain ⟨g1, g2, g3, g4⟩ := nx_all hn2 (n - (hdT s.1).2.2.1) _ M (Nat.le_refl _) b3 a1 a3 b4 H
  have ht : s.1.tail = tlS (bR M) n (hdT s.1).2.2.1 := by
    rw [hr, a2]
    exact b5
  have hb : bR M' = bR M := g3.bR (by decide)
  refine ⟨g1, g3.more (by decide) (fun q hq => by cases hq), g2, hb.trans a2, by rw [g3.fi (by decide)]; exact a3, ?_, a5.tl h0 h1, fun t hm => a6 t (List.mem_of_mem_tail hm), by rw [g3.fi (by decide)]; exact a7, a8.frm g3 (by decide) List.not_mem_nil List.not_mem_nil List.not_mem_nil, by rw [g3.fi (by decide)]; exact a11⟩
  show RTk B n M' s.1.tail
  rw [ht, ← a2]
  exact g4
theorem R0.bad {k : Int32} (h : R0 B n M s) (H : Ev none e 163 0 [some (.ref 633), some (.int k)] [] M v M' 0 0) : FLT M M' v (k, (hdT s.1).2.1) := by
  obtain ⟨a1, a2, a3, a4, a5, a6, a7, a8, a11⟩ := h
  obtain ⟨r, hr⟩ := a5.ne
  rw [hr] at a4
  obtain ⟨g1, g2⟩ := g_163 a1 H
  have S1 : SQ M' := by
    rw [g2]
    exact X_163_sx a1
  unfold X_163 at g2
  subst g2
  refine ⟨?_, S1, (FB.wF (by decide)).trans (FB.wF (by decide)), ?_, ?_⟩
  · rw [g1]
    rfl
  · rw [fI_wF_ne (by decide), fI_wF_eq a1.1 qa_633 qi_61_26]
  · rw [fI_wF_eq a1.kf.1 qa_633 qi_61_27]
    exact a4.1
/-- the sign that ends a line -/
theorem sgn_ok (hn2 : n ≤ 440) (h : R0 B n M s) (H : Ev none e 166 0 [some (.ref 633), some (.int 59)] [] M v M' 0 0) : ((hdT s.1).1 ≠ 59 ∧ FLT M M' v (1, (hdT s.1).2.1)) ∨ ((hdT s.1).1 = 59 ∧ v = some (.int 1) ∧ FB fQ wQ M M' ∧ R0 B n M' (s.1.tail, s.2.1, s.2.2)) := by
  rcases h.2.2.2.1.sign (c := 59) (Or.inl rfl) with ⟨q1, q2, _⟩ | ⟨q1, q2⟩
  · rcases snq_0 h.1 H with ⟨g, _⟩ | ⟨_, e1, v1, M1, he, H1, H⟩
    · rw [q1] at g
      exact absurd g (by decide)
    · obtain ⟨rfl, f1, r1⟩ := h.next hn2 (by rw [q2]; decide) (by rw [q2]; decide) H1
      obtain ⟨rfl, rfl⟩ := snq_18 r1.1 H
      exact Or.inr ⟨q2, rfl, f1, r1⟩
  · rcases snq_0 h.1 H with ⟨_, e1, v1, M1, he, H1, H⟩ | ⟨g, _⟩
    · obtain ⟨rfl, f1⟩ := h.bad H1
      obtain ⟨rfl, rfl⟩ := snq_13 f1.1 H
      exact Or.inl ⟨q2, rfl, f1⟩
    · exact absurd q1 g
theorem g140 {x lo hi : Int32} : G_140 M x lo hi = 0 ↔ (x < lo ∨ hi < x) := by
  unfold G_140
  by_cases h1 : x < lo
  · rw [if_pos h1]
    exact ⟨fun _ => Or.inl h1, fun _ => rfl⟩
  · rw [if_neg h1]
    by_cases h2 : hi < x
    · rw [if_pos h2]
      exact ⟨fun _ => Or.inr h2, fun _ => rfl⟩
    · rw [if_neg h2]
      exact ⟨fun q => absurd q (by decide), fun q => q.elim (fun q => absurd q h1) (fun q => absurd q h2)⟩
/-- a number -/
theorem tks_ok {lo hi : Int32} (hn2 : n ≤ 440) (h : R0 B n M s) (H : Ev none e 167 0 [some (.ref 633), some (.int lo), some (.int hi)] [] M v M' 0 0) : match tkR s lo hi with
    | .inl f => FLT M M' v f
    | .inr nu => v = some (.int 1) ∧ FB fQl wQ M M' ∧ R0 B n M' (s.1.tail, s.2.1, s.2.2) ∧ zI M' 633 32 = nu := by
  unfold tkR
  rcases h.2.2.2.1.num with ⟨q1, q2, q3⟩ | ⟨q1, q2⟩
  · rw [if_neg (fun x => x q2)]
    rcases tkq_0 h.1 H with ⟨_, g, e1, v1, M1, he, H1, H⟩ | ⟨_, g, e1, v1, M1, he, H1, H⟩ | ⟨g, _⟩
    · rw [q3] at g
      rw [if_pos (g140.mp g)]
      obtain ⟨rfl, f1⟩ := h.bad H1
      obtain ⟨rfl, rfl⟩ := tkq_31 f1.1 H
      exact ⟨rfl, f1⟩
    · rw [q3] at g H1
      rw [if_neg (fun x => g (g140.mpr x))]
      have F1 : FB [(633, 32)] [] M (wF M 633 32 (hdT s.1).2.2.2) := FB.wF (by simp)
      have R1 : R0 B n (wF M 633 32 (hdT s.1).2.2.2) s := h.frm h.1.kf F1 (by decide) (by simp)
      obtain ⟨rfl, f1, r1⟩ := R1.next hn2 (by rw [q2]; decide) (by rw [q2]; decide) H1
      obtain ⟨rfl, rfl⟩ := tkq_44 r1.1 H
      refine ⟨rfl, (F1.more (fun q hq => ?_) (fun q hq => by cases hq)).trans (f1.more (fun q hq => List.mem_cons_of_mem _ hq) (fun _ hq => hq)), r1, ?_⟩
      · rw [List.mem_singleton] at hq
        rw [hq]
        exact List.mem_cons_self
      · rw [f1.fi (by decide), fI_wF_eq h.1.1 qa_633 qi_61_32]
    · exact absurd q1 g
  · rw [if_pos q2]
    rcases tkq_0 h.1 H with ⟨g, _⟩ | ⟨g, _⟩ | ⟨_, e1, v1, M1, he, H1, H⟩
    · exact absurd g q1
    · exact absurd g q1
    · obtain ⟨rfl, f1⟩ := h.bad H1
      obtain ⟨rfl, rfl⟩ := tkq_13 f1.1 H
      exact ⟨rfl, f1⟩
/-- writes at the line begun keep the lines before -/
theorem LQ.frm (h : LQ M ls) (hF : FB F W M M') (w : ∀ b ∈ [639, 640, 641, 642, 643, 644], b ∉ W) : LQ M' ls := by
  refine ⟨by rw [hF.rn (w _ (by simp))]; exact h.1, h.2.1, fun j l hj => ?_⟩
  rw [hF.rn (w _ (by simp)), hF.rn (w _ (by simp)), hF.rn (w _ (by simp)), hF.rn (w _ (by simp)), hF.rn (w _ (by simp))]
  exact h.2.2 j l hj
theorem LQ.wr {b : Nat} {x : Int32} (h : LQ M ls) (hb : b ≠ 639) : LQ (wI M b (112 + ls.length) x) ls := by
  have g : ∀ c j, j < ls.length → rN (wI M b (112 + ls.length) x) c (112 + j) = rN M c (112 + j) := fun c j hj => rN_wI_ne (fun q => by omega)
  refine ⟨by rw [rN_wI_ne (fun q => hb q.1.symm)]; exact h.1, h.2.1, fun j l hj => ?_⟩
  have hlt : j < ls.length := by
    rcases Nat.lt_or_ge j ls.length with q | q
    · exact q
    · rw [List.getElem?_eq_none q] at hj
      cases hj
  rw [g _ j hlt, g _ j hlt, g _ j hlt, g _ j hlt, g _ j hlt]
  exact h.2.2 j l hj
/-- the line begun -/
def ER (M : Mem) (i : Nat) (x m nu : Int32) (fr : Nat) : Prop := rN M 640 i = x ∧ rN M 641 i = m ∧ rN M 642 i = nu ∧ (rN M 643 i).toInt = (fr : Int)
theorem ER.frm {i : Nat} {x m nu : Int32} {fr : Nat} (h : ER M i x m nu fr) (hF : FB F W M M') (w : ∀ b ∈ [640, 641, 642, 643], b ∉ W) : ER M' i x m nu fr := by
  unfold ER
  rw [hF.rn (w _ (by simp)), hF.rn (w _ (by simp)), hF.rn (w _ (by simp)), hF.rn (w _ (by simp))]
  exact h
theorem r_len (hS : SQ M) : (zrw M 640).length = 128 ∧ (zrw M 641).length = 128 ∧ (zrw M 642).length = 128 ∧ (zrw M 643).length = 128 ∧ (zrw M 644).length = 128 := ⟨(hS.1.row qa_640 qw_68).2, (hS.1.row qa_641 qw_69).2, (hS.1.row qa_642 qw_70).2, (hS.1.row qa_643 qw_71).2, (hS.1.row qa_644 qw_72).2⟩
end RLS
/-! THE REFERENCE'S line, kind by kind (made by glr2.py) -/
def BDr (B : Nat → Int32) (n : Nat) (M M' : Mem) (v : Option Value) (ls : List Lnq) (k : Int32) (r : PBd) : Prop := match r with
  | .inl f => FLq M M' v f
  | .inr q => v = some (.int 1) ∧ FB fQl wQl M M' ∧ R0 B n M' q.1 ∧ LQ M' ls ∧ ER M' (112 + ls.length) k q.2.1 q.2.2.1 q.2.2.2 ∧ (rN M' 644 (112 + ls.length)).toInt = (q.1.2.2.length : Int)
section LQK
variable {e n kk : Nat} {M M1 M' : Mem} {v : Option Value} {B : Nat → Int32} {s : Sg} {ls : List Lnq}
theorem BDr.pre {k : Int32} {r : PBd} (h : FB fQl wQl M M1) (h2 : BDr B n M1 M' v ls k r) : BDr B n M M' v ls k r := by
  cases r with
  | inl f => exact FLq.pre h h2
  | inr q => exact ⟨h2.1, h.trans h2.2.1, h2.2.2⟩
theorem fin_r {k m nu : Int32} {fr : Nat} (h : R0 B n M s) (hL : LQ M ls) (hlt : ls.length < 16) (hE : ER M (112 + ls.length) k m nu fr) : BDr B n M (wI M 644 (112 + ls.length) (zI M 633 19)) (some (.int 1)) ls k (.inr (s, m, nu, fr)) := by
  have F1 : FB [] [644] M (wI M 644 (112 + ls.length) (zI M 633 19)) := FB.wI (by simp)
  refine ⟨rfl, F1.more (fun _ hq => by cases hq) (by decide), h.frm h.1.ki F1 (by decide) (by decide), hL.wr (by decide), hE.frm F1 (by decide), ?_⟩
  rw [rN_wI_eq (by rw [(r_len h.1).2.2.2.2]; omega)]
  exact h.2.2.2.2.2.2.2.1.1
theorem st_r {k m nu : Int32} (h : R0 B n M s) (hL : LQ M ls) (hlt : ls.length < 16) (g0 : rN M 640 (112 + ls.length) = k) (g1 : rN M 641 (112 + ls.length) = m) (g2 : zI M 633 32 = nu) : FB fQl wQl M (wI (wI M 642 (112 + ls.length) (zI M 633 32)) 643 (112 + ls.length) (zI M 633 19)) ∧ R0 B n (wI (wI M 642 (112 + ls.length) (zI M 633 32)) 643 (112 + ls.length) (zI M 633 19)) s ∧ LQ (wI (wI M 642 (112 + ls.length) (zI M 633 32)) 643 (112 + ls.length) (zI M 633 19)) ls ∧ ER (wI (wI M 642 (112 + ls.length) (zI M 633 32)) 643 (112 + ls.length) (zI M 633 19)) (112 + ls.length) k m nu s.2.2.length := by
  have F1 : FB [] [642, 643] M (wI (wI M 642 (112 + ls.length) (zI M 633 32)) 643 (112 + ls.length) (zI M 633 19)) := (FB.wI (by simp)).trans (FB.wI (by simp))
  refine ⟨F1.more (fun _ hq => by cases hq) (by decide), h.frm h.1.ki.ki F1 (by decide) (by decide), ?_, ?_, ?_, ?_, ?_⟩
  · exact LQ.wr (LQ.wr hL (by decide)) (by decide)
  · rw [F1.rn (by decide)]; exact g0
  · rw [F1.rn (by decide)]; exact g1
  · rw [rN_wI_ne (fun q => absurd q.1 (by decide)), rN_wI_eq (by rw [(r_len h.1).2.2.1]; omega)]
    exact g2
  · rw [rN_wI_eq (by rw [(r_len h.1.ki).2.2.2.1]; omega)]
    exact h.2.2.2.2.2.2.2.1.1
theorem clI {i : Int32} {p : Nat} (hi : i.toInt = (p : Int)) : i.toNatClampNeg = p := by
  show i.toInt.toNat = p
  omega
theorem cq0_ok {i m nu : Int32} {c3 : Option Value} (hn2 : n ≤ 440) (hk : 33 ≤ kk) (h : R0 B n M s) (h40 : s.2.1 ≤ 40) (hL : LQ M ls) (hlt : ls.length < 16) (hi : i.toInt = ((112 + ls.length : Nat) : Int)) (g0 : rN M 640 (112 + ls.length) = 0) (g1 : rN M 641 (112 + ls.length) = m) (g2 : zI M 633 32 = nu) (H : Ev none e 170 75 [some (.ref 633), some (.int i), some (.int 0), c3] [.int 1] M v M' 0 0) : BDr B n M M' v ls 0 (cnR B ((prS B kk).1 1) s 0 m nu) := by
  obtain ⟨S1, S2, S3, S4⟩ := st_r h hL hlt g0 g1 g2
  have hI := clI hi
  have e19 : zI (wI (wI M 642 (112 + ls.length) (zI M 633 32)) 643 (112 + ls.length) (zI M 633 19)) 633 19 = zI M 633 19 := by rw [fI_wI, fI_wI]
  unfold cnR cndR
  rw [if_neg (by decide)]
  rcases rlq0_75 h.1 H with ⟨q, _⟩ | ⟨_, g, _, _, _, rfl, rfl⟩ | ⟨_, g, _, _, e1, v1, M1, he, H1, H⟩
  · exact absurd q (by decide)
  · rw [hI] at g ⊢
    rcases S2.2.2.2.1.word (u := ifW) (C := 26982) S2.2.2.2.2.2.1 (by decide) (by decide) with ⟨q1, _⟩ | ⟨_, q2⟩
    · rw [g] at q1
      exact absurd q1 (by decide)
    · rw [if_neg (fun q => q2 q.2)]
      have R := fin_r S2 S3 hlt S4
      rw [e19] at R
      exact R.pre S1
  · rw [hI] at g H1
    rcases S2.2.2.2.1.word (u := ifW) (C := 26982) S2.2.2.2.2.2.1 (by decide) (by decide) with ⟨_, q2⟩ | ⟨q1, _⟩
    · rw [if_pos ⟨by decide, q2⟩]
      have q3 := ix_wd (B := B) (tk := hdT s.1) (ws := [ifW]) (by decide) (by decide) (by
        rw [q2]
        decide)
      obtain ⟨rfl, f1, r1⟩ := S2.next hn2 (by rw [q3]; decide) (by rw [q3]; decide) H1
      obtain ⟨e2, v2, M2, he2, H2, H⟩ := rlq0_140 r1.1 H
      have R := rcond_ok hn2 hk r1 h40 H2
      have f1q : FB fQl wQl M M1 := S1.trans f1.ql
      cases hr : ((prS B kk).1 1) (s.1.tail, s.2.1, s.2.2) with
      | inr f =>
        rw [hr] at R
        obtain ⟨rfl, f2⟩ := R
        rcases rlq0_150 f2.1 H with ⟨_, rfl, rfl⟩ | ⟨q, _⟩
        · exact FLq.pre f1q (FLT.ql ⟨rfl, f2⟩)
        · exact absurd rfl q
      | inl s2 =>
        rw [hr] at R
        obtain ⟨rfl, f2, r2⟩ := R
        rcases rlq0_150 r2.1 H with ⟨q, _⟩ | ⟨_, _, rfl, rfl⟩
        · exact absurd q (by decide)
        · rw [hI]
          exact (fin_r r2 ((S3.frm f1 (by decide)).frm f2 (by decide)) hlt ((S4.frm f1 (by decide)).frm f2 (by decide))).pre (f1q.trans f2.ql)
    · exact absurd q1 g
theorem nq0_ok {i m : Int32} {e1 : Nat} {v1 c3 : Option Value} (hn2 : n ≤ 440) (hk : 33 ≤ kk) (h : R0 B n M s) (h40 : s.2.1 ≤ 40) (hL : LQ M ls) (hlt : ls.length < 16) (hi : i.toInt = ((112 + ls.length : Nat) : Int)) (g0 : rN M 640 (112 + ls.length) = 0) (g1 : rN M 641 (112 + ls.length) = m) (H1 : Ev none e1 167 0 [some (.ref 633), some (.int 0), some (.int 999)] [] M v1 M1 0 0) (H : Ev none e 170 75 [some (.ref 633), some (.int i), some (.int 0), c3] (v1.toList ++ []) M1 v M' 0 0) : BDr B n M M' v ls 0 (nmR B ((prS B kk).1 1) s 0 m) := by
  have T := tks_ok hn2 h H1
  unfold nmR
  rw [show (if (0 : Int32) = 2 then (1 : Int32) else 0) = 0 from by decide, show mostS 0 = 999 from by unfold mostS; decide]
  cases ht : tkR s 0 999 with
  | inl f =>
    rw [ht] at T
    obtain ⟨rfl, f1⟩ := T
    rcases rlq0_75 f1.1 H with ⟨_, rfl, rfl⟩ | ⟨q, _⟩ | ⟨q, _⟩
    · exact FLT.ql ⟨rfl, f1⟩
    · exact absurd rfl q
    · exact absurd rfl q
  | inr nu =>
    rw [ht] at T
    obtain ⟨rfl, f1, r1, t1⟩ := T
    exact (cq0_ok hn2 hk r1 h40 (hL.frm f1 (by decide)) hlt hi (by rw [f1.rn (by decide)]; exact g0) (by rw [f1.rn (by decide)]; exact g1) t1 H).pre (f1.more (fun _ hq => hq) (fun q hq => List.mem_append_right _ hq))
theorem lq0_ok {i : Int32} (hn2 : n ≤ 440) (hk : 33 ≤ kk) (h : R0 B n M s) (h40 : s.2.1 ≤ 40) (hL : LQ M ls) (hlt : ls.length < 16) (hi : i.toInt = ((112 + ls.length : Nat) : Int)) (g0 : rN M 640 (112 + ls.length) = 0) (g1 : rN M 641 (112 + ls.length) = 0) (g2 : rN M 642 (112 + ls.length) = 0) (H : Ev none e 170 0 [some (.ref 633), some (.int i), some (.int 0), none] [] M v M' 0 0) : BDr B n M M' v ls 0 (bdR B ((prS B kk).1 1) s 0) := by
  unfold bdR
  rw [if_neg (by decide), if_neg (by decide)]
  obtain ⟨e1, v1, M1, he, H1, H⟩ := rlq0_0 h.1 H
  exact nq0_ok hn2 hk h h40 hL hlt hi g0 g1 H1 H
theorem cq1_ok {i m nu : Int32} {c3 : Option Value} (hn2 : n ≤ 440) (hk : 33 ≤ kk) (h : R0 B n M s) (h40 : s.2.1 ≤ 40) (hL : LQ M ls) (hlt : ls.length < 16) (hi : i.toInt = ((112 + ls.length : Nat) : Int)) (g0 : rN M 640 (112 + ls.length) = 1) (g1 : rN M 641 (112 + ls.length) = m) (g2 : zI M 633 32 = nu) (H : Ev none e 170 75 [some (.ref 633), some (.int i), some (.int 1), c3] [.int 1] M v M' 0 0) : BDr B n M M' v ls 1 (cnR B ((prS B kk).1 1) s 1 m nu) := by
  obtain ⟨S1, S2, S3, S4⟩ := st_r h hL hlt g0 g1 g2
  have hI := clI hi
  have e19 : zI (wI (wI M 642 (112 + ls.length) (zI M 633 32)) 643 (112 + ls.length) (zI M 633 19)) 633 19 = zI M 633 19 := by rw [fI_wI, fI_wI]
  unfold cnR cndR
  rw [if_neg (by decide)]
  rcases rlq1_75 h.1 H with ⟨q, _⟩ | ⟨_, g, _, _, _, rfl, rfl⟩ | ⟨_, g, _, _, e1, v1, M1, he, H1, H⟩
  · exact absurd q (by decide)
  · rw [hI] at g ⊢
    rcases S2.2.2.2.1.word (u := ifW) (C := 26982) S2.2.2.2.2.2.1 (by decide) (by decide) with ⟨q1, _⟩ | ⟨_, q2⟩
    · rw [g] at q1
      exact absurd q1 (by decide)
    · rw [if_neg (fun q => q2 q.2)]
      have R := fin_r S2 S3 hlt S4
      rw [e19] at R
      exact R.pre S1
  · rw [hI] at g H1
    rcases S2.2.2.2.1.word (u := ifW) (C := 26982) S2.2.2.2.2.2.1 (by decide) (by decide) with ⟨_, q2⟩ | ⟨q1, _⟩
    · rw [if_pos ⟨by decide, q2⟩]
      have q3 := ix_wd (B := B) (tk := hdT s.1) (ws := [ifW]) (by decide) (by decide) (by
        rw [q2]
        decide)
      obtain ⟨rfl, f1, r1⟩ := S2.next hn2 (by rw [q3]; decide) (by rw [q3]; decide) H1
      obtain ⟨e2, v2, M2, he2, H2, H⟩ := rlq1_140 r1.1 H
      have R := rcond_ok hn2 hk r1 h40 H2
      have f1q : FB fQl wQl M M1 := S1.trans f1.ql
      cases hr : ((prS B kk).1 1) (s.1.tail, s.2.1, s.2.2) with
      | inr f =>
        rw [hr] at R
        obtain ⟨rfl, f2⟩ := R
        rcases rlq1_150 f2.1 H with ⟨_, rfl, rfl⟩ | ⟨q, _⟩
        · exact FLq.pre f1q (FLT.ql ⟨rfl, f2⟩)
        · exact absurd rfl q
      | inl s2 =>
        rw [hr] at R
        obtain ⟨rfl, f2, r2⟩ := R
        rcases rlq1_150 r2.1 H with ⟨q, _⟩ | ⟨_, _, rfl, rfl⟩
        · exact absurd q (by decide)
        · rw [hI]
          exact (fin_r r2 ((S3.frm f1 (by decide)).frm f2 (by decide)) hlt ((S4.frm f1 (by decide)).frm f2 (by decide))).pre (f1q.trans f2.ql)
    · exact absurd q1 g
theorem nq1_ok {i m : Int32} {e1 : Nat} {v1 c3 : Option Value} (hn2 : n ≤ 440) (hk : 33 ≤ kk) (h : R0 B n M s) (h40 : s.2.1 ≤ 40) (hL : LQ M ls) (hlt : ls.length < 16) (hi : i.toInt = ((112 + ls.length : Nat) : Int)) (g0 : rN M 640 (112 + ls.length) = 1) (g1 : rN M 641 (112 + ls.length) = m) (H1 : Ev none e1 167 0 [some (.ref 633), some (.int 0), some (.int 999)] [] M v1 M1 0 0) (H : Ev none e 170 75 [some (.ref 633), some (.int i), some (.int 1), c3] (v1.toList ++ []) M1 v M' 0 0) : BDr B n M M' v ls 1 (nmR B ((prS B kk).1 1) s 1 m) := by
  have T := tks_ok hn2 h H1
  unfold nmR
  rw [show (if (1 : Int32) = 2 then (1 : Int32) else 0) = 0 from by decide, show mostS 1 = 999 from by unfold mostS; decide]
  cases ht : tkR s 0 999 with
  | inl f =>
    rw [ht] at T
    obtain ⟨rfl, f1⟩ := T
    rcases rlq1_75 f1.1 H with ⟨_, rfl, rfl⟩ | ⟨q, _⟩ | ⟨q, _⟩
    · exact FLT.ql ⟨rfl, f1⟩
    · exact absurd rfl q
    · exact absurd rfl q
  | inr nu =>
    rw [ht] at T
    obtain ⟨rfl, f1, r1, t1⟩ := T
    exact (cq1_ok hn2 hk r1 h40 (hL.frm f1 (by decide)) hlt hi (by rw [f1.rn (by decide)]; exact g0) (by rw [f1.rn (by decide)]; exact g1) t1 H).pre (f1.more (fun _ hq => hq) (fun q hq => List.mem_append_right _ hq))
theorem lq1_ok {i : Int32} (hn2 : n ≤ 440) (hk : 33 ≤ kk) (h : R0 B n M s) (h40 : s.2.1 ≤ 40) (hL : LQ M ls) (hlt : ls.length < 16) (hi : i.toInt = ((112 + ls.length : Nat) : Int)) (g0 : rN M 640 (112 + ls.length) = 1) (g1 : rN M 641 (112 + ls.length) = 0) (g2 : rN M 642 (112 + ls.length) = 0) (H : Ev none e 170 0 [some (.ref 633), some (.int i), some (.int 1), none] [] M v M' 0 0) : BDr B n M M' v ls 1 (bdR B ((prS B kk).1 1) s 1) := by
  unfold bdR
  rw [if_neg (by decide), if_neg (by decide)]
  obtain ⟨e1, v1, M1, he, H1, H⟩ := rlq1_0 h.1 H
  exact nq1_ok hn2 hk h h40 hL hlt hi g0 g1 H1 H
theorem cq2_ok {i m nu : Int32} {c3 : Option Value} (hn2 : n ≤ 440) (hk : 33 ≤ kk) (h : R0 B n M s) (h40 : s.2.1 ≤ 40) (hL : LQ M ls) (hlt : ls.length < 16) (hi : i.toInt = ((112 + ls.length : Nat) : Int)) (g0 : rN M 640 (112 + ls.length) = 2) (g1 : rN M 641 (112 + ls.length) = m) (g2 : zI M 633 32 = nu) (H : Ev none e 170 75 [some (.ref 633), some (.int i), some (.int 2), c3] [.int 1] M v M' 0 0) : BDr B n M M' v ls 2 (cnR B ((prS B kk).1 1) s 2 m nu) := by
  obtain ⟨S1, S2, S3, S4⟩ := st_r h hL hlt g0 g1 g2
  have hI := clI hi
  have e19 : zI (wI (wI M 642 (112 + ls.length) (zI M 633 32)) 643 (112 + ls.length) (zI M 633 19)) 633 19 = zI M 633 19 := by rw [fI_wI, fI_wI]
  unfold cnR cndR
  rw [if_neg (by decide)]
  rw [if_neg (fun q => absurd q.1 (by decide))]
  rcases rlq2_75 h.1 H with ⟨q, _⟩ | ⟨_, _, _, _, rfl, rfl⟩
  · exact absurd q (by decide)
  · rw [hI]
    have R := fin_r S2 S3 hlt S4
    rw [e19] at R
    exact R.pre S1
theorem nq2_ok {i m : Int32} {e1 : Nat} {v1 c3 : Option Value} (hn2 : n ≤ 440) (hk : 33 ≤ kk) (h : R0 B n M s) (h40 : s.2.1 ≤ 40) (hL : LQ M ls) (hlt : ls.length < 16) (hi : i.toInt = ((112 + ls.length : Nat) : Int)) (g0 : rN M 640 (112 + ls.length) = 2) (g1 : rN M 641 (112 + ls.length) = m) (H1 : Ev none e1 167 0 [some (.ref 633), some (.int 1), some (.int 999)] [] M v1 M1 0 0) (H : Ev none e 170 75 [some (.ref 633), some (.int i), some (.int 2), c3] (v1.toList ++ []) M1 v M' 0 0) : BDr B n M M' v ls 2 (nmR B ((prS B kk).1 1) s 2 m) := by
  have T := tks_ok hn2 h H1
  unfold nmR
  rw [show (if (2 : Int32) = 2 then (1 : Int32) else 0) = 1 from by decide, show mostS 2 = 999 from by unfold mostS; decide]
  cases ht : tkR s 1 999 with
  | inl f =>
    rw [ht] at T
    obtain ⟨rfl, f1⟩ := T
    rcases rlq2_75 f1.1 H with ⟨_, rfl, rfl⟩ | ⟨q, _⟩
    · exact FLT.ql ⟨rfl, f1⟩
    · exact absurd rfl q
  | inr nu =>
    rw [ht] at T
    obtain ⟨rfl, f1, r1, t1⟩ := T
    exact (cq2_ok hn2 hk r1 h40 (hL.frm f1 (by decide)) hlt hi (by rw [f1.rn (by decide)]; exact g0) (by rw [f1.rn (by decide)]; exact g1) t1 H).pre (f1.more (fun _ hq => hq) (fun q hq => List.mem_append_right _ hq))
theorem lq2_ok {i : Int32} (hn2 : n ≤ 440) (hk : 33 ≤ kk) (h : R0 B n M s) (h40 : s.2.1 ≤ 40) (hL : LQ M ls) (hlt : ls.length < 16) (hi : i.toInt = ((112 + ls.length : Nat) : Int)) (g0 : rN M 640 (112 + ls.length) = 2) (g1 : rN M 641 (112 + ls.length) = 0) (g2 : rN M 642 (112 + ls.length) = 0) (H : Ev none e 170 0 [some (.ref 633), some (.int i), some (.int 2), none] [] M v M' 0 0) : BDr B n M M' v ls 2 (bdR B ((prS B kk).1 1) s 2) := by
  unfold bdR
  rw [if_neg (by decide), if_neg (by decide)]
  obtain ⟨e1, v1, M1, he, H1, H⟩ := rlq2_0 h.1 H
  exact nq2_ok hn2 hk h h40 hL hlt hi g0 g1 H1 H
theorem cq3_ok {i m nu : Int32} {c3 : Option Value} (hn2 : n ≤ 440) (hk : 33 ≤ kk) (h : R0 B n M s) (h40 : s.2.1 ≤ 40) (hL : LQ M ls) (hlt : ls.length < 16) (hi : i.toInt = ((112 + ls.length : Nat) : Int)) (g0 : rN M 640 (112 + ls.length) = 3) (g1 : rN M 641 (112 + ls.length) = m) (g2 : zI M 633 32 = nu) (H : Ev none e 170 75 [some (.ref 633), some (.int i), some (.int 3), c3] [.int 1] M v M' 0 0) : BDr B n M M' v ls 3 (cnR B ((prS B kk).1 1) s 3 m nu) := by
  obtain ⟨S1, S2, S3, S4⟩ := st_r h hL hlt g0 g1 g2
  have hI := clI hi
  have e19 : zI (wI (wI M 642 (112 + ls.length) (zI M 633 32)) 643 (112 + ls.length) (zI M 633 19)) 633 19 = zI M 633 19 := by rw [fI_wI, fI_wI]
  unfold cnR cndR
  rw [if_neg (by decide)]
  rw [if_neg (fun q => absurd q.1 (by decide))]
  rcases rlq3_75 h.1 H with ⟨q, _⟩ | ⟨_, _, _, _, rfl, rfl⟩
  · exact absurd q (by decide)
  · rw [hI]
    have R := fin_r S2 S3 hlt S4
    rw [e19] at R
    exact R.pre S1
theorem nq3_ok {i m : Int32} {e1 : Nat} {v1 c3 : Option Value} (hn2 : n ≤ 440) (hk : 33 ≤ kk) (h : R0 B n M s) (h40 : s.2.1 ≤ 40) (hL : LQ M ls) (hlt : ls.length < 16) (hi : i.toInt = ((112 + ls.length : Nat) : Int)) (g0 : rN M 640 (112 + ls.length) = 3) (g1 : rN M 641 (112 + ls.length) = m) (H1 : Ev none e1 167 0 [some (.ref 633), some (.int 0), some (.int 999)] [] M v1 M1 0 0) (H : Ev none e 170 75 [some (.ref 633), some (.int i), some (.int 3), c3] (v1.toList ++ []) M1 v M' 0 0) : BDr B n M M' v ls 3 (nmR B ((prS B kk).1 1) s 3 m) := by
  have T := tks_ok hn2 h H1
  unfold nmR
  rw [show (if (3 : Int32) = 2 then (1 : Int32) else 0) = 0 from by decide, show mostS 3 = 999 from by unfold mostS; decide]
  cases ht : tkR s 0 999 with
  | inl f =>
    rw [ht] at T
    obtain ⟨rfl, f1⟩ := T
    rcases rlq3_75 f1.1 H with ⟨_, rfl, rfl⟩ | ⟨q, _⟩
    · exact FLT.ql ⟨rfl, f1⟩
    · exact absurd rfl q
  | inr nu =>
    rw [ht] at T
    obtain ⟨rfl, f1, r1, t1⟩ := T
    exact (cq3_ok hn2 hk r1 h40 (hL.frm f1 (by decide)) hlt hi (by rw [f1.rn (by decide)]; exact g0) (by rw [f1.rn (by decide)]; exact g1) t1 H).pre (f1.more (fun _ hq => hq) (fun q hq => List.mem_append_right _ hq))
theorem lq3_ok {i : Int32} (hn2 : n ≤ 440) (hk : 33 ≤ kk) (h : R0 B n M s) (h40 : s.2.1 ≤ 40) (hL : LQ M ls) (hlt : ls.length < 16) (hi : i.toInt = ((112 + ls.length : Nat) : Int)) (g0 : rN M 640 (112 + ls.length) = 3) (g1 : rN M 641 (112 + ls.length) = 0) (g2 : rN M 642 (112 + ls.length) = 0) (H : Ev none e 170 0 [some (.ref 633), some (.int i), some (.int 3), none] [] M v M' 0 0) : BDr B n M M' v ls 3 (bdR B ((prS B kk).1 1) s 3) := by
  unfold bdR
  rw [if_neg (by decide), if_neg (by decide)]
  obtain ⟨e1, v1, M1, he, H1, H⟩ := rlq3_0 h.1 H
  exact nq3_ok hn2 hk h h40 hL hlt hi g0 g1 H1 H
theorem cq4_ok {i m nu : Int32} {c3 : Option Value} (hn2 : n ≤ 440) (hk : 33 ≤ kk) (h : R0 B n M s) (h40 : s.2.1 ≤ 40) (hL : LQ M ls) (hlt : ls.length < 16) (hi : i.toInt = ((112 + ls.length : Nat) : Int)) (g0 : rN M 640 (112 + ls.length) = 4) (g1 : rN M 641 (112 + ls.length) = m) (g2 : zI M 633 32 = nu) (H : Ev none e 170 75 [some (.ref 633), some (.int i), some (.int 4), c3] [.int 1] M v M' 0 0) : BDr B n M M' v ls 4 (cnR B ((prS B kk).1 1) s 4 m nu) := by
  obtain ⟨S1, S2, S3, S4⟩ := st_r h hL hlt g0 g1 g2
  have hI := clI hi
  have e19 : zI (wI (wI M 642 (112 + ls.length) (zI M 633 32)) 643 (112 + ls.length) (zI M 633 19)) 633 19 = zI M 633 19 := by rw [fI_wI, fI_wI]
  unfold cnR cndR
  rw [if_neg (by decide)]
  rw [if_neg (fun q => absurd q.1 (by decide))]
  rcases rlq4_75 h.1 H with ⟨q, _⟩ | ⟨_, _, _, _, rfl, rfl⟩
  · exact absurd q (by decide)
  · rw [hI]
    have R := fin_r S2 S3 hlt S4
    rw [e19] at R
    exact R.pre S1
theorem nq4_ok {i m : Int32} {e1 : Nat} {v1 c3 : Option Value} (hn2 : n ≤ 440) (hk : 33 ≤ kk) (h : R0 B n M s) (h40 : s.2.1 ≤ 40) (hL : LQ M ls) (hlt : ls.length < 16) (hi : i.toInt = ((112 + ls.length : Nat) : Int)) (g0 : rN M 640 (112 + ls.length) = 4) (g1 : rN M 641 (112 + ls.length) = m) (H1 : Ev none e1 167 0 [some (.ref 633), some (.int 0), some (.int 999)] [] M v1 M1 0 0) (H : Ev none e 170 75 [some (.ref 633), some (.int i), some (.int 4), c3] (v1.toList ++ []) M1 v M' 0 0) : BDr B n M M' v ls 4 (nmR B ((prS B kk).1 1) s 4 m) := by
  have T := tks_ok hn2 h H1
  unfold nmR
  rw [show (if (4 : Int32) = 2 then (1 : Int32) else 0) = 0 from by decide, show mostS 4 = 999 from by unfold mostS; decide]
  cases ht : tkR s 0 999 with
  | inl f =>
    rw [ht] at T
    obtain ⟨rfl, f1⟩ := T
    rcases rlq4_75 f1.1 H with ⟨_, rfl, rfl⟩ | ⟨q, _⟩
    · exact FLT.ql ⟨rfl, f1⟩
    · exact absurd rfl q
  | inr nu =>
    rw [ht] at T
    obtain ⟨rfl, f1, r1, t1⟩ := T
    exact (cq4_ok hn2 hk r1 h40 (hL.frm f1 (by decide)) hlt hi (by rw [f1.rn (by decide)]; exact g0) (by rw [f1.rn (by decide)]; exact g1) t1 H).pre (f1.more (fun _ hq => hq) (fun q hq => List.mem_append_right _ hq))
theorem lq4_ok {i : Int32} (hn2 : n ≤ 440) (hk : 33 ≤ kk) (h : R0 B n M s) (h40 : s.2.1 ≤ 40) (hL : LQ M ls) (hlt : ls.length < 16) (hi : i.toInt = ((112 + ls.length : Nat) : Int)) (g0 : rN M 640 (112 + ls.length) = 4) (g1 : rN M 641 (112 + ls.length) = 0) (g2 : rN M 642 (112 + ls.length) = 0) (H : Ev none e 170 0 [some (.ref 633), some (.int i), some (.int 4), none] [] M v M' 0 0) : BDr B n M M' v ls 4 (bdR B ((prS B kk).1 1) s 4) := by
  unfold bdR
  rw [if_neg (by decide), if_neg (by decide)]
  obtain ⟨e1, v1, M1, he, H1, H⟩ := rlq4_0 h.1 H
  exact nq4_ok hn2 hk h h40 hL hlt hi g0 g1 H1 H
theorem cq5_ok {i m nu : Int32} {c3 : Option Value} (hn2 : n ≤ 440) (hk : 33 ≤ kk) (h : R0 B n M s) (h40 : s.2.1 ≤ 40) (hL : LQ M ls) (hlt : ls.length < 16) (hi : i.toInt = ((112 + ls.length : Nat) : Int)) (g0 : rN M 640 (112 + ls.length) = 5) (g1 : rN M 641 (112 + ls.length) = m) (g2 : zI M 633 32 = nu) (H : Ev none e 170 75 [some (.ref 633), some (.int i), some (.int 5), c3] [.int 1] M v M' 0 0) : BDr B n M M' v ls 5 (cnR B ((prS B kk).1 1) s 5 m nu) := by
  obtain ⟨S1, S2, S3, S4⟩ := st_r h hL hlt g0 g1 g2
  have hI := clI hi
  have e19 : zI (wI (wI M 642 (112 + ls.length) (zI M 633 32)) 643 (112 + ls.length) (zI M 633 19)) 633 19 = zI M 633 19 := by rw [fI_wI, fI_wI]
  unfold cnR cndR
  rw [if_neg (by decide)]
  rcases rlq5_75 h.1 H with ⟨q, _⟩ | ⟨_, g, _, _, _, rfl, rfl⟩ | ⟨_, g, _, _, e1, v1, M1, he, H1, H⟩
  · exact absurd q (by decide)
  · rw [hI] at g ⊢
    rcases S2.2.2.2.1.word (u := ifW) (C := 26982) S2.2.2.2.2.2.1 (by decide) (by decide) with ⟨q1, _⟩ | ⟨_, q2⟩
    · rw [g] at q1
      exact absurd q1 (by decide)
    · rw [if_neg (fun q => q2 q.2)]
      have R := fin_r S2 S3 hlt S4
      rw [e19] at R
      exact R.pre S1
  · rw [hI] at g H1
    rcases S2.2.2.2.1.word (u := ifW) (C := 26982) S2.2.2.2.2.2.1 (by decide) (by decide) with ⟨_, q2⟩ | ⟨q1, _⟩
    · rw [if_pos ⟨by decide, q2⟩]
      have q3 := ix_wd (B := B) (tk := hdT s.1) (ws := [ifW]) (by decide) (by decide) (by
        rw [q2]
        decide)
      obtain ⟨rfl, f1, r1⟩ := S2.next hn2 (by rw [q3]; decide) (by rw [q3]; decide) H1
      obtain ⟨e2, v2, M2, he2, H2, H⟩ := rlq5_140 r1.1 H
      have R := rcond_ok hn2 hk r1 h40 H2
      have f1q : FB fQl wQl M M1 := S1.trans f1.ql
      cases hr : ((prS B kk).1 1) (s.1.tail, s.2.1, s.2.2) with
      | inr f =>
        rw [hr] at R
        obtain ⟨rfl, f2⟩ := R
        rcases rlq5_150 f2.1 H with ⟨_, rfl, rfl⟩ | ⟨q, _⟩
        · exact FLq.pre f1q (FLT.ql ⟨rfl, f2⟩)
        · exact absurd rfl q
      | inl s2 =>
        rw [hr] at R
        obtain ⟨rfl, f2, r2⟩ := R
        rcases rlq5_150 r2.1 H with ⟨q, _⟩ | ⟨_, _, rfl, rfl⟩
        · exact absurd q (by decide)
        · rw [hI]
          exact (fin_r r2 ((S3.frm f1 (by decide)).frm f2 (by decide)) hlt ((S4.frm f1 (by decide)).frm f2 (by decide))).pre (f1q.trans f2.ql)
    · exact absurd q1 g
theorem nq5_ok {i m : Int32} {e1 : Nat} {v1 c3 : Option Value} (hn2 : n ≤ 440) (hk : 33 ≤ kk) (h : R0 B n M s) (h40 : s.2.1 ≤ 40) (hL : LQ M ls) (hlt : ls.length < 16) (hi : i.toInt = ((112 + ls.length : Nat) : Int)) (g0 : rN M 640 (112 + ls.length) = 5) (g1 : rN M 641 (112 + ls.length) = m) (H1 : Ev none e1 167 0 [some (.ref 633), some (.int 0), some (.int 99)] [] M v1 M1 0 0) (H : Ev none e 170 75 [some (.ref 633), some (.int i), some (.int 5), c3] (v1.toList ++ []) M1 v M' 0 0) : BDr B n M M' v ls 5 (nmR B ((prS B kk).1 1) s 5 m) := by
  have T := tks_ok hn2 h H1
  unfold nmR
  rw [show (if (5 : Int32) = 2 then (1 : Int32) else 0) = 0 from by decide, show mostS 5 = 99 from by unfold mostS; decide]
  cases ht : tkR s 0 99 with
  | inl f =>
    rw [ht] at T
    obtain ⟨rfl, f1⟩ := T
    rcases rlq5_75 f1.1 H with ⟨_, rfl, rfl⟩ | ⟨q, _⟩ | ⟨q, _⟩
    · exact FLT.ql ⟨rfl, f1⟩
    · exact absurd rfl q
    · exact absurd rfl q
  | inr nu =>
    rw [ht] at T
    obtain ⟨rfl, f1, r1, t1⟩ := T
    exact (cq5_ok hn2 hk r1 h40 (hL.frm f1 (by decide)) hlt hi (by rw [f1.rn (by decide)]; exact g0) (by rw [f1.rn (by decide)]; exact g1) t1 H).pre (f1.more (fun _ hq => hq) (fun q hq => List.mem_append_right _ hq))
theorem lq5_ok {i : Int32} (hn2 : n ≤ 440) (hk : 33 ≤ kk) (h : R0 B n M s) (h40 : s.2.1 ≤ 40) (hL : LQ M ls) (hlt : ls.length < 16) (hi : i.toInt = ((112 + ls.length : Nat) : Int)) (g0 : rN M 640 (112 + ls.length) = 5) (g1 : rN M 641 (112 + ls.length) = 0) (g2 : rN M 642 (112 + ls.length) = 0) (H : Ev none e 170 0 [some (.ref 633), some (.int i), some (.int 5), none] [] M v M' 0 0) : BDr B n M M' v ls 5 (bdR B ((prS B kk).1 1) s 5) := by
  unfold bdR
  rw [if_neg (by decide), if_pos rfl]
  have em := fls h.2.2.2.1 h.2.2.2.2.2.1
  have hneg : ∀ x : Int32, x < 0 ↔ ¬ 0 ≤ x := fun x => by rw [Int32.lt_iff_toInt_lt, Int32.le_iff_toInt_le]; omega
  rcases rlq5_0 h.1 H with ⟨q, _, e1, v1, M1, he, H1, H⟩ | ⟨q, e1, v1, M1, he, H1, H⟩
  · rw [em] at q H1 H
    have hx : ¬ ixF (wdS B (hdT s.1)) meaW 0 < 0 := fun x => (hneg _).mp x q
    rw [if_neg hx]
    have h2t := ix_wd (by decide) (by decide) hx
    have hI := clI hi
    rw [hI] at H1
    have F1 : FB [] [641] M (wI M 641 (112 + ls.length) (ixF (wdS B (hdT s.1)) meaW 0)) := FB.wI (by simp)
    have R1 : R0 B n (wI M 641 (112 + ls.length) (ixF (wdS B (hdT s.1)) meaW 0)) s := h.frm h.1.ki F1 (by decide) (by decide)
    obtain ⟨rfl, f1, r1⟩ := R1.next hn2 (by rw [h2t]; decide) (by rw [h2t]; decide) H1
    have F2 : FB fQl wQl M M1 := (F1.more (fun _ hq => by cases hq) (by decide)).trans f1.ql
    obtain ⟨e2, v2, M2, he2, H2, H⟩ := rlq5_31 r1.1 H
    refine (nq5_ok (s := (s.1.tail, s.2.1, s.2.2)) hn2 hk r1 h40 (LQ.frm (hL.wr (by decide)) f1 (by decide)) hlt hi ?_ ?_ H2 H).pre F2
    · rw [f1.rn (by decide), F1.rn (by decide)]
      exact g0
    · rw [f1.rn (by decide), rN_wI_eq (by rw [(r_len h.1).2.1]; omega)]
  · rw [em] at q
    rw [if_pos ((hneg _).mpr q)]
    obtain ⟨rfl, f1⟩ := h.bad H1
    obtain ⟨rfl, rfl⟩ := rlq5_19 f1.1 H
    exact FLT.ql ⟨rfl, f1⟩
theorem lq6_ok {i : Int32} (hn2 : n ≤ 440) (hk : 33 ≤ kk) (h : R0 B n M s) (h40 : s.2.1 ≤ 40) (hL : LQ M ls) (hlt : ls.length < 16) (hi : i.toInt = ((112 + ls.length : Nat) : Int)) (g0 : rN M 640 (112 + ls.length) = 6) (g1 : rN M 641 (112 + ls.length) = 0) (g2 : rN M 642 (112 + ls.length) = 0) (H : Ev none e 170 0 [some (.ref 633), some (.int i), some (.int 6), none] [] M v M' 0 0) : BDr B n M M' v ls 6 (bdR B ((prS B kk).1 1) s 6) := by
  unfold bdR
  rw [if_pos rfl]
  obtain ⟨_, e1, v1, M1, he, H1, H⟩ := rlq6_0 h.1 H
  have hI := clI hi
  rw [hI] at H1
  have F1 : FB [] [643] M (wI M 643 (112 + ls.length) (zI M 633 19)) := FB.wI (by simp)
  have R1 : R0 B n (wI M 643 (112 + ls.length) (zI M 633 19)) s := h.frm h.1.ki F1 (by decide) (by decide)
  have L1 : LQ (wI M 643 (112 + ls.length) (zI M 633 19)) ls := hL.wr (by decide)
  have E1 : ER (wI M 643 (112 + ls.length) (zI M 633 19)) (112 + ls.length) 6 0 0 s.2.2.length := by
    refine ⟨by rw [F1.rn (by decide)]; exact g0, by rw [F1.rn (by decide)]; exact g1, by rw [F1.rn (by decide)]; exact g2, ?_⟩
    rw [rN_wI_eq (by rw [(r_len h.1).2.2.2.1]; omega)]
    exact h.2.2.2.2.2.2.2.1.1
  have F2 : FB fQl wQl M (wI M 643 (112 + ls.length) (zI M 633 19)) := F1.more (fun _ hq => by cases hq) (by decide)
  have R := rcond_ok hn2 hk R1 h40 H1
  unfold cnR cndR
  rw [if_pos rfl]
  cases hr : ((prS B kk).1 1) s with
  | inr f =>
    rw [hr] at R
    obtain ⟨rfl, f2⟩ := R
    rcases rlq6_150 f2.1 H with ⟨_, rfl, rfl⟩ | ⟨q, _⟩
    · exact FLq.pre F2 (FLT.ql ⟨rfl, f2⟩)
    · exact absurd rfl q
  | inl s2 =>
    rw [hr] at R
    obtain ⟨rfl, f2, r2⟩ := R
    rcases rlq6_150 r2.1 H with ⟨q, _⟩ | ⟨_, _, rfl, rfl⟩
    · exact absurd q (by decide)
    · rw [hI]
      exact (fin_r r2 (L1.frm f2 (by decide)) hlt (E1.frm f2 (by decide))).pre (F2.trans f2.ql)
theorem cq7_ok {i m nu : Int32} {c3 : Option Value} (hn2 : n ≤ 440) (hk : 33 ≤ kk) (h : R0 B n M s) (h40 : s.2.1 ≤ 40) (hL : LQ M ls) (hlt : ls.length < 16) (hi : i.toInt = ((112 + ls.length : Nat) : Int)) (g0 : rN M 640 (112 + ls.length) = 7) (g1 : rN M 641 (112 + ls.length) = m) (g2 : zI M 633 32 = nu) (H : Ev none e 170 75 [some (.ref 633), some (.int i), some (.int 7), c3] [.int 1] M v M' 0 0) : BDr B n M M' v ls 7 (cnR B ((prS B kk).1 1) s 7 m nu) := by
  obtain ⟨S1, S2, S3, S4⟩ := st_r h hL hlt g0 g1 g2
  have hI := clI hi
  have e19 : zI (wI (wI M 642 (112 + ls.length) (zI M 633 32)) 643 (112 + ls.length) (zI M 633 19)) 633 19 = zI M 633 19 := by rw [fI_wI, fI_wI]
  unfold cnR cndR
  rw [if_neg (by decide)]
  rw [if_neg (fun q => absurd q.1 (by decide))]
  rcases rlq7_75 h.1 H with ⟨q, _⟩ | ⟨_, _, _, _, rfl, rfl⟩
  · exact absurd q (by decide)
  · rw [hI]
    have R := fin_r S2 S3 hlt S4
    rw [e19] at R
    exact R.pre S1
theorem nq7_ok {i m : Int32} {e1 : Nat} {v1 c3 : Option Value} (hn2 : n ≤ 440) (hk : 33 ≤ kk) (h : R0 B n M s) (h40 : s.2.1 ≤ 40) (hL : LQ M ls) (hlt : ls.length < 16) (hi : i.toInt = ((112 + ls.length : Nat) : Int)) (g0 : rN M 640 (112 + ls.length) = 7) (g1 : rN M 641 (112 + ls.length) = m) (H1 : Ev none e1 167 0 [some (.ref 633), some (.int 0), some (.int 9)] [] M v1 M1 0 0) (H : Ev none e 170 75 [some (.ref 633), some (.int i), some (.int 7), c3] (v1.toList ++ []) M1 v M' 0 0) : BDr B n M M' v ls 7 (nmR B ((prS B kk).1 1) s 7 m) := by
  have T := tks_ok hn2 h H1
  unfold nmR
  rw [show (if (7 : Int32) = 2 then (1 : Int32) else 0) = 0 from by decide, show mostS 7 = 9 from by unfold mostS; decide]
  cases ht : tkR s 0 9 with
  | inl f =>
    rw [ht] at T
    obtain ⟨rfl, f1⟩ := T
    rcases rlq7_75 f1.1 H with ⟨_, rfl, rfl⟩ | ⟨q, _⟩
    · exact FLT.ql ⟨rfl, f1⟩
    · exact absurd rfl q
  | inr nu =>
    rw [ht] at T
    obtain ⟨rfl, f1, r1, t1⟩ := T
    exact (cq7_ok hn2 hk r1 h40 (hL.frm f1 (by decide)) hlt hi (by rw [f1.rn (by decide)]; exact g0) (by rw [f1.rn (by decide)]; exact g1) t1 H).pre (f1.more (fun _ hq => hq) (fun q hq => List.mem_append_right _ hq))
theorem lq7_ok {i : Int32} (hn2 : n ≤ 440) (hk : 33 ≤ kk) (h : R0 B n M s) (h40 : s.2.1 ≤ 40) (hL : LQ M ls) (hlt : ls.length < 16) (hi : i.toInt = ((112 + ls.length : Nat) : Int)) (g0 : rN M 640 (112 + ls.length) = 7) (g1 : rN M 641 (112 + ls.length) = 0) (g2 : rN M 642 (112 + ls.length) = 0) (H : Ev none e 170 0 [some (.ref 633), some (.int i), some (.int 7), none] [] M v M' 0 0) : BDr B n M M' v ls 7 (bdR B ((prS B kk).1 1) s 7) := by
  unfold bdR
  rw [if_neg (by decide), if_neg (by decide)]
  obtain ⟨e1, v1, M1, he, H1, H⟩ := rlq7_0 h.1 H
  exact nq7_ok hn2 hk h h40 hL hlt hi g0 g1 H1 H
end LQK
/-! THE REFERENCE READS: find, read -/
/-- the lines of a text -/
def LQT (M : Mem) (t : Nat) (ls : List Lnq) : Prop := (rN M 639 t).toInt = (ls.length : Int) ∧ ls.length ≤ 16 ∧ ∀ j l, ls[j]? = some l → rN M 640 (16 * t + j) = l.1 ∧ rN M 641 (16 * t + j) = l.2.1 ∧ rN M 642 (16 * t + j) = l.2.2.1 ∧ (rN M 643 (16 * t + j)).toInt = (l.2.2.2.1 : Int) ∧ (rN M 644 (16 * t + j)).toInt = (l.2.2.2.2 : Int)
section RRD
variable {e n kk : Nat} {M M1 M' : Mem} {v : Option Value} {B : Nat → Int32} {s : Sg} {ls : List Lnq}
theorem LQ.T (h : LQ M ls) : LQT M 7 ls := h
theorem fdq_loop {t : Nat} {tz k : Int32} (hL : LQT M t ls) (ht : t ≤ 7) (hz : tz.toInt = (t : Int)) : ∀ (m j : Nat) (z : Int32), ls.length - j ≤ m → z.toInt = ((16 * t + j : Nat) : Int) → j ≤ ls.length → hasK ls k = hasK (ls.drop j) k → (∀ d, tvS ls k d = tvS (ls.drop j) k d) → Ev none e 172 5 [some (.ref 633), some (.int tz), some (.int k), some (.int z)] [] M v M' 0 0 → SQ M → M' = M ∧ ∃ y, v = some (.int y) ∧ ((y < 0 ∧ hasK ls k = false ∧ ∀ d, tvS ls k d = d) ∨ (0 ≤ y.toInt ∧ y.toInt < 128 ∧ hasK ls k = true ∧ ∀ d, tvS ls k d = rI M 642 y)) := by
  have e16 : (16 : Int32).toInt = 16 := rfl
  have hl16 := hL.2.1
  have b1 : ((16 : Int32) * tz).toInt = 16 * (t : Int) := by
    rw [i32_mul (by rw [e16, hz]; omega) (by rw [e16, hz]; omega), e16, hz]
  have r1 : (rI M 639 tz).toInt = (ls.length : Int) := by
    rw [rI_n hz]
    exact hL.1
  have b2 : ((16 : Int32) * tz + rI M 639 tz).toInt = 16 * (t : Int) + ls.length := by
    rw [i32_add (by omega) (by omega), b1, r1]
  intro m
  induction m with
  | zero =>
    intro j z hm hzj hj h1 h2 H hS
    have hjl : j = ls.length := by omega
    rcases fdq_5 hS H with ⟨_, _, rfl, rfl⟩ | ⟨q, _⟩ | ⟨q, _⟩
    · rw [hjl, List.drop_length] at h1 h2
      exact ⟨rfl, -1, rfl, Or.inl ⟨by decide, h1, h2⟩⟩
    · rw [Int32.le_iff_toInt_le, b2, hzj] at q
      exact absurd (by omega) q
    · rw [Int32.le_iff_toInt_le, b2, hzj] at q
      exact absurd (by omega) q
  | succ m ih =>
    intro j z hm hzj hj h1 h2 H hS
    rcases fdq_5 hS H with ⟨q, _, rfl, rfl⟩ | ⟨q, g, _, b, rfl, rfl⟩ | ⟨q, g, _, b, H⟩
    · rw [Int32.le_iff_toInt_le, b2, hzj] at q
      have hjl : j = ls.length := by omega
      rw [hjl, List.drop_length] at h1 h2
      exact ⟨rfl, -1, rfl, Or.inl ⟨by decide, h1, h2⟩⟩
    · rw [Int32.le_iff_toInt_le, b2, hzj] at q
      have hlt : j < ls.length := by omega
      have hd : ls.drop j = ls[j] :: ls.drop (j + 1) := List.drop_eq_getElem_cons hlt
      have hx := hL.2.2 j ls[j] (List.getElem?_eq_getElem hlt)
      rw [rI_n hzj, hx.1] at g
      refine ⟨rfl, z, rfl, Or.inr ⟨b.1, b.2, ?_, fun d => ?_⟩⟩
      · rw [h1, hd]
        show (decide (ls[j].1 = k) || _) = true
        rw [decide_eq_true g]
        rfl
      · rw [h2 d, hd, rI_n hzj, hx.2.2.1]
        unfold tvS
        rw [List.find?_cons_of_pos (by exact decide_eq_true g)]
    · rw [Int32.le_iff_toInt_le, b2, hzj] at q
      have hlt : j < ls.length := by omega
      have hd : ls.drop j = ls[j] :: ls.drop (j + 1) := List.drop_eq_getElem_cons hlt
      have hx := hL.2.2 j ls[j] (List.getElem?_eq_getElem hlt)
      rw [rI_n hzj, hx.1] at g
      refine ih (j + 1) (z + 1) (by omega) (by rw [i32_p1 (by omega), hzj]; omega) hlt ?_ (fun d => ?_) H hS
      · rw [h1, hd]
        show (decide (ls[j].1 = k) || _) = _
        rw [decide_eq_false g]
        rfl
      · rw [h2 d, hd]
        unfold tvS
        rw [List.find?_cons_of_neg (by rw [decide_eq_false g]; decide)]
theorem fdq_ok {t : Nat} {tz k : Int32} (hS : SQ M) (hL : LQT M t ls) (ht : t ≤ 7) (hz : tz.toInt = (t : Int)) (H : Ev none e 172 0 [some (.ref 633), some (.int tz), some (.int k), none] [] M v M' 0 0) : M' = M ∧ ∃ y, v = some (.int y) ∧ ((y < 0 ∧ hasK ls k = false ∧ ∀ d, tvS ls k d = d) ∨ (0 ≤ y.toInt ∧ y.toInt < 128 ∧ hasK ls k = true ∧ ∀ d, tvS ls k d = rI M 642 y)) := by
  have H := fdq_0 hS H
  have e16 : (16 : Int32).toInt = 16 := rfl
  exact fdq_loop hL ht hz ls.length 0 _ (by omega) (by rw [i32_mul (by rw [e16, hz]; omega) (by rw [e16, hz]; omega), e16, hz]; omega) (Nat.zero_le _) rfl (fun _ => rfl) H hS
theorem cn_40 {C : Sg → PR} {x m nu : Int32} {q : Sg × Int32 × Int32 × Nat} (hC : ∀ s s2, C s = .inl s2 → s2.2.1 ≤ 40) (h40 : s.2.1 ≤ 40) (h : cnR B C s x m nu = .inr q) : q.1.2.1 ≤ 40 := by
  unfold cnR at h
  cases hr : cndR B C s x with
  | inr f => rw [hr] at h; cases h
  | inl s2 =>
    rw [hr] at h
    cases h
    unfold cndR at hr
    split at hr
    · exact hC _ _ hr
    · split at hr
      · exact hC _ _ hr
      · cases hr
        exact h40
theorem nm_40 {C : Sg → PR} {x m : Int32} {q : Sg × Int32 × Int32 × Nat} (hC : ∀ s s2, C s = .inl s2 → s2.2.1 ≤ 40) (h40 : s.2.1 ≤ 40) (h : nmR B C s x m = .inr q) : q.1.2.1 ≤ 40 := by
  unfold nmR at h
  split at h
  · cases h
  · exact cn_40 (s := (s.1.tail, s.2.1, s.2.2)) hC h40 h
theorem bd_40 {C : Sg → PR} {x : Int32} {q : Sg × Int32 × Int32 × Nat} (hC : ∀ s s2, C s = .inl s2 → s2.2.1 ≤ 40) (h40 : s.2.1 ≤ 40) (h : bdR B C s x = .inr q) : q.1.2.1 ≤ 40 := by
  unfold bdR at h
  split at h
  · exact cn_40 hC h40 h
  · split at h
    · split at h
      · cases h
      · exact nm_40 (s := (s.1.tail, s.2.1, s.2.2)) hC h40 h
    · exact nm_40 hC h40 h
def K8 (k : Int32) : Prop := k = 0 ∨ k = 1 ∨ k = 2 ∨ k = 3 ∨ k = 4 ∨ k = 5 ∨ k = 6 ∨ k = 7
theorem lq_ok {i k : Int32} (hK : K8 k) (hn2 : n ≤ 440) (hk : 33 ≤ kk) (h : R0 B n M s) (h40 : s.2.1 ≤ 40) (hL : LQ M ls) (hlt : ls.length < 16) (hi : i.toInt = ((112 + ls.length : Nat) : Int)) (g0 : rN M 640 (112 + ls.length) = k) (g1 : rN M 641 (112 + ls.length) = 0) (g2 : rN M 642 (112 + ls.length) = 0) (H : Ev none e 170 0 [some (.ref 633), some (.int i), some (.int k), none] [] M v M' 0 0) : BDr B n M M' v ls k (bdR B ((prS B kk).1 1) s k) := by
  rcases hK with rfl | rfl | rfl | rfl | rfl | rfl | rfl | rfl
  · exact lq0_ok hn2 hk h h40 hL hlt hi g0 g1 g2 H
  · exact lq1_ok hn2 hk h h40 hL hlt hi g0 g1 g2 H
  · exact lq2_ok hn2 hk h h40 hL hlt hi g0 g1 g2 H
  · exact lq3_ok hn2 hk h h40 hL hlt hi g0 g1 g2 H
  · exact lq4_ok hn2 hk h h40 hL hlt hi g0 g1 g2 H
  · exact lq5_ok hn2 hk h h40 hL hlt hi g0 g1 g2 H
  · exact lq6_ok hn2 hk h h40 hL hlt hi g0 g1 g2 H
  · exact lq7_ok hn2 hk h h40 hL hlt hi g0 g1 g2 H
theorem once_k {k : Int32} (hK : K8 k) : (onceB k = true ∧ (¬ G_140 M k 2 4 = 0 ∨ k = 7)) ∨ (onceB k = false ∧ G_140 M k 2 4 = 0 ∧ k ≠ 7) := by
  unfold G_140 onceB
  rcases hK with rfl | rfl | rfl | rfl | rfl | rfl | rfl | rfl <;> decide
/-- where read goes on, or what it ends with -/
def RDn (B : Nat → Int32) (n e : Nat) (l : Int32) (M M' : Mem) (v : Option Value) (r : PLn) : Prop := match r with
  | .inr f => FLq M M' v f
  | .inl q => ∃ M1 c2 c3 c4, Ev none e 169 0 [some (.ref 633), some (.int l), c2, c3, c4] [] M1 v M' 0 0 ∧ FB fQl wQl M M1 ∧ R0 B n M1 q.1 ∧ LQ M1 q.2 ∧ q.1.2.1 ≤ 40
theorem rdq_go {e1 : Nat} {v1 c3 : Option Value} {l k : Int32} (hK : K8 k) (hn2 : n ≤ 440) (hk : 33 ≤ kk) (h : R0 B n M s) (h40 : s.2.1 ≤ 40) (hL : LQ M ls) (hlt : ls.length < 16) (h2 : (hdT s.1).1 = 2) (H1 : Ev none e1 162 0 [some (.ref 633), none, none, none] [] M v1 M1 0 0) (H : Ev none e 169 92 [some (.ref 633), some (.int l), some (.int k), c3, some (.int (112 + rI M 639 7))] (v1.toList ++ []) M1 v M' 0 0) : RDn B n e l M M' v (bodB B ((prS B kk).1 1) (s.1.tail, s.2.1, s.2.2) ls k) := by
  obtain ⟨rfl, f1, r1⟩ := h.next hn2 (by rw [h2]; decide) (by rw [h2]; decide) H1
  have e112 : (112 : Int32).toInt = 112 := rfl
  have hl : (rI M 639 7).toInt = (ls.length : Int) := hL.1
  have hj : ((112 : Int32) + rI M 639 7).toInt = ((112 + ls.length : Nat) : Int) := by
    rw [i32_add (by omega) (by omega), e112, hl]
    omega
  obtain ⟨e2, v2, M2, he2, H2, H⟩ := rdq_92 r1.1 H
  rw [clI hj] at H2
  have F2 : FB [] [640, 641, 642] M1 (wI (wI (wI M1 640 (112 + ls.length) k) 641 (112 + ls.length) 0) 642 (112 + ls.length) 0) := ((FB.wI (by simp)).trans (FB.wI (by simp))).trans (FB.wI (by simp))
  have R2 : R0 B n (wI (wI (wI M1 640 (112 + ls.length) k) 641 (112 + ls.length) 0) 642 (112 + ls.length) 0) (s.1.tail, s.2.1, s.2.2) := r1.frm r1.1.ki.ki.ki F2 (by decide) (by decide)
  have L2 : LQ (wI (wI (wI M1 640 (112 + ls.length) k) 641 (112 + ls.length) 0) 642 (112 + ls.length) 0) ls := LQ.wr (LQ.wr (LQ.wr (hL.frm f1 (by decide)) (by decide)) (by decide)) (by decide)
  have F3 : FB fQl wQl M (wI (wI (wI M1 640 (112 + ls.length) k) 641 (112 + ls.length) 0) 642 (112 + ls.length) 0) := f1.ql.trans (F2.more (fun _ hq => by cases hq) (by decide))
  have R := lq_ok hK hn2 hk R2 h40 L2 hlt hj (by rw [rN_wI_ne (fun q => absurd q.1 (by decide)), rN_wI_ne (fun q => absurd q.1 (by decide)), rN_wI_eq (by rw [(r_len r1.1).1]; omega)]) (by rw [rN_wI_ne (fun q => absurd q.1 (by decide)), rN_wI_eq (by rw [(r_len r1.1.ki).2.1]; omega)]) (by rw [rN_wI_eq (by rw [(r_len r1.1.ki.ki).2.2.1]; omega)]) H2
  rw [bd_en (s := (s.1.tail, s.2.1, s.2.2)) r1.2.2.2.2.1 r1.2.2.2.2.2.1]
  cases hr : bdR B ((prS B kk).1 1) (s.1.tail, s.2.1, s.2.2) k with
  | inl f =>
    rw [hr] at R
    obtain ⟨rfl, f2⟩ := R
    rcases rdq_123 f2.1 H with ⟨_, rfl, rfl⟩ | ⟨q, _⟩
    · exact FLq.pre F3 ⟨rfl, f2⟩
    · exact absurd rfl q
  | inr q =>
    rw [hr] at R
    obtain ⟨rfl, f4, r4, l4, e4, t4⟩ := R
    rcases rdq_123 r4.1 H with ⟨x, _⟩ | ⟨_, e5, v5, M5, he5, H5, H⟩
    · exact absurd x (by decide)
    · unfold enR
      dsimp only
      unfold endB
      rcases sgn_ok hn2 r4 H5 with ⟨x, rfl, f5⟩ | ⟨x, rfl, f5, r5⟩
      · rw [if_pos x]
        rcases rdq_132 f5.1 H with ⟨_, rfl, rfl⟩ | ⟨x, _⟩
        · exact FLq.pre (F3.trans f4) (FLT.ql ⟨rfl, f5⟩)
        · exact absurd rfl x
      · rw [if_neg (fun y => y x)]
        rcases rdq_132 r5.1 H with ⟨x, _⟩ | ⟨_, _, _, H⟩
        · exact absurd x (by decide)
        · have l5 := l4.frm f5 (by decide)
          have e6 := e4.frm f5 (by decide)
          have t6 : (rN M5 644 (112 + ls.length)).toInt = (q.1.2.2.length : Int) := by
            rw [f5.rn (by decide)]
            exact t4
          have F6 : FB [] [639] M5 (wI M5 639 7 (rI M5 639 7 + 1)) := FB.wI (by simp)
          have hl5 : (rI M5 639 7).toInt = (ls.length : Int) := l5.1
          have w7 : (zrw M5 639).length = 8 := (r5.1.1.row qa_639 qw_67).2
          refine ⟨_, _, _, _, H, ((F3.trans f4).trans f5.ql).trans (F6.more (fun _ hq => by cases hq) (by decide)), r5.frm r5.1.ki F6 (by decide) (by decide), ⟨?_, ?_, fun j l hj => ?_⟩, bd_40 (s := (s.1.tail, s.2.1, s.2.2)) (fun s s2 hs => ((sp_bd kk).1 1 s s2 hs).2.1) h40 hr⟩
          · show (rN (wI M5 639 7 (rI M5 639 7 + 1)) 639 7).toInt = _
            rw [rN_wI_eq (by omega), i32_p1 (by omega), hl5, List.length_append]
            rfl
          · rw [List.length_append]
            exact hlt
          · show rN (wI M5 639 7 (rI M5 639 7 + 1)) 640 (112 + j) = _ ∧ rN (wI M5 639 7 (rI M5 639 7 + 1)) 641 (112 + j) = _ ∧ rN (wI M5 639 7 (rI M5 639 7 + 1)) 642 (112 + j) = _ ∧ (rN (wI M5 639 7 (rI M5 639 7 + 1)) 643 (112 + j)).toInt = _ ∧ (rN (wI M5 639 7 (rI M5 639 7 + 1)) 644 (112 + j)).toInt = _
            rw [F6.rn (by decide), F6.rn (by decide), F6.rn (by decide), F6.rn (by decide), F6.rn (by decide)]
            rcases Nat.lt_or_ge j ls.length with y | y
            · rw [List.getElem?_append_left y] at hj
              exact l5.2.2 j l hj
            · rw [List.getElem?_append_right y] at hj
              have hj0 : j = ls.length := by
                rcases Nat.eq_or_lt_of_le y with z | z
                · exact z.symm
                · rw [List.getElem?_eq_none (by simp; omega)] at hj
                  cases hj
              rw [hj0, Nat.sub_self] at hj
              cases hj
              rw [hj0]
              exact ⟨e6.1, e6.2.1, e6.2.2.1, e6.2.2.2, t6⟩
end RRD
/-! THE REFERENCE'S read, whole -/
section RRL
variable {e n kk : Nat} {M M1 M' : Mem} {v : Option Value} {B : Nat → Int32} {s : Sg} {ls : List Lnq}
theorem RTk.fin {ts : List Tok} (h : RTk B n M ts) : ((hdT ts).1 = 0 ∧ zI M 633 22 = (if 400 < n then 4 else 0)) ∨ ((hdT ts).1 ≠ 0 ∧ zI M 633 22 ≠ 0) := by
  cases ts with
  | nil => exact h.elim
  | cons t r =>
    obtain ⟨_, h⟩ := h
    rcases h with ⟨h1, h2⟩ | ⟨h1, h2⟩ | ⟨h1, h2, _⟩
    · exact Or.inl ⟨h1, h2⟩
    · exact Or.inr ⟨by show t.1 ≠ 0; rw [h1]; decide, by rw [h2]; decide⟩
    · refine Or.inr ⟨h1.1, ?_⟩
      rcases h2 with ⟨_, q, _⟩ | ⟨_, q, _⟩ | ⟨_, q, _⟩ <;> rw [q] <;> decide
theorem rdq_one {l : Int32} {law : Bool} {c2 c3 c4 : Option Value} (hl : l = bif law then 1 else 0) (hn2 : n ≤ 440) (hk : 33 ≤ kk) (h : R0 B n M s) (h40 : s.2.1 ≤ 40) (hL : LQ M ls) (hz : zI M 633 22 ≠ 0) (H : Ev none e 169 0 [some (.ref 633), some (.int l), c2, c3, c4] [] M v M' 0 0) : RDn B n e l M M' v (lnB B law ((prS B kk).1 1) s ls) := by
  have em : G_168 M l = kdS B law (hdT s.1) := by
    rw [hl]
    exact fll h.2.2.2.1 h.2.2.2.2.2.1
  have hneg : ∀ x : Int32, x < 0 ↔ ¬ 0 ≤ x := fun x => by rw [Int32.lt_iff_toInt_lt, Int32.le_iff_toInt_le]; omega
  have hK : 0 ≤ kdS B law (hdT s.1) → K8 (kdS B law (hdT s.1)) ∧ (hdT s.1).1 = 2 := by
    intro q
    unfold kdS at q ⊢
    cases law
    · have q : 0 ≤ (if ixF (wdS B (hdT s.1)) habW 0 < 0 then (-1 : Int32) else 5 + ixF (wdS B (hdT s.1)) habW 0) := q
      show K8 (if ixF (wdS B (hdT s.1)) habW 0 < 0 then (-1 : Int32) else 5 + ixF (wdS B (hdT s.1)) habW 0) ∧ _
      by_cases hx : ixF (wdS B (hdT s.1)) habW 0 < 0
      · rw [if_pos hx] at q
        exact absurd q (by decide)
      · rw [if_neg hx]
        refine ⟨?_, ix_wd (by decide) (by decide) hx⟩
        rcases hab_cases hx with y | y | y <;> rw [y] <;> unfold K8 <;> decide
    · have q : 0 ≤ ixF (wdS B (hdT s.1)) lawW 0 := q
      show K8 (ixF (wdS B (hdT s.1)) lawW 0) ∧ _
      have hx : ¬ ixF (wdS B (hdT s.1)) lawW 0 < 0 := fun y => (hneg _).mp y q
      refine ⟨?_, ix_wd (by decide) (by decide) hx⟩
      rcases law_cases hx with y | y | y | y | y <;> rw [y] <;> unfold K8 <;> decide
  have e16 : (16 : Int32).toInt = 16 := rfl
  have h16 : rI M 639 7 = 16 ↔ 16 ≤ ls.length := by
    have h1 : (rI M 639 7).toInt = (ls.length : Int) := hL.1
    have h2 := hL.2.1
    rw [← Int32.toInt_inj, h1, e16]
    omega
  unfold lnB
  have bd3 : ∀ {k c4 : Option Value} {c2 : Option Value} {e1 : Nat} {v1 : Option Value} {M1 : Mem}, Ev none e1 163 0 [some (.ref 633), some (.int 3)] [] M v1 M1 0 0 → Ev none e 169 75 [some (.ref 633), some (.int l), k, c2, c4] (v1.toList ++ []) M1 v M' 0 0 → FLq M M' v (3, (hdT s.1).2.1) := fun H1 H => by
    obtain ⟨rfl, f1⟩ := h.bad H1
    obtain ⟨rfl, rfl⟩ := rdq_75 f1.1 H
    exact FLT.ql ⟨rfl, f1⟩
  have hfd : ∀ {k : Int32} {e1 : Nat} {v1 : Option Value} {M1 : Mem} {c3 c4 : Option Value}, K8 k → (hdT s.1).1 = 2 → onceB k = true → Ev none e1 172 0 [some (.ref 633), some (.int 7), some (.int k), none] [] M v1 M1 0 0 → Ev none e 169 45 [some (.ref 633), some (.int l), some (.int k), c3, c4] (v1.toList ++ []) M1 v M' 0 0 → RDn B n e l M M' v (if 16 ≤ ls.length ∨ (onceB k = true ∧ hasK ls k = true) then .inr (3, (hdT s.1).2.1) else bodB B ((prS B kk).1 1) (s.1.tail, s.2.1, s.2.2) ls k) := fun {k e1 v1 M1 c3 c4} hk8 h2 ho H1 H => by
    obtain ⟨rfl, y, rfl, hy⟩ := fdq_ok h.1 hL.T (by omega) rfl H1
    rcases rdq_45 h.1 H with ⟨q, g, e2, v2, M2, he2, H2, H⟩ | ⟨q, g, e2, v2, M2, he2, H2, H⟩ | ⟨q, e2, v2, M2, he2, H2, H⟩
    · rw [if_pos (Or.inl (h16.mp g))]
      exact bd3 H2 H
    · have hh : hasK ls k = false := by
        rcases hy with ⟨_, a, _⟩ | ⟨a, _⟩
        · exact a
        · rw [Int32.lt_iff_toInt_lt] at q
          have z0 : (0 : Int32).toInt = 0 := rfl
          omega
      have hlt : ¬ 16 ≤ ls.length := fun x => g (h16.mpr x)
      rw [if_neg (fun x => x.elim hlt (fun x => by rw [hh] at x; exact absurd x.2 (by decide)))]
      exact rdq_go hk8 hn2 hk h h40 hL (by omega) h2 H2 H
    · have hh : hasK ls k = true := by
        rcases hy with ⟨a, _⟩ | ⟨_, _, a, _⟩
        · exact absurd a q
        · exact a
      rw [if_pos (Or.inr ⟨ho, hh⟩)]
      exact bd3 H2 H
  rcases rdq_0 h.1 H with ⟨q, _⟩ | ⟨_, g1, g2, g3, e1, v1, M1, he, H1, H⟩ | ⟨_, g1, g2, g3, g4, e1, v1, M1, he, H1, H⟩ | ⟨_, g1, g2, g3, g4, e1, v1, M1, he, H1, H⟩ | ⟨_, g1, g2, e1, v1, M1, he, H1, H⟩ | ⟨_, g1, e1, v1, M1, he, H1, H⟩
  · exact absurd q hz
  · rw [em] at g1 g2 g3 H1 H
    obtain ⟨k8, h2⟩ := hK g1
    rw [if_neg (fun x => (hneg _).mp x g1)]
    refine hfd k8 h2 ?_ H1 H
    rcases once_k (M := M) k8 with ⟨a, _⟩ | ⟨_, _, a⟩
    · exact a
    · exact absurd g3 a
  · rw [em] at g1
    rw [if_neg (fun x => (hneg _).mp x g1), if_pos (Or.inl (h16.mp g4))]
    exact bd3 H1 H
  · rw [em] at g1 g2 g3 H
    obtain ⟨k8, h2⟩ := hK g1
    have ho : onceB (kdS B law (hdT s.1)) = false := by
      rcases once_k (M := M) k8 with ⟨_, a⟩ | ⟨a, _⟩
      · rcases a with a | a
        · exact absurd g2 a
        · exact absurd a g3
      · exact a
    have hlt : ¬ 16 ≤ ls.length := fun x => g4 (h16.mpr x)
    rw [if_neg (fun x => (hneg _).mp x g1), if_neg (fun x => x.elim hlt (fun x => by rw [ho] at x; exact absurd x.1 (by decide)))]
    exact rdq_go k8 hn2 hk h h40 hL (by omega) h2 H1 H
  · rw [em] at g1 g2 H1 H
    obtain ⟨k8, h2⟩ := hK g1
    rw [if_neg (fun x => (hneg _).mp x g1)]
    refine hfd k8 h2 ?_ H1 H
    rcases once_k (M := M) k8 with ⟨a, _⟩ | ⟨_, a, _⟩
    · exact a
    · exact absurd a g2
  · rw [em] at g1
    rw [if_pos ((hneg _).mpr g1)]
    obtain ⟨rfl, f1⟩ := h.bad H1
    obtain ⟨rfl, rfl⟩ := rdq_22 f1.1 H
    exact FLT.ql ⟨rfl, f1⟩
/-- all lines -/
def RDr (B : Nat → Int32) (n : Nat) (M M' : Mem) (v : Option Value) (r : PLn) : Prop := match r with
  | .inr f => FLq M M' v f
  | .inl q => v = some (.int 1) ∧ FB fQl wQl M M' ∧ R0 B n M' q.1 ∧ LQ M' q.2
theorem kd_neg {law : Bool} {tk : Tok} (h : tk.1 ≠ 2) : kdS B law tk < 0 := by
  have hw : wdS B tk = [] := by
    unfold wdS
    rw [if_neg h]
  unfold kdS
  rw [hw]
  cases law <;> decide
theorem rdq_loop {l : Int32} {law : Bool} (hl : l = bif law then 1 else 0) (hn2 : n ≤ 440) (hk : 33 ≤ kk) : ∀ (j : Nat) (s : Sg) (ls : List Lnq) (M M' : Mem) (v c2 c3 c4 : Option Value), ls.length + j = 17 → R0 B n M s → s.2.1 ≤ 40 → LQ M ls → Ev none e 169 0 [some (.ref 633), some (.int l), c2, c3, c4] [] M v M' 0 0 → RDr B n M M' v (txB B law ((prS B kk).1 1) (decide (400 < n)) j s ls) := by
  intro j
  induction j with
  | zero =>
    intro s ls M M' v c2 c3 c4 h1 _ _ hL _
    have := hL.2.1
    omega
  | succ j ih =>
    intro s ls M M' v c2 c3 c4 h1 h h40 hL H
    unfold txB
    by_cases hz : zI M 633 22 = 0
    · rcases h.2.2.2.1.fin with ⟨q1, q2⟩ | ⟨_, q⟩
      · rw [if_pos q1]
        have hb : ¬ 400 < n := fun x => by
          rw [if_pos x, hz] at q2
          exact absurd q2 (by decide)
        rw [decide_eq_false hb]
        rcases rdq_0 h.1 H with ⟨_, rfl, rfl⟩ | ⟨q, _⟩ | ⟨q, _⟩ | ⟨q, _⟩ | ⟨q, _⟩ | ⟨q, _⟩
        · exact ⟨rfl, FB.refl _, h, hL⟩
        all_goals exact absurd hz q
      · exact absurd hz q
    · have R := rdq_one hl hn2 hk h h40 hL hz H
      rcases h.2.2.2.1.fin with ⟨q1, q2⟩ | ⟨q1, _⟩
      · rw [if_pos q1]
        have hb : 400 < n := by
          rcases Nat.lt_or_ge 400 n with x | x
          · exact x
          · rw [if_neg (by omega)] at q2
            exact absurd q2 hz
        rw [decide_eq_true hb]
        unfold lnB at R
        rw [if_pos (kd_neg (by rw [q1]; decide))] at R
        exact R
      · rw [if_neg q1]
        cases hr : lnB B law ((prS B kk).1 1) s ls with
        | inr f =>
          rw [hr] at R
          exact R
        | inl q =>
          rw [hr] at R
          obtain ⟨M1, d2, d3, d4, H1, F1, R1, L1, b1⟩ := R
          have hlen := lnB_len hr
          have R2 := ih q.1 q.2 M1 M' v d2 d3 d4 (by omega) R1 b1 L1 H1
          show RDr B n M M' v (txB B law ((prS B kk).1 1) (decide (400 < n)) j q.1 q.2)
          cases hx : txB B law ((prS B kk).1 1) (decide (400 < n)) j q.1 q.2 with
          | inr f =>
            rw [hx] at R2
            exact FLq.pre F1 R2
          | inl w =>
            rw [hx] at R2
            exact ⟨R2.1, F1.trans R2.2.1, R2.2.2⟩
end RRL
/-! THE REFERENCE'S text -/
section RTE
variable {e n kk : Nat} {M M1 M' : Mem} {v : Option Value} {B : Nat → Int32} {s : Sg} {ls : List Lnq}
theorem mul_t {a tz kz : Int32} {A t k : Nat} (ha : a.toInt = (A : Int)) (hA : A ≤ 200) (ht : tz.toInt = (t : Int)) (ht6 : t ≤ 7) (hk : kz.toInt = (k : Int)) (hk2 : k ≤ 200) : (a * tz + kz).toInt = ((A * t + k : Nat) : Int) := by
  have h0 : A * t ≤ 200 * 7 := Nat.mul_le_mul hA ht6
  have h1 : a.toInt * tz.toInt = ((A * t : Nat) : Int) := by rw [ha, ht]; push_cast; rfl
  have h2 : (a * tz).toInt = ((A * t : Nat) : Int) := by
    rw [i32_mul (by rw [h1]; omega) (by rw [h1]; omega), h1]
  rw [i32_add (by omega) (by omega), h2, hk]
  push_cast
  rfl
theorem te_a {t : Nat} {tz l : Int32} (ht : t ≤ 6) (hz : tz.toInt = (t : Int)) : ∀ (m k : Nat) (kz : Int32) (M M' : Mem) (v c4 c5 : Option Value), 16 - k ≤ m → k ≤ 16 → kz.toInt = (k : Int) → SQ M → Ev none e 181 57 [some (.ref 633), some (.int tz), some (.int l), some (.int kz), c4, c5] [] M v M' 0 0 → ∃ M2, (∃ c4 c5, Ev none e 181 155 [some (.ref 633), some (.int tz), some (.int l), some (.int 0), c4, c5] [] M2 v M' 0 0) ∧ SQ M2 ∧ FA [] [640, 641, 642, 643, 644] M M2 ∧ (∀ b i, ¬ (16 * t + k ≤ i ∧ i < 16 * t + 16) → rN M2 b i = rN M b i) ∧ ∀ b ∈ [640, 641, 642, 643, 644], ∀ j, k ≤ j → j < 16 → rN M2 b (16 * t + j) = rN M b (112 + j) := by
  have e1 : (16 : Int32).toInt = 16 := rfl
  have e2 : (112 : Int32).toInt = ((112 : Nat) : Int) := rfl
  intro m
  induction m with
  | zero =>
    intro k kz M M' v c4 c5 hm hk hkz hS H
    have hks : k = 16 := by omega
    rcases teq_57 hS H with ⟨q, H⟩ | ⟨q, _⟩
    · exact ⟨M, ⟨_, _, H⟩, hS, FA.refl _, fun _ _ _ => rfl, fun b hb j h1 h2 => absurd h2 (by omega)⟩
    · rw [Int32.le_iff_toInt_le] at q
      omega
  | succ m ih =>
    intro k kz M M' v c4 c5 hm hk hkz hS H
    rcases teq_57 hS H with ⟨q, H⟩ | ⟨q, _, _, _, _, _, _, _, _, _, _, H⟩
    · rw [Int32.le_iff_toInt_le] at q
      have hks : k = 16 := by omega
      exact ⟨M, ⟨_, _, H⟩, hS, FA.refl _, fun _ _ _ => rfl, fun b hb j h1 h2 => absurd h2 (by omega)⟩
    · rw [Int32.le_iff_toInt_le] at q
      have hks : k < 16 := by omega
      have d1 : ((112 : Int32) + kz).toInt = ((112 + k : Nat) : Int) := by
        rw [i32_add (by omega) (by omega), e2, hkz]
        exact (Int.natCast_add _ _).symm
      have d2 : ((16 : Int32) * tz + kz).toInt = ((16 * t + k : Nat) : Int) := mul_t rfl (by omega) hz (by omega) hkz (by omega)
      rw [clI d2, show rI M 640 (112 + kz) = rN M 640 (112 + k) from rI_n d1, show rI M 641 (112 + kz) = rN M 641 (112 + k) from rI_n d1, show rI M 642 (112 + kz) = rN M 642 (112 + k) from rI_n d1, show rI M 643 (112 + kz) = rN M 643 (112 + k) from rI_n d1, show rI M 644 (112 + kz) = rN M 644 (112 + k) from rI_n d1] at H
      have hN : SQ (wI (wI (wI (wI (wI M 640 (16 * t + k) (rN M 640 (112 + k))) 641 (16 * t + k) (rN M 641 (112 + k))) 642 (16 * t + k) (rN M 642 (112 + k))) 643 (16 * t + k) (rN M 643 (112 + k))) 644 (16 * t + k) (rN M 644 (112 + k))) := hS.ki.ki.ki.ki.ki
      have F : FA [] [640, 641, 642, 643, 644] M (wI (wI (wI (wI (wI M 640 (16 * t + k) (rN M 640 (112 + k))) 641 (16 * t + k) (rN M 641 (112 + k))) 642 (16 * t + k) (rN M 642 (112 + k))) 643 (16 * t + k) (rN M 643 (112 + k))) 644 (16 * t + k) (rN M 644 (112 + k))) := ((((FA.wI (by simp)).trans (FA.wI (by simp))).trans (FA.wI (by simp))).trans (FA.wI (by simp))).trans (FA.wI (by simp))
      have hI : 16 * t + k < 128 := by omega
      obtain ⟨M2, R, s2, f2, u2, w2⟩ := ih (k + 1) (kz + 1) _ M' v _ _ (by omega) (by omega) (by rw [i32_p1 (by omega), hkz]; rfl) hN H
      have ne : ∀ b i, i ≠ 16 * t + k → rN (wI (wI (wI (wI (wI M 640 (16 * t + k) (rN M 640 (112 + k))) 641 (16 * t + k) (rN M 641 (112 + k))) 642 (16 * t + k) (rN M 642 (112 + k))) 643 (16 * t + k) (rN M 643 (112 + k))) 644 (16 * t + k) (rN M 644 (112 + k))) b i = rN M b i := fun b i hi => by
        rw [rN_wI_ne (fun q => hi q.2), rN_wI_ne (fun q => hi q.2), rN_wI_ne (fun q => hi q.2), rN_wI_ne (fun q => hi q.2), rN_wI_ne (fun q => hi q.2)]
      refine ⟨M2, R, s2, F.trans f2, fun b i hi => ?_, fun b hb j h1 h2 => ?_⟩
      · rw [u2 b i (fun x => hi ⟨by omega, x.2⟩)]
        by_cases hx : i = 16 * t + k
        · exact absurd ⟨by omega, by omega⟩ hi
        · exact ne b i hx
      · by_cases hj : j = k
        · rw [hj, u2 b _ (fun x => by omega)]
          simp only [List.mem_cons, List.not_mem_nil, or_false] at hb
          rcases hb with rfl | rfl | rfl | rfl | rfl
          · rw [rN_wI_ne (fun q => absurd q.1 (by decide)), rN_wI_ne (fun q => absurd q.1 (by decide)), rN_wI_ne (fun q => absurd q.1 (by decide)), rN_wI_ne (fun q => absurd q.1 (by decide)), rN_wI_eq (by rw [(hS.1.row qa_640 qw_68).2]; exact hI)]
          · rw [rN_wI_ne (fun q => absurd q.1 (by decide)), rN_wI_ne (fun q => absurd q.1 (by decide)), rN_wI_ne (fun q => absurd q.1 (by decide)), rN_wI_eq (by rw [(hS.ki.1.row qa_641 qw_69).2]; exact hI)]
          · rw [rN_wI_ne (fun q => absurd q.1 (by decide)), rN_wI_ne (fun q => absurd q.1 (by decide)), rN_wI_eq (by rw [(hS.ki.ki.1.row qa_642 qw_70).2]; exact hI)]
          · rw [rN_wI_ne (fun q => absurd q.1 (by decide)), rN_wI_eq (by rw [(hS.ki.ki.ki.1.row qa_643 qw_71).2]; exact hI)]
          · rw [rN_wI_eq (by rw [(hS.ki.ki.ki.ki.1.row qa_644 qw_72).2]; exact hI)]
        · rw [w2 b hb j (by omega) h2]
          exact ne b _ (by omega)
theorem te_b {t : Nat} {tz l : Int32} (ht : t ≤ 6) (hz : tz.toInt = (t : Int)) : ∀ (m k : Nat) (kz : Int32) (M M' : Mem) (v c4 c5 : Option Value), 200 - k ≤ m → k ≤ 200 → kz.toInt = (k : Int) → SQ M → Ev none e 181 155 [some (.ref 633), some (.int tz), some (.int l), some (.int kz), c4, c5] [] M v M' 0 0 → ∃ M2, (v = some (.int (rI M2 639 tz)) ∧ M' = M2) ∧ SQ M2 ∧ FA [] [645, 646, 647] M M2 ∧ (∀ b i, ¬ (200 * t + k ≤ i ∧ i < 200 * t + 200) → rN M2 b i = rN M b i) ∧ ∀ b ∈ [645, 646, 647], ∀ j, k ≤ j → j < 200 → rN M2 b (200 * t + j) = rN M b (1400 + j) := by
  have e1 : (200 : Int32).toInt = 200 := rfl
  have e2 : (1400 : Int32).toInt = ((1400 : Nat) : Int) := rfl
  intro m
  induction m with
  | zero =>
    intro k kz M M' v c4 c5 hm hk hkz hS H
    have hks : k = 200 := by omega
    rcases teq_155 hS H with ⟨q, _, rfl, rfl⟩ | ⟨q, _⟩
    · exact ⟨M', ⟨rfl, rfl⟩, hS, FA.refl _, fun _ _ _ => rfl, fun b hb j h1 h2 => absurd h2 (by omega)⟩
    · rw [Int32.le_iff_toInt_le] at q
      omega
  | succ m ih =>
    intro k kz M M' v c4 c5 hm hk hkz hS H
    rcases teq_155 hS H with ⟨q, _, rfl, rfl⟩ | ⟨q, _, _, _, _, _, _, H⟩
    · rw [Int32.le_iff_toInt_le] at q
      have hks : k = 200 := by omega
      exact ⟨M', ⟨rfl, rfl⟩, hS, FA.refl _, fun _ _ _ => rfl, fun b hb j h1 h2 => absurd h2 (by omega)⟩
    · rw [Int32.le_iff_toInt_le] at q
      have hks : k < 200 := by omega
      have d1 : ((1400 : Int32) + kz).toInt = ((1400 + k : Nat) : Int) := by
        rw [i32_add (by omega) (by omega), e2, hkz]
        exact (Int.natCast_add _ _).symm
      have d2 : ((200 : Int32) * tz + kz).toInt = ((200 * t + k : Nat) : Int) := mul_t rfl (by omega) hz (by omega) hkz (by omega)
      rw [clI d2, show rI M 645 (1400 + kz) = rN M 645 (1400 + k) from rI_n d1, show rI M 646 (1400 + kz) = rN M 646 (1400 + k) from rI_n d1, show rI M 647 (1400 + kz) = rN M 647 (1400 + k) from rI_n d1] at H
      have hN : SQ (wI (wI (wI M 645 (200 * t + k) (rN M 645 (1400 + k))) 646 (200 * t + k) (rN M 646 (1400 + k))) 647 (200 * t + k) (rN M 647 (1400 + k))) := hS.ki.ki.ki
      have F : FA [] [645, 646, 647] M (wI (wI (wI M 645 (200 * t + k) (rN M 645 (1400 + k))) 646 (200 * t + k) (rN M 646 (1400 + k))) 647 (200 * t + k) (rN M 647 (1400 + k))) := ((FA.wI (by simp)).trans (FA.wI (by simp))).trans (FA.wI (by simp))
      have hI : 200 * t + k < 1600 := by omega
      obtain ⟨M2, R, s2, f2, u2, w2⟩ := ih (k + 1) (kz + 1) _ M' v _ _ (by omega) (by omega) (by rw [i32_p1 (by omega), hkz]; rfl) hN H
      have ne : ∀ b i, i ≠ 200 * t + k → rN (wI (wI (wI M 645 (200 * t + k) (rN M 645 (1400 + k))) 646 (200 * t + k) (rN M 646 (1400 + k))) 647 (200 * t + k) (rN M 647 (1400 + k))) b i = rN M b i := fun b i hi => by
        rw [rN_wI_ne (fun q => hi q.2), rN_wI_ne (fun q => hi q.2), rN_wI_ne (fun q => hi q.2)]
      refine ⟨M2, R, s2, F.trans f2, fun b i hi => ?_, fun b hb j h1 h2 => ?_⟩
      · rw [u2 b i (fun x => hi ⟨by omega, x.2⟩)]
        by_cases hx : i = 200 * t + k
        · exact absurd ⟨by omega, by omega⟩ hi
        · exact ne b i hx
      · by_cases hj : j = k
        · rw [hj, u2 b _ (fun x => by omega)]
          simp only [List.mem_cons, List.not_mem_nil, or_false] at hb
          rcases hb with rfl | rfl | rfl
          · rw [rN_wI_ne (fun q => absurd q.1 (by decide)), rN_wI_ne (fun q => absurd q.1 (by decide)), rN_wI_eq (by rw [(hS.1.row qa_645 qw_73).2]; exact hI)]
          · rw [rN_wI_ne (fun q => absurd q.1 (by decide)), rN_wI_eq (by rw [(hS.ki.1.row qa_646 qw_74).2]; exact hI)]
          · rw [rN_wI_eq (by rw [(hS.ki.ki.1.row qa_647 qw_75).2]; exact hI)]
        · rw [w2 b hb j (by omega) h2]
          exact ne b _ (by omega)
end RTE
/-! THE REFERENCE: text, told, law, habit, fault -/
def TXR (M : Mem) (t : Nat) (q : Sg × List Lnq) : Prop := LQT M t q.2 ∧ ∀ j c, j < 200 → q.1.2.2[j]? = some c → rN M 645 (200 * t + j) = c.1 ∧ rN M 646 (200 * t + j) = c.2.1 ∧ rN M 647 (200 * t + j) = c.2.2
def inT (t b j : Nat) : Prop := (b = 639 ∧ j = t) ∨ (640 ≤ b ∧ b ≤ 644 ∧ 16 * t ≤ j ∧ j < 16 * t + 16) ∨ (645 ≤ b ∧ b ≤ 647 ∧ 200 * t ≤ j ∧ j < 200 * t + 200)
section RTO
variable {e n kk : Nat} {M M1 M' : Mem} {v : Option Value}
theorem TXR.low {t' t : Nat} {q : Sg × List Lnq} (h : TXR M t' q) (ht : t' < 7) (hne : t' ≠ t) (hL : ∀ b j, lowQ b j → ¬ inT t b j → rN M' b j = rN M b j) : TXR M' t' q := by
  obtain ⟨⟨h1, h2, h3⟩, h4⟩ := h
  have g : ∀ b j, 640 ≤ b → b ≤ 644 → j < 16 → rN M' b (16 * t' + j) = rN M b (16 * t' + j) := fun b j b1 b2 hj => hL b _ (by unfold lowQ; omega) (by unfold inT; omega)
  have g2 : ∀ b j, 645 ≤ b → b ≤ 647 → j < 200 → rN M' b (200 * t' + j) = rN M b (200 * t' + j) := fun b j b1 b2 hj => hL b _ (by unfold lowQ; omega) (by unfold inT; omega)
  refine ⟨⟨by rw [hL 639 t' (by unfold lowQ; omega) (by unfold inT; omega)]; exact h1, h2, fun j l hj => ?_⟩, fun j c h5 hj => ?_⟩
  · have hj16 : j < 16 := by
      rcases Nat.lt_or_ge j q.2.length with x | x
      · omega
      · rw [List.getElem?_eq_none x] at hj
        cases hj
    rw [g 640 j (by decide) (by decide) hj16, g 641 j (by decide) (by decide) hj16, g 642 j (by decide) (by decide) hj16, g 643 j (by decide) (by decide) hj16, g 644 j (by decide) (by decide) hj16]
    exact h3 j l hj
  · rw [g2 645 j (by decide) (by decide) h5, g2 646 j (by decide) (by decide) h5, g2 647 j (by decide) (by decide) h5]
    exact h4 j c h5 hj
theorem rtx_ok {t : Nat} {tz l : Int32} {law : Bool} {c3 c4 c5 : Option Value} (hl : l = bif law then 1 else 0) (ht : t ≤ 6) (hz : tz.toInt = (t : Int)) (hn2 : n ≤ 440) (hk : 33 ≤ kk) (hS : SQ M) (hn : (zI M 633 3).toInt = (n : Int)) (hp : zI M 633 4 = 0) (H : Ev none e 181 0 [some (.ref 633), some (.int tz), some (.int l), c3, c4, c5] [] M v M' 0 0) : (∃ x, v = some (.int x) ∧ x.toInt = ansB (rdB (bR M) n law ((prS (bR M) kk).1 1))) ∧ SQ M' ∧ FA fQl wQl M M' ∧ zI M' 633 26 = fltB (rdB (bR M) n law ((prS (bR M) kk).1 1)) ∧ (match rdB (bR M) n law ((prS (bR M) kk).1 1) with
    | .inr _ => ∀ b j, lowQ b j → rN M' b j = rN M b j
    | .inl q => TXR M' t q) ∧ ∀ b j, lowQ b j → ¬ inT t b j → rN M' b j = rN M b j := by
  obtain ⟨_, e1, v1, M1, he, H1, H⟩ := teq_0 hS H
  have H1 : Ev none e1 162 0 [some (.ref 633), none, none, none] [] (wF (wF (wI (wF M 633 26 0) 639 7 0) 633 19 0) 633 21 0) v1 M1 0 0 := H1
  have s0 : SQ (wF (wF (wI (wF M 633 26 0) 639 7 0) 633 19 0) 633 21 0) := hS.kf.ki.kf.kf
  have f0 : FB [(633, 26), (633, 19), (633, 21)] [639] M (wF (wF (wI (wF M 633 26 0) 639 7 0) 633 19 0) 633 21 0) := (((FB.wF (by simp)).trans (FB.wI (by simp))).trans (FB.wF (by simp))).trans (FB.wF (by simp))
  have b0 : bR (wF (wF (wI (wF M 633 26 0) 639 7 0) 633 19 0) 633 21 0) = bR M := f0.bR (by decide)
  have w7 : (zrw (wF M 633 26 0) 639).length = 8 := (hS.kf.1.row qa_639 qw_67).2
  obtain ⟨rfl, s1, f1, t1⟩ := nx_all hn2 n 0 _ (by omega) (by omega) s0 (by rw [f0.fi (by decide)]; exact hn) (by rw [f0.fi (by decide), hp]; rfl) H1
  rw [b0] at t1
  have R1 : R0 (bR M) n M1 (tlS (bR M) n 0, 0, []) := by
    refine ⟨s1, (f1.bR (by decide)).trans b0, by rw [f1.fi (by decide), f0.fi (by decide)]; exact hn, t1, tlS_wf n 0 (by omega) (by omega), tlS_gd hn2 n 0 (by omega) (by omega), ?_, ⟨?_, fun j c h => by cases h⟩, ?_⟩
    · rw [f1.fi (by decide), fI_wF_eq hS.kf.ki.kf.1 qa_633 qi_61_21]
      rfl
    · rw [f1.fi (by decide), fI_wF_ne (by decide), fI_wF_eq hS.kf.ki.1 qa_633 qi_61_19]
      rfl
    · rw [f1.fi (by decide), fI_wF_ne (by decide), fI_wF_ne (by decide), fI_wI, fI_wF_eq hS.1 qa_633 qi_61_26]
  have L1 : LQ M1 [] := by
    refine ⟨?_, Nat.zero_le _, fun j l h => by cases h⟩
    rw [f1.rn (by decide), rN_wF, rN_wF, rN_wI_eq (by omega)]
    rfl
  have F1 : FB fQl wQl M M1 := (f0.more (by decide) (by decide)).trans (f1.more (by decide) (by decide))
  obtain ⟨e2, v2, M2, he2, H2, H⟩ := teq_27 s1 H
  have R := rdq_loop hl hn2 hk 17 _ [] M1 M2 v2 none none none rfl R1 (Nat.zero_le _) L1 H2
  show (∃ x, v = some (.int x) ∧ x.toInt = ansB (txB (bR M) law ((prS (bR M) kk).1 1) (decide (400 < n)) 17 (tlS (bR M) n 0, 0, []) [])) ∧ SQ M' ∧ FA fQl wQl M M' ∧ zI M' 633 26 = fltB (txB (bR M) law ((prS (bR M) kk).1 1) (decide (400 < n)) 17 (tlS (bR M) n 0, 0, []) []) ∧ (match txB (bR M) law ((prS (bR M) kk).1 1) (decide (400 < n)) 17 (tlS (bR M) n 0, 0, []) [] with
    | .inr _ => ∀ b j, lowQ b j → rN M' b j = rN M b j
    | .inl q => TXR M' t q) ∧ ∀ b j, lowQ b j → ¬ inT t b j → rN M' b j = rN M b j
  cases hr : txB (bR M) law ((prS (bR M) kk).1 1) (decide (400 < n)) 17 (tlS (bR M) n 0, 0, []) [] with
  | inr f =>
    rw [hr] at R
    obtain ⟨rfl, s2, f2, z1, z2⟩ := R
    rcases teq_32 s2 H with ⟨_, rfl, rfl⟩ | ⟨q, _⟩
    · obtain ⟨m, hm⟩ : ∃ m : Int32, m = -1 := ⟨_, rfl⟩
      refine ⟨⟨_, rfl, ?_⟩, s2, (F1.trans f2).1, z1, (fun b j hl => (F1.trans f2).2 b j hl), fun b j hl _ => (F1.trans f2).2 b j hl⟩
      rw [← hm, i32_m1x hm (by omega), z2]
      rfl
    · exact absurd rfl q
  | inl q =>
    rw [hr] at R
    obtain ⟨rfl, f2, r2, l2⟩ := R
    rcases teq_32 r2.1 H with ⟨x, _⟩ | ⟨_, _, _, H⟩
    · exact absurd x (by decide)
    · rw [clI hz] at H
      have hlen : (rI M2 639 7).toInt = (q.2.length : Int) := l2.1
      have s3 : SQ (wI M2 639 t (rI M2 639 7)) := r2.1.ki
      have f3 : FA [] [639] M2 (wI M2 639 t (rI M2 639 7)) := FA.wI (by simp)
      have w7b : (zrw M2 639).length = 8 := (r2.1.1.row qa_639 qw_67).2
      have d3 : rN (wI M2 639 t (rI M2 639 7)) 639 t = rI M2 639 7 := rN_wI_eq (by omega)
      obtain ⟨M4, ⟨d4, d5, H⟩, s4, f4, u4, c4⟩ := te_a ht hz 16 0 0 _ M' v _ _ (by omega) (by omega) rfl s3 H
      obtain ⟨M5, ⟨rfl, rfl⟩, s5, f5, u5, c5⟩ := te_b ht hz 200 0 0 M4 M' v _ _ (by omega) (by omega) rfl s4 H
      have hlast : rN M' 639 t = rI M2 639 7 := by
        rw [f5.rn (by decide), f4.rn (by decide), d3]
      refine ⟨⟨_, rfl, ?_⟩, s5, (((F1.trans f2).1.trans (f3.more (fun _ hq => by cases hq) (by decide))).trans (f4.more (fun _ hq => by cases hq) (by decide))).trans (f5.more (fun _ hq => by cases hq) (by decide)), ?_, ⟨⟨?_, l2.2.1, fun j l hj => ?_⟩, fun j c hj hc => ?_⟩, fun b j hl ht2 => ?_⟩
      · rw [rI_n hz, hlast, hlen]
        rfl
      · rw [f5.fi (by decide), f4.fi (by decide), f3.fi (by decide)]
        exact r2.2.2.2.2.2.2.2.2
      · rw [hlast]
        exact hlen
      · have hj16 : j < 16 := by
          rcases Nat.lt_or_ge j q.2.length with x | x
          · have := l2.2.1
            omega
          · rw [List.getElem?_eq_none x] at hj
            cases hj
        have g : ∀ b, b ∈ [640, 641, 642, 643, 644] → b ∉ [645, 646, 647] → b ∉ [639] → rN M' b (16 * t + j) = rN M2 b (112 + j) := fun b h1 h2 h3 => by
          rw [f5.rn h2, c4 b h1 j (by omega) hj16, f3.rn h3]
        rw [g 640 (by decide) (by decide) (by decide), g 641 (by decide) (by decide) (by decide), g 642 (by decide) (by decide) (by decide), g 643 (by decide) (by decide) (by decide), g 644 (by decide) (by decide) (by decide)]
        exact l2.2.2 j l hj
      · have g : ∀ b, b ∈ [645, 646, 647] → b ∉ [640, 641, 642, 643, 644] → b ∉ [639] → rN M' b (200 * t + j) = rN M2 b (1400 + j) := fun b h1 h2 h3 => by
          rw [c5 b h1 j (by omega) hj, f4.rn h2, f3.rn h3]
        rw [g 645 (by decide) (by decide) (by decide), g 646 (by decide) (by decide) (by decide), g 647 (by decide) (by decide) (by decide)]
        exact r2.2.2.2.2.2.2.2.1.2 j c hc
      · have g0 : rN M2 b j = rN M b j := (F1.trans f2).2 b j hl
        rw [← g0]
        unfold lowQ at hl
        unfold inT at ht2
        by_cases hb : 645 ≤ b
        · rw [u5 b j (by omega), f4.rn (by simp only [List.mem_cons, List.not_mem_nil, or_false]; omega), f3.rn (by simp only [List.mem_cons, List.not_mem_nil, or_false]; omega)]
        · rw [f5.rn (by simp only [List.mem_cons, List.not_mem_nil, or_false]; omega)]
          by_cases hc : 640 ≤ b
          · rw [u4 b j (by omega), f3.rn (by simp only [List.mem_cons, List.not_mem_nil, or_false]; omega)]
          · rw [f4.rn (by simp only [List.mem_cons, List.not_mem_nil, or_false]; omega), rN_wI_ne (by omega)]
/-- told once, or a number given -/
theorem tod_ok {k d : Int32} {ls : List Lnq} (hS : SQ M) (hL : LQT M 0 ls) (H : Ev none e 182 0 [some (.ref 633), some (.int k), some (.int d), none] [] M v M' 0 0) : v = some (.int (tvS ls k d)) ∧ M' = M := by
  obtain ⟨e1, v1, M1, he, H1, H⟩ := toq_0 hS H
  obtain ⟨rfl, y, rfl, hy⟩ := fdq_ok hS hL (Nat.zero_le _) rfl H1
  rcases toq_6 hS H with ⟨q, _, rfl, rfl⟩ | ⟨q, rfl, rfl⟩
  · rcases hy with ⟨x, _⟩ | ⟨_, _, _, x⟩
    · rw [Int32.lt_iff_toInt_lt] at x
      rw [Int32.le_iff_toInt_le] at q
      omega
    · rw [x d]
      exact ⟨rfl, rfl⟩
  · rcases hy with ⟨_, _, x⟩ | ⟨x, _⟩
    · rw [x d]
      exact ⟨rfl, rfl⟩
    · rw [Int32.le_iff_toInt_le] at q
      exact absurd x q
theorem LQT.frm {t : Nat} {ls : List Lnq} {F : List (Nat × Nat)} {W : List Nat} (h : LQT M t ls) (hF : FB F W M M') (w : ∀ b ∈ [639, 640, 641, 642, 643, 644], b ∉ W) : LQT M' t ls := by
  refine ⟨by rw [hF.rn (w _ (by simp))]; exact h.1, h.2.1, fun j l hj => ?_⟩
  rw [hF.rn (w _ (by simp)), hF.rn (w _ (by simp)), hF.rn (w _ (by simp)), hF.rn (w _ (by simp)), hF.rn (w _ (by simp))]
  exact h.2.2 j l hj
theorem TXR.frm {t : Nat} {q : Sg × List Lnq} {F : List (Nat × Nat)} {W : List Nat} (h : TXR M t q) (hF : FB F W M M') (w : ∀ b ∈ [639, 640, 641, 642, 643, 644, 645, 646, 647], b ∉ W) : TXR M' t q := by
  refine ⟨h.1.frm hF (fun b hb => w b (by simp only [List.mem_cons, List.not_mem_nil, or_false] at hb ⊢; omega)), fun j c hj hc => ?_⟩
  rw [hF.rn (w _ (by simp)), hF.rn (w _ (by simp)), hF.rn (w _ (by simp))]
  exact h.2 j c hj hc
def fQt : List (Nat × Nat) := [(633, 0), (633, 2), (633, 3), (633, 4), (633, 28), (633, 29), (633, 30)] ++ fQl
theorem tkn {m : Mem} (hS : SQ m) : SQ (X_139 (wF m 633 0 0)) ∧ FB [(633, 0), (633, 2), (633, 3), (633, 4)] [] m (X_139 (wF m 633 0 0)) ∧ zI (X_139 (wF m 633 0 0)) 633 3 = zI m 633 2 ∧ zI (X_139 (wF m 633 0 0)) 633 4 = 0 ∧ zI (X_139 (wF m 633 0 0)) 633 2 = 0 ∧ zI (X_139 (wF m 633 0 0)) 633 0 = 0 := by
  have s1 := hS.kf (a := 633) (k := 0) (x := 0)
  refine ⟨X_139_sx s1, ?_, ?_, ?_, ?_, ?_⟩ <;> unfold X_139
  · exact (((FB.wF (by simp)).trans (FB.wF (by simp))).trans (FB.wF (by simp))).trans (FB.wF (by simp))
  · rw [fI_wF_ne (by decide), fI_wF_ne (by decide), fI_wF_eq s1.1 qa_633 qi_61_3, fI_wF_ne (by decide)]
  · rw [fI_wF_eq s1.kf.kf.1 qa_633 qi_61_4]
  · rw [fI_wF_ne (by decide), fI_wF_eq s1.kf.1 qa_633 qi_61_2]
  · rw [fI_wF_ne (by decide), fI_wF_ne (by decide), fI_wF_ne (by decide), fI_wF_eq hS.1 qa_633 qi_61_0]
theorem rlaw_ok (hn2 : n ≤ 440) (hk : 33 ≤ kk) (hS : SQ M) (hn : (zI M 633 2).toInt = (n : Int)) (H : Ev none e 183 0 [some (.ref 633), none] [] M v M' 0 0) : (∃ x, v = some (.int x) ∧ x.toInt = ansB (rdB (bR M) n true ((prS (bR M) kk).1 1))) ∧ SQ M' ∧ FA fQt wQl M M' ∧ zI M' 633 26 = fltB (rdB (bR M) n true ((prS (bR M) kk).1 1)) ∧ zI M' 633 2 = 0 ∧ zI M' 633 0 = 0 ∧ (match rdB (bR M) n true ((prS (bR M) kk).1 1) with
    | .inr _ => zI M' 633 28 = zI M 633 28 ∧ zI M' 633 29 = zI M 633 29 ∧ zI M' 633 30 = zI M 633 30 ∧ ∀ t', t' < 7 → ∀ q, TXR M t' q → TXR M' t' q
    | .inl q => TXR M' 0 q ∧ zI M' 633 28 = tvS q.2 2 40 ∧ zI M' 633 29 = tvS q.2 3 50 ∧ zI M' 633 30 = tvS q.2 4 10) ∧ ∀ t', t' < 7 → t' ≠ 0 → ∀ q, TXR M t' q → TXR M' t' q := by
  obtain ⟨e1, v1, M1, he, H1, H⟩ := lrq_0 hS H
  obtain ⟨s0, f0, z3, z4, z2, z0⟩ := tkn hS
  have b0 : bR (X_139 (wF M 633 0 0)) = bR M := f0.bR (by decide)
  have R := rtx_ok (t := 0) (law := true) rfl (by omega) rfl hn2 hk s0 (by rw [z3]; exact hn) z4 H1
  rw [b0] at R
  obtain ⟨⟨x, rfl, hx⟩, s1, f1, w1, R, lo⟩ := R
  have f0t : FA fQt wQl M (X_139 (wF M 633 0 0)) := f0.1.more (by decide) (fun _ hq => by cases hq)
  have f1t : FA fQt wQl (X_139 (wF M 633 0 0)) M1 := f1.more (by decide) (fun _ hq => hq)
  cases hr : rdB (bR M) n true ((prS (bR M) kk).1 1) with
  | inr f =>
    rw [hr] at hx w1 R
    have hx : x.toInt = -1 - (f.2 : Int) := hx
    rcases lrq_15 s1 H with ⟨q, _⟩ | ⟨_, rfl, rfl⟩
    · rw [Int32.le_iff_toInt_le] at q
      have z0 : (0 : Int32).toInt = 0 := rfl
      omega
    · exact ⟨⟨x, rfl, hx⟩, s1, f0t.trans f1t, w1, by rw [f1.fi (by decide)]; exact z2, by rw [f1.fi (by decide)]; exact z0, ⟨by rw [f1.fi (by decide), f0.fi (by decide)], by rw [f1.fi (by decide), f0.fi (by decide)], by rw [f1.fi (by decide), f0.fi (by decide)], fun t' h1 q h => h.low (t := t' + 1) h1 (by omega) (fun b i a1 _ => (R b i a1).trans (f0.2 b i a1))⟩, fun t' h1 h2 q h => h.low h1 h2 (fun b i a1 a2 => (lo b i a1 a2).trans (f0.2 b i a1))⟩
  | inl q =>
    rw [hr] at hx w1 R
    have hx : x.toInt = (q.2.length : Int) := hx
    rcases lrq_15 s1 H with ⟨_, e2, v2, M2, he2, H2, Ha⟩ | ⟨y, _⟩
    · obtain ⟨rfl, rfl⟩ := tod_ok s1 R.1 H2
      obtain ⟨e3, v3, M3, he3, H3, Hb⟩ := lrq_30 s1 Ha
      have g1 : FB [(633, 28)] [] M2 (wF M2 633 28 (tvS q.2 2 40)) := FB.wF (by simp)
      obtain ⟨rfl, rfl⟩ := tod_ok s1.kf (R.1.frm g1 (fun _ _ h => by cases h)) H3
      obtain ⟨e4, v4, M4, he4, H4, Hc⟩ := lrq_41 s1.kf Hb
      have g2 : FB [(633, 28), (633, 29)] [] M2 (wF (wF M2 633 28 (tvS q.2 2 40)) 633 29 (tvS q.2 3 50)) := (FB.wF (by simp)).trans (FB.wF (by simp))
      obtain ⟨rfl, rfl⟩ := tod_ok s1.kf.kf (R.1.frm g2 (fun _ _ h => by cases h)) H4
      obtain ⟨rfl, rfl⟩ := lrq_52 s1.kf.kf Hc
      have g3 : FB [(633, 28), (633, 29), (633, 30)] [] M2 (wF (wF (wF M2 633 28 (tvS q.2 2 40)) 633 29 (tvS q.2 3 50)) 633 30 (tvS q.2 4 10)) := ((FB.wF (by simp)).trans (FB.wF (by simp))).trans (FB.wF (by simp))
      refine ⟨⟨x, rfl, hx⟩, s1.kf.kf.kf, (f0t.trans f1t).trans (g3.1.more (by decide) (fun _ hq => by cases hq)), by rw [g3.fi (by decide)]; exact w1, by rw [g3.fi (by decide), f1.fi (by decide)]; exact z2, by rw [g3.fi (by decide), f1.fi (by decide)]; exact z0, ⟨R.frm g3 (fun _ _ h => by cases h), ?_, ?_, ?_⟩, fun t' h1 h2 q h => h.low h1 h2 (fun b i a1 a2 => (g3.2 b i a1).trans ((lo b i a1 a2).trans (f0.2 b i a1)))⟩
      · rw [fI_wF_ne (by decide), fI_wF_ne (by decide), fI_wF_eq s1.1 qa_633 qi_61_28]
      · rw [fI_wF_ne (by decide), fI_wF_eq s1.kf.1 qa_633 qi_61_29]
      · rw [fI_wF_eq s1.kf.kf.1 qa_633 qi_61_30]
    · rw [Int32.le_iff_toInt_le] at y
      have z0 : (0 : Int32).toInt = 0 := rfl
      omega
theorem rhab_out {x : Int32} (hS : SQ M) (hx : ¬ (0 ≤ x.toInt ∧ x.toInt ≤ 5)) (H : Ev none e 184 0 [some (.ref 633), some (.int x)] [] M v M' 0 0) : v = some (.int (-1000)) ∧ M' = X_139 (wF M 633 0 0) := by
  rcases hrq_0 hS H with ⟨_, h⟩ | ⟨q, _⟩
  · exact h
  · exfalso
    refine q (g140.mpr ?_)
    rw [Int32.lt_iff_toInt_lt, Int32.lt_iff_toInt_lt]
    have z0 : (0 : Int32).toInt = 0 := rfl
    have z5 : (5 : Int32).toInt = 5 := rfl
    omega
theorem rhab_ok {x : Int32} {t : Nat} (ht : x.toInt = (t : Int)) (ht5 : t ≤ 5) (hn2 : n ≤ 440) (hk : 33 ≤ kk) (hS : SQ M) (hn : (zI M 633 2).toInt = (n : Int)) (H : Ev none e 184 0 [some (.ref 633), some (.int x)] [] M v M' 0 0) : (∃ x, v = some (.int x) ∧ x.toInt = ansB (rdB (bR M) n false ((prS (bR M) kk).1 1))) ∧ SQ M' ∧ FA fQt wQl M M' ∧ zI M' 633 26 = fltB (rdB (bR M) n false ((prS (bR M) kk).1 1)) ∧ zI M' 633 2 = 0 ∧ zI M' 633 0 = 0 ∧ (match rdB (bR M) n false ((prS (bR M) kk).1 1) with
    | .inr _ => ∀ t', t' < 7 → ∀ q, TXR M t' q → TXR M' t' q
    | .inl q => TXR M' (t + 1) q) ∧ ∀ t', t' < 7 → t' ≠ t + 1 → ∀ q, TXR M t' q → TXR M' t' q := by
  have z0 : (0 : Int32).toInt = 0 := rfl
  have z5 : (5 : Int32).toInt = 5 := rfl
  have z1 : (1 : Int32).toInt = 1 := rfl
  rcases hrq_0 hS H with ⟨q, _⟩ | ⟨_, e1, v1, M1, he, H1, H⟩
  · have q := g140.mp q
    rw [Int32.lt_iff_toInt_lt, Int32.lt_iff_toInt_lt] at q
    omega
  · obtain ⟨s0, f0, z3, z4, z2, z0⟩ := tkn hS
    have b0 : bR (X_139 (wF M 633 0 0)) = bR M := f0.bR (by decide)
    have R := rtx_ok (t := t + 1) (law := false) rfl (by omega) (by rw [i32_add (by omega) (by omega), z1, ht]; omega) hn2 hk s0 (by rw [z3]; exact hn) z4 H1
    rw [b0] at R
    obtain ⟨⟨y, rfl, hy⟩, s1, f1, w1, R, lo⟩ := R
    obtain ⟨rfl, rfl⟩ := hrq_26 s1 H
    refine ⟨⟨y, rfl, hy⟩, s1, (f0.1.more (by decide) (fun _ hq => by cases hq)).trans (f1.more (by decide) (fun _ hq => hq)), w1, by rw [f1.fi (by decide)]; exact z2, by rw [f1.fi (by decide)]; exact z0, ?_, fun t' h1 h2 q h => h.low h1 h2 (fun b i a1 a2 => (lo b i a1 a2).trans (f0.2 b i a1))⟩
    cases hr : rdB (bR M) n false ((prS (bR M) kk).1 1) with
    | inr f =>
      rw [hr] at R
      exact fun t' h1 q h => h.low (t := t' + 1) h1 (by omega) (fun b i a1 _ => (R b i a1).trans (f0.2 b i a1))
    | inl q =>
      rw [hr] at R
      exact R
theorem rflt_ok (hS : SQ M) (H : Ev none e 185 0 [some (.ref 633)] [] M v M' 0 0) : v = some (.int (zI M 633 26)) ∧ M' = wF M 633 0 0 := by
  obtain ⟨h1, h2⟩ := g_185 hS H
  exact ⟨h1, h2⟩
end RTO
/-! Exceptions that leave a method, and their catching (the kit's rows) -/
section VXA
/-! The laws vx_back, vx_callV, vx_callS, vx_callSW, vx_throw0, vx_throwS follow proofs of the library, with one case more: JvmDerived/Free/Laws.lean (Back.of_free), Shelf42/LK1.lean (callV, callS), Shelf/KitTraced.lean (throwNew0V, throwNewS). -/
/-- where a method has thrown q: the class by its name, the cell, what was written, the world -/
def vx_T (XC : String → State → State → Prop) (st : State) (q : Addr) (t : State) (mc ms : Nat) (free : Addr → Prop) : Prop :=
  ∃ (E : String) (ce : Cell) (L : List Loc), XC E st t ∧ t.heap[q]? = some ce ∧ ce.vm = .none ∧ st.vm.findClass E = some ce.cls ∧ st.WarmedH t.vm ∧ st.sameButNew ({ t with vm := st.vm } : State) L mc ms ∧ ∀ z ∈ L, free z.base
def vx_Q (Qc : Array Value → State → Outcome → State → Prop) (XC : String → State → State → Prop) (mc ms : Nat) (free : Addr → Prop) : Array Value → State → Outcome → State → Prop := fun a st o t =>
  (Qc a st o t ∧ ∃ L, FrameEnd st o t L mc ms ∧ ∀ q ∈ L, free q.base) ∨ ∃ q, o = .threw q ∧ vx_T XC st q t mc ms free
/-- a callee that returns or throws -/
def vx_Met (l : Launch) (y : MethodName) (ws : List Cond) (rm : Room) (Pc : Array Value → State → Prop) (Qc : Array Value → State → Outcome → State → Prop) (XC : String → State → State → Prop) (mc ms : Nat) (free : Addr → Prop) : Prop :=
  MetFree l y (headSpec ws rm) Pc (fun _ _ _ _ _ => True) (vx_Q Qc XC mc ms free)
def vx_Post (XC : String → State → State → Prop) (mc ms : Nat) (free : Addr → Prop) : Pt → Array Value → Addr → Pt → Prop := fun A a q B =>
  ∃ (g : JFrame) (mk : MethodId) (t : State) (L : List Loc) (E : String) (ce : Cell), B.U.heap = t.heap ∧ B.U.vm = t.vm ∧ XC E (A.U.calling g mk a) t ∧ t.heap[q]? = some ce ∧ ce.vm = .none ∧ A.U.vm.findClass E = some ce.cls ∧ B.locs = A.locs ++ L ∧ (∀ z ∈ L, free z.base) ∧ B.cells = A.cells + mc ∧ B.slots = A.slots + ms
def vx_Back (l : Launch) (R : Room) (p : Program) (e : Env) (below : List Frame) (s : State) (sargs : Array Value) (y : MethodName) (len W9 : Nat)
    (Pre : Pt → Array Value → Prop) (Post : Pt → Array Value → Option Value → Pt → Prop) (PostX : Pt → Array Value → Addr → Pt → Prop) : Prop :=
  ∀ (m : MethodId) (meth : Method) (c : Code) (A : Pt) (g : JFrame) (ig : Instr) (mk : MethodId) (a : Array Value),
    Stand p l e R s m sargs below meth c A.U A.locs A.cells A.slots → g.method = m → g.locals.size = c.maxLocals → decode c.code g.pc = .ok (ig, len) →
    2 * g.monitorRoom + (g.stack.map fun v => v.category).sum ≤ W9 → A.U.methodNamed? y = some mk → Pre A a →
    (∃ (v : Option Value) (B : Pt), Stand p l e R s m sargs below meth c B.U B.locs B.cells B.slots ∧ Post A a v B ∧
      Steps p.tables e below (doInvoke e (A.U.setTop g) [] mk a).1 (B.U.setTop { g with pc := g.pc + len, stack := v.toList ++ g.stack })) ∨
    (∃ (q : Addr) (B : Pt), Stand p l e R s m sargs below meth c B.U B.locs B.cells B.slots ∧ PostX A a q B ∧
      Steps p.tables e below (doInvoke e (A.U.setTop g) [] mk a).1 ((B.U.setTop g).pushFrame (.throwing q)))
section Payer
variable {l : Launch} {R : Room} {p : Program} {e : Env} {below : List Frame} {s : State} {sargs : Array Value} {y : MethodName} {len W9 : Nat}
theorem vx_back {ws : List Cond} {rm : Room} {Pc : Array Value → State → Prop} {Qc : Array Value → State → Outcome → State → Prop} {XC : String → State → State → Prop} {mc ms : Nat} {free : Addr → Prop} {bytes : ByteArray} {maxL : Nat} {ret : Option FieldType}
    (hM : vx_Met l y ws rm Pc Qc XC mc ms free) (hblind : FrameBlind Pc) (hrc : rm.cells = mc) (hrs : rm.slots = ms)
    (hframes : rm.frames + 1 ≤ R.frames) (hlocals : W9 + (maxL + 11) + rm.locals ≤ R.locals)
    (hws : ∀ w ∈ ws, ∀ a' U, s.WarmedH U.vm → w.before a' U = true) (hcode : Cond.code y bytes maxL ret ∈ ws) (hinit : ∀ a' U, s.WarmedH U.vm → (Cond.initialized y.cls).before a' U = true) :
    vx_Back l R p e below s sargs y len W9 (PreOf R mc ms Pc) (PostOf Qc mc ms free) (vx_Post XC mc ms free) := by
  intro m meth c A g ig mk a X hg hsize hdg hW hn hp
  have h1 : (headSpec ws rm).pre.before a A.U = true := atoms_intro fun w hw => hws w hw _ _ X.warmed
  have h2 : (Cond.code y bytes maxL ret).before a A.U = true := hws _ hcode _ _ X.warmed
  have h3 : (Cond.initialized y.cls).before a A.U = true := hinit _ _ X.warmed
  have h4 : A.cells + (headSpec ws rm).room.cells ≤ R.cells := by rw [show (headSpec ws rm).room.cells = mc from hrc]; exact hp.1
  have h5 : A.slots + (headSpec ws rm).room.slots ≤ R.slots := by rw [show (headSpec ws rm).room.slots = ms from hrs]; exact hp.2.1
  have hPc : Pc a (A.U.calling g mk a) := hblind _ _ _ _ hp.2.2
  obtain ⟨U, Ls, c0, s0⟩ := A
  dsimp only [Pt.U, Pt.locs, Pt.cells, Pt.slots] at h1 h2 h3 h4 h5 X hn hPc ⊢
  obtain ⟨methY, cY, hmY, hcY, -, hlY, -, -, -, -⟩ := Cond.code_spec hn h2
  obtain ⟨kY, hkY, -⟩ := className_of_methodNamed hn
  have hinitY : kY.init = .initialized := Cond.initialized_spec (findClass_of_methodNamed hn) hkY h3
  have h : At U g.method c below := by rw [hg]; exact X.here
  have hlocals9 : W9 + (maxL + 11) + (headSpec ws rm).room.locals ≤ R.locals := hlocals
  have happ : (headSpec ws rm).appliesLoose y e.platform (U.calling g mk a) = true :=
    Spec.appliesLoose_calling (g := g) h hdg hn hkY hinitY
      (X.room_calling (g := g) (R' := (headSpec ws rm).room) hsize hmY hcY hframes (by rw [hlY]; omega) h4 h5) h1
  obtain ⟨mid, hmid⟩ := h.above
  have hfr : (U.setTop g).frames = (.java g :: mid) ++ below := by rw [State.frames_setTop' g h.top, hmid]; rfl
  obtain ⟨o, s₂, hsteps, -, hend, hq⟩ := Steps.callFree hM p X.admits X.cas X.clock (acts := []) hfr happ hPc trivial
  have hq' : vx_Q Qc XC mc ms free a (U.calling g mk a) o s₂ := hq
  rw [State.frames_setTop' g h.top] at hend
  obtain ⟨g₀, hg0⟩ := Option.isSome_iff_exists.mp h.top
  obtain ⟨r, hr⟩ := State.topJava?_eq_some.mp hg0
  have hr' : (({ U with heap := s₂.heap, slotsUsed := s₂.slotsUsed } : State).setVm s₂.vm).frames = .java g₀ :: r := hr
  rcases hq' with ⟨hqc, L, hfe, hL⟩ | ⟨q, rfl, E, ce, L, hx, hce, hcv, hcl, hW₂, hsm, hL⟩
  · obtain ⟨⟨v, rfl⟩, hW₂, e2, q2, q3, q4, q5, q6⟩ := id hfe
    have e3 : s₂ = ({ (U.calling g mk a).setFrames s₂.frames with heap := s₂.heap, slotsUsed := s₂.slotsUsed } : State).setVm s₂.vm := by
      have : s₂ = ({ s₂ with vm := (U.calling g mk a).vm } : State).setVm s₂.vm := rfl
      rw [e2] at this
      exact this
    obtain ⟨c₂, i₂, len₂, hc₂, hd₂, hf₂⟩ := hend
    have hW' : U.WarmedH s₂.vm := hW₂
    have hcc : c₂ = c := by
      have h1 : s₂.code? g.method = U.code? g.method := by
        rw [State.code?_eq, State.code?_eq, hW'.alike.method?]
      exact Option.some.inj (hc₂.symm.trans (h1.trans h.code))
    subst hcc
    have hlen : len₂ = len := by rw [hdg] at hd₂; cases hd₂; rfl
    subst hlen
    have hs₂ : s₂ = (({ U with heap := s₂.heap, slotsUsed := s₂.slotsUsed } : State).setVm s₂.vm).setTop { g with pc := g.pc + len₂, stack := v.toList ++ g.stack } := by
      refine e3.trans ?_
      rw [hf₂, State.calling_eq h.top, State.setFrames_setFrames, State.setTop_of_frames _ hr', hr]
      rfl
    have hsame : U.sameButNew ({ U with heap := s₂.heap, slotsUsed := s₂.slotsUsed } : State) L mc ms := by
      refine ⟨?_, q2, q3, q4, q5, q6⟩
      obtain ⟨t, ht, -⟩ := State.frames_cons hr
      show ({ U with heap := s₂.heap, slotsUsed := s₂.slotsUsed } : State) = { U.setFrames U.frames with heap := s₂.heap, slotsUsed := s₂.slotsUsed }
      rw [State.setFrames_self ht]
    subst hg
    refine Or.inl ⟨v, ⟨(({ U with heap := s₂.heap, slotsUsed := s₂.slotsUsed } : State).setVm s₂.vm), Ls ++ L, c0 + mc, s0 + ms⟩,
      ⟨X.admits, X.cas, X.clock, X.frames, X.room, X.hears, X.method, X.code, (X.here.setHeapUsed s₂.heap s₂.slotsUsed).setVm hW'.alike, X.tail, State.WarmedH.trans X.warmed hW', X.limits, X.bytes, X.same.trans (hsame.setVm s.vm)⟩,
      ⟨g, mk, s₂, L, rfl, rfl, hqc, rfl, hL, rfl, rfl⟩, ?_⟩
    show Steps p.tables e below _ ((({ U with heap := s₂.heap, slotsUsed := s₂.slotsUsed } : State).setVm s₂.vm).setTop { g with pc := g.pc + len₂, stack := v.toList ++ g.stack })
    rw [← hs₂]
    exact hsteps
  · obtain ⟨e2, q2, q3, q4, q5, q6⟩ := id hsm
    have e3 : s₂ = ({ (U.calling g mk a).setFrames s₂.frames with heap := s₂.heap, slotsUsed := s₂.slotsUsed } : State).setVm s₂.vm := by
      have : s₂ = ({ s₂ with vm := (U.calling g mk a).vm } : State).setVm s₂.vm := rfl
      rw [e2] at this
      exact this
    have hf₂ : s₂.frames = .throwing q :: .java g :: U.frames.tail := hend
    have hW' : U.WarmedH s₂.vm := hW₂
    have hs₂ : s₂ = ((({ U with heap := s₂.heap, slotsUsed := s₂.slotsUsed } : State).setVm s₂.vm).setTop g).pushFrame (.throwing q) := by
      refine e3.trans ?_
      rw [hf₂, State.calling_eq h.top, State.setFrames_setFrames, State.pushFrame, State.frames_setTop _ hr', State.setTop_of_frames _ hr', State.setFrames_setFrames, hr]
      rfl
    have hsame : U.sameButNew ({ U with heap := s₂.heap, slotsUsed := s₂.slotsUsed } : State) L mc ms := by
      refine ⟨?_, q2, q3, q4, q5, q6⟩
      obtain ⟨t, ht, -⟩ := State.frames_cons hr
      show ({ U with heap := s₂.heap, slotsUsed := s₂.slotsUsed } : State) = { U.setFrames U.frames with heap := s₂.heap, slotsUsed := s₂.slotsUsed }
      rw [State.setFrames_self ht]
    subst hg
    refine Or.inr ⟨q, ⟨(({ U with heap := s₂.heap, slotsUsed := s₂.slotsUsed } : State).setVm s₂.vm), Ls ++ L, c0 + mc, s0 + ms⟩,
      ⟨X.admits, X.cas, X.clock, X.frames, X.room, X.hears, X.method, X.code, (X.here.setHeapUsed s₂.heap s₂.slotsUsed).setVm hW'.alike, X.tail, State.WarmedH.trans X.warmed hW', X.limits, X.bytes, X.same.trans (hsame.setVm s.vm)⟩,
      ⟨g, mk, s₂, L, E, ce, rfl, rfl, hx, hce, hcv, hcl, rfl, hL, rfl, rfl⟩, ?_⟩
    show Steps p.tables e below _ (((({ U with heap := s₂.heap, slotsUsed := s₂.slotsUsed } : State).setVm s₂.vm).setTop g).pushFrame (.throwing q))
    rw [← hs₂]
    exact hsteps
end Payer
section Calls
variable {p : Program} {l : Launch} {e : Env} {R : Room} {s : State} {m : MethodId} {args : Array Value} {below : List Frame} {meth : Method} {c : Code} {T : State} {locs : List Loc} {cells slots : Nat}
theorem vx_callV (X : Stand p l e R s m args below meth c T locs cells slots) (hexec : p.tables.exec = Jvm.exec) {own C : String} {index : Nat} {y : MethodName} {bytes : ByteArray} {maxL : Nat} {ret : Option FieldType}
    (hown : s.vm.findClass own = some m.cls) (hlink : (Cond.methodLink own index y).before args s = true) (hinst : (Cond.instanceMethod y).before args s = true) (hsel : (Cond.selects C y y).before args s = true)
    (hcode : (Cond.code y bytes maxL ret).before args s = true) (hy : y.cls ≠ "java/lang/invoke/MethodHandle" ∧ y.cls ≠ "java/lang/invoke/VarHandle")
    {W9 : Nat} {Pre : Pt → Array Value → Prop} {Post : Pt → Array Value → Option Value → Pt → Prop} {PostX : Pt → Array Value → Addr → Pt → Prop} (hK : vx_Back l R p e below s args y 3 W9 Pre Post PostX)
    {b : Addr} {cellB : Cell} (hcell : T.heap[b]? = some cellB) (hobj : cellB.vm.isStatics = false) (hcls : s.vm.findClass C = some cellB.cls)
    {g : JFrame} (hg : g.method = m) (hsize : g.locals.size = c.maxLocals) {argsL rest : List Value} (hlen : ∀ sig, parseMethodDescriptor y.desc = some sig → argsL.length = sig.parameters.length)
    (hstack : g.stack = argsL.reverse ++ .ref b :: rest) (hW : 2 * g.monitorRoom + (rest.map fun v => v.category).sum ≤ W9) (hdg : decode c.code g.pc = .ok (.invokevirtual index, 3))
    (hpre : ∀ vm₁, s.WarmedH vm₁ → Pre ⟨T.setVm vm₁, locs, cells, slots⟩ (Value.ref b :: argsL).toArray) :
    (∃ (v : Option Value) (vm₁ : Vm) (B : Pt), s.WarmedH vm₁ ∧ Stand p l e R s m args below meth c B.U B.locs B.cells B.slots ∧ Post ⟨T.setVm vm₁, locs, cells, slots⟩ (Value.ref b :: argsL).toArray v B ∧
      ∀ target, Steps p.tables e below (B.U.setTop { g with pc := g.pc + 3, stack := v.toList ++ rest }) target → Steps p.tables e below (T.setTop g) target) ∨
    (∃ (q : Addr) (vm₁ : Vm) (B : Pt), s.WarmedH vm₁ ∧ Stand p l e R s m args below meth c B.U B.locs B.cells B.slots ∧ PostX ⟨T.setVm vm₁, locs, cells, slots⟩ (Value.ref b :: argsL).toArray q B ∧
      Steps p.tables e below (T.setTop g) ((B.U.setTop { g with stack := rest }).pushFrame (.throwing q))) := by
  obtain ⟨mk, methM, hnamed, hmethM, hstM, habM⟩ := Cond.instanceMethod_spec hinst
  obtain ⟨methM', cM, hmethM', -, -, -, -, -, -, hsigM⟩ := Cond.code_spec hnamed hcode
  cases hmethM.symm.trans hmethM'
  obtain ⟨c2, r2, m2, q1, q2, q3, q4, kP, hkP, hkPi⟩ := Cond.selects_spec hsel
  cases hcls.symm.trans q1
  cases (State.methodFound?_of_named hnamed hy).symm.trans q2
  cases hnamed.symm.trans q3
  have hselP : selectMethod e.platform s.vm cellB.cls mk = .method mk := by rw [Launch.admits_selectMethod X.admits]; exact q4
  obtain ⟨vm₁, X₁, hstep₁⟩ := X.invokevirtual hexec hown hlink hnamed hmethM hstM hkP hkPi hy (a := b) (cell := cellB) hcell
    (fun z h => by rw [h] at hobj; cases hobj) hselP hmethM habM hkP hkPi (g := g) hg (argsL := argsL) (rest := rest) (hlen _ hsigM) hstack hdg
  rcases hK m meth c ⟨T.setVm vm₁, locs, cells, slots⟩ { g with stack := rest } (.invokevirtual index) mk (Value.ref b :: argsL).toArray X₁ hg hsize hdg hW (X₁.named hnamed) (hpre vm₁ X₁.warmed) with ⟨v, B, X', hpost, hsteps⟩ | ⟨q, B, X', hpost, hsteps⟩
  · exact Or.inl ⟨v, vm₁, B, X₁.warmed, X', hpost, fun target h => hstep₁ _ fun acts => by rw [doInvoke_state]; exact hsteps.trans h⟩
  · exact Or.inr ⟨q, vm₁, B, X₁.warmed, X', hpost, hstep₁ _ fun acts => by rw [doInvoke_state]; exact hsteps⟩
theorem vx_callS (X : Stand p l e R s m args below meth c T locs cells slots) (hexec : p.tables.exec = Jvm.exec) {own : String} {index : Nat} {y : MethodName} {bytes : ByteArray} {maxL : Nat} {ret : Option FieldType}
    (hown : s.vm.findClass own = some m.cls) (hlink : (Cond.methodLink own index y).before args s = true) (hstat : (Cond.static y).before args s = true) (hinit : (Cond.initialized y.cls).before args s = true)
    (hcode : (Cond.code y bytes maxL ret).before args s = true) (hy : y.cls ≠ "java/lang/invoke/MethodHandle" ∧ y.cls ≠ "java/lang/invoke/VarHandle")
    {W9 : Nat} {Pre : Pt → Array Value → Prop} {Post : Pt → Array Value → Option Value → Pt → Prop} {PostX : Pt → Array Value → Addr → Pt → Prop} (hK : vx_Back l R p e below s args y 3 W9 Pre Post PostX)
    {g : JFrame} (hg : g.method = m) (hsize : g.locals.size = c.maxLocals) {argsL rest : List Value} (hlen : ∀ sig, parseMethodDescriptor y.desc = some sig → argsL.length = sig.parameters.length)
    (hstack : g.stack = argsL.reverse ++ rest) (hW : 2 * g.monitorRoom + (rest.map fun v => v.category).sum ≤ W9) (hdg : decode c.code g.pc = .ok (.invokestatic index, 3))
    (hpre : ∀ vm₁, s.WarmedH vm₁ → Pre ⟨T.setVm vm₁, locs, cells, slots⟩ argsL.toArray) :
    (∃ (v : Option Value) (vm₁ : Vm) (B : Pt), s.WarmedH vm₁ ∧ Stand p l e R s m args below meth c B.U B.locs B.cells B.slots ∧ Post ⟨T.setVm vm₁, locs, cells, slots⟩ argsL.toArray v B ∧
      ∀ target, Steps p.tables e below (B.U.setTop { g with pc := g.pc + 3, stack := v.toList ++ rest }) target → Steps p.tables e below (T.setTop g) target) ∨
    (∃ (q : Addr) (vm₁ : Vm) (B : Pt), s.WarmedH vm₁ ∧ Stand p l e R s m args below meth c B.U B.locs B.cells B.slots ∧ PostX ⟨T.setVm vm₁, locs, cells, slots⟩ argsL.toArray q B ∧
      Steps p.tables e below (T.setTop g) ((B.U.setTop { g with stack := rest }).pushFrame (.throwing q))) := by
  obtain ⟨mk, hnamed⟩ := Cond.code_named hcode
  obtain ⟨methM, cM, hmethM, -, -, -, -, -, -, hsigM⟩ := Cond.code_spec hnamed hcode
  have hstatic : methM.isStatic = true := Cond.static_spec hnamed hmethM hstat
  obtain ⟨kP, hkP, -⟩ := className_of_methodNamed hnamed
  have hinitP : kP.init = .initialized := Cond.initialized_spec (findClass_of_methodNamed hnamed) hkP hinit
  obtain ⟨vm₁, X₁, hstep₁⟩ := X.invokestatic hexec hown hlink hnamed hmethM hstatic hkP hinitP hy (g := g) hg (argsL := argsL) (rest := rest) (hlen _ hsigM) hstack hdg
  rcases hK m meth c ⟨T.setVm vm₁, locs, cells, slots⟩ { g with stack := rest } (.invokestatic index) mk argsL.toArray X₁ hg hsize hdg hW (X₁.named hnamed) (hpre vm₁ X₁.warmed) with ⟨v, B, X', hpost, hsteps⟩ | ⟨q, B, X', hpost, hsteps⟩
  · exact Or.inl ⟨v, vm₁, B, X₁.warmed, X', hpost, fun target h => hstep₁ _ fun acts => by rw [doInvoke_state]; exact hsteps.trans h⟩
  · exact Or.inr ⟨q, vm₁, B, X₁.warmed, X', hpost, hstep₁ _ fun acts => by rw [doInvoke_state]; exact hsteps⟩
end Calls
theorem vx_cls {s : State} {T : State} {vm₁ : Vm} {E : String} {k : ClassId} (hW : s.WarmedH vm₁) (h : (T.setVm vm₁).vm.findClass E = some k) : s.vm.findClass E = some k := by
  have h1 : vm₁.findClass E = some k := h
  rw [hW.alike.findClass] at h1
  exact h1
/-- the method's frame g, with q thrown over it -/
def vx_W (p : Program) (l : Launch) (e : Env) (R : Room) (s : State) (m : MethodId) (args : Array Value) (below : List Frame) (meth : Method) (c : Code) (H : Heap) (locs : List Loc) (cells slots : Nat) (Q : State → Prop) (g : JFrame) (q : Addr) : Prop :=
  ∀ T : State, T.heap = H → Stand p l e R s m args below meth c T locs cells slots → ∃ t, Steps p.tables e below ((T.setTop g).pushFrame (.throwing q)) t ∧ Q t
def vx_Run (p : Program) (l : Launch) (e : Env) (R : Room) (s : State) (m : MethodId) (args : Array Value) (below : List Frame) (meth : Method) (c : Code) (H : Heap) (locs : List Loc) (cells slots mc ms : Nat) (g : JFrame) (rest : List Value) (Qa : State → Outcome → State → Prop) (XC : String → State → State → Prop) (free : Addr → Prop) : Prop :=
  ∀ T : State, T.heap = H → Stand p l e R s m args below meth c T locs cells slots →
    (∃ (v : Option Value) (st₀ t T' : State) (L : List Loc), st₀.heap = H ∧ Stand p l e R s m args below meth c T' (locs ++ L) (cells + mc) (slots + ms) ∧ (∀ q ∈ L, free q.base) ∧ T'.heap = t.heap ∧ T'.vm = t.vm ∧ Qa st₀ (.returned v) t ∧
      Goes p e below T g T' { g with pc := g.pc + 3, stack := v.toList ++ rest }) ∨
    (∃ (q : Addr) (st₀ t T' : State) (L : List Loc) (E : String) (ce : Cell), st₀.heap = H ∧ Stand p l e R s m args below meth c T' (locs ++ L) (cells + mc) (slots + ms) ∧ (∀ z ∈ L, free z.base) ∧ T'.heap = t.heap ∧ T'.vm = t.vm ∧ XC E st₀ t ∧ t.heap[q]? = some ce ∧ ce.vm = .none ∧ s.vm.findClass E = some ce.cls ∧
      Steps p.tables e below (T.setTop g) ((T'.setTop { g with stack := rest }).pushFrame (.throwing q)))
def vx_X {S : Type} (px : S → Prop) (B : String → S → State → Prop) (A : Nat → Prop) : String → State → State → Prop := fun E st t => ∃ u : S, px u ∧ B E u t ∧ va_F A st t
section Runs
variable {p : Program} {l : Launch} {e : Env} {R : Room} {s : State} {m : MethodId} {args : Array Value} {below : List Frame} {meth : Method} {c : Code} {H : Heap} {locs : List Loc} {cells slots : Nat}
variable {y : MethodName} {bytes cc : ByteArray} {maxL nL mc ms n index : Nat} {ret : Option FieldType} {ws : List Cond} {rm : Room} {Pc : Array Value → State → Prop} {Qc : Array Value → State → Outcome → State → Prop} {XC : String → State → State → Prop} {free : Addr → Prop} {Ts : List Cond} {own C : String} {b : Addr} {As rest : List Value} {g : JFrame}
theorem vx_callBack (cb : CallB R s args own index y bytes maxL ret ws rm mc ms n) (hM : vx_Met l y ws rm Pc Qc XC mc ms free) (hbl : FrameBlind Pc) : vx_Back l R p e below s args y 3 8 (PreOf R mc ms Pc) (PostOf Qc mc ms free) (vx_Post XC mc ms free) := by
  obtain ⟨hrc, hrs, hfr, hlo, hws, hcw, -, hini, -⟩ := cb
  exact vx_back (bytes := bytes) (maxL := maxL) (ret := ret) hM hbl hrc hrs hfr hlo hws hcw (fun a' U hW => word_at hW (Or.inl (by first | rfl | simp [Cond.onTables, Cond.keeps, Cond.steady])) hini)
theorem vx_runV (S : CallFix p m c cc nL s args Ts own) (hM : vx_Met l y ws rm Pc Qc XC mc ms free) (cw : CallW R s args own C index y bytes maxL ret ws rm mc ms n) (hp : PreV s H C b Pc As)
    (hg : g.method = m) (hn : As.length = n) (hsize : g.locals.size = nL) (hstack : g.stack = As.reverse ++ .ref b :: rest) (hW : 2 * g.monitorRoom + (rest.map fun v => v.category).sum ≤ 8) (hdg : decode cc g.pc = .ok (.invokevirtual index, 3)) (hf : cells + mc ≤ R.cells ∧ slots + ms ≤ R.slots) :
    vx_Run p l e R s m args below meth c H locs cells slots mc ms g rest (Qc (Value.ref b :: As).toArray) XC free := by
  have hK : vx_Back l R p e below s args y 3 8 (PreOf R mc ms Pc) (PostOf Qc mc ms free) (vx_Post XC mc ms free) := vx_callBack cw.1 hM hp.1
  obtain ⟨⟨-, -, -, -, -, -, hcode, -, hy, hlen, hl⟩, hin, hse⟩ := cw
  obtain ⟨hx, hb, hml, ho, -⟩ := S
  obtain ⟨-, ⟨cellB, hcB, hoB, hclB⟩, hPc⟩ := hp
  intro T hT X
  rcases vx_callV X hx (C := C) (bytes := bytes) (maxL := maxL) (ret := ret) ho hl hin hse hcode hy hK (by rw [hT]; exact hcB) hoB hclB hg (hsize.trans hml.symm) (argsL := As) (rest := rest) (fun sig h => hn.trans (hlen sig h)) hstack hW (by rw [hb]; exact hdg)
    (fun vm₁ hW₁ => ⟨hf.1, hf.2, hPc (T.setVm vm₁) hT hW₁⟩) with ⟨v, vm₁, ⟨U', l2, c2, s2⟩, hW₁, X', ⟨g', mk, t, L, e1, e2, hq, h1, hL, h2, h3⟩, st⟩ | ⟨q, vm₁, ⟨U', l2, c2, s2⟩, hW₁, X', ⟨g', mk, t, L, E, ce, e1, e2, hq, hce, hcv, hcl, h1, hL, h2, h3⟩, st⟩
  · dsimp only [Pt.U, Pt.locs, Pt.cells, Pt.slots] at X' e1 e2 h1 h2 h3 st
    subst h1; subst h2; subst h3
    exact Or.inl ⟨v, (T.setVm vm₁).calling g' mk (Value.ref b :: As).toArray, t, U', L, hT, X', hL, e1, e2, hq, st⟩
  · dsimp only [Pt.U, Pt.locs, Pt.cells, Pt.slots] at X' e1 e2 h1 h2 h3 st hcl
    subst h1; subst h2; subst h3
    exact Or.inr ⟨q, (T.setVm vm₁).calling g' mk (Value.ref b :: As).toArray, t, U', L, E, ce, hT, X', hL, e1, e2, hq, hce, hcv, vx_cls hW₁ hcl, st⟩
theorem vx_runS (S : CallFix p m c cc nL s args Ts own) (hM : vx_Met l y ws rm Pc Qc XC mc ms free) (cw : CallB R s args own index y bytes maxL ret ws rm mc ms n ∧ (Cond.static y).before args s = true) (hp : PreS s H Pc As)
    (hg : g.method = m) (hn : As.length = n) (hsize : g.locals.size = nL) (hstack : g.stack = As.reverse ++ rest) (hW : 2 * g.monitorRoom + (rest.map fun v => v.category).sum ≤ 8) (hdg : decode cc g.pc = .ok (.invokestatic index, 3)) (hf : cells + mc ≤ R.cells ∧ slots + ms ≤ R.slots) :
    vx_Run p l e R s m args below meth c H locs cells slots mc ms g rest (Qc As.toArray) XC free := by
  have hK : vx_Back l R p e below s args y 3 8 (PreOf R mc ms Pc) (PostOf Qc mc ms free) (vx_Post XC mc ms free) := vx_callBack cw.1 hM hp.1
  obtain ⟨⟨-, -, -, -, -, -, hcode, hini, hy, hlen, hl⟩, hstt⟩ := cw
  obtain ⟨hx, hb, hml, ho, -⟩ := S
  intro T hT X
  rcases vx_callS X hx (bytes := bytes) (maxL := maxL) (ret := ret) ho hl hstt hini hcode hy hK hg (hsize.trans hml.symm) (argsL := As) (rest := rest) (fun sig h => hn.trans (hlen sig h)) hstack hW (by rw [hb]; exact hdg)
    (fun vm₁ hW₁ => ⟨hf.1, hf.2, hp.2 (T.setVm vm₁) hT hW₁⟩) with ⟨v, vm₁, ⟨U', l2, c2, s2⟩, hW₁, X', ⟨g', mk, t, L, e1, e2, hq, h1, hL, h2, h3⟩, st⟩ | ⟨q, vm₁, ⟨U', l2, c2, s2⟩, hW₁, X', ⟨g', mk, t, L, E, ce, e1, e2, hq, hce, hcv, hcl, h1, hL, h2, h3⟩, st⟩
  · dsimp only [Pt.U, Pt.locs, Pt.cells, Pt.slots] at X' e1 e2 h1 h2 h3 st
    subst h1; subst h2; subst h3
    exact Or.inl ⟨v, (T.setVm vm₁).calling g' mk As.toArray, t, U', L, hT, X', hL, e1, e2, hq, st⟩
  · dsimp only [Pt.U, Pt.locs, Pt.cells, Pt.slots] at X' e1 e2 h1 h2 h3 st hcl
    subst h1; subst h2; subst h3
    exact Or.inr ⟨q, (T.setVm vm₁).calling g' mk As.toArray, t, U', L, E, ce, hT, X', hL, e1, e2, hq, hce, hcv, vx_cls hW₁ hcl, st⟩
end Runs
section Rows
variable {p : Program} {l : Launch} {e : Env} {R : Room} {s : State} {m : MethodId} {args : Array Value} {below : List Frame} {meth : Method} {c : Code} {H : Heap} {locs : List Loc} {cells slots : Nat} {Q : State → Prop}
variable {mc ms : Nat} {free : Addr → Prop} {A0 A1 : Nat → Prop} {H0 : Heap} {a : Array Value} {pc : Nat} {ls : Array Slot} {st0 rest : List Value}
theorem vx_keep {st₀ t T' : State} {L : List Loc} (h0 : st₀.heap = H) (e1 : T'.heap = t.heap) (hS : va_S A0 H0 H locs) (hA : ∀ q, q < H.size → A1 q → A0 q) (hf : ∀ q, free q → A0 q) (hL : ∀ q ∈ L, free q.base) (hF : va_F A1 st₀ t) :
    H.size ≤ T'.heap.size ∧ (∀ q : Nat, q < H.size → ¬ A1 q → T'.heap[q]? = H[q]?) ∧ va_S A0 H0 T'.heap (locs ++ L) := by
  obtain ⟨hz, hk⟩ := hF
  rw [h0] at hz hk
  exact ⟨by rw [e1]; exact hz, fun q h1 h2 => by rw [e1]; exact hk q h1 h2,
    ⟨Nat.le_trans hS.1 (by rw [e1]; exact hz), fun q h1 h2 => by rw [e1, hk q (Nat.lt_of_lt_of_le h1 hS.1) (fun z => h2 (hA q (Nat.lt_of_lt_of_le h1 hS.1) z))]; exact hS.2.1 q h1 h2, fun q hq => by
      rcases List.mem_append.mp hq with h | h
      · exact hS.2.2 q h
      · exact hf _ (hL q h)⟩⟩
theorem vx_calli {S SX : Type} {post : Int32 → S → Prop} {px : SX → Prop} {B : S → State → Prop} {BX : String → SX → State → Prop} {AX : Nat → Prop} (hr : vx_Run p l e R s m args below meth c H locs cells slots mc ms (F0 m pc ls st0) rest (va_Qi post B A1 a) (vx_X px BX AX) free) (hS : va_S A0 H0 H locs) (hA : ∀ q, q < H.size → A1 q → A0 q) (hf : ∀ q, free q → A0 q) (hAX : ∀ q, q < H.size → AX q → A0 q)
    (kx : ∀ (E : String) (ce : Cell) (q9 : Addr) (u : SX) (t : State) (H1 : Heap) (locs1 : List Loc), t.heap = H1 → s.vm.Alike t.vm → px u → BX E u t → H.size ≤ H1.size → (∀ q : Nat, q < H.size → ¬ AX q → H1[q]? = H[q]?) → va_S A0 H0 H1 locs1 → H1[q9]? = some ce → ce.vm = .none → s.vm.findClass E = some ce.cls → vx_W p l e R s m args below meth c H1 locs1 (cells + mc) (slots + ms) Q (F0 m pc ls rest) q9)
    (kk : ∀ (r : Int32) (u : S) (t : State) (H1 : Heap) (locs1 : List Loc), t.heap = H1 → s.vm.Alike t.vm → post r u → B u t → H.size ≤ H1.size → (∀ q : Nat, q < H.size → ¬ A1 q → H1[q]? = H[q]?) → va_S A0 H0 H1 locs1 → W p l e R s m args below meth c H1 locs1 (cells + mc) (slots + ms) Q (F0 m (pc + 3) ls (.int r :: rest))) : W p l e R s m args below meth c H locs cells slots Q (F0 m pc ls st0) := by
  intro T hT X
  rcases hr T hT X with ⟨v, st₀, t, T', L, h0, X', hL, e1, e2, ⟨⟨r, u, hv, hp, hb⟩, hF⟩, st⟩ | ⟨q, st₀, t, T', L, E, ce, h0, X', hL, e1, e2, ⟨u, hp, hb, hF⟩, hce, hcv, hcl, st⟩
  · cases hv
    obtain ⟨k1, k2, k3⟩ := vx_keep h0 e1 hS hA hf hL hF
    obtain ⟨t2, a1, b1⟩ := kk r u t T'.heap (locs ++ L) e1.symm (by rw [← e2]; exact X'.warmed.alike) hp hb k1 k2 k3 T' rfl X'
    exact ⟨t2, st t2 a1, b1⟩
  · obtain ⟨k1, k2, k3⟩ := vx_keep h0 e1 hS hAX hf hL hF
    obtain ⟨t2, a1, b1⟩ := kx E ce q u t T'.heap (locs ++ L) e1.symm (by rw [← e2]; exact X'.warmed.alike) hp hb k1 k2 k3 (by rw [e1]; exact hce) hcv hcl T' rfl X'
    exact ⟨t2, st.trans a1, b1⟩
theorem vx_calll {S SX : Type} {post : Int64 → S → Prop} {px : SX → Prop} {B : S → State → Prop} {BX : String → SX → State → Prop} {AX : Nat → Prop} (hr : vx_Run p l e R s m args below meth c H locs cells slots mc ms (F0 m pc ls st0) rest (va_Ql post B A1 a) (vx_X px BX AX) free) (hS : va_S A0 H0 H locs) (hA : ∀ q, q < H.size → A1 q → A0 q) (hf : ∀ q, free q → A0 q) (hAX : ∀ q, q < H.size → AX q → A0 q)
    (kx : ∀ (E : String) (ce : Cell) (q9 : Addr) (u : SX) (t : State) (H1 : Heap) (locs1 : List Loc), t.heap = H1 → s.vm.Alike t.vm → px u → BX E u t → H.size ≤ H1.size → (∀ q : Nat, q < H.size → ¬ AX q → H1[q]? = H[q]?) → va_S A0 H0 H1 locs1 → H1[q9]? = some ce → ce.vm = .none → s.vm.findClass E = some ce.cls → vx_W p l e R s m args below meth c H1 locs1 (cells + mc) (slots + ms) Q (F0 m pc ls rest) q9)
    (kk : ∀ (r : Int64) (u : S) (t : State) (H1 : Heap) (locs1 : List Loc), t.heap = H1 → s.vm.Alike t.vm → post r u → B u t → H.size ≤ H1.size → (∀ q : Nat, q < H.size → ¬ A1 q → H1[q]? = H[q]?) → va_S A0 H0 H1 locs1 → W p l e R s m args below meth c H1 locs1 (cells + mc) (slots + ms) Q (F0 m (pc + 3) ls (.long r :: rest))) : W p l e R s m args below meth c H locs cells slots Q (F0 m pc ls st0) := by
  intro T hT X
  rcases hr T hT X with ⟨v, st₀, t, T', L, h0, X', hL, e1, e2, ⟨⟨r, u, hv, hp, hb⟩, hF⟩, st⟩ | ⟨q, st₀, t, T', L, E, ce, h0, X', hL, e1, e2, ⟨u, hp, hb, hF⟩, hce, hcv, hcl, st⟩
  · cases hv
    obtain ⟨k1, k2, k3⟩ := vx_keep h0 e1 hS hA hf hL hF
    obtain ⟨t2, a1, b1⟩ := kk r u t T'.heap (locs ++ L) e1.symm (by rw [← e2]; exact X'.warmed.alike) hp hb k1 k2 k3 T' rfl X'
    exact ⟨t2, st t2 a1, b1⟩
  · obtain ⟨k1, k2, k3⟩ := vx_keep h0 e1 hS hAX hf hL hF
    obtain ⟨t2, a1, b1⟩ := kx E ce q u t T'.heap (locs ++ L) e1.symm (by rw [← e2]; exact X'.warmed.alike) hp hb k1 k2 k3 (by rw [e1]; exact hce) hcv hcl T' rfl X'
    exact ⟨t2, st.trans a1, b1⟩
theorem vx_callf {S SX : Type} {post : UInt32 → S → Prop} {px : SX → Prop} {B : S → State → Prop} {BX : String → SX → State → Prop} {AX : Nat → Prop} (hr : vx_Run p l e R s m args below meth c H locs cells slots mc ms (F0 m pc ls st0) rest (va_Qf post B A1 a) (vx_X px BX AX) free) (hS : va_S A0 H0 H locs) (hA : ∀ q, q < H.size → A1 q → A0 q) (hf : ∀ q, free q → A0 q) (hAX : ∀ q, q < H.size → AX q → A0 q)
    (kx : ∀ (E : String) (ce : Cell) (q9 : Addr) (u : SX) (t : State) (H1 : Heap) (locs1 : List Loc), t.heap = H1 → s.vm.Alike t.vm → px u → BX E u t → H.size ≤ H1.size → (∀ q : Nat, q < H.size → ¬ AX q → H1[q]? = H[q]?) → va_S A0 H0 H1 locs1 → H1[q9]? = some ce → ce.vm = .none → s.vm.findClass E = some ce.cls → vx_W p l e R s m args below meth c H1 locs1 (cells + mc) (slots + ms) Q (F0 m pc ls rest) q9)
    (kk : ∀ (r : UInt32) (u : S) (t : State) (H1 : Heap) (locs1 : List Loc), t.heap = H1 → s.vm.Alike t.vm → post r u → B u t → H.size ≤ H1.size → (∀ q : Nat, q < H.size → ¬ A1 q → H1[q]? = H[q]?) → va_S A0 H0 H1 locs1 → W p l e R s m args below meth c H1 locs1 (cells + mc) (slots + ms) Q (F0 m (pc + 3) ls (.float r :: rest))) : W p l e R s m args below meth c H locs cells slots Q (F0 m pc ls st0) := by
  intro T hT X
  rcases hr T hT X with ⟨v, st₀, t, T', L, h0, X', hL, e1, e2, ⟨⟨r, u, hv, hp, hb⟩, hF⟩, st⟩ | ⟨q, st₀, t, T', L, E, ce, h0, X', hL, e1, e2, ⟨u, hp, hb, hF⟩, hce, hcv, hcl, st⟩
  · cases hv
    obtain ⟨k1, k2, k3⟩ := vx_keep h0 e1 hS hA hf hL hF
    obtain ⟨t2, a1, b1⟩ := kk r u t T'.heap (locs ++ L) e1.symm (by rw [← e2]; exact X'.warmed.alike) hp hb k1 k2 k3 T' rfl X'
    exact ⟨t2, st t2 a1, b1⟩
  · obtain ⟨k1, k2, k3⟩ := vx_keep h0 e1 hS hAX hf hL hF
    obtain ⟨t2, a1, b1⟩ := kx E ce q u t T'.heap (locs ++ L) e1.symm (by rw [← e2]; exact X'.warmed.alike) hp hb k1 k2 k3 (by rw [e1]; exact hce) hcv hcl T' rfl X'
    exact ⟨t2, st.trans a1, b1⟩
theorem vx_calld {S SX : Type} {post : UInt64 → S → Prop} {px : SX → Prop} {B : S → State → Prop} {BX : String → SX → State → Prop} {AX : Nat → Prop} (hr : vx_Run p l e R s m args below meth c H locs cells slots mc ms (F0 m pc ls st0) rest (va_Qd post B A1 a) (vx_X px BX AX) free) (hS : va_S A0 H0 H locs) (hA : ∀ q, q < H.size → A1 q → A0 q) (hf : ∀ q, free q → A0 q) (hAX : ∀ q, q < H.size → AX q → A0 q)
    (kx : ∀ (E : String) (ce : Cell) (q9 : Addr) (u : SX) (t : State) (H1 : Heap) (locs1 : List Loc), t.heap = H1 → s.vm.Alike t.vm → px u → BX E u t → H.size ≤ H1.size → (∀ q : Nat, q < H.size → ¬ AX q → H1[q]? = H[q]?) → va_S A0 H0 H1 locs1 → H1[q9]? = some ce → ce.vm = .none → s.vm.findClass E = some ce.cls → vx_W p l e R s m args below meth c H1 locs1 (cells + mc) (slots + ms) Q (F0 m pc ls rest) q9)
    (kk : ∀ (r : UInt64) (u : S) (t : State) (H1 : Heap) (locs1 : List Loc), t.heap = H1 → s.vm.Alike t.vm → post r u → B u t → H.size ≤ H1.size → (∀ q : Nat, q < H.size → ¬ A1 q → H1[q]? = H[q]?) → va_S A0 H0 H1 locs1 → W p l e R s m args below meth c H1 locs1 (cells + mc) (slots + ms) Q (F0 m (pc + 3) ls (.double r :: rest))) : W p l e R s m args below meth c H locs cells slots Q (F0 m pc ls st0) := by
  intro T hT X
  rcases hr T hT X with ⟨v, st₀, t, T', L, h0, X', hL, e1, e2, ⟨⟨r, u, hv, hp, hb⟩, hF⟩, st⟩ | ⟨q, st₀, t, T', L, E, ce, h0, X', hL, e1, e2, ⟨u, hp, hb, hF⟩, hce, hcv, hcl, st⟩
  · cases hv
    obtain ⟨k1, k2, k3⟩ := vx_keep h0 e1 hS hA hf hL hF
    obtain ⟨t2, a1, b1⟩ := kk r u t T'.heap (locs ++ L) e1.symm (by rw [← e2]; exact X'.warmed.alike) hp hb k1 k2 k3 T' rfl X'
    exact ⟨t2, st t2 a1, b1⟩
  · obtain ⟨k1, k2, k3⟩ := vx_keep h0 e1 hS hAX hf hL hF
    obtain ⟨t2, a1, b1⟩ := kx E ce q u t T'.heap (locs ++ L) e1.symm (by rw [← e2]; exact X'.warmed.alike) hp hb k1 k2 k3 (by rw [e1]; exact hce) hcv hcl T' rfl X'
    exact ⟨t2, st.trans a1, b1⟩
theorem vx_callv {S SX : Type} {post : S → Prop} {px : SX → Prop} {B : S → State → Prop} {BX : String → SX → State → Prop} {AX : Nat → Prop} (hr : vx_Run p l e R s m args below meth c H locs cells slots mc ms (F0 m pc ls st0) rest (va_Qv post B A1 a) (vx_X px BX AX) free) (hS : va_S A0 H0 H locs) (hA : ∀ q, q < H.size → A1 q → A0 q) (hf : ∀ q, free q → A0 q) (hAX : ∀ q, q < H.size → AX q → A0 q)
    (kx : ∀ (E : String) (ce : Cell) (q9 : Addr) (u : SX) (t : State) (H1 : Heap) (locs1 : List Loc), t.heap = H1 → s.vm.Alike t.vm → px u → BX E u t → H.size ≤ H1.size → (∀ q : Nat, q < H.size → ¬ AX q → H1[q]? = H[q]?) → va_S A0 H0 H1 locs1 → H1[q9]? = some ce → ce.vm = .none → s.vm.findClass E = some ce.cls → vx_W p l e R s m args below meth c H1 locs1 (cells + mc) (slots + ms) Q (F0 m pc ls rest) q9)
    (kk : ∀ (u : S) (t : State) (H1 : Heap) (locs1 : List Loc), t.heap = H1 → s.vm.Alike t.vm → post u → B u t → H.size ≤ H1.size → (∀ q : Nat, q < H.size → ¬ A1 q → H1[q]? = H[q]?) → va_S A0 H0 H1 locs1 → W p l e R s m args below meth c H1 locs1 (cells + mc) (slots + ms) Q (F0 m (pc + 3) ls (rest))) : W p l e R s m args below meth c H locs cells slots Q (F0 m pc ls st0) := by
  intro T hT X
  rcases hr T hT X with ⟨v, st₀, t, T', L, h0, X', hL, e1, e2, ⟨⟨u, hv, hp, hb⟩, hF⟩, st⟩ | ⟨q, st₀, t, T', L, E, ce, h0, X', hL, e1, e2, ⟨u, hp, hb, hF⟩, hce, hcv, hcl, st⟩
  · cases hv
    obtain ⟨k1, k2, k3⟩ := vx_keep h0 e1 hS hA hf hL hF
    obtain ⟨t2, a1, b1⟩ := kk u t T'.heap (locs ++ L) e1.symm (by rw [← e2]; exact X'.warmed.alike) hp hb k1 k2 k3 T' rfl X'
    exact ⟨t2, st t2 a1, b1⟩
  · obtain ⟨k1, k2, k3⟩ := vx_keep h0 e1 hS hAX hf hL hF
    obtain ⟨t2, a1, b1⟩ := kx E ce q u t T'.heap (locs ++ L) e1.symm (by rw [← e2]; exact X'.warmed.alike) hp hb k1 k2 k3 (by rw [e1]; exact hce) hcv hcl T' rfl X'
    exact ⟨t2, st.trans a1, b1⟩
/-- caught by the row x of this method's table; the rows ahead don't take it -/
theorem vx_catch {own name : String} {E : String} {ce : Cell} {q : Addr} (hown : s.vm.findClass own = some m.cls) (pre : List ExceptionTableEntry) (x : ExceptionTableEntry) (suf : List ExceptionTableEntry) (hsplit : c.exceptionTable.toList = pre ++ x :: suf)
    (hpass : ∀ z ∈ pre, covers z pc = false ∨ (z.catchType ≠ 0 ∧ ∃ nm : String, (Cond.classLink own z.catchType nm).before args s = true ∧ va_Nc E nm s)) (hx : covers x pc = true) (h0 : x.catchType ≠ 0)
    (hlink : (Cond.classLink own x.catchType name).before args s = true) (hcast : (Cond.castable E name).before args s = true) (hcell : H[q]? = some ce) (hv : ce.vm = .none) (hcl : s.vm.findClass E = some ce.cls)
    (kk : W p l e R s m args below meth c H locs cells slots Q (F0 m x.handlerPc ls [.ref q])) : vx_W p l e R s m args below meth c H locs cells slots Q (F0 m pc ls rest) q := by
  intro T hT X
  have hpl : e.platform.magicAccessors = ({} : Platform).magicAccessors := by rw [X.admits.platform]
  obtain ⟨c3, c4, hc3, hc4, hasg⟩ := Cond.castable_spec hcast
  cases Option.some.inj (hc3.symm.trans hcl)
  obtain ⟨c5, hc5, hcl5⟩ := Cond.classLink_spec hown hlink e.platform hpl
  cases Option.some.inj (hc4.symm.trans hc5)
  obtain ⟨vm', X', st⟩ := X.thenCaughtThrough q (g := F0 m pc ls rest) rfl (Steps.refl _) (by rw [hT]; exact hcell) (by rw [hv]; rfl) (by obtain ⟨k9, h9, -⟩ := Vm.findClass_spec hcl; exact ⟨k9, h9⟩) pre x suf hsplit
    (fun z hz => by
      rcases hpass z hz with h | ⟨hz0, nm, hl1, hn1⟩
      · exact Or.inl h
      · obtain ⟨c6, hc6, hcl6⟩ := Cond.classLink_spec hown hl1 e.platform hpl
        obtain ⟨a8, b8, h1, h2, h3⟩ := hn1
        cases Option.some.inj (h1.symm.trans hcl)
        cases Option.some.inj (h2.symm.trans hc6)
        exact Or.inr ⟨hz0, _, hcl6, h3⟩) hx (Or.inr ⟨h0, c4, hcl5, hasg⟩)
  obtain ⟨t, a1, b1⟩ := kk (T.setVm vm') hT X'
  exact ⟨t, st.trans a1, b1⟩
end Rows
section Ends
variable {p : Program} {l : Launch} {e : Env} {R : Room} {s : State} {m : MethodId} {args : Array Value} {below : List Frame} {meth : Method} {c : Code} {H : Heap} {locs : List Loc} {cells slots : Nat} {Q : State → Prop}
variable {mc ms : Nat} {free : Addr → Prop} {A0 A1 : Nat → Prop} {H0 : Heap} {a : Array Value} {ls : Array Slot} {st0 rest : List Value}
variable {Qc : Array Value → State → Outcome → State → Prop} {XC : String → State → State → Prop}
/-- what a body that may throw owes at its end -/
def vx_MQ (below : List Frame) (Qc : Array Value → State → Outcome → State → Prop) (XC : String → State → State → Prop) (a : Array Value) (s : State) (mc ms : Nat) (free : Addr → Prop) : State → Prop := fun t =>
  ∃ o, t.status = .running ∧ Ended t below o ∧ vx_Q Qc XC mc ms free a s o t
theorem vx_ret {g : JFrame} {mc ms : Nat} (k : W p l e R s m args below meth c H locs cells slots (MQ below Qc args s mc ms free) g) : W p l e R s m args below meth c H locs cells slots (vx_MQ below Qc XC args s mc ms free) g := by
  intro T hT X
  obtain ⟨t, a1, o, b1, b2, b3, b4⟩ := k T hT X
  exact ⟨t, a1, o, b1, b2, Or.inl ⟨b3, b4⟩⟩
/-- not caught here: it goes on to the caller -/
theorem vx_widen {g : JFrame} {q : Addr} {k n : Nat} (h1 : cells ≤ k) (h2 : slots ≤ n) (kk : vx_W p l e R s m args below meth c H locs k n Q g q) : vx_W p l e R s m args below meth c H locs cells slots Q g q := fun T hT X => kk T hT (stand_widen X h1 h2)
theorem vx_out {pc : Nat} {E : String} {ce : Cell} {q : Addr} {mc ms : Nat} (hout : ∀ x ∈ c.exceptionTable.toList, covers x pc = false) (hlocks : meth.locks = false) (hcell : H[q]? = some ce) (hv : ce.vm = .none) (hcl : s.vm.findClass E = some ce.cls)
    (hx : ∀ t : State, t.heap = H → s.vm.Alike t.vm → XC E s t) (hf : ∀ z ∈ locs, free z.base) (hc : cells ≤ mc) (hs : slots ≤ ms) :
    vx_W p l e R s m args below meth c H locs cells slots (vx_MQ below Qc XC args s mc ms free) (F0 m pc ls rest) q := by
  intro T hT X
  obtain ⟨st1, hrun, hend, hW, hsm⟩ := X.leaveThrown q (g := F0 m pc ls rest) rfl rfl rfl hout hlocks
  have hcell9 : (T.setFrames (.throwing q :: below)).heap[q]? = some ce := by
    show T.heap[q]? = some ce
    rw [hT]; exact hcell
  exact ⟨_, st1, .threw q, hrun, hend, Or.inr ⟨q, rfl, E, ce, locs, hx _ hT hW.alike, hcell9, hv, hcl, hW, hsm.mono hc hs, hf⟩⟩
theorem vx_frame {U : State} {k n : Nat} (h : s.sameButNew ({ U with vm := s.vm } : State) locs k n) : s.heap.size ≤ U.heap.size ∧ ∀ q : Nat, q < s.heap.size → (∀ z ∈ locs, z.base ≠ q) → U.heap[q]? = s.heap[q]? := by
  obtain ⟨-, h2, -, -, -, h6⟩ := h
  refine ⟨h2, fun q hq hz => ?_⟩
  obtain ⟨c9, e1, e2, e3, e4⟩ := h6 q _ (Array.getElem?_eq_getElem hq)
  have hs : c9.slots = (s.heap[q]).slots := Array.ext_getElem? fun i => e4 i fun hm => hz _ hm rfl
  have h9 : c9 = s.heap[q] := by
    rw [hs] at e2
    exact e2
  have e5 : U.heap[q]? = some c9 := e1
  rw [e5, h9, Array.getElem?_eq_getElem hq]
/-- the words of a throw but the four that speak of the heap -/
def vx_no (w : Cond) : Bool := decide (w ≠ .isRef (.static Bundle.tN "UNASSIGNED_STACK" Bundle.steD)) && decide (w ≠ .isRef (.static Bundle.tN "SUPPRESSED_SENTINEL" Bundle.listD)) && decide (w ≠ .laysStatic Bundle.tN "UNASSIGNED_STACK" Bundle.steD) && decide (w ≠ .laysStatic Bundle.tN "SUPPRESSED_SENTINEL" Bundle.listD)
def vx_at0 (own : String) (ic : Nat) (X : String) (names : List String) : List Cond := (Bundle.ownAtoms0 own ic X names).filter vx_no
def vx_atS (own : String) (ic : Nat) (X : String) (names : List String) : List Cond := (Bundle.ownAtoms own ic X names).filter vx_no
/-- a word that the tables alone decide, or a good one -/
def vx_ot (w : Cond) : Bool := w.onTables || goodWord w
theorem vx_ot_at {args a' : Array Value} {s U : State} {w : Cond} (hW : s.WarmedH U.vm) (hvm : s.vm = U.vm) (hg : vx_ot w = true) (h : w.before args s = true) : w.before a' U = true := by
  simp only [vx_ot, Bool.or_eq_true] at hg
  rcases hg with hg | hg
  · exact va_tabs hg hvm h
  · exact word_at hW (good_of_word hg) h
/-- a list's words: the good ones out of the method's own list, the others by premises of their own -/
theorem vx_hat {args : Array Value} {s : State} {L B : List Cond} (h1 : ∀ w ∈ L.filter goodWord, w.before args s = true) (h2 : ∀ w ∈ L.filter (fun w => !goodWord w), w ∈ B) (h3 : ∀ w ∈ B, w.before args s = true) : ∀ w ∈ L, w.before args s = true := by
  intro w hw
  by_cases g : goodWord w = true
  · exact h1 w (List.mem_filter.mpr ⟨hw, g⟩)
  · refine h3 w (h2 w (List.mem_filter.mpr ⟨hw, ?_⟩))
    show (!goodWord w) = true
    cases hgw : goodWord w
    · rfl
    · exact absurd hgw g
theorem vx_c {args : Array Value} {s : State} {w : Cond} {B : List Cond} (h : w.before args s = true) (t : ∀ w ∈ B, w.before args s = true) : ∀ w' ∈ w :: B, w'.before args s = true := fun w' h' => (List.mem_cons.mp h').elim (fun e => by rw [e]; exact h) (t w')
theorem vx_n {args : Array Value} {s : State} : ∀ w ∈ ([] : List Cond), w.before args s = true := fun _ h => nomatch h
theorem vx_own {args : Array Value} {s : State} {L : List Cond} (h1 : ∀ w ∈ L.filter vx_no, w.before args s = true)
    (hU : (Cond.isRef (.static Bundle.tN "UNASSIGNED_STACK" Bundle.steD)).before args s = true) (hN : (Cond.isRef (.static Bundle.tN "SUPPRESSED_SENTINEL" Bundle.listD)).before args s = true)
    (lU : (Cond.laysStatic Bundle.tN "UNASSIGNED_STACK" Bundle.steD).before args s = true) (lN : (Cond.laysStatic Bundle.tN "SUPPRESSED_SENTINEL" Bundle.listD).before args s = true) : ∀ w ∈ L, w.before args s = true := by
  intro w hw
  by_cases e1 : w = .isRef (.static Bundle.tN "UNASSIGNED_STACK" Bundle.steD)
  · rw [e1]; exact hU
  · by_cases e2 : w = .isRef (.static Bundle.tN "SUPPRESSED_SENTINEL" Bundle.listD)
    · rw [e2]; exact hN
    · by_cases e3 : w = .laysStatic Bundle.tN "UNASSIGNED_STACK" Bundle.steD
      · rw [e3]; exact lU
      · by_cases e4 : w = .laysStatic Bundle.tN "SUPPRESSED_SENTINEL" Bundle.listD
        · rw [e4]; exact lN
        · exact h1 w (List.mem_filter.mpr ⟨hw, by unfold vx_no; rw [decide_eq_true e1, decide_eq_true e2, decide_eq_true e3, decide_eq_true e4]; rfl⟩)
/-- where a static field lies, its class's statics cell in H -/
def vx_L (C n d : String) (A : Nat → Prop) (U : State) (H : Heap) : Prop := ∃ (c : ClassId) (k : Class) (i : Nat) (f : Field) (a : Nat) (cell : Cell), U.vm.findClass C = some c ∧ U.fieldFound? C n d = some (c, k, i, f) ∧ f.isStatic = true ∧ k.statics = some a ∧ H[a]? = some cell ∧ cell.vm.isStatics = true ∧ cell.cls = c ∧ f.slot < cell.slots.size ∧ k.staticTypes[f.slot]? = some f.type ∧ ¬ A a
theorem vx_L.moved {C n d : String} {A : Nat → Prop} {u U : State} {H : Heap} (hvm : u.vm.Alike U.vm) (h : vx_L C n d A u H) : vx_L C n d A U H := by
  obtain ⟨c, k, i, f, a, cell, h1, h2, h3, h4, h5, h6, h7, h8, h9, h10⟩ := h
  obtain ⟨k', hi', he⟩ := State.fieldFound?_setVm hvm h2
  exact ⟨c, k', i, f, a, cell, by rw [hvm.findClass]; exact h1, hi', h3, by rw [he]; exact h4, h5, h6, h7, h8, by rw [he]; exact h9, h10⟩
theorem vx_L.kept {C n d : String} {A : Nat → Prop} {U : State} {H H1 : Heap} (h : vx_L C n d A U H) (hq : ∀ a : Nat, a < H.size → ¬ A a → H1[a]? = H[a]?) : vx_L C n d A U H1 := by
  obtain ⟨c, k, i, f, a, cell, h1, h2, h3, h4, h5, h6, h7, h8, h9, h10⟩ := h
  exact ⟨c, k, i, f, a, cell, h1, h2, h3, h4, by rw [hq a (Array.getElem?_eq_some_iff.mp h5).1 h10]; exact h5, h6, h7, h8, h9, h10⟩
theorem vx_L.narrow {C n d : String} {A B : Nat → Prop} {U : State} {H : Heap} (h : vx_L C n d A U H) (hAB : ∀ q, B q → A q) : vx_L C n d B U H := by
  obtain ⟨c, k, i, f, a, cell, h1, h2, h3, h4, h5, h6, h7, h8, h9, h10⟩ := h
  exact ⟨c, k, i, f, a, cell, h1, h2, h3, h4, h5, h6, h7, h8, h9, fun z => h10 (hAB _ z)⟩
theorem vx_L.word {C n d : String} {A : Nat → Prop} {s : State} {args : Array Value} (h : vx_L C n d A s s.heap) : (Cond.laysStatic C n d).before args s = true := by
  obtain ⟨c, k, i, f, a, cell, h1, h2, h3, h4, h5, h6, h7, h8, h9, -⟩ := h
  show (Cond.laysStatic C n d).holds args s none s [] = true
  exact Cond.laysStatic_of h1 h2 h3 h4 h5 h6 h7 h8 h9
/-- .. and what it holds: null or some reference -/
def vx_Zq (C n d : String) (A : Nat → Prop) (U : State) (H : Heap) : Prop := va_Zq C n d A U H ∧ vx_L C n d A U H
theorem vx_Zq.moved {C n d : String} {A : Nat → Prop} {u U : State} {H : Heap} (hvm : u.vm.Alike U.vm) (h : vx_Zq C n d A u H) : vx_Zq C n d A U H := ⟨va_Zq.moved hvm h.1, vx_L.moved hvm h.2⟩
theorem vx_Zq.kept {C n d : String} {A : Nat → Prop} {U : State} {H H1 : Heap} (h : vx_Zq C n d A U H) (hq : ∀ a : Nat, a < H.size → ¬ A a → H1[a]? = H[a]?) : vx_Zq C n d A U H1 := ⟨va_Zq.kept h.1 hq, vx_L.kept h.2 hq⟩
theorem vx_Zq.narrow {C n d : String} {A B : Nat → Prop} {U : State} {H : Heap} (h : vx_Zq C n d A U H) (hAB : ∀ q, B q → A q) : vx_Zq C n d B U H := ⟨va_Zq.narrow h.1 hAB, vx_L.narrow h.2 hAB⟩
theorem vx_Zqof {args : Array Value} {s : State} {C n d : String} {A : Nat → Prop} (hl : (Cond.laysStatic C n d).before args s = true) (hini : (Cond.initialized C).before args s = true) (h : (Cond.isRef (.static C n d)).before args s = true) (hA : ∀ a : Nat, a < s.heap.size → ¬ A a) : vx_Zq C n d A s s.heap := by
  refine ⟨va_Zqof hl hini h hA, ?_⟩
  obtain ⟨c, k, i, f, a, cell, h1, h2, h3, h4, h5, h6, h7, h8, h9⟩ := Cond.laysStatic_spec hl
  exact ⟨c, k, i, f, a, cell, h1, h2, h3, h4, h5, h6, h7, h8, h9, hA a (Array.getElem?_eq_some_iff.mp h5).1⟩
theorem vx_isRef {C n d : String} {v : Value} {A : Nat → Prop} {s : State} {args : Array Value} (h : va_Z C n d v A s s.heap) (hv : v.isRef = true) : (Cond.isRef (.static C n d)).before args s = true := by
  obtain ⟨cf, kf, fi, f, a, cell, h1, h2, h3, h4, h5, h6, h7, -⟩ := h
  have he : (Term.static C n d).eval args s none [] s = some v := by
    simp [Term.eval, State.fieldNamed?, h1, h2, h4, h5, h6, h7]
  simp only [Cond.before, Cond.holds, Cond.value, he]
  cases v <;> simp_all [Value.isRef]
theorem vx_isRefq {C n d : String} {A : Nat → Prop} {s : State} {args : Array Value} (h : va_Zq C n d A s s.heap) : (Cond.isRef (.static C n d)).before args s = true := by
  rcases h with h | ⟨t, h⟩
  · exact vx_isRef h rfl
  · exact vx_isRef h rfl
/-- the same frame, seen from here: as if the method were called anew in this heap -/
theorem vx_rebase {T : State} (X : Stand p l e R s m args below meth c T locs cells slots) {R' : Room} (hf : R'.frames ≤ R.frames) (hl : R'.locals ≤ R.locals) (hc : cells + R'.cells ≤ R.cells) (hs : slots + R'.slots ≤ R.slots) :
    Stand p l e R' ((T.setVm s.vm).setFrames (.invoking m args :: below)) m args below meth c T [] 0 0 := by
  have htop : (T.setVm s.vm).topJava?.isSome := X.here.top
  have hF : ((T.setVm s.vm).setFrames (.invoking m args :: below)).frames = .invoking m args :: below := State.frames_setFrames _ (State.cur_lt_of_top htop)
  obtain ⟨g₀, hg0⟩ := Option.isSome_iff_exists.mp htop
  obtain ⟨r, hr⟩ := State.topJava?_eq_some.mp hg0
  have hl9 : e.platform.stackLimits (T.setVm s.vm).me = e.platform.stackLimits s.me := X.limits
  have hb9 : (T.setVm s.vm).me.stackBytes = s.me.stackBytes := X.bytes
  refine ⟨X.admits, X.cas, X.clock, hF, ?_, X.hears, X.method, X.code, X.here, X.tail, X.warmed, ?_, ?_, ?_⟩
  · have h := X.room
    have hU : ((T.setVm s.vm).setFrames (.invoking m args :: below)).localsInUse = s.localsInUse := by
      rw [State.localsInUse_invoking hF (meth := meth) (c := c) X.method X.code, State.localsInUse_invoking X.frames X.method X.code]
    simp only [State.hasRoom, Bool.and_eq_true, decide_eq_true_eq] at h ⊢
    obtain ⟨⟨⟨⟨h1, h2, h3, h4, h5, h6⟩, h7⟩, h8⟩, h9⟩ := h
    rw [X.frames, List.length_cons] at h2 h3
    have q1 := X.heapSize
    have q2 := X.used
    simp only [hF, hU, List.length_cons, State.stackLimits_setFrames, State.stackBytes_setFrames, hl9, hb9]
    refine ⟨⟨⟨⟨by omega, by omega, by omega, by omega, by omega, h6⟩, ?_⟩, ?_⟩, X.book⟩
    · show T.heap.size + R'.cells ≤ e.platform.maxCells
      omega
    · show T.slotsUsed + R'.slots ≤ e.platform.maxSlots
      omega
  · rw [State.stackLimits_setFrames]; rfl
  · rw [State.stackBytes_setFrames]; rfl
  · refine ⟨?_, Nat.le_refl _, Nat.le_refl _, ?_, ?_, fun a c9 h9 => ⟨c9, h9, rfl, rfl, fun _ _ => rfl⟩⟩
    · obtain ⟨t, ht, -⟩ := State.frames_cons hr
      show T.setVm s.vm = { ((T.setVm s.vm).setFrames (.invoking m args :: below)).setFrames (T.setVm s.vm).frames with heap := T.heap, slotsUsed := T.slotsUsed }
      rw [State.setFrames_setFrames, State.setFrames_self ht]
      rfl
    · show T.slotsUsed = T.slotsUsed + ((T.heap.toList.drop T.heap.size).map (·.slots.size)).sum
      rw [List.drop_eq_nil_of_le (Nat.le_of_eq Array.length_toList)]
      rfl
    · show ((T.heap.toList.drop T.heap.size).map (·.slots.size)).sum ≤ 0
      rw [List.drop_eq_nil_of_le (Nat.le_of_eq Array.length_toList)]
      exact Nat.le_refl _
end Ends
section Bodies
variable {l : Launch}
theorem vx_ofW {y : MethodName} {ws ws' : List Cond} {rm : Room} {Pc : Array Value → State → Prop} {Qc : Array Value → State → Outcome → State → Prop} {XC : String → State → State → Prop} {mc ms : Nat} {free : Addr → Prop} {cc : ByteArray} {maxL : Nat} {ret : Option FieldType}
    (hy : plainName y.cls = true) (hw : ws = Cond.code y cc maxL ret :: ws')
    (body : ∀ p e s m args below meth c s₁, BodyLoose p l y (headSpec ws rm) cc maxL ret e s m args below meth c s₁ → c.maxLocals = maxL → (∀ x ∈ c.exceptionTable.toList, False) → Pc args s →
      W p l e (headSpec ws rm).room s m args below meth c s.heap [] 0 0 (vx_MQ below Qc XC args s mc ms free) (entryFrame m args maxL)) : vx_Met l y ws rm Pc Qc XC mc ms free := by
  refine MetFree.of_bodyS (code := cc) (maxLocals := maxL) (ret := ret) hy ?_ ?_
  · intro args s m h hn
    obtain ⟨meth, c, h1, h2, h3, h4, h5, h6, -, -⟩ := Cond.code_spec hn (atoms_spec (ws := ws) h _ (by rw [hw]; exact List.mem_cons_self))
    exact ⟨meth, c, h1, h2, h3, h4, h5, h6⟩
  · intro p e s m args below meth c s₁ B hml hP _
    have hh0 : s₁.heap = s.heap := by rw [B.state]; rfl
    have ht : ∀ x ∈ c.exceptionTable.toList, False := by
      obtain ⟨meth9, c9, h1, h2, -, -, -, -, h7, -⟩ := Cond.code_spec B.named (atoms_spec (ws := ws) B.pre _ (by rw [hw]; exact List.mem_cons_self))
      cases Option.some.inj (h1.symm.trans B.method)
      cases Option.some.inj (h2.symm.trans (Stand.of_body B).code)
      intro x hx
      rw [Array.isEmpty_iff.mp h7] at hx
      cases hx
    obtain ⟨t, a1, o, b1, b2, b3⟩ := body p e s m args below meth c s₁ B hml ht hP s₁ hh0 (Stand.of_body B)
    exact ⟨t, o, a1, b1, b2, b3⟩
/-- the table of a body with handlers -/
theorem vx_table {p : Program} {x y : MethodName} {S : Spec} {cc bytes : ByteArray} {maxL maxL' : Nat} {ret ret' : Option FieldType} {e : Env} {s s₁ : State} {m : MethodId} {args : Array Value} {below : List Frame} {meth : Method} {c : Code} {hh : List (Nat × Nat × Nat × Nat)}
    (B : BodyLoose p l y S cc maxL ret e s m args below meth c s₁) (h : (Cond.codeWith y bytes maxL' ret' hh).before args s = true) : c.exceptionTable.toList = tableOf hh := by
  obtain ⟨m9, meth9, c9, hn9, h1, h2, -, -, h6, -⟩ := Cond.codeWith_spec h
  cases Option.some.inj (hn9.symm.trans B.named)
  cases Option.some.inj (h1.symm.trans B.method)
  cases Option.some.inj (h2.symm.trans (Stand.of_body B).code)
  rw [← h6, table_eq]
end Bodies
end VXA
section VXS
variable {p : Program} {l : Launch} {e : Env} {R : Room} {s : State} {m : MethodId} {args : Array Value} {below : List Frame} {meth : Method} {c : Code} {T : State} {H : Heap} {locs : List Loc} {cells slots : Nat}
abbrev vx_CSW (R : Room) (s : State) (args : Array Value) (own : String) (index : Nat) (y : MethodName) (bytes : ByteArray) (maxL : Nat) (ret : Option FieldType) (hh : List (Nat × Nat × Nat × Nat)) (ws : List Cond) (rm : Room) (mc ms n : Nat) : Prop :=
  (rm.cells = mc ∧ rm.slots = ms ∧ rm.frames + 1 ≤ R.frames ∧ 8 + (maxL + 11) + rm.locals ≤ R.locals ∧ (∀ w ∈ ws, ∀ (a' : Array Value) (U : State), s.WarmedH U.vm → w.before a' U = true) ∧ Cond.codeWith y bytes maxL ret hh ∈ ws) ∧
  (Cond.codeWith y bytes maxL ret hh).before args s = true ∧ (Cond.initialized y.cls).before args s = true ∧ (y.cls ≠ "java/lang/invoke/MethodHandle" ∧ y.cls ≠ "java/lang/invoke/VarHandle") ∧
  (∀ sig, parseMethodDescriptor y.desc = some sig → n = sig.parameters.length) ∧ (Cond.methodLink own index y).before args s = true ∧ (Cond.static y).before args s = true
theorem vx_cwSW {own : String} {index maxL mc ms : Nat} {y : MethodName} {bytes : ByteArray} {ret : Option FieldType} {hh : List (Nat × Nat × Nat × Nat)} {Ts ws ws' : List Cond} {rm : Room} (n : Nat) (ht : ∀ w ∈ Ts, w.before args s = true) (hT : GoodIn Ts (va_wsS own index y ws)) (hw : ws = Cond.codeWith y bytes maxL ret hh :: ws') (hrc : rm.cells = mc) (hrs : rm.slots = ms)
    (hd : y.cls ≠ "java/lang/invoke/MethodHandle" ∧ y.cls ≠ "java/lang/invoke/VarHandle" ∧ (parseMethodDescriptor y.desc).map (fun d => d.parameters.length) = some n) (hR : rm.frames + 1 ≤ R.frames ∧ 8 + (maxL + 11) + rm.locals ≤ R.locals) :
    vx_CSW R s args own index y bytes maxL ret hh ws rm mc ms n := by
  have ok : ∀ w ∈ va_wsS own index y ws, w.before args s = true := fun w h => ht w (hT w h).1
  have hG : GoodIn Ts ws := fun w h => hT w (by unfold va_wsS; exact List.mem_append_right _ h)
  have hc : Cond.codeWith y bytes maxL ret hh ∈ ws := by rw [hw]; exact List.mem_cons_self
  refine ⟨⟨hrc, hrs, hR.1, hR.2, pay_in ht hG, hc⟩, ht _ (hG _ hc).1, ok _ (by simp [va_wsS]), ⟨hd.1, hd.2.1⟩, fun sig h => ?_, ok _ (by simp [va_wsS]), ok _ (by simp [va_wsS])⟩
  have h2 := hd.2.2
  rw [h] at h2
  exact (Option.some.inj h2).symm
theorem vx_callSW (X : Stand p l e R s m args below meth c T locs cells slots) (hexec : p.tables.exec = Jvm.exec) {own : String} {index : Nat} {y : MethodName} {bytes : ByteArray} {maxL : Nat} {ret : Option FieldType} {hh : List (Nat × Nat × Nat × Nat)}
    (hown : s.vm.findClass own = some m.cls) (hlink : (Cond.methodLink own index y).before args s = true) (hstat : (Cond.static y).before args s = true) (hinit : (Cond.initialized y.cls).before args s = true)
    (hcode : (Cond.codeWith y bytes maxL ret hh).before args s = true) (hy : y.cls ≠ "java/lang/invoke/MethodHandle" ∧ y.cls ≠ "java/lang/invoke/VarHandle")
    {W9 : Nat} {Pre : Pt → Array Value → Prop} {Post : Pt → Array Value → Option Value → Pt → Prop} (hK : Back l R p e below s args y 3 W9 Pre Post)
    {g : JFrame} (hg : g.method = m) (hsize : g.locals.size = c.maxLocals) {argsL rest : List Value} (hlen : ∀ sig, parseMethodDescriptor y.desc = some sig → argsL.length = sig.parameters.length)
    (hstack : g.stack = argsL.reverse ++ rest) (hW : 2 * g.monitorRoom + (rest.map fun v => v.category).sum ≤ W9) (hdg : decode c.code g.pc = .ok (.invokestatic index, 3))
    (hpre : ∀ vm₁, s.WarmedH vm₁ → Pre ⟨T.setVm vm₁, locs, cells, slots⟩ argsL.toArray) :
    ∃ (v : Option Value) (vm₁ : Vm) (B : Pt), s.WarmedH vm₁ ∧ Stand p l e R s m args below meth c B.U B.locs B.cells B.slots ∧ Post ⟨T.setVm vm₁, locs, cells, slots⟩ argsL.toArray v B ∧
      ∀ target, Steps p.tables e below (B.U.setTop { g with pc := g.pc + 3, stack := v.toList ++ rest }) target → Steps p.tables e below (T.setTop g) target := by
  obtain ⟨mk, methM, cM, hnamed, hmethM, -, -, -, -, -, -, hsigM⟩ := Cond.codeWith_spec hcode
  have hstatic : methM.isStatic = true := Cond.static_spec hnamed hmethM hstat
  obtain ⟨kP, hkP, -⟩ := className_of_methodNamed hnamed
  have hinitP : kP.init = .initialized := Cond.initialized_spec (findClass_of_methodNamed hnamed) hkP hinit
  obtain ⟨vm₁, X₁, hstep₁⟩ := X.invokestatic hexec hown hlink hnamed hmethM hstatic hkP hinitP hy (g := g) hg (argsL := argsL) (rest := rest) (hlen _ hsigM) hstack hdg
  obtain ⟨v, B, X', hpost, hsteps⟩ := hK m meth c ⟨T.setVm vm₁, locs, cells, slots⟩ { g with stack := rest } (.invokestatic index) mk argsL.toArray X₁ hg hsize hdg hW (X₁.named hnamed) (hpre vm₁ X₁.warmed)
  exact ⟨v, vm₁, B, X₁.warmed, X', hpost, fun target h => hstep₁ _ fun acts => by rw [doInvoke_state]; exact hsteps.trans h⟩
theorem vx_runSW {y : MethodName} {bytes cc : ByteArray} {maxL nL mc ms n index : Nat} {ret : Option FieldType} {hh : List (Nat × Nat × Nat × Nat)} {ws : List Cond} {rm : Room} {Pc : Array Value → State → Prop} {Qc : Array Value → State → Outcome → State → Prop} {free : Addr → Prop} {Ts : List Cond} {own : String} {As rest : List Value} {g : JFrame}
    (S : CallFix p m c cc nL s args Ts own) (hM : Met l y ws rm Pc Qc mc ms free) (cw : vx_CSW R s args own index y bytes maxL ret hh ws rm mc ms n) (hp : PreS s H Pc As)
    (hg : g.method = m) (hn : As.length = n) (hsize : g.locals.size = nL) (hstack : g.stack = As.reverse ++ rest) (hW : 2 * g.monitorRoom + (rest.map fun v => v.category).sum ≤ 8) (hdg : decode cc g.pc = .ok (.invokestatic index, 3)) (hf : cells + mc ≤ R.cells ∧ slots + ms ≤ R.slots) :
    va_Run p l e R s m args below meth c H locs cells slots mc ms g rest (Qc As.toArray) (free) := by
  obtain ⟨⟨hrc, hrs, hfr, hlo, hws, hcw⟩, hcode, hini, hy, hlen, hl, hstt⟩ := cw
  have hK : Back l R p e below s args y 3 8 (PreOf R mc ms Pc) (PostOf Qc mc ms free) := va_backW (hh := hh) (bytes := bytes) (maxL := maxL) (ret := ret) hM hp.1 hrc hrs hfr hlo hws hcw (fun a' U hW => word_at hW (Or.inl (by first | rfl | simp [Cond.onTables, Cond.keeps, Cond.steady])) hini)
  obtain ⟨hx, hb, hml, ho, -⟩ := S
  intro T hT X
  obtain ⟨v, vm₁, ⟨U', l2, c2, s2⟩, hW₁, X', ⟨g', mk, t, L, e1, e2, hq, h1, hL, h2, h3⟩, st⟩ := vx_callSW X hx (hh := hh) (bytes := bytes) (maxL := maxL) (ret := ret) ho hl hstt hini hcode hy hK hg (hsize.trans hml.symm) (argsL := As) (rest := rest) (fun sig h => hn.trans (hlen sig h)) hstack hW (by rw [hb]; exact hdg)
    (fun vm₁ hW₁ => ⟨hf.1, hf.2, hp.2 (T.setVm vm₁) hT hW₁⟩)
  dsimp only [Pt.U, Pt.locs, Pt.cells, Pt.slots] at X' e1 e2 h1 h2 h3 st
  subst h1; subst h2; subst h3
  exact ⟨v, (T.setVm vm₁).calling g' mk As.toArray, t, U', L, hT, X', hL, e1, e2, hq, st⟩
/-- not caught here, past rows that name other classes: it goes on to the caller -/
theorem vx_outP {p : Program} {l : Launch} {e : Env} {R : Room} {s : State} {m : MethodId} {args : Array Value} {below : List Frame} {meth : Method} {c : Code} {H : Heap} {locs : List Loc} {cells slots : Nat} {free : Addr → Prop} {ls : Array Slot} {rest : List Value} {Qc : Array Value → State → Outcome → State → Prop} {XC : String → State → State → Prop}
    {pc : Nat} {own E : String} {ce : Cell} {q : Addr} {mc ms : Nat} (hown : s.vm.findClass own = some m.cls) (hlocks : meth.locks = false)
    (hpass : ∀ z ∈ c.exceptionTable.toList, covers z pc = false ∨ (z.catchType ≠ 0 ∧ ∃ nm : String, (Cond.classLink own z.catchType nm).before args s = true ∧ va_Nc E nm s)) (hcell : H[q]? = some ce) (hv : ce.vm = .none) (hcl : s.vm.findClass E = some ce.cls)
    (hx : ∀ t : State, t.heap = H → s.vm.Alike t.vm → XC E s t) (hf : ∀ z ∈ locs, free z.base) (hc : cells ≤ mc) (hs : slots ≤ ms) :
    vx_W p l e R s m args below meth c H locs cells slots (vx_MQ below Qc XC args s mc ms free) (F0 m pc ls rest) q := by
  intro T hT X
  have hpl : e.platform.magicAccessors = ({} : Platform).magicAccessors := by rw [X.admits.platform]
  obtain ⟨vm', hW', X', st⟩ := X.outThrough hlocks q (g := F0 m pc ls rest) rfl rfl rfl (cell := ce) (by rw [hT]; exact hcell) (by rw [hv]; rfl)
    (by obtain ⟨k9, h9, -⟩ := Vm.findClass_spec hcl; exact ⟨k9, h9⟩) (fun z hz => by
      rcases hpass z hz with h | ⟨hz0, nm, hl1, hn1⟩
      · exact Or.inl h
      · obtain ⟨c6, hc6, hcl6⟩ := Cond.classLink_spec hown hl1 e.platform hpl
        obtain ⟨a8, b8, h1, h2, h3⟩ := hn1
        cases Option.some.inj (h1.symm.trans hcl)
        cases Option.some.inj (h2.symm.trans hc6)
        exact Or.inr ⟨hz0, _, hcl6, h3⟩)
  obtain ⟨g₀, hfr⟩ := X'.frames_eq
  have hcell9 : ((T.setVm vm').setFrames (.throwing q :: below)).heap[q]? = some ce := by
    show T.heap[q]? = some ce
    rw [hT]; exact hcell
  have hend : Ended ((T.setVm vm').setFrames (.throwing q :: below)) below (.threw q) := State.frames_setFrames _ (State.cur_lt_of_frames hfr)
  refine ⟨(T.setVm vm').setFrames (.throwing q :: below), ?_, .threw q, X'.here.running, hend, Or.inr ⟨q, rfl, E, ce, locs, hx _ hT (X'.ends _).1.alike, hcell9, hv, hcl, (X'.ends _).1, (X'.ends _).2.mono hc hs, hf⟩⟩
  rw [X.pushThrowing_eq]
  exact st
/-- a thing of a world lies in the heap -/
theorem vx_lt {D : va_G} {cl : List vw_C} {ws : va_W} {H1 : Heap} (h : va_P D cl ws H1) {k : Nat} {q : Nat × va_E} (hk : ws[k]? = some q) : q.1 < H1.size := (h k q hk).lt
end VXS
/-! NoSuchElementException(String): its call of the class above stands at 13 of its pool (the kit's rows of a throw want 7), so its throw has a row of its own here (it follows the library's for 7) -/
section NSE
abbrev exN : String := "java/util/NoSuchElementException"
abbrev exR : String := "java/lang/RuntimeException"
abbrev exE : String := "java/lang/Exception"
abbrev exTx : String := "no such cell, or nothing of that number is told of it"
abbrev exC : ByteArray := prog_29_method_4_code
def xnA (own : String) (ic : Nat) : List Cond := Bundle.throwableAtoms ++ Bundle.throwableSAtoms ++ (Bundle.passSAtoms exN exR 13 exC ++ Bundle.chainSAtoms exR [exE]) ++
  [.methodLink own ic (Bundle.initS exN), .instantiable exN 6, .castable exN exN, .selects exN Bundle.tFill0 Bundle.tFill0, .selects exN Bundle.tFill Bundle.tFill,
   .lays exN Bundle.tN "cause" "Ljava/lang/Throwable;", .lays exN Bundle.tN "stackTrace" Bundle.steD, .lays exN Bundle.tN "suppressedExceptions" Bundle.listD, .lays exN Bundle.tN "detailMessage" "Ljava/lang/String;",
   .isRef (.static Bundle.tN "UNASSIGNED_STACK" Bundle.steD), .isRef (.static Bundle.tN "SUPPRESSED_SENTINEL" Bundle.listD),
   .fieldLink Bundle.tN 198 Bundle.tN "backtrace" "Ljava/lang/Object;", .lays Bundle.tN Bundle.tN "backtrace" "Ljava/lang/Object;", .lays exN Bundle.tN "backtrace" "Ljava/lang/Object;"]
theorem exC_0 : decode exC 0 = .ok (.aload_n 0, 1) := by decide +kernel
theorem exC_1 : decode exC 1 = .ok (.aload_n 1, 1) := by decide +kernel
theorem exC_2 : decode exC 2 = .ok (.invokespecial 13, 3) := by decide +kernel
theorem exC_5 : decode exC 5 = .ok (.return_, 1) := by decide +kernel
theorem fitN : Bundle.fit exN = true := by decide +kernel
theorem fitR : Bundle.fit exR = true := by decide +kernel
theorem fitE : ∀ n ∈ [exE], Bundle.fit n = true := by decide +kernel
variable {p : Program} {l : Launch} {e : Env} {R : Room} {s : State} {m₀ : MethodId} {args : Array Value} {below : List Frame} {meth : Method} {c : Code} {W9 : State} {cells slots : Nat}
set_option maxHeartbeats 2000000 in
theorem ctorThrow9 (X : Stand p l e R s m₀ args below meth c W9 [] cells slots) (hexec : p.tables.exec = Jvm.exec) (htr : e.platform.stackTraces = false) {own : String} {ic : Nat}
    (hown : s.vm.findClass own = some m₀.cls) (h : ∀ a ∈ xnA own ic, a.before args s = true)
    {a : Addr} {cX : ClassId} {kX : Class} (hfoundX : s.vm.findClass exN = some cX) (hkX : s.vm.classes[cX]? = some kX) (hcell : W9.heap[a]? = some (freshCell cX kX)) (hnew : s.heap.size ≤ a)
    {msg : Value} (hmsg : msg.isRef = true)
    {g : JFrame} (hg : g.method = m₀) (hsize : g.locals.size = c.maxLocals) (hlocked : g.locked = none) (hentered : g.entered = []) {rest : List Value} (hstack : g.stack = msg :: .ref a :: .ref a :: rest)
    (hd6 : decode c.code g.pc = .ok (.invokespecial ic, 3)) (hd9 : decode c.code (g.pc + 3) = .ok (.athrow, 1)) (hout : ∀ x ∈ c.exceptionTable.toList, covers x (g.pc + 3) = false)
    (hRframes : 5 < R.frames) (hRlocals : 2 * g.monitorRoom + ((Value.ref a :: rest).map fun v => v.category).sum + 81 ≤ R.locals) (hlocks : meth.locks = false) :
    ∃ U : State, Steps p.tables e below (W9.setTop g) U ∧ U.status = .running ∧ Ended U below (.threw a) ∧ s.WarmedH U.vm ∧ s.sameButNew ({ U with vm := s.vm } : State) [] cells slots ∧
      ∃ ce, U.heap[a]? = some ce ∧ ce.cls = cX ∧ ce.vm = .none := by
  have hpl : e.platform.magicAccessors = ({} : Platform).magicAccessors := by rw [X.admits.platform]
  have hat : ∀ x, x ∈ xnA own ic → x.holds args s none s [] = true := fun x hx => h x hx
  obtain ⟨T, Z0, L, -, Y⟩ := ThrowableC.of_atoms (args := args) (by rw [X.admits.platform]) (by rw [X.admits.platform]) hpl (fun x hx => h x (by simp [xnA, hx]))
  obtain ⟨Z, M, LZ, LM, hnZ⟩ := Init0T.ofS_atoms (args := args) hpl L Y (fun x hx => h x (by simp [xnA, hx]))
  obtain ⟨P1, L1, hP1m, hP1s⟩ := PassC.ofS_atoms (args := args) (s := s) hpl (X := exN) (Y := exR) (Bundle.fit_spec fitN).1 (Bundle.fit_spec fitR).2 exC_0 exC_1 exC_2 exC_5 (fun x hx => h x (by simp only [xnA, List.mem_append]; exact Or.inl (Or.inr (Or.inl hx))))
  obtain ⟨P2, Ps, hlen, L2, hL, hP2m, hlink2, hlink⟩ := Bundle.chainS (args := args) hpl hnZ [exE] exR fitR fitE (fun x hx => h x (by simp only [xnA, List.mem_append]; exact Or.inl (Or.inr (Or.inr hx))))
  have hfound : s.vm.findClass exN = some P1.m.cls := findClass_of_methodNamed hP1m
  cases Option.some.inj (hfoundX.symm.trans hfound)
  obtain ⟨c1, kX', hc1, hk, hord, -, -, hn6⟩ := Cond.instantiable_spec (hat (.instantiable exN 6) (by simp [xnA]))
  cases Option.some.inj (hc1.symm.trans hfound)
  cases Option.some.inj (hkX.symm.trans hk)
  have hsel : ∀ (t : MethodName) (mt : MethodId), .selects exN t t ∈ xnA own ic → s.methodNamed? t = some mt → (t.cls ≠ "java/lang/invoke/MethodHandle" ∧ t.cls ≠ "java/lang/invoke/VarHandle") → selectMethod e.platform s.vm P1.m.cls mt = .method mt := by
    intro t mt ht hn hc
    obtain ⟨c2, r2, m2, q1, q2, q3, q4, -⟩ := Cond.selects_spec (hat _ ht)
    cases Option.some.inj (q1.symm.trans hfound)
    cases Option.some.inj (q2.symm.trans (State.methodFound?_of_named hn hc))
    cases Option.some.inj (q3.symm.trans hn)
    rw [Launch.admits_selectMethod X.admits]
    exact q4
  obtain ⟨cellS0, hcS0, hiss⟩ := Y.statics
  obtain ⟨u0, hu0⟩ := Cond.staticRefV Y.unassigned L.unassignedStatic L.statics hcS0 hiss (hat (.isRef (.static Bundle.tN "UNASSIGNED_STACK" Bundle.steD)) (by simp [xnA]))
  obtain ⟨sen, hsen⟩ := Cond.staticRefV Y.sentinel L.sentinelStatic L.statics hcS0 hiss (hat (.isRef (.static Bundle.tN "SUPPRESSED_SENTINEL" Bundle.listD)) (by simp [xnA]))
  obtain ⟨ci198, i198, fB, hk198, hg198, ha198, hsB, -, hnB, htB, hffB⟩ := Cond.ownField (t := .object "java/lang/Object") Y.found L.cls (by decide +kernel) (hat (.fieldLink Bundle.tN 198 Bundle.tN "backtrace" "Ljava/lang/Object;") (by simp [xnA])) (hat (.lays Bundle.tN Bundle.tN "backtrace" "Ljava/lang/Object;") (by simp [xnA])) e.platform hpl
  obtain ⟨cellS, hcS', heS, -, hkeep⟩ := X.same.2.2.2.2.2 T.aS cellS0 hcS0
  have hcellS : W9.heap[T.aS]? = some cellS := hcS'
  have hknownS : cellS.vm ≠ .unknown := by
    rw [heS]
    intro hu
    rw [show cellS0.vm = .unknown from hu] at hiss
    cases hiss
  have hneS : T.aS ≠ a := Nat.ne_of_lt (Nat.lt_of_lt_of_le (Array.getElem?_eq_some_iff.mp hcS0).1 hnew)
  obtain ⟨iM, hffM⟩ := Y.msg
  obtain ⟨tyC, dC, hdC, hdnC⟩ := Cond.laysAt hfound hk Y.cause (hat (.lays exN Bundle.tN "cause" "Ljava/lang/Throwable;") (by simp [xnA]))
  obtain ⟨tyS, dS, hdS, hdnS⟩ := Cond.laysAt hfound hk Y.stack (hat (.lays exN Bundle.tN "stackTrace" Bundle.steD) (by simp [xnA]))
  obtain ⟨tyP, dP, hdP, hdnP⟩ := Cond.laysAt hfound hk Y.supp (hat (.lays exN Bundle.tN "suppressedExceptions" Bundle.listD) (by simp [xnA]))
  obtain ⟨tyM, dM, hdM, hdnM⟩ := Cond.laysAt hfound hk hffM (hat (.lays exN Bundle.tN "detailMessage" "Ljava/lang/String;") (by simp [xnA]))
  obtain ⟨tyB, dB, hdB, hdnB⟩ := Cond.laysAt hfound hk hffB (hat (.lays exN Bundle.tN "backtrace" "Ljava/lang/Object;") (by simp [xnA]))
  have bC := Cond.laysApart hdB hdC hdnB hdnC (by rw [hnB, Y.causeName]; decide)
  have bS := Cond.laysApart hdB hdS hdnB hdnS (by rw [hnB, Y.stackName]; decide)
  have bP := Cond.laysApart hdB hdP hdnB hdnP (by rw [hnB, Y.suppName]; decide)
  have hskip : SkipFacts T e.platform s (fun u => u) u0 ((preparedCellV T.toThrowableT (freshCell P1.m.cls kX) a u0 sen).withEntry W9.cur) :=
    ⟨{ ci198 := ci198, i198 := i198, fBack := fB }, ⟨hk198, hg198, ha198, hsB⟩, by
      have := fresh_default (c := P1.m.cls) tyB
      rw [htB] at this
      simpa [preparedCellV, Cell.setSlot, Cell.withEntry, Array.getElem?_setIfInBounds, bC, bS, bP, bC.symm, bS.symm, bP.symm, defaultValue] using this, fun _ _ => rfl⟩
  obtain ⟨tm, methC, cdC, kC, vm₁, hnC, -, -, -, -, -, -, -, hW₁, st1⟩ := Steps.initColdS (tb := p.tables) (e := e) (below := below) (s := s) (U := W9) X.here hexec X.warmed hpl hown (t := Bundle.initS exN) rfl rfl (Bundle.fit_spec fitN).2
    (hat (.methodLink own ic (Bundle.initS exN)) (by simp [xnA])) (h (.instanceMethod (Bundle.initS exN)) (by simp [xnA, Bundle.passSAtoms])) (bytes := exC) (maxL := 2) (h (.code (Bundle.initS exN) exC 2 none) (by simp [xnA, Bundle.passSAtoms]))
    (f := g) hg (a := a) (msg := msg) (rest := .ref a :: rest) hstack hd6
  cases Option.some.inj (hnC.symm.trans hP1m)
  have X₁ := X.noted hW₁
  have hlk : P1.sup = firstOf (Z.m T.toThrowableT) ((P2 :: Ps).map (·.toPassT)) := Option.some.inj (hP1s.symm.trans hP2m)
  obtain ⟨vm₂, X₂, st2⟩ := X₁.ctorMessageOffV hexec (g := { g with stack := .ref a :: rest }) hg hsize T L Z LZ M LM (P1 :: P2 :: Ps)
    (fun P hP => by
      rcases List.mem_cons.mp hP with rfl | hP
      · exact L1
      · rcases List.mem_cons.mp hP with rfl | hP
        · exact L2
        · exact hL P hP) ⟨hlk, hlink2, hlink⟩ (u0 := u0) (sen := sen) (self := a) hmsg (cell := freshCell P1.m.cls kX) (cellS := cellS)
    hcell (fun _ => by simp) (by simp) rfl rfl (hsel _ _ (by simp [xnA]) Y.fill0 (by decide)) (hsel _ _ (by simp [xnA]) Y.fill (by decide)) hcellS hneS hknownS (by rw [hkeep _ (fun q => nomatch q)]; exact hu0) (by rw [hkeep _ (fun q => nomatch q)]; exact hsen)
    (Takes.of_laid hk hord tyC (by rw [Y.causeType]; rfl)) (Takes.of_laid hk hord tyS (by rw [Y.stackType]; exact fits_refV_array _ u0)) (Takes.of_laid hk hord tyP (by rw [Y.suppType]; exact fits_refV_object _ sen))
    (Takes.of_laid hk hord tyM (by rw [Y.msgType]; exact fits_refV_object _ ⟨msg, hmsg⟩)) Y.objLocals hskip htr [] hd6
    (by simp only [List.length_cons, hlen, List.length_nil]; omega) (by simp only [List.length_cons, hlen, List.length_nil]; exact hRlocals)
  obtain ⟨hwalk, hrun, hended, hWU, hsame⟩ := X₂.athrowLeaves hexec (g := { g with stack := .ref a :: rest, pc := g.pc + 3 }) hg hlocked hentered hout (a := a) (rest := rest) rfl hd9
  have hlt : a < ((W9.setVm vm₁).setVm vm₂).heap.size := (Array.getElem?_eq_some_iff.mp hcell).1
  have hU := heapAt_setCell_self (s := (W9.setVm vm₁).setVm vm₂) (plainBareV T.toThrowableT (freshCell P1.m.cls kX) a u0 sen msg) hlt
  refine ⟨_, st1 _ (fun acts => ?_), hrun, hended, hWU, hsame.weaken (fun y hy hlt' => ?_) (Nat.le_refl _) (Nat.le_refl _), _, hU, rfl, rfl⟩
  · rw [doInvoke_state]
    exact st2 _ hwalk
  · exfalso
    have hb : y.base = a := by
      simp only [List.nil_append, List.mem_cons, List.not_mem_nil, or_false] at hy
      rcases hy with rfl | rfl | rfl | rfl | rfl <;> rfl
    rw [hb] at hlt'
    exact Nat.not_lt.mpr hnew hlt'
end NSE
section NSF
variable {p : Program} {l : Launch} {e : Env} {R : Room} {s : State} {m : MethodId} {args : Array Value} {below : List Frame} {meth : Method} {c : Code} {H : Heap} {locs : List Loc} {cells slots : Nat} {Q : State → Prop}
variable {mc ms : Nat} {free : Addr → Prop} {A0 A1 : Nat → Prop} {H0 : Heap} {a : Array Value} {ls : Array Slot} {st0 rest : List Value}
variable {Qc : Array Value → State → Outcome → State → Prop} {XC : String → State → State → Prop}
/-- 'throw new NoSuchElementException("text")' -/
theorem vx_throw9 {cc : ByteArray} {pc : Nat} (hexec : p.tables.exec = Jvm.exec) (hb : c.code = cc) (hl : l.stackTraces = false) {own : String} {ik is ic mc ms sa : Nat} {A : Nat → Prop}
    (hown : s.vm.findClass own = some m.cls) 
    (hk : (Cond.classLink own ik exN).before args s = true) (hini : (Cond.initialized exN).before args s = true) (hstr : vk_R own is exTx sa s) (hat : ∀ w ∈ (xnA own ic).filter vx_no, w.before args s = true)
    (hgood : ∀ w ∈ Cond.classLink own ik exN :: Cond.initialized exN :: (xnA own ic).filter vx_no, vx_ot w = true)
    (hU : vx_Zq Bundle.tN "UNASSIGNED_STACK" Bundle.steD A s s.heap) (hN : vx_Zq Bundle.tN "SUPPRESSED_SENTINEL" Bundle.listD A s s.heap) (hS : va_S A s.heap H locs) (hsize : ls.size = c.maxLocals)
    (d0 : decode cc pc = .ok (.new ik, 3)) (d3 : decode cc (pc + 3) = .ok (.dup, 1)) (d4 : decode cc (pc + 4) = .ok (.ldc is, 2)) (d6 : decode cc (pc + 6) = .ok (.invokespecial ic, 3)) (d9 : decode cc (pc + 9) = .ok (.athrow, 1))
    (hout : ∀ x ∈ c.exceptionTable.toList, covers x (pc + 9) = false)
    (hRframes : 5 < R.frames) (hRlocals : (rest.map fun v => v.category).sum + 82 ≤ R.locals) (hRcells : cells + 1 ≤ R.cells) (hRslots : slots + 6 ≤ R.slots) (hlocks : meth.locks = false)
    (hx : ∀ t : State, s.vm.Alike t.vm → t.heap.size = H.size + 1 → (∀ q : Nat, q < H.size → t.heap[q]? = H[q]?) → (∃ ce : Cell, t.heap[H.size]? = some ce ∧ ce.vm = .none ∧ s.vm.findClass exN = some ce.cls) → XC exN s t)
    (hf : ∀ z ∈ locs, free z.base) (hc : cells + 1 ≤ mc) (hs : slots + 6 ≤ ms) :
    W p l e R s m args below meth c H locs cells slots (vx_MQ below Qc XC args s mc ms free) (F0 m pc ls rest) := by
  intro T hT X
  have htr : e.platform.stackTraces = false := (show e.platform.stackTraces = l.stackTraces by rw [X.admits.platform]).trans hl
  have Y := vx_rebase X (R' := { frames := R.frames, locals := R.locals, cells := 1, slots := 6 }) (Nat.le_refl _) (Nat.le_refl _) hRcells hRslots
  obtain ⟨s', hA⟩ : ∃ z, z = (T.setVm s.vm).setFrames (.invoking m args :: below) := ⟨_, rfl⟩
  rw [← hA] at Y
  have hvm : s'.vm = s.vm := by rw [hA]; rfl
  have hhp : s'.heap = H := by rw [hA]; exact hT
  have hW0 : s.WarmedH s'.vm := by rw [hvm]; exact State.WarmedH.refl s
  have hat' : ∀ w ∈ (xnA own ic).filter vx_no, w.before args s' = true := fun w hw => vx_ot_at hW0 hvm.symm (hgood w (List.mem_cons_of_mem _ (List.mem_cons_of_mem _ hw))) (hat w hw)
  have hk' : (Cond.classLink own ik exN).before args s' = true := vx_ot_at hW0 hvm.symm (hgood _ List.mem_cons_self) hk
  have hini' : (Cond.initialized exN).before args s' = true := vx_ot_at hW0 hvm.symm (hgood _ (List.mem_cons_of_mem _ List.mem_cons_self)) hini
  have hU' : vx_Zq Bundle.tN "UNASSIGNED_STACK" Bundle.steD A s' s'.heap := by rw [hhp]; exact vx_Zq.moved hW0.alike (hU.kept hS.2.1)
  have hN' : vx_Zq Bundle.tN "SUPPRESSED_SENTINEL" Bundle.listD A s' s'.heap := by rw [hhp]; exact vx_Zq.moved hW0.alike (hN.kept hS.2.1)
  have h : ∀ w ∈ xnA own ic, w.before args s' = true := vx_own hat' (vx_isRefq hU'.1) (vx_isRefq hN'.1) hU'.2.word hN'.2.word
  have hown' : s'.vm.findClass own = some m.cls := by rw [hvm]; exact hown
  have hins : (Cond.instantiable exN 6).before args s' = true := h _ (by simp [xnA])
  obtain ⟨vm₁, cX, kX, hfX, hkX, -, -, X₁, st1⟩ := Y.newCold hexec (own := own) (C := exN) (index := ik) (n := 6) hown' hk' hins hini'
    (g := F0 m pc ls rest) rfl (by rw [hb]; exact d0) (Nat.le_refl _) (Nat.le_refl _)
  generalize hT1 : (T.setVm vm₁).pushCell { cls := cX, slots := kX.instanceTypes.map defaultValue, vm := .none } = T1 at X₁ st1
  have hcat : (Value.ref T.heap.size).category = 1 := rfl
  have hcellA : T1.heap[T.heap.size]? = some (freshCell cX kX) := by rw [← hT1]; exact State.heap_pushCell_size _ _
  have d3' : decode c.code (pc + 3) = .ok (.dup, 1) := by rw [hb]; exact d3
  have d4' : decode c.code (pc + 4) = .ok (.ldc is, 2) := by rw [hb]; exact d4
  have hstr' : vk_R own is exTx sa s' := vk_R.warm hW0 hstr
  obtain ⟨U, hsteps, hrun, hend, hW, hsame, ce, hce, hO1, hO2⟩ := ctorThrow9 X₁ hexec htr (own := own) (ic := ic) hown' h hfX hkX hcellA (by rw [hhp, hT]; exact Nat.le_refl _) (msg := .ref sa) rfl
    (g := { method := m, pc := pc + 6, locals := ls, stack := .ref sa :: .ref T.heap.size :: .ref T.heap.size :: rest, locked := none }) rfl hsize rfl rfl (rest := rest) rfl
    (by rw [hb]; exact d6) (by rw [hb]; exact d9) hout hRframes (by simp only [List.map_cons, List.sum_cons, hcat]; omega) hlocks
  have f3 : U.heap.size ≤ s'.heap.size + (0 + 1) := hsame.2.2.1
  obtain ⟨f1, f2⟩ := vx_frame hsame
  rw [hhp] at f1 f2 f3
  have hWs : s.WarmedH U.vm := State.WarmedH.trans hW0 hW
  have hcl : s.vm.findClass exN = some ce.cls := by
    rw [hO1, ← hvm]
    exact hfX
  have f4 : U.heap.size = H.size + 1 := by
    have h9 : T.heap.size < U.heap.size := (Array.getElem?_eq_some_iff.mp hce).1
    rw [hT] at h9
    omega
  have hall : s.sameButNew ({ U with vm := s.vm } : State) locs mc ms := by
    subst hA
    obtain ⟨e1, e2⟩ := hsame
    rw [State.setFrames_setFrames] at e1
    have h2 : (T.setVm s.vm).sameButNew ({ U with vm := s.vm } : State) [] (0 + 1) (0 + 6) := ⟨e1, e2⟩
    have h3 := X.same.trans h2
    rw [List.append_nil] at h3
    exact h3.mono hc hs
  refine ⟨U, ?_, .threw T.heap.size, hrun, hend, Or.inr ⟨T.heap.size, rfl, exN, ce, locs, hx U hWs.alike f4 (fun q hq => f2 q hq (fun z hz => nomatch hz)) ⟨ce, by rw [← hT]; exact hce, hO2, hcl⟩, hce, hO2, hcl, hWs, hall, hf⟩⟩
  refine st1 _ ?_
  show Steps p.tables e below (T1.setTop { method := m, pc := pc + 3, locals := ls, stack := .ref T.heap.size :: rest, locked := none }) _
  jvm_step X₁.here [X₁.here.top, hexec, d3', Value.category]
  exact X₁.ldcString hexec (own := own) (text := exTx) (index := is) (a := sa) hown' hstr'.1 hstr'.2
    (g := { method := m, pc := pc + 4, locals := ls, stack := .ref T.heap.size :: .ref T.heap.size :: rest, locked := none }) rfl d4' _ hsteps
end NSF
/-! The law's cell: the class's method answers, or throws; the law catches -/
theorem cal_9c {M : Mem} {x : Int32} (hM : ∃ vs, gNth M 0 = some (.inr (10, vs))) : gCal (.invokevirtual 113) 10 [.int x, .ref 0] M = some (.inr (127, [some (.ref 0), some (.int x)], [])) := by
  obtain ⟨vs, hM⟩ := hM
  show @cond (Option ((List Value × Mem) ⊕ (Nat × Lo × List Value))) (true && gRecv M (.ref 0) 10 && gRoom [] && true) (some (.inr (127, [some (.ref 0), some (.int x)], []))) none = _
  rw [recv_c hM]
  rfl
theorem cal_9w {M : Mem} {x : Int32} (hM : ∃ vs, gNth M 0 = some (.inr (10, vs))) : gCal (.invokevirtual 261) 10 [.int x, .ref 0] M = some (.inr (131, [some (.ref 0), some (.int x)], [])) := by
  obtain ⟨vs, hM⟩ := hM
  show @cond (Option ((List Value × Mem) ⊕ (Nat × Lo × List Value))) (true && gRecv M (.ref 0) 10 && gRoom [] && true) (some (.inr (131, [some (.ref 0), some (.int x)], []))) none = _
  rw [recv_c hM]
  rfl
def mTc : List (Nat × Nat × Instr) := [(0, 1, .aload_n 0), (1, 1, .iload_n 1), (2, 7, .invokevirtual 113), (5, 2, .ifCond .eq 13), (8, 1, .iload_n 2), (9, 0, .iconst 0), (10, 0, .bipush 8), (12, 7, .invokestatic 103), (15, 2, .ifCond .ne 13), (28, 1, .iload_n 2), (29, 2, .tableswitch 131 0 7 #[47, 57, 67, 77, 87, 97, 107, 117]), (76, 1, .aload_n 0), (77, 3, .getfield 28), (80, 3, .getfield 214), (83, 1, .iload_n 1), (84, 3, .iaload), (85, 6, .ireturn), (86, 1, .aload_n 0), (87, 3, .getfield 28), (90, 3, .getfield 249), (93, 1, .iload_n 1), (94, 3, .iaload), (95, 6, .ireturn), (96, 1, .aload_n 0), (97, 3, .getfield 28), (100, 3, .getfield 252), (103, 1, .iload_n 1), (104, 3, .iaload), (105, 6, .ireturn), (106, 1, .aload_n 0), (107, 3, .getfield 28), (110, 3, .getfield 255), (113, 1, .iload_n 1), (114, 3, .iaload), (115, 6, .ireturn), (116, 1, .aload_n 0), (117, 3, .getfield 28), (120, 3, .getfield 217), (123, 1, .iload_n 1), (124, 3, .iaload), (125, 6, .ireturn), (126, 1, .aload_n 0), (127, 3, .getfield 28), (130, 3, .getfield 258), (133, 1, .iload_n 1), (134, 3, .iaload), (135, 6, .ireturn), (136, 1, .aload_n 0), (137, 3, .getfield 28), (140, 3, .getfield 226), (143, 1, .iload_n 1), (144, 3, .iaload), (145, 6, .ireturn), (146, 1, .aload_n 0), (147, 1, .iload_n 1), (148, 7, .invokevirtual 261), (151, 2, .ifCond .eq 7), (154, 0, .iconst 1), (155, 2, .goto 4), (158, 0, .iconst 0), (159, 6, .ireturn), (160, 1, .aload_n 0), (161, 1, .iload_n 1), (162, 7, .invokevirtual 261), (165, 2, .ifCond .eq 29), (168, 1, .aload_n 0), (169, 3, .getfield 28), (172, 3, .getfield 217), (175, 1, .iload_n 1), (176, 3, .iaload), (177, 1, .aload_n 0), (178, 3, .getfield 37), (181, 3, .getfield 134), (184, 3, .getfield 264), (187, 2, .if_icmp .lt 7), (190, 0, .iconst 1), (191, 2, .goto 4), (194, 0, .iconst 0), (195, 6, .ireturn)]
def mTl : List (Nat × Nat × Instr) := [(0, 1, .aload_n 3), (1, 0, .iconst 0), (2, 1, .aload_n 0), (3, 1, .iload_n 1), (4, 1, .iload_n 2), (5, 7, .invokevirtual 7), (8, 0, .i2l), (9, 4, .lastore), (10, 2, .goto 7), (15, 0, .iconst 1), (16, 6, .ireturn), (17, 0, .iconst 0), (18, 6, .ireturn)]
set_option maxRecDepth 100000 in
theorem ck_c : mTc.all (ckD cX10_cell) = true := by decide +kernel
set_option maxRecDepth 100000 in
theorem ck_l : mTl.all (ckD cL_cell) = true := by decide +kernel
/-- what the throw asks of the tables -/
def exL : List Cond := (xnA RX10 246).filter vx_no
def BXs : List Cond := (exL).filter (fun w => !goodWord w)
theorem w_in {w : Cond} (h : w ∈ lw_tbl) (g : goodWord w = true) : w ∈ W0 := List.mem_filter.mpr ⟨h, g⟩
/-- words and their places in the tables, side by side -/
noncomputable def ckPl : List Cond → List Nat → Bool
  | [], _ => true
  | w :: ws, p :: ps => ckW p w && ckPl ws ps
  | _ :: _, [] => false
theorem ckPl_in : ∀ {ws : List Cond} {ps : List Nat}, ckPl ws ps = true → ∀ w ∈ ws, w ∈ lw_tbl
  | [], _, _ => fun w hw => nomatch hw
  | v :: ws, [], h => by cases h
  | v :: ws, p :: ps, h => by
    rw [ckPl, Bool.and_eq_true] at h
    intro w hw
    rcases List.mem_cons.mp hw with e | e
    · rw [e]
      exact (List.mem_filter.mp (ckW_in h.1)).1
    · exact ckPl_in h.2 w e
set_option maxRecDepth 100000 in
theorem ew_x : ∀ w ∈ (exL).filter goodWord, w ∈ lw_tbl := by
  first
  | exact ckPl_in (ps := [1019, 5235, 6004, 6006, 6009, 6011, 5236, 5237, 1031, 1032, 5238, 6003, 6007, 6027, 5225, 6028, 5227, 6029, 5229, 5239, 6001, 5231, 6023, 6024, 6026, 5231, 6014, 6015, 6016, 6017, 6017, 6018, 6019, 6020, 6020, 6021, 6022, 6023, 6013, 5214, 5222, 5223, 5224, 5226, 5228, 5230, 5234, 5233, 5232]) (by decide +kernel)
  | decide +kernel
set_option maxRecDepth 100000 in
theorem ew_b : ∀ w ∈ BXs, w ∈ lw_tbl := by decide +kernel
theorem ew_bs : BXs.all (fun w => match w with
  | .declares _ => true
  | .castable _ _ => true
  | _ => false) = true := by decide +kernel
theorem ew_g : ∀ w ∈ Cond.classLink RX10 242 exN :: Cond.initialized exN :: exL, vx_ot w = true := by decide +kernel
theorem ew_c : Cond.castable exN exN ∈ BXs := by decide +kernel
set_option maxRecDepth 100000 in
theorem ew_l : ∀ w ∈ [Cond.codeWith yL_cell cL_cell 5 (some .int) [(0, 10, 13, 13)], Cond.methodLink RL 80 yL_cell, Cond.static yL_cell, Cond.initialized RL, Cond.classLink RL 13 exN, Cond.methodLink RL 7 yX10_cell, Cond.instanceMethod yX10_cell, Cond.selects RX10 yX10_cell yX10_cell, Cond.initialized RX10, Cond.code yX10_cell cX10_cell 3 (some .int), Cond.classLink RX10 242 exN, Cond.initialized exN], w ∈ lw_tbl := by
  first
  | exact ckPl_in (ps := [5207, 5205, 5206, 1000, 5208, 5209, 5210, 5211, 1001, 5212, 5213, 1022]) (by decide +kernel)
  | decide +kernel
theorem ew_lg : ∀ w ∈ [Cond.codeWith yL_cell cL_cell 5 (some .int) [(0, 10, 13, 13)], Cond.methodLink RL 80 yL_cell, Cond.static yL_cell, Cond.initialized RL, Cond.classLink RL 13 exN, Cond.methodLink RL 7 yX10_cell, Cond.instanceMethod yX10_cell, Cond.selects RX10 yX10_cell yX10_cell, Cond.initialized RX10, Cond.code yX10_cell cX10_cell 3 (some .int), Cond.classLink RX10 242 exN, Cond.initialized exN], goodWord w = true := by decide +kernel
theorem ew_1 : Cond.codeWith yL_cell cL_cell 5 (some .int) [(0, 10, 13, 13)] ∈ W0 := w_in (ew_l _ (List.mem_of_getElem? (i := 0) rfl)) (ew_lg _ (List.mem_of_getElem? (i := 0) rfl))
theorem ew_2 : Cond.methodLink RL 80 yL_cell ∈ W0 := w_in (ew_l _ (List.mem_of_getElem? (i := 1) rfl)) (ew_lg _ (List.mem_of_getElem? (i := 1) rfl))
theorem ew_3 : Cond.static yL_cell ∈ W0 := w_in (ew_l _ (List.mem_of_getElem? (i := 2) rfl)) (ew_lg _ (List.mem_of_getElem? (i := 2) rfl))
theorem ew_4 : Cond.initialized RL ∈ W0 := w_in (ew_l _ (List.mem_of_getElem? (i := 3) rfl)) (ew_lg _ (List.mem_of_getElem? (i := 3) rfl))
theorem ew_5 : Cond.classLink RL 13 exN ∈ W0 := w_in (ew_l _ (List.mem_of_getElem? (i := 4) rfl)) (ew_lg _ (List.mem_of_getElem? (i := 4) rfl))
theorem ew_6 : Cond.methodLink RL 7 yX10_cell ∈ W0 := w_in (ew_l _ (List.mem_of_getElem? (i := 5) rfl)) (ew_lg _ (List.mem_of_getElem? (i := 5) rfl))
theorem ew_7 : Cond.instanceMethod yX10_cell ∈ W0 := w_in (ew_l _ (List.mem_of_getElem? (i := 6) rfl)) (ew_lg _ (List.mem_of_getElem? (i := 6) rfl))
theorem ew_8 : Cond.selects RX10 yX10_cell yX10_cell ∈ W0 := w_in (ew_l _ (List.mem_of_getElem? (i := 7) rfl)) (ew_lg _ (List.mem_of_getElem? (i := 7) rfl))
theorem ew_9 : Cond.initialized RX10 ∈ W0 := w_in (ew_l _ (List.mem_of_getElem? (i := 8) rfl)) (ew_lg _ (List.mem_of_getElem? (i := 8) rfl))
theorem ew_10 : Cond.code yX10_cell cX10_cell 3 (some .int) ∈ W0 := w_in (ew_l _ (List.mem_of_getElem? (i := 9) rfl)) (ew_lg _ (List.mem_of_getElem? (i := 9) rfl))
theorem ew_11 : Cond.classLink RX10 242 exN ∈ W0 := w_in (ew_l _ (List.mem_of_getElem? (i := 10) rfl)) (ew_lg _ (List.mem_of_getElem? (i := 10) rfl))
theorem ew_12 : Cond.initialized exN ∈ W0 := w_in (ew_l _ (List.mem_of_getElem? (i := 11) rfl)) (ew_lg _ (List.mem_of_getElem? (i := 11) rfl))
/-- what a throw needs besides the words -/
def Xtr (B : Nat) (U : State) : Prop := vx_Zq Bundle.tN "UNASSIGNED_STACK" Bundle.steD (fun q => B ≤ q) U U.heap ∧ vx_Zq Bundle.tN "SUPPRESSED_SENTINEL" Bundle.listD (fun q => B ≤ q) U U.heap ∧ (∃ q : Nat, vk_R RX10 244 exTx q U) ∧ ∀ w ∈ BXs, va_Nw w U
theorem Xtr.next {B : Nat} {s U : State} (h : Xtr B s) (hW : s.WarmedH U.vm) (hq : ∀ a : Nat, a < B → U.heap[a]? = s.heap[a]?) : Xtr B U := by
  obtain ⟨h1, h2, ⟨q, h3⟩, h4⟩ := h
  refine ⟨vx_Zq.moved hW.alike (h1.kept (fun a _ hA => hq a (Nat.lt_of_not_le hA))), vx_Zq.moved hW.alike (h2.kept (fun a _ hA => hq a (Nat.lt_of_not_le hA))), ⟨q, vk_R.warm hW h3⟩, fun w hw => ?_⟩
  have hs := List.all_eq_true.mp ew_bs w hw
  have hn := h4 w hw
  cases w <;> first | exact va_Nw.warmD hW hn | exact va_Nw.warmC hW hn | cases hs
theorem bx_ot : ∀ w ∈ BXs, w.onTables = true := by decide +kernel
theorem Xtr.blind {B : Nat} {U : State} (a : Array Value) (g : JFrame) (mk : MethodId) (h : Xtr B U) : Xtr B (U.calling g mk a) := by
  obtain ⟨h1, h2, ⟨q, h3⟩, h4⟩ := h
  exact ⟨vx_Zq.moved (u := U) (U := U.calling g mk a) (Vm.Alike.refl U.vm) h1, vx_Zq.moved (u := U) (U := U.calling g mk a) (Vm.Alike.refl U.vm) h2, ⟨q, vk_R.same (u := U) (U := U.calling g mk a) rfl h3⟩, fun w hw => va_Nw.same (u := U) (U := U.calling g mk a) (bx_ot w hw) rfl (h4 w hw)⟩
def PcX (B : Nat) (sa : Nat → Nat) (cy : Nat → ClassId) (dC : Nat → ClassId) (dI : Nat → Nat → Nat) (SA : Sta) (as : List Value) (M : Mem) : Array Value → State → Prop := fun a U => Pcw B sa cy dC dI SA as M a U ∧ Xtr B U
theorem pcx_blind {B : Nat} {sa : Nat → Nat} {cy : Nat → ClassId} {dC : Nat → ClassId} {dI : Nat → Nat → Nat} {SA : Sta} {as : List Value} {M : Mem} : FrameBlind (PcX B sa cy dC dI SA as M) := fun a U g mk h => ⟨pc_blind a U g mk h.1, h.2.blind a g mk⟩
theorem x_hat {B : Nat} {s : State} {args : Array Value} (hts : ∀ w ∈ W0, w.before args s = true) (hX : Xtr B s) : ∀ w ∈ exL, w.before args s = true :=
  vx_hat (B := BXs) (fun w hw => hts w (w_in (ew_x w hw) (List.mem_filter.mp hw).2)) (fun w h => h) (fun w hw => va_Nw.use (bx_ot w hw) (hX.2.2.2 w hw))
theorem d_c18 : decode cX10_cell 18 = .ok (.new 242, 3) := by decide +kernel
theorem d_c21 : decode cX10_cell 21 = .ok (.dup, 1) := by decide +kernel
theorem d_c22 : decode cX10_cell 22 = .ok (.ldc 244, 2) := by decide +kernel
theorem d_c24 : decode cX10_cell 24 = .ok (.invokespecial 246, 3) := by decide +kernel
theorem d_c27 : decode cX10_cell 27 = .ok (.athrow, 1) := by decide +kernel
theorem d_l5 : decode cL_cell 5 = .ok (.invokevirtual 7, 3) := by decide +kernel
theorem d_l13 : decode cL_cell 13 = .ok (.astore 4, 2) := by decide +kernel
theorem d_l15 : decode cL_cell 15 = .ok (.iconst 1, 1) := by decide +kernel
theorem d_l16 : decode cL_cell 16 = .ok (.ireturn, 1) := by decide +kernel
/-- the new object as a cell of the memory -/
theorem exc_world {B : Nat} {sa : Nat → Nat} {cy : Nat → ClassId} {dC : Nat → ClassId} {dI : Nat → Nat → Nat} {SA : Sta} {s t : State} {H : Heap} {M : Mem} (hI : Inv B sa cy dC dI SA s) (hP : va_P (dC, dI) gCL (wd B sa cy M) H) (hH : H.size = B + M.length) (hz : t.heap.size = H.size + 1) (hq : ∀ q : Nat, q < H.size → t.heap[q]? = H[q]?) (hc : ∃ ce : Cell, t.heap[H.size]? = some ce ∧ ce.vm = .none ∧ s.vm.findClass exN = some ce.cls) : Bw B sa cy dC dI (M ++ [.inr (12, [])]) t := by
  refine ⟨by rw [hz, hH, List.length_append]; rfl, fun k q hk => ?_⟩
  rw [← wd_app] at hk
  have hlen : (wd B sa cy M).length = M.length := by rw [wd, List.length_mapIdx]
  by_cases h : k < M.length
  · rw [List.getElem?_append_left (by omega)] at hk
    exact (hP k q hk).kept (hq _ (hP k q hk).lt)
  · rw [List.getElem?_append_right (by omega)] at hk
    have hk0 : k - (wd B sa cy M).length = 0 := by
      have := (List.getElem?_eq_some_iff.mp hk).1
      simpa using this
    rw [hk0] at hk
    cases hk
    obtain ⟨ce, h1, h2, h3⟩ := hc
    have hcl := (hI.1.1 12 _ rfl).2.1
    refine ⟨_, rfl, ce, ?_, ?_, h2, fun j hj => absurd hj (Nat.not_lt_zero j)⟩
    · show t.heap[B + M.length]? = some ce
      rw [← hH]
      exact h1
    · exact Option.some.inj (h3.symm.trans hcl)
section CEL
variable {l : Launch} {B : Nat} {sa : Nat → Nat} {cy : Nat → ClassId} {dC : Nat → ClassId} {dI : Nat → Nat → Nat} {SA : Sta} {x1 x2 : Int32} {M : Mem}
/-- the runs of the two questions that the class asks first -/
def Out (M : Mem) (x1 x2 : Int32) : Prop := Ev none 997 127 0 [some (.ref 0), some (.int x1)] [] M (some (.int 0)) M 0 0 ∨ (Ev none 997 127 0 [some (.ref 0), some (.int x1)] [] M (some (.int 1)) M 0 0 ∧ Ev none 997 126 0 [some (.int x2), some (.int 0), some (.int 8)] [] M (some (.int 0)) M 0 0)
theorem ret_W {p : Program} {e : Env} {R : Room} {s : State} {m : MethodId} {args : Array Value} {below : List Frame} {meth : Method} {c : Code} {cc : ByteArray} {v : Int32} {maxL cells slots pc : Nat} {vs : Lo} (hx : p.tables.exec = Jvm.exec) (hb : c.code = cc) (hr : meth.sig.returnType = some .int) (hlocks : meth.locks = false) (hI : Inv B sa cy dC dI SA s) (d : decode cc pc = .ok (.ireturn, 1)) : Wst p l e R s m args below meth c (MQ below (Qcw B sa cy dC dI (some (.int v)) M) args s cells slots (fun q => B ≤ q)) B sa cy dC dI maxL cells slots pc vs [.int v] M := by
  intro H locs ls hP hS hsz hL
  refine W.sz (fun hz => ?_)
  have hH := world_size hI hP hS hsz hz
  exact W.iret hx hb hr (fun t ht hW => ⟨⟨v, (), rfl, rfl, by rw [ht]; exact hH, by rw [ht]; exact hP⟩, hS.F ht⟩) hS.2.2 d hlocks
set_option maxHeartbeats 8000000 in
set_option maxRecDepth 200000 in
theorem met_throw (hl : l.stackTraces = false) (hlib : MetLib l B sa cy dC dI SA) (hr0 : ∃ vs, gNth M 0 = some (.inr (10, vs))) (h : Out M x1 x2) : vx_Met l yX10_cell (.code yX10_cell cX10_cell 3 (some .int) :: W0) ({ frames := 1006, cells := 1, slots := 6, locals := 40240 }) (PcX B sa cy dC dI SA [.ref 0, .int x1, .int x2] M) (va_Qi (fun (_ : Int32) (_ : Unit) => False) (fun _ _ => True) (fun q => B ≤ q)) (vx_X (fun _ : Unit => True) (fun E _ t => E = exN ∧ Bw B sa cy dC dI (M ++ [.inr (12, [])]) t) (fun q => B ≤ q)) 1 6 (fun q => B ≤ q) := by
  refine vx_ofW (cc := cX10_cell) (maxL := 3) (ret := some .int) (by decide +kernel) rfl ?_
  intro p e s m args below meth c s₁ B9 hml hnt hv
  obtain ⟨⟨rfl, hI, hsz, hP⟩, hXt⟩ := hv
  have hts : ∀ w ∈ W0, w.before (([.ref 0, .int x1, .int x2] : List Value).map (rV B sa)).toArray s = true := fun w hw => atoms_spec (ws := .code yX10_cell cX10_cell 3 (some .int) :: W0) B9.pre w (List.mem_cons_of_mem _ hw)
  have hown : s.vm.findClass RX10 = some m.cls := findClass_of_methodNamed B9.named
  have hlv := lv_entry (([.ref 0, .int x1, .int x2] : List Value).map (rV B sa)) (n := 3) (Nat.le_refl _)
  rw [lg_entry_eq]
  generalize (lg_sl (([.ref 0, .int x1, .int x2] : List Value).map (rV B sa)) ++ List.replicate (3 - (lg_sl (([.ref 0, .int x1, .int x2] : List Value).map (rV B sa))).length) Slot.unset).toArray = ls at hlv ⊢
  have hL : LV B sa 3 [some (.ref 0), some (.int x1), some (.int x2)] ls := by
    refine ⟨rfl, _, hlv, fun i w hw => ?_⟩
    have := args_in B sa [.ref 0, .int x1, .int x2] 0 i w hw
    rwa [Nat.zero_add] at this
  have C : Ctx p (headSpec (.code yX10_cell cX10_cell 3 (some .int) :: W0) ({ frames := 1006, cells := 1, slots := 6, locals := 40240 })).room s m (([.ref 0, .int x1, .int x2] : List Value).map (rV B sa)).toArray meth c B sa cy dC dI SA 10 1 998 3 RX10 cX10_cell := ⟨B9.exec, B9.bytes, hml, rfl, hown, hts, hI, (fun q => by cases q), Nat.le_refl _, Nat.le_refl _⟩
  have key : Wst p l e (headSpec (.code yX10_cell cX10_cell 3 (some .int) :: W0) ({ frames := 1006, cells := 1, slots := 6, locals := 40240 })).room s m (([.ref 0, .int x1, .int x2] : List Value).map (rV B sa)).toArray below meth c (vx_MQ below (va_Qi (fun (_ : Int32) (_ : Unit) => False) (fun _ _ => True) (fun q => B ≤ q)) (vx_X (fun _ : Unit => True) (fun E _ t => E = exN ∧ Bw B sa cy dC dI (M ++ [.inr (12, [])]) t) (fun q => B ≤ q)) (([.ref 0, .int x1, .int x2] : List Value).map (rV B sa)).toArray s 1 6 (fun q => B ≤ q)) B sa cy dC dI 3 0 0 18 [some (.ref 0), some (.int x1), some (.int x2)] [] M := by
    intro H locs ls hP hS hsz hL
    refine W.sz (fun hz => ?_)
    have hH := world_size hI hP hS hsz hz
    have hls : ls.size = c.maxLocals := by
      obtain ⟨-, l9, h9, -⟩ := hL
      rw [hml]
      exact h9.1
    obtain ⟨q, hq⟩ := hXt.2.2.1
    exact vx_throw9 B9.exec B9.bytes hl (own := RX10) (ik := 242) (is := 244) (ic := 246) (sa := q) (A := fun q => B ≤ q) hown (hts _ ew_11) (hts _ ew_12) hq (x_hat hts hXt) ew_g hXt.1 hXt.2.1 hS hls d_c18 d_c21 d_c22 d_c24 d_c27 (fun x hx => absurd hx (hnt x)) (show 5 < 1006 by decide) (Nat.le_of_ble_eq_true rfl) (Nat.le_refl _) (Nat.le_refl _) B9.notSynchronized (fun t hal h1 h2 h3 => ⟨(), trivial, ⟨rfl, exc_world hI hP hH h1 h2 h3⟩, by
      refine ⟨by rw [h1]; have := hS.1; omega, fun q9 hq9 hA => ?_⟩
      rw [h2 q9 (Nat.lt_of_lt_of_le hq9 hS.1)]
      exact hS.2.1 q9 hq9 hA⟩) hS.2.2 (Nat.le_refl _) (Nat.le_refl _)
  refine many_ok (n := 0) (pc := 0) (vs := [some (.ref 0), some (.int x1), some (.int x2)]) (st := []) (M := M) hlib C ck_c 2 (pc' := 2) (vs' := [some (.ref 0), some (.int x1), some (.int x2)]) (st' := [.int x1, .ref 0]) (M' := M) (c0 := 0) (s0 := 0) rfl (Nat.zero_le _) (Nat.zero_le _) ?_ s.heap [] ls hP va_S.rf hsz hL
  rcases h with h0 | ⟨h1, h2⟩
  · obtain ⟨n, h0⟩ := h0.any SA
    refine one_ok hlib C ck_c (one_call (i := .invokevirtual 113) (id := 127) (ls0 := [some (.ref 0), some (.int x1)]) (rest := []) rfl (cal_9c hr0) h0) (Nat.zero_le _) (Nat.zero_le _) ?_
    refine many_ok (n := 0) hlib C ck_c 1 (pc' := 18) (vs' := [some (.ref 0), some (.int x1), some (.int x2)]) (st' := []) (M' := M) (c0 := 0) (s0 := 0) rfl (Nat.zero_le _) (Nat.zero_le _) ?_
    exact key
  · obtain ⟨n1, h1⟩ := h1.any SA
    obtain ⟨n2, h2⟩ := h2.any SA
    refine one_ok hlib C ck_c (one_call (i := .invokevirtual 113) (id := 127) (ls0 := [some (.ref 0), some (.int x1)]) (rest := []) rfl (cal_9c hr0) h1) (Nat.zero_le _) (Nat.zero_le _) ?_
    refine many_ok (n := 0) hlib C ck_c 4 (pc' := 12) (vs' := [some (.ref 0), some (.int x1), some (.int x2)]) (st' := [.int 8, .int 0, .int x2]) (M' := M) (c0 := 0) (s0 := 0) rfl (Nat.zero_le _) (Nat.zero_le _) ?_
    refine one_ok hlib C ck_c (one_call (i := .invokestatic 103) (id := 126) (ls0 := [some (.int x2), some (.int 0), some (.int 8)]) (rest := []) rfl rfl h2) (Nat.zero_le _) (Nat.zero_le _) ?_
    refine many_ok (n := 0) hlib C ck_c 1 (pc' := 18) (vs' := [some (.ref 0), some (.int x1), some (.int x2)]) (st' := []) (M' := M) (c0 := 0) (s0 := 0) rfl (Nat.zero_le _) (Nat.zero_le _) ?_
    exact key
/-- the call's words -/
theorem cw_cell {R : Room} {s : State} {args : Array Value} (hts : ∀ w ∈ W0, w.before args s = true) {rm : Room} (hf : rm.frames + 1 ≤ R.frames) (hlo : 8 + (3 + 11) + rm.locals ≤ R.locals) : CallW R s args RL RX10 7 yX10_cell cX10_cell 3 (some .int) (.code yX10_cell cX10_cell 3 (some .int) :: W0) rm rm.cells rm.slots 2 :=
  ⟨callB_of 2 hts (goodW0 ew_10) rfl rfl rfl (hts _ ew_9) (hts _ ew_6) ⟨by decide +kernel, by decide +kernel, by decide +kernel⟩ ⟨hf, hlo⟩, hts _ ew_7, hts _ ew_8⟩
set_option maxHeartbeats 8000000 in
set_option maxRecDepth 200000 in
theorem met_Lthrow (hl : l.stackTraces = false) (hlib : MetLib l B sa cy dC dI SA) (hr0 : ∃ vs, gNth M 0 = some (.inr (10, vs))) (h : Out M x1 x2) : Met l yL_cell (.codeWith yL_cell cL_cell 5 (some .int) [(0, 10, 13, 13)] :: W0) ({ frames := 1007, cells := 1, slots := 6, locals := 40280 }) (PcX B sa cy dC dI SA [.ref 0, .int x1, .int x2, .ref 663] M) (Qcw B sa cy dC dI (some (.int 1)) (M ++ [.inr (12, [])])) 1 6 (fun q => B ≤ q) := by
  refine va_MetW (cc := cL_cell) (maxL := 5) (ret := some .int) (hh := [(0, 10, 13, 13)]) (by decide +kernel) rfl ?_
  intro p e s m args below meth c s₁ B9 hml hv
  obtain ⟨⟨rfl, hI, hsz, hP⟩, hXt⟩ := hv
  have hts0 := atoms_spec (ws := .codeWith yL_cell cL_cell 5 (some .int) [(0, 10, 13, 13)] :: W0) B9.pre
  have htb : c.exceptionTable.toList = tableOf [(0, 10, 13, 13)]  := vx_table (x := yL_cell) B9 (hts0 _ List.mem_cons_self)
  have hts : ∀ w ∈ W0, w.before (([.ref 0, .int x1, .int x2, .ref 663] : List Value).map (rV B sa)).toArray s = true := fun w hw => hts0 w (List.mem_cons_of_mem _ hw)
  have hown : s.vm.findClass RL = some m.cls := findClass_of_methodNamed B9.named
  have hlv := lv_entry (([.ref 0, .int x1, .int x2, .ref 663] : List Value).map (rV B sa)) (n := 5) (show 4 ≤ 5 by decide)
  rw [lg_entry_eq]
  generalize (lg_sl (([.ref 0, .int x1, .int x2, .ref 663] : List Value).map (rV B sa)) ++ List.replicate (5 - (lg_sl (([.ref 0, .int x1, .int x2, .ref 663] : List Value).map (rV B sa))).length) Slot.unset).toArray = ls at hlv ⊢
  have hL : LV B sa 5 [some (.ref 0), some (.int x1), some (.int x2), some (.ref 663), none] ls := by
    refine ⟨rfl, _, hlv, fun i w hw => ?_⟩
    have := args_in B sa [.ref 0, .int x1, .int x2, .ref 663] 0 i w (pad_nth (n := 5) hw)
    rwa [Nat.zero_add] at this
  have C : Ctx p (headSpec (.codeWith yL_cell cL_cell 5 (some .int) [(0, 10, 13, 13)] :: W0) ({ frames := 1007, cells := 1, slots := 6, locals := 40280 })).room s m (([.ref 0, .int x1, .int x2, .ref 663] : List Value).map (rV B sa)).toArray meth c B sa cy dC dI SA 12 0 999 5 RL cL_cell := ⟨B9.exec, B9.bytes, hml, rfl, hown, hts, hI, (fun q => by cases q), Nat.le_refl _, Nat.le_refl _⟩
  refine many_ok (n := 0) (pc := 0) (vs := [some (.ref 0), some (.int x1), some (.int x2), some (.ref 663), none]) (st := []) (M := M) hlib C ck_l 5 (pc' := 5) (vs' := [some (.ref 0), some (.int x1), some (.int x2), some (.ref 663), none]) (st' := [.int x2, .int x1, .ref 0, .int 0, .ref 663]) (M' := M) (c0 := 0) (s0 := 0) rfl (Nat.zero_le _) (Nat.zero_le _) ?_ s.heap [] ls hP va_S.rf hsz hL
  clear hP hsz hL hlv ls
  intro H locs ls hP hS hsz hL
  refine W.sz (fun hz => ?_)
  have hH := world_size hI hP hS hsz hz
  obtain ⟨-, l9, h9, -⟩ := id hL
  have hpre : PreV s H RX10 (B + 0) (PcX B sa cy dC dI SA [.ref 0, .int x1, .int x2] M) ([.int x1, .int x2] : List Value) := by
    obtain ⟨-, p2, p3⟩ := pre_v (M := M) (as := [.int x1, .int x2]) (a := 0) (o2 := 10) (C := RX10) hr0.choose_spec (by decide) rfl hI hP hS hH
    refine ⟨pcx_blind, p2, fun U hU hW => ⟨p3 U hU hW, hXt.next hW (fun a ha => ?_)⟩⟩
    rw [hU]
    exact hS.2.1 a (Nat.lt_of_lt_of_le ha hI.2.2.2.2.1) (Nat.not_le.mpr ha)
  refine vx_calli (a := ([.ref (B + 0), .int x1, .int x2] : List Value).toArray) (vx_runV (C := RX10) (b := B + 0) (As := [.int x1, .int x2]) (rest := [.int 0, .ref (B + 663)]) (cc := cL_cell) (nL := 5) ⟨B9.exec, B9.bytes, hml, hown, hts⟩ (met_throw hl hlib hr0 h) (cw_cell hts (Nat.le_refl _) (Nat.le_of_ble_eq_true rfl)) hpre rfl rfl h9.1 rfl (show 0 + (1 + (1 + 0)) ≤ 8 by decide) d_l5 ⟨Nat.le_refl _, Nat.le_refl _⟩) hS (fun _ _ h => h) (fun _ h => h) (fun _ _ h => h) ?_ ?_
  · intro E ce q9 u t H1 locs1 ht hal _ hB hz1 hq1 hS1 hce hcv hcl
    obtain ⟨hE, hB⟩ := hB
    subst hE
    refine vx_catch (own := RL) (name := exN) (E := exN) hown [] ⟨0, 10, 13, 13⟩ [] (by rw [htb]; rfl) (fun z hz => nomatch hz) rfl (by decide) (hts _ ew_5) (va_Nw.use rfl (hXt.2.2.2 _ ew_c)) hce hcv hcl ?_
    refine lv_astore B9.exec B9.bytes d_l13 h9 (by decide) rfl (fun ls' hl' => ?_)
    refine lv_iconst B9.exec B9.bytes d_l15 rfl ?_
    exact W.iret B9.exec B9.bytes B9.returns (fun t9 ht9 hW => ⟨⟨1, (), rfl, rfl, by rw [ht9, ← ht]; exact hB.1, by rw [ht9, ← ht]; exact hB.2⟩, hS1.F ht9⟩) hS1.2.2 d_l16 B9.notSynchronized
  · intro r u t H1 locs1 ht hal hpost
    exact absurd hpost (fun q => q)
end CEL
theorem nat_of {x lo hi : Int32} (h1 : ¬ x < lo) (h2 : ¬ hi < x) (h0 : 0 ≤ lo.toInt) : ∃ n : Nat, lo.toInt ≤ (n : Int) ∧ (n : Int) ≤ hi.toInt ∧ n < 2 ^ 31 ∧ x = nI n := by
  simp only [Int32.lt_iff_toInt_lt] at h1 h2
  have h3 := Int32.toInt_lt x
  refine ⟨x.toInt.toNat, by omega, by omega, by omega, ?_⟩
  apply Int32.toInt_inj.mp
  rw [nI_toInt (by omega)]
  omega
theorem within_in {sc : Sta} {e : Nat} {M : Mem} {x lo hi : Int32} (h1 : ¬ x < lo) (h2 : ¬ hi < x) : Ev sc e 126 0 [some (.int x), some (.int lo), some (.int hi)] [] M (some (.int 1)) M 0 0 := by
  refine Ev.step (pc' := if x < lo then 14 else 5) (ls' := [some (.int x), some (.int lo), some (.int hi)]) (st' := []) (M1 := M) 3 (fun n => rfl) ?_
  rw [if_neg h1]
  refine Ev.step (pc' := if hi < x then 14 else 10) (ls' := [some (.int x), some (.int lo), some (.int hi)]) (st' := []) (M1 := M) 3 (fun n => rfl) ?_
  rw [if_neg h2]
  refine Ev.step (pc' := 15) (ls' := [some (.int x), some (.int lo), some (.int hi)]) (st' := [.int 1]) (M1 := M) 2 (fun n => rfl) ?_
  exact Ev.ret (fun n => rfl)
theorem within_lo {sc : Sta} {e : Nat} {M : Mem} {x lo hi : Int32} (h1 : x < lo) : Ev sc e 126 0 [some (.int x), some (.int lo), some (.int hi)] [] M (some (.int 0)) M 0 0 := by
  refine Ev.step (pc' := if x < lo then 14 else 5) (ls' := [some (.int x), some (.int lo), some (.int hi)]) (st' := []) (M1 := M) 3 (fun n => rfl) ?_
  rw [if_pos h1]
  refine Ev.step (pc' := 15) (ls' := [some (.int x), some (.int lo), some (.int hi)]) (st' := [.int 0]) (M1 := M) 1 (fun n => rfl) ?_
  exact Ev.ret (fun n => rfl)
theorem within_hi {sc : Sta} {e : Nat} {M : Mem} {x lo hi : Int32} (h1 : ¬ x < lo) (h2 : hi < x) : Ev sc e 126 0 [some (.int x), some (.int lo), some (.int hi)] [] M (some (.int 0)) M 0 0 := by
  refine Ev.step (pc' := if x < lo then 14 else 5) (ls' := [some (.int x), some (.int lo), some (.int hi)]) (st' := []) (M1 := M) 3 (fun n => rfl) ?_
  rw [if_neg h1]
  refine Ev.step (pc' := if hi < x then 14 else 10) (ls' := [some (.int x), some (.int lo), some (.int hi)]) (st' := []) (M1 := M) 3 (fun n => rfl) ?_
  rw [if_pos h2]
  refine Ev.step (pc' := 15) (ls' := [some (.int x), some (.int lo), some (.int hi)]) (st' := [.int 0]) (M1 := M) 1 (fun n => rfl) ?_
  exact Ev.ret (fun n => rfl)
/-- is it a cell: the class's question, as a contract -/
def kXic : CN := (127, 1, [.inr 1, .inl (.negSucc 2147483647, .ofNat 2147483647)], [], [], [], [(some (.inl (.ofNat 0, .ofNat 0)), [], [], [], []), (some (.inl (.ofNat 1, .ofNat 1)), [(1, (.ofNat 0, .ofNat 255))], [], [], [])])
set_option maxRecDepth 100000 in
theorem kXic_ok : cnOK sT sG FL0 kXic := ccM_V (Δ := []) (n := 80) (N := 4) (cuts := []) sU_ok dp0_ok ct0_ok nil_ok (by decide +kernel)
def kXiw : CN := (131, 0, [.inr 1, .inl (.ofNat 0, .ofNat 255)], [], [], [], [(some (.inl (.ofNat 0, .ofNat 1)), [], [], [], [])])
set_option maxRecDepth 100000 in
theorem kXiw_ok : cnOK sT sG FL0 kXiw := ccM_V (Δ := []) (n := 80) (N := 4) (cuts := []) sU_ok dp0_ok ct0_ok nil_ok (by decide +kernel)
set_option maxRecDepth 100000 in
theorem mR_iw : (gNth mRs 127).map (fun q => q.2.2.2.1) = some 2 ∧ (gNth mRs 131).map (fun q => q.2.2.2.1) = some 2 := by refine ⟨?_, ?_⟩ <;> decide +kernel
theorem rs_9i {p : Iv} {v : Option Value} (h : rsOK sT (some (.inl p)) v) : ∃ y : Int32, v = some (.int y) ∧ p.1 ≤ y.toInt ∧ y.toInt ≤ p.2 := by
  cases v with
  | none => exact h.elim
  | some w =>
    obtain ⟨y, rfl, h1, h2⟩ := h
    exact ⟨y, rfl, h1, h2⟩
theorem use_cs {c : CN} {k d : Nat} {M : Mem} {ws : List Value} (hc : cnOK sT sG FL0 c) (hm : (gNth mRs c.1).map (fun q => q.2.2.2.1) = some k) (h3 : c.2.2.2.1 = []) (h4 : c.2.2.2.2.1 = []) (h5 : c.2.2.2.2.2.1 = []) (hd : c.2.1 ≤ d) (ha : Two (taOK sT) c.2.2.1 ws) (hT : TM sT sG M) : ∃ v, Ev none d c.1 0 (gPad k (gArgs ws)) [] M v M 0 0 ∧ ∃ s ∈ c.2.2.2.2.2.2, csOK sT FL0 ws v M s := by
  cases hq : gNth mRs c.1 with
  | none => rw [hq] at hm; cases hm
  | some q =>
    rw [hq] at hm
    have hm : q.2.2.2.1 = k := Option.some.inj hm
    obtain ⟨v, M', e1, e2, e3, s, e4, e5, _⟩ := hc d M ws q hd hq ha ⟨[], by rw [h3]; trivial, by rw [h4]; exact fun f hf => by cases hf⟩ hT
    rw [hm] at e1
    rw [h5] at e3
    have e6 := frm_nil e3
    subst e6
    exact ⟨v, e1, s, e4, e5⟩
theorem isc_g {M : Mem} (hT : TM sT sG M) (x : Int32) : Ev none 997 127 0 [some (.ref 0), some (.int x)] [] M (some (.int 0)) M 0 0 ∨ (Ev none 997 127 0 [some (.ref 0), some (.int x)] [] M (some (.int 1)) M 0 0 ∧ 0 ≤ x.toInt ∧ x.toInt ≤ 255) := by
  obtain ⟨v, h1, s, h2, h3, h4, _⟩ := use_cs (d := 997) (ws := [.ref 0, .int x]) kXic_ok mR_iw.1 rfl rfl rfl (by decide) (Two.mk rfl (Two.mk ⟨x, rfl, i32_any x⟩ trivial)) hT
  rcases List.mem_cons.mp h2 with rfl | h2
  · obtain ⟨y, rfl, y1, y2⟩ := rs_9i h3
    have y3 : y = 0 := Int32.toInt_inj.mp (by
      have y1 : (0 : Int) ≤ y.toInt := y1
      have y2 : y.toInt ≤ (0 : Int) := y2
      have o : (0 : Int32).toInt = 0 := rfl
      omega)
    subst y3
    exact Or.inl h1
  · cases List.mem_singleton.mp h2
    obtain ⟨y, rfl, y1, y2⟩ := rs_9i h3
    have y3 : y = 1 := Int32.toInt_inj.mp (by
      have y1 : (1 : Int) ≤ y.toInt := y1
      have y2 : y.toInt ≤ (1 : Int) := y2
      have o : (1 : Int32).toInt = 1 := rfl
      omega)
    subst y3
    obtain ⟨x', e, e1, e2⟩ := h4 _ (List.mem_singleton.mpr rfl)
    cases e
    exact Or.inr ⟨h1, e1, e2⟩
theorem isw_g {M : Mem} (hT : TM sT sG M) {x : Int32} (x0 : 0 ≤ x.toInt) (x1 : x.toInt ≤ 255) : ∃ w : Int32, Ev none 997 131 0 [some (.ref 0), some (.int x)] [] M (some (.int w)) M 0 0 ∧ (w = 0 ∨ w = 1) := by
  obtain ⟨v, h1, s, h2, h3, _⟩ := use_cs (d := 997) (ws := [.ref 0, .int x]) kXiw_ok mR_iw.2 rfl rfl rfl (by decide) (Two.mk rfl (Two.mk ⟨x, rfl, x0, x1⟩ trivial)) hT
  cases List.mem_singleton.mp h2
  obtain ⟨y, rfl, y1, y2⟩ := rs_9i h3
  have y1 : (0 : Int) ≤ y.toInt := y1
  have y2 : y.toInt ≤ (1 : Int) := y2
  refine ⟨y, h1, ?_⟩
  have o : (0 : Int32).toInt = 0 := rfl
  have o1 : (1 : Int32).toInt = 1 := rfl
  by_cases h : y.toInt = 0
  · exact Or.inl (Int32.toInt_inj.mp (by omega))
  · exact Or.inr (Int32.toInt_inj.mp (by omega))
theorem one_g {SA : Sta} {n d o kf : Nat} {tab : List (Nat × Nat × Instr)} {pc kd : Nat} {i : Instr} {ls : Lo} {st st' : List Value} {M M' : Mem} (hl : gLook tab pc = some (kd, i)) (hk : kd = 3 ∨ kd = 4) (hg : gGet i SA o (Nat.beq kf 2) st M = some (st', M')) : gOne SA n d o kf tab pc ls st M = some (pc + gLen i, ls, st', M', 0, 0) := by
  rcases hk with rfl | rfl <;>
  · unfold gOne
    rw [hl]
    dsimp only
    rw [hg]
    rfl
theorem mn_s {SA : Sta} {n d o kf : Nat} {tab : List (Nat × Nat × Instr)} {pc pc1 pc2 k : Nat} {ls ls1 ls2 : Lo} {st st1 st2 : List Value} {M M1 M2 : Mem} (h1 : gOne SA n d o kf tab pc ls st M = some (pc1, ls1, st1, M1, 0, 0)) (h2 : gMany SA n d o kf tab k pc1 ls1 st1 M1 = some (pc2, ls2, st2, M2, 0, 0)) : gMany SA n d o kf tab (k + 1) pc ls st M = some (pc2, ls2, st2, M2, 0, 0) := by
  show (match gOne SA n d o kf tab pc ls st M with
    | some (pc', ls', st', M', c, s) => match gMany SA n d o kf tab k pc' ls' st' M' with
      | some (pc2, ls2, st2, M2, c2, s2) => some (pc2, ls2, st2, M2, c + c2, s + s2)
      | none => none
    | none => none) = _
  rw [h1]
  dsimp only
  rw [h2]
section CET
variable {SA : Sta} {M : Mem} {x1 : Int32}
set_option maxRecDepth 100000 in
theorem ly_c3 : fdB 22 7 2 28 = true ∧ fiB 28 6 11 (-2147483648) 2147483647 = true := by refine ⟨?_, ?_⟩ <;> decide +kernel
set_option maxRecDepth 100000 in
theorem ly_r0 : fdB 8 1 2 9 = true ∧ irB 9 256 (-2147483648) 2147483647 = true := by refine ⟨?_, ?_⟩ <;> decide +kernel
set_option maxRecDepth 100000 in
theorem ly_r1 : fdB 8 1 3 10 = true ∧ irB 10 256 (-2147483648) 2147483647 = true := by refine ⟨?_, ?_⟩ <;> decide +kernel
set_option maxRecDepth 100000 in
theorem ly_r2 : fdB 8 1 4 11 = true ∧ irB 11 256 (-2147483648) 2147483647 = true := by refine ⟨?_, ?_⟩ <;> decide +kernel
set_option maxRecDepth 100000 in
theorem ly_r3 : fdB 8 1 5 12 = true ∧ irB 12 256 (-2147483648) 2147483647 = true := by refine ⟨?_, ?_⟩ <;> decide +kernel
set_option maxRecDepth 100000 in
theorem ly_r4 : fdB 8 1 6 13 = true ∧ irB 13 256 (-2147483648) 2147483647 = true := by refine ⟨?_, ?_⟩ <;> decide +kernel
set_option maxRecDepth 100000 in
theorem ly_r5 : fdB 8 1 7 14 = true ∧ irB 14 256 (-2147483648) 2147483647 = true := by refine ⟨?_, ?_⟩ <;> decide +kernel
set_option maxRecDepth 100000 in
theorem ly_r6 : fdB 8 1 8 15 = true ∧ irB 15 256 (-2147483648) 2147483647 = true := by refine ⟨?_, ?_⟩ <;> decide +kernel
def CTail (SA : Sta) (M : Mem) (x1 : Int32) (k : Nat) : Prop := ∃ (n j pc' : Nat) (v : Int32), gMany SA n 998 10 1 mTc j 28 [some (.ref 0), some (.int x1), some (.int (nI k))] [] M = some (pc', [some (.ref 0), some (.int x1), some (.int (nI k))], [.int v], M, 0, 0) ∧ decode cX10_cell pc' = .ok (.ireturn, 1)
set_option maxRecDepth 200000 in
theorem ct_0 (hI : INV M) (c0 : 0 ≤ x1.toInt) (c1 : x1.toInt ≤ 255) : CTail SA M x1 0 := by
  obtain ⟨vs, b, a1, a2, a3⟩ := hI.1.fref sT_00 cl_land
  obtain ⟨vl, r, b1, b2, b3⟩ := hI.1.fref a3 ly_r0.1
  obtain ⟨l, d1, d2, _⟩ := hI.1.irow b3 ly_r0.2
  obtain ⟨nn, hnn⟩ : ∃ nn : Nat, x1.toInt = (nn : Int) := ⟨x1.toInt.toNat, by omega⟩
  obtain ⟨y, y1, _⟩ := at_c (l := l) hnn (by omega)
  refine ⟨0, 7, 85, y, ?_, by decide +kernel⟩
  refine mn_s (pc1 := 29) (ls1 := [some (.ref 0), some (.int x1), some (.int (nI 0))]) (st1 := [.int (nI 0)]) (M1 := M) rfl ?_
  refine mn_s (pc1 := 76) (ls1 := [some (.ref 0), some (.int x1), some (.int (nI 0))]) (st1 := []) (M1 := M) rfl ?_
  refine mn_s (pc1 := 77) (ls1 := [some (.ref 0), some (.int x1), some (.int (nI 0))]) (st1 := [.ref 0]) (M1 := M) rfl ?_
  refine mn_s (one_g (i := .getfield 28) rfl (Or.inl rfl) (gf_c (ini := false) rfl a1 a2)) ?_
  refine mn_s (one_g (i := .getfield 214) rfl (Or.inl rfl) (gf_c (ini := false) rfl b1 b2)) ?_
  refine mn_s (pc1 := 84) (ls1 := [some (.ref 0), some (.int x1), some (.int (nI 0))]) (st1 := [.int x1, .ref r]) (M1 := M) rfl ?_
  exact mn_s (k := 0) (one_g (i := .iaload) rfl (Or.inl rfl) (ia_c (o := 10) (ini := false) d1 y1)) rfl
set_option maxRecDepth 200000 in
theorem ct_1 (hI : INV M) (c0 : 0 ≤ x1.toInt) (c1 : x1.toInt ≤ 255) : CTail SA M x1 1 := by
  obtain ⟨vs, b, a1, a2, a3⟩ := hI.1.fref sT_00 cl_land
  obtain ⟨vl, r, b1, b2, b3⟩ := hI.1.fref a3 ly_r1.1
  obtain ⟨l, d1, d2, _⟩ := hI.1.irow b3 ly_r1.2
  obtain ⟨nn, hnn⟩ : ∃ nn : Nat, x1.toInt = (nn : Int) := ⟨x1.toInt.toNat, by omega⟩
  obtain ⟨y, y1, _⟩ := at_c (l := l) hnn (by omega)
  refine ⟨0, 7, 95, y, ?_, by decide +kernel⟩
  refine mn_s (pc1 := 29) (ls1 := [some (.ref 0), some (.int x1), some (.int (nI 1))]) (st1 := [.int (nI 1)]) (M1 := M) rfl ?_
  refine mn_s (pc1 := 86) (ls1 := [some (.ref 0), some (.int x1), some (.int (nI 1))]) (st1 := []) (M1 := M) rfl ?_
  refine mn_s (pc1 := 87) (ls1 := [some (.ref 0), some (.int x1), some (.int (nI 1))]) (st1 := [.ref 0]) (M1 := M) rfl ?_
  refine mn_s (one_g (i := .getfield 28) rfl (Or.inl rfl) (gf_c (ini := false) rfl a1 a2)) ?_
  refine mn_s (one_g (i := .getfield 249) rfl (Or.inl rfl) (gf_c (ini := false) rfl b1 b2)) ?_
  refine mn_s (pc1 := 94) (ls1 := [some (.ref 0), some (.int x1), some (.int (nI 1))]) (st1 := [.int x1, .ref r]) (M1 := M) rfl ?_
  exact mn_s (k := 0) (one_g (i := .iaload) rfl (Or.inl rfl) (ia_c (o := 10) (ini := false) d1 y1)) rfl
set_option maxRecDepth 200000 in
theorem ct_2 (hI : INV M) (c0 : 0 ≤ x1.toInt) (c1 : x1.toInt ≤ 255) : CTail SA M x1 2 := by
  obtain ⟨vs, b, a1, a2, a3⟩ := hI.1.fref sT_00 cl_land
  obtain ⟨vl, r, b1, b2, b3⟩ := hI.1.fref a3 ly_r2.1
  obtain ⟨l, d1, d2, _⟩ := hI.1.irow b3 ly_r2.2
  obtain ⟨nn, hnn⟩ : ∃ nn : Nat, x1.toInt = (nn : Int) := ⟨x1.toInt.toNat, by omega⟩
  obtain ⟨y, y1, _⟩ := at_c (l := l) hnn (by omega)
  refine ⟨0, 7, 105, y, ?_, by decide +kernel⟩
  refine mn_s (pc1 := 29) (ls1 := [some (.ref 0), some (.int x1), some (.int (nI 2))]) (st1 := [.int (nI 2)]) (M1 := M) rfl ?_
  refine mn_s (pc1 := 96) (ls1 := [some (.ref 0), some (.int x1), some (.int (nI 2))]) (st1 := []) (M1 := M) rfl ?_
  refine mn_s (pc1 := 97) (ls1 := [some (.ref 0), some (.int x1), some (.int (nI 2))]) (st1 := [.ref 0]) (M1 := M) rfl ?_
  refine mn_s (one_g (i := .getfield 28) rfl (Or.inl rfl) (gf_c (ini := false) rfl a1 a2)) ?_
  refine mn_s (one_g (i := .getfield 252) rfl (Or.inl rfl) (gf_c (ini := false) rfl b1 b2)) ?_
  refine mn_s (pc1 := 104) (ls1 := [some (.ref 0), some (.int x1), some (.int (nI 2))]) (st1 := [.int x1, .ref r]) (M1 := M) rfl ?_
  exact mn_s (k := 0) (one_g (i := .iaload) rfl (Or.inl rfl) (ia_c (o := 10) (ini := false) d1 y1)) rfl
set_option maxRecDepth 200000 in
theorem ct_3 (hI : INV M) (c0 : 0 ≤ x1.toInt) (c1 : x1.toInt ≤ 255) : CTail SA M x1 3 := by
  obtain ⟨vs, b, a1, a2, a3⟩ := hI.1.fref sT_00 cl_land
  obtain ⟨vl, r, b1, b2, b3⟩ := hI.1.fref a3 ly_r3.1
  obtain ⟨l, d1, d2, _⟩ := hI.1.irow b3 ly_r3.2
  obtain ⟨nn, hnn⟩ : ∃ nn : Nat, x1.toInt = (nn : Int) := ⟨x1.toInt.toNat, by omega⟩
  obtain ⟨y, y1, _⟩ := at_c (l := l) hnn (by omega)
  refine ⟨0, 7, 115, y, ?_, by decide +kernel⟩
  refine mn_s (pc1 := 29) (ls1 := [some (.ref 0), some (.int x1), some (.int (nI 3))]) (st1 := [.int (nI 3)]) (M1 := M) rfl ?_
  refine mn_s (pc1 := 106) (ls1 := [some (.ref 0), some (.int x1), some (.int (nI 3))]) (st1 := []) (M1 := M) rfl ?_
  refine mn_s (pc1 := 107) (ls1 := [some (.ref 0), some (.int x1), some (.int (nI 3))]) (st1 := [.ref 0]) (M1 := M) rfl ?_
  refine mn_s (one_g (i := .getfield 28) rfl (Or.inl rfl) (gf_c (ini := false) rfl a1 a2)) ?_
  refine mn_s (one_g (i := .getfield 255) rfl (Or.inl rfl) (gf_c (ini := false) rfl b1 b2)) ?_
  refine mn_s (pc1 := 114) (ls1 := [some (.ref 0), some (.int x1), some (.int (nI 3))]) (st1 := [.int x1, .ref r]) (M1 := M) rfl ?_
  exact mn_s (k := 0) (one_g (i := .iaload) rfl (Or.inl rfl) (ia_c (o := 10) (ini := false) d1 y1)) rfl
set_option maxRecDepth 200000 in
theorem ct_4 (hI : INV M) (c0 : 0 ≤ x1.toInt) (c1 : x1.toInt ≤ 255) : CTail SA M x1 4 := by
  obtain ⟨vs, b, a1, a2, a3⟩ := hI.1.fref sT_00 cl_land
  obtain ⟨vl, r, b1, b2, b3⟩ := hI.1.fref a3 ly_r4.1
  obtain ⟨l, d1, d2, _⟩ := hI.1.irow b3 ly_r4.2
  obtain ⟨nn, hnn⟩ : ∃ nn : Nat, x1.toInt = (nn : Int) := ⟨x1.toInt.toNat, by omega⟩
  obtain ⟨y, y1, _⟩ := at_c (l := l) hnn (by omega)
  refine ⟨0, 7, 125, y, ?_, by decide +kernel⟩
  refine mn_s (pc1 := 29) (ls1 := [some (.ref 0), some (.int x1), some (.int (nI 4))]) (st1 := [.int (nI 4)]) (M1 := M) rfl ?_
  refine mn_s (pc1 := 116) (ls1 := [some (.ref 0), some (.int x1), some (.int (nI 4))]) (st1 := []) (M1 := M) rfl ?_
  refine mn_s (pc1 := 117) (ls1 := [some (.ref 0), some (.int x1), some (.int (nI 4))]) (st1 := [.ref 0]) (M1 := M) rfl ?_
  refine mn_s (one_g (i := .getfield 28) rfl (Or.inl rfl) (gf_c (ini := false) rfl a1 a2)) ?_
  refine mn_s (one_g (i := .getfield 217) rfl (Or.inl rfl) (gf_c (ini := false) rfl b1 b2)) ?_
  refine mn_s (pc1 := 124) (ls1 := [some (.ref 0), some (.int x1), some (.int (nI 4))]) (st1 := [.int x1, .ref r]) (M1 := M) rfl ?_
  exact mn_s (k := 0) (one_g (i := .iaload) rfl (Or.inl rfl) (ia_c (o := 10) (ini := false) d1 y1)) rfl
set_option maxRecDepth 200000 in
theorem ct_5 (hI : INV M) (c0 : 0 ≤ x1.toInt) (c1 : x1.toInt ≤ 255) : CTail SA M x1 5 := by
  obtain ⟨vs, b, a1, a2, a3⟩ := hI.1.fref sT_00 cl_land
  obtain ⟨vl, r, b1, b2, b3⟩ := hI.1.fref a3 ly_r5.1
  obtain ⟨l, d1, d2, _⟩ := hI.1.irow b3 ly_r5.2
  obtain ⟨nn, hnn⟩ : ∃ nn : Nat, x1.toInt = (nn : Int) := ⟨x1.toInt.toNat, by omega⟩
  obtain ⟨y, y1, _⟩ := at_c (l := l) hnn (by omega)
  refine ⟨0, 7, 135, y, ?_, by decide +kernel⟩
  refine mn_s (pc1 := 29) (ls1 := [some (.ref 0), some (.int x1), some (.int (nI 5))]) (st1 := [.int (nI 5)]) (M1 := M) rfl ?_
  refine mn_s (pc1 := 126) (ls1 := [some (.ref 0), some (.int x1), some (.int (nI 5))]) (st1 := []) (M1 := M) rfl ?_
  refine mn_s (pc1 := 127) (ls1 := [some (.ref 0), some (.int x1), some (.int (nI 5))]) (st1 := [.ref 0]) (M1 := M) rfl ?_
  refine mn_s (one_g (i := .getfield 28) rfl (Or.inl rfl) (gf_c (ini := false) rfl a1 a2)) ?_
  refine mn_s (one_g (i := .getfield 258) rfl (Or.inl rfl) (gf_c (ini := false) rfl b1 b2)) ?_
  refine mn_s (pc1 := 134) (ls1 := [some (.ref 0), some (.int x1), some (.int (nI 5))]) (st1 := [.int x1, .ref r]) (M1 := M) rfl ?_
  exact mn_s (k := 0) (one_g (i := .iaload) rfl (Or.inl rfl) (ia_c (o := 10) (ini := false) d1 y1)) rfl
set_option maxRecDepth 200000 in
theorem ct_6 (hI : INV M) (c0 : 0 ≤ x1.toInt) (c1 : x1.toInt ≤ 255) : CTail SA M x1 6 := by
  obtain ⟨vs, b, a1, a2, a3⟩ := hI.1.fref sT_00 cl_land
  obtain ⟨vl, r, b1, b2, b3⟩ := hI.1.fref a3 ly_r6.1
  obtain ⟨l, d1, d2, _⟩ := hI.1.irow b3 ly_r6.2
  obtain ⟨nn, hnn⟩ : ∃ nn : Nat, x1.toInt = (nn : Int) := ⟨x1.toInt.toNat, by omega⟩
  obtain ⟨y, y1, _⟩ := at_c (l := l) hnn (by omega)
  refine ⟨0, 7, 145, y, ?_, by decide +kernel⟩
  refine mn_s (pc1 := 29) (ls1 := [some (.ref 0), some (.int x1), some (.int (nI 6))]) (st1 := [.int (nI 6)]) (M1 := M) rfl ?_
  refine mn_s (pc1 := 136) (ls1 := [some (.ref 0), some (.int x1), some (.int (nI 6))]) (st1 := []) (M1 := M) rfl ?_
  refine mn_s (pc1 := 137) (ls1 := [some (.ref 0), some (.int x1), some (.int (nI 6))]) (st1 := [.ref 0]) (M1 := M) rfl ?_
  refine mn_s (one_g (i := .getfield 28) rfl (Or.inl rfl) (gf_c (ini := false) rfl a1 a2)) ?_
  refine mn_s (one_g (i := .getfield 226) rfl (Or.inl rfl) (gf_c (ini := false) rfl b1 b2)) ?_
  refine mn_s (pc1 := 144) (ls1 := [some (.ref 0), some (.int x1), some (.int (nI 6))]) (st1 := [.int x1, .ref r]) (M1 := M) rfl ?_
  exact mn_s (k := 0) (one_g (i := .iaload) rfl (Or.inl rfl) (ia_c (o := 10) (ini := false) d1 y1)) rfl
set_option maxRecDepth 200000 in
theorem ct_7 (hI : INV M) (c0 : 0 ≤ x1.toInt) (c1 : x1.toInt ≤ 255) : CTail SA M x1 7 := by
  obtain ⟨w, hw, hw1⟩ := isw_g hI.1 c0 c1
  obtain ⟨n, hw⟩ := hw.any SA
  rcases hw1 with rfl | rfl
  · refine ⟨n, 7, 159, 0, ?_, by decide +kernel⟩
    refine mn_s (pc1 := 29) (ls1 := [some (.ref 0), some (.int x1), some (.int (nI 7))]) (st1 := [.int (nI 7)]) (M1 := M) rfl ?_
    refine mn_s (pc1 := 146) (ls1 := [some (.ref 0), some (.int x1), some (.int (nI 7))]) (st1 := []) (M1 := M) rfl ?_
    refine mn_s (pc1 := 147) (ls1 := [some (.ref 0), some (.int x1), some (.int (nI 7))]) (st1 := [.ref 0]) (M1 := M) rfl ?_
    refine mn_s (pc1 := 148) (ls1 := [some (.ref 0), some (.int x1), some (.int (nI 7))]) (st1 := [.int x1, .ref 0]) (M1 := M) rfl ?_
    refine mn_s (one_call (i := .invokevirtual 261) rfl (cal_9w hI.r0) hw) ?_
    refine mn_s (pc1 := 158) (ls1 := [some (.ref 0), some (.int x1), some (.int (nI 7))]) (st1 := []) (M1 := M) rfl ?_
    exact mn_s (k := 0) (pc1 := 159) (ls1 := [some (.ref 0), some (.int x1), some (.int (nI 7))]) (st1 := [.int 0]) (M1 := M) rfl rfl
  · refine ⟨n, 8, 159, 1, ?_, by decide +kernel⟩
    refine mn_s (pc1 := 29) (ls1 := [some (.ref 0), some (.int x1), some (.int (nI 7))]) (st1 := [.int (nI 7)]) (M1 := M) rfl ?_
    refine mn_s (pc1 := 146) (ls1 := [some (.ref 0), some (.int x1), some (.int (nI 7))]) (st1 := []) (M1 := M) rfl ?_
    refine mn_s (pc1 := 147) (ls1 := [some (.ref 0), some (.int x1), some (.int (nI 7))]) (st1 := [.ref 0]) (M1 := M) rfl ?_
    refine mn_s (pc1 := 148) (ls1 := [some (.ref 0), some (.int x1), some (.int (nI 7))]) (st1 := [.int x1, .ref 0]) (M1 := M) rfl ?_
    refine mn_s (one_call (i := .invokevirtual 261) rfl (cal_9w hI.r0) hw) ?_
    refine mn_s (pc1 := 154) (ls1 := [some (.ref 0), some (.int x1), some (.int (nI 7))]) (st1 := []) (M1 := M) rfl ?_
    refine mn_s (pc1 := 155) (ls1 := [some (.ref 0), some (.int x1), some (.int (nI 7))]) (st1 := [.int 1]) (M1 := M) rfl ?_
    exact mn_s (k := 0) (pc1 := 159) (ls1 := [some (.ref 0), some (.int x1), some (.int (nI 7))]) (st1 := [.int 1]) (M1 := M) rfl rfl
set_option maxRecDepth 200000 in
theorem ct_8 (hI : INV M) (c0 : 0 ≤ x1.toInt) (c1 : x1.toInt ≤ 255) : CTail SA M x1 8 := by
  obtain ⟨w, hw, hw1⟩ := isw_g hI.1 c0 c1
  obtain ⟨n, hw⟩ := hw.any SA
  obtain ⟨vs, b, a1, a2, a3⟩ := hI.1.fref sT_00 cl_land
  obtain ⟨vl, r, b1, b2, b3⟩ := hI.1.fref a3 ly_r4.1
  obtain ⟨l, d1, d2, _⟩ := hI.1.irow b3 ly_r4.2
  obtain ⟨nn, hnn⟩ : ∃ nn : Nat, x1.toInt = (nn : Int) := ⟨x1.toInt.toNat, by omega⟩
  obtain ⟨y, y1, _⟩ := at_c (l := l) hnn (by omega)
  obtain ⟨vs2, bw, e1, e2, e3⟩ := hI.1.fref sT_00 cl_walk
  obtain ⟨vw, bl, f1, f2, f3⟩ := hI.1.fref e3 ly_c3.1
  obtain ⟨vz, z, g1, g2, _⟩ := hI.1.fnum f3 ly_c3.2
  rcases hw1 with rfl | rfl
  · refine ⟨n, 7, 195, 0, ?_, by decide +kernel⟩
    refine mn_s (pc1 := 29) (ls1 := [some (.ref 0), some (.int x1), some (.int (nI 8))]) (st1 := [.int (nI 8)]) (M1 := M) rfl ?_
    refine mn_s (pc1 := 160) (ls1 := [some (.ref 0), some (.int x1), some (.int (nI 8))]) (st1 := []) (M1 := M) rfl ?_
    refine mn_s (pc1 := 161) (ls1 := [some (.ref 0), some (.int x1), some (.int (nI 8))]) (st1 := [.ref 0]) (M1 := M) rfl ?_
    refine mn_s (pc1 := 162) (ls1 := [some (.ref 0), some (.int x1), some (.int (nI 8))]) (st1 := [.int x1, .ref 0]) (M1 := M) rfl ?_
    refine mn_s (one_call (i := .invokevirtual 261) rfl (cal_9w hI.r0) hw) ?_
    refine mn_s (pc1 := 194) (ls1 := [some (.ref 0), some (.int x1), some (.int (nI 8))]) (st1 := []) (M1 := M) rfl ?_
    exact mn_s (k := 0) (pc1 := 195) (ls1 := [some (.ref 0), some (.int x1), some (.int (nI 8))]) (st1 := [.int 0]) (M1 := M) rfl rfl
  · by_cases h : y < z
    · refine ⟨n, 17, 195, 0, ?_, by decide +kernel⟩
      refine mn_s (pc1 := 29) (ls1 := [some (.ref 0), some (.int x1), some (.int (nI 8))]) (st1 := [.int (nI 8)]) (M1 := M) rfl ?_
      refine mn_s (pc1 := 160) (ls1 := [some (.ref 0), some (.int x1), some (.int (nI 8))]) (st1 := []) (M1 := M) rfl ?_
      refine mn_s (pc1 := 161) (ls1 := [some (.ref 0), some (.int x1), some (.int (nI 8))]) (st1 := [.ref 0]) (M1 := M) rfl ?_
      refine mn_s (pc1 := 162) (ls1 := [some (.ref 0), some (.int x1), some (.int (nI 8))]) (st1 := [.int x1, .ref 0]) (M1 := M) rfl ?_
      refine mn_s (one_call (i := .invokevirtual 261) rfl (cal_9w hI.r0) hw) ?_
      refine mn_s (pc1 := 168) (ls1 := [some (.ref 0), some (.int x1), some (.int (nI 8))]) (st1 := []) (M1 := M) rfl ?_
      refine mn_s (pc1 := 169) (ls1 := [some (.ref 0), some (.int x1), some (.int (nI 8))]) (st1 := [.ref 0]) (M1 := M) rfl ?_
      refine mn_s (one_g (i := .getfield 28) rfl (Or.inl rfl) (gf_c (ini := false) rfl a1 a2)) ?_
      refine mn_s (one_g (i := .getfield 217) rfl (Or.inl rfl) (gf_c (ini := false) rfl b1 b2)) ?_
      refine mn_s (pc1 := 176) (ls1 := [some (.ref 0), some (.int x1), some (.int (nI 8))]) (st1 := [.int x1, .ref r]) (M1 := M) rfl ?_
      refine mn_s (one_g (i := .iaload) rfl (Or.inl rfl) (ia_c (o := 10) (ini := false) d1 y1)) ?_
      refine mn_s (pc1 := 178) (ls1 := [some (.ref 0), some (.int x1), some (.int (nI 8))]) (st1 := [.ref 0, .int y]) (M1 := M) rfl ?_
      refine mn_s (one_g (i := .getfield 37) rfl (Or.inl rfl) (gf_c (ini := false) rfl e1 e2)) ?_
      refine mn_s (one_g (i := .getfield 134) rfl (Or.inl rfl) (gf_c (ini := false) rfl f1 f2)) ?_
      refine mn_s (one_g (i := .getfield 264) rfl (Or.inl rfl) (gf_c (ini := false) rfl g1 g2)) ?_
      refine mn_s (pc1 := if y < z then 194 else 190) (ls1 := [some (.ref 0), some (.int x1), some (.int (nI 8))]) (st1 := []) (M1 := M) rfl ?_
      rw [if_pos h]
      exact mn_s (k := 0) (pc1 := 195) (ls1 := [some (.ref 0), some (.int x1), some (.int (nI 8))]) (st1 := [.int 0]) (M1 := M) rfl rfl
    · refine ⟨n, 18, 195, 1, ?_, by decide +kernel⟩
      refine mn_s (pc1 := 29) (ls1 := [some (.ref 0), some (.int x1), some (.int (nI 8))]) (st1 := [.int (nI 8)]) (M1 := M) rfl ?_
      refine mn_s (pc1 := 160) (ls1 := [some (.ref 0), some (.int x1), some (.int (nI 8))]) (st1 := []) (M1 := M) rfl ?_
      refine mn_s (pc1 := 161) (ls1 := [some (.ref 0), some (.int x1), some (.int (nI 8))]) (st1 := [.ref 0]) (M1 := M) rfl ?_
      refine mn_s (pc1 := 162) (ls1 := [some (.ref 0), some (.int x1), some (.int (nI 8))]) (st1 := [.int x1, .ref 0]) (M1 := M) rfl ?_
      refine mn_s (one_call (i := .invokevirtual 261) rfl (cal_9w hI.r0) hw) ?_
      refine mn_s (pc1 := 168) (ls1 := [some (.ref 0), some (.int x1), some (.int (nI 8))]) (st1 := []) (M1 := M) rfl ?_
      refine mn_s (pc1 := 169) (ls1 := [some (.ref 0), some (.int x1), some (.int (nI 8))]) (st1 := [.ref 0]) (M1 := M) rfl ?_
      refine mn_s (one_g (i := .getfield 28) rfl (Or.inl rfl) (gf_c (ini := false) rfl a1 a2)) ?_
      refine mn_s (one_g (i := .getfield 217) rfl (Or.inl rfl) (gf_c (ini := false) rfl b1 b2)) ?_
      refine mn_s (pc1 := 176) (ls1 := [some (.ref 0), some (.int x1), some (.int (nI 8))]) (st1 := [.int x1, .ref r]) (M1 := M) rfl ?_
      refine mn_s (one_g (i := .iaload) rfl (Or.inl rfl) (ia_c (o := 10) (ini := false) d1 y1)) ?_
      refine mn_s (pc1 := 178) (ls1 := [some (.ref 0), some (.int x1), some (.int (nI 8))]) (st1 := [.ref 0, .int y]) (M1 := M) rfl ?_
      refine mn_s (one_g (i := .getfield 37) rfl (Or.inl rfl) (gf_c (ini := false) rfl e1 e2)) ?_
      refine mn_s (one_g (i := .getfield 134) rfl (Or.inl rfl) (gf_c (ini := false) rfl f1 f2)) ?_
      refine mn_s (one_g (i := .getfield 264) rfl (Or.inl rfl) (gf_c (ini := false) rfl g1 g2)) ?_
      refine mn_s (pc1 := if y < z then 194 else 190) (ls1 := [some (.ref 0), some (.int x1), some (.int (nI 8))]) (st1 := []) (M1 := M) rfl ?_
      rw [if_neg h]
      refine mn_s (pc1 := 191) (ls1 := [some (.ref 0), some (.int x1), some (.int (nI 8))]) (st1 := [.int 1]) (M1 := M) rfl ?_
      exact mn_s (k := 0) (pc1 := 195) (ls1 := [some (.ref 0), some (.int x1), some (.int (nI 8))]) (st1 := [.int 1]) (M1 := M) rfl rfl
theorem ct_all (hI : INV M) (c0 : 0 ≤ x1.toInt) (c1 : x1.toInt ≤ 255) {k : Nat} (hk : k < 9) : CTail SA M x1 k := by
  match k, hk with
  | 0, _ => exact ct_0 hI c0 c1
  | 1, _ => exact ct_1 hI c0 c1
  | 2, _ => exact ct_2 hI c0 c1
  | 3, _ => exact ct_3 hI c0 c1
  | 4, _ => exact ct_4 hI c0 c1
  | 5, _ => exact ct_5 hI c0 c1
  | 6, _ => exact ct_6 hI c0 c1
  | 7, _ => exact ct_7 hI c0 c1
  | 8, _ => exact ct_8 hI c0 c1
  | n + 9, hk => exact absurd hk (by omega)
end CET
set_option maxRecDepth 100000 in
theorem sT_out : gNth sT 663 = some 91 ∧ (match gNth sG 91 with
  | some (.inr (2, 1, _)) => true
  | _ => false) = true := by refine ⟨?_, ?_⟩ <;> decide +kernel
/-- the place for an answer, written -/
theorem INV.out {M : Mem} (hI : INV M) : ∃ l : List Int64, gNth M 663 = some (.inl (2, .inr (.inl l))) ∧ l.length = 1 ∧ ∀ z : Int64, INV (gPut M 663 (.inl (2, .inr (.inl (gPut l 0 z))))) := by
  obtain ⟨hT, hf⟩ := hI
  obtain ⟨s1, s2⟩ := sT_out
  split at s2
  rotate_left
  · cases s2
  rename_i w e
  obtain ⟨ee, e1, e2⟩ := hT.at s1 e
  obtain ⟨l, rfl, l1⟩ := e2
  refine ⟨l, e1, l1, fun z => ?_⟩
  have hF : Frm sT [(1091, 0)] M (gPut M 663 (.inl (2, .inr (.inl (gPut l 0 z))))) := Frm.row e1 s1 (List.mem_singleton.mpr rfl)
  refine ⟨hT.put (fun g t q1 q2 => ?_), fun x hx => ?_⟩
  · rw [s1] at q1
    cases q1
    rw [e] at q2
    cases q2
    exact ⟨_, rfl, by rw [put_len]; exact l1⟩
  · have h9 := hf x hx
    rcases hx with rfl | rfl | rfl | rfl
    · exact dp0_frm 0 24 _ _ _ _ hF (by decide) h9
    · exact dp0_frm 0 28 _ _ _ _ hF (by decide) h9
    · exact dp0_frm 0 32 _ _ _ _ hF (by decide) h9
    · exact dp0_frm 0 34 _ _ _ _ hF (by decide) h9
theorem ls_c {SA : Sta} {o : Nat} {ini : Bool} {M : Mem} {l : List Int64} {r : List Value} {z : Int64} (hM : gNth M 663 = some (.inl (2, .inr (.inl l)))) (hl : l.length = 1) : gGet .lastore SA o ini (.long z :: .int 0 :: .ref 663 :: r) M = some (r, gPut M 663 (.inl (2, .inr (.inl (gPut l 0 z))))) := by
  match l, hl with
  | [y], _ =>
    show (match gNth M 663 with
      | some (.inl (2, .inr (.inl l))) => match gAt l 0 with
        | some _ => some (r, gPut M 663 (.inl (2, .inr (.inl (gPut l (0 : Int32).toNatClampNeg z)))))
        | none => none
      | _ => none) = _
    rw [hM]
    rfl
section CEM
variable {l : Launch} {B : Nat} {sa : Nat → Nat} {cy : Nat → ClassId} {dC : Nat → ClassId} {dI : Nat → Nat → Nat} {SA : Sta} {x1 : Int32} {M : Mem}
set_option maxHeartbeats 8000000 in
set_option maxRecDepth 200000 in
theorem met_ans (hlib : MetLib l B sa cy dC dI SA) (hr0 : ∃ vs, gNth M 0 = some (.inr (10, vs))) (g1 : Ev none 997 127 0 [some (.ref 0), some (.int x1)] [] M (some (.int 1)) M 0 0) {k : Nat} (hk : k < 9) {n9 j9 pc9 : Nat} {v : Int32} (h9 : gMany SA n9 998 10 1 mTc j9 28 [some (.ref 0), some (.int x1), some (.int (nI k))] [] M = some (pc9, [some (.ref 0), some (.int x1), some (.int (nI k))], [.int v], M, 0, 0)) (hd9 : decode cX10_cell pc9 = .ok (.ireturn, 1)) : Met l yX10_cell (.code yX10_cell cX10_cell 3 (some .int) :: W0) ({ frames := 1006, cells := 0, slots := 0, locals := 40240 }) (Pcw B sa cy dC dI SA [.ref 0, .int x1, .int (nI k)] M) (Qcw B sa cy dC dI (some (.int v)) M) 0 0 (fun q => B ≤ q) := by
  refine Met.ofW (cc := cX10_cell) (maxL := 3) (ret := some .int) (by decide +kernel) rfl ?_
  intro p e s m args below meth c s₁ B9 hml hv
  obtain ⟨rfl, hI, hsz, hP⟩ := hv
  have hts : ∀ w ∈ W0, w.before (([.ref 0, .int x1, .int (nI k)] : List Value).map (rV B sa)).toArray s = true := fun w hw => atoms_spec (ws := .code yX10_cell cX10_cell 3 (some .int) :: W0) B9.pre w (List.mem_cons_of_mem _ hw)
  have hown : s.vm.findClass RX10 = some m.cls := findClass_of_methodNamed B9.named
  have hlv := lv_entry (([.ref 0, .int x1, .int (nI k)] : List Value).map (rV B sa)) (n := 3) (Nat.le_refl _)
  rw [lg_entry_eq]
  generalize (lg_sl (([.ref 0, .int x1, .int (nI k)] : List Value).map (rV B sa)) ++ List.replicate (3 - (lg_sl (([.ref 0, .int x1, .int (nI k)] : List Value).map (rV B sa))).length) Slot.unset).toArray = ls at hlv ⊢
  have hL : LV B sa 3 [some (.ref 0), some (.int x1), some (.int (nI k))] ls := by
    refine ⟨rfl, _, hlv, fun i w hw => ?_⟩
    have := args_in B sa [.ref 0, .int x1, .int (nI k)] 0 i w hw
    rwa [Nat.zero_add] at this
  have C : Ctx p (headSpec (.code yX10_cell cX10_cell 3 (some .int) :: W0) ({ frames := 1006, cells := 0, slots := 0, locals := 40240 })).room s m (([.ref 0, .int x1, .int (nI k)] : List Value).map (rV B sa)).toArray meth c B sa cy dC dI SA 10 1 998 3 RX10 cX10_cell := ⟨B9.exec, B9.bytes, hml, rfl, hown, hts, hI, (fun q => by cases q), Nat.le_refl _, Nat.le_refl _⟩
  have hr : ∀ {pc : Nat} {vs : Lo}, decode cX10_cell pc = .ok (.ireturn, 1) → Wst p l e (headSpec (.code yX10_cell cX10_cell 3 (some .int) :: W0) ({ frames := 1006, cells := 0, slots := 0, locals := 40240 })).room s m (([.ref 0, .int x1, .int (nI k)] : List Value).map (rV B sa)).toArray below meth c (MQ below (Qcw B sa cy dC dI (some (.int v)) M) (([.ref 0, .int x1, .int (nI k)] : List Value).map (rV B sa)).toArray s 0 0 (fun q => B ≤ q)) B sa cy dC dI 3 0 0 pc vs [.int v] M := fun hd => ret_W B9.exec B9.bytes B9.returns B9.notSynchronized hI hd
  refine many_ok (n := 0) (pc := 0) (vs := [some (.ref 0), some (.int x1), some (.int (nI k))]) (st := []) (M := M) hlib C ck_c 2 (pc' := 2) (vs' := [some (.ref 0), some (.int x1), some (.int (nI k))]) (st' := [.int x1, .ref 0]) (M' := M) (c0 := 0) (s0 := 0) rfl (Nat.zero_le _) (Nat.zero_le _) ?_ s.heap [] ls hP va_S.rf hsz hL
  obtain ⟨n1, h1⟩ := g1.any SA
  refine one_ok hlib C ck_c (one_call (i := .invokevirtual 113) (id := 127) (ls0 := [some (.ref 0), some (.int x1)]) (rest := []) rfl (cal_9c hr0) h1) (Nat.zero_le _) (Nat.zero_le _) ?_
  refine many_ok (n := 0) hlib C ck_c 4 (pc' := 12) (vs' := [some (.ref 0), some (.int x1), some (.int (nI k))]) (st' := [.int 8, .int 0, .int (nI k)]) (M' := M) (c0 := 0) (s0 := 0) rfl (Nat.zero_le _) (Nat.zero_le _) ?_
  have h2 : ∃ n2, go SA n2 997 126 0 [some (.int (nI k)), some (.int 0), some (.int 8)] [] M = some (some (.int 1), M, 0, 0) := by
    have a : ∀ k : Nat, k < 9 → ¬ nI k < 0 ∧ ¬ 8 < nI k := by decide
    exact within_in (a k hk).1 (a k hk).2
  obtain ⟨n2, h2⟩ := h2
  refine one_ok hlib C ck_c (one_call (i := .invokestatic 103) (id := 126) (ls0 := [some (.int (nI k)), some (.int 0), some (.int 8)]) (rest := []) rfl rfl h2) (Nat.zero_le _) (Nat.zero_le _) ?_
  refine many_ok (n := 0) hlib C ck_c 1 (pc' := 28) (vs' := [some (.ref 0), some (.int x1), some (.int (nI k))]) (st' := []) (M' := M) (c0 := 0) (s0 := 0) rfl (Nat.zero_le _) (Nat.zero_le _) ?_
  exact many_ok hlib C ck_c j9 h9 (Nat.zero_le _) (Nat.zero_le _) (hr hd9)
set_option maxHeartbeats 8000000 in
set_option maxRecDepth 200000 in
theorem met_Lans (hlib : MetLib l B sa cy dC dI SA) (hr0 : ∃ vs, gNth M 0 = some (.inr (10, vs))) (g1 : Ev none 997 127 0 [some (.ref 0), some (.int x1)] [] M (some (.int 1)) M 0 0) {k : Nat} (hk : k < 9) {n9 j9 pc9 : Nat} {v : Int32} (h9 : gMany SA n9 998 10 1 mTc j9 28 [some (.ref 0), some (.int x1), some (.int (nI k))] [] M = some (pc9, [some (.ref 0), some (.int x1), some (.int (nI k))], [.int v], M, 0, 0)) (hd9 : decode cX10_cell pc9 = .ok (.ireturn, 1)) {lo : List Int64} (ho : gNth M 663 = some (.inl (2, .inr (.inl lo)))) (ho1 : lo.length = 1) : Met l yL_cell (.codeWith yL_cell cL_cell 5 (some .int) [(0, 10, 13, 13)] :: W0) ({ frames := 1007, cells := 0, slots := 0, locals := 40280 }) (PcX B sa cy dC dI SA [.ref 0, .int x1, .int (nI k), .ref 663] M) (Qcw B sa cy dC dI (some (.int 0)) (gPut M 663 (.inl (2, .inr (.inl (gPut lo 0 v.toInt64)))))) 0 0 (fun q => B ≤ q) := by
  refine va_MetW (cc := cL_cell) (maxL := 5) (ret := some .int) (hh := [(0, 10, 13, 13)]) (by decide +kernel) rfl ?_
  intro p e s m args below meth c s₁ B9 hml hv
  obtain ⟨⟨rfl, hI, hsz, hP⟩, hXt⟩ := hv
  have hts0 := atoms_spec (ws := .codeWith yL_cell cL_cell 5 (some .int) [(0, 10, 13, 13)] :: W0) B9.pre
  have hts : ∀ w ∈ W0, w.before (([.ref 0, .int x1, .int (nI k), .ref 663] : List Value).map (rV B sa)).toArray s = true := fun w hw => hts0 w (List.mem_cons_of_mem _ hw)
  have hown : s.vm.findClass RL = some m.cls := findClass_of_methodNamed B9.named
  have hlv := lv_entry (([.ref 0, .int x1, .int (nI k), .ref 663] : List Value).map (rV B sa)) (n := 5) (show 4 ≤ 5 by decide)
  rw [lg_entry_eq]
  generalize (lg_sl (([.ref 0, .int x1, .int (nI k), .ref 663] : List Value).map (rV B sa)) ++ List.replicate (5 - (lg_sl (([.ref 0, .int x1, .int (nI k), .ref 663] : List Value).map (rV B sa))).length) Slot.unset).toArray = ls at hlv ⊢
  have hL : LV B sa 5 [some (.ref 0), some (.int x1), some (.int (nI k)), some (.ref 663), none] ls := by
    refine ⟨rfl, _, hlv, fun i w hw => ?_⟩
    have := args_in B sa [.ref 0, .int x1, .int (nI k), .ref 663] 0 i w (pad_nth (n := 5) hw)
    rwa [Nat.zero_add] at this
  have C : Ctx p (headSpec (.codeWith yL_cell cL_cell 5 (some .int) [(0, 10, 13, 13)] :: W0) ({ frames := 1007, cells := 0, slots := 0, locals := 40280 })).room s m (([.ref 0, .int x1, .int (nI k), .ref 663] : List Value).map (rV B sa)).toArray meth c B sa cy dC dI SA 12 0 999 5 RL cL_cell := ⟨B9.exec, B9.bytes, hml, rfl, hown, hts, hI, (fun q => by cases q), Nat.le_refl _, Nat.le_refl _⟩
  refine many_ok (n := 0) (pc := 0) (vs := [some (.ref 0), some (.int x1), some (.int (nI k)), some (.ref 663), none]) (st := []) (M := M) hlib C ck_l 5 (pc' := 5) (vs' := [some (.ref 0), some (.int x1), some (.int (nI k)), some (.ref 663), none]) (st' := [.int (nI k), .int x1, .ref 0, .int 0, .ref 663]) (M' := M) (c0 := 0) (s0 := 0) rfl (Nat.zero_le _) (Nat.zero_le _) ?_ s.heap [] ls hP va_S.rf hsz hL
  clear hP hsz hL hlv ls
  have tail : Wst p l e (headSpec (.codeWith yL_cell cL_cell 5 (some .int) [(0, 10, 13, 13)] :: W0) ({ frames := 1007, cells := 0, slots := 0, locals := 40280 })).room s m (([.ref 0, .int x1, .int (nI k), .ref 663] : List Value).map (rV B sa)).toArray below meth c (MQ below (Qcw B sa cy dC dI (some (.int 0)) (gPut M 663 (.inl (2, .inr (.inl (gPut lo 0 v.toInt64)))))) (([.ref 0, .int x1, .int (nI k), .ref 663] : List Value).map (rV B sa)).toArray s 0 0 (fun q => B ≤ q)) B sa cy dC dI 5 0 0 8 [some (.ref 0), some (.int x1), some (.int (nI k)), some (.ref 663), none] [.int v, .int 0, .ref 663] M := by
    refine many_ok (n := 0) hlib C ck_l 1 (pc' := 9) (vs' := [some (.ref 0), some (.int x1), some (.int (nI k)), some (.ref 663), none]) (st' := [.long v.toInt64, .int 0, .ref 663]) (M' := M) (c0 := 0) (s0 := 0) rfl (Nat.zero_le _) (Nat.zero_le _) ?_
    refine one_ok (n := 0) hlib C ck_l (one_g rfl (Or.inr rfl) (ls_c ho ho1)) (Nat.zero_le _) (Nat.zero_le _) ?_
    exact many_ok (n := 0) hlib C ck_l 2 (pc' := 18) (vs' := [some (.ref 0), some (.int x1), some (.int (nI k)), some (.ref 663), none]) (st' := [.int 0]) (M' := (gPut M 663 (.inl (2, .inr (.inl (gPut lo 0 v.toInt64)))))) (c0 := 0) (s0 := 0) rfl (Nat.zero_le _) (Nat.zero_le _) (ret_W B9.exec B9.bytes B9.returns B9.notSynchronized hI (by decide +kernel))
  intro H locs ls hP hS hsz hL
  refine W.sz (fun hz => ?_)
  have hH := world_size hI hP hS hsz hz
  obtain ⟨-, l9, hl9, -⟩ := id hL
  have hpre : PreV s H RX10 (B + 0) (Pcw B sa cy dC dI SA [.ref 0, .int x1, .int (nI k)] M) ([.int x1, .int (nI k)] : List Value) := pre_v (M := M) (as := [.int x1, .int (nI k)]) (a := 0) (o2 := 10) (C := RX10) hr0.choose_spec (by decide) rfl hI hP hS hH
  exact back_ok (rest := [.int 0, .ref 663]) (va_runV (C := RX10) (b := B + 0) (As := [.int x1, .int (nI k)]) (rest := [.int 0, .ref (B + 663)]) (cc := cL_cell) (nL := 5) ⟨B9.exec, B9.bytes, hml, hown, hts⟩ (met_ans hlib hr0 g1 hk h9 hd9) (cw_cell hts (Nat.le_refl _) (Nat.le_of_ble_eq_true rfl)) hpre rfl rfl hl9.1 rfl (show 0 + (1 + (1 + 0)) ≤ 8 by decide) d_l5 ⟨Nat.le_refl _, Nat.le_refl _⟩) hS (fun H1 locs1 hP1 hS1 => tail H1 locs1 ls hP1 hS1 hsz hL)
end CEM
/-! BOTH SIDES BESIDE EACH OTHER: what a pair of calls keeps -/
def SV (M : Mem) : Prop := INV M ∧ ∃ z l, LC z M ∧ LR z M ∧ KC l M ∧ KR l M
noncomputable def zeB (a ci f : Nat) (c : CN) : Bool := c.2.2.2.2.2.2.all (fun s => match s.2.2.1 with
  | [(.inl b, cj, g, .inl (lo, hi))] => Nat.beq b a && (Nat.beq cj ci && (Nat.beq g f && (decide (lo = 0) && decide (hi = 0))))
  | _ => false)
theorem zeB_V {a ci f : Nat} {c : CN} {ws : List Value} {v : Option Value} {M : Mem} (h : zeB a ci f c = true) (hs : ∃ s ∈ c.2.2.2.2.2.2, csOK sT FL0 ws v M s) : ∃ vs, gNth M a = some (.inr (ci, vs)) ∧ gNth vs f = some (.int 0) := by
  obtain ⟨s, hs, _, _, hv, h1, _⟩ := hs
  have h2 := List.all_eq_true.mp h s hs
  split at h2
  rotate_left
  · cases h2
  rename_i b cj g lo hi e
  obtain ⟨h3, h2⟩ := and_t h2
  obtain ⟨h4, h2⟩ := and_t h2
  obtain ⟨h5, h2⟩ := and_t h2
  obtain ⟨h6, h7⟩ := and_t h2
  cases Nat.eq_of_beq_eq_true h3
  cases Nat.eq_of_beq_eq_true h4
  cases Nat.eq_of_beq_eq_true h5
  cases of_decide_eq_true h6
  cases of_decide_eq_true h7
  rw [e] at h1
  cases hv with
  | nil => exact h1.elim
  | cons w hv =>
    obtain ⟨⟨a', vs, k1, k2, k3, x, rfl, x1, x2⟩, _⟩ := h1
    have k1 : a' = a := k1
    subst k1
    have x3 : x = 0 := Int32.toInt_inj.mp (by
      have x1 : (0 : Int) ≤ x.toInt := x1
      have x2 : x.toInt ≤ (0 : Int) := x2
      have o : (0 : Int32).toInt = 0 := rfl
      omega)
    subst x3
    exact ⟨vs, k2, k3⟩
noncomputable def relC (zz : Bool) (c : CN) : Bool := (bif zz then zeB 1 5 1 c else !mdIn c.2.2.2.2.2.1 5 1) && (!mdIn c.2.2.2.2.2.1 11 2 && (!mdIn c.2.2.2.2.2.1 1057 0 && !mdIn c.2.2.2.2.2.1 1066 0))
noncomputable def relR (zz : Bool) (c : CN) : Bool := (bif zz then zeB 633 11 2 c else !mdIn c.2.2.2.2.2.1 11 2) && (!mdIn c.2.2.2.2.2.1 5 1 && (!mdIn c.2.2.2.2.2.1 1057 0 && !mdIn c.2.2.2.2.2.1 1066 0))
theorem md_no {md : Md} {c k : Nat} (h : (!mdIn md c k) = true) : (c, k) ∉ md := fun q => by
  rw [mdIn_iff.mpr q] at h
  cases h
theorem inv_f {c : CN} {k d : Nat} {M : Mem} {ws : List Value} (hc : cnOK sT sG FL0 c) (hB : invC c = true) (hm : (gNth mRs c.1).map (fun q => q.2.2.2.1) = some k) (hd : c.2.1 ≤ d) (ha : Two (taOK sT) c.2.2.1 ws) (hI : INV M) : ∃ v M', Ev none d c.1 0 (gPad k (gArgs ws)) [] M v M' 0 0 ∧ INV M' ∧ Frm sT c.2.2.2.2.2.1 M M' ∧ ∃ s ∈ c.2.2.2.2.2.2, csOK sT FL0 ws v M' s := by
  obtain ⟨b1, b2⟩ := and_t hB
  obtain ⟨b2, b3⟩ := and_t b2
  obtain ⟨hT, hf4⟩ := hI
  cases hq : gNth mRs c.1 with
  | none => rw [hq] at hm; cases hm
  | some q =>
    rw [hq] at hm
    have hm : q.2.2.2.1 = k := Option.some.inj hm
    have h3 : c.2.2.2.1 = [] := List.isEmpty_iff.mp b1
    obtain ⟨v, M', e1, e2, e3, s, e4, e5, _⟩ := hc d M ws q hd hq ha ⟨[], by rw [h3]; trivial, fun f hf => by
      obtain ⟨g1, g2⟩ := and_t (List.all_eq_true.mp b2 f hf)
      obtain ⟨fx, ps⟩ := f
      have g1 : ps = [] := List.isEmpty_iff.mp g1
      subst g1
      exact ⟨[], trivial, hf4 fx (fb4_V g2)⟩⟩ hT
    rw [hm] at e1
    have b4 := fun x hx => List.all_eq_true.mp b3 x hx
    refine ⟨v, M', e1, ⟨e2, fun x hx => ?_⟩, e3, s, e4, e5⟩
    have h9 := hf4 x hx
    rcases hx with rfl | rfl | rfl | rfl
    · exact inv_fl (b4 24 (by decide)) e3 e4 e5 h9
    · exact inv_fl (b4 28 (by decide)) e3 e4 e5 h9
    · exact inv_fl (b4 32 (by decide)) e3 e4 e5 h9
    · exact inv_fl (b4 34 (by decide)) e3 e4 e5 h9
theorem rel_c {cn : CN} {k : Nat} {z w : Int32} {M : Mem} {ws : List Value} {l : List Int32} (zz : Bool) (hok : cnOK sT sG FL0 cn) (hB : (invC cn && relC zz cn) = true) (hm : (gNth mRs cn.1).map (fun q => q.2.2.2.1) = some k) (hd : cn.2.1 ≤ 999) (ha : Two (taOK sT) cn.2.2.1 ws) (hV : INV M) (hC : LC z M) (hR : LR w M) (hK : KC l M) (hL : KR l M) : ∃ v M', Ev none 999 cn.1 0 (gPad k (gArgs ws)) [] M v M' 0 0 ∧ (∃ s ∈ cn.2.2.2.2.2.2, csOK sT FL0 ws v M' s) ∧ INV M' ∧ LC (bif zz then 0 else z) M' ∧ LR w M' ∧ KC l M' ∧ KR l M' := by
  obtain ⟨hB, hr⟩ := and_t hB
  obtain ⟨r1, r2⟩ := and_t hr
  obtain ⟨r2, r3⟩ := and_t r2
  obtain ⟨r3, r4⟩ := and_t r3
  obtain ⟨v, M', h1, h2, h3, h4⟩ := inv_f hok hB hm hd ha hV
  refine ⟨v, M', h1, h4, h2, ?_, hR.frm h3 (md_no r2), hK.frm h3 (md_no r3), hL.frm h3 (md_no r4)⟩
  cases zz with
  | true => exact zeB_V r1 h4
  | false => exact hC.frm h3 (md_no r1)
theorem rel_r {cn : CN} {k : Nat} {z w : Int32} {M : Mem} {ws : List Value} {l : List Int32} (zz : Bool) (hok : cnOK sT sG FL0 cn) (hB : (invC cn && relR zz cn) = true) (hm : (gNth mRs cn.1).map (fun q => q.2.2.2.1) = some k) (hd : cn.2.1 ≤ 999) (ha : Two (taOK sT) cn.2.2.1 ws) (hV : INV M) (hC : LC z M) (hR : LR w M) (hK : KC l M) (hL : KR l M) : ∃ v M', Ev none 999 cn.1 0 (gPad k (gArgs ws)) [] M v M' 0 0 ∧ (∃ s ∈ cn.2.2.2.2.2.2, csOK sT FL0 ws v M' s) ∧ INV M' ∧ LC z M' ∧ LR (bif zz then 0 else w) M' ∧ KC l M' ∧ KR l M' := by
  obtain ⟨hB, hr⟩ := and_t hB
  obtain ⟨r1, r2⟩ := and_t hr
  obtain ⟨r2, r3⟩ := and_t r2
  obtain ⟨r3, r4⟩ := and_t r3
  obtain ⟨v, M', h1, h2, h3, h4⟩ := inv_f hok hB hm hd ha hV
  refine ⟨v, M', h1, h4, h2, hC.frm h3 (md_no r2), ?_, hK.frm h3 (md_no r3), hL.frm h3 (md_no r4)⟩
  cases zz with
  | true => exact zeB_V r1 h4
  | false => exact hR.frm h3 (md_no r1)
theorem SV.app {M : Mem} (h : SV M) (e : AE) : SV (M ++ [e]) := by
  obtain ⟨h1, z, lk, ⟨vs, a1, a2⟩, ⟨vr, b1, b2⟩, k1, k2⟩ := h
  exact ⟨h1.app e, z, lk, ⟨vs, nth_app a1, a2⟩, ⟨vr, nth_app b1, b2⟩, nth_app k1, nth_app k2⟩
theorem SV.out {M : Mem} (h : SV M) : ∃ l : List Int64, gNth M 663 = some (.inl (2, .inr (.inl l))) ∧ l.length = 1 ∧ ∀ z : Int64, SV (gPut M 663 (.inl (2, .inr (.inl (gPut l 0 z))))) := by
  obtain ⟨h1, z, lk, ⟨vs, a1, a2⟩, ⟨vr, b1, b2⟩, k1, k2⟩ := h
  obtain ⟨l, l1, l2, l3⟩ := h1.out
  refine ⟨l, l1, l2, fun y => ⟨l3 y, z, lk, ⟨vs, ?_, a2⟩, ⟨vr, ?_, b2⟩, ?_, ?_⟩⟩
  · rw [nth_put, if_neg (fun q => absurd q.1 (by decide))]
    exact a1
  · rw [nth_put, if_neg (fun q => absurd q.1 (by decide))]
    exact b1
  · show gNth _ 340 = _
    rw [nth_put, if_neg (fun q => absurd q.1 (by decide))]
    exact k1
  · show gNth _ 638 = _
    rw [nth_put, if_neg (fun q => absurd q.1 (by decide))]
    exact k2
noncomputable def le0B (a ci f : Nat) : Bool := match gNth mem0 a with
  | some (.inr (c, vs)) => Nat.beq c ci && (match gNth vs f with
    | some (.int x) => decide (x = 0)
    | _ => false)
  | _ => false
theorem le0_V {a ci f : Nat} (h : le0B a ci f = true) : ∃ vs, gNth mem0 a = some (.inr (ci, vs)) ∧ gNth vs f = some (.int 0) := by
  unfold le0B at h
  split at h
  rotate_left
  · cases h
  rename_i c vs e
  obtain ⟨h1, h2⟩ := and_t h
  cases Nat.eq_of_beq_eq_true h1
  split at h2
  rotate_left
  · cases h2
  rename_i x e2
  cases of_decide_eq_true h2
  exact ⟨vs, e, e2⟩
set_option maxRecDepth 200000 in
theorem le0_all : le0B 1 5 1 = true ∧ le0B 633 11 2 = true := by refine ⟨?_, ?_⟩ <;> decide +kernel
noncomputable def ke0B (a : Nat) : Bool := match gNth mem0 a with
  | some (.inl (3, .inl l)) => match l with
    | [x, y, z] => decide (x = 0) && (decide (y = 0) && decide (z = 0))
    | _ => false
  | _ => false
theorem ke0_V {a : Nat} (h : ke0B a = true) : gNth mem0 a = some (.inl (3, .inl [0, 0, 0])) := by
  unfold ke0B at h
  split at h
  rotate_left
  · cases h
  rename_i l e
  split at h
  rotate_left
  · cases h
  rename_i x y z
  obtain ⟨h1, h2⟩ := and_t h
  obtain ⟨h2, h3⟩ := and_t h2
  cases of_decide_eq_true h1
  cases of_decide_eq_true h2
  cases of_decide_eq_true h3
  exact e
set_option maxRecDepth 200000 in
theorem ke0_all : ke0B 340 = true ∧ ke0B 638 = true := by refine ⟨?_, ?_⟩ <;> decide +kernel
theorem SV0 : SV mem0 := ⟨INV0, 0, _, le0_V le0_all.1, le0_V le0_all.2, ke0_V ke0_all.1, ke0_V ke0_all.2⟩
/-! THE IMAGES, exactly: which are kept; restored or not -/
def imA (x : Int32) : Int32 := if 0 ≤ x.toInt ∧ x.toInt ≤ 2 then 1 else 0
noncomputable def imK (l : List Int32) (x : Int32) : List Int32 := if 0 ≤ x.toInt ∧ x.toInt ≤ 2 then gPut l x.toInt.toNat 1 else l
noncomputable def reA (l : List Int32) (x : Int32) : Int32 := if (0 ≤ x.toInt ∧ x.toInt ≤ 2) ∧ (gNth l x.toInt.toNat).getD 0 ≠ 0 then 1 else 0
theorem isin_no {k : Int32} (h : ¬ (0 ≤ k.toInt ∧ k.toInt ≤ 2)) : (if k < 0 then (0 : Int32) else if 2 < k then 0 else 1) = 0 := by
  have o2 : (2 : Int32).toInt = 2 := rfl
  have o0 : (0 : Int32).toInt = 0 := rfl
  by_cases h1 : k < 0
  · rw [if_pos h1]
  · rw [if_neg h1]
    by_cases h2 : 2 < k
    · rw [if_pos h2]
    · rw [Int32.lt_iff_toInt_lt] at h1 h2
      exact absurd ⟨by omega, by omega⟩ h
theorem isin_ye {k : Int32} (h : 0 ≤ k.toInt ∧ k.toInt ≤ 2) : (if k < 0 then (0 : Int32) else if 2 < k then 0 else 1) = 1 := by
  have o2 : (2 : Int32).toInt = 2 := rfl
  have o0 : (0 : Int32).toInt = 0 := rfl
  rw [if_neg (by rw [Int32.lt_iff_toInt_lt]; omega), if_neg (by rw [Int32.lt_iff_toInt_lt]; omega)]
theorem ev_imageR {e : Nat} {M : Mem} {l : List Int32} {k : Int32} (hV : INV M) (hk : KR l M) : ∃ M', Ev none (e + 1) 246 0 [some (.ref 633), some (.int k), none] [] M (some (.int (imA k))) M' 0 0 ∧ INV M' ∧ Frm sT [(11, 0), (1064, 0), (1066, 0)] M M' ∧ KR (imK l k) M' := by
  obtain ⟨hT, hf⟩ := hV
  have h24 := hf 24 (Or.inl rfl)
  have h28 := hf 28 (Or.inr (Or.inl rfl))
  have h32 := hf 32 (Or.inr (Or.inr (Or.inl rfl)))
  have h34 := hf 34 (Or.inr (Or.inr (Or.inr rfl)))
  obtain ⟨vs, hM, hlen, hT1⟩ := hT.thr
  obtain ⟨M1, e1⟩ : ∃ M1, M1 = gPut M 633 (.inr (11, gPut vs 0 (.int 0))) := ⟨_, rfl⟩
  rw [← e1] at hT1
  have hF0 : Frm sT [(11, 0)] M M1 := by rw [e1]; exact Frm.fld hM (by decide)
  have hF1 : Frm sT [(11, 0), (1064, 0), (1066, 0)] M M1 := by rw [e1]; exact Frm.fld hM (by decide)
  have g28 := dp0_frm 0 28 _ _ _ _ hF0 (by decide) h28
  have g32 := dp0_frm 0 32 _ _ _ _ hF0 (by decide) h32
  have kM1 := hk.frm hF0 (by decide)
  obtain ⟨t2, l2, p1, p2⟩ := fl0_28 g28
  obtain ⟨t3, t4, l3, l4, p3, p4, p5⟩ := fl0_32 g32
  obtain ⟨vs2, s, la, lk, lb, hM2, h5, h7, h6, h8, hs, sl, ha2, al, hk2, kl, hb2, bl, bx⟩ := hT1.cp
  have hsl : l2 = s := by cases p1.symm.trans hs; rfl
  subst hsl
  have hsl : l3 = lk := by cases p3.symm.trans hk2; rfl
  subst hsl
  have hsl : l4 = lb := by cases p4.symm.trans hb2; rfl
  subst hsl
  have hsl : l = l4 := by cases kM1.symm.trans hb2; rfl
  subst hsl
  have hg := hT1.good hs p2
  unfold imA imK
  by_cases hx : 0 ≤ k.toInt ∧ k.toInt ≤ 2
  rotate_left
  · rw [if_neg hx, if_neg hx]
    have hV1 : INV M1 := INV.mv ⟨hT, hf⟩ hT1 hF0 (by decide) (by decide) (by decide) (by decide)
    exact ⟨M1, im_0 hM hlen (by rw [← e1]; exact Ev.call0 (fun n => rfl) ev_isin (im_11 (by rw [if_pos (isin_no hx)]; exact im_14))), hV1, hF1, kM1⟩
  · rw [if_pos hx, if_pos hx]
    have hz := isin_ye hx
    obtain ⟨k0, k2⟩ := hx
    have o2 : (2 : Int32).toInt = 2 := rfl
    have o0 : (0 : Int32).toInt = 0 := rfl
    obtain ⟨kn, hkn⟩ : ∃ kn : Nat, k.toInt = (kn : Int) := ⟨k.toInt.toNat, by omega⟩
    have hkt : k.toInt.toNat = kn := by omega
    rw [hkt]
    obtain ⟨M2, lF, q1, q2, q3, q4, q5, q6⟩ := im_loop (M0 := M) (e := e) (s := l2) (l0 := l3) hkn (by omega) 2314 0 M1 0 l3 hT1 hF1 hs hk2 (CpP.zero _ _ _ _) rfl rfl
    obtain ⟨vs3, _, _, lk3, lb3, hM3, _, _, _, h83, _, _, _, _, hk3, _, hb3, bl3, bx3⟩ := q2.cp
    rw [hb2] at q6
    have hsl : lb3 = l := by cases hb3.symm.trans q6; rfl
    subst hsl
    obtain ⟨y, y1, y2⟩ := at_c (l := lb3) hkn (by omega)
    have hnar : vp_nar .boolean 1 = 1 := rfl
    have hT3 : TM sT sG (gPut M2 638 (.inl (3, .inl (gPut lb3 kn 1)))) := q2.putrow (n := 3) (lo := 0) (hi := 1) sT_more.2.2.1 (by decide +kernel) (by rw [put_len]; exact bl3) (fun j x hj => by
      rw [nth_put] at hj
      split at hj
      · cases hj; decide
      · exact bx3 j x hj)
    have hF3 : Frm sT [(11, 0), (1064, 0), (1066, 0)] M (gPut M2 638 (.inl (3, .inl (gPut lb3 kn 1)))) := q3.trans (Frm.row hb3 sT_more.2.2.1 (by decide))
    refine ⟨gPut M2 638 (.inl (3, .inl (gPut lb3 kn 1))), im_0 hM hlen (by rw [← e1]; exact Ev.call0 (fun n => rfl) ev_isin (im_11 (by rw [hz, if_neg (by decide)]; exact im_16 (q1 _ _ (by
      have h := im_49 (e := e) (k := k) (i := 2314) hM3 h83 hb3 y1
      rw [hnar, cl_n hkn] at h
      exact h))))), ⟨hT3, fun x hx => ?_⟩, hF3, (show gNth _ 638 = _ by rw [nth_put, if_pos ⟨rfl, gNth_lt _ _ _ hb3⟩])⟩
    rcases hx with rfl | rfl | rfl | rfl
    · exact dp0_frm 0 24 _ _ _ _ hF3 (by decide) h24
    · exact dp0_frm 0 28 _ _ _ _ hF3 (by decide) h28
    · refine (show FL0 32 [] _ from ⟨1, 3, lF, gPut lb3 kn 1, by rw [nth_put, if_neg (fun q => absurd q.1 (by decide))]; exact q4, by rw [nth_put, if_pos ⟨rfl, gNth_lt _ _ _ hb3⟩], fun kk b hb hb0 => ?_⟩)
      by_cases hkk : kk = kn
      · subst hkk
        refine ⟨l2, hg, fun i hi => ?_⟩
        rw [q5.2, if_pos (by omega)]
        congr 1
        omega
      · rw [nth_put, if_neg (fun q => hkk q.1)] at hb
        obtain ⟨l9, g9, s9⟩ := p5 kk b hb hb0
        refine ⟨l9, g9, fun i hi => ?_⟩
        rw [q5.2, if_neg (by omega)]
        exact s9 i hi
    · exact dp0_frm 0 34 _ _ _ _ hF3 (by decide) h34
theorem ev_restoreR {e : Nat} {M : Mem} {l : List Int32} {k : Int32} (hV : INV M) (hk : KR l M) : ∃ M', Ev none (e + 1) 247 0 [some (.ref 633), some (.int k), none] [] M (some (.int (reA l k))) M' 0 0 ∧ INV M' ∧ Frm sT [(11, 0), (1063, 0)] M M' := by
  obtain ⟨hT, hf⟩ := hV
  have h24 := hf 24 (Or.inl rfl)
  have h28 := hf 28 (Or.inr (Or.inl rfl))
  have h32 := hf 32 (Or.inr (Or.inr (Or.inl rfl)))
  have h34 := hf 34 (Or.inr (Or.inr (Or.inr rfl)))
  obtain ⟨vs, hM, hlen, hT1⟩ := hT.thr
  obtain ⟨M1, e1⟩ : ∃ M1, M1 = gPut M 633 (.inr (11, gPut vs 0 (.int 0))) := ⟨_, rfl⟩
  rw [← e1] at hT1
  have hF1 : Frm sT [(11, 0), (1063, 0)] M M1 := by rw [e1]; exact Frm.fld hM (by decide)
  have hF0 : Frm sT [(11, 0)] M M1 := by rw [e1]; exact Frm.fld hM (by decide)
  have hV1 : INV M1 := INV.mv ⟨hT, hf⟩ hT1 hF0 (by decide) (by decide) (by decide) (by decide)
  have g32 := dp0_frm 0 32 _ _ _ _ hF0 (by decide) h32
  have kM1 := hk.frm hF0 (by decide)
  obtain ⟨t3, t4, l3, l4, p3, p4, p5⟩ := fl0_32 g32
  obtain ⟨vs2, s, la, lk, lb, hM2, h5, h7, h6, h8, hs, sl, ha2, al, hk2, kl, hb2, bl, bx⟩ := hT1.cp
  have hsl : l3 = lk := by cases p3.symm.trans hk2; rfl
  subst hsl
  have hsl : l4 = lb := by cases p4.symm.trans hb2; rfl
  subst hsl
  have hsl : l = l4 := by cases kM1.symm.trans hb2; rfl
  subst hsl
  unfold reA
  by_cases hx : 0 ≤ k.toInt ∧ k.toInt ≤ 2
  rotate_left
  · rw [if_neg (fun q => hx q.1)]
    exact ⟨M1, re_0 hM hlen (by rw [← e1]; exact Ev.call0 (fun n => rfl) ev_isin (re_11 (by rw [if_pos (isin_no hx)]; exact re_23))), hV1, hF1⟩
  · have hz := isin_ye hx
    obtain ⟨kn, hkn⟩ : ∃ kn : Nat, k.toInt = (kn : Int) := ⟨k.toInt.toNat, by omega⟩
    have hkt : k.toInt.toNat = kn := by omega
    obtain ⟨y, y1, y2⟩ := at_c (l := l) hkn (by omega)
    rw [hkt, y2]
    by_cases hy : y = 0
    · rw [if_neg (fun q => q.2 hy)]
      exact ⟨M1, re_0 hM hlen (by rw [← e1]; exact Ev.call0 (fun n => rfl) ev_isin (re_11 (by rw [hz, if_neg (by decide)]; exact re_14 hM2 h8 hb2 y1 (by rw [if_pos hy]; exact re_23)))), hV1, hF1⟩
    · rw [if_pos ⟨hx, hy⟩]
      obtain ⟨l9, g9, s9⟩ := p5 kn y y2 hy
      obtain ⟨MF, lF, q1, q2, q3, q4, q5⟩ := re_loop (M0 := M) (e := e) (l0 := s) g9 hkn (by omega) s9 kl 2314 0 M1 0 s hT1 hF1 hk2 hs (CpP.zero _ _ _ _) rfl rfl
      have hlF := q5.all sl g9.1
      subst hlF
      refine ⟨MF, re_0 hM hlen (by rw [← e1]; exact Ev.call0 (fun n => rfl) ev_isin (re_11 (by rw [hz, if_neg (by decide)]; exact re_14 hM2 h8 hb2 y1 (by rw [if_neg hy]; exact re_25 q1)))), ⟨q2, fun x hx => ?_⟩, q3⟩
      rcases hx with rfl | rfl | rfl | rfl
      · exact dp0_frm 0 24 _ _ _ _ q3 (by decide) h24
      · exact (show FL0 28 [] MF from ⟨1, _, q4, g9.2.2⟩)
      · exact dp0_frm 0 32 _ _ _ _ q3 (by decide) h32
      · exact dp0_frm 0 34 _ _ _ _ q3 (by decide) h34
set_option maxRecDepth 100000 in
theorem kp_f : fdB 0 10 7 56 = true ∧ rrB 56 4 3 8 = true ∧ fiB 8 1 0 4 16 = true := by refine ⟨?_, ?_, ?_⟩ <;> decide +kernel
set_option maxRecDepth 100000 in
theorem mR_13 : (gNth mRs kX1_copy.1).map (fun q => q.2.2.2.1) = some 3 := by decide +kernel
theorem cal_cy {M : Mem} {vs : List Value} {a b : Nat} {rest : List Value} (hM : gNth M a = some (.inr (1, vs))) (hr : gRoom rest = true) : gCal (.invokevirtual 390) 10 (.ref b :: .ref a :: rest) M = some (.inr (13, [some (.ref a), some (.ref b), none], rest)) := by
  show @cond (Option ((List Value × Mem) ⊕ (Nat × Lo × List Value))) (true && gRecv M (.ref a) 1 && gRoom rest && true) (some (.inr (13, [some (.ref a), some (.ref b), none], rest))) none = _
  rw [recv_c hM, hr]
  rfl
def mdIC : Md := kX1_copy.2.2.2.2.2.1 ++ [(1057, 0)]
/-- a land copied to another -/
theorem ev_copyL {e : Nat} {M : Mem} {a b : Nat} (hV : INV M) (ha : gNth sT a = some 8) (hb : gNth sT b = some 8) : ∃ va M', gNth M a = some (.inr (1, va)) ∧ Ev none (e + 1) 13 0 [some (.ref a), some (.ref b), none] [] M none M' 0 0 ∧ INV M' ∧ Frm sT kX1_copy.2.2.2.2.2.1 M M' := by
  obtain ⟨va, _, h1, _⟩ := hV.1.fnum ha kp_f.2.2
  obtain ⟨v, M', h2, h3, h4, s, hs, hr, _⟩ := inv_f (d := e + 1) (ws := [.ref a, .ref b]) kX1_copy_ok (by decide +kernel) mR_13 (Nat.le_add_left 1 e) (Two.mk ⟨a, rfl, ha⟩ (Two.mk ⟨b, rfl, hb⟩ trivial)) hV
  cases List.mem_singleton.mp hs
  have hv : v = none := by
    cases v with
    | none => rfl
    | some w => exact hr.elim
  subst hv
  exact ⟨va, M', h1, h2, h3, h4⟩
theorem ev_imageC {e : Nat} {M : Mem} {l : List Int32} {x : Int32} (hV : INV M) (hk : KC l M) : ∃ M', Ev none (e + 2) 123 0 [some (.ref 0), some (.int x)] [] M (some (.int (imA x))) M' 0 0 ∧ INV M' ∧ Frm sT mdIC M M' ∧ KC (imK l x) M' := by
  have o2 : (2 : Int32).toInt = 2 := rfl
  have o0 : (0 : Int32).toInt = 0 := rfl
  unfold imA imK
  by_cases hx : 0 ≤ x.toInt ∧ x.toInt ≤ 2
  rotate_left
  · rw [if_neg hx, if_neg hx]
    have hw : Ev none (e + 1) 126 0 [some (.int x), some (.int 0), some (.int 2)] [] M (some (.int 0)) M 0 0 := by
      by_cases h1 : x < 0
      · exact within_lo h1
      · refine within_hi h1 ?_
        rw [Int32.lt_iff_toInt_lt] at h1 ⊢
        omega
    exact ⟨M, mc_0 (Ev.call0 (fun n => rfl) hw (mc_6 (by rw [if_pos rfl]; exact mc_9))), hV, Frm.refl _, hk⟩
  · rw [if_pos hx, if_pos hx]
    have hw : Ev none (e + 1) 126 0 [some (.int x), some (.int 0), some (.int 2)] [] M (some (.int 1)) M 0 0 := within_in (by rw [Int32.lt_iff_toInt_lt]; omega) (by rw [Int32.lt_iff_toInt_lt]; omega)
    obtain ⟨kn, hkn⟩ : ∃ kn : Nat, x.toInt = (kn : Int) := ⟨x.toInt.toNat, by omega⟩
    have hkt : x.toInt.toNat = kn := by omega
    rw [hkt]
    obtain ⟨vp, b7, u1, u2, u3⟩ := hV.1.fref sT_00 kp_f.1
    obtain ⟨la, v1, v2, v3, _⟩ := hV.1.rref u3 kp_f.2.1
    obtain ⟨vp', b6, w1, w2, w3⟩ := hV.1.fref sT_00 cl_land
    cases u1.symm.trans w1
    obtain ⟨o, o3, o4⟩ := at_c (l := la) hkn (by omega)
    obtain ⟨a4, rfl, s4⟩ := v3 _ _ o4
    obtain ⟨va, M1, hA, hE, hV1, hF1⟩ := ev_copyL (e := e) hV s4 w3
    obtain ⟨vp1, b8, t1, t2, t3⟩ := hV1.1.fref sT_00 tp_k.1
    have h340 := sU_ok b8 57 340 t3 tp_u.2.2
    subst h340
    have kM1 := hk.frm hF1 (by decide)
    obtain ⟨l', m1, m2, m3⟩ := hV1.1.mrow t3 tp_k.2
    have hsl : l' = l := by cases m1.symm.trans kM1; rfl
    subst hsl
    obtain ⟨y, y1, _⟩ := at_c (l := l') hkn (by omega)
    have hnar : vp_nar .boolean 1 = 1 := rfl
    have hT3 : TM sT sG (gPut M1 340 (.inl (3, .inl (gPut l' kn 1)))) := hV1.1.putrow (n := 3) (lo := 0) (hi := 1) t3 (by decide +kernel) (by rw [put_len]; exact m2) (fun j w hj => by
      rw [nth_put] at hj
      split at hj
      · cases hj; decide
      · exact m3 j w hj)
    have hF3 : Frm sT [(1057, 0)] M1 (gPut M1 340 (.inl (3, .inl (gPut l' kn 1)))) := Frm.row m1 t3 (by decide)
    have h24 := mc_24 (e := e + 2) (x := x) t1 t2 m1 y1
    rw [hnar, cl_n hkn] at h24
    exact ⟨_, mc_0 (Ev.call0 (fun n => rfl) hw (mc_6 (by rw [if_neg (by decide)]; exact mc_11 u1 u2 v1 o3 w2 (Ev.call0 (fun n => gs_7 rfl rfl (cal_cy hA rfl)) hE h24)))), hV1.mv hT3 hF3 (by decide) (by decide) (by decide) (by decide), (hF1.more (md' := mdIC) (fun q hq => List.mem_append_left _ hq)).trans (hF3.more (md' := mdIC) (fun q hq => List.mem_append_right _ hq)), (show gNth _ 340 = _ by rw [nth_put, if_pos ⟨rfl, gNth_lt _ _ _ m1⟩])⟩
theorem ev_restoreC {e : Nat} {M : Mem} {l : List Int32} {x : Int32} (hV : INV M) (hk : KC l M) : ∃ M', Ev none (e + 2) 124 0 [some (.ref 0), some (.int x)] [] M (some (.int (reA l x))) M' 0 0 ∧ INV M' ∧ Frm sT kX1_copy.2.2.2.2.2.1 M M' := by
  have o2 : (2 : Int32).toInt = 2 := rfl
  have o0 : (0 : Int32).toInt = 0 := rfl
  unfold reA
  by_cases hx : 0 ≤ x.toInt ∧ x.toInt ≤ 2
  rotate_left
  · rw [if_neg (fun q => hx q.1)]
    have hw : Ev none (e + 1) 126 0 [some (.int x), some (.int 0), some (.int 2)] [] M (some (.int 0)) M 0 0 := by
      by_cases h1 : x < 0
      · exact within_lo h1
      · refine within_hi h1 ?_
        rw [Int32.lt_iff_toInt_lt] at h1 ⊢
        omega
    exact ⟨M, rc_0 (Ev.call0 (fun n => rfl) hw (rc_6 (by rw [if_pos rfl]; exact rc_18))), hV, Frm.refl _⟩
  · have hw : Ev none (e + 1) 126 0 [some (.int x), some (.int 0), some (.int 2)] [] M (some (.int 1)) M 0 0 := within_in (by rw [Int32.lt_iff_toInt_lt]; omega) (by rw [Int32.lt_iff_toInt_lt]; omega)
    obtain ⟨kn, hkn⟩ : ∃ kn : Nat, x.toInt = (kn : Int) := ⟨x.toInt.toNat, by omega⟩
    have hkt : x.toInt.toNat = kn := by omega
    rw [hkt]
    obtain ⟨vp1, b8, t1, t2, t3⟩ := hV.1.fref sT_00 tp_k.1
    have h340 := sU_ok b8 57 340 t3 tp_u.2.2
    subst h340
    obtain ⟨l', m1, m2, m3⟩ := hV.1.mrow t3 tp_k.2
    have hsl : l' = l := by cases m1.symm.trans hk; rfl
    subst hsl
    obtain ⟨y, y1, y2⟩ := at_c (l := l') hkn (by omega)
    rw [y2]
    by_cases hy : y = 0
    · rw [if_neg (fun q => q.2 hy)]
      exact ⟨M, rc_0 (Ev.call0 (fun n => rfl) hw (rc_6 (by rw [if_neg (by decide)]; exact rc_9 t1 t2 m1 y1 (by rw [if_pos hy]; exact rc_18)))), hV, Frm.refl _⟩
    · rw [if_pos ⟨hx, hy⟩]
      obtain ⟨vp, b7, u1, u2, u3⟩ := hV.1.fref sT_00 kp_f.1
      obtain ⟨la, v1, v2, v3, _⟩ := hV.1.rref u3 kp_f.2.1
      obtain ⟨vp', b6, w1, w2, w3⟩ := hV.1.fref sT_00 cl_land
      cases u1.symm.trans w1
      obtain ⟨o, o3, o4⟩ := at_c (l := la) hkn (by omega)
      obtain ⟨a4, rfl, s4⟩ := v3 _ _ o4
      obtain ⟨va, M1, hA, hE, hV1, hF1⟩ := ev_copyL (e := e) hV w3 s4
      exact ⟨M1, rc_0 (Ev.call0 (fun n => rfl) hw (rc_6 (by rw [if_neg (by decide)]; exact rc_9 t1 t2 m1 y1 (by rw [if_neg hy]; exact rc_20 u1 w2 u2 v1 o3 (Ev.call0 (fun n => gs_7 rfl rfl (cal_cy hA rfl)) hE rc_33))))), hV1, hF1⟩
/-! BOTH SIDES BESIDE EACH OTHER, with the bytes of the tapes -/
def SV4 (M : Mem) : Prop := INV M ∧ ∃ z l lb lt, LC z M ∧ LR z M ∧ KC l M ∧ KR l M ∧ BC lb M ∧ BR lt M ∧ BBp z.toInt.toNat lb lt
noncomputable def byB (c : CN) : Bool := !mdIn c.2.2.2.2.2.1 1002 0 && !mdIn c.2.2.2.2.2.1 1062 0
theorem rel_c4 {cn : CN} {k : Nat} {z w : Int32} {M : Mem} {ws : List Value} {l lb lt : List Int32} (zz : Bool) (hok : cnOK sT sG FL0 cn) (hB : ((invC cn && relC zz cn) && byB cn) = true) (hm : (gNth mRs cn.1).map (fun q => q.2.2.2.1) = some k) (hd : cn.2.1 ≤ 999) (ha : Two (taOK sT) cn.2.2.1 ws) (hV : INV M) (hC : LC z M) (hR : LR w M) (hK : KC l M) (hL : KR l M) (hP : BC lb M) (hQ : BR lt M) : ∃ v M', Ev none 999 cn.1 0 (gPad k (gArgs ws)) [] M v M' 0 0 ∧ (∃ s ∈ cn.2.2.2.2.2.2, csOK sT FL0 ws v M' s) ∧ INV M' ∧ LC (bif zz then 0 else z) M' ∧ LR w M' ∧ KC l M' ∧ KR l M' ∧ BC lb M' ∧ BR lt M' := by
  obtain ⟨hB, hb⟩ := and_t hB
  obtain ⟨hB, hr⟩ := and_t hB
  obtain ⟨r1, r2⟩ := and_t hr
  obtain ⟨r2, r3⟩ := and_t r2
  obtain ⟨r3, r4⟩ := and_t r3
  obtain ⟨b1, b2⟩ := and_t hb
  obtain ⟨v, M', h1, h2, h3, h4⟩ := inv_f hok hB hm hd ha hV
  refine ⟨v, M', h1, h4, h2, ?_, hR.frm h3 (md_no r2), hK.frm h3 (md_no r3), hL.frm h3 (md_no r4), hP.frm h3 (md_no b1), hQ.frm h3 (md_no b2)⟩
  cases zz with
  | true => exact zeB_V r1 h4
  | false => exact hC.frm h3 (md_no r1)
theorem rel_r4 {cn : CN} {k : Nat} {z w : Int32} {M : Mem} {ws : List Value} {l lb lt : List Int32} (zz : Bool) (hok : cnOK sT sG FL0 cn) (hB : ((invC cn && relR zz cn) && byB cn) = true) (hm : (gNth mRs cn.1).map (fun q => q.2.2.2.1) = some k) (hd : cn.2.1 ≤ 999) (ha : Two (taOK sT) cn.2.2.1 ws) (hV : INV M) (hC : LC z M) (hR : LR w M) (hK : KC l M) (hL : KR l M) (hP : BC lb M) (hQ : BR lt M) : ∃ v M', Ev none 999 cn.1 0 (gPad k (gArgs ws)) [] M v M' 0 0 ∧ (∃ s ∈ cn.2.2.2.2.2.2, csOK sT FL0 ws v M' s) ∧ INV M' ∧ LC z M' ∧ LR (bif zz then 0 else w) M' ∧ KC l M' ∧ KR l M' ∧ BC lb M' ∧ BR lt M' := by
  obtain ⟨hB, hb⟩ := and_t hB
  obtain ⟨hB, hr⟩ := and_t hB
  obtain ⟨r1, r2⟩ := and_t hr
  obtain ⟨r2, r3⟩ := and_t r2
  obtain ⟨r3, r4⟩ := and_t r3
  obtain ⟨b1, b2⟩ := and_t hb
  obtain ⟨v, M', h1, h2, h3, h4⟩ := inv_f hok hB hm hd ha hV
  refine ⟨v, M', h1, h4, h2, hC.frm h3 (md_no r2), ?_, hK.frm h3 (md_no r3), hL.frm h3 (md_no r4), hP.frm h3 (md_no b1), hQ.frm h3 (md_no b2)⟩
  cases zz with
  | true => exact zeB_V r1 h4
  | false => exact hR.frm h3 (md_no r1)
theorem SV4.sv {M : Mem} (h : SV4 M) : SV M := by
  obtain ⟨h1, z, l, lb, lt, a1, a2, a3, a4, _⟩ := h
  exact ⟨h1, z, l, a1, a2, a3, a4⟩
theorem SV4.app {M : Mem} (h : SV4 M) (e : AE) : SV4 (M ++ [e]) := by
  obtain ⟨h1, z, lk, lb, lt, ⟨vs, a1, a2⟩, ⟨vr, b1, b2⟩, k1, k2, p1, p2, hn⟩ := h
  exact ⟨h1.app e, z, lk, lb, lt, ⟨vs, nth_app a1, a2⟩, ⟨vr, nth_app b1, b2⟩, nth_app k1, nth_app k2, nth_app p1, nth_app p2, hn⟩
theorem SV4.out {M : Mem} (h : SV4 M) : ∃ l : List Int64, gNth M 663 = some (.inl (2, .inr (.inl l))) ∧ l.length = 1 ∧ ∀ z : Int64, SV4 (gPut M 663 (.inl (2, .inr (.inl (gPut l 0 z))))) := by
  obtain ⟨h1, z, lk, lb, lt, ⟨vs, a1, a2⟩, ⟨vr, b1, b2⟩, k1, k2, p1, p2, hn⟩ := h
  obtain ⟨l, l1, l2, l3⟩ := h1.out
  have g : ∀ (y : Int64) (a : Nat) (x : AE), a ≠ 663 → gNth M a = some x → gNth (gPut M 663 (.inl (2, .inr (.inl (gPut l 0 y))))) a = some x := fun y a x ha hx => by
    rw [nth_put, if_neg (fun q => ha q.1)]
    exact hx
  exact ⟨l, l1, l2, fun y => ⟨l3 y, z, lk, lb, lt, ⟨vs, g y 1 _ (by decide) a1, a2⟩, ⟨vr, g y 633 _ (by decide) b1, b2⟩, g y 340 _ (by decide) k1, g y 638 _ (by decide) k2, g y 2 _ (by decide) p1, g y 634 _ (by decide) p2, hn⟩⟩
theorem BC.len {l : List Int32} {M : Mem} (hT : TM sT sG M) (h : BC l M) : l.length = 440 := by
  obtain ⟨l', r1, r2, _⟩ := hT.irow tp_u2.2.1 tp_b.2.2.2
  cases h.symm.trans r1
  exact r2
theorem BR.len {l : List Int32} {M : Mem} (hT : TM sT sG M) (h : BR l M) : l.length = 440 := by
  obtain ⟨l', r1, r2, _⟩ := hT.mrow tp_u2.2.2 tp_m.2.2
  cases h.symm.trans r1
  exact r2
theorem BBp.end {z x : Int32} {lb lt : List Int32} (h : BBp z.toInt.toNat lb lt) : BBp (endZ z x).toInt.toNat lb lt := by
  refine h.less ?_
  unfold endZ
  split
  · exact Nat.le_refl _
  · split
    · rename_i h1 h2
      have := Int32.le_iff_toInt_le.mp h2
      omega
    · exact Nat.le_refl _
theorem SV40 : SV4 mem0 := by
  obtain ⟨h1, z, l, a1, a2, a3, a4⟩ := SV0
  obtain ⟨lb, r1, _⟩ := h1.1.irow tp_u2.2.1 tp_b.2.2.2
  obtain ⟨lt, s1, _⟩ := h1.1.mrow tp_u2.2.2 tp_m.2.2
  obtain ⟨_, _, _, b1, b2, b3, b4⟩ := SV0
  exact ⟨h1, 0, _, lb, lt, le0_V le0_all.1, le0_V le0_all.2, ke0_V ke0_all.1, ke0_V ke0_all.2, r1, s1, fun k hk => absurd hk (Nat.not_lt_zero k)⟩
/-! BOTH SIDES BESIDE EACH OTHER, with the bytes, the fixed references, the fault told -/
def FCq (y : Int32) (M : Mem) : Prop := ∃ vs, gNth M 0 = some (.inr (10, vs)) ∧ gNth vs 15 = some (.int y)
def FRq (y : Int32) (M : Mem) : Prop := ∃ vs, gNth M 633 = some (.inr (11, vs)) ∧ gNth vs 26 = some (.int y)
theorem FCq.frm {z : Int32} {md : Md} {M M' : Mem} (h : FCq z M) (hF : Frm sT md M M') (hm : (10, 15) ∉ md) : FCq z M' := by
  obtain ⟨vs, h1, h2⟩ := h
  obtain ⟨vs', h3, _, h4⟩ := hF.2.1 0 10 vs h1
  exact ⟨vs', h3, (h4 15 hm).trans h2⟩
theorem FRq.frm {z : Int32} {md : Md} {M M' : Mem} (h : FRq z M) (hF : Frm sT md M M') (hm : (11, 26) ∉ md) : FRq z M' := by
  obtain ⟨vs, h1, h2⟩ := h
  obtain ⟨vs', h3, _, h4⟩ := hF.2.1 633 11 vs h1
  exact ⟨vs', h3, (h4 26 hm).trans h2⟩
noncomputable def fxM (md : Md) : Bool := (List.range 8).all (fun k => !mdIn md 6 k) && ((List.range 8).all (fun k => !mdIn md 1 (2 + k)) && (!mdIn md 1 10 && (!mdIn md 1 12 && !mdIn md 1 14)))
set_option maxRecDepth 200000 in
theorem fxT_g : ∀ t ∈ fxT, gNth sT t = some 28 := by decide +kernel
set_option maxRecDepth 200000 in
theorem fxA_g : ∀ t ∈ fxA, gNth sT t = some 8 := by decide +kernel
theorem fV_frm {md : Md} {M M' : Mem} {a g ci k r : Nat} (hS : SH M) (ha : gNth sT a = some g) (hB : oB g ci = true) (hF : Frm sT md M M') (hm : (!mdIn md ci k) = true) (h : fV M a k = some (.ref r)) : fV M' a k = some (.ref r) := by
  obtain ⟨vs, h1⟩ := hS.obj ha hB
  obtain ⟨vs', h3, _, h4⟩ := hF.2.1 a ci vs h1
  unfold fV at h ⊢
  rw [h1] at h
  rw [h3]
  exact (h4 k (md_no hm)).trans h
theorem FX.frm {md : Md} {M M' : Mem} (hX : FX M) (hS : SH M) (hF : Frm sT md M M') (hm : fxM md = true) : FX M' := by
  obtain ⟨m1, hm⟩ := and_t hm
  obtain ⟨m2, hm⟩ := and_t hm
  obtain ⟨m3, hm⟩ := and_t hm
  obtain ⟨m4, m5⟩ := and_t hm
  refine ⟨fun t ht k hk => fV_frm hS (fxT_g t ht) qo_28 hF (List.all_eq_true.mp m1 k (List.mem_range.mpr hk)) (hX.1 t ht k hk), fun a ha => ⟨fun k hk => ?_, ?_, ?_, ?_⟩⟩
  · exact fV_frm hS (fxA_g a ha) qo_8 hF (List.all_eq_true.mp m2 k (List.mem_range.mpr hk)) ((hX.2 a ha).1 k hk)
  · exact fV_frm hS (fxA_g a ha) qo_8 hF m3 (hX.2 a ha).2.1
  · exact fV_frm hS (fxA_g a ha) qo_8 hF m4 (hX.2 a ha).2.2.1
  · exact fV_frm hS (fxA_g a ha) qo_8 hF m5 (hX.2 a ha).2.2.2
noncomputable def rfB (a k r : Nat) : Bool := match gNth mem0 a with
  | some (.inr (_, vs)) => match gNth vs k with
    | some (.ref b) => Nat.beq b r
    | _ => false
  | _ => false
theorem rfB_V {a k r : Nat} (h : rfB a k r = true) : fV mem0 a k = some (.ref r) := by
  unfold rfB at h
  unfold fV
  split at h
  rotate_left
  · cases h
  rename_i c vs e
  rw [e]
  split at h
  rotate_left
  · cases h
  rename_i b e2
  cases Nat.eq_of_beq_eq_true h
  exact e2
set_option maxRecDepth 200000 in
theorem fx0_t : fxT.all (fun t => (List.range 8).all (fun k => rfB t k (t + 1 + k))) = true := by decide +kernel
set_option maxRecDepth 200000 in
theorem fx0_a : fxA.all (fun a => (List.range 8).all (fun k => rfB a (2 + k) (a + 1 + k)) && (rfB a 10 (a + 9) && (rfB a 12 (a + 10) && rfB a 14 (a + 11)))) = true := by decide +kernel
theorem FX0 : FX mem0 := by
  refine ⟨fun t ht k hk => rfB_V (List.all_eq_true.mp (List.all_eq_true.mp fx0_t t ht) k (List.mem_range.mpr hk)), fun a ha => ?_⟩
  obtain ⟨h1, h⟩ := and_t (List.all_eq_true.mp fx0_a a ha)
  obtain ⟨h2, h⟩ := and_t h
  obtain ⟨h3, h4⟩ := and_t h
  exact ⟨fun k hk => rfB_V (List.all_eq_true.mp h1 k (List.mem_range.mpr hk)), rfB_V h2, rfB_V h3, rfB_V h4⟩
set_option maxRecDepth 200000 in
theorem le0_flt : le0B 0 10 15 = true ∧ le0B 633 11 26 = true := by refine ⟨?_, ?_⟩ <;> decide +kernel
def SV6 (M : Mem) : Prop := INV M ∧ FX M ∧ ∃ z y l lb lt, LC z M ∧ LR z M ∧ KC l M ∧ KR l M ∧ BC lb M ∧ BR lt M ∧ BBp z.toInt.toNat lb lt ∧ FCq y M ∧ FRq y M
noncomputable def byC (ff : Bool) (c : CN) : Bool := (ff || !mdIn c.2.2.2.2.2.1 10 15) && (!mdIn c.2.2.2.2.2.1 11 26 && fxM c.2.2.2.2.2.1)
noncomputable def byR (ff : Bool) (c : CN) : Bool := (ff || !mdIn c.2.2.2.2.2.1 11 26) && (!mdIn c.2.2.2.2.2.1 10 15 && fxM c.2.2.2.2.2.1)
theorem rel_c6 {cn : CN} {k : Nat} {z w y q : Int32} {M : Mem} {ws : List Value} {l lb lt : List Int32} (zz ff : Bool) (hok : cnOK sT sG FL0 cn) (hB : (((invC cn && relC zz cn) && byB cn) && byC ff cn) = true) (hm : (gNth mRs cn.1).map (fun q => q.2.2.2.1) = some k) (hd : cn.2.1 ≤ 999) (ha : Two (taOK sT) cn.2.2.1 ws) (hV : INV M) (hX : FX M) (hC : LC z M) (hR : LR w M) (hK : KC l M) (hL : KR l M) (hP : BC lb M) (hQ : BR lt M) (hF : FCq y M) (hG : FRq q M) : ∃ v M', Ev none 999 cn.1 0 (gPad k (gArgs ws)) [] M v M' 0 0 ∧ (∃ s ∈ cn.2.2.2.2.2.2, csOK sT FL0 ws v M' s) ∧ INV M' ∧ FX M' ∧ LC (bif zz then 0 else z) M' ∧ LR w M' ∧ KC l M' ∧ KR l M' ∧ BC lb M' ∧ BR lt M' ∧ (ff = false → FCq y M') ∧ FRq q M' := by
  obtain ⟨hB, hf⟩ := and_t hB
  obtain ⟨f1, hf⟩ := and_t hf
  obtain ⟨f2, f3⟩ := and_t hf
  obtain ⟨hB, hb⟩ := and_t hB
  obtain ⟨hB, hr⟩ := and_t hB
  obtain ⟨r1, r2⟩ := and_t hr
  obtain ⟨r2, r3⟩ := and_t r2
  obtain ⟨r3, r4⟩ := and_t r3
  obtain ⟨b1, b2⟩ := and_t hb
  obtain ⟨v, M', h1, h2, h3, h4⟩ := inv_f hok hB hm hd ha hV
  refine ⟨v, M', h1, h4, h2, hX.frm hV.1.sh h3 f3, ?_, hR.frm h3 (md_no r2), hK.frm h3 (md_no r3), hL.frm h3 (md_no r4), hP.frm h3 (md_no b1), hQ.frm h3 (md_no b2), fun e => ?_, hG.frm h3 (md_no f2)⟩
  · cases zz with
    | true => exact zeB_V r1 h4
    | false => exact hC.frm h3 (md_no r1)
  · subst e
    exact hF.frm h3 (md_no f1)
theorem rel_r6 {cn : CN} {k : Nat} {z w y q : Int32} {M : Mem} {ws : List Value} {l lb lt : List Int32} (zz ff : Bool) (hok : cnOK sT sG FL0 cn) (hB : (((invC cn && relR zz cn) && byB cn) && byR ff cn) = true) (hm : (gNth mRs cn.1).map (fun q => q.2.2.2.1) = some k) (hd : cn.2.1 ≤ 999) (ha : Two (taOK sT) cn.2.2.1 ws) (hV : INV M) (hX : FX M) (hC : LC z M) (hR : LR w M) (hK : KC l M) (hL : KR l M) (hP : BC lb M) (hQ : BR lt M) (hF : FCq y M) (hG : FRq q M) : ∃ v M', Ev none 999 cn.1 0 (gPad k (gArgs ws)) [] M v M' 0 0 ∧ (∃ s ∈ cn.2.2.2.2.2.2, csOK sT FL0 ws v M' s) ∧ INV M' ∧ FX M' ∧ LC z M' ∧ LR (bif zz then 0 else w) M' ∧ KC l M' ∧ KR l M' ∧ BC lb M' ∧ BR lt M' ∧ FCq y M' ∧ (ff = false → FRq q M') := by
  obtain ⟨hB, hf⟩ := and_t hB
  obtain ⟨f1, hf⟩ := and_t hf
  obtain ⟨f2, f3⟩ := and_t hf
  obtain ⟨hB, hb⟩ := and_t hB
  obtain ⟨hB, hr⟩ := and_t hB
  obtain ⟨r1, r2⟩ := and_t hr
  obtain ⟨r2, r3⟩ := and_t r2
  obtain ⟨r3, r4⟩ := and_t r3
  obtain ⟨b1, b2⟩ := and_t hb
  obtain ⟨v, M', h1, h2, h3, h4⟩ := inv_f hok hB hm hd ha hV
  refine ⟨v, M', h1, h4, h2, hX.frm hV.1.sh h3 f3, hC.frm h3 (md_no r2), ?_, hK.frm h3 (md_no r3), hL.frm h3 (md_no r4), hP.frm h3 (md_no b1), hQ.frm h3 (md_no b2), hF.frm h3 (md_no f2), fun e => ?_⟩
  · cases zz with
    | true => exact zeB_V r1 h4
    | false => exact hR.frm h3 (md_no r1)
  · subst e
    exact hG.frm h3 (md_no f1)
theorem SV6.sv4 {M : Mem} (h : SV6 M) : SV4 M := by
  obtain ⟨h1, _, z, y, l, lb, lt, a1, a2, a3, a4, a5, a6, a7, _⟩ := h
  exact ⟨h1, z, l, lb, lt, a1, a2, a3, a4, a5, a6, a7⟩
theorem fV_app {M : Mem} {a k r : Nat} {e : AE} (h : fV M a k = some (.ref r)) : fV (M ++ [e]) a k = some (.ref r) := by
  unfold fV at h ⊢
  cases hM : gNth M a with
  | none => rw [hM] at h; cases h
  | some x =>
    rw [hM] at h
    rw [nth_app hM]
    exact h
theorem SV6.app {M : Mem} (h : SV6 M) (e : AE) : SV6 (M ++ [e]) := by
  obtain ⟨h1, hX, z, y, lk, lb, lt, ⟨vs, a1, a2⟩, ⟨vr, b1, b2⟩, k1, k2, p1, p2, hn, ⟨vf, c1, c2⟩, ⟨vg, d1, d2⟩⟩ := h
  exact ⟨h1.app e, ⟨fun t ht k hk => fV_app (hX.1 t ht k hk), fun a ha => ⟨fun k hk => fV_app ((hX.2 a ha).1 k hk), fV_app (hX.2 a ha).2.1, fV_app (hX.2 a ha).2.2.1, fV_app (hX.2 a ha).2.2.2⟩⟩, z, y, lk, lb, lt, ⟨vs, nth_app a1, a2⟩, ⟨vr, nth_app b1, b2⟩, nth_app k1, nth_app k2, nth_app p1, nth_app p2, hn, ⟨vf, nth_app c1, c2⟩, ⟨vg, nth_app d1, d2⟩⟩
theorem SV6.out {M : Mem} (h : SV6 M) : ∃ l : List Int64, gNth M 663 = some (.inl (2, .inr (.inl l))) ∧ l.length = 1 ∧ ∀ z : Int64, SV6 (gPut M 663 (.inl (2, .inr (.inl (gPut l 0 z))))) := by
  obtain ⟨h1, hX, z, y, lk, lb, lt, ⟨vs, a1, a2⟩, ⟨vr, b1, b2⟩, k1, k2, p1, p2, hn, ⟨vf, c1, c2⟩, ⟨vg, d1, d2⟩⟩ := h
  obtain ⟨l, l1, l2, l3⟩ := h1.out
  have g : ∀ (y : Int64) (a : Nat) (x : AE), a ≠ 663 → gNth M a = some x → gNth (gPut M 663 (.inl (2, .inr (.inl (gPut l 0 y))))) a = some x := fun y a x ha hx => by
    rw [nth_put, if_neg (fun q => ha q.1)]
    exact hx
  have gv : ∀ (y : Int64) (a k r : Nat), fV M a k = some (.ref r) → fV (gPut M 663 (.inl (2, .inr (.inl (gPut l 0 y))))) a k = some (.ref r) := fun y a k r hx => by
    rw [fV_put (fun c vs q => by cases q) (fun c vs q => by rw [l1] at q; cases q)]
    exact hx
  exact ⟨l, l1, l2, fun w => ⟨l3 w, ⟨fun t ht k hk => gv w _ _ _ (hX.1 t ht k hk), fun a ha => ⟨fun k hk => gv w _ _ _ ((hX.2 a ha).1 k hk), gv w _ _ _ (hX.2 a ha).2.1, gv w _ _ _ (hX.2 a ha).2.2.1, gv w _ _ _ (hX.2 a ha).2.2.2⟩⟩, z, y, lk, lb, lt, ⟨vs, g w 1 _ (by decide) a1, a2⟩, ⟨vr, g w 633 _ (by decide) b1, b2⟩, g w 340 _ (by decide) k1, g w 638 _ (by decide) k2, g w 2 _ (by decide) p1, g w 634 _ (by decide) p2, hn, ⟨vf, g w 0 _ (by decide) c1, c2⟩, ⟨vg, g w 633 _ (by decide) d1, d2⟩⟩⟩
theorem SV60 : SV6 mem0 := by
  obtain ⟨h1, z, l, a1, a2, a3, a4⟩ := SV0
  obtain ⟨lb, r1, _⟩ := h1.1.irow tp_u2.2.1 tp_b.2.2.2
  obtain ⟨lt, s1, _⟩ := h1.1.mrow tp_u2.2.2 tp_m.2.2
  exact ⟨h1, FX0, 0, 0, _, lb, lt, le0_V le0_all.1, le0_V le0_all.2, ke0_V ke0_all.1, ke0_V ke0_all.2, r1, s1, fun k hk => absurd hk (Nat.not_lt_zero k), le0_V le0_flt.1, le0_V le0_flt.2⟩
/-! the texts of both sides, read -/
noncomputable def bL (lt : List Int32) : Nat → Int32 := fun k => (gNth lt k).getD 0 &&& 255
noncomputable def RDl (lt : List Int32) (z : Int32) (law : Bool) : PLn := rdB (bL lt) z.toInt.toNat law ((prS (bL lt) 996).1 1)
section R6
variable {z y w : Int32} {M M' : Mem} {lb lt : List Int32} {v : Option Value}
theorem LC.zi (h : LC z M) : zI M 1 1 = z := by
  obtain ⟨vs, h1, h2⟩ := h
  unfold zI fV
  rw [h1]
  dsimp only
  rw [h2]
theorem LR.zi (h : LR z M) : zI M 633 2 = z := by
  obtain ⟨vs, h1, h2⟩ := h
  unfold zI fV
  rw [h1]
  dsimp only
  rw [h2]
theorem FCq.zi (h : FCq z M) : zI M 0 15 = z := by
  obtain ⟨vs, h1, h2⟩ := h
  unfold zI fV
  rw [h1]
  dsimp only
  rw [h2]
theorem FRq.zi (h : FRq z M) : zI M 633 26 = z := by
  obtain ⟨vs, h1, h2⟩ := h
  unfold zI fV
  rw [h1]
  dsimp only
  rw [h2]
theorem FCq.of (hS : SH M) (h : zI M 0 15 = z) : FCq z M := by
  obtain ⟨vs, h1, h2⟩ := hS.fi qa_0 qi_0_15
  rw [h] at h2
  exact ⟨vs, h1, h2⟩
theorem FRq.of (hS : SH M) (h : zI M 633 26 = z) : FRq z M := by
  obtain ⟨vs, h1, h2⟩ := hS.fi qa_633 qi_61_26
  rw [h] at h2
  exact ⟨vs, h1, h2⟩
theorem BR.bl (h : BR lt M) : bR M = bL lt := by
  funext k
  unfold bR bL rN zrw
  have h : gNth M 634 = some (.inl (0, .inl lt)) := h
  rw [h]
theorem BC.bl {n : Nat} (h : BC lb M) (hN : BBp n lb lt) : ∀ k, k < n → bC M k = bL lt k := by
  intro k hk
  obtain ⟨y, h1, h2⟩ := hN k hk
  unfold bC bL rN zrw
  have h : gNth M 2 = some (.inl (1, .inl lb)) := h
  rw [h]
  dsimp only
  rw [h1, h2]
  rfl
theorem law6C (hV : INV M) (hX : FX M) (hC : LC z M) (hP : BC lb M) (hN : BBp z.toInt.toNat lb lt) (H : Ev none 999 85 0 [some (.ref 0), none, none] [] M v M' 0 0) : ∃ r, v = some (.int r) ∧ r.toInt = ansB (RDl lt z true) ∧ FCq (fltB (RDl lt z true)) M' := by
  have hr := hC.rng hV.1
  obtain ⟨⟨x, h1, h2⟩, h3, _, _, h4, _⟩ := law_ok (e := 996) (n := z.toInt.toNat) (B := bL lt) ⟨hV.1.sh, hX⟩ (by rw [hC.zi]; omega) (by omega) (hP.bl hN) H
  exact ⟨x, h1, h2, FCq.of h3.1 h4⟩
theorem law6R (hV : INV M) (hX : FX M) (hz : 0 ≤ z.toInt ∧ z.toInt ≤ 440) (hR : LR z M) (hQ : BR lt M) (H : Ev none 999 183 0 [some (.ref 633), none] [] M v M' 0 0) : ∃ r, v = some (.int r) ∧ r.toInt = ansB (RDl lt z true) ∧ FRq (fltB (RDl lt z true)) M' := by
  obtain ⟨⟨x, h1, h2⟩, h3, _, h4, _⟩ := rlaw_ok (kk := 996) (n := z.toInt.toNat) (by omega) (by omega) ⟨hV.1.sh, hX⟩ (by rw [hR.zi]; omega) H
  rw [hQ.bl] at h2 h4
  exact ⟨x, h1, h2, FRq.of h3.1 h4⟩
noncomputable def hbA (lt : List Int32) (z x : Int32) : Int := if 0 ≤ x.toInt ∧ x.toInt ≤ 5 then ansB (RDl lt z false) else -1000
noncomputable def hbF (lt : List Int32) (z x y : Int32) : Int32 := if 0 ≤ x.toInt ∧ x.toInt ≤ 5 then fltB (RDl lt z false) else y
theorem hab6C {x : Int32} (hV : INV M) (hX : FX M) (hC : LC z M) (hP : BC lb M) (hN : BBp z.toInt.toNat lb lt) (hF : FCq y M) (H : Ev none 999 86 0 [some (.ref 0), some (.int x), none, none] [] M v M' 0 0) : ∃ r, v = some (.int r) ∧ r.toInt = hbA lt z x ∧ FCq (hbF lt z x y) M' := by
  have hr := hC.rng hV.1
  have hS : SQ M := ⟨hV.1.sh, hX⟩
  unfold hbA hbF
  by_cases hx : 0 ≤ x.toInt ∧ x.toInt ≤ 5
  · rw [if_pos hx, if_pos hx]
    obtain ⟨⟨x, h1, h2⟩, h3, _, _, _, _, h4, _⟩ := hab_ok (e := 996) (n := z.toInt.toNat) (B := bL lt) hS hx (by rw [hC.zi]; omega) (by omega) (hP.bl hN) H
    exact ⟨x, h1, h2, FCq.of h3.1 h4⟩
  · rw [if_neg hx, if_neg hx]
    obtain ⟨rfl, rfl⟩ := hab_out hS hx H
    exact ⟨_, rfl, rfl, FCq.of hS.kf.1 (by rw [fI_wF_ne (by decide)]; exact hF.zi)⟩
theorem hab6R {x : Int32} (hV : INV M) (hX : FX M) (hz : 0 ≤ z.toInt ∧ z.toInt ≤ 440) (hR : LR z M) (hQ : BR lt M) (hG : FRq y M) (H : Ev none 999 184 0 [some (.ref 633), some (.int x)] [] M v M' 0 0) : ∃ r, v = some (.int r) ∧ r.toInt = hbA lt z x ∧ FRq (hbF lt z x y) M' := by
  have hS : SQ M := ⟨hV.1.sh, hX⟩
  unfold hbA hbF
  by_cases hx : 0 ≤ x.toInt ∧ x.toInt ≤ 5
  · rw [if_pos hx, if_pos hx]
    obtain ⟨⟨x, h1, h2⟩, h3, _, h4, _⟩ := rhab_ok (kk := 996) (n := z.toInt.toNat) (t := x.toInt.toNat) (by omega) (by omega) (by omega) (by omega) hS (by rw [hR.zi]; omega) H
    rw [hQ.bl] at h2 h4
    exact ⟨x, h1, h2, FRq.of h3.1 h4⟩
  · rw [if_neg hx, if_neg hx]
    obtain ⟨rfl, rfl⟩ := rhab_out hS hx H
    obtain ⟨t1, t2, _⟩ := tkn hS
    exact ⟨_, rfl, rfl, FRq.of t1.1 (by rw [t2.fi (by decide)]; exact hG.zi)⟩
theorem flt6C (hV : INV M) (hX : FX M) (hF : FCq y M) (H : Ev none 999 88 0 [some (.ref 0)] [] M v M' 0 0) : v = some (.int y) := by
  obtain ⟨h1, _⟩ := flt_0 ⟨hV.1.sh, hX⟩ H
  rw [h1, hF.zi]
theorem flt6R (hV : INV M) (hX : FX M) (hG : FRq y M) (H : Ev none 999 185 0 [some (.ref 633)] [] M v M' 0 0) : v = some (.int y) := by
  obtain ⟨h1, _⟩ := rflt_ok ⟨hV.1.sh, hX⟩ H
  rw [h1, hG.zi]
end R6
/-! A WHOLE ROW WRITTEN -/
noncomputable def wL (M : Mem) (a : Nat) (l : List Int32) : Mem := match gNth M a with
  | some (.inl (kd, .inl _)) => gPut M a (.inl (kd, .inl l))
  | _ => M
noncomputable def wA (M : Mem) (a : Nat) (x : Int32) : Mem := wL M a (gRep (zrw M a).length x)
noncomputable def wC (M : Mem) (a b : Nat) : Mem := wL M b (zrw M a)
section WLL
variable {M : Mem} {a b g g2 k i kd n : Nat} {l : List Int32} {x : Int32}
theorem fV_wL : fV (wL M a l) b k = fV M b k := by
  unfold wL
  split
  · rename_i hM
    exact fV_put (fun c vs q => by cases q) (fun c vs q => by rw [hM] at q; cases q)
  · rfl
theorem fI_wL : zI (wL M a l) b k = zI M b k := by unfold zI; rw [fV_wL]
theorem fR_wL : fR (wL M a l) b k = fR M b k := by unfold fR; rw [fV_wL]
theorem fL_wL : fL (wL M a l) b k = fL M b k := by unfold fL; rw [fV_wL]
theorem roL_wL : roL (wL M a l) b = roL M b := by
  unfold wL
  split
  · rename_i hM
    unfold roL
    rw [nth_put]
    by_cases hb : b = a ∧ a < M.length
    · rw [if_pos hb, hb.1, hM]
    · rw [if_neg hb]
  · rfl
theorem rwL_wL_ne (h : b ≠ a) : zrw (wL M a l) b = zrw M b := by
  unfold wL
  split
  · unfold zrw
    rw [nth_put, if_neg (fun q => h q.1)]
  · rfl
theorem rwL_wL_eq (hS : SH M) (ha : gNth sT a = some g) (hB : wB g kd n = true) : zrw (wL M a l) a = l := by
  obtain ⟨h1, _⟩ := hS.row ha hB
  unfold wL
  rw [h1]
  dsimp only
  unfold zrw
  rw [nth_put, if_pos ⟨rfl, gNth_lt _ _ _ h1⟩]
theorem SH.kl (hS : SH M) (hl : l.length = (zrw M a).length) : SH (wL M a l) := by
  unfold wL
  split
  · rename_i kd l0 hM
    have hz : zrw M a = l0 := by
      unfold zrw
      rw [hM]
    rw [hz] at hl
    refine hS.put (fun g t h1 h2 => ?_)
    obtain ⟨e, e1, e2⟩ := hS.2 a g t h1 h2
    cases hM.symm.trans e1
    rcases t with ⟨ci, fs⟩ | ⟨q, n, u⟩
    · obtain ⟨vs, h3, _⟩ := e2
      cases h3
    · rcases u with sg | g2
      · match q, e2 with
        | 0, e2 => obtain ⟨l2, h3, h4⟩ := e2; cases h3; exact ⟨_, rfl, hl.trans h4⟩
        | 1, e2 => obtain ⟨l2, h3, h4⟩ := e2; cases h3; exact ⟨_, rfl, hl.trans h4⟩
        | 2, e2 => obtain ⟨l2, h3, h4⟩ := e2; cases h3
        | q + 3, e2 => obtain ⟨l2, h3, h4⟩ := e2; cases h3; exact ⟨_, rfl, hl.trans h4⟩
      · match q, e2 with
        | 0, e2 => obtain ⟨l2, h3, h4⟩ := e2; cases h3
        | 1, e2 => obtain ⟨l2, h3, h4⟩ := e2; cases h3
        | 2, e2 => obtain ⟨l2, h3, h4⟩ := e2; cases h3
        | q + 3, e2 => obtain ⟨l2, h3, h4⟩ := e2; cases h3
  · exact hS
theorem SQ.kl (h : SQ M) (hl : l.length = (zrw M a).length) : SQ (wL M a l) := ⟨h.1.kl hl, h.2.mv (fun b i r q => by rw [fV_wL]; exact q)⟩
theorem SQ.ka (h : SQ M) : SQ (wA M a x) := h.kl (rep_len _ _)
theorem SQ.kc (h : SQ M) (ha : gNth sT a = some g) (hA : wB g 1 n = true) (hb : gNth sT b = some g2) (hB : wB g2 1 n = true) : SQ (wC M a b) := h.kl ((h.1.row ha hA).2.trans (h.1.row hb hB).2.symm)
theorem fI_wA : zI (wA M a x) b k = zI M b k := fI_wL
theorem fR_wA : fR (wA M a x) b k = fR M b k := fR_wL
theorem fL_wA : fL (wA M a x) b k = fL M b k := fL_wL
theorem fI_wC {c : Nat} : zI (wC M a c) b k = zI M b k := fI_wL
theorem fR_wC {c : Nat} : fR (wC M a c) b k = fR M b k := fR_wL
theorem fL_wC {c : Nat} : fL (wC M a c) b k = fL M b k := fL_wL
theorem rN_wA_ne (h : b ≠ a) : rN (wA M a x) b i = rN M b i := by unfold rN wA; rw [rwL_wL_ne h]
theorem rN_wA_eq (hS : SH M) (ha : gNth sT a = some g) (hB : wB g kd n = true) (hi : i < n) : rN (wA M a x) a i = x := by
  unfold rN wA
  rw [rwL_wL_eq hS ha hB, rep_nth, if_pos (by rw [(hS.row ha hB).2]; exact hi)]
  rfl
theorem rN_wC_ne {c : Nat} (h : b ≠ c) : rN (wC M a c) b i = rN M b i := by unfold rN wC; rw [rwL_wL_ne h]
theorem rN_wC_eq (hS : SH M) (ha : gNth sT a = some g) (hB : wB g kd n = true) : rN (wC M b a) a i = rN M b i := by
  unfold rN wC
  rw [rwL_wL_eq hS ha hB]
end WLL
section FIL
variable {d me pc o np kf mx ix a b g g2 n c s : Nat} {y : MethodName} {cc : ByteArray} {ret : Option FieldType} {tab : List (Nat × Nat × Instr)} {ls : Lo} {st : List Value} {M M' : Mem} {v : Option Value} {x k : Int32}
theorem Ev.fil (hrow : gNth mRs me = some (o, y, cc, mx, ret, np, kf, tab)) (hl : gLook tab pc = some (7, .invokestatic ix)) (hq : ∀ st M, gCal (.invokestatic ix) o st M = (match gNat 1004 st M with | some q => cond (Nat.beq 0 0 && gRoom q.1) (some (.inl q)) none | none => none)) (hS : SH M) (ha : gNth sT a = some g) (hB : wB g 1 n = true) (h : Ev none d me pc ls (.int x :: .ref a :: st) M v M' c s) : Ev none d me (pc + 3) ls st (wA M a x) v M' c s := by
  obtain ⟨st1, M1, e, h⟩ := Ev.cal hrow hl (fun q e => by
    rw [hq] at e
    split at e
    · obtain ⟨_, e⟩ := cond_inv e
      cases e
    · cases e) h
  rw [hq] at e
  obtain ⟨h1, h2⟩ := hS.row ha hB
  have e : (match (match gNth M a with
      | some (.inl (1, .inl l)) => cond (Nat.ble (gLn l) 60000) (some (st, gPut M a (.inl (1, .inl (gRep (gLn l) x))))) none
      | _ => none) with | some q => cond (Nat.beq 0 0 && gRoom q.1) (some (Sum.inl (β := Nat × Lo × List Value) q)) none | none => none) = some (.inl (st1, M1)) := e
  rw [h1] at e
  have e : (match (cond (Nat.ble (gLn (zrw M a)) 60000) (some (st, gPut M a (.inl (1, .inl (gRep (gLn (zrw M a)) x))))) none) with | some q => cond (Nat.beq 0 0 && gRoom q.1) (some (Sum.inl (β := Nat × Lo × List Value) q)) none | none => none) = some (.inl (st1, M1)) := e
  cases hb : Nat.ble (gLn (zrw M a)) 60000 with
  | false => rw [hb] at e; cases e
  | true =>
    rw [hb] at e
    obtain ⟨_, e⟩ := cond_inv e
    cases e
    have hw : wA M a x = gPut M a (.inl (1, .inl (gRep (gLn (zrw M a)) x))) := by
      unfold wA wL
      rw [h1, gln_len]
    rw [hw]
    exact h
theorem Ev.cpy (hrow : gNth mRs me = some (o, y, cc, mx, ret, np, kf, tab)) (hl : gLook tab pc = some (7, .invokestatic ix)) (hq : ∀ st M, gCal (.invokestatic ix) o st M = (match gNat 1005 st M with | some q => cond (Nat.beq 0 0 && gRoom q.1) (some (.inl q)) none | none => none)) (hS : SH M) (ha : gNth sT a = some g) (hA : wB g 1 n = true) (hb : gNth sT b = some g2) (hB : wB g2 1 n = true) (hk : k.toNatClampNeg = n) (h : Ev none d me pc ls (.int k :: .int 0 :: .ref b :: .int 0 :: .ref a :: st) M v M' c s) : Ev none d me (pc + 3) ls st (wC M a b) v M' c s := by
  obtain ⟨st1, M1, e, h⟩ := Ev.cal hrow hl (fun q e => by
    rw [hq] at e
    split at e
    · obtain ⟨_, e⟩ := cond_inv e
      cases e
    · cases e) h
  rw [hq] at e
  obtain ⟨h1, h2⟩ := hS.row ha hA
  obtain ⟨h3, h4⟩ := hS.row hb hB
  have e : (match (match gNth M a, gNth M b with
      | some (.inl (1, .inl f)), some (.inl (1, .inl g)) => cond (!decide ((0 : Int32) < 0) && !decide ((0 : Int32) < 0) && !decide (k < 0) && Nat.ble ((0 : Int32).toNatClampNeg + k.toNatClampNeg) (gLn f) && Nat.ble ((0 : Int32).toNatClampNeg + k.toNatClampNeg) (gLn g)) (some (st, gPut M b (.inl (1, .inl (g.take (0 : Int32).toNatClampNeg ++ ((f.drop (0 : Int32).toNatClampNeg).take k.toNatClampNeg ++ g.drop ((0 : Int32).toNatClampNeg + k.toNatClampNeg))))))) none
      | _, _ => none) with | some q => cond (Nat.beq 0 0 && gRoom q.1) (some (Sum.inl (β := Nat × Lo × List Value) q)) none | none => none) = some (.inl (st1, M1)) := e
  rw [h1, h3] at e
  have e : (match (cond (!decide ((0 : Int32) < 0) && !decide ((0 : Int32) < 0) && !decide (k < 0) && Nat.ble ((0 : Int32).toNatClampNeg + k.toNatClampNeg) (gLn (zrw M a)) && Nat.ble ((0 : Int32).toNatClampNeg + k.toNatClampNeg) (gLn (zrw M b))) (some (st, gPut M b (.inl (1, .inl ((zrw M b).take (0 : Int32).toNatClampNeg ++ (((zrw M a).drop (0 : Int32).toNatClampNeg).take k.toNatClampNeg ++ (zrw M b).drop ((0 : Int32).toNatClampNeg + k.toNatClampNeg))))))) none) with | some q => cond (Nat.beq 0 0 && gRoom q.1) (some (Sum.inl (β := Nat × Lo × List Value) q)) none | none => none) = some (.inl (st1, M1)) := e
  split at e
  · rename_i q e1
    obtain ⟨_, e1⟩ := cond_inv e1
    obtain ⟨_, e⟩ := cond_inv e
    cases e
    cases e1
    have e0 : (0 : Int32).toNatClampNeg = 0 := rfl
    have hw : wC M a b = gPut M b (.inl (1, .inl ((zrw M b).take (0 : Int32).toNatClampNeg ++ (((zrw M a).drop (0 : Int32).toNatClampNeg).take k.toNatClampNeg ++ (zrw M b).drop ((0 : Int32).toNatClampNeg + k.toNatClampNeg))))) := by
      rw [e0, hk, List.take_zero, List.drop_zero, List.nil_append, List.take_of_length_le (by omega), List.drop_of_length_le (by omega), List.append_nil]
      unfold wC wL
      rw [h3]
    rw [hw]
    exact h
  · cases e
end FIL
/-! FRAMES by places -/
def FZ (F : Nat → Nat → Prop) (W O : Nat → Prop) (M M' : Mem) : Prop := (∀ a k, ¬ F a k → fV M' a k = fV M a k) ∧ (∀ b, ¬ W b → zrw M' b = zrw M b) ∧ ∀ b, ¬ O b → roL M' b = roL M b
section FPP
variable {F G : Nat → Nat → Prop} {W V O U : Nat → Prop} {M M1 M2 : Mem} {a b k j i r : Nat} {x : Int32} {z : Int64} {l : List Int32}
theorem FZ.refl (M : Mem) : FZ F W O M M := ⟨fun _ _ _ => rfl, fun _ _ => rfl, fun _ _ => rfl⟩
theorem FZ.trans (h1 : FZ F W O M M1) (h2 : FZ F W O M1 M2) : FZ F W O M M2 := ⟨fun a k h => (h2.1 a k h).trans (h1.1 a k h), fun b h => (h2.2.1 b h).trans (h1.2.1 b h), fun b h => (h2.2.2 b h).trans (h1.2.2 b h)⟩
theorem FZ.more (h : FZ F W O M M1) (hF : ∀ a k, F a k → G a k) (hW : ∀ a, W a → V a) (hO : ∀ a, O a → U a) : FZ G V U M M1 := ⟨fun a k q => h.1 a k (fun r => q (hF _ _ r)), fun b q => h.2.1 b (fun r => q (hW _ r)), fun b q => h.2.2 b (fun r => q (hO _ r))⟩
theorem FZ.fi (h : FZ F W O M M1) (hn : ¬ F a k) : zI M1 a k = zI M a k := by unfold zI; rw [h.1 a k hn]
theorem FZ.fr (h : FZ F W O M M1) (hn : ¬ F a k) : fR M1 a k = fR M a k := by unfold fR; rw [h.1 a k hn]
theorem FZ.fl (h : FZ F W O M M1) (hn : ¬ F a k) : fL M1 a k = fL M a k := by unfold fL; rw [h.1 a k hn]
theorem FZ.rn (h : FZ F W O M M1) (hn : ¬ W b) : rN M1 b j = rN M b j := by unfold rN; rw [h.2.1 b hn]
theorem FZ.on (h : FZ F W O M M1) (hn : ¬ O b) : oN M1 b j = oN M b j := by unfold oN; rw [h.2.2 b hn]
theorem FZ.wI (h : W a) : FZ F W O M (wI M a j x) := ⟨fun _ _ _ => fV_wI, fun b hb => rwL_wI_ne (fun q => hb (q ▸ h)), fun _ _ => roL_wI⟩
theorem FZ.wF (h : F a k) : FZ F W O M (wF M a k x) := ⟨fun b i hb => fV_wF_ne (fun q => hb (by rw [q.1, q.2]; exact h)), fun _ _ => rwL_wF, fun _ _ => roL_wF⟩
theorem FZ.wR (h : F a k) : FZ F W O M (wR M a k r) := ⟨fun b i hb => fV_wR_ne (fun q => hb (by rw [q.1, q.2]; exact h)), fun _ _ => rwL_wR, fun _ _ => roL_wR⟩
theorem FZ.wO (h : O a) : FZ F W O M (wO M a j r) := ⟨fun _ _ _ => fV_wO, fun _ _ => rwL_wO, fun b hb => roL_wO_ne (fun q => hb (q ▸ h))⟩
theorem FZ.wL (h : W a) : FZ F W O M (wL M a l) := ⟨fun _ _ _ => fV_wL, fun b hb => rwL_wL_ne (fun q => hb (q ▸ h)), fun _ _ => roL_wL⟩
theorem FZ.wA (h : W a) : FZ F W O M (wA M a x) := FZ.wL h
theorem FZ.wC (h : W b) : FZ F W O M (wC M a b) := FZ.wL h
theorem FA.fp {F : List (Nat × Nat)} {W : List Nat} (h : FA F W M M1) : FZ (fun a k => (a, k) ∈ F) (fun a => a ∈ W) (fun _ => False) M M1 := ⟨fun a k q => h.1 a k q, fun b q => h.2.1 b q, fun b _ => h.2.2 b⟩
end FPP
/-! CONDITIONS, evaluated: what the parser writes is well formed, and never deep -/
/-- what is asked of a CELL -/
def atC (c : Cdq) : Prop := 0 ≤ c.1.toInt ∧ (c.1.toInt ≤ 7 ∨ (8 ≤ c.1.toInt ∧ c.1.toInt ≤ 11 ∧ (c.2.1 = 60 ∨ c.2.1 = 61 ∨ c.2.1 = 62) ∧ 0 ≤ c.2.2.toInt ∧ c.2.2.toInt ≤ 999))
theorem atC.no {c : Cdq} (h : atC c) : c.1 ≠ 20 ∧ c.1 ≠ 21 ∧ c.1 ≠ 22 := by
  have e0 : (20 : Int32).toInt = 20 := rfl
  have e1 : (21 : Int32).toInt = 21 := rfl
  have e2 : (22 : Int32).toInt = 22 := rfl
  obtain ⟨h0, h⟩ := h
  refine ⟨fun q => ?_, fun q => ?_, fun q => ?_⟩ <;> rw [q] at h0 h <;> rcases h with h | ⟨_, h, _⟩ <;> omega
/-- steps well formed, d values lying on the pile, 32 at most; one is left -/
def okC : List Cdq → Nat → Prop
  | [], d => d = 1
  | c :: r, d => if c.1 = 20 then 1 ≤ d ∧ okC r d else if c.1 = 21 ∨ c.1 = 22 then 2 ≤ d ∧ okC r (d - 1) else atC c ∧ d < 32 ∧ okC r (d + 1)
/-- one value more, no more than m deep -/
def GC (cs : List Cdq) (m : Nat) : Prop := ∀ (d : Nat) (r : List Cdq), d + m ≤ 32 → okC r (d + 1) → okC (cs ++ r) d
theorem GC.atom (c : Cdq) (h : atC c) : GC [c] 1 := by
  intro d r hd hr
  show (if c.1 = 20 then _ else _)
  rw [if_neg h.no.1, if_neg (fun q => q.elim h.no.2.1 h.no.2.2)]
  exact ⟨h, by omega, hr⟩
theorem GC.nott (cs : List Cdq) (m : Nat) (h : GC cs m) : GC (cs ++ [(20, 0, 0)]) m := by
  intro d r hd hr
  rw [List.append_assoc]
  refine h d _ hd ?_
  show (if (20 : Int32) = 20 then _ else _)
  rw [if_pos rfl]
  exact ⟨by omega, hr⟩
theorem GC.bin (as bs : List Cdq) (m k : Nat) (c : Int32) (h1 : GC as m) (h2 : GC bs k) (hc : c = 21 ∨ c = 22) : GC (as ++ (bs ++ [(c, 0, 0)])) (max m (k + 1)) := by
  intro d r hd hr
  rw [List.append_assoc, List.append_assoc]
  refine h1 d _ (by omega) (h2 (d + 1) _ (by omega) ?_)
  have h20 : ¬ c = 20 := by rcases hc with rfl | rfl <;> decide
  show (if c = 20 then _ else _)
  rw [if_neg h20, if_pos hc]
  exact ⟨by omega, hr⟩
theorem GC.ok {cs : List Cdq} {m : Nat} (h : GC cs m) (hm : m ≤ 32) : okC cs 0 := by
  have := h 0 [] (by omega) rfl
  rw [List.append_nil] at this
  exact this
/-- what a COND comes to, its steps one by one; the pile's top is the head -/
def evC (tr : Cdq → Bool) : List Cdq → List Bool → List Bool
  | [], st => st
  | c :: r, st => evC tr r (if c.1 = 20 then (match st with
      | x :: q => (!x) :: q
      | [] => []) else if c.1 = 21 then (match st with
      | y :: x :: q => (x && y) :: q
      | _ => []) else if c.1 = 22 then (match st with
      | y :: x :: q => (x || y) :: q
      | _ => []) else tr c :: st)
section WFC
variable {B : Nat → Int32}
def bO (dep : Nat) : Nat := 1 + 2 * (11 - dep)
def TKn (ts : List Tok) : Prop := ∀ t ∈ ts, t.1 = 3 → 0 ≤ t.2.2.2.toInt ∧ t.2.2.2.toInt ≤ 999
theorem TKn.tl {ts : List Tok} (h : TKn ts) : TKn ts.tail := fun t ht => h t (List.mem_of_mem_tail ht)
theorem TKn.hd {ts : List Tok} (h : TKn ts) (h3 : (hdT ts).1 = 3) : 0 ≤ (hdT ts).2.2.2.toInt ∧ (hdT ts).2.2.2.toInt ≤ 999 := by
  cases ts with
  | nil => exact absurd h3 (show ¬ (0 : Int32) = 3 by decide)
  | cons t r => exact h t List.mem_cons_self h3
def WO (b : Nat → Nat) (O : Nat → Sg → PR) : Prop := ∀ dep s s2, TKn s.1 → O dep s = .inl s2 → TKn s2.1 ∧ ∃ cs m, s2.2.2 = s.2.2 ++ cs ∧ GC cs m ∧ m ≤ b dep
theorem mr_wf {w : List Int32} {c : Int32} {O : Nat → Sg → PR} {b : Nat → Nat} {dep : Nat} (hc : c = 21 ∨ c = 22) (hO : WO b O) : ∀ (j : Nat) (s s2 : Sg) (X cs : List Cdq) (m : Nat), TKn s.1 → s.2.2 = X ++ cs → GC cs m → m ≤ b dep + 1 → mrB B w c O dep j s = .inl s2 → TKn s2.1 ∧ ∃ cs' m', s2.2.2 = X ++ cs' ∧ GC cs' m' ∧ m' ≤ b dep + 1 := by
  intro j
  induction j with
  | zero =>
    intro s s2 X cs m ht h1 h2 h3 h
    cases h
    exact ⟨ht, cs, m, h1, h2, h3⟩
  | succ j ih =>
    intro s s2 X cs m ht h1 h2 h3 h
    unfold mrB at h
    by_cases hw : wdS B (hdT s.1) = w
    · rw [if_pos hw] at h
      cases ho : O dep (s.1.tail, s.2.1, s.2.2) with
      | inr f => rw [ho] at h; cases h
      | inl s3 =>
        rw [ho] at h
        obtain ⟨ht3, ds, k, e1, e2, e3⟩ := hO dep _ _ ht.tl ho
        refine ih (s3.1, s3.2.1, s3.2.2 ++ [(c, 0, 0)]) s2 X (cs ++ (ds ++ [(c, 0, 0)])) (max m (k + 1)) ht3 ?_ (GC.bin cs ds m k c h2 e2 hc) (by omega) h
        show s3.2.2 ++ [(c, 0, 0)] = X ++ (cs ++ (ds ++ [(c, 0, 0)]))
        rw [e1]
        show (s.2.2 ++ ds) ++ [(c, 0, 0)] = _
        rw [h1]
        simp only [List.append_assoc]
    · rw [if_neg hw] at h
      cases h
      exact ⟨ht, cs, m, h1, h2, h3⟩
theorem all_wf {O : Nat → Sg → PR} {b : Nat → Nat} (hO : WO b O) : WO (fun d => b d + 1) (allB B O) := by
  intro dep s s2 ht h
  unfold allB at h
  cases ho : O dep s with
  | inr f => rw [ho] at h; cases h
  | inl s3 =>
    rw [ho] at h
    obtain ⟨ht3, cs, m, e1, e2, e3⟩ := hO dep _ _ ht ho
    exact mr_wf (Or.inl rfl) hO 40 s3 s2 s.2.2 cs m ht3 e1 e2 (by omega) h
theorem con_wf {A : Nat → Sg → PR} {b : Nat → Nat} (hA : WO b A) : WO (fun d => b d + 1) (conB B A) := by
  intro dep s s2 ht h
  unfold conB at h
  cases ho : A dep s with
  | inr f => rw [ho] at h; cases h
  | inl s3 =>
    rw [ho] at h
    obtain ⟨ht3, cs, m, e1, e2, e3⟩ := hA dep _ _ ht ho
    exact mr_wf (Or.inr rfl) hA 40 s3 s2 s.2.2 cs m ht3 e1 e2 (by omega) h
theorem ix13 {w : List Int32} (h : ¬ ixF w oneW 0 < 0) : 0 ≤ (ixF w oneW 0).toInt ∧ (ixF w oneW 0).toInt ≤ 12 := by
  have z0 : (0 : Int32).toInt = 0 := rfl
  have hl : (oneW.length : Int) = 13 := rfl
  rcases ixF_bd (w := w) oneW 0 (by decide) (by decide) with q | ⟨q1, q2, _⟩
  · rw [q] at h
    exact absurd (by decide) h
  · omega
theorem one_wf {C O : Nat → Sg → PR} (hC : WO (fun d => bO d + 2) C) (hO : WO bO O) : WO bO (oneB B C O) := by
  intro dep s s2 ht h
  have e12 : (12 : Int32).toInt = 12 := rfl
  have e8 : (8 : Int32).toInt = 8 := rfl
  unfold oneB at h
  by_cases h1 : ixF (wdS B (hdT s.1)) oneW 0 < 0 ∧ (hdT s.1).1 ≠ 40
  · rw [if_pos h1] at h
    cases h
  · rw [if_neg h1] at h
    by_cases h2 : 40 ≤ s.2.1 ∨ 10 < dep
    · rw [if_pos h2] at h
      cases h
    · rw [if_neg h2] at h
      have hd : dep ≤ 10 := by omega
      by_cases h3 : ixF (wdS B (hdT s.1)) oneW 0 < 0
      · rw [if_pos h3] at h
        cases hc : C (dep + 1) (s.1.tail, s.2.1 + 1, s.2.2) with
        | inr f => rw [hc] at h; cases h
        | inl s3 =>
          rw [hc] at h
          obtain ⟨ht3, cs, m, e1, e2, e3⟩ := hC _ _ _ ht.tl hc
          have h : (if (hdT s3.1).1 ≠ 41 then (.inr (1, (hdT s3.1).2.1) : PR) else .inl (s3.1.tail, s3.2.1, s3.2.2)) = .inl s2 := h
          by_cases h4 : (hdT s3.1).1 ≠ 41
          · rw [if_pos h4] at h
            cases h
          · rw [if_neg h4] at h
            cases h
            exact ⟨ht3.tl, cs, m, e1, e2, by have e3 : m ≤ bO (dep + 1) + 2 := e3; unfold bO at e3 ⊢; omega⟩
      · rw [if_neg h3] at h
        obtain ⟨i1, i2⟩ := ix13 h3
        by_cases h4 : ixF (wdS B (hdT s.1)) oneW 0 = 12
        · rw [if_pos h4] at h
          cases hc : O (dep + 1) (s.1.tail, s.2.1 + 1, s.2.2) with
          | inr f => rw [hc] at h; cases h
          | inl s3 =>
            rw [hc] at h
            cases h
            obtain ⟨ht3, cs, m, e1, e2, e3⟩ := hO _ _ _ ht.tl hc
            refine ⟨ht3, cs ++ [(20, 0, 0)], m, ?_, GC.nott cs m e2, by unfold bO at e3 ⊢; omega⟩
            show s3.2.2 ++ [(20, 0, 0)] = _
            rw [e1, List.append_assoc]
        · rw [if_neg h4] at h
          have i3 : (ixF (wdS B (hdT s.1)) oneW 0).toInt ≤ 11 := by
            have : (ixF (wdS B (hdT s.1)) oneW 0).toInt ≠ 12 := fun q => h4 (Int32.toInt_inj.mp (q.trans e12.symm))
            omega
          have b1 : 1 ≤ bO dep := by unfold bO; omega
          by_cases h5 : 8 ≤ ixF (wdS B (hdT s.1)) oneW 0
          · rw [if_pos h5] at h
            rw [Int32.le_iff_toInt_le] at h5
            unfold cmpS at h
            by_cases g1 : (hdT s.1.tail).1 ≠ 60 ∧ (hdT s.1.tail).1 ≠ 61 ∧ (hdT s.1.tail).1 ≠ 62
            · rw [if_pos g1] at h
              cases h
            · rw [if_neg g1] at h
              by_cases g2 : (hdT s.1.tail.tail).1 ≠ 3
              · rw [if_pos g2] at h
                cases h
              · rw [if_neg g2] at h
                cases h
                have g3 := ht.tl.tl.hd (Decidable.not_not.mp g2)
                refine ⟨ht.tl.tl.tl, _, 1, rfl, GC.atom _ ⟨i1, Or.inr ⟨(by show (8 : Int) ≤ (ixF (wdS B (hdT s.1)) oneW 0).toInt; omega), i3, ?_, g3⟩⟩, b1⟩
                show (hdT s.1.tail).1 = 60 ∨ (hdT s.1.tail).1 = 61 ∨ (hdT s.1.tail).1 = 62
                by_cases q1 : (hdT s.1.tail).1 = 60
                · exact Or.inl q1
                · by_cases q2 : (hdT s.1.tail).1 = 61
                  · exact Or.inr (Or.inl q2)
                  · by_cases q3 : (hdT s.1.tail).1 = 62
                    · exact Or.inr (Or.inr q3)
                    · exact absurd ⟨q1, q2, q3⟩ g1
          · rw [if_neg h5] at h
            rw [Int32.le_iff_toInt_le] at h5
            cases h
            exact ⟨ht.tl, _, 1, rfl, GC.atom _ ⟨i1, Or.inl (by show (ixF (wdS B (hdT s.1)) oneW 0).toInt ≤ (7 : Int); omega)⟩, b1⟩
theorem pr_wf : ∀ d : Nat, WO (fun d => bO d + 2) (prS B d).1 ∧ WO (fun d => bO d + 1) (prS B d).2.1 ∧ WO bO (prS B d).2.2 := by
  intro d
  induction d with
  | zero => exact ⟨fun _ _ _ _ h => (by cases h), fun _ _ _ _ h => (by cases h), fun _ _ _ _ h => (by cases h)⟩
  | succ d ih =>
    exact ⟨con_wf ih.2.1, all_wf ih.2.2, one_wf ih.1 ih.2.2⟩
end WFC
/-! LINES of a text that was read: each has its steps, well formed -/
section LWF
variable {B : Nat → Int32}
/-- a line's numbers -/
def nuOK (x m nu : Int32) : Prop := 0 ≤ nu.toInt ∧ nu.toInt ≤ 999 ∧ (x = 5 → nu.toInt ≤ 99 ∧ 0 ≤ m.toInt ∧ m.toInt ≤ 6) ∧ (x = 2 → 1 ≤ nu.toInt) ∧ (x = 7 → nu.toInt ≤ 9)
def LSt (s : Sg) (ls : List Lnq) (x : Int32) (q : Sg × List Lnq) : Prop := TKn q.1.1 ∧ ∃ m nu cs, nuOK x m nu ∧ q.2 = ls ++ [(x, m, nu, s.2.2.length, (s.2.2 ++ cs).length)] ∧ q.1.2.2 = s.2.2 ++ cs ∧ (cs = [] ∨ ∃ k, k ≤ 23 ∧ GC cs k)
def CW (C : Sg → PR) : Prop := ∀ s s2, TKn s.1 → C s = .inl s2 → TKn s2.1 ∧ ∃ cs k, s2.2.2 = s.2.2 ++ cs ∧ GC cs k ∧ k ≤ 23
theorem pr_cw (d : Nat) : CW ((prS B d).1 1) := fun s s2 ht h => (pr_wf (B := B) d).1 1 s s2 ht h
theorem end_st {s s2 : Sg} {ls : List Lnq} {x m nu : Int32} {q : Sg × List Lnq} {cs : List Cdq} (hn : nuOK x m nu) (ht : TKn s2.1) (h1 : s2.2.2 = s.2.2 ++ cs) (h2 : cs = [] ∨ ∃ k, k ≤ 23 ∧ GC cs k) (h : endB s2 ls x m nu s.2.2.length = .inl q) : LSt s ls x q := by
  unfold endB at h
  split at h
  · cases h
  · cases h
    exact ⟨ht.tl, m, nu, cs, hn, by rw [h1], h1, h2⟩
theorem cnd_st {C : Sg → PR} (hC : CW C) {s : Sg} {ls : List Lnq} {x m nu : Int32} {q : Sg × List Lnq} (hn : nuOK x m nu) (ht : TKn s.1) (h : cndB B C s ls x m nu s.2.2.length = .inl q) : LSt s ls x q := by
  unfold cndB at h
  split at h
  · cases hc : C s with
    | inr f => rw [hc] at h; cases h
    | inl s2 =>
      rw [hc] at h
      obtain ⟨ht2, cs, k, e1, e2, e3⟩ := hC _ _ ht hc
      exact end_st hn ht2 e1 (Or.inr ⟨k, e3, e2⟩) h
  · split at h
    · cases hc : C (s.1.tail, s.2.1, s.2.2) with
      | inr f => rw [hc] at h; cases h
      | inl s2 =>
        rw [hc] at h
        obtain ⟨ht2, cs, k, e1, e2, e3⟩ := hC _ _ ht.tl hc
        exact end_st (s := s) hn ht2 e1 (Or.inr ⟨k, e3, e2⟩) h
    · exact end_st (cs := []) hn ht (List.append_nil _).symm (Or.inl rfl) h
theorem num_st {C : Sg → PR} (hC : CW C) {s : Sg} {ls : List Lnq} {x m : Int32} {q : Sg × List Lnq} (hm : x = 5 → 0 ≤ m.toInt ∧ m.toInt ≤ 6) (ht : TKn s.1) (h : numB B C s ls x m = .inl q) : LSt s ls x q := by
  unfold numB at h
  by_cases h3 : (hdT s.1).1 ≠ 3
  · rw [if_pos h3] at h
    cases h
  · rw [if_neg h3] at h
    have hd := ht.hd (Decidable.not_not.mp h3)
    split at h
    · cases h
    · rename_i hr
      refine cnd_st (s := (s.1.tail, s.2.1, s.2.2)) hC ?_ ht.tl h
      have e1 : (99 : Int32).toInt = 99 := rfl
      have e2 : (9 : Int32).toInt = 9 := rfl
      have e3 : (1 : Int32).toInt = 1 := rfl
      have r1 : ¬ mostS x < (hdT s.1).2.2.2 := fun q => hr (Or.inl q)
      rw [Int32.lt_iff_toInt_lt] at r1
      refine ⟨hd.1, hd.2, fun h5 => ⟨?_, hm h5⟩, fun h2 => ?_, fun h7 => ?_⟩
      · subst h5
        have r1 : ¬ (99 : Int32).toInt < _ := r1
        omega
      · have r2 : ¬ (hdT s.1).2.2.2 < 1 := fun q => hr (Or.inr ⟨h2, q⟩)
        rw [Int32.lt_iff_toInt_lt] at r2
        omega
      · subst h7
        have r1 : ¬ (9 : Int32).toInt < _ := r1
        omega
theorem bod_st {C : Sg → PR} (hC : CW C) {s : Sg} {ls : List Lnq} {x : Int32} {q : Sg × List Lnq} (ht : TKn s.1) (h : bodB B C s ls x = .inl q) : LSt s ls x q := by
  unfold bodB at h
  by_cases h1 : x = 6
  · rw [if_pos h1] at h
    rw [h1]
    exact cnd_st hC ⟨by decide, by decide, fun q => absurd q (by decide), fun q => absurd q (by decide), fun q => absurd q (by decide)⟩ ht h
  · rw [if_neg h1] at h
    by_cases h2 : x = 5
    · rw [if_pos h2] at h
      rw [h2]
      split at h
      · cases h
      · rename_i hm
        refine num_st (s := (s.1.tail, s.2.1, s.2.2)) hC (fun _ => ?_) ht.tl h
        have z0 : (0 : Int32).toInt = 0 := rfl
        have hl : (meaW.length : Int) = 7 := rfl
        rcases ixF_bd (w := wdS B (hdT s.1)) meaW 0 (by decide) (by decide) with q | ⟨q1, q2, _⟩
        · rw [q] at hm
          exact absurd (by decide) hm
        · omega
    · rw [if_neg h2] at h
      exact num_st hC (fun q => absurd q h2) ht h
theorem ln_st {law : Bool} {C : Sg → PR} (hC : CW C) {s : Sg} {ls : List Lnq} {q : Sg × List Lnq} (ht : TKn s.1) (h : lnB B law C s ls = .inl q) : LSt s ls (kdS B law (hdT s.1)) q := by
  unfold lnB at h
  split at h
  · cases h
  · split at h
    · cases h
    · exact bod_st (s := (s.1.tail, s.2.1, s.2.2)) hC ht.tl h
/-- a text well formed -/
def LW (q : Sg × List Lnq) : Prop := ∀ l ∈ q.2, nuOK l.1 l.2.1 l.2.2.1 ∧ l.2.2.2.1 ≤ l.2.2.2.2 ∧ l.2.2.2.2 ≤ q.1.2.2.length ∧ (l.2.2.2.1 = l.2.2.2.2 ∨ ∃ k, k ≤ 23 ∧ GC ((q.1.2.2.drop l.2.2.2.1).take (l.2.2.2.2 - l.2.2.2.1)) k)
theorem LW.add {s : Sg} {ls : List Lnq} {x : Int32} {q : Sg × List Lnq} (h : LW (s, ls)) (hq : LSt s ls x q) : LW q := by
  obtain ⟨_, m, nu, cs, e0, e1, e2, e3⟩ := hq
  intro l hl
  rw [e1] at hl
  rw [e2]
  rcases List.mem_append.mp hl with hl | hl
  · obtain ⟨a0, a1, a2, a3⟩ := h l hl
    have a2 : l.2.2.2.2 ≤ s.2.2.length := a2
    refine ⟨a0, a1, by rw [List.length_append]; omega, ?_⟩
    rcases a3 with a3 | ⟨k, k1, k2⟩
    · exact Or.inl a3
    · refine Or.inr ⟨k, k1, ?_⟩
      have k2 : GC ((s.2.2.drop l.2.2.2.1).take (l.2.2.2.2 - l.2.2.2.1)) k := k2
      rw [List.drop_append_of_le_length (by omega), List.take_append_of_le_length (by rw [List.length_drop]; omega)]
      exact k2
  · rw [List.mem_singleton] at hl
    subst hl
    refine ⟨e0, by rw [List.length_append]; exact Nat.le_add_right _ _, Nat.le_refl _, ?_⟩
    rcases e3 with rfl | ⟨k, k1, k2⟩
    · exact Or.inl (by rw [List.append_nil])
    · refine Or.inr ⟨k, k1, ?_⟩
      show GC (((s.2.2 ++ cs).drop s.2.2.length).take ((s.2.2 ++ cs).length - s.2.2.length)) k
      rw [List.drop_left, List.length_append, Nat.add_sub_cancel_left, List.take_length]
      exact k2
theorem tx_wf {law : Bool} {C : Sg → PR} {big : Bool} (hC : CW C) : ∀ (j : Nat) (s : Sg) (ls : List Lnq) (q : Sg × List Lnq), TKn s.1 → LW (s, ls) → txB B law C big j s ls = .inl q → LW q := by
  intro j
  induction j with
  | zero =>
    intro s ls q _ _ h
    cases h
  | succ j ih =>
    intro s ls q ht hw h
    unfold txB at h
    split at h
    · cases big with
      | true => cases h
      | false => cases h; exact hw
    · cases hr : lnB B law C s ls with
      | inr f => rw [hr] at h; cases h
      | inl q2 =>
        rw [hr] at h
        have hl := ln_st hC ht hr
        exact ih q2.1 q2.2 q hl.1 (hw.add hl) h
theorem tl_nu {n : Nat} (hn : n ≤ 440) : ∀ m p, n - p ≤ m → p ≤ n → TKn (tlS B n p) := by
  intro m
  induction m with
  | zero =>
    intro p h1 h2
    have hm := mn4_le (n := n)
    rw [tlS_end h2 (by omega)]
    intro t ht
    rw [List.mem_singleton.mp ht]
    exact fun h => absurd h (show ¬ (0 : Int32) = 3 by decide)
  | succ m ih =>
    intro p h1 h2
    have hm := mn4_le (n := n)
    by_cases h : mn4 n ≤ p
    · rw [tlS_end h2 h]
      intro t ht
      rw [List.mem_singleton.mp ht]
      exact fun h => absurd h (show ¬ (0 : Int32) = 3 by decide)
    · by_cases hb : B p = 32 ∨ B p = 10
      · rw [tlS_bl h hb]
        exact ih (p + 1) (by omega) (by omega)
      · have hnu : 0 ≤ (tokS B n p).2.2.2.toInt ∧ (tokS B n p).2.2.2.toInt ≤ 999 := by
          unfold tokS
          split
          · exact ⟨Int.le_refl 0, (by decide : (0 : Int32).toInt ≤ 999)⟩
          · have := rlS_le (B := B) (n - p) p
            have h := cfS_nv (B := B) (rlS B (n - p) p) p (0, 0, 0) 0 (fun j hj => rlS_al _ _ _ hj) ⟨by decide, by decide, by decide, by decide, by decide, by decide, by decide⟩ (by omega)
            exact ⟨h.2.2.1, h.2.2.2.1⟩
        by_cases h1 : (tokS B n p).1 = 1
        · rw [tlS_no h hb h1]
          intro t ht
          rw [List.mem_singleton.mp ht]
          exact fun _ => hnu
        · rw [tlS_tok h hb h1]
          have h3 := tokS_lt (B := B) (n := n) (p := p)
          have h4 := tokS_le (B := B) (n := n) (p := p) (by omega)
          intro t ht
          rcases List.mem_cons.mp ht with rfl | ht
          · exact fun _ => hnu
          · exact ih _ (by omega) h4 t ht
theorem rd_wf {n d : Nat} {law : Bool} {q : Sg × List Lnq} (hn : n ≤ 440) (h : rdB B n law ((prS B d).1 1) = .inl q) : LW q := tx_wf (pr_cw d) 17 _ [] q (tl_nu hn n 0 (by omega) (by omega)) (fun l hl => by cases hl) h
end LWF
/-! THE WALKING, in itself: THE PARK as the reference's row holds it -/
abbrev PK : Type := Nat → Int32
abbrev TQ : Type := Sg × List Lnq
noncomputable def uPk (P : PK) (i : Nat) (x : Int32) : PK := fun j => if j = i then x else P j
noncomputable def cX (f : Nat) (c : Int32) : Nat := 522 + 7 * c.toInt.toNat + f
noncomputable def cE (P : PK) (f : Nat) (c : Int32) : Int32 := P (cX f c)
noncomputable def bdQ (q : TQ) : Int32 := tvS q.2 2 40
noncomputable def mdQ (q : TQ) : Int32 := tvS q.2 3 50
noncomputable def dyQ (q : TQ) : Int32 := tvS q.2 4 10
noncomputable def siQ (q : TQ) : Int32 := tvS q.2 7 3
noncomputable def cmpV (v s n : Int32) : Bool := if s = 60 then decide (v < n) else if s = 61 then decide (v = n) else decide (n < v)
/-- what a step asks of a CELL -/
noncomputable def trP (g : TQ) (P : PK) (c : Int32) (k : Cdq) : Bool :=
  if k.1 = 0 then decide (cE P 0 c = 0) else if k.1 = 1 then decide (cE P 0 c = 1) else if k.1 = 2 then decide (cE P 0 c = 2) else if k.1 = 3 then decide (cE P 0 c = 4) else if k.1 = 4 then decide (cE P 0 c = 5) else if k.1 = 5 then decide (cE P 1 c = 1)
  else if k.1 = 6 then decide (bdQ g ≤ cE P 3 c ∧ mdQ g ≤ cE P 4 c) else if k.1 = 7 then decide (bdQ g ≤ cE P 3 c)
  else cmpV (if k.1 = 8 then cE P 3 c else if k.1 = 9 then cE P 4 c else if k.1 = 10 then cE P 2 c else cE P 5 c) k.2.1 k.2.2
noncomputable def segC (q : TQ) (l : Lnq) : List Cdq := (q.1.2.2.drop l.2.2.2.1).take (l.2.2.2.2 - l.2.2.2.1)
noncomputable def hldP (g : TQ) (P : PK) (q : TQ) (l : Lnq) (c : Int32) : Bool := if l.2.2.2.1 = l.2.2.2.2 then true else (evC (trP g P c) (segC q l) []).headD true
/-- the NUMBER of the first line of a kind that holds -/
noncomputable def fstL (g : TQ) (P : PK) (k c d : Int32) : List Lnq → Int32
  | [] => d
  | l :: r => if l.1 = k ∧ hldP g P g l c = true then l.2.2.1 else fstL g P k c d r
noncomputable def nevL (g : TQ) (P : PK) (q : TQ) (c : Int32) : List Lnq → Bool
  | [] => false
  | l :: r => if l.1 = 6 ∧ hldP g P q l c = true then true else nevL g P q c r
noncomputable def absI (x : Int32) : Int32 := if x < 0 then -x else x
noncomputable def acrP (P : PK) (a b : Int32) : Int32 := absI ((a - a / P 0 * P 0) - (b - b / P 0 * P 0))
noncomputable def aloP (P : PK) (a b : Int32) : Int32 := absI (a / P 0 - b / P 0)
noncomputable def dstP (P : PK) (c goal : Int32) : Int32 := if aloP P c goal < acrP P c goal then 10 * acrP P c goal + 4 * aloP P c goal else 10 * aloP P c goal + 4 * acrP P c goal
noncomputable def besP (P : PK) (c d : Int32) : Int32 := besI (P 0) (P 1) c d
def grnP (P : PK) (c : Int32) : Prop := cE P 0 c = 0 ∨ cE P 0 c = 2
def opnP (P : PK) (c : Int32) : Prop := cE P 0 c ≠ 3 ∧ cE P 0 c ≠ 6
noncomputable def grnB (P : PK) (c : Int32) : Bool := decide (cE P 0 c = 0) || decide (cE P 0 c = 2)
noncomputable def opnB (P : PK) (c : Int32) : Bool := !decide (cE P 0 c = 3) && !decide (cE P 0 c = 6)
noncomputable def wrnB (g : TQ) (P : PK) (c : Int32) : Bool := decide (bdQ g ≤ cE P 3 c)
noncomputable def seeP (g : TQ) (P : PK) (d : Int32) : Nat → Int32 → Int32 → Int32
  | 0, _, n => n
  | k + 1, v, n => if v < 0 ∨ opnB P v = false then n else seeP g P d k (besP P v d) (n + (if wrnB g P v = true then 1 else 0))
/-- how many of the first k WALKERS are on a CELL -/
noncomputable def crdP (P : PK) (c : Int32) : Nat → Int32
  | 0 => 0
  | k + 1 => crdP P c k + (if P (158 + 6 * k) = c then 1 else 0)
/-- a walker: here, goal, way of the last step, where from; alone -/
abbrev WC : Type := Int32 × Int32 × Int32 × Int32 × Bool
noncomputable def meaQ (g : TQ) (P : PK) (q : TQ) (w : WC) (c d m : Int32) : Int32 :=
  if m = 0 then (if grnB P c = true ∧ ¬ bdQ g ≤ cE P 3 c then (bdQ g - cE P 3 c) / 10 else 0)
  else if m = 1 then cE P 4 c / 10
  else if m = 2 then absI (cE P 2 c - cE P 2 w.1)
  else if m = 3 then (if w.2.2.2.2 = true then 0 else crdP P c (P 157).toInt.toNat)
  else if m = 4 then (if 0 ≤ w.2.2.1 ∧ ¬ w.2.2.1 = d then 1 else 0)
  else if m = 5 then (if c = w.2.2.2.1 then 1 else 0)
  else seeP g P d (siQ q).toInt.toNat c 0
noncomputable def weiL (g : TQ) (P : PK) (q : TQ) (w : WC) (c d : Int32) : List Lnq → Int32 → Int32
  | [], v => v
  | l :: r, v => weiL g P q w c d r (if l.1 = 5 ∧ hldP g P q l c = true then (v + (if l.2.1 = 6 then -(l.2.2.1 * meaQ g P q w c d l.2.1) else l.2.2.1 * meaQ g P q w c d l.2.1)) else v)
noncomputable def weiP (g : TQ) (P : PK) (q : TQ) (w : WC) (c d : Int32) : Int32 := weiL g P q w c d q.2 (dstP P c w.2.1)
/-- the way to the goal, if it is beside: k ways left, d the next -/
noncomputable def toP (P : PK) (here goal : Int32) : Nat → Int32 → Int32
  | 0, _ => -1
  | k + 1, d => if besP P here d = goal then d else toP P here goal k (d + 1)
noncomputable def badB (g : TQ) (P : PK) (q : TQ) (c : Int32) : Bool := decide (c < 0) || (!opnB P c || nevL g P q c q.2)
noncomputable def bstP (g : TQ) (P : PK) (q : TQ) (w : WC) : Nat → Int32 → Int32 → Int32 → Int32
  | 0, _, b, _ => b
  | k + 1, d, b, le => if badB g P q (besP P w.1 d) = true ∨ (0 ≤ b ∧ le ≤ weiP g P q w (besP P w.1 d) d) then bstP g P q w k (d + 1) b le else bstP g P q w k (d + 1) d (weiP g P q w (besP P w.1 d) d)
noncomputable def choP (g : TQ) (P : PK) (q : TQ) (w : WC) : Int32 := if toP P w.1 w.2.1 8 0 < 0 then bstP g P q w 8 0 (-1) 0 else toP P w.1 w.2.1 8 0
/-- a step on a CELL; the second: on which CELLS steps came, the latest first -/
abbrev PS : Type := PK × List Int32
noncomputable def weaP (g : TQ) (P : PK) (c : Int32) : PK := if grnB P c = true then uPk P (cX 3 c) (if 999 < cE P 3 c + fstL g P 0 c 5 g.2 then 999 else cE P 3 c + fstL g P 0 c 5 g.2) else P
noncomputable def trdP (g : TQ) (P : PK) (c : Int32) : PK := uPk (uPk (weaP g P c) (cX 5 c) (cE (weaP g P c) 5 c + 1)) (cX 6 c) (cE (uPk (weaP g P c) (cX 5 c) (cE (weaP g P c) 5 c + 1)) 6 c + 1)
noncomputable def wxP (P : PK) (k : Nat) : Nat := 13 + 6 * (P (158 + 6 * k + 1)).toInt.toNat
noncomputable def golP (P : PK) (k : Nat) : Int32 := P (3 + (P (wxP P k + 1)).toInt.toNat)
noncomputable def wcP (P : PK) (k : Nat) : WC := (P (158 + 6 * k), golP P k, P (158 + 6 * k + 3), P (158 + 6 * k + 4), false)
noncomputable def hbP (P : PK) (k : Nat) : Nat := 1 + (P (wxP P k + 2)).toInt.toNat
/-- the texts: the LAW, and behind it the HABITS -/
abbrev TS : Type := Nat → TQ
noncomputable def dirP (T : TS) (P : PK) (k : Nat) : Int32 := choP (T 0) P (T (hbP P k)) (wcP P k)
noncomputable def movP (P : PK) (k : Nat) (d : Int32) : PK := uPk (uPk (uPk P (158 + 6 * k + 3) d) (158 + 6 * k + 4) (P (158 + 6 * k))) (158 + 6 * k) (besP P (P (158 + 6 * k)) d)
/-- the k-th WALKER's step; then whether it stays one -/
noncomputable def ageP (P : PK) (k : Nat) : PK := uPk P (158 + 6 * k + 2) (P (158 + 6 * k + 2) + 1)
noncomputable def stpP (T : TS) (p : PS) (k : Nat) : PS := if dirP T p.1 k < 0 then (ageP p.1 k, p.2) else (trdP (T 0) (movP (ageP p.1 k) k (dirP T p.1 k)) (besP p.1 (p.1 (158 + 6 * k)) (dirP T p.1 k)), besP p.1 (p.1 (158 + 6 * k)) (dirP T p.1 k) :: p.2)
noncomputable def goeP (T : TS) (p : PS) (k : Nat) : PS × Bool :=
  if (stpP T p k).1 (158 + 6 * k) = golP p.1 k then ((uPk (stpP T p k).1 519 ((stpP T p k).1 519 + 1), (stpP T p k).2), false)
  else if (stpP T p k).1 (158 + 6 * k + 2) < 200 then (stpP T p k, true)
  else ((uPk (stpP T p k).1 520 ((stpP T p k).1 520 + 1), (stpP T p k).2), false)
noncomputable def leaP (P : PK) (k : Nat) : PK := fun j =>
  if j = 157 then P 157 - 1
  else if 158 + 6 * k ≤ j ∧ j < 158 + 6 * (P 157 - 1).toInt.toNat then P (j + 6)
  else if 158 + 6 * (P 157 - 1).toInt.toNat ≤ j ∧ j < 158 + 6 * (P 157 - 1).toInt.toNat + 6 then 0 else P j
noncomputable def wlkP (T : TS) : Nat → Nat → PS → PS
  | 0, _, p => p
  | n + 1, k, p => if (goeP T p k).2 = true then wlkP T n (k + 1) (goeP T p k).1 else wlkP T n k (leaP (goeP T p k).1.1 k, (goeP T p k).1.2)
noncomputable def remI (x y : Int32) : Int32 := x - x / y * y
noncomputable def dueB (P : PK) (k : Nat) : Bool := !decide (P (13 + 6 * k + 5) = 0) && (!decide (P 518 < P (13 + 6 * k + 4)) && decide (remI (P 518 - P (13 + 6 * k + 4)) (P (13 + 6 * k + 3)) = 0))
noncomputable def newP (P : PK) (k : Nat) : PK :=
  uPk (uPk (uPk (uPk (uPk (uPk P (158 + 6 * (P 157).toInt.toNat) (P (3 + (P (13 + 6 * k)).toInt.toNat))) (158 + 6 * (P 157).toInt.toNat + 1) (nI k)) (158 + 6 * (P 157).toInt.toNat + 2) 0) (158 + 6 * (P 157).toInt.toNat + 3) (-1)) (158 + 6 * (P 157).toInt.toNat + 4) (-1)) 157 (P 157 + 1)
noncomputable def begP : Nat → Nat → PK → PK
  | 0, _, P => P
  | n + 1, k, P => if dueB P k = true then (if P 157 = 60 then begP n (k + 1) (uPk P 521 (P 521 + 1)) else begP n (k + 1) (newP P k)) else begP n (k + 1) P
noncomputable def bg0P (P : PK) : PK := begP (P 12).toInt.toNat 0 P
noncomputable def tckP (T : TS) (p : PS) : PS := (fun r : PS => ((uPk r.1 518 (r.1 518 + 1), r.2) : PS)) (wlkP T (bg0P p.1 157).toInt.toNat 0 (bg0P p.1, p.2))
noncomputable def tksP (T : TS) : Nat → PS → PS
  | 0, p => p
  | n + 1, p => tksP T n (tckP T p)
/-- a WEEK ends -/
noncomputable def clsP (P : PK) : Nat := (P 0).toInt.toNat * (P 1).toInt.toNat
noncomputable def max0 (x : Int32) : Int32 := if x < 0 then 0 else x
noncomputable def wk1P (g : TQ) (P : PK) (c : Int32) : PK := uPk (uPk P (cX 3 c) (max0 (cE P 3 c - fstL g P 1 c 10 g.2))) (cX 4 c) (max0 (cE P 4 c - dyQ g))
noncomputable def wkaP (g : TQ) : Nat → Int32 → PK → PK
  | 0, _, P => P
  | n + 1, c, P => wkaP g n (c + 1) (wk1P g P c)
noncomputable def zerP (f : Nat) : Nat → Int32 → PK → PK
  | 0, _, P => P
  | n + 1, c, P => zerP f n (c + 1) (uPk P (cX f c) 0)
noncomputable def wekP (g : TQ) (P : PK) : PK := zerP 5 (clsP P) 0 (wkaP g (clsP P) 0 P)
noncomputable def netP (g : TQ) (P : PK) : Nat → Int32 → Int32 → Int32
  | 0, _, n => n
  | k + 1, c, n => netP g P k (c + 1) (n + (if wrnB g P c = true then 1 else 0))
noncomputable def nwP (g : TQ) (P : PK) : Int32 := netP g P (clsP P) 0 0
noncomputable def wksP (T : TS) (t : Nat) (P : PK) : PK := wekP (T 0) (tksP T t (P, [])).1
/-! THE WALKING, in itself: facts -/
def wh4 (P : PK) : Prop := 4 ≤ (P 0).toInt ∧ (P 0).toInt ≤ 16 ∧ 4 ≤ (P 1).toInt ∧ (P 1).toInt ≤ 16
def inC (P : PK) (c : Int32) : Prop := 0 ≤ c.toInt ∧ c.toInt.toNat < clsP P
/-- nothing of a CELL is below 0 -/
def nnC (P : PK) (c : Int32) : Prop := 0 ≤ (cE P 2 c).toInt ∧ 0 ≤ (cE P 3 c).toInt ∧ 0 ≤ (cE P 4 c).toInt ∧ 0 ≤ (cE P 5 c).toInt
section PUR
variable {g q : TQ} {P : PK} {c d here goal : Int32}
theorem cls_int (h : wh4 P) : (clsP P : Int) = (P 0).toInt * (P 1).toInt ∧ clsP P ≤ 256 ∧ 16 ≤ clsP P := by
  obtain ⟨h1, h2, h3, h4⟩ := h
  have e : (clsP P : Int) = (P 0).toInt * (P 1).toInt := by
    unfold clsP
    rw [Int.natCast_mul, Int.toNat_of_nonneg (by omega), Int.toNat_of_nonneg (by omega)]
  have m1 : (P 0).toInt * (P 1).toInt ≤ 16 * 16 := Int.mul_le_mul h2 h4 (by omega) (by omega)
  have m2 : 4 * 4 ≤ (P 0).toInt * (P 1).toInt := Int.mul_le_mul h1 h3 (by omega) (by omega)
  exact ⟨e, by omega, by omega⟩
theorem inC.lt (h : wh4 P) (hc : inC P c) : 0 ≤ c.toInt ∧ c.toInt < (P 0).toInt * (P 1).toInt ∧ c.toInt ≤ 255 := by
  obtain ⟨e1, e2, _⟩ := cls_int h
  obtain ⟨c1, c2⟩ := hc
  have := Int.toNat_of_nonneg c1
  omega
theorem inC.mk (h : wh4 P) (c0 : 0 ≤ c.toInt) (c1 : c.toInt < (P 0).toInt * (P 1).toInt) : inC P c := by
  obtain ⟨e1, _, _⟩ := cls_int h
  have := Int.toNat_of_nonneg c0
  exact ⟨c0, by omega⟩
theorem inC.nat (h : wh4 P) {k : Nat} (hk : k < clsP P) : inC P (nI k) ∧ (nI k).toInt.toNat = k := by
  obtain ⟨_, e2, _⟩ := cls_int h
  have e : (nI k).toInt = (k : Int) := nI_toInt (by omega)
  refine ⟨⟨by omega, by rw [e]; exact hk⟩, by rw [e]; rfl⟩
/-- what is beside: nothing, or w * y + x, both in THE PARK -/
theorem besI_cases {w hh c d : Int32} (w1 : 4 ≤ w.toInt) (w2 : w.toInt ≤ 16) (h1 : 4 ≤ hh.toInt) (h2 : hh.toInt ≤ 16) (c0 : 0 ≤ c.toInt) (c2 : c.toInt ≤ 255) : besI w hh c d = -1 ∨ ∃ x y : Int, 0 ≤ x ∧ x < w.toInt ∧ 0 ≤ y ∧ y < hh.toInt ∧ (besI w hh c d).toInt = w.toInt * y + x ∧ x = c.toInt % w.toInt + (eastI d).toInt ∧ y = c.toInt / w.toInt + (southI d).toInt := by
  unfold besI
  have cd1 : (c / w).toInt = c.toInt / w.toInt := by
    rw [i32_div (by omega), Int.tdiv_eq_ediv_of_nonneg c0]
  have cd2 : c.toInt / w.toInt * w.toInt ≤ c.toInt := Int.ediv_mul_le _ (by omega)
  have cd3 : 0 ≤ c.toInt / w.toInt := Int.ediv_nonneg c0 (by omega)
  have cd4 : 0 ≤ c.toInt / w.toInt * w.toInt := Int.mul_nonneg cd3 (by omega)
  have cd5 : c.toInt / w.toInt ≤ c.toInt := Int.ediv_le_self _ c0
  have cm1 : (c / w * w).toInt = c.toInt / w.toInt * w.toInt := by
    rw [i32_mul (by rw [cd1]; omega) (by rw [cd1]; omega), cd1]
  have cm2 : (c - c / w * w).toInt = c.toInt % w.toInt := by
    rw [i32_sub (by rw [cm1]; omega) (by rw [cm1]; omega), cm1, Int.emod_def, Int.mul_comm]
  have cm3 : 0 ≤ c.toInt % w.toInt := Int.emod_nonneg _ (by omega)
  have cm4 : c.toInt % w.toInt < w.toInt := Int.emod_lt_of_pos _ (by omega)
  have ea : -1 ≤ (eastI d).toInt ∧ (eastI d).toInt ≤ 1 := by
    unfold eastI
    split
    · decide
    · split <;> decide
  have so : -1 ≤ (southI d).toInt ∧ (southI d).toInt ≤ 1 := by
    unfold southI
    split
    · decide
    · split
      · decide
      · split <;> decide
  have ex1 : (c - c / w * w + eastI d).toInt = c.toInt % w.toInt + (eastI d).toInt := by
    rw [i32_add (by omega) (by omega), cm2]
  have ey1 : (c / w + southI d).toInt = c.toInt / w.toInt + (southI d).toInt := by
    rw [i32_add (by omega) (by omega), cd1]
  obtain ⟨x, ex⟩ : ∃ x, x = c - c / w * w + eastI d := ⟨_, rfl⟩
  obtain ⟨y, ey⟩ : ∃ y, y = c / w + southI d := ⟨_, rfl⟩
  rw [← ex] at ex1
  rw [← ey] at ey1
  rw [← ex, ← ey]
  have o1 : (1 : Int32).toInt = 1 := rfl
  have ew : (w - 1).toInt = w.toInt - 1 := i32_sub (by omega) (by omega)
  have eh : (hh - 1).toInt = hh.toInt - 1 := i32_sub (by omega) (by omega)
  by_cases c1 : x < 0
  · rw [if_pos c1]; exact Or.inl rfl
  rw [if_neg c1]
  by_cases c2 : w - 1 < x
  · rw [if_pos c2]; exact Or.inl rfl
  rw [if_neg c2]
  by_cases c3 : y < 0
  · rw [if_pos c3]; exact Or.inl rfl
  rw [if_neg c3]
  by_cases c4 : hh - 1 < y
  · rw [if_pos c4]; exact Or.inl rfl
  rw [if_neg c4]
  rw [i32_z] at c1 c3
  rw [Int32.lt_iff_toInt_lt] at c2 c4
  have m1 : 0 ≤ w.toInt * y.toInt := Int.mul_nonneg (by omega) (by omega)
  have m2 : w.toInt * y.toInt ≤ 16 * 15 := Int.mul_le_mul w2 (by omega) (by omega) (by omega)
  have e1 : (w * y).toInt = w.toInt * y.toInt := i32_mul (by omega) (by omega)
  have e2 : (w * y + x).toInt = w.toInt * y.toInt + x.toInt := by
    rw [← e1]
    exact i32_add (by omega) (by omega)
  exact Or.inr ⟨x.toInt, y.toInt, by omega, by omega, by omega, by omega, e2, ex1, ey1⟩
theorem besP_cases (h : wh4 P) (hc : inC P c) : besP P c d = -1 ∨ ∃ x y : Int, 0 ≤ x ∧ x < (P 0).toInt ∧ 0 ≤ y ∧ y < (P 1).toInt ∧ (besP P c d).toInt = (P 0).toInt * y + x ∧ x = c.toInt % (P 0).toInt + (eastI d).toInt ∧ y = c.toInt / (P 0).toInt + (southI d).toInt := by
  obtain ⟨c0, c1, c2⟩ := hc.lt h
  exact besI_cases h.1 h.2.1 h.2.2.1 h.2.2.2 c0 c2
theorem besP_in (h : wh4 P) (hc : inC P c) : besP P c d = -1 ∨ inC P (besP P c d) := by
  rcases besP_cases (d := d) h hc with e | ⟨x, y, x0, x1, y0, y1, e, _⟩
  · exact Or.inl e
  · refine Or.inr (inC.mk h ?_ ?_)
    · rw [e]
      have := Int.mul_nonneg (a := (P 0).toInt) (b := y) (by have := h.1; omega) y0
      omega
    · rw [e]
      have h1 : (P 0).toInt * (y + 1) ≤ (P 0).toInt * (P 1).toInt := Int.mul_le_mul_of_nonneg_left (by omega) (by have := h.1; omega)
      rw [Int.mul_add, Int.mul_one] at h1
      omega
theorem absI_toInt {x : Int32} (h : -1000 ≤ x.toInt ∧ x.toInt ≤ 1000) : (absI x).toInt = if x.toInt < 0 then -x.toInt else x.toInt := by
  unfold absI
  by_cases hx : x < 0
  · rw [if_pos hx, if_pos (i32_z.mp hx), i32_neg (by omega)]
  · rw [if_neg hx, if_neg (fun q => hx (i32_z.mpr q))]
/-- c's column and row -/
theorem col_rowI {w hh c : Int32} (w1 : 4 ≤ w.toInt) (w2 : w.toInt ≤ 16) (c0 : 0 ≤ c.toInt) (c2 : c.toInt ≤ 255) (c1 : c.toInt < w.toInt * hh.toInt) : (c - c / w * w).toInt = c.toInt % w.toInt ∧ (c / w).toInt = c.toInt / w.toInt ∧ 0 ≤ c.toInt % w.toInt ∧ c.toInt % w.toInt < w.toInt ∧ 0 ≤ c.toInt / w.toInt ∧ c.toInt / w.toInt < hh.toInt := by
  have cd1 : (c / w).toInt = c.toInt / w.toInt := by
    rw [i32_div (by omega), Int.tdiv_eq_ediv_of_nonneg c0]
  have cd2 : c.toInt / w.toInt * w.toInt ≤ c.toInt := Int.ediv_mul_le _ (by omega)
  have cd3 : 0 ≤ c.toInt / w.toInt := Int.ediv_nonneg c0 (by omega)
  have cd4 : 0 ≤ c.toInt / w.toInt * w.toInt := Int.mul_nonneg cd3 (by omega)
  have cm1 : (c / w * w).toInt = c.toInt / w.toInt * w.toInt := by
    have cd5 : c.toInt / w.toInt ≤ c.toInt := Int.ediv_le_self _ c0
    rw [i32_mul (by rw [cd1]; omega) (by rw [cd1]; omega), cd1]
  have cm2 : (c - c / w * w).toInt = c.toInt % w.toInt := by
    rw [i32_sub (by rw [cm1]; omega) (by rw [cm1]; omega), cm1, Int.emod_def, Int.mul_comm]
  refine ⟨cm2, cd1, Int.emod_nonneg _ (by omega), Int.emod_lt_of_pos _ (by omega), cd3, ?_⟩
  refine Int.ediv_lt_of_lt_mul (by omega) ?_
  rw [Int.mul_comm]
  exact c1
theorem col_row (h : wh4 P) (hc : inC P c) : (c - c / P 0 * P 0).toInt = c.toInt % (P 0).toInt ∧ (c / P 0).toInt = c.toInt / (P 0).toInt ∧ 0 ≤ c.toInt % (P 0).toInt ∧ c.toInt % (P 0).toInt < (P 0).toInt ∧ 0 ≤ c.toInt / (P 0).toInt ∧ c.toInt / (P 0).toInt < (P 1).toInt := by
  obtain ⟨c0, c1, c2⟩ := hc.lt h
  exact col_rowI h.1 h.2.1 c0 c2 c1
theorem mod_div {w x y : Int} (hw : 0 < w) (x0 : 0 ≤ x) (x1 : x < w) : (w * y + x) % w = x ∧ (w * y + x) / w = y := by
  constructor
  · rw [Int.add_comm, Int.add_mul_emod_self_left, Int.emod_eq_of_lt x0 x1]
  · rw [Int.add_comm, Int.add_mul_ediv_left _ _ (by omega), Int.ediv_eq_zero_of_lt x0 x1, Int.zero_add]
/-- the goal beside is near -/
theorem near_ok (h : wh4 P) (hc : inC P here) (hg : 0 ≤ goal.toInt) (hb : besP P here d = goal) : acrP P here goal < 2 ∧ aloP P here goal < 2 := by
  rcases besP_cases (d := d) h hc with e | ⟨x, y, x0, x1, y0, y1, e, e1, e2⟩
  · rw [e] at hb
    rw [← hb] at hg
    exact absurd hg (by decide)
  · have hin : inC P goal := by
      rcases besP_in (d := d) h hc with q | q
      · rw [q] at hb
        rw [← hb] at hg
        exact absurd hg (by decide)
      · rw [hb] at q
        exact q
    rw [hb] at e
    obtain ⟨a1, a2, a3, a4, a5, a6⟩ := col_row h hc
    obtain ⟨b1, b2, _, _, _, _⟩ := col_row h hin
    obtain ⟨m1, m2⟩ := mod_div (y := y) (by have := h.1; omega) x0 x1
    rw [e, m1] at b1
    rw [e, m2] at b2
    have hw2 := h.2.1
    have hh2 := h.2.2.2
    have t2 : (2 : Int32).toInt = 2 := rfl
    have ea : -1 ≤ (eastI d).toInt ∧ (eastI d).toInt ≤ 1 := by
      unfold eastI
      split
      · decide
      · split <;> decide
    have so : -1 ≤ (southI d).toInt ∧ (southI d).toInt ≤ 1 := by
      unfold southI
      split
      · decide
      · split
        · decide
        · split <;> decide
    have s1 : ((here - here / P 0 * P 0) - (goal - goal / P 0 * P 0)).toInt = here.toInt % (P 0).toInt - x := by
      rw [i32_sub (by omega) (by omega), a1, b1]
    have s2 : (here / P 0 - goal / P 0).toInt = here.toInt / (P 0).toInt - y := by
      rw [i32_sub (by omega) (by omega), a2, b2]
    constructor
    · unfold acrP
      rw [Int32.lt_iff_toInt_lt, absI_toInt (by omega), s1, t2]
      split <;> omega
    · unfold aloP
      rw [Int32.lt_iff_toInt_lt, absI_toInt (by omega), s2, t2]
      split <;> omega
theorem toP_no (hn : ∀ d, besP P here d ≠ goal) : ∀ (k : Nat) (d : Int32), toP P here goal k d = -1 := by
  intro k
  induction k with
  | zero => intro d; rfl
  | succ k ih =>
    intro d
    unfold toP
    rw [if_neg (hn d)]
    exact ih (d + 1)
/-- for each MEASURE what the lines that hold tell, added -/
noncomputable def sumL (g : TQ) (P : PK) (q : TQ) (c m : Int32) : List Lnq → Int32 → Int32
  | [], s => s
  | l :: r, s => sumL g P q c m r (if l.1 = 5 ∧ hldP g P q l c = true ∧ l.2.1 = m then s + l.2.2.1 else s)
noncomputable def totP (a : Int32 → Int32) (s : Int32 → Int32) : Int32 := s 0 * a 0 + s 1 * a 1 + s 2 * a 2 + s 3 * a 3 + s 4 * a 4 + s 5 * a 5 - s 6 * a 6
theorem tot_add (a s : Int32 → Int32) (m n : Int32) (hm : 0 ≤ m.toInt ∧ m.toInt ≤ 6) : totP a (fun k => if m = k then s k + n else s k) = totP a s + (if m = 6 then -(n * a m) else n * a m) := by
  obtain ⟨j, hj, rfl⟩ := i32_in (k := 6) hm.1 hm.2 (by decide)
  unfold totP
  dsimp only
  match j, hj with
  | 0, _ =>
    have e : (nI 0 : Int32) = 0 := rfl
    rw [e, if_pos rfl, if_neg (by decide), if_neg (by decide), if_neg (by decide), if_neg (by decide), if_neg (by decide), if_neg (by decide), if_neg (by decide)]
    grind
  | 1, _ =>
    have e : (nI 1 : Int32) = 1 := rfl
    rw [e, if_neg (by decide), if_pos rfl, if_neg (by decide), if_neg (by decide), if_neg (by decide), if_neg (by decide), if_neg (by decide), if_neg (by decide)]
    grind
  | 2, _ =>
    have e : (nI 2 : Int32) = 2 := rfl
    rw [e, if_neg (by decide), if_neg (by decide), if_pos rfl, if_neg (by decide), if_neg (by decide), if_neg (by decide), if_neg (by decide), if_neg (by decide)]
    grind
  | 3, _ =>
    have e : (nI 3 : Int32) = 3 := rfl
    rw [e, if_neg (by decide), if_neg (by decide), if_neg (by decide), if_pos rfl, if_neg (by decide), if_neg (by decide), if_neg (by decide), if_neg (by decide)]
    grind
  | 4, _ =>
    have e : (nI 4 : Int32) = 4 := rfl
    rw [e, if_neg (by decide), if_neg (by decide), if_neg (by decide), if_neg (by decide), if_pos rfl, if_neg (by decide), if_neg (by decide), if_neg (by decide)]
    grind
  | 5, _ =>
    have e : (nI 5 : Int32) = 5 := rfl
    rw [e, if_neg (by decide), if_neg (by decide), if_neg (by decide), if_neg (by decide), if_neg (by decide), if_pos rfl, if_neg (by decide), if_neg (by decide)]
    grind
  | 6, _ =>
    have e : (nI 6 : Int32) = 6 := rfl
    rw [e, if_neg (by decide), if_neg (by decide), if_neg (by decide), if_neg (by decide), if_neg (by decide), if_neg (by decide), if_pos rfl, if_pos rfl]
    grind
theorem wei_sum {w : WC} : ∀ (ls : List Lnq), (∀ l ∈ ls, l.1 = 5 → 0 ≤ l.2.1.toInt ∧ l.2.1.toInt ≤ 6) → ∀ (v : Int32) (s : Int32 → Int32), weiL g P q w c d ls v + totP (meaQ g P q w c d) s = v + totP (meaQ g P q w c d) (fun m => sumL g P q c m ls (s m)) := by
  intro ls
  induction ls with
  | nil => intro _ v s; rfl
  | cons l r ih =>
    intro hl v s
    unfold weiL sumL
    have ih' := ih (fun l hm => hl l (List.mem_cons_of_mem _ hm))
    by_cases h : l.1 = 5 ∧ hldP g P q l c = true
    · rw [if_pos h]
      have e : (fun m => sumL g P q c m r (if l.1 = 5 ∧ hldP g P q l c = true ∧ l.2.1 = m then s m + l.2.2.1 else s m)) = (fun m => sumL g P q c m r ((fun k => if l.2.1 = k then s k + l.2.2.1 else s k) m)) := by
        funext m
        by_cases hm : l.2.1 = m
        · rw [if_pos ⟨h.1, h.2, hm⟩]
          dsimp only
          rw [if_pos hm]
        · rw [if_neg (fun q => hm q.2.2)]
          dsimp only
          rw [if_neg hm]
      rw [e]
      have h1 := ih' (v + (if l.2.1 = 6 then -(l.2.2.1 * meaQ g P q w c d l.2.1) else l.2.2.1 * meaQ g P q w c d l.2.1)) (fun k => if l.2.1 = k then s k + l.2.2.1 else s k)
      rw [tot_add _ _ _ _ (hl l List.mem_cons_self h.1)] at h1
      grind
    · rw [if_neg h]
      have e : (fun m => sumL g P q c m r (if l.1 = 5 ∧ hldP g P q l c = true ∧ l.2.1 = m then s m + l.2.2.1 else s m)) = (fun m => sumL g P q c m r (s m)) := by
        funext m
        rw [if_neg (fun q => h ⟨q.1, q.2.1⟩)]
      rw [e]
      exact ih' v s
theorem wei_tot {w : WC} (hl : ∀ l ∈ q.2, l.1 = 5 → 0 ≤ l.2.1.toInt ∧ l.2.1.toInt ≤ 6) : weiP g P q w c d = dstP P c w.2.1 + totP (meaQ g P q w c d) (fun m => sumL g P q c m q.2 0) := by
  have h := wei_sum (g := g) (P := P) (q := q) (c := c) (d := d) (w := w) q.2 hl (dstP P c w.2.1) (fun _ => 0)
  have e : totP (meaQ g P q w c d) (fun _ => 0) = 0 := by
    unfold totP
    grind
  rw [e] at h
  unfold weiP
  grind
theorem sumL_rng {m : Int32} : ∀ (ls : List Lnq), (∀ l ∈ ls, l.1 = 5 → 0 ≤ l.2.2.1.toInt ∧ l.2.2.1.toInt ≤ 99) → ∀ s : Int32, 0 ≤ s.toInt → s.toInt + 99 * (ls.length : Int) ≤ 100000 → 0 ≤ (sumL g P q c m ls s).toInt := by
  intro ls
  induction ls with
  | nil => intro _ s h0 _; exact h0
  | cons l r ih =>
    intro hl s h0 h1
    have h1 : s.toInt + 99 * ((r.length + 1 : Nat) : Int) ≤ 100000 := h1
    unfold sumL
    refine ih (fun l hm => hl l (List.mem_cons_of_mem _ hm)) _ ?_ ?_
    · split
      · rename_i h
        have := hl l List.mem_cons_self h.1
        rw [i32_add (by omega) (by omega)]
        omega
      · exact h0
    · split
      · rename_i h
        have := hl l List.mem_cons_self h.1
        rw [i32_add (by omega) (by omega)]
        omega
      · omega
end PUR
/-! THE WALKING, in itself: what stays well formed -/
def okD (P : PK) : Prop := wh4 P ∧ (0 ≤ (P 2).toInt ∧ (P 2).toInt ≤ 9 ∧ ∀ d, d < (P 2).toInt.toNat → inC P (P (3 + d))) ∧ 0 ≤ (P 12).toInt ∧ (P 12).toInt ≤ 24 ∧ ∀ k, k < (P 12).toInt.toNat → (0 ≤ (P (13 + 6 * k)).toInt ∧ (P (13 + 6 * k)).toInt < (P 2).toInt) ∧ (0 ≤ (P (13 + 6 * k + 1)).toInt ∧ (P (13 + 6 * k + 1)).toInt < (P 2).toInt) ∧ (0 ≤ (P (13 + 6 * k + 2)).toInt ∧ (P (13 + 6 * k + 2)).toInt ≤ 5) ∧ 1 ≤ (P (13 + 6 * k + 3)).toInt ∧ (P (13 + 6 * k + 5) = 0 ∨ P (13 + 6 * k + 5) = 1)
def okK (P : PK) : Prop := 0 ≤ (P 157).toInt ∧ (P 157).toInt ≤ 60 ∧ ∀ k, k < (P 157).toInt.toNat → inC P (P (158 + 6 * k)) ∧ 0 ≤ (P (158 + 6 * k + 1)).toInt ∧ (P (158 + 6 * k + 1)).toInt < (P 12).toInt ∧ -1 ≤ (P (158 + 6 * k + 3)).toInt
def okC1 (B : Nat) (P : PK) (c : Int32) : Prop := (0 ≤ (cE P 0 c).toInt ∧ (cE P 0 c).toInt ≤ 6) ∧ 0 ≤ (cE P 2 c).toInt ∧ (0 ≤ (cE P 3 c).toInt ∧ (cE P 3 c).toInt ≤ 999) ∧ (0 ≤ (cE P 4 c).toInt ∧ (cE P 4 c).toInt ≤ 200) ∧ (0 ≤ (cE P 5 c).toInt ∧ (cE P 5 c).toInt ≤ (B : Int)) ∧ 0 ≤ (cE P 6 c).toInt ∧ (cE P 6 c).toInt ≤ (B : Int)
def okE (B : Nat) (P : PK) : Prop := ∀ c, inC P c → okC1 B P c
section KEE
variable {g q : TQ} {P P' : PK} {c c' d x : Int32} {B f f' i j k n : Nat}
theorem up_eq : uPk P i x i = x := if_pos rfl
theorem up_ne (h : j ≠ i) : uPk P i x j = P j := if_neg h
theorem cls_eq (h0 : P' 0 = P 0) (h1 : P' 1 = P 1) : clsP P' = clsP P := by unfold clsP; rw [h0, h1]
theorem inC.eq (h0 : P' 0 = P 0) (h1 : P' 1 = P 1) : inC P' c ↔ inC P c := by unfold inC; rw [cls_eq h0 h1]
theorem wh4.eq (h0 : P' 0 = P 0) (h1 : P' 1 = P 1) (h : wh4 P) : wh4 P' := by unfold wh4; rw [h0, h1]; exact h
theorem bes_eq (h0 : P' 0 = P 0) (h1 : P' 1 = P 1) : besP P' c d = besP P c d := by unfold besP; rw [h0, h1]
theorem cX_ge : 522 ≤ cX f c := by unfold cX; omega
theorem cX_inj (hf : f < 7) (hf' : f' < 7) (hc : 0 ≤ c.toInt) (hc' : 0 ≤ c'.toInt) (h : cX f' c' = cX f c) : f' = f ∧ c' = c := by
  unfold cX at h
  have e1 : f' = f := by omega
  refine ⟨e1, Int32.toInt_inj.mp ?_⟩
  have := Int.toNat_of_nonneg hc
  have := Int.toNat_of_nonneg hc'
  omega
theorem cE_up (hf : f < 7) (hf' : f' < 7) (hc : 0 ≤ c.toInt) (hc' : 0 ≤ c'.toInt) : cE (uPk P (cX f c) x) f' c' = if f' = f ∧ c' = c then x else cE P f' c' := by
  by_cases h : f' = f ∧ c' = c
  · rw [if_pos h, h.1, h.2]
    exact up_eq
  · rw [if_neg h]
    exact up_ne (fun q => h (cX_inj hf hf' hc hc' q))
theorem cE_lo (h : i < 522) : cE (uPk P i x) f c = cE P f c := up_ne (by have := cX_ge (f := f) (c := c); omega)
theorem okD.sb (hs : ∀ j, j < 157 → P' j = P j) (h : okD P) : okD P' := by
  obtain ⟨h1, ⟨h2, h3, h4⟩, h5, h6, h7⟩ := h
  have e0 := hs 0 (by decide)
  have e1 := hs 1 (by decide)
  refine ⟨h1.eq e0 e1, ⟨by rw [hs 2 (by decide)]; exact h2, by rw [hs 2 (by decide)]; exact h3, fun d hd => ?_⟩, by rw [hs 12 (by decide)]; exact h5, by rw [hs 12 (by decide)]; exact h6, fun k hk => ?_⟩
  · rw [hs 2 (by decide)] at hd
    rw [inC.eq e0 e1, hs _ (by omega)]
    exact h4 d hd
  · rw [hs 12 (by decide)] at hk
    rw [hs _ (by omega), hs 2 (by decide), hs _ (by omega), hs _ (by omega), hs _ (by omega), hs _ (by omega)]
    exact h7 k hk
theorem okE.sb (h0 : P' 0 = P 0) (h1 : P' 1 = P 1) (hs : ∀ j, 522 ≤ j → P' j = P j) (h : okE B P) : okE B P' := fun c hc => by
  have e : ∀ f, cE P' f c = cE P f c := fun f => hs _ cX_ge
  unfold okC1
  rw [e, e, e, e, e, e]
  exact h c ((inC.eq h0 h1).mp hc)
theorem okE.more {B' : Nat} (hB : B ≤ B') (h : okE B P) : okE B' P := fun c hc => by
  obtain ⟨a1, a2, a3, a4, a5, a6⟩ := h c hc
  exact ⟨a1, a2, a3, a4, ⟨a5.1, by omega⟩, a6.1, by omega⟩
theorem okE.nn (h : okE B P) : ∀ c, inC P c → nnC P c := fun c hc => by
  obtain ⟨a1, a2, a3, a4, a5, a6⟩ := h c hc
  exact ⟨a2, a3.1, a4.1, a5.1⟩
theorem fst_rng {k c d : Int32} (hd : 0 ≤ d.toInt ∧ d.toInt ≤ 999) : ∀ (ls : List Lnq), (∀ l ∈ ls, nuOK l.1 l.2.1 l.2.2.1) → 0 ≤ (fstL g P k c d ls).toInt ∧ (fstL g P k c d ls).toInt ≤ 999 := by
  intro ls
  induction ls with
  | nil => intro _; exact hd
  | cons l r ih =>
    intro h
    unfold fstL
    split
    · have := h l List.mem_cons_self
      exact ⟨this.1, this.2.1⟩
    · exact ih (fun l hl => h l (List.mem_cons_of_mem _ hl))
theorem wea_E (hc : 0 ≤ c.toInt) (hc' : 0 ≤ c'.toInt) (hf : f < 7) : cE (weaP g P c) f c' = if f = 3 ∧ c' = c ∧ grnB P c = true then (if 999 < cE P 3 c + fstL g P 0 c 5 g.2 then 999 else cE P 3 c + fstL g P 0 c 5 g.2) else cE P f c' := by
  unfold weaP
  obtain ⟨z, ez⟩ : ∃ z, z = (if 999 < cE P 3 c + fstL g P 0 c 5 g.2 then 999 else cE P 3 c + fstL g P 0 c 5 g.2) := ⟨_, rfl⟩
  rw [← ez]
  by_cases hg : grnB P c = true
  · rw [if_pos hg, cE_up (by decide) hf hc hc']
    by_cases h : f = 3 ∧ c' = c
    · rw [if_pos h, if_pos ⟨h.1, h.2, hg⟩]
    · rw [if_neg h, if_neg (fun q => h ⟨q.1, q.2.1⟩)]
  · rw [if_neg hg, if_neg (fun q => hg q.2.2)]
theorem trd_E (hc : 0 ≤ c.toInt) (hc' : 0 ≤ c'.toInt) (hf : f < 7) : cE (trdP g P c) f c' = if f = 5 ∧ c' = c then cE P 5 c + 1 else if f = 6 ∧ c' = c then cE P 6 c + 1 else cE (weaP g P c) f c' := by
  have w5 : cE (weaP g P c) 5 c = cE P 5 c := by rw [wea_E hc hc (by decide), if_neg (fun q => absurd q.1 (by decide))]
  have w6 : cE (weaP g P c) 6 c = cE P 6 c := by rw [wea_E hc hc (by decide), if_neg (fun q => absurd q.1 (by decide))]
  have w66 : cE (uPk (weaP g P c) (cX 5 c) (cE P 5 c + 1)) 6 c = cE P 6 c := by rw [cE_up (by decide) (by decide) hc hc, if_neg (fun q => absurd q.1 (by decide)), w6]
  unfold trdP
  rw [w5, w66, cE_up (by decide) hf hc hc', cE_up (by decide) hf hc hc']
  by_cases h5 : f = 5 ∧ c' = c
  · rw [if_pos h5, if_pos h5, if_neg (fun q => absurd (q.1.symm.trans h5.1) (by decide))]
  · rw [if_neg h5, if_neg h5]
theorem trd_lo (h : j < 522) : trdP g P c j = P j := by
  have h1 : ∀ f, j ≠ cX f c := fun f => by have := cX_ge (f := f) (c := c); omega
  unfold trdP
  rw [up_ne (h1 6), up_ne (h1 5)]
  unfold weaP
  split
  · exact up_ne (h1 3)
  · rfl
theorem okE.trd (hw : LW g) (hB : B ≤ 100000000) (h : okE B P) (hc : inC P c) : okE (B + 1) (trdP g P c) := fun c' hc' => by
  have e0 : trdP g P c 0 = P 0 := trd_lo (by decide)
  have e1 : trdP g P c 1 = P 1 := trd_lo (by decide)
  have hc2 : inC P c' := (inC.eq e0 e1).mp hc'
  have t1 : (1 : Int32).toInt = 1 := rfl
  have t9 : (999 : Int32).toInt = 999 := rfl
  obtain ⟨a1, a2, a3, a4, a5, a6⟩ := h c' hc2
  obtain ⟨_, _, b3, _, b5, b6⟩ := h c hc
  have fr := fst_rng (g := g) (P := P) (k := 0) (c := c) (d := 5) (by decide) g.2 (fun l hl => (hw l hl).1)
  have ew : ∀ f, f < 7 → f ≠ 3 → cE (weaP g P c) f c' = cE P f c' := fun f hf h3 => by rw [wea_E hc.1 hc2.1 hf, if_neg (fun q => h3 q.1)]
  unfold okC1
  rw [trd_E hc.1 hc2.1 (by decide), trd_E hc.1 hc2.1 (by decide), trd_E hc.1 hc2.1 (by decide), trd_E hc.1 hc2.1 (by decide), trd_E hc.1 hc2.1 (by decide), trd_E hc.1 hc2.1 (by decide)]
  rw [if_neg (fun q => absurd q.1 (by decide)), if_neg (fun q => absurd q.1 (by decide)), ew 0 (by decide) (by decide)]
  rw [if_neg (fun q => absurd q.1 (by decide)), if_neg (fun q => absurd q.1 (by decide)), ew 2 (by decide) (by decide)]
  rw [if_neg (fun q => absurd q.1 (by decide)), if_neg (fun q => absurd q.1 (by decide))]
  rw [if_neg (fun q => absurd q.1 (by decide)), if_neg (fun q => absurd q.1 (by decide)), ew 4 (by decide) (by decide)]
  rw [ew 5 (by decide) (by decide), ew 6 (by decide) (by decide)]
  have s5 : (cE P 5 c + 1).toInt = (cE P 5 c).toInt + 1 := i32_add (by omega) (by omega)
  have s6 : (cE P 6 c + 1).toInt = (cE P 6 c).toInt + 1 := i32_add (by omega) (by omega)
  refine ⟨a1, a2, ?_, a4, ?_, ?_⟩
  · rw [wea_E hc.1 hc2.1 (by decide)]
    split
    · split
      · decide
      · rename_i h9
        rw [Int32.lt_iff_toInt_lt, t9, i32_add (by omega) (by omega)] at h9
        rw [i32_add (by omega) (by omega)]
        omega
    · exact a3
  · by_cases hcc : c' = c
    · rw [if_pos ⟨rfl, hcc⟩, s5]
      omega
    · rw [if_neg (fun q => hcc q.2), if_neg (fun q => hcc q.2)]
      omega
  · rw [if_neg (fun q => absurd q.1 (by decide))]
    by_cases hcc : c' = c
    · rw [if_pos ⟨rfl, hcc⟩, s6]
      omega
    · rw [if_neg (fun q => hcc q.2)]
      omega
/-! how many are on a CELL -/
theorem crd_congr : ∀ n, (∀ t, t < n → P' (158 + 6 * t) = P (158 + 6 * t)) → crdP P' c n = crdP P c n := by
  intro n
  induction n with
  | zero => intro _; rfl
  | succ n ih =>
    intro h
    show crdP P' c n + _ = crdP P c n + _
    rw [ih (fun t ht => h t (by omega)), h n (by omega)]
noncomputable def onI (a c : Int32) : Int32 := if a = c then 1 else 0
theorem crd_up : ∀ n k, k < n → (∀ t, t < n → t ≠ k → P' (158 + 6 * t) = P (158 + 6 * t)) → crdP P' c n = crdP P c n - onI (P (158 + 6 * k)) c + onI (P' (158 + 6 * k)) c := by
  intro n
  induction n with
  | zero => intro k h; exact absurd h (Nat.not_lt_zero k)
  | succ n ih =>
    intro k hk h
    show crdP P' c n + onI (P' (158 + 6 * n)) c = crdP P c n + onI (P (158 + 6 * n)) c - _ + _
    by_cases hkn : k = n
    · subst hkn
      rw [crd_congr k (fun t ht => h t (by omega) (by omega))]
      grind
    · rw [ih k (by omega) (fun t ht => h t (by omega)), h n (by omega) (by omega)]
      grind
theorem crd_del : ∀ n k, k ≤ n → (∀ t, t < k → P' (158 + 6 * t) = P (158 + 6 * t)) → (∀ t, k ≤ t → t < n → P' (158 + 6 * t) = P (158 + 6 * (t + 1))) → crdP P' c n = crdP P c (n + 1) - onI (P (158 + 6 * k)) c := by
  intro n
  induction n with
  | zero =>
    intro k hk _ _
    have : k = 0 := by omega
    subst this
    show (0 : Int32) = 0 + onI (P (158 + 6 * 0)) c - _
    grind
  | succ n ih =>
    intro k hk h1 h2
    show crdP P' c n + onI (P' (158 + 6 * n)) c = crdP P c (n + 1) + onI (P (158 + 6 * (n + 1))) c - _
    by_cases hkn : k = n + 1
    · subst hkn
      rw [crd_congr n (fun t ht => h1 t (by omega)), h1 n (by omega)]
      show crdP P c n + onI (P (158 + 6 * n)) c = crdP P c n + onI (P (158 + 6 * n)) c + _ - _
      grind
    · rw [ih k (by omega) h1 (fun t h3 h4 => h2 t h3 (by omega)), h2 n (by omega) (by omega)]
      grind
theorem crd_nn : ∀ n, n ≤ 1000 → 0 ≤ (crdP P c n).toInt ∧ (crdP P c n).toInt ≤ (n : Int) := by
  intro n
  induction n with
  | zero => intro _; exact (by decide : 0 ≤ (0 : Int32).toInt ∧ (0 : Int32).toInt ≤ ((0 : Nat) : Int))
  | succ n ih =>
    intro hn
    obtain ⟨h1, h2⟩ := ih (by omega)
    have t1 : (1 : Int32).toInt = 1 := rfl
    have t0 : (0 : Int32).toInt = 0 := rfl
    show 0 ≤ (crdP P c n + _).toInt ∧ (crdP P c n + _).toInt ≤ _
    split
    · rw [i32_add (by omega) (by omega)]
      omega
    · rw [i32_add (by omega) (by omega)]
      omega
/-- somebody is there -/
theorem crd_pos : ∀ n, n ≤ 1000 → (0 < crdP P c n ↔ ∃ t, t < n ∧ P (158 + 6 * t) = c) := by
  intro n
  induction n with
  | zero => intro _; exact ⟨fun h => absurd h (show ¬ (0 : Int32) < 0 by decide), fun ⟨t, h, _⟩ => absurd h (Nat.not_lt_zero t)⟩
  | succ n ih =>
    intro hn
    have h1 := crd_nn (P := P) (c := c) n (by omega)
    have t1 : (1 : Int32).toInt = 1 := rfl
    have t0 : (0 : Int32).toInt = 0 := rfl
    have ih := ih (by omega)
    rw [Int32.lt_iff_toInt_lt, t0] at ih
    show 0 < crdP P c n + _ ↔ _
    rw [Int32.lt_iff_toInt_lt, t0]
    by_cases hp : P (158 + 6 * n) = c
    · rw [if_pos hp, i32_add (by omega) (by omega)]
      exact ⟨fun _ => ⟨n, by omega, hp⟩, fun _ => by omega⟩
    · rw [if_neg hp, i32_add (by omega) (by omega), t0, Int.add_zero, ih]
      constructor
      · rintro ⟨t, h2, h3⟩
        exact ⟨t, by omega, h3⟩
      · rintro ⟨t, h2, h3⟩
        refine ⟨t, ?_, h3⟩
        have : t ≠ n := fun q => hp (q ▸ h3)
        omega
/-! where a walker goes -/
theorem to_rng {here goal : Int32} : ∀ (n : Nat) (d : Int32), 0 ≤ d.toInt → d.toInt + (n : Int) = 8 → toP P here goal n d = -1 ∨ (0 ≤ (toP P here goal n d).toInt ∧ (toP P here goal n d).toInt < 8 ∧ besP P here (toP P here goal n d) = goal) := by
  intro n
  induction n with
  | zero => intro d _ _; exact Or.inl rfl
  | succ n ih =>
    intro d h0 h1
    unfold toP
    split
    · rename_i h
      exact Or.inr ⟨h0, by omega, h⟩
    · exact ih (d + 1) (by rw [i32_p1 (by omega)]; omega) (by rw [i32_p1 (by omega)]; omega)
theorem bst_rng {w : WC} : ∀ (n : Nat) (d b le : Int32), 0 ≤ d.toInt → d.toInt + (n : Int) = 8 → (b = -1 ∨ (0 ≤ b.toInt ∧ b.toInt < 8 ∧ ¬ besP P w.1 b < 0)) → bstP g P q w n d b le = -1 ∨ (0 ≤ (bstP g P q w n d b le).toInt ∧ (bstP g P q w n d b le).toInt < 8 ∧ ¬ besP P w.1 (bstP g P q w n d b le) < 0) := by
  intro n
  induction n with
  | zero => intro d b le _ _ hb; exact hb
  | succ n ih =>
    intro d b le h0 h1 hb
    have d1 : (d + 1).toInt = d.toInt + 1 := i32_p1 (by omega)
    unfold bstP
    split
    · exact ih (d + 1) b le (by omega) (by omega) hb
    · rename_i h
      refine ih (d + 1) d _ (by omega) (by omega) (Or.inr ⟨h0, by omega, fun q => h (Or.inl ?_)⟩)
      unfold badB
      rw [decide_eq_true q, Bool.true_or]
theorem cho_rng {w : WC} (hg : 0 ≤ w.2.1.toInt) : choP g P q w = -1 ∨ (0 ≤ (choP g P q w).toInt ∧ (choP g P q w).toInt < 8 ∧ ¬ besP P w.1 (choP g P q w) < 0) := by
  unfold choP
  split
  · exact bst_rng 8 0 (-1) 0 (by decide) (by decide) (Or.inl rfl)
  · rename_i h
    rcases to_rng (P := P) (here := w.1) (goal := w.2.1) 8 0 (by decide) (by decide) with e | ⟨e1, e2, e3⟩
    · rw [e] at h
      exact absurd (by decide) h
    · exact Or.inr ⟨e1, e2, by rw [e3, i32_z]; omega⟩
end KEE
/-! THE GAME'S CALLS, in themselves -/
noncomputable def hdP (P : PK) (c : Int32) : Nat → Nat → Bool
  | 0, _ => false
  | n + 1, k => if P (3 + k) = c then true else hdP P c n (k + 1)
/-- a DOOR is there -/
noncomputable def hasP (P : PK) (c : Int32) : Bool := hdP P c (P 2).toInt.toNat 0
noncomputable def wkrP (P : PK) (c : Int32) : Nat → Nat → Bool
  | 0, _ => false
  | n + 1, k => if P (158 + 6 * k) = c then true else wkrP P c n (k + 1)
/-- a WALKER is there -/
noncomputable def wthP (P : PK) (c : Int32) : Bool := wkrP P c (P 157).toInt.toNat 0
def inX (x lo hi : Int32) : Prop := lo.toInt ≤ x.toInt ∧ x.toInt ≤ hi.toInt
def inD (P : PK) (d : Int32) : Prop := 0 ≤ d.toInt ∧ d.toInt < (P 2).toInt
def dorN (P : PK) (c : Int32) : Prop := P 2 = 9 ∨ ¬ inC P c ∨ opnB P c = false ∨ hasP P c = true
noncomputable def dorP (P : PK) (c : Int32) : PK := uPk (uPk P (3 + (P 2).toInt.toNat) c) 2 (P 2 + 1)
def wisN (P : PK) (a b h ev fi : Int32) : Prop := P 12 = 24 ∨ ¬ inD P a ∨ ¬ inD P b ∨ a = b ∨ ¬ inX h 0 5 ∨ ¬ inX ev 1 200 ∨ ¬ inX fi 0 60000
noncomputable def wiQ (P : PK) (k : Nat) (a b h ev fi : Int32) : PK := uPk (uPk (uPk (uPk (uPk (uPk P (13 + 6 * k) a) (13 + 6 * k + 1) b) (13 + 6 * k + 2) h) (13 + 6 * k + 3) ev) (13 + 6 * k + 4) fi) (13 + 6 * k + 5) 1
noncomputable def wisP (P : PK) (a b h ev fi : Int32) : PK := uPk (wiQ P (P 12).toInt.toNat a b h ev fi) 12 (P 12 + 1)
/-- a WISH that is -/
def isW (P : PK) (k : Int32) : Prop := (0 ≤ k.toInt ∧ k.toInt < (P 12).toInt) ∧ P (13 + 6 * k.toInt.toNat + 5) = 1
noncomputable def drpP (P : PK) (k : Int32) : PK := uPk P (13 + 6 * k.toInt.toNat + 5) 0
/-- rain on a CELL, on n CELLS -/
noncomputable def ra1P (P : PK) (x c : Int32) : PK := if cE P 0 c < 3 then uPk P (cX 4 c) (if cE P 4 c + x < 200 then cE P 4 c + x else 200) else P
noncomputable def raiP (x : Int32) : Nat → Int32 → PK → PK
  | 0, _, P => P
  | n + 1, c, P => raiP x n (c + 1) (ra1P P x c)
def layN (P : PK) (c k : Int32) : Prop := ¬ inC P c ∨ ¬ inX k 0 6 ∨ ((k = 3 ∨ k = 6) ∧ (hasP P c = true ∨ wthP P c = true))
noncomputable def layP (P : PK) (c k : Int32) : PK := if k = 0 ∨ k = 2 then uPk P (cX 0 c) k else uPk (uPk P (cX 0 c) k) (cX 3 c) 0
/-- what run answers, and how it leaves THE PARK -/
def runN (P : PK) (t : Int32) : Prop := ¬ inX t 1 400 ∨ 60000 < (P 518).toInt + t.toInt
noncomputable def runP (T : TS) (P : PK) (t : Int32) : PK := (tksP T t.toInt.toNat (P, [])).1
section GAM
variable {P P' : PK} {c c' d k x a b h ev fi : Int32} {B n i j : Nat}
theorem okD.dor (hD : okD P) (h9 : ¬ P 2 = 9) (hc : inC P c) : okD (dorP P c) ∧ (∀ j, 12 ≤ j → dorP P c j = P j) ∧ dorP P c 0 = P 0 ∧ dorP P c 1 = P 1 := by
  obtain ⟨h1, ⟨h2, h3, h4⟩, h5, h6, h7⟩ := hD
  have t9 : (9 : Int32).toInt = 9 := rfl
  have n9 : (P 2).toInt ≠ 9 := fun q => h9 (Int32.toInt_inj.mp (q.trans t9.symm))
  obtain ⟨m, em⟩ : ∃ m, m = (P 2).toInt.toNat := ⟨_, rfl⟩
  obtain ⟨Q, eQ⟩ : ∃ Q, Q = dorP P c := ⟨_, rfl⟩
  rw [← eQ]
  unfold dorP at eQ
  rw [← em] at eQ
  have q2 : Q 2 = P 2 + 1 := by rw [eQ]; exact up_eq
  have q2i : (Q 2).toInt = (P 2).toInt + 1 := by rw [q2]; exact i32_p1 (by omega)
  have qn : Q (3 + m) = c := by rw [eQ, up_ne (by omega)]; exact up_eq
  have qo : ∀ j, j ≠ 2 → j ≠ 3 + m → Q j = P j := fun j j1 j2 => by rw [eQ, up_ne j1, up_ne j2]
  have e0 := qo 0 (by decide) (by omega)
  have e1 := qo 1 (by decide) (by omega)
  have hi : ∀ j, 12 ≤ j → Q j = P j := fun j hj => qo j (by omega) (by omega)
  refine ⟨⟨h1.eq e0 e1, ⟨by omega, by omega, fun d hd => ?_⟩, by rw [hi 12 (by decide)]; exact h5, by rw [hi 12 (by decide)]; exact h6, fun k hk => ?_⟩, hi, e0, e1⟩
  · rw [inC.eq e0 e1]
    by_cases hdm : d = m
    · rw [hdm, qn]; exact hc
    · rw [qo _ (by omega) (by omega)]
      exact h4 d (by omega)
  · rw [hi 12 (by decide)] at hk
    rw [hi (13 + 6 * k) (by omega), hi (13 + 6 * k + 1) (by omega), hi (13 + 6 * k + 2) (by omega), hi (13 + 6 * k + 3) (by omega), hi (13 + 6 * k + 5) (by omega)]
    obtain ⟨u1, u2, u3, u4⟩ := h7 k hk
    exact ⟨⟨u1.1, by omega⟩, ⟨u2.1, by omega⟩, u3, u4⟩
theorem wiQ_o {k : Nat} (hj : j < 13 + 6 * k ∨ 13 + 6 * k + 6 ≤ j) : wiQ P k a b h ev fi j = P j := by
  unfold wiQ
  rw [up_ne (by omega), up_ne (by omega), up_ne (by omega), up_ne (by omega), up_ne (by omega), up_ne (by omega)]
theorem wiQ_i {k : Nat} : wiQ P k a b h ev fi (13 + 6 * k) = a ∧ wiQ P k a b h ev fi (13 + 6 * k + 1) = b ∧ wiQ P k a b h ev fi (13 + 6 * k + 2) = h ∧ wiQ P k a b h ev fi (13 + 6 * k + 3) = ev ∧ wiQ P k a b h ev fi (13 + 6 * k + 4) = fi ∧ wiQ P k a b h ev fi (13 + 6 * k + 5) = 1 := by
  unfold wiQ
  refine ⟨?_, ?_, ?_, ?_, ?_, up_eq⟩
  · rw [up_ne (by omega), up_ne (by omega), up_ne (by omega), up_ne (by omega), up_ne (by omega)]; exact up_eq
  · rw [up_ne (by omega), up_ne (by omega), up_ne (by omega), up_ne (by omega)]; exact up_eq
  · rw [up_ne (by omega), up_ne (by omega), up_ne (by omega)]; exact up_eq
  · rw [up_ne (by omega), up_ne (by omega)]; exact up_eq
  · rw [up_ne (by omega)]; exact up_eq
theorem okD.wis (hD : okD P) (h24 : ¬ P 12 = 24) (ha : inD P a) (hb : inD P b) (hh : inX h 0 5) (he : inX ev 1 200) : okD (wisP P a b h ev fi) ∧ (∀ j, 157 ≤ j → wisP P a b h ev fi j = P j) ∧ wisP P a b h ev fi 12 = P 12 + 1 ∧ (∀ j, j < 12 → wisP P a b h ev fi j = P j) := by
  obtain ⟨h1, ⟨h2, h3, h4⟩, h5, h6, h7⟩ := hD
  have t24 : (24 : Int32).toInt = 24 := rfl
  have n24 : (P 12).toInt ≠ 24 := fun q => h24 (Int32.toInt_inj.mp (q.trans t24.symm))
  obtain ⟨m, em⟩ : ∃ m, m = (P 12).toInt.toNat := ⟨_, rfl⟩
  obtain ⟨Q, eQ⟩ : ∃ Q, Q = wisP P a b h ev fi := ⟨_, rfl⟩
  rw [← eQ]
  unfold wisP at eQ
  rw [← em] at eQ
  have q12 : Q 12 = P 12 + 1 := by rw [eQ]; exact up_eq
  have q12i : (Q 12).toInt = (P 12).toInt + 1 := by rw [q12]; exact i32_p1 (by omega)
  have qo : ∀ j, j ≠ 12 → (j < 13 + 6 * m ∨ 13 + 6 * m + 6 ≤ j) → Q j = P j := fun j j1 j2 => by rw [eQ, up_ne j1]; exact wiQ_o j2
  have qi : ∀ j, j ≠ 12 → Q j = wiQ P m a b h ev fi j := fun j j1 => by rw [eQ, up_ne j1]
  obtain ⟨i0, i1, i2, i3, i4, i5⟩ := wiQ_i (P := P) (k := m) (a := a) (b := b) (h := h) (ev := ev) (fi := fi)
  have lo : ∀ j, j < 12 → Q j = P j := fun j hj => qo j (by omega) (by omega)
  have e0 := lo 0 (by decide)
  have e1 := lo 1 (by decide)
  have t0 : (0 : Int32).toInt = 0 := rfl
  have t5 : (5 : Int32).toInt = 5 := rfl
  have t1 : (1 : Int32).toInt = 1 := rfl
  unfold inX at hh he
  refine ⟨⟨h1.eq e0 e1, ⟨by rw [lo 2 (by decide)]; exact h2, by rw [lo 2 (by decide)]; exact h3, fun d hd => ?_⟩, by omega, by omega, fun k hk => ?_⟩, fun j hj => qo j (by omega) (by omega), q12, lo⟩
  · rw [lo 2 (by decide)] at hd
    rw [inC.eq e0 e1, lo _ (by omega)]
    exact h4 d hd
  · rw [lo 2 (by decide)]
    by_cases hkm : k = m
    · rw [hkm, qi _ (by omega), qi _ (by omega), qi _ (by omega), qi _ (by omega), qi _ (by omega), i0, i1, i2, i3, i5]
      exact ⟨ha, hb, ⟨by omega, by omega⟩, by omega, Or.inr rfl⟩
    · rw [qo _ (by omega) (by omega), qo _ (by omega) (by omega), qo _ (by omega) (by omega), qo _ (by omega) (by omega), qo _ (by omega) (by omega)]
      exact h7 k (by omega)
theorem okK.wis (hK : okK P) (h0 : P' 0 = P 0) (h1 : P' 1 = P 1) (h12 : (P 12).toInt ≤ (P' 12).toInt) (hs : ∀ j, 157 ≤ j → P' j = P j) : okK P' := by
  obtain ⟨a1, a2, a3⟩ := hK
  refine ⟨by rw [hs 157 (by decide)]; exact a1, by rw [hs 157 (by decide)]; exact a2, fun k hk => ?_⟩
  rw [hs 157 (by decide)] at hk
  obtain ⟨b1, b2, b3, b4⟩ := a3 k hk
  rw [inC.eq h0 h1, hs (158 + 6 * k) (by omega), hs (158 + 6 * k + 1) (by omega), hs (158 + 6 * k + 3) (by omega)]
  exact ⟨b1, b2, by omega, b4⟩
theorem okD.drp (hD : okD P) (hk : 0 ≤ k.toInt ∧ k.toInt < (P 12).toInt) : okD (drpP P k) ∧ ∀ j, j ≠ 13 + 6 * k.toInt.toNat + 5 → drpP P k j = P j := by
  obtain ⟨h1, ⟨h2, h3, h4⟩, h5, h6, h7⟩ := hD
  have qo : ∀ j, j ≠ 13 + 6 * k.toInt.toNat + 5 → drpP P k j = P j := fun j hj => up_ne hj
  have e0 := qo 0 (by omega)
  have e1 := qo 1 (by omega)
  refine ⟨⟨h1.eq e0 e1, ⟨by rw [qo 2 (by omega)]; exact h2, by rw [qo 2 (by omega)]; exact h3, fun d hd => ?_⟩, by rw [qo 12 (by omega)]; exact h5, by rw [qo 12 (by omega)]; exact h6, fun i hi => ?_⟩, qo⟩
  · rw [qo 2 (by omega)] at hd
    rw [inC.eq e0 e1, qo _ (by omega)]
    exact h4 d hd
  · rw [qo 12 (by omega)] at hi
    rw [qo 2 (by omega), qo _ (by omega), qo _ (by omega), qo _ (by omega), qo _ (by omega)]
    obtain ⟨u1, u2, u3, u4, u5⟩ := h7 i hi
    refine ⟨u1, u2, u3, u4, ?_⟩
    by_cases hik : i = k.toInt.toNat
    · rw [hik]
      exact Or.inl up_eq
    · rw [qo _ (by omega)]
      exact u5
/-- nothing below the cells changes -/
def hiS (P P' : PK) : Prop := ∀ j, j < 522 → P' j = P j
theorem hiS.D (hs : hiS P P') (h : okD P) : okD P' := h.sb (fun j hj => hs j (by omega))
theorem hiS.K (hs : hiS P P') (h : okK P) : okK P' := by
  obtain ⟨a1, a2, a3⟩ := h
  have e := hs 157 (by decide)
  refine ⟨by rw [e]; exact a1, by rw [e]; exact a2, fun k hk => ?_⟩
  rw [e] at hk
  rw [inC.eq (hs 0 (by decide)) (hs 1 (by decide)), hs (158 + 6 * k) (by omega), hs (158 + 6 * k + 1) (by omega), hs (158 + 6 * k + 3) (by omega), hs 12 (by decide)]
  exact a3 k hk
theorem ra1_hi : hiS P (ra1P P x c) := fun j hj => by
  unfold ra1P
  split
  · exact up_ne (by have := cX_ge (f := 4) (c := c); omega)
  · rfl
theorem okE.ra1 (hE : okE B P) (hc : inC P c) (hx : inX x 1 200) : okE B (ra1P P x c) := fun c' hc' => by
  unfold ra1P at hc' ⊢
  split
  · rename_i h3
    rw [if_pos h3] at hc'
    have hc2 : inC P c' := hc'
    have e : ∀ f, f < 7 → cE (uPk P (cX 4 c) (if cE P 4 c + x < 200 then cE P 4 c + x else 200)) f c' = if f = 4 ∧ c' = c then (if cE P 4 c + x < 200 then cE P 4 c + x else 200) else cE P f c' := fun f hf => cE_up (by decide) hf hc.1 hc2.1
    obtain ⟨a1, a2, a3, a4, a5, a6⟩ := hE c' hc2
    have nf : ∀ f g : Nat, f ≠ g → ¬ (f = g ∧ c' = c) := fun f g hfg q => hfg q.1
    unfold okC1
    rw [e 0 (by decide), e 2 (by decide), e 3 (by decide), e 4 (by decide), e 5 (by decide), e 6 (by decide), if_neg (nf 0 4 (by decide)), if_neg (nf 2 4 (by decide)), if_neg (nf 3 4 (by decide)), if_neg (nf 5 4 (by decide)), if_neg (nf 6 4 (by decide))]
    refine ⟨a1, a2, a3, ?_, a5, a6⟩
    have t200 : (200 : Int32).toInt = 200 := rfl
    have t1 : (1 : Int32).toInt = 1 := rfl
    unfold inX at hx
    split
    · rename_i hq
      rw [hq.2] at a4
      have ea : (cE P 4 c + x).toInt = (cE P 4 c).toInt + x.toInt := i32_add (by omega) (by omega)
      split
      · rename_i hl
        have := Int32.lt_iff_toInt_lt.mp hl
        omega
      · omega
    · exact a4
  · rename_i h3
    rw [if_neg h3] at hc'
    exact hE c' hc'
theorem inC.hi (hs : hiS P P') : inC P' c ↔ inC P c := inC.eq (hs 0 (by decide)) (hs 1 (by decide))
theorem lay_hi : hiS P (layP P c k) := fun j hj => by
  have c0 := cX_ge (f := 0) (c := c)
  have c3 := cX_ge (f := 3) (c := c)
  unfold layP
  split
  · exact up_ne (by omega)
  · rw [up_ne (by omega)]
    exact up_ne (by omega)
theorem okE.lay (hE : okE B P) (hc : inC P c) (hk : inX k 0 6) : okE B (layP P c k) := fun c' hc' => by
  have hc2 : inC P c' := (inC.hi lay_hi).mp hc'
  obtain ⟨a1, a2, a3, a4, a5, a6⟩ := hE c' hc2
  have e : ∀ f, f < 7 → cE (uPk P (cX 0 c) k) f c' = if f = 0 ∧ c' = c then k else cE P f c' := fun f hf => cE_up (by decide) hf hc.1 hc2.1
  have e3 : ∀ f, f < 7 → cE (uPk (uPk P (cX 0 c) k) (cX 3 c) 0) f c' = if f = 3 ∧ c' = c then 0 else cE (uPk P (cX 0 c) k) f c' := fun f hf => cE_up (by decide) hf hc.1 hc2.1
  have t0 : (0 : Int32).toInt = 0 := rfl
  have t6 : (6 : Int32).toInt = 6 := rfl
  unfold inX at hk
  have k0 : 0 ≤ (if 0 = 0 ∧ c' = c then k else cE P 0 c').toInt ∧ (if 0 = 0 ∧ c' = c then k else cE P 0 c').toInt ≤ 6 := by
    split
    · omega
    · exact a1
  have nf : ∀ f g : Nat, f ≠ g → ¬ (f = g ∧ c' = c) := fun f g hfg q => hfg q.1
  unfold layP okC1
  split
  · rw [e 0 (by decide), e 2 (by decide), e 3 (by decide), e 4 (by decide), e 5 (by decide), e 6 (by decide), if_neg (nf 2 0 (by decide)), if_neg (nf 3 0 (by decide)), if_neg (nf 4 0 (by decide)), if_neg (nf 5 0 (by decide)), if_neg (nf 6 0 (by decide))]
    exact ⟨k0, a2, a3, a4, a5, a6⟩
  · rw [e3 0 (by decide), e3 2 (by decide), e3 3 (by decide), e3 4 (by decide), e3 5 (by decide), e3 6 (by decide), e 0 (by decide), e 2 (by decide), e 3 (by decide), e 4 (by decide), e 5 (by decide), e 6 (by decide), if_neg (nf 2 0 (by decide)), if_neg (nf 3 0 (by decide)), if_neg (nf 4 0 (by decide)), if_neg (nf 5 0 (by decide)), if_neg (nf 6 0 (by decide)), if_neg (nf 0 3 (by decide)), if_neg (nf 2 3 (by decide)), if_neg (nf 4 3 (by decide)), if_neg (nf 5 3 (by decide)), if_neg (nf 6 3 (by decide))]
    refine ⟨k0, a2, ?_, a4, a5, a6⟩
    split
    · rw [t0]; omega
    · exact a3
theorem wkr_iff : ∀ n k, wkrP P c n k = true ↔ ∃ t, k ≤ t ∧ t < k + n ∧ P (158 + 6 * t) = c := by
  intro n
  induction n with
  | zero =>
    intro k
    exact ⟨fun q => (by cases q), fun ⟨t, h1, h2, _⟩ => (by omega)⟩
  | succ n ih =>
    intro k
    unfold wkrP
    by_cases hk : P (158 + 6 * k) = c
    · rw [if_pos hk]
      exact ⟨fun _ => ⟨k, Nat.le_refl _, by omega, hk⟩, fun _ => rfl⟩
    · rw [if_neg hk, ih]
      constructor
      · rintro ⟨t, h1, h2, h3⟩
        exact ⟨t, by omega, by omega, h3⟩
      · rintro ⟨t, h1, h2, h3⟩
        by_cases htk : t = k
        · rw [htk] at h3
          exact absurd h3 hk
        · exact ⟨t, by omega, by omega, h3⟩
/-- the crowd knows whether a WALKER is there -/
theorem wth_crd (h60 : (P 157).toInt ≤ 60) : 0 < crdP P c (P 157).toInt.toNat ↔ wthP P c = true := by
  unfold wthP
  rw [crd_pos _ (by omega), wkr_iff]
  constructor
  · rintro ⟨t, h1, h2⟩
    exact ⟨t, Nat.zero_le _, by omega, h2⟩
  · rintro ⟨t, _, h1, h2⟩
    exact ⟨t, by omega, h2⟩
end GAM
/-! THE CLASS'S holds: pieces (made by gwal.py) -/
theorem hs0_0 {e : Nat} {M M' : Mem} {v : Option Value} {c : Int32} (hS : SQ M) (H : Ev none e 71 0 [some (.ref 104), some (.int 0), some (.int c)] [] M v M' 0 0) : (0 ≤ c.toInt ∧ c.toInt < 256) ∧ v = some (.int (rI M (fR M 104 7 + 1) c)) ∧ M' = M := by
  have H : Ev none e 71 45 [some (.ref 104), some (.int 0), some (.int c)] [.ref 104] M v M' 0 0 := Ev.back 3 (fun n => rfl) H
  have H : Ev none e 71 48 [some (.ref 104), some (.int 0), some (.int c)] [.ref (fR M 104 7)] M v M' 0 0 := Ev.back 1 (gs_3 rfl rfl (gf_r hS.1 qa_104 qr_22_7 rfl)) H
  have H : Ev none e 71 51 [some (.ref 104), some (.int 0), some (.int c)] [.ref (fR M 104 7 + 1)] M v M' 0 0 := Ev.back 1 (gs_3 rfl rfl (gf_x hS.1 (hS.1.fr qa_104 qr_22_7).2 qo_8 (fx_l2 hS (hS.1.fr qa_104 qr_22_7).2) rfl)) H
  have H : Ev none e 71 52 [some (.ref 104), some (.int 0), some (.int c)] [.int c, .ref (fR M 104 7 + 1)] M v M' 0 0 := Ev.back 1 (fun n => rfl) H
  obtain ⟨b1, H⟩ := Ev.ial rfl rfl hS.1 (fx_h2 (hS.1.fr qa_104 qr_22_7).2) qw_9 H
  have H : Ev none e 71 53 [some (.ref 104), some (.int 0), some (.int c)] [.int (rI M (fR M 104 7 + 1) c)] M v M' 0 0 := H
  obtain ⟨z1, z2⟩ := Ev.retz rfl rfl H
  exact ⟨b1, z1, z2⟩
theorem hs1_0 {e : Nat} {M M' : Mem} {v : Option Value} {c : Int32} (hS : SQ M) (H : Ev none e 71 0 [some (.ref 104), some (.int 1), some (.int c)] [] M v M' 0 0) : (0 ≤ c.toInt ∧ c.toInt < 256) ∧ v = some (.int (rI M (fR M 104 7 + 2) c)) ∧ M' = M := by
  have H : Ev none e 71 55 [some (.ref 104), some (.int 1), some (.int c)] [.ref 104] M v M' 0 0 := Ev.back 3 (fun n => rfl) H
  have H : Ev none e 71 58 [some (.ref 104), some (.int 1), some (.int c)] [.ref (fR M 104 7)] M v M' 0 0 := Ev.back 1 (gs_3 rfl rfl (gf_r hS.1 qa_104 qr_22_7 rfl)) H
  have H : Ev none e 71 61 [some (.ref 104), some (.int 1), some (.int c)] [.ref (fR M 104 7 + 2)] M v M' 0 0 := Ev.back 1 (gs_3 rfl rfl (gf_x hS.1 (hS.1.fr qa_104 qr_22_7).2 qo_8 (fx_l3 hS (hS.1.fr qa_104 qr_22_7).2) rfl)) H
  have H : Ev none e 71 62 [some (.ref 104), some (.int 1), some (.int c)] [.int c, .ref (fR M 104 7 + 2)] M v M' 0 0 := Ev.back 1 (fun n => rfl) H
  obtain ⟨b1, H⟩ := Ev.ial rfl rfl hS.1 (fx_h3 (hS.1.fr qa_104 qr_22_7).2) qw_10 H
  have H : Ev none e 71 63 [some (.ref 104), some (.int 1), some (.int c)] [.int (rI M (fR M 104 7 + 2) c)] M v M' 0 0 := H
  obtain ⟨z1, z2⟩ := Ev.retz rfl rfl H
  exact ⟨b1, z1, z2⟩
theorem hs2_0 {e : Nat} {M M' : Mem} {v : Option Value} {c : Int32} (hS : SQ M) (H : Ev none e 71 0 [some (.ref 104), some (.int 2), some (.int c)] [] M v M' 0 0) : ((rI M (fR M 104 7 + 4) c) < (zI M (fR M 104 2) 10) ∧ (0 ≤ c.toInt ∧ c.toInt < 256) ∧ v = some (.int 0) ∧ M' = M) ∨ (¬ ((rI M (fR M 104 7 + 4) c) < (zI M (fR M 104 2) 10)) ∧ (rI M (fR M 104 7 + 5) c) < (zI M (fR M 104 2) 11) ∧ (0 ≤ c.toInt ∧ c.toInt < 256) ∧ (0 ≤ c.toInt ∧ c.toInt < 256) ∧ v = some (.int 0) ∧ M' = M) ∨ (¬ ((rI M (fR M 104 7 + 4) c) < (zI M (fR M 104 2) 10)) ∧ ¬ ((rI M (fR M 104 7 + 5) c) < (zI M (fR M 104 2) 11)) ∧ (0 ≤ c.toInt ∧ c.toInt < 256) ∧ (0 ≤ c.toInt ∧ c.toInt < 256) ∧ v = some (.int 1) ∧ M' = M) := by
  have H : Ev none e 71 65 [some (.ref 104), some (.int 2), some (.int c)] [.ref 104] M v M' 0 0 := Ev.back 3 (fun n => rfl) H
  have H : Ev none e 71 68 [some (.ref 104), some (.int 2), some (.int c)] [.ref (fR M 104 7)] M v M' 0 0 := Ev.back 1 (gs_3 rfl rfl (gf_r hS.1 qa_104 qr_22_7 rfl)) H
  have H : Ev none e 71 71 [some (.ref 104), some (.int 2), some (.int c)] [.ref (fR M 104 7 + 4)] M v M' 0 0 := Ev.back 1 (gs_3 rfl rfl (gf_x hS.1 (hS.1.fr qa_104 qr_22_7).2 qo_8 (fx_l5 hS (hS.1.fr qa_104 qr_22_7).2) rfl)) H
  have H : Ev none e 71 72 [some (.ref 104), some (.int 2), some (.int c)] [.int c, .ref (fR M 104 7 + 4)] M v M' 0 0 := Ev.back 1 (fun n => rfl) H
  obtain ⟨b1, H⟩ := Ev.ial rfl rfl hS.1 (fx_h5 (hS.1.fr qa_104 qr_22_7).2) qw_12 H
  have H : Ev none e 71 73 [some (.ref 104), some (.int 2), some (.int c)] [.int (rI M (fR M 104 7 + 4) c)] M v M' 0 0 := H
  have H : Ev none e 71 74 [some (.ref 104), some (.int 2), some (.int c)] [.ref 104, .int (rI M (fR M 104 7 + 4) c)] M v M' 0 0 := Ev.back 1 (fun n => rfl) H
  have H : Ev none e 71 77 [some (.ref 104), some (.int 2), some (.int c)] [.ref (fR M 104 2), .int (rI M (fR M 104 7 + 4) c)] M v M' 0 0 := Ev.back 1 (gs_3 rfl rfl (gf_r hS.1 qa_104 qr_22_2 rfl)) H
  have H : Ev none e 71 80 [some (.ref 104), some (.int 2), some (.int c)] [.int (zI M (fR M 104 2) 10), .int (rI M (fR M 104 7 + 4) c)] M v M' 0 0 := Ev.back 1 (gs_3 rfl rfl (gf_i hS.1 (hS.1.fr qa_104 qr_22_2).2 qi_28_10 rfl)) H
  have H : Ev none e 71 (if (rI M (fR M 104 7 + 4) c) < (zI M (fR M 104 2) 10) then 106 else 83) [some (.ref 104), some (.int 2), some (.int c)] [] M v M' 0 0 := Ev.back 1 (fun n => rfl) H
  by_cases h2 : (rI M (fR M 104 7 + 4) c) < (zI M (fR M 104 2) 10)
  · rw [if_pos h2] at H
    have H : Ev none e 71 107 [some (.ref 104), some (.int 2), some (.int c)] [.int 0] M v M' 0 0 := Ev.back 1 (fun n => rfl) H
    obtain ⟨z1, z2⟩ := Ev.retz rfl rfl H
    exact Or.inl ⟨h2, b1, z1, z2⟩
  · rw [if_neg h2] at H
    have H : Ev none e 71 84 [some (.ref 104), some (.int 2), some (.int c)] [.ref 104] M v M' 0 0 := Ev.back 1 (fun n => rfl) H
    have H : Ev none e 71 87 [some (.ref 104), some (.int 2), some (.int c)] [.ref (fR M 104 7)] M v M' 0 0 := Ev.back 1 (gs_3 rfl rfl (gf_r hS.1 qa_104 qr_22_7 rfl)) H
    have H : Ev none e 71 90 [some (.ref 104), some (.int 2), some (.int c)] [.ref (fR M 104 7 + 5)] M v M' 0 0 := Ev.back 1 (gs_3 rfl rfl (gf_x hS.1 (hS.1.fr qa_104 qr_22_7).2 qo_8 (fx_l6 hS (hS.1.fr qa_104 qr_22_7).2) rfl)) H
    have H : Ev none e 71 91 [some (.ref 104), some (.int 2), some (.int c)] [.int c, .ref (fR M 104 7 + 5)] M v M' 0 0 := Ev.back 1 (fun n => rfl) H
    obtain ⟨b3, H⟩ := Ev.ial rfl rfl hS.1 (fx_h6 (hS.1.fr qa_104 qr_22_7).2) qw_13 H
    have H : Ev none e 71 92 [some (.ref 104), some (.int 2), some (.int c)] [.int (rI M (fR M 104 7 + 5) c)] M v M' 0 0 := H
    have H : Ev none e 71 93 [some (.ref 104), some (.int 2), some (.int c)] [.ref 104, .int (rI M (fR M 104 7 + 5) c)] M v M' 0 0 := Ev.back 1 (fun n => rfl) H
    have H : Ev none e 71 96 [some (.ref 104), some (.int 2), some (.int c)] [.ref (fR M 104 2), .int (rI M (fR M 104 7 + 5) c)] M v M' 0 0 := Ev.back 1 (gs_3 rfl rfl (gf_r hS.1 qa_104 qr_22_2 rfl)) H
    have H : Ev none e 71 99 [some (.ref 104), some (.int 2), some (.int c)] [.int (zI M (fR M 104 2) 11), .int (rI M (fR M 104 7 + 5) c)] M v M' 0 0 := Ev.back 1 (gs_3 rfl rfl (gf_i hS.1 (hS.1.fr qa_104 qr_22_2).2 qi_28_11 rfl)) H
    have H : Ev none e 71 (if (rI M (fR M 104 7 + 5) c) < (zI M (fR M 104 2) 11) then 106 else 102) [some (.ref 104), some (.int 2), some (.int c)] [] M v M' 0 0 := Ev.back 1 (fun n => rfl) H
    by_cases h4 : (rI M (fR M 104 7 + 5) c) < (zI M (fR M 104 2) 11)
    · rw [if_pos h4] at H
      have H : Ev none e 71 107 [some (.ref 104), some (.int 2), some (.int c)] [.int 0] M v M' 0 0 := Ev.back 1 (fun n => rfl) H
      obtain ⟨z1, z2⟩ := Ev.retz rfl rfl H
      exact Or.inr (Or.inl ⟨h2, h4, b1, b3, z1, z2⟩)
    · rw [if_neg h4] at H
      have H : Ev none e 71 107 [some (.ref 104), some (.int 2), some (.int c)] [.int 1] M v M' 0 0 := Ev.back 2 (fun n => rfl) H
      obtain ⟨z1, z2⟩ := Ev.retz rfl rfl H
      exact Or.inr (Or.inr (⟨h2, h4, b1, b3, z1, z2⟩))
theorem hs3_0 {e : Nat} {M M' : Mem} {v : Option Value} {c : Int32} (hS : SQ M) (H : Ev none e 71 0 [some (.ref 104), some (.int 3), some (.int c)] [] M v M' 0 0) : ((rI M (fR M 104 7 + 4) c) < (zI M (fR M 104 2) 10) ∧ (0 ≤ c.toInt ∧ c.toInt < 256) ∧ v = some (.int 0) ∧ M' = M) ∨ (¬ ((rI M (fR M 104 7 + 4) c) < (zI M (fR M 104 2) 10)) ∧ (0 ≤ c.toInt ∧ c.toInt < 256) ∧ v = some (.int 1) ∧ M' = M) := by
  have H : Ev none e 71 109 [some (.ref 104), some (.int 3), some (.int c)] [.ref 104] M v M' 0 0 := Ev.back 3 (fun n => rfl) H
  have H : Ev none e 71 112 [some (.ref 104), some (.int 3), some (.int c)] [.ref (fR M 104 7)] M v M' 0 0 := Ev.back 1 (gs_3 rfl rfl (gf_r hS.1 qa_104 qr_22_7 rfl)) H
  have H : Ev none e 71 115 [some (.ref 104), some (.int 3), some (.int c)] [.ref (fR M 104 7 + 4)] M v M' 0 0 := Ev.back 1 (gs_3 rfl rfl (gf_x hS.1 (hS.1.fr qa_104 qr_22_7).2 qo_8 (fx_l5 hS (hS.1.fr qa_104 qr_22_7).2) rfl)) H
  have H : Ev none e 71 116 [some (.ref 104), some (.int 3), some (.int c)] [.int c, .ref (fR M 104 7 + 4)] M v M' 0 0 := Ev.back 1 (fun n => rfl) H
  obtain ⟨b1, H⟩ := Ev.ial rfl rfl hS.1 (fx_h5 (hS.1.fr qa_104 qr_22_7).2) qw_12 H
  have H : Ev none e 71 117 [some (.ref 104), some (.int 3), some (.int c)] [.int (rI M (fR M 104 7 + 4) c)] M v M' 0 0 := H
  have H : Ev none e 71 118 [some (.ref 104), some (.int 3), some (.int c)] [.ref 104, .int (rI M (fR M 104 7 + 4) c)] M v M' 0 0 := Ev.back 1 (fun n => rfl) H
  have H : Ev none e 71 121 [some (.ref 104), some (.int 3), some (.int c)] [.ref (fR M 104 2), .int (rI M (fR M 104 7 + 4) c)] M v M' 0 0 := Ev.back 1 (gs_3 rfl rfl (gf_r hS.1 qa_104 qr_22_2 rfl)) H
  have H : Ev none e 71 124 [some (.ref 104), some (.int 3), some (.int c)] [.int (zI M (fR M 104 2) 10), .int (rI M (fR M 104 7 + 4) c)] M v M' 0 0 := Ev.back 1 (gs_3 rfl rfl (gf_i hS.1 (hS.1.fr qa_104 qr_22_2).2 qi_28_10 rfl)) H
  have H : Ev none e 71 (if (rI M (fR M 104 7 + 4) c) < (zI M (fR M 104 2) 10) then 131 else 127) [some (.ref 104), some (.int 3), some (.int c)] [] M v M' 0 0 := Ev.back 1 (fun n => rfl) H
  by_cases h2 : (rI M (fR M 104 7 + 4) c) < (zI M (fR M 104 2) 10)
  · rw [if_pos h2] at H
    have H : Ev none e 71 132 [some (.ref 104), some (.int 3), some (.int c)] [.int 0] M v M' 0 0 := Ev.back 1 (fun n => rfl) H
    obtain ⟨z1, z2⟩ := Ev.retz rfl rfl H
    exact Or.inl ⟨h2, b1, z1, z2⟩
  · rw [if_neg h2] at H
    have H : Ev none e 71 132 [some (.ref 104), some (.int 3), some (.int c)] [.int 1] M v M' 0 0 := Ev.back 2 (fun n => rfl) H
    obtain ⟨z1, z2⟩ := Ev.retz rfl rfl H
    exact Or.inr (⟨h2, b1, z1, z2⟩)
theorem hs4_0 {e : Nat} {M M' : Mem} {v : Option Value} {c : Int32} (hS : SQ M) (H : Ev none e 71 0 [some (.ref 104), some (.int 4), some (.int c)] [] M v M' 0 0) : (0 ≤ c.toInt ∧ c.toInt < 256) ∧ v = some (.int (rI M (fR M 104 7 + 4) c)) ∧ M' = M := by
  have H : Ev none e 71 134 [some (.ref 104), some (.int 4), some (.int c)] [.ref 104] M v M' 0 0 := Ev.back 3 (fun n => rfl) H
  have H : Ev none e 71 137 [some (.ref 104), some (.int 4), some (.int c)] [.ref (fR M 104 7)] M v M' 0 0 := Ev.back 1 (gs_3 rfl rfl (gf_r hS.1 qa_104 qr_22_7 rfl)) H
  have H : Ev none e 71 140 [some (.ref 104), some (.int 4), some (.int c)] [.ref (fR M 104 7 + 4)] M v M' 0 0 := Ev.back 1 (gs_3 rfl rfl (gf_x hS.1 (hS.1.fr qa_104 qr_22_7).2 qo_8 (fx_l5 hS (hS.1.fr qa_104 qr_22_7).2) rfl)) H
  have H : Ev none e 71 141 [some (.ref 104), some (.int 4), some (.int c)] [.int c, .ref (fR M 104 7 + 4)] M v M' 0 0 := Ev.back 1 (fun n => rfl) H
  obtain ⟨b1, H⟩ := Ev.ial rfl rfl hS.1 (fx_h5 (hS.1.fr qa_104 qr_22_7).2) qw_12 H
  have H : Ev none e 71 142 [some (.ref 104), some (.int 4), some (.int c)] [.int (rI M (fR M 104 7 + 4) c)] M v M' 0 0 := H
  obtain ⟨z1, z2⟩ := Ev.retz rfl rfl H
  exact ⟨b1, z1, z2⟩
theorem hs5_0 {e : Nat} {M M' : Mem} {v : Option Value} {c : Int32} (hS : SQ M) (H : Ev none e 71 0 [some (.ref 104), some (.int 5), some (.int c)] [] M v M' 0 0) : (0 ≤ c.toInt ∧ c.toInt < 256) ∧ v = some (.int (rI M (fR M 104 7 + 5) c)) ∧ M' = M := by
  have H : Ev none e 71 144 [some (.ref 104), some (.int 5), some (.int c)] [.ref 104] M v M' 0 0 := Ev.back 3 (fun n => rfl) H
  have H : Ev none e 71 147 [some (.ref 104), some (.int 5), some (.int c)] [.ref (fR M 104 7)] M v M' 0 0 := Ev.back 1 (gs_3 rfl rfl (gf_r hS.1 qa_104 qr_22_7 rfl)) H
  have H : Ev none e 71 150 [some (.ref 104), some (.int 5), some (.int c)] [.ref (fR M 104 7 + 5)] M v M' 0 0 := Ev.back 1 (gs_3 rfl rfl (gf_x hS.1 (hS.1.fr qa_104 qr_22_7).2 qo_8 (fx_l6 hS (hS.1.fr qa_104 qr_22_7).2) rfl)) H
  have H : Ev none e 71 151 [some (.ref 104), some (.int 5), some (.int c)] [.int c, .ref (fR M 104 7 + 5)] M v M' 0 0 := Ev.back 1 (fun n => rfl) H
  obtain ⟨b1, H⟩ := Ev.ial rfl rfl hS.1 (fx_h6 (hS.1.fr qa_104 qr_22_7).2) qw_13 H
  have H : Ev none e 71 152 [some (.ref 104), some (.int 5), some (.int c)] [.int (rI M (fR M 104 7 + 5) c)] M v M' 0 0 := H
  obtain ⟨z1, z2⟩ := Ev.retz rfl rfl H
  exact ⟨b1, z1, z2⟩
theorem hs6_0 {e : Nat} {M M' : Mem} {v : Option Value} {c : Int32} (hS : SQ M) (H : Ev none e 71 0 [some (.ref 104), some (.int 6), some (.int c)] [] M v M' 0 0) : (0 ≤ c.toInt ∧ c.toInt < 256) ∧ v = some (.int (rI M (fR M 104 7 + 3) c)) ∧ M' = M := by
  have H : Ev none e 71 154 [some (.ref 104), some (.int 6), some (.int c)] [.ref 104] M v M' 0 0 := Ev.back 3 (fun n => rfl) H
  have H : Ev none e 71 157 [some (.ref 104), some (.int 6), some (.int c)] [.ref (fR M 104 7)] M v M' 0 0 := Ev.back 1 (gs_3 rfl rfl (gf_r hS.1 qa_104 qr_22_7 rfl)) H
  have H : Ev none e 71 160 [some (.ref 104), some (.int 6), some (.int c)] [.ref (fR M 104 7 + 3)] M v M' 0 0 := Ev.back 1 (gs_3 rfl rfl (gf_x hS.1 (hS.1.fr qa_104 qr_22_7).2 qo_8 (fx_l4 hS (hS.1.fr qa_104 qr_22_7).2) rfl)) H
  have H : Ev none e 71 161 [some (.ref 104), some (.int 6), some (.int c)] [.int c, .ref (fR M 104 7 + 3)] M v M' 0 0 := Ev.back 1 (fun n => rfl) H
  obtain ⟨b1, H⟩ := Ev.ial rfl rfl hS.1 (fx_h4 (hS.1.fr qa_104 qr_22_7).2) qw_11 H
  have H : Ev none e 71 162 [some (.ref 104), some (.int 6), some (.int c)] [.int (rI M (fR M 104 7 + 3) c)] M v M' 0 0 := H
  obtain ⟨z1, z2⟩ := Ev.retz rfl rfl H
  exact ⟨b1, z1, z2⟩
theorem hs7_0 {e : Nat} {M M' : Mem} {v : Option Value} {c : Int32} (hS : SQ M) (H : Ev none e 71 0 [some (.ref 104), some (.int 7), some (.int c)] [] M v M' 0 0) : (0 ≤ c.toInt ∧ c.toInt < 256) ∧ v = some (.int (rI M (fR M 104 7 + 6) c)) ∧ M' = M := by
  have H : Ev none e 71 164 [some (.ref 104), some (.int 7), some (.int c)] [.ref 104] M v M' 0 0 := Ev.back 3 (fun n => rfl) H
  have H : Ev none e 71 167 [some (.ref 104), some (.int 7), some (.int c)] [.ref (fR M 104 7)] M v M' 0 0 := Ev.back 1 (gs_3 rfl rfl (gf_r hS.1 qa_104 qr_22_7 rfl)) H
  have H : Ev none e 71 170 [some (.ref 104), some (.int 7), some (.int c)] [.ref (fR M 104 7 + 6)] M v M' 0 0 := Ev.back 1 (gs_3 rfl rfl (gf_x hS.1 (hS.1.fr qa_104 qr_22_7).2 qo_8 (fx_l7 hS (hS.1.fr qa_104 qr_22_7).2) rfl)) H
  have H : Ev none e 71 171 [some (.ref 104), some (.int 7), some (.int c)] [.int c, .ref (fR M 104 7 + 6)] M v M' 0 0 := Ev.back 1 (fun n => rfl) H
  obtain ⟨b1, H⟩ := Ev.ial rfl rfl hS.1 (fx_h7 (hS.1.fr qa_104 qr_22_7).2) qw_14 H
  have H : Ev none e 71 172 [some (.ref 104), some (.int 7), some (.int c)] [.int (rI M (fR M 104 7 + 6) c)] M v M' 0 0 := H
  obtain ⟨z1, z2⟩ := Ev.retz rfl rfl H
  exact ⟨b1, z1, z2⟩
theorem hw_0 {e : Nat} {M M' : Mem} {v : Option Value} {i c : Int32} {t : Nat} (hS : SQ M) (a_t : gNth sT t = some 28) (H : Ev none e 70 0 [some (.ref 104), some (.ref t), some (.int i), some (.int c), none, none, none, none, none] [] M v M' 0 0) : ((rI M (t + 4) i) = (rI M (t + 5) i) ∧ (0 ≤ i.toInt ∧ i.toInt < 16) ∧ (0 ≤ i.toInt ∧ i.toInt < 16) ∧ v = some (.int 1) ∧ M' = M) ∨ (¬ ((rI M (t + 4) i) = (rI M (t + 5) i)) ∧ (0 ≤ i.toInt ∧ i.toInt < 16) ∧ (0 ≤ i.toInt ∧ i.toInt < 16) ∧ (0 ≤ i.toInt ∧ i.toInt < 16) ∧ Ev none e 70 28 [some (.ref 104), some (.ref t), some (.int i), some (.int c), some (.int 0), some (.int (rI M (t + 4) i)), none, none, none] [] M v M' 0 0) := by
  have H : Ev none e 70 1 [some (.ref 104), some (.ref t), some (.int i), some (.int c), none, none, none, none, none] [.ref t] M v M' 0 0 := Ev.back 1 (fun n => rfl) H
  have H : Ev none e 70 4 [some (.ref 104), some (.ref t), some (.int i), some (.int c), none, none, none, none, none] [.ref (t + 4)] M v M' 0 0 := Ev.back 1 (gs_3 rfl rfl (gf_x hS.1 a_t qo_28 (fx_t3 hS a_t) rfl)) H
  have H : Ev none e 70 5 [some (.ref 104), some (.ref t), some (.int i), some (.int c), none, none, none, none, none] [.int i, .ref (t + 4)] M v M' 0 0 := Ev.back 1 (fun n => rfl) H
  obtain ⟨b1, H⟩ := Ev.ial rfl rfl hS.1 (fx_g3 a_t) qw_32 H
  have H : Ev none e 70 6 [some (.ref 104), some (.ref t), some (.int i), some (.int c), none, none, none, none, none] [.int (rI M (t + 4) i)] M v M' 0 0 := H
  have H : Ev none e 70 7 [some (.ref 104), some (.ref t), some (.int i), some (.int c), none, none, none, none, none] [.ref t, .int (rI M (t + 4) i)] M v M' 0 0 := Ev.back 1 (fun n => rfl) H
  have H : Ev none e 70 10 [some (.ref 104), some (.ref t), some (.int i), some (.int c), none, none, none, none, none] [.ref (t + 5), .int (rI M (t + 4) i)] M v M' 0 0 := Ev.back 1 (gs_3 rfl rfl (gf_x hS.1 a_t qo_28 (fx_t4 hS a_t) rfl)) H
  have H : Ev none e 70 11 [some (.ref 104), some (.ref t), some (.int i), some (.int c), none, none, none, none, none] [.int i, .ref (t + 5), .int (rI M (t + 4) i)] M v M' 0 0 := Ev.back 1 (fun n => rfl) H
  obtain ⟨b2, H⟩ := Ev.ial rfl rfl hS.1 (fx_g4 a_t) qw_33 H
  have H : Ev none e 70 12 [some (.ref 104), some (.ref t), some (.int i), some (.int c), none, none, none, none, none] [.int (rI M (t + 5) i), .int (rI M (t + 4) i)] M v M' 0 0 := H
  have H : Ev none e 70 (if (rI M (t + 4) i) = (rI M (t + 5) i) then 15 else 17) [some (.ref 104), some (.ref t), some (.int i), some (.int c), none, none, none, none, none] [] M v M' 0 0 := Ev.back 1 (fun n => rfl) H
  by_cases h3 : (rI M (t + 4) i) = (rI M (t + 5) i)
  · rw [if_pos h3] at H
    have H : Ev none e 70 16 [some (.ref 104), some (.ref t), some (.int i), some (.int c), none, none, none, none, none] [.int 1] M v M' 0 0 := Ev.back 1 (fun n => rfl) H
    obtain ⟨z1, z2⟩ := Ev.retz rfl rfl H
    exact Or.inl ⟨h3, b1, b2, z1, z2⟩
  · rw [if_neg h3] at H
    have H : Ev none e 70 21 [some (.ref 104), some (.ref t), some (.int i), some (.int c), some (.int 0), none, none, none, none] [.ref t] M v M' 0 0 := Ev.back 3 (fun n => rfl) H
    have H : Ev none e 70 24 [some (.ref 104), some (.ref t), some (.int i), some (.int c), some (.int 0), none, none, none, none] [.ref (t + 4)] M v M' 0 0 := Ev.back 1 (gs_3 rfl rfl (gf_x hS.1 a_t qo_28 (fx_t3 hS a_t) rfl)) H
    have H : Ev none e 70 25 [some (.ref 104), some (.ref t), some (.int i), some (.int c), some (.int 0), none, none, none, none] [.int i, .ref (t + 4)] M v M' 0 0 := Ev.back 1 (fun n => rfl) H
    obtain ⟨b4, H⟩ := Ev.ial rfl rfl hS.1 (fx_g3 a_t) qw_32 H
    have H : Ev none e 70 26 [some (.ref 104), some (.ref t), some (.int i), some (.int c), some (.int 0), none, none, none, none] [.int (rI M (t + 4) i)] M v M' 0 0 := H
    have H : Ev none e 70 28 [some (.ref 104), some (.ref t), some (.int i), some (.int c), some (.int 0), some (.int (rI M (t + 4) i)), none, none, none] [] M v M' 0 0 := Ev.back 1 (fun n => rfl) H
    have HF := H
    exact Or.inr (⟨h3, b1, b2, b4, HF⟩)
theorem hw_28 {e : Nat} {M M' : Mem} {v : Option Value} {i c sk n : Int32} {t : Nat} {c6 c7 c8 : Option Value} (hS : SQ M) (a_t : gNth sT t = some 28) (H : Ev none e 70 28 [some (.ref 104), some (.ref t), some (.int i), some (.int c), some (.int sk), some (.int n), c6, c7, c8] [] M v M' 0 0) : ((rI M (t + 5) i) ≤ n ∧ (0 ≤ i.toInt ∧ i.toInt < 16) ∧ Ev none e 70 169 [some (.ref 104), some (.ref t), some (.int i), some (.int c), some (.int sk), some (.int n), c6, c7, c8] [] M v M' 0 0) ∨ (¬ ((rI M (t + 5) i) ≤ n) ∧ 96 ≤ n ∧ (0 ≤ i.toInt ∧ i.toInt < 16) ∧ Ev none e 70 169 [some (.ref 104), some (.ref t), some (.int i), some (.int c), some (.int sk), some (.int n), c6, c7, c8] [] M v M' 0 0) ∨ (¬ ((rI M (t + 5) i) ≤ n) ∧ ¬ (96 ≤ n) ∧ (rI M (t + 6) n) = 8 ∧ (0 ≤ i.toInt ∧ i.toInt < 16) ∧ (0 ≤ n.toInt ∧ n.toInt < 96) ∧ Ev none e 70 28 [some (.ref 104), some (.ref t), some (.int i), some (.int c), some (.int (sk ^^^ 1)), some (.int (n + 1)), some (.int (rI M (t + 6) n)), some (.int (sk &&& 1)), c8] [] M v M' 0 0) ∨ (¬ ((rI M (t + 5) i) ≤ n) ∧ ¬ (96 ≤ n) ∧ ¬ ((rI M (t + 6) n) = 8) ∧ (rI M (t + 6) n) = 10 ∧ (0 ≤ i.toInt ∧ i.toInt < 16) ∧ (0 ≤ n.toInt ∧ n.toInt < 96) ∧ Ev none e 70 28 [some (.ref 104), some (.ref t), some (.int i), some (.int c), some (.int (((sk.toUInt32 >>> ((1 : Int32).toUInt32 &&& Int32.toUInt32 31)).toInt32) ||| (sk &&& 1))), some (.int (n + 1)), some (.int (rI M (t + 6) n)), some (.int (sk &&& 1)), c8] [] M v M' 0 0) ∨ (¬ ((rI M (t + 5) i) ≤ n) ∧ ¬ (96 ≤ n) ∧ ¬ ((rI M (t + 6) n) = 8) ∧ ¬ ((rI M (t + 6) n) = 10) ∧ (rI M (t + 6) n) = 9 ∧ (0 ≤ i.toInt ∧ i.toInt < 16) ∧ (0 ≤ n.toInt ∧ n.toInt < 96) ∧ Ev none e 70 28 [some (.ref 104), some (.ref t), some (.int i), some (.int c), some (.int (((sk.toUInt32 >>> ((1 : Int32).toUInt32 &&& Int32.toUInt32 31)).toInt32) &&& ((-2) ||| (sk &&& 1)))), some (.int (n + 1)), some (.int (rI M (t + 6) n)), some (.int (sk &&& 1)), c8] [] M v M' 0 0) ∨ (¬ ((rI M (t + 5) i) ≤ n) ∧ ¬ (96 ≤ n) ∧ ¬ ((rI M (t + 6) n) = 8) ∧ ¬ ((rI M (t + 6) n) = 10) ∧ ¬ ((rI M (t + 6) n) = 9) ∧ (0 ≤ i.toInt ∧ i.toInt < 16) ∧ (0 ≤ n.toInt ∧ n.toInt < 96) ∧ (∃ e1 v1 M1, e = e1 + 1 ∧ Ev none e1 71 0 [some (.ref 104), some (.int (rI M (t + 6) n)), some (.int c)] [] M v1 M1 0 0 ∧ Ev none e 70 125 [some (.ref 104), some (.ref t), some (.int i), some (.int c), some (.int sk), some (.int n), some (.int (rI M (t + 6) n)), some (.int (sk &&& 1)), c8] (v1.toList ++ []) M1 v M' 0 0)) := by
  have H : Ev none e 70 31 [some (.ref 104), some (.ref t), some (.int i), some (.int c), some (.int sk), some (.int n), c6, c7, c8] [.ref t, .int n] M v M' 0 0 := Ev.back 2 (fun n => rfl) H
  have H : Ev none e 70 34 [some (.ref 104), some (.ref t), some (.int i), some (.int c), some (.int sk), some (.int n), c6, c7, c8] [.ref (t + 5), .int n] M v M' 0 0 := Ev.back 1 (gs_3 rfl rfl (gf_x hS.1 a_t qo_28 (fx_t4 hS a_t) rfl)) H
  have H : Ev none e 70 35 [some (.ref 104), some (.ref t), some (.int i), some (.int c), some (.int sk), some (.int n), c6, c7, c8] [.int i, .ref (t + 5), .int n] M v M' 0 0 := Ev.back 1 (fun n => rfl) H
  obtain ⟨b1, H⟩ := Ev.ial rfl rfl hS.1 (fx_g4 a_t) qw_33 H
  have H : Ev none e 70 36 [some (.ref 104), some (.ref t), some (.int i), some (.int c), some (.int sk), some (.int n), c6, c7, c8] [.int (rI M (t + 5) i), .int n] M v M' 0 0 := H
  have H : Ev none e 70 (if (rI M (t + 5) i) ≤ n then 169 else 39) [some (.ref 104), some (.ref t), some (.int i), some (.int c), some (.int sk), some (.int n), c6, c7, c8] [] M v M' 0 0 := Ev.back 1 (fun n => rfl) H
  by_cases h2 : (rI M (t + 5) i) ≤ n
  · rw [if_pos h2] at H
    have HF := H
    exact Or.inl ⟨h2, b1, HF⟩
  · rw [if_neg h2] at H
    have H : Ev none e 70 (if 96 ≤ n then 169 else 46) [some (.ref 104), some (.ref t), some (.int i), some (.int c), some (.int sk), some (.int n), c6, c7, c8] [] M v M' 0 0 := Ev.back 3 (fun n => rfl) H
    by_cases h3 : 96 ≤ n
    · rw [if_pos h3] at H
      have HF := H
      exact Or.inr (Or.inl ⟨h2, h3, b1, HF⟩)
    · rw [if_neg h3] at H
      have H : Ev none e 70 47 [some (.ref 104), some (.ref t), some (.int i), some (.int c), some (.int sk), some (.int n), c6, c7, c8] [.ref t] M v M' 0 0 := Ev.back 1 (fun n => rfl) H
      have H : Ev none e 70 50 [some (.ref 104), some (.ref t), some (.int i), some (.int c), some (.int sk), some (.int n), c6, c7, c8] [.ref (t + 6)] M v M' 0 0 := Ev.back 1 (gs_3 rfl rfl (gf_x hS.1 a_t qo_28 (fx_t5 hS a_t) rfl)) H
      have H : Ev none e 70 52 [some (.ref 104), some (.ref t), some (.int i), some (.int c), some (.int sk), some (.int n), c6, c7, c8] [.int n, .ref (t + 6)] M v M' 0 0 := Ev.back 1 (fun n => rfl) H
      obtain ⟨b4, H⟩ := Ev.ial rfl rfl hS.1 (fx_g5 a_t) qw_34 H
      have H : Ev none e 70 53 [some (.ref 104), some (.ref t), some (.int i), some (.int c), some (.int sk), some (.int n), c6, c7, c8] [.int (rI M (t + 6) n)] M v M' 0 0 := H
      have H : Ev none e 70 (if (rI M (t + 6) n) = 8 then 68 else 77) [some (.ref 104), some (.ref t), some (.int i), some (.int c), some (.int sk), some (.int n), some (.int (rI M (t + 6) n)), some (.int (sk &&& 1)), c8] [] M v M' 0 0 := Ev.back 8 (fun n => rfl) H
      by_cases h5 : (rI M (t + 6) n) = 8
      · rw [if_pos h5] at H
        have H : Ev none e 70 28 [some (.ref 104), some (.ref t), some (.int i), some (.int c), some (.int (sk ^^^ 1)), some (.int (n + 1)), some (.int (rI M (t + 6) n)), some (.int (sk &&& 1)), c8] [] M v M' 0 0 := Ev.back 7 (fun n => rfl) H
        have HF := H
        exact Or.inr (Or.inr (Or.inl ⟨h2, h3, h5, b1, b4, HF⟩))
      · rw [if_neg h5] at H
        have H : Ev none e 70 (if (rI M (t + 6) n) = 10 then 84 else 96) [some (.ref 104), some (.ref t), some (.int i), some (.int c), some (.int sk), some (.int n), some (.int (rI M (t + 6) n)), some (.int (sk &&& 1)), c8] [] M v M' 0 0 := Ev.back 3 (fun n => rfl) H
        by_cases h6 : (rI M (t + 6) n) = 10
        · rw [if_pos h6] at H
          have H : Ev none e 70 28 [some (.ref 104), some (.ref t), some (.int i), some (.int c), some (.int (((sk.toUInt32 >>> ((1 : Int32).toUInt32 &&& Int32.toUInt32 31)).toInt32) ||| (sk &&& 1))), some (.int (n + 1)), some (.int (rI M (t + 6) n)), some (.int (sk &&& 1)), c8] [] M v M' 0 0 := Ev.back 9 (fun n => rfl) H
          have HF := H
          exact Or.inr (Or.inr (Or.inr (Or.inl ⟨h2, h3, h5, h6, b1, b4, HF⟩)))
        · rw [if_neg h6] at H
          have H : Ev none e 70 (if (rI M (t + 6) n) = 9 then 103 else 118) [some (.ref 104), some (.ref t), some (.int i), some (.int c), some (.int sk), some (.int n), some (.int (rI M (t + 6) n)), some (.int (sk &&& 1)), c8] [] M v M' 0 0 := Ev.back 3 (fun n => rfl) H
          by_cases h7 : (rI M (t + 6) n) = 9
          · rw [if_pos h7] at H
            have H : Ev none e 70 28 [some (.ref 104), some (.ref t), some (.int i), some (.int c), some (.int (((sk.toUInt32 >>> ((1 : Int32).toUInt32 &&& Int32.toUInt32 31)).toInt32) &&& ((-2) ||| (sk &&& 1)))), some (.int (n + 1)), some (.int (rI M (t + 6) n)), some (.int (sk &&& 1)), c8] [] M v M' 0 0 := Ev.back 11 (fun n => rfl) H
            have HF := H
            exact Or.inr (Or.inr (Or.inr (Or.inr (Or.inl ⟨h2, h3, h5, h6, h7, b1, b4, HF⟩))))
          · rw [if_neg h7] at H
            have H : Ev none e 70 122 [some (.ref 104), some (.ref t), some (.int i), some (.int c), some (.int sk), some (.int n), some (.int (rI M (t + 6) n)), some (.int (sk &&& 1)), c8] [.int c, .int (rI M (t + 6) n), .ref 104] M v M' 0 0 := Ev.back 3 (fun n => rfl) H
            obtain ⟨e1, rfl⟩ := Ev.dpos rfl rfl H
            obtain ⟨vK8, MK8, K8, H⟩ := Ev.callb (fun n_ => gs_7 rfl rfl (show gCal (.invokevirtual 270) 7 (.int c :: .int (rI M (t + 6) n) :: .ref 104 :: []) M = some (.inr (71, [some (.ref 104), some (.int (rI M (t + 6) n)), some (.int c)], [])) from by show @cond (Option ((List Value × Mem) ⊕ (Nat × Lo × List Value))) (true && gRecv M (.ref 104) 7 && gRoom [] && true) (some (.inr (71, [some (.ref 104), some (.int (rI M (t + 6) n)), some (.int c)], []))) none = _; rw [recv_s hS.1 qa_104 qo_22]; rfl)) H
            have K8 : Ev none e1 71 0 [some (.ref 104), some (.int (rI M (t + 6) n)), some (.int c)] [] M vK8 MK8 0 0 := K8
            have HF := H
            exact Or.inr (Or.inr (Or.inr (Or.inr (Or.inr (⟨h2, h3, h5, h6, h7, b1, b4, ⟨e1, vK8, MK8, rfl, K8, HF⟩⟩)))))
theorem hw_125 {e : Nat} {M M' : Mem} {v : Option Value} {i c sk n ak tp y : Int32} {t : Nat} {c8 : Option Value} (hS : SQ M) (a_t : gNth sT t = some 28) (H : Ev none e 70 125 [some (.ref 104), some (.ref t), some (.int i), some (.int c), some (.int sk), some (.int n), some (.int ak), some (.int tp), c8] [.int y] M v M' 0 0) : (y < (rI M (t + 7) n) ∧ (0 ≤ n.toInt ∧ n.toInt < 96) ∧ Ev none e 70 28 [some (.ref 104), some (.ref t), some (.int i), some (.int c), some (.int ((sk <<< ((1 : Int32) &&& 31)) ||| 0)), some (.int (n + 1)), some (.int ak), some (.int tp), some (.int y)] [] M v M' 0 0) ∨ (¬ (y < (rI M (t + 7) n)) ∧ (rI M (t + 8) n) < y ∧ (0 ≤ n.toInt ∧ n.toInt < 96) ∧ (0 ≤ n.toInt ∧ n.toInt < 96) ∧ Ev none e 70 28 [some (.ref 104), some (.ref t), some (.int i), some (.int c), some (.int ((sk <<< ((1 : Int32) &&& 31)) ||| 0)), some (.int (n + 1)), some (.int ak), some (.int tp), some (.int y)] [] M v M' 0 0) ∨ (¬ (y < (rI M (t + 7) n)) ∧ ¬ ((rI M (t + 8) n) < y) ∧ (0 ≤ n.toInt ∧ n.toInt < 96) ∧ (0 ≤ n.toInt ∧ n.toInt < 96) ∧ Ev none e 70 28 [some (.ref 104), some (.ref t), some (.int i), some (.int c), some (.int ((sk <<< ((1 : Int32) &&& 31)) ||| 1)), some (.int (n + 1)), some (.int ak), some (.int tp), some (.int y)] [] M v M' 0 0) := by
  have H : Ev none e 70 134 [some (.ref 104), some (.ref t), some (.int i), some (.int c), some (.int sk), some (.int n), some (.int ak), some (.int tp), some (.int y)] [.ref t, .int y, .int (sk <<< ((1 : Int32) &&& 31))] M v M' 0 0 := Ev.back 6 (fun n => rfl) H
  have H : Ev none e 70 137 [some (.ref 104), some (.ref t), some (.int i), some (.int c), some (.int sk), some (.int n), some (.int ak), some (.int tp), some (.int y)] [.ref (t + 7), .int y, .int (sk <<< ((1 : Int32) &&& 31))] M v M' 0 0 := Ev.back 1 (gs_3 rfl rfl (gf_x hS.1 a_t qo_28 (fx_t6 hS a_t) rfl)) H
  have H : Ev none e 70 139 [some (.ref 104), some (.ref t), some (.int i), some (.int c), some (.int sk), some (.int n), some (.int ak), some (.int tp), some (.int y)] [.int n, .ref (t + 7), .int y, .int (sk <<< ((1 : Int32) &&& 31))] M v M' 0 0 := Ev.back 1 (fun n => rfl) H
  obtain ⟨b1, H⟩ := Ev.ial rfl rfl hS.1 (fx_g6 a_t) qw_35 H
  have H : Ev none e 70 140 [some (.ref 104), some (.ref t), some (.int i), some (.int c), some (.int sk), some (.int n), some (.int ak), some (.int tp), some (.int y)] [.int (rI M (t + 7) n), .int y, .int (sk <<< ((1 : Int32) &&& 31))] M v M' 0 0 := H
  have H : Ev none e 70 (if y < (rI M (t + 7) n) then 159 else 143) [some (.ref 104), some (.ref t), some (.int i), some (.int c), some (.int sk), some (.int n), some (.int ak), some (.int tp), some (.int y)] [.int (sk <<< ((1 : Int32) &&& 31))] M v M' 0 0 := Ev.back 1 (fun n => rfl) H
  by_cases h2 : y < (rI M (t + 7) n)
  · rw [if_pos h2] at H
    have H : Ev none e 70 28 [some (.ref 104), some (.ref t), some (.int i), some (.int c), some (.int ((sk <<< ((1 : Int32) &&& 31)) ||| 0)), some (.int (n + 1)), some (.int ak), some (.int tp), some (.int y)] [] M v M' 0 0 := Ev.back 5 (fun n => rfl) H
    have HF := H
    exact Or.inl ⟨h2, b1, HF⟩
  · rw [if_neg h2] at H
    have H : Ev none e 70 146 [some (.ref 104), some (.ref t), some (.int i), some (.int c), some (.int sk), some (.int n), some (.int ak), some (.int tp), some (.int y)] [.ref t, .int y, .int (sk <<< ((1 : Int32) &&& 31))] M v M' 0 0 := Ev.back 2 (fun n => rfl) H
    have H : Ev none e 70 149 [some (.ref 104), some (.ref t), some (.int i), some (.int c), some (.int sk), some (.int n), some (.int ak), some (.int tp), some (.int y)] [.ref (t + 8), .int y, .int (sk <<< ((1 : Int32) &&& 31))] M v M' 0 0 := Ev.back 1 (gs_3 rfl rfl (gf_x hS.1 a_t qo_28 (fx_t7 hS a_t) rfl)) H
    have H : Ev none e 70 151 [some (.ref 104), some (.ref t), some (.int i), some (.int c), some (.int sk), some (.int n), some (.int ak), some (.int tp), some (.int y)] [.int n, .ref (t + 8), .int y, .int (sk <<< ((1 : Int32) &&& 31))] M v M' 0 0 := Ev.back 1 (fun n => rfl) H
    obtain ⟨b3, H⟩ := Ev.ial rfl rfl hS.1 (fx_g7 a_t) qw_36 H
    have H : Ev none e 70 152 [some (.ref 104), some (.ref t), some (.int i), some (.int c), some (.int sk), some (.int n), some (.int ak), some (.int tp), some (.int y)] [.int (rI M (t + 8) n), .int y, .int (sk <<< ((1 : Int32) &&& 31))] M v M' 0 0 := H
    have H : Ev none e 70 (if (rI M (t + 8) n) < y then 159 else 155) [some (.ref 104), some (.ref t), some (.int i), some (.int c), some (.int sk), some (.int n), some (.int ak), some (.int tp), some (.int y)] [.int (sk <<< ((1 : Int32) &&& 31))] M v M' 0 0 := Ev.back 1 (fun n => rfl) H
    by_cases h4 : (rI M (t + 8) n) < y
    · rw [if_pos h4] at H
      have H : Ev none e 70 28 [some (.ref 104), some (.ref t), some (.int i), some (.int c), some (.int ((sk <<< ((1 : Int32) &&& 31)) ||| 0)), some (.int (n + 1)), some (.int ak), some (.int tp), some (.int y)] [] M v M' 0 0 := Ev.back 5 (fun n => rfl) H
      have HF := H
      exact Or.inr (Or.inl ⟨h2, h4, b1, b3, HF⟩)
    · rw [if_neg h4] at H
      have H : Ev none e 70 28 [some (.ref 104), some (.ref t), some (.int i), some (.int c), some (.int ((sk <<< ((1 : Int32) &&& 31)) ||| 1)), some (.int (n + 1)), some (.int ak), some (.int tp), some (.int y)] [] M v M' 0 0 := Ev.back 6 (fun n => rfl) H
      have HF := H
      exact Or.inr (Or.inr (⟨h2, h4, b1, b3, HF⟩))
theorem hw_169 {e : Nat} {M M' : Mem} {v : Option Value} {i c sk n : Int32} {t : Nat} {c6 c7 c8 : Option Value} (hS : SQ M) (a_t : gNth sT t = some 28) (H : Ev none e 70 169 [some (.ref 104), some (.ref t), some (.int i), some (.int c), some (.int sk), some (.int n), c6, c7, c8] [] M v M' 0 0) : ((sk &&& 1) = 1 ∧ v = some (.int 1) ∧ M' = M) ∨ (¬ ((sk &&& 1) = 1) ∧ v = some (.int 0) ∧ M' = M) := by
  have H : Ev none e 70 (if (sk &&& 1) = 1 then 177 else 181) [some (.ref 104), some (.ref t), some (.int i), some (.int c), some (.int sk), some (.int n), c6, c7, c8] [] M v M' 0 0 := Ev.back 5 (fun n => rfl) H
  by_cases h1 : (sk &&& 1) = 1
  · rw [if_pos h1] at H
    have H : Ev none e 70 182 [some (.ref 104), some (.ref t), some (.int i), some (.int c), some (.int sk), some (.int n), c6, c7, c8] [.int 1] M v M' 0 0 := Ev.back 2 (fun n => rfl) H
    obtain ⟨z1, z2⟩ := Ev.retz rfl rfl H
    exact Or.inl ⟨h1, z1, z2⟩
  · rw [if_neg h1] at H
    have H : Ev none e 70 182 [some (.ref 104), some (.ref t), some (.int i), some (.int c), some (.int sk), some (.int n), c6, c7, c8] [.int 0] M v M' 0 0 := Ev.back 1 (fun n => rfl) H
    obtain ⟨z1, z2⟩ := Ev.retz rfl rfl H
    exact Or.inr (⟨h1, z1, z2⟩)
/-! THE CLASS'S holds: the COND evaluated -/
/-- the land walked on, as P says; the law's three numbers -/
def LCel (L : Nat) (P : PK) (M : Mem) : Prop := ∀ k f, k < clsP P → f < 7 → rN M (L + 1 + f) k = P (522 + 7 * k + f)
def CV (L : Nat) (g : TQ) (P : PK) (M : Mem) : Prop := SQ M ∧ fR M 104 7 = L ∧ gNth sT L = some 8 ∧ zI M (fR M 104 2) 10 = bdQ g ∧ zI M (fR M 104 2) 11 = mdQ g ∧ zI M (fR M 104 2) 12 = dyQ g ∧ LCel L P M
section HLD
variable {e L t : Nat} {g q : TQ} {P : PK} {M M' : Mem} {v : Option Value} {c : Int32}
theorem LCel.at (h : LCel L P M) (hc : inC P c) {f : Nat} (hf : f < 7) : rI M (L + 1 + f) c = cE P f c := h c.toInt.toNat f hc.2 hf
theorem dec_eq (y k : Int32) : decide (y = k) = decide (¬ y < k ∧ ¬ k < y) := by
  refine decide_eq_decide.mpr ?_
  rw [Int32.lt_iff_toInt_lt, Int32.lt_iff_toInt_lt, ← Int32.toInt_inj]
  omega
theorem dec_lt {y n : Int32} (hy : 0 ≤ y.toInt) (h0 : 0 ≤ n.toInt) (h9 : n.toInt ≤ 999) : decide (y < n) = decide (¬ y < 0 ∧ ¬ n - 1 < y) := by
  refine decide_eq_decide.mpr ?_
  have e0 : (0 : Int32).toInt = 0 := rfl
  have e1 := i32_m1 (n := n) (by omega)
  rw [Int32.lt_iff_toInt_lt, Int32.lt_iff_toInt_lt, Int32.lt_iff_toInt_lt, e0, e1]
  omega
theorem dec_gt {y n : Int32} (h0 : 0 ≤ n.toInt) (h9 : n.toInt ≤ 999) : decide (n < y) = decide (¬ y < n + 1 ∧ ¬ (2147483647 : Int32) < y) := by
  refine decide_eq_decide.mpr ?_
  have e0 : (2147483647 : Int32).toInt = 2147483647 := rfl
  have e1 := i32_p1 (n := n) (by omega)
  have e2 := (i32_lt y).2
  rw [Int32.lt_iff_toInt_lt, Int32.lt_iff_toInt_lt, Int32.lt_iff_toInt_lt, e0, e1]
  omega
theorem cM_a {m : Nat} (hm : m ≤ 7) (s n : Int32) : cM (nI m, s, n) = (sI 3 (nI m), sI 4 (nI m), sI 4 (nI m)) := by
  obtain ⟨h1, h2, h3, h4⟩ := (by decide : ∀ m : Nat, m ≤ 7 → ¬ nI m = 20 ∧ ¬ nI m = 21 ∧ ¬ nI m = 22 ∧ nI m < 8) m hm
  unfold cM
  rw [if_neg h1, if_neg h2, if_neg h3, if_pos h4]
theorem cM_c {m : Nat} (hm : 8 ≤ m) (hm2 : m ≤ 11) (s n : Int32) : cM (nI m, s, n) = if s = 60 then (sI 3 (nI m), 0, n - 1) else if s = 61 then (sI 3 (nI m), n, n) else (sI 3 (nI m), n + 1, 2147483647) := by
  obtain ⟨h1, h2, h3, h4⟩ := (by decide : ∀ m : Nat, m ≤ 11 → 8 ≤ m → ¬ nI m = 20 ∧ ¬ nI m = 21 ∧ ¬ nI m = 22 ∧ ¬ nI m < 8) m hm2 hm
  unfold cM
  rw [if_neg h1, if_neg h2, if_neg h3, if_neg h4]
theorem cM_c1 {m : Nat} (hm : 8 ≤ m) (hm2 : m ≤ 11) (s n : Int32) : (cM (nI m, s, n)).1 = sI 3 (nI m) := by
  rw [cM_c hm hm2]
  split
  · rfl
  · split <;> rfl
theorem cmp_dec {y s n : Int32} {m : Nat} (hm : 8 ≤ m) (hm2 : m ≤ 11) (hs : s = 60 ∨ s = 61 ∨ s = 62) (hy : 0 ≤ y.toInt) (h0 : 0 ≤ n.toInt) (h9 : n.toInt ≤ 999) : cmpV y s n = decide (¬ y < (cM (nI m, s, n)).2.1 ∧ ¬ (cM (nI m, s, n)).2.2 < y) := by
  rw [cM_c hm hm2]
  unfold cmpV
  rcases hs with rfl | rfl | rfl
  · rw [if_pos rfl, if_pos rfl]
    exact dec_lt hy h0 h9
  · rw [if_neg (by decide), if_pos rfl, if_neg (by decide), if_pos rfl]
    exact dec_eq y n
  · rw [if_neg (by decide), if_neg (by decide), if_neg (by decide), if_neg (by decide)]
    exact dec_gt h0 h9
theorem cM_sm {cd : Cdq} (hk : atC cd) : (cM cd).1 ≠ 8 ∧ (cM cd).1 ≠ 9 ∧ (cM cd).1 ≠ 10 := by
  have k0 : 0 ≤ cd.1.toInt ∧ cd.1.toInt ≤ ((11 : Nat) : Int) := ⟨hk.1, by rcases hk.2 with h | ⟨_, h, _⟩ <;> omega⟩
  obtain ⟨m, hm, he⟩ := i32_in k0.1 k0.2 (by decide)
  obtain ⟨a, s, n⟩ := cd
  have he : a = nI m := he
  subst he
  have h3 := (by decide : ∀ m : Nat, m ≤ 11 → sI 3 (nI m) ≠ 8 ∧ sI 3 (nI m) ≠ 9 ∧ sI 3 (nI m) ≠ 10) m hm
  by_cases h8 : 8 ≤ m
  · rw [cM_c1 h8 hm]
    exact h3
  · rw [cM_a (by omega)]
    exact h3
theorem asked_ok (hV : CV L g P M) (hc : inC P c) (hn : nnC P c) {cd : Cdq} (hk : atC cd) (H : Ev none e 71 0 [some (.ref 104), some (.int (cM cd).1), some (.int c)] [] M v M' 0 0) : M' = M ∧ ∃ y, v = some (.int y) ∧ trP g P c cd = decide (¬ y < (cM cd).2.1 ∧ ¬ (cM cd).2.2 < y) := by
  obtain ⟨hS, hL, hT, l1, l2, _, hC⟩ := hV
  obtain ⟨n2, n3, n4, n5⟩ := hn
  have k0 : 0 ≤ cd.1.toInt ∧ cd.1.toInt ≤ ((11 : Nat) : Int) := ⟨hk.1, by rcases hk.2 with h | ⟨_, h, _⟩ <;> omega⟩
  obtain ⟨m, hm, he⟩ := i32_in k0.1 k0.2 (by decide)
  obtain ⟨a, s, n⟩ := cd
  have he : a = nI m := he
  subst he
  have r0 : rI M (L + 1) c = cE P 0 c := hC.at hc (f := 0) (by decide)
  have r1 : rI M (L + 2) c = cE P 1 c := hC.at hc (f := 1) (by decide)
  have r2 : rI M (L + 3) c = cE P 2 c := hC.at hc (f := 2) (by decide)
  have r3 : rI M (L + 4) c = cE P 3 c := hC.at hc (f := 3) (by decide)
  have r4 : rI M (L + 5) c = cE P 4 c := hC.at hc (f := 4) (by decide)
  have r5 : rI M (L + 6) c = cE P 5 c := hC.at hc (f := 5) (by decide)
  have hcmp : 8 ≤ m → (s = 60 ∨ s = 61 ∨ s = 62) ∧ 0 ≤ n.toInt ∧ n.toInt ≤ 999 := fun h8 => by
    have h := (by decide : ∀ m : Nat, m ≤ 11 → 8 ≤ m → ¬ (nI m).toInt ≤ 7) m hm h8
    rcases hk.2 with q | ⟨_, _, q⟩
    · exact absurd q h
    · exact q
  clear hk k0
  match m, hm with
  | 0, _ =>
    have e1 : (cM (nI 0, s, n)).1 = 0 := by rw [cM_a (by decide)]; decide
    have e2 : (cM (nI 0, s, n)).2.1 = 0 ∧ (cM (nI 0, s, n)).2.2 = 0 := by rw [cM_a (by decide)]; decide
    rw [e1] at H
    obtain ⟨_, h1, h2⟩ := hs0_0 hS H
    rw [hL, r0] at h1
    refine ⟨h2, _, h1, ?_⟩
    rw [e2.1, e2.2]
    exact dec_eq _ _
  | 1, _ =>
    have e1 : (cM (nI 1, s, n)).1 = 0 := by rw [cM_a (by decide)]; decide
    have e2 : (cM (nI 1, s, n)).2.1 = 1 ∧ (cM (nI 1, s, n)).2.2 = 1 := by rw [cM_a (by decide)]; decide
    rw [e1] at H
    obtain ⟨_, h1, h2⟩ := hs0_0 hS H
    rw [hL, r0] at h1
    refine ⟨h2, _, h1, ?_⟩
    rw [e2.1, e2.2]
    exact dec_eq _ _
  | 2, _ =>
    have e1 : (cM (nI 2, s, n)).1 = 0 := by rw [cM_a (by decide)]; decide
    have e2 : (cM (nI 2, s, n)).2.1 = 2 ∧ (cM (nI 2, s, n)).2.2 = 2 := by rw [cM_a (by decide)]; decide
    rw [e1] at H
    obtain ⟨_, h1, h2⟩ := hs0_0 hS H
    rw [hL, r0] at h1
    refine ⟨h2, _, h1, ?_⟩
    rw [e2.1, e2.2]
    exact dec_eq _ _
  | 3, _ =>
    have e1 : (cM (nI 3, s, n)).1 = 0 := by rw [cM_a (by decide)]; decide
    have e2 : (cM (nI 3, s, n)).2.1 = 4 ∧ (cM (nI 3, s, n)).2.2 = 4 := by rw [cM_a (by decide)]; decide
    rw [e1] at H
    obtain ⟨_, h1, h2⟩ := hs0_0 hS H
    rw [hL, r0] at h1
    refine ⟨h2, _, h1, ?_⟩
    rw [e2.1, e2.2]
    exact dec_eq _ _
  | 4, _ =>
    have e1 : (cM (nI 4, s, n)).1 = 0 := by rw [cM_a (by decide)]; decide
    have e2 : (cM (nI 4, s, n)).2.1 = 5 ∧ (cM (nI 4, s, n)).2.2 = 5 := by rw [cM_a (by decide)]; decide
    rw [e1] at H
    obtain ⟨_, h1, h2⟩ := hs0_0 hS H
    rw [hL, r0] at h1
    refine ⟨h2, _, h1, ?_⟩
    rw [e2.1, e2.2]
    exact dec_eq _ _
  | 5, _ =>
    have e1 : (cM (nI 5, s, n)).1 = 1 := by rw [cM_a (by decide)]; decide
    have e2 : (cM (nI 5, s, n)).2.1 = 1 ∧ (cM (nI 5, s, n)).2.2 = 1 := by rw [cM_a (by decide)]; decide
    rw [e1] at H
    obtain ⟨_, h1, h2⟩ := hs1_0 hS H
    rw [hL, r1] at h1
    refine ⟨h2, _, h1, ?_⟩
    rw [e2.1, e2.2]
    exact dec_eq _ _
  | 6, _ =>
    have e1 : (cM (nI 6, s, n)).1 = 2 := by rw [cM_a (by decide)]; decide
    have e2 : (cM (nI 6, s, n)).2.1 = 1 ∧ (cM (nI 6, s, n)).2.2 = 1 := by rw [cM_a (by decide)]; decide
    rw [e1] at H
    rw [e2.1, e2.2]
    have et : trP g P c (nI 6, s, n) = decide (bdQ g ≤ cE P 3 c ∧ mdQ g ≤ cE P 4 c) := rfl
    rw [et]
    rcases hs2_0 hS H with ⟨a1, _, h1, h2⟩ | ⟨a1, a2, _, _, h1, h2⟩ | ⟨a1, a2, _, _, h1, h2⟩
    · rw [hL, r3, l1] at a1
      refine ⟨h2, _, h1, ?_⟩
      rw [decide_eq_false (fun q => absurd a1 (by rw [Int32.lt_iff_toInt_lt]; have := Int32.le_iff_toInt_le.mp q.1; omega))]
      rfl
    · rw [hL, r4, l2] at a2
      refine ⟨h2, _, h1, ?_⟩
      rw [decide_eq_false (fun q => absurd a2 (by rw [Int32.lt_iff_toInt_lt]; have := Int32.le_iff_toInt_le.mp q.2; omega))]
      rfl
    · rw [hL, r3, l1] at a1
      rw [hL, r4, l2] at a2
      refine ⟨h2, _, h1, ?_⟩
      rw [Int32.lt_iff_toInt_lt] at a1 a2
      rw [decide_eq_true ⟨Int32.le_iff_toInt_le.mpr (by omega), Int32.le_iff_toInt_le.mpr (by omega)⟩]
      rfl
  | 7, _ =>
    have e1 : (cM (nI 7, s, n)).1 = 3 := by rw [cM_a (by decide)]; decide
    have e2 : (cM (nI 7, s, n)).2.1 = 1 ∧ (cM (nI 7, s, n)).2.2 = 1 := by rw [cM_a (by decide)]; decide
    rw [e1] at H
    rw [e2.1, e2.2]
    have et : trP g P c (nI 7, s, n) = decide (bdQ g ≤ cE P 3 c) := rfl
    rw [et]
    rcases hs3_0 hS H with ⟨a1, _, h1, h2⟩ | ⟨a1, _, h1, h2⟩
    · rw [hL, r3, l1] at a1
      refine ⟨h2, _, h1, ?_⟩
      rw [decide_eq_false (fun q => absurd a1 (by rw [Int32.lt_iff_toInt_lt]; have := Int32.le_iff_toInt_le.mp q; omega))]
      rfl
    · rw [hL, r3, l1] at a1
      refine ⟨h2, _, h1, ?_⟩
      rw [Int32.lt_iff_toInt_lt] at a1
      rw [decide_eq_true (Int32.le_iff_toInt_le.mpr (by omega))]
      rfl
  | 8, _ =>
    obtain ⟨g1, g2, g3⟩ := hcmp (by decide)
    have e1 : (cM (nI 8, s, n)).1 = 4 := by rw [cM_c1 (by decide) (by decide)]; decide
    rw [e1] at H
    obtain ⟨_, h1, h2⟩ := hs4_0 hS H
    rw [hL, r3] at h1
    exact ⟨h2, _, h1, cmp_dec (by decide) (by decide) g1 n3 g2 g3⟩
  | 9, _ =>
    obtain ⟨g1, g2, g3⟩ := hcmp (by decide)
    have e1 : (cM (nI 9, s, n)).1 = 5 := by rw [cM_c1 (by decide) (by decide)]; decide
    rw [e1] at H
    obtain ⟨_, h1, h2⟩ := hs5_0 hS H
    rw [hL, r4] at h1
    exact ⟨h2, _, h1, cmp_dec (by decide) (by decide) g1 n4 g2 g3⟩
  | 10, _ =>
    obtain ⟨g1, g2, g3⟩ := hcmp (by decide)
    have e1 : (cM (nI 10, s, n)).1 = 6 := by rw [cM_c1 (by decide) (by decide)]; decide
    rw [e1] at H
    obtain ⟨_, h1, h2⟩ := hs6_0 hS H
    rw [hL, r2] at h1
    exact ⟨h2, _, h1, cmp_dec (by decide) (by decide) g1 n2 g2 g3⟩
  | 11, _ =>
    obtain ⟨g1, g2, g3⟩ := hcmp (by decide)
    have e1 : (cM (nI 11, s, n)).1 = 7 := by rw [cM_c1 (by decide) (by decide)]; decide
    rw [e1] at H
    obtain ⟨_, h1, h2⟩ := hs7_0 hS H
    rw [hL, r5] at h1
    exact ⟨h2, _, h1, cmp_dec (by decide) (by decide) g1 n5 g2 g3⟩
/-! the pile as bits -/
def BSt (sk : Int32) (st : List Bool) : Prop := ∀ i, i < 32 → sk.toBitVec.getLsbD i = (st[i]?).getD false
theorem one_bit : ∀ i, i < 32 → (1 : Int32).toBitVec.getLsbD i = decide (i = 0) := by decide
theorem zero_bit : ∀ i, i < 32 → (0 : Int32).toBitVec.getLsbD i = false := by decide
theorem m2_bit : ∀ i, i < 32 → (-2 : Int32).toBitVec.getLsbD i = !decide (i = 0) := by decide
theorem BSt.nil : BSt 0 [] := fun i hi => by
  rw [zero_bit i hi]
  rfl
theorem ush1 (x : Int32) : ((x.toUInt32 >>> ((1 : Int32).toUInt32 &&& Int32.toUInt32 31)).toInt32).toBitVec = x.toBitVec >>> 1 := by
  refine BitVec.eq_of_toNat_eq ?_
  rw [byt_u x 1 1 (by decide), BitVec.toNat_ushiftRight, Nat.shiftRight_eq_div_pow]
theorem shl1 (x : Int32) : (x <<< ((1 : Int32) &&& 31)).toBitVec = x.toBitVec <<< 1 := rfl
theorem ush1_bit {x : Int32} {i : Nat} : ((x.toUInt32 >>> ((1 : Int32).toUInt32 &&& Int32.toUInt32 31)).toInt32).toBitVec.getLsbD i = x.toBitVec.getLsbD (i + 1) := by
  rw [ush1, BitVec.getLsbD_ushiftRight, Nat.add_comm]
theorem hi_bit {x : Int32} : x.toBitVec.getLsbD 32 = false := BitVec.getLsbD_of_ge _ _ (Nat.le_refl _)
theorem BSt.nott {sk : Int32} {x : Bool} {st : List Bool} (h : BSt sk (x :: st)) : BSt (sk ^^^ 1) ((!x) :: st) := fun i hi => by
  have e : (sk ^^^ 1).toBitVec = sk.toBitVec ^^^ (1 : Int32).toBitVec := rfl
  rw [e, BitVec.getLsbD_xor, h i hi, one_bit i hi]
  cases i with
  | zero =>
    show (x ^^ true) = !x
    cases x <;> rfl
  | succ i =>
    show (((st[i]?).getD false) ^^ false) = (st[i]?).getD false
    rw [Bool.xor_false]
theorem BSt.lo {sk : Int32} {x : Bool} {st : List Bool} (h : BSt sk (x :: st)) : sk.toBitVec.getLsbD 0 = x := h 0 (by decide)
theorem BSt.nx {sk : Int32} {x : Bool} {st : List Bool} (h : BSt sk (x :: st)) (hl : st.length ≤ 31) {i : Nat} (hi : i < 32) : sk.toBitVec.getLsbD (i + 1) = (st[i]?).getD false := by
  by_cases h31 : i + 1 < 32
  · exact h (i + 1) h31
  · have e : i = 31 := by omega
    subst e
    rw [hi_bit, List.getElem?_eq_none (by omega)]
    rfl
theorem top_bit {sk : Int32} {i : Nat} (hi : i < 32) : (sk &&& 1).toBitVec.getLsbD i = (decide (i = 0) && sk.toBitVec.getLsbD 0) := by
  have e : (sk &&& 1).toBitVec = sk.toBitVec &&& (1 : Int32).toBitVec := rfl
  rw [e, BitVec.getLsbD_and, one_bit i hi]
  cases i with
  | zero => rw [decide_eq_true rfl, Bool.and_true, Bool.true_and]
  | succ i => rw [decide_eq_false (by omega), Bool.and_false, Bool.false_and]
theorem BSt.orr {sk : Int32} {x y : Bool} {st : List Bool} (h : BSt sk (y :: x :: st)) (hl : st.length ≤ 30) : BSt (((sk.toUInt32 >>> ((1 : Int32).toUInt32 &&& Int32.toUInt32 31)).toInt32) ||| (sk &&& 1)) ((x || y) :: st) := fun i hi => by
  have e : ∀ a b : Int32, (a ||| b).toBitVec = a.toBitVec ||| b.toBitVec := fun _ _ => rfl
  rw [e, BitVec.getLsbD_or, ush1_bit, top_bit hi, h.lo, h.nx (by exact Nat.succ_le_succ hl) hi]
  cases i with
  | zero => rw [decide_eq_true rfl, Bool.true_and]; rfl
  | succ i => rw [decide_eq_false (by omega), Bool.false_and, Bool.or_false]; rfl
theorem BSt.andd {sk : Int32} {x y : Bool} {st : List Bool} (h : BSt sk (y :: x :: st)) (hl : st.length ≤ 30) : BSt (((sk.toUInt32 >>> ((1 : Int32).toUInt32 &&& Int32.toUInt32 31)).toInt32) &&& ((-2) ||| (sk &&& 1))) ((x && y) :: st) := fun i hi => by
  have e : ∀ a b : Int32, (a &&& b).toBitVec = a.toBitVec &&& b.toBitVec := fun _ _ => rfl
  have e2 : ∀ a b : Int32, (a ||| b).toBitVec = a.toBitVec ||| b.toBitVec := fun _ _ => rfl
  rw [e, BitVec.getLsbD_and, ush1_bit, e2, BitVec.getLsbD_or, m2_bit i hi, top_bit hi, h.lo, h.nx (by exact Nat.succ_le_succ hl) hi]
  cases i with
  | zero => rw [decide_eq_true rfl, Bool.true_and]; rfl
  | succ i => rw [decide_eq_false (by omega), Bool.false_and, Bool.or_false, Bool.not_false, Bool.and_true]; rfl
theorem BSt.push {sk : Int32} {st : List Bool} (h : BSt sk st) {z : Int32} {x : Bool} (hz : (z = 1 ∧ x = true) ∨ (z = 0 ∧ x = false)) : BSt ((sk <<< ((1 : Int32) &&& 31)) ||| z) (x :: st) := fun i hi => by
  have e2 : ∀ a b : Int32, (a ||| b).toBitVec = a.toBitVec ||| b.toBitVec := fun _ _ => rfl
  rw [e2, shl1, BitVec.getLsbD_or, BitVec.getLsbD_shiftLeft]
  have hz2 : z.toBitVec.getLsbD i = (decide (i = 0) && x) := by
    rcases hz with ⟨rfl, rfl⟩ | ⟨rfl, rfl⟩
    · rw [one_bit i hi, Bool.and_true]
    · rw [zero_bit i hi, Bool.and_false]
  rw [hz2]
  cases i with
  | zero => simp
  | succ i =>
    rw [decide_eq_true hi, decide_eq_false (by omega : ¬ i + 1 < 1), decide_eq_false (by omega : ¬ i + 1 = 0), Bool.false_and, Bool.or_false, Bool.true_and, Bool.not_false, Bool.true_and, Nat.add_sub_cancel, h i (by omega)]
    rfl
theorem BSt.ans {sk : Int32} {x : Bool} {st : List Bool} (h : BSt sk (x :: st)) : (sk &&& 1) = 1 ↔ x = true := by
  have h0 := h.lo
  constructor
  · intro hq
    have h1 := top_bit (sk := sk) (i := 0) (by decide)
    rw [hq, h0] at h1
    have h2 : (1 : Int32).toBitVec.getLsbD 0 = true := by decide
    rw [h2, decide_eq_true rfl, Bool.true_and] at h1
    exact h1.symm
  · intro hx
    refine Int32.toBitVec_inj.mp (BitVec.eq_of_getLsbD_eq (fun i hi => ?_))
    rw [top_bit hi, one_bit i hi, h0, hx, Bool.and_true]
/-- the answer of a question -/
def bI (b : Bool) : Int32 := bif b then 1 else 0
theorem hold_loop (hV : CV L g P M) (ht : gNth sT t = some 28) (hq : CC M t q.1.2.2) (hc : inC P c) (hn : nnC P c) {i : Int32} {to : Nat} (hto : (rI M (t + 5) i).toInt = (to : Int)) (h96 : to ≤ 96) : ∀ (cs : List Cdq) (j : Nat) (st : List Bool) (sk n : Int32) (c6 c7 c8 : Option Value), (∀ a cd, cs[a]? = some cd → q.1.2.2[j + a]? = some cd) → n.toInt = (j : Int) → j + cs.length = to → okC cs st.length → st.length ≤ 32 → BSt sk st → Ev none e 70 28 [some (.ref 104), some (.ref t), some (.int i), some (.int c), some (.int sk), some (.int n), c6, c7, c8] [] M v M' 0 0 → M' = M ∧ v = some (.int (bI ((evC (trP g P c) cs st).headD true))) := by
  have hS := hV.1
  have h9 : (96 : Int32).toInt = 96 := rfl
  intro cs
  induction cs with
  | nil =>
    intro j st sk n c6 c7 c8 _ hj hlen hok hl hB H
    have hlen : j + 0 = to := hlen
    have hok : st.length = 1 := hok
    obtain ⟨x, rfl⟩ := List.length_eq_one_iff.mp hok
    have fin : Ev none e 70 169 [some (.ref 104), some (.ref t), some (.int i), some (.int c), some (.int sk), some (.int n), c6, c7, c8] [] M v M' 0 0 → M' = M ∧ v = some (.int (bI ((evC (trP g P c) [] [x]).headD true))) := fun H => by
      rcases hw_169 hS ht H with ⟨a1, h1, h2⟩ | ⟨a1, h1, h2⟩
      · have hx := hB.ans.mp a1
        subst hx
        exact ⟨h2, h1⟩
      · have hx : x = false := by
          cases x with
          | false => rfl
          | true => exact absurd (hB.ans.mpr rfl) a1
        subst hx
        exact ⟨h2, h1⟩
    rcases hw_28 hS ht H with ⟨_, _, H⟩ | ⟨_, _, _, H⟩ | ⟨a1, _⟩ | ⟨a1, _⟩ | ⟨a1, _⟩ | ⟨a1, _⟩
    · exact fin H
    · exact fin H
    all_goals exact absurd (Int32.le_iff_toInt_le.mpr (by omega)) a1
  | cons cd cs ih =>
    intro j st sk n c6 c7 c8 hcs hj hlen hok hl hB H
    have hlen : j + (cs.length + 1) = to := hlen
    have hjt : ¬ (rI M (t + 5) i) ≤ n := fun q => by
      have := Int32.le_iff_toInt_le.mp q
      omega
    have hn96 : ¬ 96 ≤ n := fun q => by
      have := Int32.le_iff_toInt_le.mp q
      omega
    have hn1 : (n + 1).toInt = ((j + 1 : Nat) : Int) := by
      rw [i32_p1 (by omega)]
      omega
    have hcd : q.1.2.2[j]? = some cd := hcs 0 cd rfl
    obtain ⟨k1, k2, k3⟩ := hq.2.2 j cd hcd
    rw [← rI_n hj] at k1 k2 k3
    have hcs2 : ∀ a cd, cs[a]? = some cd → q.1.2.2[j + 1 + a]? = some cd := fun a cd h => by
      have := hcs (a + 1) cd h
      rw [show j + 1 + a = j + (a + 1) from by omega]
      exact this
    by_cases c20 : cd.1 = 20
    · have hm : (cM cd).1 = 8 := by
        unfold cM
        rw [if_pos c20]
      have hok : (if cd.1 = 20 then 1 ≤ st.length ∧ okC cs st.length else _) := hok
      rw [if_pos c20] at hok
      obtain ⟨o1, o2⟩ := hok
      cases st with
      | nil => exact absurd o1 (by decide)
      | cons x st =>
        have he : evC (trP g P c) (cd :: cs) (x :: st) = evC (trP g P c) cs ((!x) :: st) := by
          show evC (trP g P c) cs (if cd.1 = 20 then _ else _) = _
          rw [if_pos c20]
        rw [he]
        rcases hw_28 hS ht H with ⟨a1, _⟩ | ⟨_, a1, _⟩ | ⟨_, _, _, _, _, H⟩ | ⟨_, _, a1, _⟩ | ⟨_, _, a1, _⟩ | ⟨_, _, a1, _⟩
        · exact absurd a1 hjt
        · exact absurd a1 hn96
        · exact ih (j + 1) _ _ _ _ _ _ hcs2 hn1 (by omega) o2 hl hB.nott H
        all_goals exact absurd (k1.trans hm) a1
    · by_cases c21 : cd.1 = 21
      · have hm : (cM cd).1 = 9 := by
          unfold cM
          rw [if_neg c20, if_pos c21]
        have hok : (if cd.1 = 20 then _ else if cd.1 = 21 ∨ cd.1 = 22 then 2 ≤ st.length ∧ okC cs (st.length - 1) else _) := hok
        rw [if_neg c20, if_pos (Or.inl c21)] at hok
        obtain ⟨o1, o2⟩ := hok
        match st, o1, o2, hl, hB with
        | y :: x :: st, _, o2, hl, hB =>
          have he : evC (trP g P c) (cd :: cs) (y :: x :: st) = evC (trP g P c) cs ((x && y) :: st) := by
            show evC (trP g P c) cs (if cd.1 = 20 then _ else if cd.1 = 21 then _ else _) = _
            rw [if_neg c20, if_pos c21]
          rw [he]
          have hl : st.length + 2 ≤ 32 := hl
          rcases hw_28 hS ht H with ⟨a1, _⟩ | ⟨_, a1, _⟩ | ⟨_, _, a1, _⟩ | ⟨_, _, _, a1, _⟩ | ⟨_, _, _, _, _, _, _, H⟩ | ⟨_, _, _, _, a1, _⟩
          · exact absurd a1 hjt
          · exact absurd a1 hn96
          · exact absurd ((k1.trans hm).symm.trans a1) (by decide)
          · exact absurd ((k1.trans hm).symm.trans a1) (by decide)
          · exact ih (j + 1) _ _ _ _ _ _ hcs2 hn1 (by omega) o2 (by show st.length + 1 ≤ 32; omega) (hB.andd (by omega)) H
          · exact absurd (k1.trans hm) a1
      · by_cases c22 : cd.1 = 22
        · have hm : (cM cd).1 = 10 := by
            unfold cM
            rw [if_neg c20, if_neg c21, if_pos c22]
          have hok : (if cd.1 = 20 then _ else if cd.1 = 21 ∨ cd.1 = 22 then 2 ≤ st.length ∧ okC cs (st.length - 1) else _) := hok
          rw [if_neg c20, if_pos (Or.inr c22)] at hok
          obtain ⟨o1, o2⟩ := hok
          match st, o1, o2, hl, hB with
          | y :: x :: st, _, o2, hl, hB =>
            have he : evC (trP g P c) (cd :: cs) (y :: x :: st) = evC (trP g P c) cs ((x || y) :: st) := by
              show evC (trP g P c) cs (if cd.1 = 20 then _ else if cd.1 = 21 then _ else if cd.1 = 22 then _ else _) = _
              rw [if_neg c20, if_neg c21, if_pos c22]
            rw [he]
            have hl : st.length + 2 ≤ 32 := hl
            rcases hw_28 hS ht H with ⟨a1, _⟩ | ⟨_, a1, _⟩ | ⟨_, _, a1, _⟩ | ⟨_, _, _, _, _, _, H⟩ | ⟨_, _, _, a1, _⟩ | ⟨_, _, _, a1, _⟩
            · exact absurd a1 hjt
            · exact absurd a1 hn96
            · exact absurd ((k1.trans hm).symm.trans a1) (by decide)
            · exact ih (j + 1) _ _ _ _ _ _ hcs2 hn1 (by omega) o2 (by show st.length + 1 ≤ 32; omega) (hB.orr (by omega)) H
            · exact absurd (k1.trans hm) a1
            · exact absurd (k1.trans hm) a1
        · have hok : (if cd.1 = 20 then _ else if cd.1 = 21 ∨ cd.1 = 22 then _ else atC cd ∧ st.length < 32 ∧ okC cs (st.length + 1)) := hok
          rw [if_neg c20, if_neg (fun q => q.elim c21 c22)] at hok
          obtain ⟨o1, o2, o3⟩ := hok
          have he : evC (trP g P c) (cd :: cs) st = evC (trP g P c) cs (trP g P c cd :: st) := by
            show evC (trP g P c) cs (if cd.1 = 20 then _ else if cd.1 = 21 then _ else if cd.1 = 22 then _ else _) = _
            rw [if_neg c20, if_neg c21, if_neg c22]
          rw [he]
          have hsm := cM_sm o1
          rcases hw_28 hS ht H with ⟨a1, _⟩ | ⟨_, a1, _⟩ | ⟨_, _, a1, _⟩ | ⟨_, _, _, a1, _⟩ | ⟨_, _, _, _, a1, _⟩ | ⟨_, _, _, _, _, _, _, e1, v1, M1, rfl, H1, H⟩
          · exact absurd a1 hjt
          · exact absurd a1 hn96
          · exact absurd (k1.symm.trans a1) hsm.1
          · exact absurd (k1.symm.trans a1) hsm.2.2
          · exact absurd (k1.symm.trans a1) hsm.2.1
          · rw [k1] at H1
            obtain ⟨rfl, y, rfl, hy⟩ := asked_ok hV hc hn o1 H1
            rcases hw_125 hS ht H with ⟨a1, _, H⟩ | ⟨_, a1, _, _, H⟩ | ⟨a1, a2, _, _, H⟩
            · rw [k2] at a1
              refine ih (j + 1) _ _ _ _ _ _ hcs2 hn1 (by omega) o3 (by show st.length + 1 ≤ 32; omega) (hB.push (Or.inr ⟨rfl, ?_⟩)) H
              rw [hy, decide_eq_false (fun q => q.1 a1)]
            · rw [k3] at a1
              refine ih (j + 1) _ _ _ _ _ _ hcs2 hn1 (by omega) o3 (by show st.length + 1 ≤ 32; omega) (hB.push (Or.inr ⟨rfl, ?_⟩)) H
              rw [hy, decide_eq_false (fun q => q.2 a1)]
            · rw [k2] at a1
              rw [k3] at a2
              refine ih (j + 1) _ _ _ _ _ _ hcs2 hn1 (by omega) o3 (by show st.length + 1 ≤ 32; omega) (hB.push (Or.inl ⟨rfl, ?_⟩)) H
              rw [hy, decide_eq_true ⟨a1, a2⟩]
/-- a line of a text: its COND holds -/
theorem holds_ok (hV : CV L g P M) (ht : gNth sT t = some 28) (hq : TXT M t q) (hw : LW q) (hc : inC P c) (hn : nnC P c) {i : Int32} {j : Nat} {l : Lnq} (hi : i.toInt = (j : Int)) (hl : q.2[j]? = some l) (H : Ev none e 70 0 [some (.ref 104), some (.ref t), some (.int i), some (.int c), none, none, none, none, none] [] M v M' 0 0) : M' = M ∧ v = some (.int (bI (hldP g P q l c))) := by
  have hS := hV.1
  obtain ⟨k1, k2, k3, k4, k5⟩ := hq.1.2.2 j l hl
  rw [← rI_n hi] at k4 k5
  obtain ⟨_, w1, w2, w3⟩ := hw l (List.mem_of_getElem? hl)
  have h96 := hq.2.1.2.1
  unfold hldP
  rcases hw_0 hS ht H with ⟨a1, _, _, h1, h2⟩ | ⟨a1, _, _, _, H⟩
  · have : l.2.2.2.1 = l.2.2.2.2 := by
      have := congrArg Int32.toInt a1
      omega
    rw [if_pos this]
    exact ⟨h2, h1⟩
  · have hne : ¬ l.2.2.2.1 = l.2.2.2.2 := fun q => a1 (Int32.toInt_inj.mp (by omega))
    rw [if_neg hne]
    have hok : okC (segC q l) 0 := by
      rcases w3 with w3 | ⟨k, e1, e2⟩
      · exact absurd w3 hne
      · exact e2.ok (by omega)
    have hlen : (segC q l).length = l.2.2.2.2 - l.2.2.2.1 := by
      unfold segC
      rw [List.length_take, List.length_drop]
      omega
    refine hold_loop hV ht hq.2.1 hc hn k5 (by omega) (segC q l) l.2.2.2.1 [] 0 _ none none none (fun a cd h => ?_) k4 (by omega) hok (by decide) BSt.nil H
    unfold segC at h
    rw [List.getElem?_take] at h
    split at h
    · rw [List.getElem?_drop] at h
      exact h
    · cases h
end HLD
/-! THE CLASS'S walking: pieces (made by gwal.py) -/
noncomputable def G_6 (M : Mem) (L : Nat) : Int32 := (zI M L 0) * (zI M L 1)
theorem g_6 {e : Nat} {M M' : Mem} {v : Option Value} {L : Nat} (hS : SQ M) (a_L : gNth sT L = some 8) (H : Ev none e 6 0 [some (.ref L)] [] M v M' 0 0) : v = some (.int (G_6 M L)) ∧ M' = M := by
  unfold G_6
  have H : Ev none e 6 1 [some (.ref L)] [.ref L] M v M' 0 0 := Ev.back 1 (fun n => rfl) H
  have H : Ev none e 6 4 [some (.ref L)] [.int (zI M L 0)] M v M' 0 0 := Ev.back 1 (gs_3 rfl rfl (gf_i hS.1 a_L qi_8_0 rfl)) H
  have H : Ev none e 6 5 [some (.ref L)] [.ref L, .int (zI M L 0)] M v M' 0 0 := Ev.back 1 (fun n => rfl) H
  have H : Ev none e 6 8 [some (.ref L)] [.int (zI M L 1), .int (zI M L 0)] M v M' 0 0 := Ev.back 1 (gs_3 rfl rfl (gf_i hS.1 a_L qi_8_1 rfl)) H
  have H : Ev none e 6 9 [some (.ref L)] [.int ((zI M L 0) * (zI M L 1))] M v M' 0 0 := Ev.back 1 (fun n => rfl) H
  obtain ⟨p1, p2⟩ := Ev.retz rfl rfl H
  exact ⟨p1, p2⟩
noncomputable def G_7 (M : Mem) (L : Nat) (c : Int32) : Int32 := if (rI M (L + 1) c) = 3 then 0 else (if (rI M (L + 1) c) = 6 then 0 else 1)
theorem g_7 {e : Nat} {M M' : Mem} {v : Option Value} {c : Int32} {L : Nat} (hS : SQ M) (a_L : gNth sT L = some 8) (H : Ev none e 7 0 [some (.ref L), some (.int c)] [] M v M' 0 0) : v = some (.int (G_7 M L c)) ∧ M' = M := by
  unfold G_7
  have H : Ev none e 7 1 [some (.ref L), some (.int c)] [.ref L] M v M' 0 0 := Ev.back 1 (fun n => rfl) H
  have H : Ev none e 7 4 [some (.ref L), some (.int c)] [.ref (L + 1)] M v M' 0 0 := Ev.back 1 (gs_3 rfl rfl (gf_x hS.1 a_L qo_8 (fx_l2 hS a_L) rfl)) H
  have H : Ev none e 7 5 [some (.ref L), some (.int c)] [.int c, .ref (L + 1)] M v M' 0 0 := Ev.back 1 (fun n => rfl) H
  obtain ⟨b1, H⟩ := Ev.ial rfl rfl hS.1 (fx_h2 a_L) qw_9 H
  have H : Ev none e 7 6 [some (.ref L), some (.int c)] [.int (rI M (L + 1) c)] M v M' 0 0 := H
  have H : Ev none e 7 (if (rI M (L + 1) c) = 3 then 25 else 10) [some (.ref L), some (.int c)] [] M v M' 0 0 := Ev.back 2 (fun n => rfl) H
  by_cases h2 : (rI M (L + 1) c) = 3
  · rw [if_pos h2] at H
    have H : Ev none e 7 26 [some (.ref L), some (.int c)] [.int 0] M v M' 0 0 := Ev.back 1 (fun n => rfl) H
    obtain ⟨p1, p2⟩ := Ev.retz rfl rfl H
    exact ⟨by rw [if_pos h2]; exact p1, p2⟩
  · rw [if_neg h2] at H
    have H : Ev none e 7 11 [some (.ref L), some (.int c)] [.ref L] M v M' 0 0 := Ev.back 1 (fun n => rfl) H
    have H : Ev none e 7 14 [some (.ref L), some (.int c)] [.ref (L + 1)] M v M' 0 0 := Ev.back 1 (gs_3 rfl rfl (gf_x hS.1 a_L qo_8 (fx_l2 hS a_L) rfl)) H
    have H : Ev none e 7 15 [some (.ref L), some (.int c)] [.int c, .ref (L + 1)] M v M' 0 0 := Ev.back 1 (fun n => rfl) H
    obtain ⟨b3, H⟩ := Ev.ial rfl rfl hS.1 (fx_h2 a_L) qw_9 H
    have H : Ev none e 7 16 [some (.ref L), some (.int c)] [.int (rI M (L + 1) c)] M v M' 0 0 := H
    have H : Ev none e 7 (if (rI M (L + 1) c) = 6 then 25 else 21) [some (.ref L), some (.int c)] [] M v M' 0 0 := Ev.back 2 (fun n => rfl) H
    by_cases h4 : (rI M (L + 1) c) = 6
    · rw [if_pos h4] at H
      have H : Ev none e 7 26 [some (.ref L), some (.int c)] [.int 0] M v M' 0 0 := Ev.back 1 (fun n => rfl) H
      obtain ⟨p1, p2⟩ := Ev.retz rfl rfl H
      exact ⟨by rw [if_neg h2, if_pos h4]; exact p1, p2⟩
    · rw [if_neg h4] at H
      have H : Ev none e 7 26 [some (.ref L), some (.int c)] [.int 1] M v M' 0 0 := Ev.back 2 (fun n => rfl) H
      obtain ⟨p1, p2⟩ := Ev.retz rfl rfl H
      exact ⟨by rw [if_neg h2, if_neg h4]; exact p1, p2⟩
noncomputable def G_8 (M : Mem) (L : Nat) (c : Int32) : Int32 := if (rI M (L + 1) c) = 0 then 1 else (if (rI M (L + 1) c) = 2 then 1 else 0)
theorem g_8 {e : Nat} {M M' : Mem} {v : Option Value} {c : Int32} {L : Nat} (hS : SQ M) (a_L : gNth sT L = some 8) (H : Ev none e 8 0 [some (.ref L), some (.int c)] [] M v M' 0 0) : v = some (.int (G_8 M L c)) ∧ M' = M := by
  unfold G_8
  have H : Ev none e 8 1 [some (.ref L), some (.int c)] [.ref L] M v M' 0 0 := Ev.back 1 (fun n => rfl) H
  have H : Ev none e 8 4 [some (.ref L), some (.int c)] [.ref (L + 1)] M v M' 0 0 := Ev.back 1 (gs_3 rfl rfl (gf_x hS.1 a_L qo_8 (fx_l2 hS a_L) rfl)) H
  have H : Ev none e 8 5 [some (.ref L), some (.int c)] [.int c, .ref (L + 1)] M v M' 0 0 := Ev.back 1 (fun n => rfl) H
  obtain ⟨b1, H⟩ := Ev.ial rfl rfl hS.1 (fx_h2 a_L) qw_9 H
  have H : Ev none e 8 6 [some (.ref L), some (.int c)] [.int (rI M (L + 1) c)] M v M' 0 0 := H
  have H : Ev none e 8 (if (rI M (L + 1) c) = 0 then 19 else 9) [some (.ref L), some (.int c)] [] M v M' 0 0 := Ev.back 1 (fun n => rfl) H
  by_cases h2 : (rI M (L + 1) c) = 0
  · rw [if_pos h2] at H
    have H : Ev none e 8 24 [some (.ref L), some (.int c)] [.int 1] M v M' 0 0 := Ev.back 2 (fun n => rfl) H
    obtain ⟨p1, p2⟩ := Ev.retz rfl rfl H
    exact ⟨by rw [if_pos h2]; exact p1, p2⟩
  · rw [if_neg h2] at H
    have H : Ev none e 8 10 [some (.ref L), some (.int c)] [.ref L] M v M' 0 0 := Ev.back 1 (fun n => rfl) H
    have H : Ev none e 8 13 [some (.ref L), some (.int c)] [.ref (L + 1)] M v M' 0 0 := Ev.back 1 (gs_3 rfl rfl (gf_x hS.1 a_L qo_8 (fx_l2 hS a_L) rfl)) H
    have H : Ev none e 8 14 [some (.ref L), some (.int c)] [.int c, .ref (L + 1)] M v M' 0 0 := Ev.back 1 (fun n => rfl) H
    obtain ⟨b3, H⟩ := Ev.ial rfl rfl hS.1 (fx_h2 a_L) qw_9 H
    have H : Ev none e 8 15 [some (.ref L), some (.int c)] [.int (rI M (L + 1) c)] M v M' 0 0 := H
    have H : Ev none e 8 (if (rI M (L + 1) c) = 2 then 19 else 23) [some (.ref L), some (.int c)] [] M v M' 0 0 := Ev.back 2 (fun n => rfl) H
    by_cases h4 : (rI M (L + 1) c) = 2
    · rw [if_pos h4] at H
      have H : Ev none e 8 24 [some (.ref L), some (.int c)] [.int 1] M v M' 0 0 := Ev.back 2 (fun n => rfl) H
      obtain ⟨p1, p2⟩ := Ev.retz rfl rfl H
      exact ⟨by rw [if_neg h2, if_pos h4]; exact p1, p2⟩
    · rw [if_neg h4] at H
      have H : Ev none e 8 24 [some (.ref L), some (.int c)] [.int 0] M v M' 0 0 := Ev.back 1 (fun n => rfl) H
      obtain ⟨p1, p2⟩ := Ev.retz rfl rfl H
      exact ⟨by rw [if_neg h2, if_neg h4]; exact p1, p2⟩
noncomputable def G_56 (M : Mem) (c : Int32) : Int32 := if (rI M (fR M 104 7 + 4) c) < (zI M (fR M 104 2) 10) then 0 else 1
theorem g_56 {e : Nat} {M M' : Mem} {v : Option Value} {c : Int32} (hS : SQ M) (H : Ev none e 56 0 [some (.ref 104), some (.int c)] [] M v M' 0 0) : v = some (.int (G_56 M c)) ∧ M' = M := by
  unfold G_56
  have H : Ev none e 56 1 [some (.ref 104), some (.int c)] [.ref 104] M v M' 0 0 := Ev.back 1 (fun n => rfl) H
  have H : Ev none e 56 4 [some (.ref 104), some (.int c)] [.ref (fR M 104 7)] M v M' 0 0 := Ev.back 1 (gs_3 rfl rfl (gf_r hS.1 qa_104 qr_22_7 rfl)) H
  have H : Ev none e 56 7 [some (.ref 104), some (.int c)] [.ref (fR M 104 7 + 4)] M v M' 0 0 := Ev.back 1 (gs_3 rfl rfl (gf_x hS.1 (hS.1.fr qa_104 qr_22_7).2 qo_8 (fx_l5 hS (hS.1.fr qa_104 qr_22_7).2) rfl)) H
  have H : Ev none e 56 8 [some (.ref 104), some (.int c)] [.int c, .ref (fR M 104 7 + 4)] M v M' 0 0 := Ev.back 1 (fun n => rfl) H
  obtain ⟨b1, H⟩ := Ev.ial rfl rfl hS.1 (fx_h5 (hS.1.fr qa_104 qr_22_7).2) qw_12 H
  have H : Ev none e 56 9 [some (.ref 104), some (.int c)] [.int (rI M (fR M 104 7 + 4) c)] M v M' 0 0 := H
  have H : Ev none e 56 10 [some (.ref 104), some (.int c)] [.ref 104, .int (rI M (fR M 104 7 + 4) c)] M v M' 0 0 := Ev.back 1 (fun n => rfl) H
  have H : Ev none e 56 13 [some (.ref 104), some (.int c)] [.ref (fR M 104 2), .int (rI M (fR M 104 7 + 4) c)] M v M' 0 0 := Ev.back 1 (gs_3 rfl rfl (gf_r hS.1 qa_104 qr_22_2 rfl)) H
  have H : Ev none e 56 16 [some (.ref 104), some (.int c)] [.int (zI M (fR M 104 2) 10), .int (rI M (fR M 104 7 + 4) c)] M v M' 0 0 := Ev.back 1 (gs_3 rfl rfl (gf_i hS.1 (hS.1.fr qa_104 qr_22_2).2 qi_28_10 rfl)) H
  have H : Ev none e 56 (if (rI M (fR M 104 7 + 4) c) < (zI M (fR M 104 2) 10) then 23 else 19) [some (.ref 104), some (.int c)] [] M v M' 0 0 := Ev.back 1 (fun n => rfl) H
  by_cases h2 : (rI M (fR M 104 7 + 4) c) < (zI M (fR M 104 2) 10)
  · rw [if_pos h2] at H
    have H : Ev none e 56 24 [some (.ref 104), some (.int c)] [.int 0] M v M' 0 0 := Ev.back 1 (fun n => rfl) H
    obtain ⟨p1, p2⟩ := Ev.retz rfl rfl H
    exact ⟨by rw [if_pos h2]; exact p1, p2⟩
  · rw [if_neg h2] at H
    have H : Ev none e 56 24 [some (.ref 104), some (.int c)] [.int 1] M v M' 0 0 := Ev.back 2 (fun n => rfl) H
    obtain ⟨p1, p2⟩ := Ev.retz rfl rfl H
    exact ⟨by rw [if_neg h2]; exact p1, p2⟩
theorem fnb_0 {e : Nat} {M M' : Mem} {v : Option Value} {wh c wo : Int32} (hS : SQ M) (H : Ev none e 64 0 [some (.ref 104), some (.int wh), some (.int c), some (.int wo), none] [] M v M' 0 0) : Ev none e 64 3 [some (.ref 104), some (.int wh), some (.int c), some (.int wo), some (.int 0)] [] M v M' 0 0 := by
  have H : Ev none e 64 3 [some (.ref 104), some (.int wh), some (.int c), some (.int wo), some (.int 0)] [] M v M' 0 0 := Ev.back 2 (fun n => rfl) H
  have HF := H
  exact HF
theorem fnb_3 {e : Nat} {M M' : Mem} {v : Option Value} {wh c wo i : Int32} (hS : SQ M) (H : Ev none e 64 3 [some (.ref 104), some (.int wh), some (.int c), some (.int wo), some (.int i)] [] M v M' 0 0) : ((zI M (fR M 104 2) 8) ≤ i ∧ v = some (.int wo) ∧ M' = M) ∨ (¬ ((zI M (fR M 104 2) 8) ≤ i) ∧ (rI M (fR M 104 2 + 1) i) = wh ∧ (0 ≤ i.toInt ∧ i.toInt < 16) ∧ (∃ e1 v1 M1, e = e1 + 1 ∧ Ev none e1 70 0 [some (.ref 104), some (.ref (fR M 104 2)), some (.int i), some (.int c), none, none, none, none, none] [] M v1 M1 0 0 ∧ Ev none e 64 40 [some (.ref 104), some (.int wh), some (.int c), some (.int wo), some (.int i)] (v1.toList ++ []) M1 v M' 0 0)) ∨ (¬ ((zI M (fR M 104 2) 8) ≤ i) ∧ ¬ ((rI M (fR M 104 2 + 1) i) = wh) ∧ (0 ≤ i.toInt ∧ i.toInt < 16) ∧ Ev none e 64 3 [some (.ref 104), some (.int wh), some (.int c), some (.int wo), some (.int (i + 1))] [] M v M' 0 0) := by
  have H : Ev none e 64 6 [some (.ref 104), some (.int wh), some (.int c), some (.int wo), some (.int i)] [.ref 104, .int i] M v M' 0 0 := Ev.back 2 (fun n => rfl) H
  have H : Ev none e 64 9 [some (.ref 104), some (.int wh), some (.int c), some (.int wo), some (.int i)] [.ref (fR M 104 2), .int i] M v M' 0 0 := Ev.back 1 (gs_3 rfl rfl (gf_r hS.1 qa_104 qr_22_2 rfl)) H
  have H : Ev none e 64 12 [some (.ref 104), some (.int wh), some (.int c), some (.int wo), some (.int i)] [.int (zI M (fR M 104 2) 8), .int i] M v M' 0 0 := Ev.back 1 (gs_3 rfl rfl (gf_i hS.1 (hS.1.fr qa_104 qr_22_2).2 qi_28_8 rfl)) H
  have H : Ev none e 64 (if (zI M (fR M 104 2) 8) ≤ i then 60 else 15) [some (.ref 104), some (.int wh), some (.int c), some (.int wo), some (.int i)] [] M v M' 0 0 := Ev.back 1 (fun n => rfl) H
  by_cases h1 : (zI M (fR M 104 2) 8) ≤ i
  · rw [if_pos h1] at H
    have H : Ev none e 64 61 [some (.ref 104), some (.int wh), some (.int c), some (.int wo), some (.int i)] [.int wo] M v M' 0 0 := Ev.back 1 (fun n => rfl) H
    obtain ⟨z1, z2⟩ := Ev.retz rfl rfl H
    exact Or.inl ⟨h1, z1, z2⟩
  · rw [if_neg h1] at H
    have H : Ev none e 64 16 [some (.ref 104), some (.int wh), some (.int c), some (.int wo), some (.int i)] [.ref 104] M v M' 0 0 := Ev.back 1 (fun n => rfl) H
    have H : Ev none e 64 19 [some (.ref 104), some (.int wh), some (.int c), some (.int wo), some (.int i)] [.ref (fR M 104 2)] M v M' 0 0 := Ev.back 1 (gs_3 rfl rfl (gf_r hS.1 qa_104 qr_22_2 rfl)) H
    have H : Ev none e 64 22 [some (.ref 104), some (.int wh), some (.int c), some (.int wo), some (.int i)] [.ref (fR M 104 2 + 1)] M v M' 0 0 := Ev.back 1 (gs_3 rfl rfl (gf_x hS.1 (hS.1.fr qa_104 qr_22_2).2 qo_28 (fx_t0 hS (hS.1.fr qa_104 qr_22_2).2) rfl)) H
    have H : Ev none e 64 24 [some (.ref 104), some (.int wh), some (.int c), some (.int wo), some (.int i)] [.int i, .ref (fR M 104 2 + 1)] M v M' 0 0 := Ev.back 1 (fun n => rfl) H
    obtain ⟨b2, H⟩ := Ev.ial rfl rfl hS.1 (fx_g0 (hS.1.fr qa_104 qr_22_2).2) qw_29 H
    have H : Ev none e 64 25 [some (.ref 104), some (.int wh), some (.int c), some (.int wo), some (.int i)] [.int (rI M (fR M 104 2 + 1) i)] M v M' 0 0 := H
    have H : Ev none e 64 (if (rI M (fR M 104 2 + 1) i) = wh then 29 else 54) [some (.ref 104), some (.int wh), some (.int c), some (.int wo), some (.int i)] [] M v M' 0 0 := Ev.back 2 (fun n => rfl) H
    by_cases h3 : (rI M (fR M 104 2 + 1) i) = wh
    · rw [if_pos h3] at H
      have H : Ev none e 64 31 [some (.ref 104), some (.int wh), some (.int c), some (.int wo), some (.int i)] [.ref 104, .ref 104] M v M' 0 0 := Ev.back 2 (fun n => rfl) H
      have H : Ev none e 64 34 [some (.ref 104), some (.int wh), some (.int c), some (.int wo), some (.int i)] [.ref (fR M 104 2), .ref 104] M v M' 0 0 := Ev.back 1 (gs_3 rfl rfl (gf_r hS.1 qa_104 qr_22_2 rfl)) H
      have H : Ev none e 64 37 [some (.ref 104), some (.int wh), some (.int c), some (.int wo), some (.int i)] [.int c, .int i, .ref (fR M 104 2), .ref 104] M v M' 0 0 := Ev.back 2 (fun n => rfl) H
      obtain ⟨e1, rfl⟩ := Ev.dpos rfl rfl H
      obtain ⟨vK4, MK4, K4, H⟩ := Ev.callb (fun n_ => gs_7 rfl rfl (show gCal (.invokevirtual 212) 7 (.int c :: .int i :: .ref (fR M 104 2) :: .ref 104 :: []) M = some (.inr (70, [some (.ref 104), some (.ref (fR M 104 2)), some (.int i), some (.int c), none, none, none, none, none], [])) from by show @cond (Option ((List Value × Mem) ⊕ (Nat × Lo × List Value))) (true && gRecv M (.ref 104) 7 && gRoom [] && true) (some (.inr (70, [some (.ref 104), some (.ref (fR M 104 2)), some (.int i), some (.int c), none, none, none, none, none], []))) none = _; rw [recv_s hS.1 qa_104 qo_22]; rfl)) H
      have K4 : Ev none e1 70 0 [some (.ref 104), some (.ref (fR M 104 2)), some (.int i), some (.int c), none, none, none, none, none] [] M vK4 MK4 0 0 := K4
      have HF := H
      exact Or.inr (Or.inl ⟨h1, h3, b2, ⟨e1, vK4, MK4, rfl, K4, HF⟩⟩)
    · rw [if_neg h3] at H
      have H : Ev none e 64 3 [some (.ref 104), some (.int wh), some (.int c), some (.int wo), some (.int (i + 1))] [] M v M' 0 0 := Ev.back 2 (fun n => rfl) H
      have HF := H
      exact Or.inr (Or.inr (⟨h1, h3, b2, HF⟩))
theorem fnb_40 {e : Nat} {M M' : Mem} {v : Option Value} {wh c wo i y : Int32} (hS : SQ M) (H : Ev none e 64 40 [some (.ref 104), some (.int wh), some (.int c), some (.int wo), some (.int i)] [.int y] M v M' 0 0) : (y = 0 ∧ Ev none e 64 3 [some (.ref 104), some (.int wh), some (.int c), some (.int wo), some (.int (i + 1))] [] M v M' 0 0) ∨ (¬ (y = 0) ∧ (0 ≤ i.toInt ∧ i.toInt < 16) ∧ v = some (.int (rI M (fR M 104 2 + 3) i)) ∧ M' = M) := by
  have H : Ev none e 64 (if y = 0 then 54 else 43) [some (.ref 104), some (.int wh), some (.int c), some (.int wo), some (.int i)] [] M v M' 0 0 := Ev.back 1 (fun n => rfl) H
  by_cases h1 : y = 0
  · rw [if_pos h1] at H
    have H : Ev none e 64 3 [some (.ref 104), some (.int wh), some (.int c), some (.int wo), some (.int (i + 1))] [] M v M' 0 0 := Ev.back 2 (fun n => rfl) H
    have HF := H
    exact Or.inl ⟨h1, HF⟩
  · rw [if_neg h1] at H
    have H : Ev none e 64 44 [some (.ref 104), some (.int wh), some (.int c), some (.int wo), some (.int i)] [.ref 104] M v M' 0 0 := Ev.back 1 (fun n => rfl) H
    have H : Ev none e 64 47 [some (.ref 104), some (.int wh), some (.int c), some (.int wo), some (.int i)] [.ref (fR M 104 2)] M v M' 0 0 := Ev.back 1 (gs_3 rfl rfl (gf_r hS.1 qa_104 qr_22_2 rfl)) H
    have H : Ev none e 64 50 [some (.ref 104), some (.int wh), some (.int c), some (.int wo), some (.int i)] [.ref (fR M 104 2 + 3)] M v M' 0 0 := Ev.back 1 (gs_3 rfl rfl (gf_x hS.1 (hS.1.fr qa_104 qr_22_2).2 qo_28 (fx_t2 hS (hS.1.fr qa_104 qr_22_2).2) rfl)) H
    have H : Ev none e 64 52 [some (.ref 104), some (.int wh), some (.int c), some (.int wo), some (.int i)] [.int i, .ref (fR M 104 2 + 3)] M v M' 0 0 := Ev.back 1 (fun n => rfl) H
    obtain ⟨b2, H⟩ := Ev.ial rfl rfl hS.1 (fx_g2 (hS.1.fr qa_104 qr_22_2).2) qw_31 H
    have H : Ev none e 64 53 [some (.ref 104), some (.int wh), some (.int c), some (.int wo), some (.int i)] [.int (rI M (fR M 104 2 + 3) i)] M v M' 0 0 := H
    obtain ⟨z1, z2⟩ := Ev.retz rfl rfl H
    exact Or.inr (⟨h1, b2, z1, z2⟩)
theorem wha_0 {e : Nat} {M M' : Mem} {v : Option Value} {c d si : Int32} (hS : SQ M) (H : Ev none e 69 0 [some (.ref 104), some (.int c), some (.int d), some (.int si), none, none, none] [] M v M' 0 0) : Ev none e 69 9 [some (.ref 104), some (.int c), some (.int d), some (.int si), some (.int 0), some (.int c), some (.int 0)] [] M v M' 0 0 := by
  have H : Ev none e 69 9 [some (.ref 104), some (.int c), some (.int d), some (.int si), some (.int 0), some (.int c), some (.int 0)] [] M v M' 0 0 := Ev.back 6 (fun n => rfl) H
  have HF := H
  exact HF
theorem wha_9 {e : Nat} {M M' : Mem} {v : Option Value} {c d si nn av k : Int32} (hS : SQ M) (H : Ev none e 69 9 [some (.ref 104), some (.int c), some (.int d), some (.int si), some (.int nn), some (.int av), some (.int k)] [] M v M' 0 0) : (si ≤ k ∧ v = some (.int nn) ∧ M' = M) ∨ (¬ (si ≤ k) ∧ av = (-1) ∧ v = some (.int nn) ∧ M' = M) ∨ (¬ (si ≤ k) ∧ ¬ (av = (-1)) ∧ (G_7 M (fR M 104 7) av) = 0 ∧ v = some (.int nn) ∧ M' = M) ∨ (¬ (si ≤ k) ∧ ¬ (av = (-1)) ∧ ¬ ((G_7 M (fR M 104 7) av) = 0) ∧ (G_56 M av) = 0 ∧ (0 ≤ ((8 * av) + d).toInt ∧ ((8 * av) + d).toInt < 2048) ∧ Ev none e 69 9 [some (.ref 104), some (.int c), some (.int d), some (.int si), some (.int (nn + 0)), some (.int (rI M 108 ((8 * av) + d))), some (.int (k + 1))] [] M v M' 0 0) ∨ (¬ (si ≤ k) ∧ ¬ (av = (-1)) ∧ ¬ ((G_7 M (fR M 104 7) av) = 0) ∧ ¬ ((G_56 M av) = 0) ∧ (0 ≤ ((8 * av) + d).toInt ∧ ((8 * av) + d).toInt < 2048) ∧ Ev none e 69 9 [some (.ref 104), some (.int c), some (.int d), some (.int si), some (.int (nn + 1)), some (.int (rI M 108 ((8 * av) + d))), some (.int (k + 1))] [] M v M' 0 0) := by
  have H : Ev none e 69 (if si ≤ k then 75 else 15) [some (.ref 104), some (.int c), some (.int d), some (.int si), some (.int nn), some (.int av), some (.int k)] [] M v M' 0 0 := Ev.back 3 (fun n => rfl) H
  by_cases h1 : si ≤ k
  · rw [if_pos h1] at H
    have H : Ev none e 69 77 [some (.ref 104), some (.int c), some (.int d), some (.int si), some (.int nn), some (.int av), some (.int k)] [.int nn] M v M' 0 0 := Ev.back 1 (fun n => rfl) H
    obtain ⟨z1, z2⟩ := Ev.retz rfl rfl H
    exact Or.inl ⟨h1, z1, z2⟩
  · rw [if_neg h1] at H
    have H : Ev none e 69 (if av = (-1) then 75 else 21) [some (.ref 104), some (.int c), some (.int d), some (.int si), some (.int nn), some (.int av), some (.int k)] [] M v M' 0 0 := Ev.back 3 (fun n => rfl) H
    by_cases h2 : av = (-1)
    · rw [if_pos h2] at H
      have H : Ev none e 69 77 [some (.ref 104), some (.int c), some (.int d), some (.int si), some (.int nn), some (.int av), some (.int k)] [.int nn] M v M' 0 0 := Ev.back 1 (fun n => rfl) H
      obtain ⟨z1, z2⟩ := Ev.retz rfl rfl H
      exact Or.inr (Or.inl ⟨h1, h2, z1, z2⟩)
    · rw [if_neg h2] at H
      have H : Ev none e 69 22 [some (.ref 104), some (.int c), some (.int d), some (.int si), some (.int nn), some (.int av), some (.int k)] [.ref 104] M v M' 0 0 := Ev.back 1 (fun n => rfl) H
      have H : Ev none e 69 25 [some (.ref 104), some (.int c), some (.int d), some (.int si), some (.int nn), some (.int av), some (.int k)] [.ref (fR M 104 7)] M v M' 0 0 := Ev.back 1 (gs_3 rfl rfl (gf_r hS.1 qa_104 qr_22_7 rfl)) H
      have H : Ev none e 69 27 [some (.ref 104), some (.int c), some (.int d), some (.int si), some (.int nn), some (.int av), some (.int k)] [.int av, .ref (fR M 104 7)] M v M' 0 0 := Ev.back 1 (fun n => rfl) H
      obtain ⟨e1, rfl⟩ := Ev.dpos rfl rfl H
      obtain ⟨vK3, MK3, K3, H⟩ := Ev.callb (fun n_ => gs_7 rfl rfl (show gCal (.invokevirtual 225) 7 (.int av :: .ref (fR M 104 7) :: []) M = some (.inr (7, [some (.ref (fR M 104 7)), some (.int av)], [])) from by show @cond (Option ((List Value × Mem) ⊕ (Nat × Lo × List Value))) (true && gRecv M (.ref (fR M 104 7)) 1 && gRoom [] && true) (some (.inr (7, [some (.ref (fR M 104 7)), some (.int av)], []))) none = _; rw [recv_s hS.1 (hS.1.fr qa_104 qr_22_7).2 qo_8]; rfl)) H
      obtain ⟨pK3, qK3⟩ := g_7 hS (hS.1.fr qa_104 qr_22_7).2 K3
      rw [pK3, qK3] at H
      have H : Ev none (e1 + 1) 69 30 [some (.ref 104), some (.int c), some (.int d), some (.int si), some (.int nn), some (.int av), some (.int k)] [.int (G_7 M (fR M 104 7) av)] M v M' 0 0 := H
      have H : Ev none (e1 + 1) 69 (if (G_7 M (fR M 104 7) av) = 0 then 75 else 33) [some (.ref 104), some (.int c), some (.int d), some (.int si), some (.int nn), some (.int av), some (.int k)] [] M v M' 0 0 := Ev.back 1 (fun n => rfl) H
      by_cases h4 : (G_7 M (fR M 104 7) av) = 0
      · rw [if_pos h4] at H
        have H : Ev none (e1 + 1) 69 77 [some (.ref 104), some (.int c), some (.int d), some (.int si), some (.int nn), some (.int av), some (.int k)] [.int nn] M v M' 0 0 := Ev.back 1 (fun n => rfl) H
        obtain ⟨z1, z2⟩ := Ev.retz rfl rfl H
        exact Or.inr (Or.inr (Or.inl ⟨h1, h2, h4, z1, z2⟩))
      · rw [if_neg h4] at H
        have H : Ev none (e1 + 1) 69 38 [some (.ref 104), some (.int c), some (.int d), some (.int si), some (.int nn), some (.int av), some (.int k)] [.int av, .ref 104, .int nn] M v M' 0 0 := Ev.back 3 (fun n => rfl) H
        obtain ⟨vK5, MK5, K5, H⟩ := Ev.callb (fun n_ => gs_7 rfl rfl (show gCal (.invokevirtual 94) 7 (.int av :: .ref 104 :: [.int nn]) M = some (.inr (56, [some (.ref 104), some (.int av)], [.int nn])) from by show @cond (Option ((List Value × Mem) ⊕ (Nat × Lo × List Value))) (true && gRecv M (.ref 104) 7 && gRoom [.int nn] && true) (some (.inr (56, [some (.ref 104), some (.int av)], [.int nn]))) none = _; rw [recv_s hS.1 qa_104 qo_22]; rfl)) H
        obtain ⟨pK5, qK5⟩ := g_56 hS K5
        rw [pK5, qK5] at H
        have H : Ev none (e1 + 1) 69 41 [some (.ref 104), some (.int c), some (.int d), some (.int si), some (.int nn), some (.int av), some (.int k)] [.int (G_56 M av), .int nn] M v M' 0 0 := H
        have H : Ev none (e1 + 1) 69 (if (G_56 M av) = 0 then 48 else 44) [some (.ref 104), some (.int c), some (.int d), some (.int si), some (.int nn), some (.int av), some (.int k)] [.int nn] M v M' 0 0 := Ev.back 1 (fun n => rfl) H
        by_cases h6 : (G_56 M av) = 0
        · rw [if_pos h6] at H
          have H : Ev none (e1 + 1) 69 53 [some (.ref 104), some (.int c), some (.int d), some (.int si), some (.int (nn + 0)), some (.int av), some (.int k)] [.ref 104] M v M' 0 0 := Ev.back 4 (fun n => rfl) H
          have H : Ev none (e1 + 1) 69 56 [some (.ref 104), some (.int c), some (.int d), some (.int si), some (.int (nn + 0)), some (.int av), some (.int k)] [.ref 105] M v M' 0 0 := Ev.back 1 (gs_3 rfl rfl (gf_u hS.1 qa_104 qr_22_0 qu_23 rfl)) H
          have H : Ev none (e1 + 1) 69 59 [some (.ref 104), some (.int c), some (.int d), some (.int si), some (.int (nn + 0)), some (.int av), some (.int k)] [.ref 108] M v M' 0 0 := Ev.back 1 (gs_3 rfl rfl (gf_u hS.1 qa_105 qr_23_2 qu_26 rfl)) H
          have H : Ev none (e1 + 1) 69 66 [some (.ref 104), some (.int c), some (.int d), some (.int si), some (.int (nn + 0)), some (.int av), some (.int k)] [.int ((8 * av) + d), .ref 108] M v M' 0 0 := Ev.back 5 (fun n => rfl) H
          obtain ⟨b7, H⟩ := Ev.ial rfl rfl hS.1 qa_108 qw_26 H
          have H : Ev none (e1 + 1) 69 67 [some (.ref 104), some (.int c), some (.int d), some (.int si), some (.int (nn + 0)), some (.int av), some (.int k)] [.int (rI M 108 ((8 * av) + d))] M v M' 0 0 := H
          have H : Ev none (e1 + 1) 69 9 [some (.ref 104), some (.int c), some (.int d), some (.int si), some (.int (nn + 0)), some (.int (rI M 108 ((8 * av) + d))), some (.int (k + 1))] [] M v M' 0 0 := Ev.back 3 (fun n => rfl) H
          have HF := H
          exact Or.inr (Or.inr (Or.inr (Or.inl ⟨h1, h2, h4, h6, b7, HF⟩)))
        · rw [if_neg h6] at H
          have H : Ev none (e1 + 1) 69 53 [some (.ref 104), some (.int c), some (.int d), some (.int si), some (.int (nn + 1)), some (.int av), some (.int k)] [.ref 104] M v M' 0 0 := Ev.back 5 (fun n => rfl) H
          have H : Ev none (e1 + 1) 69 56 [some (.ref 104), some (.int c), some (.int d), some (.int si), some (.int (nn + 1)), some (.int av), some (.int k)] [.ref 105] M v M' 0 0 := Ev.back 1 (gs_3 rfl rfl (gf_u hS.1 qa_104 qr_22_0 qu_23 rfl)) H
          have H : Ev none (e1 + 1) 69 59 [some (.ref 104), some (.int c), some (.int d), some (.int si), some (.int (nn + 1)), some (.int av), some (.int k)] [.ref 108] M v M' 0 0 := Ev.back 1 (gs_3 rfl rfl (gf_u hS.1 qa_105 qr_23_2 qu_26 rfl)) H
          have H : Ev none (e1 + 1) 69 66 [some (.ref 104), some (.int c), some (.int d), some (.int si), some (.int (nn + 1)), some (.int av), some (.int k)] [.int ((8 * av) + d), .ref 108] M v M' 0 0 := Ev.back 5 (fun n => rfl) H
          obtain ⟨b8, H⟩ := Ev.ial rfl rfl hS.1 qa_108 qw_26 H
          have H : Ev none (e1 + 1) 69 67 [some (.ref 104), some (.int c), some (.int d), some (.int si), some (.int (nn + 1)), some (.int av), some (.int k)] [.int (rI M 108 ((8 * av) + d))] M v M' 0 0 := H
          have H : Ev none (e1 + 1) 69 9 [some (.ref 104), some (.int c), some (.int d), some (.int si), some (.int (nn + 1)), some (.int (rI M 108 ((8 * av) + d))), some (.int (k + 1))] [] M v M' 0 0 := Ev.back 3 (fun n => rfl) H
          have HF := H
          exact Or.inr (Or.inr (Or.inr (Or.inr (⟨h1, h2, h4, h6, b8, HF⟩))))
theorem tre_0 {e : Nat} {M M' : Mem} {v : Option Value} {c : Int32} (hS : SQ M) (H : Ev none e 62 0 [some (.ref 104), some (.int c), none] [] M v M' 0 0) : ((G_8 M (fR M 104 7) c) = 0 ∧ (0 ≤ c.toInt ∧ c.toInt < 256) ∧ (0 ≤ c.toInt ∧ c.toInt < 256) ∧ (0 ≤ c.toInt ∧ c.toInt < 256) ∧ (0 ≤ c.toInt ∧ c.toInt < 256) ∧ Ev none e 62 73 [some (.ref 104), some (.int c), some (.int 0)] [] (wI (wI M (fR M 104 7 + 6) c.toNatClampNeg ((rI M (fR M 104 7 + 6) c) + 1)) (fR M 104 7 + 7) c.toNatClampNeg ((rI M (fR M 104 7 + 7) c) + 1)) v M' 0 0) ∨ (¬ ((G_8 M (fR M 104 7) c) = 0) ∧ (∃ e1 v1 M1, e = e1 + 1 ∧ Ev none e1 64 0 [some (.ref 104), some (.int 0), some (.int c), some (.int 5), none] [] M v1 M1 0 0 ∧ Ev none e 62 18 [some (.ref 104), some (.int c), none] (v1.toList ++ []) M1 v M' 0 0)) := by
  have H : Ev none e 62 1 [some (.ref 104), some (.int c), none] [.ref 104] M v M' 0 0 := Ev.back 1 (fun n => rfl) H
  have H : Ev none e 62 4 [some (.ref 104), some (.int c), none] [.ref (fR M 104 7)] M v M' 0 0 := Ev.back 1 (gs_3 rfl rfl (gf_r hS.1 qa_104 qr_22_7 rfl)) H
  have H : Ev none e 62 5 [some (.ref 104), some (.int c), none] [.int c, .ref (fR M 104 7)] M v M' 0 0 := Ev.back 1 (fun n => rfl) H
  obtain ⟨e1, rfl⟩ := Ev.dpos rfl rfl H
  obtain ⟨vK1, MK1, K1, H⟩ := Ev.callb (fun n_ => gs_7 rfl rfl (show gCal (.invokevirtual 178) 7 (.int c :: .ref (fR M 104 7) :: []) M = some (.inr (8, [some (.ref (fR M 104 7)), some (.int c)], [])) from by show @cond (Option ((List Value × Mem) ⊕ (Nat × Lo × List Value))) (true && gRecv M (.ref (fR M 104 7)) 1 && gRoom [] && true) (some (.inr (8, [some (.ref (fR M 104 7)), some (.int c)], []))) none = _; rw [recv_s hS.1 (hS.1.fr qa_104 qr_22_7).2 qo_8]; rfl)) H
  obtain ⟨pK1, qK1⟩ := g_8 hS (hS.1.fr qa_104 qr_22_7).2 K1
  rw [pK1, qK1] at H
  have H : Ev none (e1 + 1) 62 8 [some (.ref 104), some (.int c), none] [.int (G_8 M (fR M 104 7) c)] M v M' 0 0 := H
  have H : Ev none (e1 + 1) 62 (if (G_8 M (fR M 104 7) c) = 0 then 45 else 11) [some (.ref 104), some (.int c), none] [] M v M' 0 0 := Ev.back 1 (fun n => rfl) H
  by_cases h2 : (G_8 M (fR M 104 7) c) = 0
  · rw [if_pos h2] at H
    have H : Ev none (e1 + 1) 62 46 [some (.ref 104), some (.int c), none] [.ref 104] M v M' 0 0 := Ev.back 1 (fun n => rfl) H
    have H : Ev none (e1 + 1) 62 49 [some (.ref 104), some (.int c), none] [.ref (fR M 104 7)] M v M' 0 0 := Ev.back 1 (gs_3 rfl rfl (gf_r hS.1 qa_104 qr_22_7 rfl)) H
    have H : Ev none (e1 + 1) 62 52 [some (.ref 104), some (.int c), none] [.ref (fR M 104 7 + 6)] M v M' 0 0 := Ev.back 1 (gs_3 rfl rfl (gf_x hS.1 (hS.1.fr qa_104 qr_22_7).2 qo_8 (fx_l7 hS (hS.1.fr qa_104 qr_22_7).2) rfl)) H
    have H : Ev none (e1 + 1) 62 54 [some (.ref 104), some (.int c), none] [.int c, .ref (fR M 104 7 + 6), .int c, .ref (fR M 104 7 + 6)] M v M' 0 0 := Ev.back 2 (fun n => rfl) H
    obtain ⟨b3, H⟩ := Ev.ial rfl rfl hS.1 (fx_h7 (hS.1.fr qa_104 qr_22_7).2) qw_14 H
    have H : Ev none (e1 + 1) 62 55 [some (.ref 104), some (.int c), none] [.int (rI M (fR M 104 7 + 6) c), .int c, .ref (fR M 104 7 + 6)] M v M' 0 0 := H
    have H : Ev none (e1 + 1) 62 57 [some (.ref 104), some (.int c), none] [.int ((rI M (fR M 104 7 + 6) c) + 1), .int c, .ref (fR M 104 7 + 6)] M v M' 0 0 := Ev.back 2 (fun n => rfl) H
    obtain ⟨b4, H⟩ := Ev.ias rfl rfl hS.1 (fx_h7 (hS.1.fr qa_104 qr_22_7).2) qw_14 H
    obtain ⟨N5, eN5⟩ : ∃ N, N = (wI M (fR M 104 7 + 6) c.toNatClampNeg ((rI M (fR M 104 7 + 6) c) + 1)) := ⟨_, rfl⟩
    have hN5 : SQ N5 := by rw [eN5]; exact hS.ki
    have H : Ev none (e1 + 1) 62 58 [some (.ref 104), some (.int c), none] [] N5 v M' 0 0 := by rw [eN5]; exact H
    have H : Ev none (e1 + 1) 62 59 [some (.ref 104), some (.int c), none] [.ref 104] N5 v M' 0 0 := Ev.back 1 (fun n => rfl) H
    have H : Ev none (e1 + 1) 62 62 [some (.ref 104), some (.int c), none] [.ref (fR N5 104 7)] N5 v M' 0 0 := Ev.back 1 (gs_3 rfl rfl (gf_r hN5.1 qa_104 qr_22_7 rfl)) H
    rw [show fR N5 104 7 = fR M 104 7 from by rw [eN5]; exact fR_wI] at H
    have H : Ev none (e1 + 1) 62 65 [some (.ref 104), some (.int c), none] [.ref (fR M 104 7 + 7)] N5 v M' 0 0 := Ev.back 1 (gs_3 rfl rfl (gf_x hN5.1 (hS.1.fr qa_104 qr_22_7).2 qo_8 (fx_l8 hN5 (hS.1.fr qa_104 qr_22_7).2) rfl)) H
    have H : Ev none (e1 + 1) 62 67 [some (.ref 104), some (.int c), none] [.int c, .ref (fR M 104 7 + 7), .int c, .ref (fR M 104 7 + 7)] N5 v M' 0 0 := Ev.back 2 (fun n => rfl) H
    obtain ⟨b6, H⟩ := Ev.ial rfl rfl hN5.1 (fx_h8 (hS.1.fr qa_104 qr_22_7).2) qw_15 H
    have H : Ev none (e1 + 1) 62 68 [some (.ref 104), some (.int c), none] [.int (rI N5 (fR M 104 7 + 7) c), .int c, .ref (fR M 104 7 + 7)] N5 v M' 0 0 := H
    rw [show rI N5 (fR M 104 7 + 7) c = rI M (fR M 104 7 + 7) c from by rw [eN5]; exact rN_wI_ne (fun q => absurd q.1 (by omega))] at H
    have H : Ev none (e1 + 1) 62 70 [some (.ref 104), some (.int c), none] [.int ((rI M (fR M 104 7 + 7) c) + 1), .int c, .ref (fR M 104 7 + 7)] N5 v M' 0 0 := Ev.back 2 (fun n => rfl) H
    obtain ⟨b7, H⟩ := Ev.ias rfl rfl hN5.1 (fx_h8 (hS.1.fr qa_104 qr_22_7).2) qw_15 H
    obtain ⟨N8, eN8⟩ : ∃ N, N = (wI N5 (fR M 104 7 + 7) c.toNatClampNeg ((rI M (fR M 104 7 + 7) c) + 1)) := ⟨_, rfl⟩
    have hN8 : SQ N8 := by rw [eN8]; exact hN5.ki
    have H : Ev none (e1 + 1) 62 71 [some (.ref 104), some (.int c), none] [] N8 v M' 0 0 := by rw [eN8]; exact H
    have H : Ev none (e1 + 1) 62 73 [some (.ref 104), some (.int c), some (.int 0)] [] N8 v M' 0 0 := Ev.back 2 (fun n => rfl) H
    have HF := H
    subst eN5 eN8
    exact Or.inl ⟨h2, b3, b4, b6, b7, HF⟩
  · rw [if_neg h2] at H
    have H : Ev none (e1 + 1) 62 15 [some (.ref 104), some (.int c), none] [.int 5, .int c, .int 0, .ref 104] M v M' 0 0 := Ev.back 4 (fun n => rfl) H
    obtain ⟨vK9, MK9, K9, H⟩ := Ev.callb (fun n_ => gs_7 rfl rfl (show gCal (.invokevirtual 181) 7 (.int 5 :: .int c :: .int 0 :: .ref 104 :: []) M = some (.inr (64, [some (.ref 104), some (.int 0), some (.int c), some (.int 5), none], [])) from by show @cond (Option ((List Value × Mem) ⊕ (Nat × Lo × List Value))) (true && gRecv M (.ref 104) 7 && gRoom [] && true) (some (.inr (64, [some (.ref 104), some (.int 0), some (.int c), some (.int 5), none], []))) none = _; rw [recv_s hS.1 qa_104 qo_22]; rfl)) H
    have K9 : Ev none e1 64 0 [some (.ref 104), some (.int 0), some (.int c), some (.int 5), none] [] M vK9 MK9 0 0 := K9
    have HF := H
    exact Or.inr (⟨h2, ⟨e1, vK9, MK9, rfl, K9, HF⟩⟩)
theorem tre_18 {e : Nat} {M M' : Mem} {v : Option Value} {c y : Int32} (hS : SQ M) (H : Ev none e 62 18 [some (.ref 104), some (.int c), none] [.int y] M v M' 0 0) : (0 ≤ c.toInt ∧ c.toInt < 256) ∧ (0 ≤ c.toInt ∧ c.toInt < 256) ∧ Ev none e 62 45 [some (.ref 104), some (.int c), some (.int y)] [] (wI M (fR M 104 7 + 4) c.toNatClampNeg (if ((rI M (fR M 104 7 + 4) c) + y) < 999 then ((rI M (fR M 104 7 + 4) c) + y) else 999)) v M' 0 0 := by
  have H : Ev none e 62 20 [some (.ref 104), some (.int c), some (.int y)] [.ref 104] M v M' 0 0 := Ev.back 2 (fun n => rfl) H
  have H : Ev none e 62 23 [some (.ref 104), some (.int c), some (.int y)] [.ref (fR M 104 7)] M v M' 0 0 := Ev.back 1 (gs_3 rfl rfl (gf_r hS.1 qa_104 qr_22_7 rfl)) H
  have H : Ev none e 62 26 [some (.ref 104), some (.int c), some (.int y)] [.ref (fR M 104 7 + 4)] M v M' 0 0 := Ev.back 1 (gs_3 rfl rfl (gf_x hS.1 (hS.1.fr qa_104 qr_22_7).2 qo_8 (fx_l5 hS (hS.1.fr qa_104 qr_22_7).2) rfl)) H
  have H : Ev none e 62 31 [some (.ref 104), some (.int c), some (.int y)] [.ref 104, .int 999, .int c, .ref (fR M 104 7 + 4)] M v M' 0 0 := Ev.back 3 (fun n => rfl) H
  have H : Ev none e 62 34 [some (.ref 104), some (.int c), some (.int y)] [.ref (fR M 104 7), .int 999, .int c, .ref (fR M 104 7 + 4)] M v M' 0 0 := Ev.back 1 (gs_3 rfl rfl (gf_r hS.1 qa_104 qr_22_7 rfl)) H
  have H : Ev none e 62 37 [some (.ref 104), some (.int c), some (.int y)] [.ref (fR M 104 7 + 4), .int 999, .int c, .ref (fR M 104 7 + 4)] M v M' 0 0 := Ev.back 1 (gs_3 rfl rfl (gf_x hS.1 (hS.1.fr qa_104 qr_22_7).2 qo_8 (fx_l5 hS (hS.1.fr qa_104 qr_22_7).2) rfl)) H
  have H : Ev none e 62 38 [some (.ref 104), some (.int c), some (.int y)] [.int c, .ref (fR M 104 7 + 4), .int 999, .int c, .ref (fR M 104 7 + 4)] M v M' 0 0 := Ev.back 1 (fun n => rfl) H
  obtain ⟨b1, H⟩ := Ev.ial rfl rfl hS.1 (fx_h5 (hS.1.fr qa_104 qr_22_7).2) qw_12 H
  have H : Ev none e 62 39 [some (.ref 104), some (.int c), some (.int y)] [.int (rI M (fR M 104 7 + 4) c), .int 999, .int c, .ref (fR M 104 7 + 4)] M v M' 0 0 := H
  have H : Ev none e 62 41 [some (.ref 104), some (.int c), some (.int y)] [.int ((rI M (fR M 104 7 + 4) c) + y), .int 999, .int c, .ref (fR M 104 7 + 4)] M v M' 0 0 := Ev.back 2 (fun n => rfl) H
  obtain ⟨e1, rfl⟩ := Ev.dpos rfl rfl H
  have H : Ev none (e1 + 1) 62 44 [some (.ref 104), some (.int c), some (.int y)] [.int (if ((rI M (fR M 104 7 + 4) c) + y) < 999 then ((rI M (fR M 104 7 + 4) c) + y) else 999), .int c, .ref (fR M 104 7 + 4)] M v M' 0 0 := Ev.back 1 (fun n => rfl) H
  obtain ⟨b2, H⟩ := Ev.ias rfl rfl hS.1 (fx_h5 (hS.1.fr qa_104 qr_22_7).2) qw_12 H
  obtain ⟨N3, eN3⟩ : ∃ N, N = (wI M (fR M 104 7 + 4) c.toNatClampNeg (if ((rI M (fR M 104 7 + 4) c) + y) < 999 then ((rI M (fR M 104 7 + 4) c) + y) else 999)) := ⟨_, rfl⟩
  have hN3 : SQ N3 := by rw [eN3]; exact hS.ki
  have H : Ev none (e1 + 1) 62 45 [some (.ref 104), some (.int c), some (.int y)] [] N3 v M' 0 0 := by rw [eN3]; exact H
  have HF := H
  subst eN3
  exact ⟨b1, b2, HF⟩
theorem tre_45 {e : Nat} {M M' : Mem} {v : Option Value} {c : Int32} {c2 : Option Value} (hS : SQ M) (H : Ev none e 62 45 [some (.ref 104), some (.int c), c2] [] M v M' 0 0) : (0 ≤ c.toInt ∧ c.toInt < 256) ∧ (0 ≤ c.toInt ∧ c.toInt < 256) ∧ (0 ≤ c.toInt ∧ c.toInt < 256) ∧ (0 ≤ c.toInt ∧ c.toInt < 256) ∧ Ev none e 62 73 [some (.ref 104), some (.int c), some (.int 0)] [] (wI (wI M (fR M 104 7 + 6) c.toNatClampNeg ((rI M (fR M 104 7 + 6) c) + 1)) (fR M 104 7 + 7) c.toNatClampNeg ((rI M (fR M 104 7 + 7) c) + 1)) v M' 0 0 := by
  have H : Ev none e 62 46 [some (.ref 104), some (.int c), c2] [.ref 104] M v M' 0 0 := Ev.back 1 (fun n => rfl) H
  have H : Ev none e 62 49 [some (.ref 104), some (.int c), c2] [.ref (fR M 104 7)] M v M' 0 0 := Ev.back 1 (gs_3 rfl rfl (gf_r hS.1 qa_104 qr_22_7 rfl)) H
  have H : Ev none e 62 52 [some (.ref 104), some (.int c), c2] [.ref (fR M 104 7 + 6)] M v M' 0 0 := Ev.back 1 (gs_3 rfl rfl (gf_x hS.1 (hS.1.fr qa_104 qr_22_7).2 qo_8 (fx_l7 hS (hS.1.fr qa_104 qr_22_7).2) rfl)) H
  have H : Ev none e 62 54 [some (.ref 104), some (.int c), c2] [.int c, .ref (fR M 104 7 + 6), .int c, .ref (fR M 104 7 + 6)] M v M' 0 0 := Ev.back 2 (fun n => rfl) H
  obtain ⟨b1, H⟩ := Ev.ial rfl rfl hS.1 (fx_h7 (hS.1.fr qa_104 qr_22_7).2) qw_14 H
  have H : Ev none e 62 55 [some (.ref 104), some (.int c), c2] [.int (rI M (fR M 104 7 + 6) c), .int c, .ref (fR M 104 7 + 6)] M v M' 0 0 := H
  have H : Ev none e 62 57 [some (.ref 104), some (.int c), c2] [.int ((rI M (fR M 104 7 + 6) c) + 1), .int c, .ref (fR M 104 7 + 6)] M v M' 0 0 := Ev.back 2 (fun n => rfl) H
  obtain ⟨b2, H⟩ := Ev.ias rfl rfl hS.1 (fx_h7 (hS.1.fr qa_104 qr_22_7).2) qw_14 H
  obtain ⟨N3, eN3⟩ : ∃ N, N = (wI M (fR M 104 7 + 6) c.toNatClampNeg ((rI M (fR M 104 7 + 6) c) + 1)) := ⟨_, rfl⟩
  have hN3 : SQ N3 := by rw [eN3]; exact hS.ki
  have H : Ev none e 62 58 [some (.ref 104), some (.int c), c2] [] N3 v M' 0 0 := by rw [eN3]; exact H
  have H : Ev none e 62 59 [some (.ref 104), some (.int c), c2] [.ref 104] N3 v M' 0 0 := Ev.back 1 (fun n => rfl) H
  have H : Ev none e 62 62 [some (.ref 104), some (.int c), c2] [.ref (fR N3 104 7)] N3 v M' 0 0 := Ev.back 1 (gs_3 rfl rfl (gf_r hN3.1 qa_104 qr_22_7 rfl)) H
  rw [show fR N3 104 7 = fR M 104 7 from by rw [eN3]; exact fR_wI] at H
  have H : Ev none e 62 65 [some (.ref 104), some (.int c), c2] [.ref (fR M 104 7 + 7)] N3 v M' 0 0 := Ev.back 1 (gs_3 rfl rfl (gf_x hN3.1 (hS.1.fr qa_104 qr_22_7).2 qo_8 (fx_l8 hN3 (hS.1.fr qa_104 qr_22_7).2) rfl)) H
  have H : Ev none e 62 67 [some (.ref 104), some (.int c), c2] [.int c, .ref (fR M 104 7 + 7), .int c, .ref (fR M 104 7 + 7)] N3 v M' 0 0 := Ev.back 2 (fun n => rfl) H
  obtain ⟨b4, H⟩ := Ev.ial rfl rfl hN3.1 (fx_h8 (hS.1.fr qa_104 qr_22_7).2) qw_15 H
  have H : Ev none e 62 68 [some (.ref 104), some (.int c), c2] [.int (rI N3 (fR M 104 7 + 7) c), .int c, .ref (fR M 104 7 + 7)] N3 v M' 0 0 := H
  rw [show rI N3 (fR M 104 7 + 7) c = rI M (fR M 104 7 + 7) c from by rw [eN3]; exact rN_wI_ne (fun q => absurd q.1 (by omega))] at H
  have H : Ev none e 62 70 [some (.ref 104), some (.int c), c2] [.int ((rI M (fR M 104 7 + 7) c) + 1), .int c, .ref (fR M 104 7 + 7)] N3 v M' 0 0 := Ev.back 2 (fun n => rfl) H
  obtain ⟨b5, H⟩ := Ev.ias rfl rfl hN3.1 (fx_h8 (hS.1.fr qa_104 qr_22_7).2) qw_15 H
  obtain ⟨N6, eN6⟩ : ∃ N, N = (wI N3 (fR M 104 7 + 7) c.toNatClampNeg ((rI M (fR M 104 7 + 7) c) + 1)) := ⟨_, rfl⟩
  have hN6 : SQ N6 := by rw [eN6]; exact hN3.ki
  have H : Ev none e 62 71 [some (.ref 104), some (.int c), c2] [] N6 v M' 0 0 := by rw [eN6]; exact H
  have H : Ev none e 62 73 [some (.ref 104), some (.int c), some (.int 0)] [] N6 v M' 0 0 := Ev.back 2 (fun n => rfl) H
  have HF := H
  subst eN3 eN6
  exact ⟨b1, b2, b4, b5, HF⟩
theorem tre_73 {e : Nat} {M M' : Mem} {v : Option Value} {c k : Int32} (hS : SQ M) (H : Ev none e 62 73 [some (.ref 104), some (.int c), some (.int k)] [] M v M' 0 0) : (6 ≤ k ∧ c = (zI M 104 9) ∧ v = none ∧ M' = (wF M 104 10 1)) ∨ (6 ≤ k ∧ ¬ (c = (zI M 104 9)) ∧ v = none ∧ M' = M) ∨ (¬ (6 ≤ k) ∧ (0 ≤ ((256 * k) + c).toInt ∧ ((256 * k) + c).toInt < 1536) ∧ Ev none e 62 73 [some (.ref 104), some (.int c), some (.int (k + 1))] [] (wI M 128 (((256 * k) + c).toNatClampNeg) (-1)) v M' 0 0) := by
  have H : Ev none e 62 (if 6 ≤ k then 98 else 79) [some (.ref 104), some (.int c), some (.int k)] [] M v M' 0 0 := Ev.back 3 (fun n => rfl) H
  by_cases h1 : 6 ≤ k
  · rw [if_pos h1] at H
    have H : Ev none e 62 100 [some (.ref 104), some (.int c), some (.int k)] [.ref 104, .int c] M v M' 0 0 := Ev.back 2 (fun n => rfl) H
    have H : Ev none e 62 103 [some (.ref 104), some (.int c), some (.int k)] [.int (zI M 104 9), .int c] M v M' 0 0 := Ev.back 1 (gs_3 rfl rfl (gf_i hS.1 qa_104 qi_22_9 rfl)) H
    have H : Ev none e 62 (if c = (zI M 104 9) then 106 else 111) [some (.ref 104), some (.int c), some (.int k)] [] M v M' 0 0 := Ev.back 1 (fun n => rfl) H
    by_cases h2 : c = (zI M 104 9)
    · rw [if_pos h2] at H
      have H : Ev none e 62 108 [some (.ref 104), some (.int c), some (.int k)] [.int 1, .ref 104] M v M' 0 0 := Ev.back 2 (fun n => rfl) H
      obtain ⟨N4, eN4⟩ : ∃ N, N = (wF M 104 10 1) := ⟨_, rfl⟩
      have hN4 : SQ N4 := by rw [eN4]; exact hS.kf
      have H : Ev none e 62 111 [some (.ref 104), some (.int c), some (.int k)] [] N4 v M' 0 0 := by rw [eN4]; exact Ev.pfi rfl rfl rfl hS.1 qa_104 qi_22_10 H
      obtain ⟨z1, z2⟩ := Ev.retb (fun n => rfl) H
      subst eN4
      exact Or.inl ⟨h1, h2, z1, z2⟩
    · rw [if_neg h2] at H
      obtain ⟨z1, z2⟩ := Ev.retb (fun n => rfl) H
      exact Or.inr (Or.inl ⟨h1, h2, z1, z2⟩)
  · rw [if_neg h1] at H
    have H : Ev none e 62 80 [some (.ref 104), some (.int c), some (.int k)] [.ref 104] M v M' 0 0 := Ev.back 1 (fun n => rfl) H
    have H : Ev none e 62 83 [some (.ref 104), some (.int c), some (.int k)] [.ref 128] M v M' 0 0 := Ev.back 1 (gs_3 rfl rfl (gf_u hS.1 qa_104 qr_22_4 qu_37 rfl)) H
    have H : Ev none e 62 91 [some (.ref 104), some (.int c), some (.int k)] [.int (-1), .int ((256 * k) + c), .ref 128] M v M' 0 0 := Ev.back 6 (fun n => rfl) H
    obtain ⟨b5, H⟩ := Ev.ias rfl rfl hS.1 qa_128 qw_37 H
    obtain ⟨N6, eN6⟩ : ∃ N, N = (wI M 128 (((256 * k) + c).toNatClampNeg) (-1)) := ⟨_, rfl⟩
    have hN6 : SQ N6 := by rw [eN6]; exact hS.ki
    have H : Ev none e 62 92 [some (.ref 104), some (.int c), some (.int k)] [] N6 v M' 0 0 := by rw [eN6]; exact H
    have H : Ev none e 62 73 [some (.ref 104), some (.int c), some (.int (k + 1))] [] N6 v M' 0 0 := Ev.back 2 (fun n => rfl) H
    have HF := H
    subst eN6
    exact Or.inr (Or.inr (⟨h1, b5, HF⟩))
theorem loo_0 {e : Nat} {M M' : Mem} {v : Option Value} {av c : Int32} {t : Nat} (hS : SQ M) (a_t : gNth sT t = some 28) (H : Ev none e 67 0 [some (.ref 104), some (.ref t), some (.int av), some (.int c), none, none] [] M v M' 0 0) : (0 ≤ av.toInt ∧ av.toInt < 1536) ∧ Ev none e 67 10 [some (.ref 104), some (.ref t), some (.int av), some (.int c), some (.int 0), none] [] (wI M 128 av.toNatClampNeg 0) v M' 0 0 := by
  have H : Ev none e 67 1 [some (.ref 104), some (.ref t), some (.int av), some (.int c), none, none] [.ref 104] M v M' 0 0 := Ev.back 1 (fun n => rfl) H
  have H : Ev none e 67 4 [some (.ref 104), some (.ref t), some (.int av), some (.int c), none, none] [.ref 128] M v M' 0 0 := Ev.back 1 (gs_3 rfl rfl (gf_u hS.1 qa_104 qr_22_4 qu_37 rfl)) H
  have H : Ev none e 67 6 [some (.ref 104), some (.ref t), some (.int av), some (.int c), none, none] [.int 0, .int av, .ref 128] M v M' 0 0 := Ev.back 2 (fun n => rfl) H
  obtain ⟨b1, H⟩ := Ev.ias rfl rfl hS.1 qa_128 qw_37 H
  obtain ⟨N2, eN2⟩ : ∃ N, N = (wI M 128 av.toNatClampNeg 0) := ⟨_, rfl⟩
  have hN2 : SQ N2 := by rw [eN2]; exact hS.ki
  have H : Ev none e 67 7 [some (.ref 104), some (.ref t), some (.int av), some (.int c), none, none] [] N2 v M' 0 0 := by rw [eN2]; exact H
  have H : Ev none e 67 10 [some (.ref 104), some (.ref t), some (.int av), some (.int c), some (.int 0), none] [] N2 v M' 0 0 := Ev.back 2 (fun n => rfl) H
  have HF := H
  subst eN2
  exact ⟨b1, HF⟩
theorem loo_10 {e : Nat} {M M' : Mem} {v : Option Value} {av c i : Int32} {t : Nat} {c5 : Option Value} (hS : SQ M) (a_t : gNth sT t = some 28) (H : Ev none e 67 10 [some (.ref 104), some (.ref t), some (.int av), some (.int c), some (.int i), c5] [] M v M' 0 0) : (7 ≤ i ∧ Ev none e 67 36 [some (.ref 104), some (.ref t), some (.int av), some (.int c), some (.int 0), c5] [] M v M' 0 0) ∨ (¬ (7 ≤ i) ∧ (0 ≤ i.toInt ∧ i.toInt < 7) ∧ (0 ≤ av.toInt ∧ av.toInt < 1536) ∧ Ev none e 67 10 [some (.ref 104), some (.ref t), some (.int av), some (.int c), some (.int (i + 1)), c5] [] (wI M (oI M 129 i) av.toNatClampNeg 0) v M' 0 0) := by
  have H : Ev none e 67 (if 7 ≤ i then 33 else 17) [some (.ref 104), some (.ref t), some (.int av), some (.int c), some (.int i), c5] [] M v M' 0 0 := Ev.back 3 (fun n => rfl) H
  by_cases h1 : 7 ≤ i
  · rw [if_pos h1] at H
    have H : Ev none e 67 36 [some (.ref 104), some (.ref t), some (.int av), some (.int c), some (.int 0), c5] [] M v M' 0 0 := Ev.back 2 (fun n => rfl) H
    have HF := H
    exact Or.inl ⟨h1, HF⟩
  · rw [if_neg h1] at H
    have H : Ev none e 67 18 [some (.ref 104), some (.ref t), some (.int av), some (.int c), some (.int i), c5] [.ref 104] M v M' 0 0 := Ev.back 1 (fun n => rfl) H
    have H : Ev none e 67 21 [some (.ref 104), some (.ref t), some (.int av), some (.int c), some (.int i), c5] [.ref 129] M v M' 0 0 := Ev.back 1 (gs_3 rfl rfl (gf_u hS.1 qa_104 qr_22_5 qu_38 rfl)) H
    have H : Ev none e 67 23 [some (.ref 104), some (.ref t), some (.int av), some (.int c), some (.int i), c5] [.int i, .ref 129] M v M' 0 0 := Ev.back 1 (fun n => rfl) H
    obtain ⟨b2, H⟩ := Ev.aal rfl rfl hS.1 qa_129 qz_38 H
    have H : Ev none e 67 24 [some (.ref 104), some (.ref t), some (.int av), some (.int c), some (.int i), c5] [.ref (oI M 129 i)] M v M' 0 0 := H
    have H : Ev none e 67 26 [some (.ref 104), some (.ref t), some (.int av), some (.int c), some (.int i), c5] [.int 0, .int av, .ref (oI M 129 i)] M v M' 0 0 := Ev.back 2 (fun n => rfl) H
    obtain ⟨b3, H⟩ := Ev.ias rfl rfl hS.1 b2.2 qw_39 H
    obtain ⟨N4, eN4⟩ : ∃ N, N = (wI M (oI M 129 i) av.toNatClampNeg 0) := ⟨_, rfl⟩
    have hN4 : SQ N4 := by rw [eN4]; exact hS.ki
    have H : Ev none e 67 27 [some (.ref 104), some (.ref t), some (.int av), some (.int c), some (.int i), c5] [] N4 v M' 0 0 := by rw [eN4]; exact H
    have H : Ev none e 67 10 [some (.ref 104), some (.ref t), some (.int av), some (.int c), some (.int (i + 1)), c5] [] N4 v M' 0 0 := Ev.back 2 (fun n => rfl) H
    have HF := H
    subst eN4
    exact Or.inr (⟨h1, b2.1, b3, HF⟩)
theorem loo_36 {e : Nat} {M M' : Mem} {v : Option Value} {av c i : Int32} {t : Nat} {c5 : Option Value} (hS : SQ M) (a_t : gNth sT t = some 28) (H : Ev none e 67 36 [some (.ref 104), some (.ref t), some (.int av), some (.int c), some (.int i), c5] [] M v M' 0 0) : ((zI M t 8) ≤ i ∧ v = none ∧ M' = M) ∨ (¬ ((zI M t 8) ≤ i) ∧ (rI M (t + 1) i) = 5 ∧ (0 ≤ i.toInt ∧ i.toInt < 16) ∧ (∃ e1 v1 M1, e = e1 + 1 ∧ Ev none e1 70 0 [some (.ref 104), some (.ref t), some (.int i), some (.int c), none, none, none, none, none] [] M v1 M1 0 0 ∧ Ev none e 67 88 [some (.ref 104), some (.ref t), some (.int av), some (.int c), some (.int i), some (.int 1)] (v1.toList ++ []) M1 v M' 0 0)) ∨ (¬ ((zI M t 8) ≤ i) ∧ ¬ ((rI M (t + 1) i) = 5) ∧ (rI M (t + 1) i) = 6 ∧ (0 ≤ i.toInt ∧ i.toInt < 16) ∧ (0 ≤ i.toInt ∧ i.toInt < 16) ∧ (∃ e1 v1 M1, e = e1 + 1 ∧ Ev none e1 70 0 [some (.ref 104), some (.ref t), some (.int i), some (.int c), none, none, none, none, none] [] M v1 M1 0 0 ∧ Ev none e 67 88 [some (.ref 104), some (.ref t), some (.int av), some (.int c), some (.int i), some (.int 1)] (v1.toList ++ []) M1 v M' 0 0)) ∨ (¬ ((zI M t 8) ≤ i) ∧ ¬ ((rI M (t + 1) i) = 5) ∧ ¬ ((rI M (t + 1) i) = 6) ∧ (0 ≤ i.toInt ∧ i.toInt < 16) ∧ (0 ≤ i.toInt ∧ i.toInt < 16) ∧ Ev none e 67 36 [some (.ref 104), some (.ref t), some (.int av), some (.int c), some (.int (i + 1)), some (.int 0)] [] M v M' 0 0) := by
  have H : Ev none e 67 39 [some (.ref 104), some (.ref t), some (.int av), some (.int c), some (.int i), c5] [.ref t, .int i] M v M' 0 0 := Ev.back 2 (fun n => rfl) H
  have H : Ev none e 67 42 [some (.ref 104), some (.ref t), some (.int av), some (.int c), some (.int i), c5] [.int (zI M t 8), .int i] M v M' 0 0 := Ev.back 1 (gs_3 rfl rfl (gf_i hS.1 a_t qi_28_8 rfl)) H
  have H : Ev none e 67 (if (zI M t 8) ≤ i then 143 else 45) [some (.ref 104), some (.ref t), some (.int av), some (.int c), some (.int i), c5] [] M v M' 0 0 := Ev.back 1 (fun n => rfl) H
  by_cases h1 : (zI M t 8) ≤ i
  · rw [if_pos h1] at H
    obtain ⟨z1, z2⟩ := Ev.retb (fun n => rfl) H
    exact Or.inl ⟨h1, z1, z2⟩
  · rw [if_neg h1] at H
    have H : Ev none e 67 46 [some (.ref 104), some (.ref t), some (.int av), some (.int c), some (.int i), c5] [.ref t] M v M' 0 0 := Ev.back 1 (fun n => rfl) H
    have H : Ev none e 67 49 [some (.ref 104), some (.ref t), some (.int av), some (.int c), some (.int i), c5] [.ref (t + 1)] M v M' 0 0 := Ev.back 1 (gs_3 rfl rfl (gf_x hS.1 a_t qo_28 (fx_t0 hS a_t) rfl)) H
    have H : Ev none e 67 51 [some (.ref 104), some (.ref t), some (.int av), some (.int c), some (.int i), c5] [.int i, .ref (t + 1)] M v M' 0 0 := Ev.back 1 (fun n => rfl) H
    obtain ⟨b2, H⟩ := Ev.ial rfl rfl hS.1 (fx_g0 a_t) qw_29 H
    have H : Ev none e 67 52 [some (.ref 104), some (.ref t), some (.int av), some (.int c), some (.int i), c5] [.int (rI M (t + 1) i)] M v M' 0 0 := H
    have H : Ev none e 67 (if (rI M (t + 1) i) = 5 then 68 else 56) [some (.ref 104), some (.ref t), some (.int av), some (.int c), some (.int i), c5] [] M v M' 0 0 := Ev.back 2 (fun n => rfl) H
    by_cases h3 : (rI M (t + 1) i) = 5
    · rw [if_pos h3] at H
      have H : Ev none e 67 (if 1 = 0 then 137 else 80) [some (.ref 104), some (.ref t), some (.int av), some (.int c), some (.int i), some (.int 1)] [] M v M' 0 0 := Ev.back 5 (fun n => rfl) H
      rw [if_neg (by decide)] at H
      have H : Ev none e 67 85 [some (.ref 104), some (.ref t), some (.int av), some (.int c), some (.int i), some (.int 1)] [.int c, .int i, .ref t, .ref 104] M v M' 0 0 := Ev.back 4 (fun n => rfl) H
      obtain ⟨e1, rfl⟩ := Ev.dpos rfl rfl H
      obtain ⟨vK4, MK4, K4, H⟩ := Ev.callb (fun n_ => gs_7 rfl rfl (show gCal (.invokevirtual 212) 7 (.int c :: .int i :: .ref t :: .ref 104 :: []) M = some (.inr (70, [some (.ref 104), some (.ref t), some (.int i), some (.int c), none, none, none, none, none], [])) from by show @cond (Option ((List Value × Mem) ⊕ (Nat × Lo × List Value))) (true && gRecv M (.ref 104) 7 && gRoom [] && true) (some (.inr (70, [some (.ref 104), some (.ref t), some (.int i), some (.int c), none, none, none, none, none], []))) none = _; rw [recv_s hS.1 qa_104 qo_22]; rfl)) H
      have K4 : Ev none e1 70 0 [some (.ref 104), some (.ref t), some (.int i), some (.int c), none, none, none, none, none] [] M vK4 MK4 0 0 := K4
      have HF := H
      exact Or.inr (Or.inl ⟨h1, h3, b2, ⟨e1, vK4, MK4, rfl, K4, HF⟩⟩)
    · rw [if_neg h3] at H
      have H : Ev none e 67 57 [some (.ref 104), some (.ref t), some (.int av), some (.int c), some (.int i), c5] [.ref t] M v M' 0 0 := Ev.back 1 (fun n => rfl) H
      have H : Ev none e 67 60 [some (.ref 104), some (.ref t), some (.int av), some (.int c), some (.int i), c5] [.ref (t + 1)] M v M' 0 0 := Ev.back 1 (gs_3 rfl rfl (gf_x hS.1 a_t qo_28 (fx_t0 hS a_t) rfl)) H
      have H : Ev none e 67 62 [some (.ref 104), some (.ref t), some (.int av), some (.int c), some (.int i), c5] [.int i, .ref (t + 1)] M v M' 0 0 := Ev.back 1 (fun n => rfl) H
      obtain ⟨b5, H⟩ := Ev.ial rfl rfl hS.1 (fx_g0 a_t) qw_29 H
      have H : Ev none e 67 63 [some (.ref 104), some (.ref t), some (.int av), some (.int c), some (.int i), c5] [.int (rI M (t + 1) i)] M v M' 0 0 := H
      have H : Ev none e 67 (if (rI M (t + 1) i) = 6 then 68 else 72) [some (.ref 104), some (.ref t), some (.int av), some (.int c), some (.int i), c5] [] M v M' 0 0 := Ev.back 2 (fun n => rfl) H
      by_cases h6 : (rI M (t + 1) i) = 6
      · rw [if_pos h6] at H
        have H : Ev none e 67 (if 1 = 0 then 137 else 80) [some (.ref 104), some (.ref t), some (.int av), some (.int c), some (.int i), some (.int 1)] [] M v M' 0 0 := Ev.back 5 (fun n => rfl) H
        rw [if_neg (by decide)] at H
        have H : Ev none e 67 85 [some (.ref 104), some (.ref t), some (.int av), some (.int c), some (.int i), some (.int 1)] [.int c, .int i, .ref t, .ref 104] M v M' 0 0 := Ev.back 4 (fun n => rfl) H
        obtain ⟨e1, rfl⟩ := Ev.dpos rfl rfl H
        obtain ⟨vK7, MK7, K7, H⟩ := Ev.callb (fun n_ => gs_7 rfl rfl (show gCal (.invokevirtual 212) 7 (.int c :: .int i :: .ref t :: .ref 104 :: []) M = some (.inr (70, [some (.ref 104), some (.ref t), some (.int i), some (.int c), none, none, none, none, none], [])) from by show @cond (Option ((List Value × Mem) ⊕ (Nat × Lo × List Value))) (true && gRecv M (.ref 104) 7 && gRoom [] && true) (some (.inr (70, [some (.ref 104), some (.ref t), some (.int i), some (.int c), none, none, none, none, none], []))) none = _; rw [recv_s hS.1 qa_104 qo_22]; rfl)) H
        have K7 : Ev none e1 70 0 [some (.ref 104), some (.ref t), some (.int i), some (.int c), none, none, none, none, none] [] M vK7 MK7 0 0 := K7
        have HF := H
        exact Or.inr (Or.inr (Or.inl ⟨h1, h3, h6, b2, b5, ⟨e1, vK7, MK7, rfl, K7, HF⟩⟩))
      · rw [if_neg h6] at H
        have H : Ev none e 67 (if 0 = 0 then 137 else 80) [some (.ref 104), some (.ref t), some (.int av), some (.int c), some (.int i), some (.int 0)] [] M v M' 0 0 := Ev.back 4 (fun n => rfl) H
        rw [if_pos (by decide)] at H
        have H : Ev none e 67 36 [some (.ref 104), some (.ref t), some (.int av), some (.int c), some (.int (i + 1)), some (.int 0)] [] M v M' 0 0 := Ev.back 2 (fun n => rfl) H
        have HF := H
        exact Or.inr (Or.inr (Or.inr (⟨h1, h3, h6, b2, b5, HF⟩)))
theorem loo_88 {e : Nat} {M M' : Mem} {v : Option Value} {av c i y : Int32} {t : Nat} {c5 : Option Value} (hS : SQ M) (a_t : gNth sT t = some 28) (H : Ev none e 67 88 [some (.ref 104), some (.ref t), some (.int av), some (.int c), some (.int i), c5] [.int y] M v M' 0 0) : (y = 0 ∧ Ev none e 67 36 [some (.ref 104), some (.ref t), some (.int av), some (.int c), some (.int (i + 1)), c5] [] M v M' 0 0) ∨ (¬ (y = 0) ∧ (rI M (t + 1) i) = 6 ∧ (0 ≤ i.toInt ∧ i.toInt < 16) ∧ (0 ≤ av.toInt ∧ av.toInt < 1536) ∧ Ev none e 67 36 [some (.ref 104), some (.ref t), some (.int av), some (.int c), some (.int (i + 1)), c5] [] (wI M 128 av.toNatClampNeg 1) v M' 0 0) ∨ (¬ (y = 0) ∧ ¬ ((rI M (t + 1) i) = 6) ∧ (0 ≤ i.toInt ∧ i.toInt < 16) ∧ (0 ≤ i.toInt ∧ i.toInt < 16) ∧ (0 ≤ (rI M (t + 2) i).toInt ∧ (rI M (t + 2) i).toInt < 7) ∧ (0 ≤ av.toInt ∧ av.toInt < 1536) ∧ (0 ≤ i.toInt ∧ i.toInt < 16) ∧ (0 ≤ av.toInt ∧ av.toInt < 1536) ∧ Ev none e 67 36 [some (.ref 104), some (.ref t), some (.int av), some (.int c), some (.int (i + 1)), c5] [] (wI M (oI M 129 (rI M (t + 2) i)) av.toNatClampNeg ((rI M (oI M 129 (rI M (t + 2) i)) av) + (rI M (t + 3) i))) v M' 0 0) := by
  have H : Ev none e 67 (if y = 0 then 137 else 91) [some (.ref 104), some (.ref t), some (.int av), some (.int c), some (.int i), c5] [] M v M' 0 0 := Ev.back 1 (fun n => rfl) H
  by_cases h1 : y = 0
  · rw [if_pos h1] at H
    have H : Ev none e 67 36 [some (.ref 104), some (.ref t), some (.int av), some (.int c), some (.int (i + 1)), c5] [] M v M' 0 0 := Ev.back 2 (fun n => rfl) H
    have HF := H
    exact Or.inl ⟨h1, HF⟩
  · rw [if_neg h1] at H
    have H : Ev none e 67 92 [some (.ref 104), some (.ref t), some (.int av), some (.int c), some (.int i), c5] [.ref t] M v M' 0 0 := Ev.back 1 (fun n => rfl) H
    have H : Ev none e 67 95 [some (.ref 104), some (.ref t), some (.int av), some (.int c), some (.int i), c5] [.ref (t + 1)] M v M' 0 0 := Ev.back 1 (gs_3 rfl rfl (gf_x hS.1 a_t qo_28 (fx_t0 hS a_t) rfl)) H
    have H : Ev none e 67 97 [some (.ref 104), some (.ref t), some (.int av), some (.int c), some (.int i), c5] [.int i, .ref (t + 1)] M v M' 0 0 := Ev.back 1 (fun n => rfl) H
    obtain ⟨b2, H⟩ := Ev.ial rfl rfl hS.1 (fx_g0 a_t) qw_29 H
    have H : Ev none e 67 98 [some (.ref 104), some (.ref t), some (.int av), some (.int c), some (.int i), c5] [.int (rI M (t + 1) i)] M v M' 0 0 := H
    have H : Ev none e 67 (if (rI M (t + 1) i) = 6 then 103 else 113) [some (.ref 104), some (.ref t), some (.int av), some (.int c), some (.int i), c5] [] M v M' 0 0 := Ev.back 2 (fun n => rfl) H
    by_cases h3 : (rI M (t + 1) i) = 6
    · rw [if_pos h3] at H
      have H : Ev none e 67 104 [some (.ref 104), some (.ref t), some (.int av), some (.int c), some (.int i), c5] [.ref 104] M v M' 0 0 := Ev.back 1 (fun n => rfl) H
      have H : Ev none e 67 107 [some (.ref 104), some (.ref t), some (.int av), some (.int c), some (.int i), c5] [.ref 128] M v M' 0 0 := Ev.back 1 (gs_3 rfl rfl (gf_u hS.1 qa_104 qr_22_4 qu_37 rfl)) H
      have H : Ev none e 67 109 [some (.ref 104), some (.ref t), some (.int av), some (.int c), some (.int i), c5] [.int 1, .int av, .ref 128] M v M' 0 0 := Ev.back 2 (fun n => rfl) H
      obtain ⟨b4, H⟩ := Ev.ias rfl rfl hS.1 qa_128 qw_37 H
      obtain ⟨N5, eN5⟩ : ∃ N, N = (wI M 128 av.toNatClampNeg 1) := ⟨_, rfl⟩
      have hN5 : SQ N5 := by rw [eN5]; exact hS.ki
      have H : Ev none e 67 110 [some (.ref 104), some (.ref t), some (.int av), some (.int c), some (.int i), c5] [] N5 v M' 0 0 := by rw [eN5]; exact H
      have H : Ev none e 67 36 [some (.ref 104), some (.ref t), some (.int av), some (.int c), some (.int (i + 1)), c5] [] N5 v M' 0 0 := Ev.back 3 (fun n => rfl) H
      have HF := H
      subst eN5
      exact Or.inr (Or.inl ⟨h1, h3, b2, b4, HF⟩)
    · rw [if_neg h3] at H
      have H : Ev none e 67 114 [some (.ref 104), some (.ref t), some (.int av), some (.int c), some (.int i), c5] [.ref 104] M v M' 0 0 := Ev.back 1 (fun n => rfl) H
      have H : Ev none e 67 117 [some (.ref 104), some (.ref t), some (.int av), some (.int c), some (.int i), c5] [.ref 129] M v M' 0 0 := Ev.back 1 (gs_3 rfl rfl (gf_u hS.1 qa_104 qr_22_5 qu_38 rfl)) H
      have H : Ev none e 67 118 [some (.ref 104), some (.ref t), some (.int av), some (.int c), some (.int i), c5] [.ref t, .ref 129] M v M' 0 0 := Ev.back 1 (fun n => rfl) H
      have H : Ev none e 67 121 [some (.ref 104), some (.ref t), some (.int av), some (.int c), some (.int i), c5] [.ref (t + 2), .ref 129] M v M' 0 0 := Ev.back 1 (gs_3 rfl rfl (gf_x hS.1 a_t qo_28 (fx_t1 hS a_t) rfl)) H
      have H : Ev none e 67 123 [some (.ref 104), some (.ref t), some (.int av), some (.int c), some (.int i), c5] [.int i, .ref (t + 2), .ref 129] M v M' 0 0 := Ev.back 1 (fun n => rfl) H
      obtain ⟨b6, H⟩ := Ev.ial rfl rfl hS.1 (fx_g1 a_t) qw_30 H
      have H : Ev none e 67 124 [some (.ref 104), some (.ref t), some (.int av), some (.int c), some (.int i), c5] [.int (rI M (t + 2) i), .ref 129] M v M' 0 0 := H
      obtain ⟨b7, H⟩ := Ev.aal rfl rfl hS.1 qa_129 qz_38 H
      have H : Ev none e 67 125 [some (.ref 104), some (.ref t), some (.int av), some (.int c), some (.int i), c5] [.ref (oI M 129 (rI M (t + 2) i))] M v M' 0 0 := H
      have H : Ev none e 67 127 [some (.ref 104), some (.ref t), some (.int av), some (.int c), some (.int i), c5] [.int av, .ref (oI M 129 (rI M (t + 2) i)), .int av, .ref (oI M 129 (rI M (t + 2) i))] M v M' 0 0 := Ev.back 2 (fun n => rfl) H
      obtain ⟨b8, H⟩ := Ev.ial rfl rfl hS.1 b7.2 qw_39 H
      have H : Ev none e 67 128 [some (.ref 104), some (.ref t), some (.int av), some (.int c), some (.int i), c5] [.int (rI M (oI M 129 (rI M (t + 2) i)) av), .int av, .ref (oI M 129 (rI M (t + 2) i))] M v M' 0 0 := H
      have H : Ev none e 67 129 [some (.ref 104), some (.ref t), some (.int av), some (.int c), some (.int i), c5] [.ref t, .int (rI M (oI M 129 (rI M (t + 2) i)) av), .int av, .ref (oI M 129 (rI M (t + 2) i))] M v M' 0 0 := Ev.back 1 (fun n => rfl) H
      have H : Ev none e 67 132 [some (.ref 104), some (.ref t), some (.int av), some (.int c), some (.int i), c5] [.ref (t + 3), .int (rI M (oI M 129 (rI M (t + 2) i)) av), .int av, .ref (oI M 129 (rI M (t + 2) i))] M v M' 0 0 := Ev.back 1 (gs_3 rfl rfl (gf_x hS.1 a_t qo_28 (fx_t2 hS a_t) rfl)) H
      have H : Ev none e 67 134 [some (.ref 104), some (.ref t), some (.int av), some (.int c), some (.int i), c5] [.int i, .ref (t + 3), .int (rI M (oI M 129 (rI M (t + 2) i)) av), .int av, .ref (oI M 129 (rI M (t + 2) i))] M v M' 0 0 := Ev.back 1 (fun n => rfl) H
      obtain ⟨b9, H⟩ := Ev.ial rfl rfl hS.1 (fx_g2 a_t) qw_31 H
      have H : Ev none e 67 135 [some (.ref 104), some (.ref t), some (.int av), some (.int c), some (.int i), c5] [.int (rI M (t + 3) i), .int (rI M (oI M 129 (rI M (t + 2) i)) av), .int av, .ref (oI M 129 (rI M (t + 2) i))] M v M' 0 0 := H
      have H : Ev none e 67 136 [some (.ref 104), some (.ref t), some (.int av), some (.int c), some (.int i), c5] [.int ((rI M (oI M 129 (rI M (t + 2) i)) av) + (rI M (t + 3) i)), .int av, .ref (oI M 129 (rI M (t + 2) i))] M v M' 0 0 := Ev.back 1 (fun n => rfl) H
      obtain ⟨b10, H⟩ := Ev.ias rfl rfl hS.1 b7.2 qw_39 H
      obtain ⟨N11, eN11⟩ : ∃ N, N = (wI M (oI M 129 (rI M (t + 2) i)) av.toNatClampNeg ((rI M (oI M 129 (rI M (t + 2) i)) av) + (rI M (t + 3) i))) := ⟨_, rfl⟩
      have hN11 : SQ N11 := by rw [eN11]; exact hS.ki
      have H : Ev none e 67 137 [some (.ref 104), some (.ref t), some (.int av), some (.int c), some (.int i), c5] [] N11 v M' 0 0 := by rw [eN11]; exact H
      have H : Ev none e 67 36 [some (.ref 104), some (.ref t), some (.int av), some (.int c), some (.int (i + 1)), c5] [] N11 v M' 0 0 := Ev.back 2 (fun n => rfl) H
      have HF := H
      subst eN11
      exact Or.inr (Or.inr (⟨h1, h3, b2, b6, b7.1, b8, b9, b10, HF⟩))
