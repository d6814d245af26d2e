/-! THE CLASS'S READER: pieces of the parser (made by gcl.py) -/
theorem amq_0 {e : Nat} {M M' : Mem} {v : Option Value} {aw : Nat} (hS : SQ M) (H : Ev none e 32 0 [some (.ref 3), some (.retAddr aw), none, none, none, none, none, none] [] M v M' 0 0) : ((zI M 3 7) = 2 ∧ Ev none e 32 44 [some (.ref 3), some (.retAddr aw), some (.int (rI M 5 (zI M 3 6))), some (.int ((rI M 6 (zI M 3 6)) - (rI M 5 (zI M 3 6)))), some (.int 0), some (.int 0), some (.int 1), some (.int 0)] [] M v M' 0 0) ∨ (¬ ((zI M 3 7) = 2) ∧ v = some (.int (-1)) ∧ M' = M) := by
  have H : Ev none e 32 1 [some (.ref 3), some (.retAddr aw), none, none, none, none, none, none] [.ref 3] M v M' 0 0 := Ev.back 1 (fun n => rfl) H
  have H : Ev none e 32 4 [some (.ref 3), some (.retAddr aw), none, none, none, none, none, none] [.int (zI M 3 7)] M v M' 0 0 := Ev.back 1 (gs_3 rfl rfl (gf_i hS.1 qa_3 qi_3_7 rfl)) H
  have H : Ev none e 32 (if (zI M 3 7) = 2 then 10 else 8) [some (.ref 3), some (.retAddr aw), none, none, none, none, none, none] [] M v M' 0 0 := Ev.back 2 (fun n => rfl) H
  by_cases h1 : (zI M 3 7) = 2
  · rw [if_pos h1] at H
    have H : Ev none e 32 11 [some (.ref 3), some (.retAddr aw), none, none, none, none, none, none] [.ref 3] M v M' 0 0 := Ev.back 1 (fun n => rfl) H
    have H : Ev none e 32 14 [some (.ref 3), some (.retAddr aw), none, none, none, none, none, none] [.ref 5] M v M' 0 0 := Ev.back 1 (gs_3 rfl rfl (gf_u hS.1 qa_3 qr_3_2 qu_5 rfl)) H
    have H : Ev none e 32 15 [some (.ref 3), some (.retAddr aw), none, none, none, none, none, none] [.ref 3, .ref 5] M v M' 0 0 := Ev.back 1 (fun n => rfl) H
    have H : Ev none e 32 18 [some (.ref 3), some (.retAddr aw), none, none, none, none, none, none] [.int (zI M 3 6), .ref 5] M v M' 0 0 := Ev.back 1 (gs_3 rfl rfl (gf_i hS.1 qa_3 qi_3_6 rfl)) H
    obtain ⟨b2, H⟩ := Ev.ial rfl rfl hS.1 qa_5 qw_5 H
    have H : Ev none e 32 19 [some (.ref 3), some (.retAddr aw), none, none, none, none, none, none] [.int (rI M 5 (zI M 3 6))] M v M' 0 0 := H
    have H : Ev none e 32 21 [some (.ref 3), some (.retAddr aw), some (.int (rI M 5 (zI M 3 6))), none, none, none, none, none] [.ref 3] M v M' 0 0 := Ev.back 2 (fun n => rfl) H
    have H : Ev none e 32 24 [some (.ref 3), some (.retAddr aw), some (.int (rI M 5 (zI M 3 6))), none, none, none, none, none] [.ref 6] M v M' 0 0 := Ev.back 1 (gs_3 rfl rfl (gf_u hS.1 qa_3 qr_3_3 qu_6 rfl)) H
    have H : Ev none e 32 25 [some (.ref 3), some (.retAddr aw), some (.int (rI M 5 (zI M 3 6))), none, none, none, none, none] [.ref 3, .ref 6] M v M' 0 0 := Ev.back 1 (fun n => rfl) H
    have H : Ev none e 32 28 [some (.ref 3), some (.retAddr aw), some (.int (rI M 5 (zI M 3 6))), none, none, none, none, none] [.int (zI M 3 6), .ref 6] M v M' 0 0 := Ev.back 1 (gs_3 rfl rfl (gf_i hS.1 qa_3 qi_3_6 rfl)) H
    obtain ⟨b3, H⟩ := Ev.ial rfl rfl hS.1 qa_6 qw_6 H
    have H : Ev none e 32 29 [some (.ref 3), some (.retAddr aw), some (.int (rI M 5 (zI M 3 6))), none, none, none, none, none] [.int (rI M 6 (zI M 3 6))] M v M' 0 0 := H
    have H : Ev none e 32 44 [some (.ref 3), some (.retAddr aw), some (.int (rI M 5 (zI M 3 6))), some (.int ((rI M 6 (zI M 3 6)) - (rI M 5 (zI M 3 6)))), some (.int 0), some (.int 0), some (.int 1), some (.int 0)] [] M v M' 0 0 := Ev.back 11 (fun n => rfl) H
    have HF := H
    exact Or.inl ⟨h1, HF⟩
  · rw [if_neg h1] at H
    have H : Ev none e 32 9 [some (.ref 3), some (.retAddr aw), none, none, none, none, none, none] [.int (-1)] M v M' 0 0 := Ev.back 1 (fun n => rfl) H
    obtain ⟨z1, z2⟩ := Ev.retz rfl rfl H
    exact Or.inr (⟨h1, z1, z2⟩)
theorem amq_44 {e : Nat} {M M' : Mem} {v : Option Value} {st ln ix aq sm i : Int32} {aw : Nat} (hS : SQ M) (H : Ev none e 32 44 [some (.ref 3), some (.retAddr aw), some (.int st), some (.int ln), some (.int ix), some (.int aq), some (.int sm), some (.int i)] [] M v M' 0 0) : ((Int32.ofNat (gTx (aw - 10)).length) < i ∧ v = some (.int (-1)) ∧ M' = M) ∨ (¬ ((Int32.ofNat (gTx (aw - 10)).length) < i) ∧ i = (Int32.ofNat (gTx (aw - 10)).length) ∧ sm = 0 ∧ Ev none e 32 44 [some (.ref 3), some (.retAddr aw), some (.int st), some (.int ln), some (.int (ix + 1)), some (.int (i + 1)), some (.int 1), some (.int (i + 1))] [] M v M' 0 0) ∨ (¬ ((Int32.ofNat (gTx (aw - 10)).length) < i) ∧ i = (Int32.ofNat (gTx (aw - 10)).length) ∧ ¬ (sm = 0) ∧ (i - aq) = ln ∧ v = some (.int ix) ∧ M' = M) ∨ (¬ ((Int32.ofNat (gTx (aw - 10)).length) < i) ∧ i = (Int32.ofNat (gTx (aw - 10)).length) ∧ ¬ (sm = 0) ∧ ¬ ((i - aq) = ln) ∧ Ev none e 32 44 [some (.ref 3), some (.retAddr aw), some (.int st), some (.int ln), some (.int (ix + 1)), some (.int (i + 1)), some (.int 1), some (.int (i + 1))] [] M v M' 0 0) ∨ (¬ ((Int32.ofNat (gTx (aw - 10)).length) < i) ∧ ¬ (i = (Int32.ofNat (gTx (aw - 10)).length)) ∧ (cI (aw - 10) i) = 32 ∧ sm = 0 ∧ Ev none e 32 44 [some (.ref 3), some (.retAddr aw), some (.int st), some (.int ln), some (.int (ix + 1)), some (.int (i + 1)), some (.int 1), some (.int (i + 1))] [] M v M' 0 0) ∨ (¬ ((Int32.ofNat (gTx (aw - 10)).length) < i) ∧ ¬ (i = (Int32.ofNat (gTx (aw - 10)).length)) ∧ (cI (aw - 10) i) = 32 ∧ ¬ (sm = 0) ∧ (i - aq) = ln ∧ v = some (.int ix) ∧ M' = M) ∨ (¬ ((Int32.ofNat (gTx (aw - 10)).length) < i) ∧ ¬ (i = (Int32.ofNat (gTx (aw - 10)).length)) ∧ (cI (aw - 10) i) = 32 ∧ ¬ (sm = 0) ∧ ¬ ((i - aq) = ln) ∧ Ev none e 32 44 [some (.ref 3), some (.retAddr aw), some (.int st), some (.int ln), some (.int (ix + 1)), some (.int (i + 1)), some (.int 1), some (.int (i + 1))] [] M v M' 0 0) ∨ (¬ ((Int32.ofNat (gTx (aw - 10)).length) < i) ∧ ¬ (i = (Int32.ofNat (gTx (aw - 10)).length)) ∧ ¬ ((cI (aw - 10) i) = 32) ∧ sm = 0 ∧ Ev none e 32 44 [some (.ref 3), some (.retAddr aw), some (.int st), some (.int ln), some (.int ix), some (.int aq), some (.int 0), some (.int (i + 1))] [] M v M' 0 0) ∨ (¬ ((Int32.ofNat (gTx (aw - 10)).length) < i) ∧ ¬ (i = (Int32.ofNat (gTx (aw - 10)).length)) ∧ ¬ ((cI (aw - 10) i) = 32) ∧ ¬ (sm = 0) ∧ ln ≤ (i - aq) ∧ Ev none e 32 44 [some (.ref 3), some (.retAddr aw), some (.int st), some (.int ln), some (.int ix), some (.int aq), some (.int 0), some (.int (i + 1))] [] M v M' 0 0) ∨ (¬ ((Int32.ofNat (gTx (aw - 10)).length) < i) ∧ ¬ (i = (Int32.ofNat (gTx (aw - 10)).length)) ∧ ¬ ((cI (aw - 10) i) = 32) ∧ ¬ (sm = 0) ∧ ¬ (ln ≤ (i - aq)) ∧ (cI (aw - 10) i) = (rI M 2 ((st + i) - aq)) ∧ Ev none e 32 44 [some (.ref 3), some (.retAddr aw), some (.int st), some (.int ln), some (.int ix), some (.int aq), some (.int 1), some (.int (i + 1))] [] M v M' 0 0) ∨ (¬ ((Int32.ofNat (gTx (aw - 10)).length) < i) ∧ ¬ (i = (Int32.ofNat (gTx (aw - 10)).length)) ∧ ¬ ((cI (aw - 10) i) = 32) ∧ ¬ (sm = 0) ∧ ¬ (ln ≤ (i - aq)) ∧ ¬ ((cI (aw - 10) i) = (rI M 2 ((st + i) - aq))) ∧ Ev none e 32 44 [some (.ref 3), some (.retAddr aw), some (.int st), some (.int ln), some (.int ix), some (.int aq), some (.int 0), some (.int (i + 1))] [] M v M' 0 0) := by
  have H : Ev none e 32 47 [some (.ref 3), some (.retAddr aw), some (.int st), some (.int ln), some (.int ix), some (.int aq), some (.int sm), some (.int i)] [.retAddr aw, .int i] M v M' 0 0 := Ev.back 2 (fun n => rfl) H
  have H : Ev none e 32 50 [some (.ref 3), some (.retAddr aw), some (.int st), some (.int ln), some (.int ix), some (.int aq), some (.int sm), some (.int i)] [.int (Int32.ofNat (gTx (aw - 10)).length), .int i] M v M' 0 0 := Ev.len rfl rfl (fun _ _ => rfl) H
  have H : Ev none e 32 (if (Int32.ofNat (gTx (aw - 10)).length) < i then 156 else 53) [some (.ref 3), some (.retAddr aw), some (.int st), some (.int ln), some (.int ix), some (.int aq), some (.int sm), some (.int i)] [] M v M' 0 0 := Ev.back 1 (fun n => rfl) H
  by_cases h1 : (Int32.ofNat (gTx (aw - 10)).length) < i
  · rw [if_pos h1] at H
    have H : Ev none e 32 157 [some (.ref 3), some (.retAddr aw), some (.int st), some (.int ln), some (.int ix), some (.int aq), some (.int sm), some (.int i)] [.int (-1)] M v M' 0 0 := Ev.back 1 (fun n => rfl) H
    obtain ⟨z1, z2⟩ := Ev.retz rfl rfl H
    exact Or.inl ⟨h1, z1, z2⟩
  · rw [if_neg h1] at H
    have H : Ev none e 32 56 [some (.ref 3), some (.retAddr aw), some (.int st), some (.int ln), some (.int ix), some (.int aq), some (.int sm), some (.int i)] [.retAddr aw, .int i] M v M' 0 0 := Ev.back 2 (fun n => rfl) H
    have H : Ev none e 32 59 [some (.ref 3), some (.retAddr aw), some (.int st), some (.int ln), some (.int ix), some (.int aq), some (.int sm), some (.int i)] [.int (Int32.ofNat (gTx (aw - 10)).length), .int i] M v M' 0 0 := Ev.len rfl rfl (fun _ _ => rfl) H
    have H : Ev none e 32 (if i = (Int32.ofNat (gTx (aw - 10)).length) then 73 else 62) [some (.ref 3), some (.retAddr aw), some (.int st), some (.int ln), some (.int ix), some (.int aq), some (.int sm), some (.int i)] [] M v M' 0 0 := Ev.back 1 (fun n => rfl) H
    by_cases h2 : i = (Int32.ofNat (gTx (aw - 10)).length)
    · rw [if_pos h2] at H
      have H : Ev none e 32 (if sm = 0 then 90 else 78) [some (.ref 3), some (.retAddr aw), some (.int st), some (.int ln), some (.int ix), some (.int aq), some (.int sm), some (.int i)] [] M v M' 0 0 := Ev.back 2 (fun n => rfl) H
      by_cases h3 : sm = 0
      · rw [if_pos h3] at H
        have H : Ev none e 32 44 [some (.ref 3), some (.retAddr aw), some (.int st), some (.int ln), some (.int (ix + 1)), some (.int (i + 1)), some (.int 1), some (.int (i + 1))] [] M v M' 0 0 := Ev.back 10 (fun n => rfl) H
        have HF := H
        exact Or.inr (Or.inl ⟨h1, h2, h3, HF⟩)
      · rw [if_neg h3] at H
        have H : Ev none e 32 (if (i - aq) = ln then 87 else 90) [some (.ref 3), some (.retAddr aw), some (.int st), some (.int ln), some (.int ix), some (.int aq), some (.int sm), some (.int i)] [] M v M' 0 0 := Ev.back 5 (fun n => rfl) H
        by_cases h4 : (i - aq) = ln
        · rw [if_pos h4] at H
          have H : Ev none e 32 89 [some (.ref 3), some (.retAddr aw), some (.int st), some (.int ln), some (.int ix), some (.int aq), some (.int sm), some (.int i)] [.int ix] M v M' 0 0 := Ev.back 1 (fun n => rfl) H
          obtain ⟨z1, z2⟩ := Ev.retz rfl rfl H
          exact Or.inr (Or.inr (Or.inl ⟨h1, h2, h3, h4, z1, z2⟩))
        · rw [if_neg h4] at H
          have H : Ev none e 32 44 [some (.ref 3), some (.retAddr aw), some (.int st), some (.int ln), some (.int (ix + 1)), some (.int (i + 1)), some (.int 1), some (.int (i + 1))] [] M v M' 0 0 := Ev.back 10 (fun n => rfl) H
          have HF := H
          exact Or.inr (Or.inr (Or.inr (Or.inl ⟨h1, h2, h3, h4, HF⟩)))
    · rw [if_neg h2] at H
      have H : Ev none e 32 65 [some (.ref 3), some (.retAddr aw), some (.int st), some (.int ln), some (.int ix), some (.int aq), some (.int sm), some (.int i)] [.int i, .retAddr aw] M v M' 0 0 := Ev.back 2 (fun n => rfl) H
      have H : Ev none e 32 68 [some (.ref 3), some (.retAddr aw), some (.int st), some (.int ln), some (.int ix), some (.int aq), some (.int sm), some (.int i)] [.int (cI (aw - 10) i)] M v M' 0 0 := Ev.cha rfl rfl (fun _ _ => rfl) H
      have H : Ev none e 32 (if (cI (aw - 10) i) = 32 then 73 else 105) [some (.ref 3), some (.retAddr aw), some (.int st), some (.int ln), some (.int ix), some (.int aq), some (.int sm), some (.int i)] [] M v M' 0 0 := Ev.back 2 (fun n => rfl) H
      by_cases h5 : (cI (aw - 10) i) = 32
      · rw [if_pos h5] at H
        have H : Ev none e 32 (if sm = 0 then 90 else 78) [some (.ref 3), some (.retAddr aw), some (.int st), some (.int ln), some (.int ix), some (.int aq), some (.int sm), some (.int i)] [] M v M' 0 0 := Ev.back 2 (fun n => rfl) H
        by_cases h6 : sm = 0
        · rw [if_pos h6] at H
          have H : Ev none e 32 44 [some (.ref 3), some (.retAddr aw), some (.int st), some (.int ln), some (.int (ix + 1)), some (.int (i + 1)), some (.int 1), some (.int (i + 1))] [] M v M' 0 0 := Ev.back 10 (fun n => rfl) H
          have HF := H
          exact Or.inr (Or.inr (Or.inr (Or.inr (Or.inl ⟨h1, h2, h5, h6, HF⟩))))
        · rw [if_neg h6] at H
          have H : Ev none e 32 (if (i - aq) = ln then 87 else 90) [some (.ref 3), some (.retAddr aw), some (.int st), some (.int ln), some (.int ix), some (.int aq), some (.int sm), some (.int i)] [] M v M' 0 0 := Ev.back 5 (fun n => rfl) H
          by_cases h7 : (i - aq) = ln
          · rw [if_pos h7] at H
            have H : Ev none e 32 89 [some (.ref 3), some (.retAddr aw), some (.int st), some (.int ln), some (.int ix), some (.int aq), some (.int sm), some (.int i)] [.int ix] M v M' 0 0 := Ev.back 1 (fun n => rfl) H
            obtain ⟨z1, z2⟩ := Ev.retz rfl rfl H
            exact Or.inr (Or.inr (Or.inr (Or.inr (Or.inr (Or.inl ⟨h1, h2, h5, h6, h7, z1, z2⟩)))))
          · rw [if_neg h7] at H
            have H : Ev none e 32 44 [some (.ref 3), some (.retAddr aw), some (.int st), some (.int ln), some (.int (ix + 1)), some (.int (i + 1)), some (.int 1), some (.int (i + 1))] [] M v M' 0 0 := Ev.back 10 (fun n => rfl) H
            have HF := H
            exact Or.inr (Or.inr (Or.inr (Or.inr (Or.inr (Or.inr (Or.inl ⟨h1, h2, h5, h6, h7, HF⟩))))))
      · rw [if_neg h5] at H
        have H : Ev none e 32 (if sm = 0 then 147 else 110) [some (.ref 3), some (.retAddr aw), some (.int st), some (.int ln), some (.int ix), some (.int aq), some (.int sm), some (.int i)] [] M v M' 0 0 := Ev.back 2 (fun n => rfl) H
        by_cases h8 : sm = 0
        · rw [if_pos h8] at H
          have H : Ev none e 32 44 [some (.ref 3), some (.retAddr aw), some (.int st), some (.int ln), some (.int ix), some (.int aq), some (.int 0), some (.int (i + 1))] [] M v M' 0 0 := Ev.back 4 (fun n => rfl) H
          have HF := H
          exact Or.inr (Or.inr (Or.inr (Or.inr (Or.inr (Or.inr (Or.inr (Or.inl ⟨h1, h2, h5, h8, HF⟩)))))))
        · rw [if_neg h8] at H
          have H : Ev none e 32 (if ln ≤ (i - aq) then 147 else 119) [some (.ref 3), some (.retAddr aw), some (.int st), some (.int ln), some (.int ix), some (.int aq), some (.int sm), some (.int i)] [] M v M' 0 0 := Ev.back 5 (fun n => rfl) H
          by_cases h9 : ln ≤ (i - aq)
          · rw [if_pos h9] at H
            have H : Ev none e 32 44 [some (.ref 3), some (.retAddr aw), some (.int st), some (.int ln), some (.int ix), some (.int aq), some (.int 0), some (.int (i + 1))] [] M v M' 0 0 := Ev.back 4 (fun n => rfl) H
            have HF := H
            exact Or.inr (Or.inr (Or.inr (Or.inr (Or.inr (Or.inr (Or.inr (Or.inr (Or.inl ⟨h1, h2, h5, h8, h9, HF⟩))))))))
          · rw [if_neg h9] at H
            have H : Ev none e 32 122 [some (.ref 3), some (.retAddr aw), some (.int st), some (.int ln), some (.int ix), some (.int aq), some (.int sm), some (.int i)] [.int i, .retAddr aw] M v M' 0 0 := Ev.back 2 (fun n => rfl) H
            have H : Ev none e 32 125 [some (.ref 3), some (.retAddr aw), some (.int st), some (.int ln), some (.int ix), some (.int aq), some (.int sm), some (.int i)] [.int (cI (aw - 10) i)] M v M' 0 0 := Ev.cha rfl rfl (fun _ _ => rfl) H
            have H : Ev none e 32 126 [some (.ref 3), some (.retAddr aw), some (.int st), some (.int ln), some (.int ix), some (.int aq), some (.int sm), some (.int i)] [.ref 3, .int (cI (aw - 10) i)] M v M' 0 0 := Ev.back 1 (fun n => rfl) H
            have H : Ev none e 32 129 [some (.ref 3), some (.retAddr aw), some (.int st), some (.int ln), some (.int ix), some (.int aq), some (.int sm), some (.int i)] [.ref 1, .int (cI (aw - 10) i)] M v M' 0 0 := Ev.back 1 (gs_3 rfl rfl (gf_u hS.1 qa_3 qr_3_0 qu_1 rfl)) H
            have H : Ev none e 32 132 [some (.ref 3), some (.retAddr aw), some (.int st), some (.int ln), some (.int ix), some (.int aq), some (.int sm), some (.int i)] [.ref 2, .int (cI (aw - 10) i)] M v M' 0 0 := Ev.back 1 (gs_3 rfl rfl (gf_u hS.1 qa_1 qr_1_0 qu_2 rfl)) H
            have H : Ev none e 32 139 [some (.ref 3), some (.retAddr aw), some (.int st), some (.int ln), some (.int ix), some (.int aq), some (.int sm), some (.int i)] [.int ((st + i) - aq), .ref 2, .int (cI (aw - 10) i)] M v M' 0 0 := Ev.back 5 (fun n => rfl) H
            obtain ⟨b10, H⟩ := Ev.ial rfl rfl hS.1 qa_2 qw_2 H
            have H : Ev none e 32 140 [some (.ref 3), some (.retAddr aw), some (.int st), some (.int ln), some (.int ix), some (.int aq), some (.int sm), some (.int i)] [.int (rI M 2 ((st + i) - aq)), .int (cI (aw - 10) i)] M v M' 0 0 := H
            have H : Ev none e 32 (if (cI (aw - 10) i) = (rI M 2 ((st + i) - aq)) then 143 else 147) [some (.ref 3), some (.retAddr aw), some (.int st), some (.int ln), some (.int ix), some (.int aq), some (.int sm), some (.int i)] [] M v M' 0 0 := Ev.back 1 (fun n => rfl) H
            by_cases h11 : (cI (aw - 10) i) = (rI M 2 ((st + i) - aq))
            · rw [if_pos h11] at H
              have H : Ev none e 32 44 [some (.ref 3), some (.retAddr aw), some (.int st), some (.int ln), some (.int ix), some (.int aq), some (.int 1), some (.int (i + 1))] [] M v M' 0 0 := Ev.back 5 (fun n => rfl) H
              have HF := H
              exact Or.inr (Or.inr (Or.inr (Or.inr (Or.inr (Or.inr (Or.inr (Or.inr (Or.inr (Or.inl ⟨h1, h2, h5, h8, h9, h11, HF⟩)))))))))
            · rw [if_neg h11] at H
              have H : Ev none e 32 44 [some (.ref 3), some (.retAddr aw), some (.int st), some (.int ln), some (.int ix), some (.int aq), some (.int 0), some (.int (i + 1))] [] M v M' 0 0 := Ev.back 4 (fun n => rfl) H
              have HF := H
              exact Or.inr (Or.inr (Or.inr (Or.inr (Or.inr (Or.inr (Or.inr (Or.inr (Or.inr (Or.inr (⟨h1, h2, h5, h8, h9, h11, HF⟩))))))))))
