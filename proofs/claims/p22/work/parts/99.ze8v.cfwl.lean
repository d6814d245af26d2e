/-! THE CLASS'S first line of a weight: pieces (made by gwal7.py) -/
theorem fwl_0 {e : Nat} {M M' : Mem} {v : Option Value} {x : Nat} (hS : SQ M) (a_x : gNth sT x = some 28) (H : Ev none e 52 0 [some (.ref x), none] [] M v M' 0 0) : Ev none e 52 2 [some (.ref x), some (.int 0)] [] M v M' 0 0 := by
  have H : Ev none e 52 2 [some (.ref x), some (.int 0)] [] M v M' 0 0 := Ev.back 2 (fun n => rfl) H
  have HF := H
  exact HF
theorem fwl_2 {e : Nat} {M M' : Mem} {v : Option Value} {i : Int32} {x : Nat} (hS : SQ M) (a_x : gNth sT x = some 28) (H : Ev none e 52 2 [some (.ref x), some (.int i)] [] M v M' 0 0) : ((zI M x 8) ≤ i ∧ v = some (.int (-1)) ∧ M' = M) ∨ (¬ ((zI M x 8) ≤ i) ∧ (rI M (x + 1) i) = 5 ∧ (rI M (x + 2) i) = 6 ∧ (0 ≤ i.toInt ∧ i.toInt < 16) ∧ (0 ≤ i.toInt ∧ i.toInt < 16) ∧ v = some (.int i) ∧ M' = M) ∨ (¬ ((zI M x 8) ≤ i) ∧ (rI M (x + 1) i) = 5 ∧ ¬ ((rI M (x + 2) i) = 6) ∧ (0 ≤ i.toInt ∧ i.toInt < 16) ∧ (0 ≤ i.toInt ∧ i.toInt < 16) ∧ Ev none e 52 2 [some (.ref x), some (.int (i + 1))] [] M v M' 0 0) ∨ (¬ ((zI M x 8) ≤ i) ∧ ¬ ((rI M (x + 1) i) = 5) ∧ (0 ≤ i.toInt ∧ i.toInt < 16) ∧ Ev none e 52 2 [some (.ref x), some (.int (i + 1))] [] M v M' 0 0) := by
  have H : Ev none e 52 4 [some (.ref x), some (.int i)] [.ref x, .int i] M v M' 0 0 := Ev.back 2 (fun n => rfl) H
  have H : Ev none e 52 7 [some (.ref x), some (.int i)] [.int (zI M x 8), .int i] M v M' 0 0 := Ev.back 1 (gs_3 rfl rfl (gf_i hS.1 a_x qi_28_8 rfl)) H
  have H : Ev none e 52 (if (zI M x 8) ≤ i then 39 else 10) [some (.ref x), some (.int i)] [] M v M' 0 0 := Ev.back 1 (fun n => rfl) H
  by_cases h1 : (zI M x 8) ≤ i
  · rw [if_pos h1] at H
    have H : Ev none e 52 40 [some (.ref x), some (.int i)] [.int (-1)] M v M' 0 0 := Ev.back 1 (fun n => rfl) H
    obtain ⟨z1, z2⟩ := Ev.retz rfl rfl H
    exact Or.inl ⟨h1, z1, z2⟩
  · rw [if_neg h1] at H
    have H : Ev none e 52 11 [some (.ref x), some (.int i)] [.ref x] M v M' 0 0 := Ev.back 1 (fun n => rfl) H
    have H : Ev none e 52 14 [some (.ref x), some (.int i)] [.ref (x + 1)] M v M' 0 0 := Ev.back 1 (gs_3 rfl rfl (gf_x hS.1 a_x qo_28 (fx_t0 hS a_x) rfl)) H
    have H : Ev none e 52 15 [some (.ref x), some (.int i)] [.int i, .ref (x + 1)] M v M' 0 0 := Ev.back 1 (fun n => rfl) H
    obtain ⟨b2, H⟩ := Ev.ial rfl rfl hS.1 (fx_g0 a_x) qw_29 H
    have H : Ev none e 52 16 [some (.ref x), some (.int i)] [.int (rI M (x + 1) i)] M v M' 0 0 := H
    have H : Ev none e 52 (if (rI M (x + 1) i) = 5 then 20 else 33) [some (.ref x), some (.int i)] [] M v M' 0 0 := Ev.back 2 (fun n => rfl) H
    by_cases h3 : (rI M (x + 1) i) = 5
    · rw [if_pos h3] at H
      have H : Ev none e 52 21 [some (.ref x), some (.int i)] [.ref x] M v M' 0 0 := Ev.back 1 (fun n => rfl) H
      have H : Ev none e 52 24 [some (.ref x), some (.int i)] [.ref (x + 2)] M v M' 0 0 := Ev.back 1 (gs_3 rfl rfl (gf_x hS.1 a_x qo_28 (fx_t1 hS a_x) rfl)) H
      have H : Ev none e 52 25 [some (.ref x), some (.int i)] [.int i, .ref (x + 2)] M v M' 0 0 := Ev.back 1 (fun n => rfl) H
      obtain ⟨b4, H⟩ := Ev.ial rfl rfl hS.1 (fx_g1 a_x) qw_30 H
      have H : Ev none e 52 26 [some (.ref x), some (.int i)] [.int (rI M (x + 2) i)] M v M' 0 0 := H
      have H : Ev none e 52 (if (rI M (x + 2) i) = 6 then 31 else 33) [some (.ref x), some (.int i)] [] M v M' 0 0 := Ev.back 2 (fun n => rfl) H
      by_cases h5 : (rI M (x + 2) i) = 6
      · rw [if_pos h5] at H
        have H : Ev none e 52 32 [some (.ref x), some (.int i)] [.int i] M v M' 0 0 := Ev.back 1 (fun n => rfl) H
        obtain ⟨z1, z2⟩ := Ev.retz rfl rfl H
        exact Or.inr (Or.inl ⟨h1, h3, h5, b2, b4, z1, z2⟩)
      · rw [if_neg h5] at H
        have H : Ev none e 52 2 [some (.ref x), some (.int (i + 1))] [] M v M' 0 0 := Ev.back 2 (fun n => rfl) H
        have HF := H
        exact Or.inr (Or.inr (Or.inl ⟨h1, h3, h5, b2, b4, HF⟩))
    · rw [if_neg h3] at H
      have H : Ev none e 52 2 [some (.ref x), some (.int (i + 1))] [] M v M' 0 0 := Ev.back 2 (fun n => rfl) H
      have HF := H
      exact Or.inr (Or.inr (Or.inr (⟨h1, h3, b2, HF⟩)))
