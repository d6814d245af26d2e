/-! WALKER, COUNT, FENCEAT, WAYAT of both sides: pieces (made by gwal8.py) -/
section ALEN
variable {d me pc c s a g n o np kf mx : Nat} {y : MethodName} {cc : ByteArray} {ret : Option FieldType} {tab : List (Nat × Nat × Instr)} {ls : Lo} {st : List Value} {M M' : Mem} {v : Option Value}
theorem Ev.alen (hrow : gNth mRs me = some (o, y, cc, mx, ret, np, kf, tab)) (hl : gLook tab pc = some (3, .arraylength)) (hS : SH M) (ha : gNth sT a = some g) (hB : wB g 1 n = true) (h : Ev none d me pc ls (.ref a :: st) M v M' c s) : Ev none d me (pc + 1) ls (.int (Int32.ofNat n) :: st) M v M' c s := by
  obtain ⟨st1, M1, e, h⟩ := Ev.get hrow hl h
  obtain ⟨h1, h2⟩ := hS.row ha hB
  have e : (match gNth M a with
    | some (.inl (1, .inl l)) => some (Value.int (Int32.ofNat (gLn l)) :: st, M)
    | some (.inl (3, .inl l)) => some (Value.int (Int32.ofNat (gLn l)) :: st, M)
    | _ => none) = some (st1, M1) := e
  rw [h1] at e
  have e : some (Value.int (Int32.ofNat (gLn (zrw M a))) :: st, M) = some (st1, M1) := e
  rw [ln_eq, h2] at e
  cases e
  exact h
end ALEN
theorem wkr_0 {e : Nat} {M M' : Mem} {v : Option Value} {k w : Int32} (hS : SQ M) (hLd : fR M 0 2 = 8) (H : Ev none e 96 0 [some (.ref 0), some (.int k), some (.int w), none] [] M v M' 0 0) : ((G_126 M k 0 ((zI M 8 15) - 1)) = 0 ∧ v = some (.int (-1)) ∧ M' = M) ∨ (¬ ((G_126 M k 0 ((zI M 8 15) - 1)) = 0) ∧ w = 0 ∧ (0 ≤ k.toInt ∧ k.toInt < 60) ∧ v = some (.int (zI M (oI M (8 + 11) k) 0)) ∧ M' = M) ∨ (¬ ((G_126 M k 0 ((zI M 8 15) - 1)) = 0) ∧ ¬ (w = 0) ∧ w = 1 ∧ (0 ≤ k.toInt ∧ k.toInt < 60) ∧ v = some (.int (zI M (oI M (8 + 11) k) 1)) ∧ M' = M) ∨ (¬ ((G_126 M k 0 ((zI M 8 15) - 1)) = 0) ∧ ¬ (w = 0) ∧ ¬ (w = 1) ∧ w = 2 ∧ (0 ≤ k.toInt ∧ k.toInt < 60) ∧ v = some (.int (zI M (oI M (8 + 11) k) 2)) ∧ M' = M) ∨ (¬ ((G_126 M k 0 ((zI M 8 15) - 1)) = 0) ∧ ¬ (w = 0) ∧ ¬ (w = 1) ∧ ¬ (w = 2) ∧ (0 ≤ k.toInt ∧ k.toInt < 60) ∧ v = some (.int (-1)) ∧ M' = M) := by
  have H : Ev none e 96 3 [some (.ref 0), some (.int k), some (.int w), none] [.ref 0, .int 0, .int k] M v M' 0 0 := Ev.back 3 (fun n => rfl) H
  have H : Ev none e 96 6 [some (.ref 0), some (.int k), some (.int w), none] [.ref (fR M 0 2), .int 0, .int k] M v M' 0 0 := Ev.back 1 (gs_3 rfl rfl (gf_r hS.1 qa_0 qr_0_2 rfl)) H
  rw [hLd] at H
  have H : Ev none e 96 9 [some (.ref 0), some (.int k), some (.int w), none] [.int (zI M 8 15), .int 0, .int k] M v M' 0 0 := Ev.back 1 (gs_3 rfl rfl (gf_i hS.1 qa_8 qi_8_15 rfl)) H
  have H : Ev none e 96 11 [some (.ref 0), some (.int k), some (.int w), none] [.int ((zI M 8 15) - 1), .int 0, .int k] M v M' 0 0 := Ev.back 2 (fun n => rfl) H
  obtain ⟨e1, rfl⟩ := Ev.dpos rfl rfl H
  obtain ⟨vK1, MK1, K1, H⟩ := Ev.callb (fun n => rfl) H
  obtain ⟨pK1, qK1⟩ := g_126 hS K1
  rw [pK1, qK1] at H
  have H : Ev none (e1 + 1) 96 14 [some (.ref 0), some (.int k), some (.int w), none] [.int (G_126 M k 0 ((zI M 8 15) - 1))] M v M' 0 0 := H
  have H : Ev none (e1 + 1) 96 (if (G_126 M k 0 ((zI M 8 15) - 1)) = 0 then 17 else 19) [some (.ref 0), some (.int k), some (.int w), none] [] M v M' 0 0 := Ev.back 1 (fun n => rfl) H
  by_cases h2 : (G_126 M k 0 ((zI M 8 15) - 1)) = 0
  · rw [if_pos h2] at H
    have H : Ev none (e1 + 1) 96 18 [some (.ref 0), some (.int k), some (.int w), none] [.int (-1)] M v M' 0 0 := Ev.back 1 (fun n => rfl) H
    obtain ⟨z1, z2⟩ := Ev.retz rfl rfl H
    exact Or.inl ⟨h2, z1, z2⟩
  · rw [if_neg h2] at H
    have H : Ev none (e1 + 1) 96 20 [some (.ref 0), some (.int k), some (.int w), none] [.ref 0] M v M' 0 0 := Ev.back 1 (fun n => rfl) H
    have H : Ev none (e1 + 1) 96 23 [some (.ref 0), some (.int k), some (.int w), none] [.ref (fR M 0 2)] M v M' 0 0 := Ev.back 1 (gs_3 rfl rfl (gf_r hS.1 qa_0 qr_0_2 rfl)) H
    rw [hLd] at H
    have H : Ev none (e1 + 1) 96 26 [some (.ref 0), some (.int k), some (.int w), none] [.ref (8 + 11)] M v M' 0 0 := Ev.back 1 (gs_3 rfl rfl (gf_x hS.1 qa_8 qo_8 (fx_l14 hS qa_8) rfl)) H
    have H : Ev none (e1 + 1) 96 27 [some (.ref 0), some (.int k), some (.int w), none] [.int k, .ref (8 + 11)] M v M' 0 0 := Ev.back 1 (fun n => rfl) H
    obtain ⟨b3, H⟩ := Ev.aal rfl rfl hS.1 (fx_h14 qa_8) qz_19 H
    have H : Ev none (e1 + 1) 96 28 [some (.ref 0), some (.int k), some (.int w), none] [.ref (oI M (8 + 11) k)] M v M' 0 0 := H
    have H : Ev none (e1 + 1) 96 30 [some (.ref 0), some (.int k), some (.int w), some (.ref (oI M (8 + 11) k))] [.int w] M v M' 0 0 := Ev.back 2 (fun n => rfl) H
    by_cases h4 : w = 0
    · have H : Ev none (e1 + 1) 96 56 [some (.ref 0), some (.int k), some (.int w), some (.ref (oI M (8 + 11) k))] [] M v M' 0 0 := Ev.back 1 (by rw [h4]; exact fun n => rfl) H
      have H : Ev none (e1 + 1) 96 57 [some (.ref 0), some (.int k), some (.int w), some (.ref (oI M (8 + 11) k))] [.ref (oI M (8 + 11) k)] M v M' 0 0 := Ev.back 1 (fun n => rfl) H
      have H : Ev none (e1 + 1) 96 60 [some (.ref 0), some (.int k), some (.int w), some (.ref (oI M (8 + 11) k))] [.int (zI M (oI M (8 + 11) k) 0)] M v M' 0 0 := Ev.back 1 (gs_3 rfl rfl (gf_i hS.1 b3.2 qi_21_0 rfl)) H
      obtain ⟨z1, z2⟩ := Ev.retz rfl rfl H
      exact Or.inr (Or.inl ⟨h2, h4, b3.1, z1, z2⟩)
    · by_cases h5 : w = 1
      · have H : Ev none (e1 + 1) 96 61 [some (.ref 0), some (.int k), some (.int w), some (.ref (oI M (8 + 11) k))] [] M v M' 0 0 := Ev.back 1 (by rw [h5]; exact fun n => rfl) H
        have H : Ev none (e1 + 1) 96 62 [some (.ref 0), some (.int k), some (.int w), some (.ref (oI M (8 + 11) k))] [.ref (oI M (8 + 11) k)] M v M' 0 0 := Ev.back 1 (fun n => rfl) H
        have H : Ev none (e1 + 1) 96 65 [some (.ref 0), some (.int k), some (.int w), some (.ref (oI M (8 + 11) k))] [.int (zI M (oI M (8 + 11) k) 1)] M v M' 0 0 := Ev.back 1 (gs_3 rfl rfl (gf_i hS.1 b3.2 qi_21_1 rfl)) H
        obtain ⟨z1, z2⟩ := Ev.retz rfl rfl H
        exact Or.inr (Or.inr (Or.inl ⟨h2, h4, h5, b3.1, z1, z2⟩))
      · by_cases h6 : w = 2
        · have H : Ev none (e1 + 1) 96 66 [some (.ref 0), some (.int k), some (.int w), some (.ref (oI M (8 + 11) k))] [] M v M' 0 0 := Ev.back 1 (by rw [h6]; exact fun n => rfl) H
          have H : Ev none (e1 + 1) 96 67 [some (.ref 0), some (.int k), some (.int w), some (.ref (oI M (8 + 11) k))] [.ref (oI M (8 + 11) k)] M v M' 0 0 := Ev.back 1 (fun n => rfl) H
          have H : Ev none (e1 + 1) 96 70 [some (.ref 0), some (.int k), some (.int w), some (.ref (oI M (8 + 11) k))] [.int (zI M (oI M (8 + 11) k) 2)] M v M' 0 0 := Ev.back 1 (gs_3 rfl rfl (gf_i hS.1 b3.2 qi_21_2 rfl)) H
          obtain ⟨z1, z2⟩ := Ev.retz rfl rfl H
          exact Or.inr (Or.inr (Or.inr (Or.inl ⟨h2, h4, h5, h6, b3.1, z1, z2⟩)))
        · have H : Ev none (e1 + 1) 96 (if w.toInt < 0 ∨ 2 < w.toInt then gT 30 41 else gT 30 (([26, 31, 36] : List Int).getD (w.toInt - 0).toNat 0)) [some (.ref 0), some (.int k), some (.int w), some (.ref (oI M (8 + 11) k))] [] M v M' 0 0 := Ev.back 1 (fun n => rfl) H
          have qh4 : w.toInt ≠ 0 := fun q => h4 (Int32.toInt_inj.mp q)
          have qh5 : w.toInt ≠ 1 := fun q => h5 (Int32.toInt_inj.mp q)
          have qh6 : w.toInt ≠ 2 := fun q => h6 (Int32.toInt_inj.mp q)
          rw [if_pos (show w.toInt < 0 ∨ 2 < w.toInt from by omega)] at H
          have H : Ev none (e1 + 1) 96 71 [some (.ref 0), some (.int k), some (.int w), some (.ref (oI M (8 + 11) k))] [] M v M' 0 0 := H
          have H : Ev none (e1 + 1) 96 72 [some (.ref 0), some (.int k), some (.int w), some (.ref (oI M (8 + 11) k))] [.int (-1)] M v M' 0 0 := Ev.back 1 (fun n => rfl) H
          obtain ⟨z1, z2⟩ := Ev.retz rfl rfl H
          exact Or.inr (Or.inr (Or.inr (Or.inr (⟨h2, h4, h5, h6, b3.1, z1, z2⟩))))
theorem wta_0 {e : Nat} {M M' : Mem} {v : Option Value} (hS : SQ M) (H : Ev none e 11 0 [some (.ref 8), none, none] [] M v M' 0 0) : Ev none e 11 4 [some (.ref 8), some (.int 0), some (.int 0)] [] M v M' 0 0 := by
  have H : Ev none e 11 4 [some (.ref 8), some (.int 0), some (.int 0)] [] M v M' 0 0 := Ev.back 4 (fun n => rfl) H
  have HF := H
  exact HF
theorem wta_4 {e : Nat} {M M' : Mem} {v : Option Value} {n i : Int32} (hS : SQ M) (H : Ev none e 11 4 [some (.ref 8), some (.int n), some (.int i)] [] M v M' 0 0) : ((zI M 8 13) ≤ i ∧ v = some (.int n) ∧ M' = M) ∨ (¬ ((zI M 8 13) ≤ i) ∧ (zI M (oI M (8 + 10) i) 5) = 0 ∧ (0 ≤ i.toInt ∧ i.toInt < 24) ∧ Ev none e 11 4 [some (.ref 8), some (.int (n + 0)), some (.int (i + 1))] [] M v M' 0 0) ∨ (¬ ((zI M 8 13) ≤ i) ∧ ¬ ((zI M (oI M (8 + 10) i) 5) = 0) ∧ (0 ≤ i.toInt ∧ i.toInt < 24) ∧ Ev none e 11 4 [some (.ref 8), some (.int (n + 1)), some (.int (i + 1))] [] M v M' 0 0) := by
  have H : Ev none e 11 6 [some (.ref 8), some (.int n), some (.int i)] [.ref 8, .int i] M v M' 0 0 := Ev.back 2 (fun n => rfl) H
  have H : Ev none e 11 9 [some (.ref 8), some (.int n), some (.int i)] [.int (zI M 8 13), .int i] M v M' 0 0 := Ev.back 1 (gs_3 rfl rfl (gf_i hS.1 qa_8 qi_8_13 rfl)) H
  have H : Ev none e 11 (if (zI M 8 13) ≤ i then 38 else 12) [some (.ref 8), some (.int n), some (.int i)] [] M v M' 0 0 := Ev.back 1 (fun n => rfl) H
  by_cases h1 : (zI M 8 13) ≤ i
  · rw [if_pos h1] at H
    have H : Ev none e 11 39 [some (.ref 8), some (.int n), some (.int i)] [.int n] M v M' 0 0 := Ev.back 1 (fun n => rfl) H
    obtain ⟨z1, z2⟩ := Ev.retz rfl rfl H
    exact Or.inl ⟨h1, z1, z2⟩
  · rw [if_neg h1] at H
    have H : Ev none e 11 14 [some (.ref 8), some (.int n), some (.int i)] [.ref 8, .int n] M v M' 0 0 := Ev.back 2 (fun n => rfl) H
    have H : Ev none e 11 17 [some (.ref 8), some (.int n), some (.int i)] [.ref (8 + 10), .int n] M v M' 0 0 := Ev.back 1 (gs_3 rfl rfl (gf_x hS.1 qa_8 qo_8 (fx_l12 hS qa_8) rfl)) H
    have H : Ev none e 11 18 [some (.ref 8), some (.int n), some (.int i)] [.int i, .ref (8 + 10), .int n] M v M' 0 0 := Ev.back 1 (fun n => rfl) H
    obtain ⟨b2, H⟩ := Ev.aal rfl rfl hS.1 (fx_h12 qa_8) qz_18 H
    have H : Ev none e 11 19 [some (.ref 8), some (.int n), some (.int i)] [.ref (oI M (8 + 10) i), .int n] M v M' 0 0 := H
    have H : Ev none e 11 22 [some (.ref 8), some (.int n), some (.int i)] [.int (zI M (oI M (8 + 10) i) 5), .int n] M v M' 0 0 := Ev.back 1 (gs_3 rfl rfl (gf_i hS.1 b2.2 qi_20_5 rfl)) H
    have H : Ev none e 11 (if (zI M (oI M (8 + 10) i) 5) = 0 then 29 else 25) [some (.ref 8), some (.int n), some (.int i)] [.int n] M v M' 0 0 := Ev.back 1 (fun n => rfl) H
    by_cases h3 : (zI M (oI M (8 + 10) i) 5) = 0
    · rw [if_pos h3] at H
      have H : Ev none e 11 4 [some (.ref 8), some (.int (n + 0)), some (.int (i + 1))] [] M v M' 0 0 := Ev.back 5 (fun n => rfl) H
      have HF := H
      exact Or.inr (Or.inl ⟨h1, h3, b2.1, HF⟩)
    · rw [if_neg h3] at H
      have H : Ev none e 11 4 [some (.ref 8), some (.int (n + 1)), some (.int (i + 1))] [] M v M' 0 0 := Ev.back 6 (fun n => rfl) H
      have HF := H
      exact Or.inr (Or.inr (⟨h1, h3, b2.1, HF⟩))
theorem cnt_0 {e : Nat} {M M' : Mem} {v : Option Value} {k : Int32} (hS : SQ M) (hLd : fR M 0 2 = 8) (H : Ev none e 125 0 [some (.ref 0), some (.int k)] [] M v M' 0 0) : (k = 0 ∧ v = some (.int (zI M 8 0)) ∧ M' = M) ∨ (¬ (k = 0) ∧ k = 1 ∧ v = some (.int (zI M 8 1)) ∧ M' = M) ∨ (¬ (k = 0) ∧ ¬ (k = 1) ∧ k = 2 ∧ v = some (.int (zI M 8 11)) ∧ M' = M) ∨ (¬ (k = 0) ∧ ¬ (k = 1) ∧ ¬ (k = 2) ∧ k = 3 ∧ (∃ e1 v1 M1, e = e1 + 1 ∧ Ev none e1 11 0 [some (.ref 8), none, none] [] M v1 M1 0 0 ∧ Ev none e 125 87 [some (.ref 0), some (.int k)] (v1.toList ++ []) M1 v M' 0 0)) ∨ (¬ (k = 0) ∧ ¬ (k = 1) ∧ ¬ (k = 2) ∧ ¬ (k = 3) ∧ k = 4 ∧ v = some (.int (zI M 8 15)) ∧ M' = M) ∨ (¬ (k = 0) ∧ ¬ (k = 1) ∧ ¬ (k = 2) ∧ ¬ (k = 3) ∧ ¬ (k = 4) ∧ k = 5 ∧ v = some (.int (zI M 8 16)) ∧ M' = M) ∨ (¬ (k = 0) ∧ ¬ (k = 1) ∧ ¬ (k = 2) ∧ ¬ (k = 3) ∧ ¬ (k = 4) ∧ ¬ (k = 5) ∧ k = 6 ∧ v = some (.int (zI M 8 17)) ∧ M' = M) ∨ (¬ (k = 0) ∧ ¬ (k = 1) ∧ ¬ (k = 2) ∧ ¬ (k = 3) ∧ ¬ (k = 4) ∧ ¬ (k = 5) ∧ ¬ (k = 6) ∧ k = 7 ∧ v = some (.int (zI M 8 18)) ∧ M' = M) ∨ (¬ (k = 0) ∧ ¬ (k = 1) ∧ ¬ (k = 2) ∧ ¬ (k = 3) ∧ ¬ (k = 4) ∧ ¬ (k = 5) ∧ ¬ (k = 6) ∧ ¬ (k = 7) ∧ k = 8 ∧ v = some (.int (zI M 8 19)) ∧ M' = M) ∨ (¬ (k = 0) ∧ ¬ (k = 1) ∧ ¬ (k = 2) ∧ ¬ (k = 3) ∧ ¬ (k = 4) ∧ ¬ (k = 5) ∧ ¬ (k = 6) ∧ ¬ (k = 7) ∧ ¬ (k = 8) ∧ k = 9 ∧ v = some (.int (zI M 1 1)) ∧ M' = M) ∨ (¬ (k = 0) ∧ ¬ (k = 1) ∧ ¬ (k = 2) ∧ ¬ (k = 3) ∧ ¬ (k = 4) ∧ ¬ (k = 5) ∧ ¬ (k = 6) ∧ ¬ (k = 7) ∧ ¬ (k = 8) ∧ ¬ (k = 9) ∧ v = some (.int (-1)) ∧ M' = M) := by
  have H : Ev none e 125 1 [some (.ref 0), some (.int k)] [.int k] M v M' 0 0 := Ev.back 1 (fun n => rfl) H
  by_cases h1 : k = 0
  · have H : Ev none e 125 56 [some (.ref 0), some (.int k)] [] M v M' 0 0 := Ev.back 1 (by rw [h1]; exact fun n => rfl) H
    have H : Ev none e 125 57 [some (.ref 0), some (.int k)] [.ref 0] M v M' 0 0 := Ev.back 1 (fun n => rfl) H
    have H : Ev none e 125 60 [some (.ref 0), some (.int k)] [.ref (fR M 0 2)] M v M' 0 0 := Ev.back 1 (gs_3 rfl rfl (gf_r hS.1 qa_0 qr_0_2 rfl)) H
    rw [hLd] at H
    have H : Ev none e 125 63 [some (.ref 0), some (.int k)] [.int (zI M 8 0)] M v M' 0 0 := Ev.back 1 (gs_3 rfl rfl (gf_i hS.1 qa_8 qi_8_0 rfl)) H
    obtain ⟨z1, z2⟩ := Ev.retz rfl rfl H
    exact Or.inl ⟨h1, z1, z2⟩
  · by_cases h2 : k = 1
    · have H : Ev none e 125 64 [some (.ref 0), some (.int k)] [] M v M' 0 0 := Ev.back 1 (by rw [h2]; exact fun n => rfl) H
      have H : Ev none e 125 65 [some (.ref 0), some (.int k)] [.ref 0] M v M' 0 0 := Ev.back 1 (fun n => rfl) H
      have H : Ev none e 125 68 [some (.ref 0), some (.int k)] [.ref (fR M 0 2)] M v M' 0 0 := Ev.back 1 (gs_3 rfl rfl (gf_r hS.1 qa_0 qr_0_2 rfl)) H
      rw [hLd] at H
      have H : Ev none e 125 71 [some (.ref 0), some (.int k)] [.int (zI M 8 1)] M v M' 0 0 := Ev.back 1 (gs_3 rfl rfl (gf_i hS.1 qa_8 qi_8_1 rfl)) H
      obtain ⟨z1, z2⟩ := Ev.retz rfl rfl H
      exact Or.inr (Or.inl ⟨h1, h2, z1, z2⟩)
    · by_cases h3 : k = 2
      · have H : Ev none e 125 72 [some (.ref 0), some (.int k)] [] M v M' 0 0 := Ev.back 1 (by rw [h3]; exact fun n => rfl) H
        have H : Ev none e 125 73 [some (.ref 0), some (.int k)] [.ref 0] M v M' 0 0 := Ev.back 1 (fun n => rfl) H
        have H : Ev none e 125 76 [some (.ref 0), some (.int k)] [.ref (fR M 0 2)] M v M' 0 0 := Ev.back 1 (gs_3 rfl rfl (gf_r hS.1 qa_0 qr_0_2 rfl)) H
        rw [hLd] at H
        have H : Ev none e 125 79 [some (.ref 0), some (.int k)] [.int (zI M 8 11)] M v M' 0 0 := Ev.back 1 (gs_3 rfl rfl (gf_i hS.1 qa_8 qi_8_11 rfl)) H
        obtain ⟨z1, z2⟩ := Ev.retz rfl rfl H
        exact Or.inr (Or.inr (Or.inl ⟨h1, h2, h3, z1, z2⟩))
      · by_cases h4 : k = 3
        · have H : Ev none e 125 80 [some (.ref 0), some (.int k)] [] M v M' 0 0 := Ev.back 1 (by rw [h4]; exact fun n => rfl) H
          have H : Ev none e 125 81 [some (.ref 0), some (.int k)] [.ref 0] M v M' 0 0 := Ev.back 1 (fun n => rfl) H
          have H : Ev none e 125 84 [some (.ref 0), some (.int k)] [.ref (fR M 0 2)] M v M' 0 0 := Ev.back 1 (gs_3 rfl rfl (gf_r hS.1 qa_0 qr_0_2 rfl)) H
          rw [hLd] at H
          obtain ⟨e1, rfl⟩ := Ev.dpos rfl rfl H
          obtain ⟨vK5, MK5, K5, H⟩ := Ev.callb (fun n_ => gs_7 rfl rfl (show gCal (.invokevirtual 399) 10 (.ref 8 :: []) M = some (.inr (11, [some (.ref 8), none, none], [])) from by show @cond (Option ((List Value × Mem) ⊕ (Nat × Lo × List Value))) (true && gRecv M (.ref 8) 1 && gRoom [] && true) (some (.inr (11, [some (.ref 8), none, none], []))) none = _; rw [recv_s hS.1 qa_8 qo_8]; rfl)) H
          have K5 : Ev none e1 11 0 [some (.ref 8), none, none] [] M vK5 MK5 0 0 := K5
          have HF := H
          exact Or.inr (Or.inr (Or.inr (Or.inl ⟨h1, h2, h3, h4, ⟨e1, vK5, MK5, rfl, K5, HF⟩⟩)))
        · by_cases h6 : k = 4
          · have H : Ev none e 125 88 [some (.ref 0), some (.int k)] [] M v M' 0 0 := Ev.back 1 (by rw [h6]; exact fun n => rfl) H
            have H : Ev none e 125 89 [some (.ref 0), some (.int k)] [.ref 0] M v M' 0 0 := Ev.back 1 (fun n => rfl) H
            have H : Ev none e 125 92 [some (.ref 0), some (.int k)] [.ref (fR M 0 2)] M v M' 0 0 := Ev.back 1 (gs_3 rfl rfl (gf_r hS.1 qa_0 qr_0_2 rfl)) H
            rw [hLd] at H
            have H : Ev none e 125 95 [some (.ref 0), some (.int k)] [.int (zI M 8 15)] M v M' 0 0 := Ev.back 1 (gs_3 rfl rfl (gf_i hS.1 qa_8 qi_8_15 rfl)) H
            obtain ⟨z1, z2⟩ := Ev.retz rfl rfl H
            exact Or.inr (Or.inr (Or.inr (Or.inr (Or.inl ⟨h1, h2, h3, h4, h6, z1, z2⟩))))
          · by_cases h7 : k = 5
            · have H : Ev none e 125 96 [some (.ref 0), some (.int k)] [] M v M' 0 0 := Ev.back 1 (by rw [h7]; exact fun n => rfl) H
              have H : Ev none e 125 97 [some (.ref 0), some (.int k)] [.ref 0] M v M' 0 0 := Ev.back 1 (fun n => rfl) H
              have H : Ev none e 125 100 [some (.ref 0), some (.int k)] [.ref (fR M 0 2)] M v M' 0 0 := Ev.back 1 (gs_3 rfl rfl (gf_r hS.1 qa_0 qr_0_2 rfl)) H
              rw [hLd] at H
              have H : Ev none e 125 103 [some (.ref 0), some (.int k)] [.int (zI M 8 16)] M v M' 0 0 := Ev.back 1 (gs_3 rfl rfl (gf_i hS.1 qa_8 qi_8_16 rfl)) H
              obtain ⟨z1, z2⟩ := Ev.retz rfl rfl H
              exact Or.inr (Or.inr (Or.inr (Or.inr (Or.inr (Or.inl ⟨h1, h2, h3, h4, h6, h7, z1, z2⟩)))))
            · by_cases h8 : k = 6
              · have H : Ev none e 125 104 [some (.ref 0), some (.int k)] [] M v M' 0 0 := Ev.back 1 (by rw [h8]; exact fun n => rfl) H
                have H : Ev none e 125 105 [some (.ref 0), some (.int k)] [.ref 0] M v M' 0 0 := Ev.back 1 (fun n => rfl) H
                have H : Ev none e 125 108 [some (.ref 0), some (.int k)] [.ref (fR M 0 2)] M v M' 0 0 := Ev.back 1 (gs_3 rfl rfl (gf_r hS.1 qa_0 qr_0_2 rfl)) H
                rw [hLd] at H
                have H : Ev none e 125 111 [some (.ref 0), some (.int k)] [.int (zI M 8 17)] M v M' 0 0 := Ev.back 1 (gs_3 rfl rfl (gf_i hS.1 qa_8 qi_8_17 rfl)) H
                obtain ⟨z1, z2⟩ := Ev.retz rfl rfl H
                exact Or.inr (Or.inr (Or.inr (Or.inr (Or.inr (Or.inr (Or.inl ⟨h1, h2, h3, h4, h6, h7, h8, z1, z2⟩))))))
              · by_cases h9 : k = 7
                · have H : Ev none e 125 112 [some (.ref 0), some (.int k)] [] M v M' 0 0 := Ev.back 1 (by rw [h9]; exact fun n => rfl) H
                  have H : Ev none e 125 113 [some (.ref 0), some (.int k)] [.ref 0] M v M' 0 0 := Ev.back 1 (fun n => rfl) H
                  have H : Ev none e 125 116 [some (.ref 0), some (.int k)] [.ref (fR M 0 2)] M v M' 0 0 := Ev.back 1 (gs_3 rfl rfl (gf_r hS.1 qa_0 qr_0_2 rfl)) H
                  rw [hLd] at H
                  have H : Ev none e 125 119 [some (.ref 0), some (.int k)] [.int (zI M 8 18)] M v M' 0 0 := Ev.back 1 (gs_3 rfl rfl (gf_i hS.1 qa_8 qi_8_18 rfl)) H
                  obtain ⟨z1, z2⟩ := Ev.retz rfl rfl H
                  exact Or.inr (Or.inr (Or.inr (Or.inr (Or.inr (Or.inr (Or.inr (Or.inl ⟨h1, h2, h3, h4, h6, h7, h8, h9, z1, z2⟩)))))))
                · by_cases h10 : k = 8
                  · have H : Ev none e 125 120 [some (.ref 0), some (.int k)] [] M v M' 0 0 := Ev.back 1 (by rw [h10]; exact fun n => rfl) H
                    have H : Ev none e 125 121 [some (.ref 0), some (.int k)] [.ref 0] M v M' 0 0 := Ev.back 1 (fun n => rfl) H
                    have H : Ev none e 125 124 [some (.ref 0), some (.int k)] [.ref (fR M 0 2)] M v M' 0 0 := Ev.back 1 (gs_3 rfl rfl (gf_r hS.1 qa_0 qr_0_2 rfl)) H
                    rw [hLd] at H
                    have H : Ev none e 125 127 [some (.ref 0), some (.int k)] [.int (zI M 8 19)] M v M' 0 0 := Ev.back 1 (gs_3 rfl rfl (gf_i hS.1 qa_8 qi_8_19 rfl)) H
                    obtain ⟨z1, z2⟩ := Ev.retz rfl rfl H
                    exact Or.inr (Or.inr (Or.inr (Or.inr (Or.inr (Or.inr (Or.inr (Or.inr (Or.inl ⟨h1, h2, h3, h4, h6, h7, h8, h9, h10, z1, z2⟩))))))))
                  · by_cases h11 : k = 9
                    · have H : Ev none e 125 128 [some (.ref 0), some (.int k)] [] M v M' 0 0 := Ev.back 1 (by rw [h11]; exact fun n => rfl) H
                      have H : Ev none e 125 129 [some (.ref 0), some (.int k)] [.ref 0] M v M' 0 0 := Ev.back 1 (fun n => rfl) H
                      have H : Ev none e 125 132 [some (.ref 0), some (.int k)] [.ref 1] M v M' 0 0 := Ev.back 1 (gs_3 rfl rfl (gf_u hS.1 qa_0 qr_0_0 qu_1 rfl)) H
                      have H : Ev none e 125 135 [some (.ref 0), some (.int k)] [.int (zI M 1 1)] M v M' 0 0 := Ev.back 1 (gs_3 rfl rfl (gf_i hS.1 qa_1 qi_1_1 rfl)) H
                      obtain ⟨z1, z2⟩ := Ev.retz rfl rfl H
                      exact Or.inr (Or.inr (Or.inr (Or.inr (Or.inr (Or.inr (Or.inr (Or.inr (Or.inr (Or.inl ⟨h1, h2, h3, h4, h6, h7, h8, h9, h10, h11, z1, z2⟩)))))))))
                    · have H : Ev none e 125 (if k.toInt < 0 ∨ 9 < k.toInt then gT 1 135 else gT 1 (([55, 63, 71, 79, 87, 95, 103, 111, 119, 127] : List Int).getD (k.toInt - 0).toNat 0)) [some (.ref 0), some (.int k)] [] M v M' 0 0 := Ev.back 1 (fun n => rfl) H
                      have qh1 : k.toInt ≠ 0 := fun q => h1 (Int32.toInt_inj.mp q)
                      have qh2 : k.toInt ≠ 1 := fun q => h2 (Int32.toInt_inj.mp q)
                      have qh3 : k.toInt ≠ 2 := fun q => h3 (Int32.toInt_inj.mp q)
                      have qh4 : k.toInt ≠ 3 := fun q => h4 (Int32.toInt_inj.mp q)
                      have qh6 : k.toInt ≠ 4 := fun q => h6 (Int32.toInt_inj.mp q)
                      have qh7 : k.toInt ≠ 5 := fun q => h7 (Int32.toInt_inj.mp q)
                      have qh8 : k.toInt ≠ 6 := fun q => h8 (Int32.toInt_inj.mp q)
                      have qh9 : k.toInt ≠ 7 := fun q => h9 (Int32.toInt_inj.mp q)
                      have qh10 : k.toInt ≠ 8 := fun q => h10 (Int32.toInt_inj.mp q)
                      have qh11 : k.toInt ≠ 9 := fun q => h11 (Int32.toInt_inj.mp q)
                      rw [if_pos (show k.toInt < 0 ∨ 9 < k.toInt from by omega)] at H
                      have H : Ev none e 125 136 [some (.ref 0), some (.int k)] [] M v M' 0 0 := H
                      have H : Ev none e 125 137 [some (.ref 0), some (.int k)] [.int (-1)] M v M' 0 0 := Ev.back 1 (fun n => rfl) H
                      obtain ⟨z1, z2⟩ := Ev.retz rfl rfl H
                      exact Or.inr (Or.inr (Or.inr (Or.inr (Or.inr (Or.inr (Or.inr (Or.inr (Or.inr (Or.inr (⟨h1, h2, h3, h4, h6, h7, h8, h9, h10, h11, z1, z2⟩))))))))))
theorem cnt_87 {e : Nat} {M M' : Mem} {v : Option Value} {k r : Int32} (hS : SQ M) (H : Ev none e 125 87 [some (.ref 0), some (.int k)] [.int r] M v M' 0 0) : v = some (.int r) ∧ M' = M := by
  obtain ⟨z1, z2⟩ := Ev.retz rfl rfl H
  exact ⟨z1, z2⟩
theorem fcA_0 {e : Nat} {M M' : Mem} {v : Option Value} {k : Int32} (hS : SQ M) (H : Ev none e 113 0 [some (.ref 0), some (.int k)] [] M v M' 0 0) : ((G_126 M k 0 ((if 2 < (zI M 0 14) then 2 else (zI M 0 14)) - 1)) = 0 ∧ v = some (.int (-1)) ∧ M' = M) ∨ (¬ ((G_126 M k 0 ((if 2 < (zI M 0 14) then 2 else (zI M 0 14)) - 1)) = 0) ∧ (0 ≤ k.toInt ∧ k.toInt < 2) ∧ v = some (.int (rI M 343 k)) ∧ M' = M) := by
  have H : Ev none e 113 3 [some (.ref 0), some (.int k)] [.ref 0, .int 0, .int k] M v M' 0 0 := Ev.back 3 (fun n => rfl) H
  have H : Ev none e 113 6 [some (.ref 0), some (.int k)] [.int (zI M 0 14), .int 0, .int k] M v M' 0 0 := Ev.back 1 (gs_3 rfl rfl (gf_i hS.1 qa_0 qi_0_14 rfl)) H
  have H : Ev none e 113 7 [some (.ref 0), some (.int k)] [.ref 0, .int (zI M 0 14), .int 0, .int k] M v M' 0 0 := Ev.back 1 (fun n => rfl) H
  have H : Ev none e 113 10 [some (.ref 0), some (.int k)] [.ref 343, .int (zI M 0 14), .int 0, .int k] M v M' 0 0 := Ev.back 1 (gs_3 rfl rfl (gf_u hS.1 qa_0 qr_0_11 qu_59 rfl)) H
  have H : Ev none e 113 11 [some (.ref 0), some (.int k)] [.int 2, .int (zI M 0 14), .int 0, .int k] M v M' 0 0 := Ev.alen rfl rfl hS.1 qa_343 qw_59 H
  obtain ⟨e1, rfl⟩ := Ev.dpos rfl rfl H
  have H : Ev none (e1 + 1) 113 16 [some (.ref 0), some (.int k)] [.int ((if 2 < (zI M 0 14) then 2 else (zI M 0 14)) - 1), .int 0, .int k] M v M' 0 0 := Ev.back 3 (fun n => rfl) H
  obtain ⟨vK1, MK1, K1, H⟩ := Ev.callb (fun n => rfl) H
  obtain ⟨pK1, qK1⟩ := g_126 hS K1
  rw [pK1, qK1] at H
  have H : Ev none (e1 + 1) 113 19 [some (.ref 0), some (.int k)] [.int (G_126 M k 0 ((if 2 < (zI M 0 14) then 2 else (zI M 0 14)) - 1))] M v M' 0 0 := H
  have H : Ev none (e1 + 1) 113 (if (G_126 M k 0 ((if 2 < (zI M 0 14) then 2 else (zI M 0 14)) - 1)) = 0 then 31 else 22) [some (.ref 0), some (.int k)] [] M v M' 0 0 := Ev.back 1 (fun n => rfl) H
  by_cases h2 : (G_126 M k 0 ((if 2 < (zI M 0 14) then 2 else (zI M 0 14)) - 1)) = 0
  · rw [if_pos h2] at H
    have H : Ev none (e1 + 1) 113 32 [some (.ref 0), some (.int k)] [.int (-1)] M v M' 0 0 := Ev.back 1 (fun n => rfl) H
    obtain ⟨z1, z2⟩ := Ev.retz rfl rfl H
    exact Or.inl ⟨h2, z1, z2⟩
  · rw [if_neg h2] at H
    have H : Ev none (e1 + 1) 113 23 [some (.ref 0), some (.int k)] [.ref 0] M v M' 0 0 := Ev.back 1 (fun n => rfl) H
    have H : Ev none (e1 + 1) 113 26 [some (.ref 0), some (.int k)] [.ref 343] M v M' 0 0 := Ev.back 1 (gs_3 rfl rfl (gf_u hS.1 qa_0 qr_0_11 qu_59 rfl)) H
    have H : Ev none (e1 + 1) 113 27 [some (.ref 0), some (.int k)] [.int k, .ref 343] M v M' 0 0 := Ev.back 1 (fun n => rfl) H
    obtain ⟨b3, H⟩ := Ev.ial rfl rfl hS.1 qa_343 qw_59 H
    have H : Ev none (e1 + 1) 113 28 [some (.ref 0), some (.int k)] [.int (rI M 343 k)] M v M' 0 0 := H
    have H : Ev none (e1 + 1) 113 32 [some (.ref 0), some (.int k)] [.int (rI M 343 k)] M v M' 0 0 := Ev.back 1 (fun n => rfl) H
    obtain ⟨z1, z2⟩ := Ev.retz rfl rfl H
    exact Or.inr (⟨h2, b3, z1, z2⟩)
theorem wyA_0 {e : Nat} {M M' : Mem} {v : Option Value} {k : Int32} (hS : SQ M) (H : Ev none e 116 0 [some (.ref 0), some (.int k)] [] M v M' 0 0) : ((G_126 M k 0 (if 200 < (zI M 0 13) then 200 else (zI M 0 13))) = 0 ∧ v = some (.int (-1)) ∧ M' = M) ∨ (¬ ((G_126 M k 0 (if 200 < (zI M 0 13) then 200 else (zI M 0 13))) = 0) ∧ (0 ≤ k.toInt ∧ k.toInt < 201) ∧ v = some (.int (rI M (fR M 0 9) k)) ∧ M' = M) := by
  have H : Ev none e 116 3 [some (.ref 0), some (.int k)] [.ref 0, .int 0, .int k] M v M' 0 0 := Ev.back 3 (fun n => rfl) H
  have H : Ev none e 116 6 [some (.ref 0), some (.int k)] [.int (zI M 0 13), .int 0, .int k] M v M' 0 0 := Ev.back 1 (gs_3 rfl rfl (gf_i hS.1 qa_0 qi_0_13 rfl)) H
  have H : Ev none e 116 9 [some (.ref 0), some (.int k)] [.int 200, .int (zI M 0 13), .int 0, .int k] M v M' 0 0 := Ev.back 1 (fun n => rfl) H
  obtain ⟨e1, rfl⟩ := Ev.dpos rfl rfl H
  have H : Ev none (e1 + 1) 116 12 [some (.ref 0), some (.int k)] [.int (if 200 < (zI M 0 13) then 200 else (zI M 0 13)), .int 0, .int k] M v M' 0 0 := Ev.back 1 (fun n => rfl) H
  obtain ⟨vK1, MK1, K1, H⟩ := Ev.callb (fun n => rfl) H
  obtain ⟨pK1, qK1⟩ := g_126 hS K1
  rw [pK1, qK1] at H
  have H : Ev none (e1 + 1) 116 15 [some (.ref 0), some (.int k)] [.int (G_126 M k 0 (if 200 < (zI M 0 13) then 200 else (zI M 0 13)))] M v M' 0 0 := H
  have H : Ev none (e1 + 1) 116 (if (G_126 M k 0 (if 200 < (zI M 0 13) then 200 else (zI M 0 13))) = 0 then 27 else 18) [some (.ref 0), some (.int k)] [] M v M' 0 0 := Ev.back 1 (fun n => rfl) H
  by_cases h2 : (G_126 M k 0 (if 200 < (zI M 0 13) then 200 else (zI M 0 13))) = 0
  · rw [if_pos h2] at H
    have H : Ev none (e1 + 1) 116 28 [some (.ref 0), some (.int k)] [.int (-1)] M v M' 0 0 := Ev.back 1 (fun n => rfl) H
    obtain ⟨z1, z2⟩ := Ev.retz rfl rfl H
    exact Or.inl ⟨h2, z1, z2⟩
  · rw [if_neg h2] at H
    have H : Ev none (e1 + 1) 116 19 [some (.ref 0), some (.int k)] [.ref 0] M v M' 0 0 := Ev.back 1 (fun n => rfl) H
    have H : Ev none (e1 + 1) 116 22 [some (.ref 0), some (.int k)] [.ref (fR M 0 9)] M v M' 0 0 := Ev.back 1 (gs_3 rfl rfl (gf_r hS.1 qa_0 qr_0_9 rfl)) H
    have H : Ev none (e1 + 1) 116 23 [some (.ref 0), some (.int k)] [.int k, .ref (fR M 0 9)] M v M' 0 0 := Ev.back 1 (fun n => rfl) H
    obtain ⟨b3, H⟩ := Ev.ial rfl rfl hS.1 (hS.1.fr qa_0 qr_0_9).2 qw_58 H
    have H : Ev none (e1 + 1) 116 24 [some (.ref 0), some (.int k)] [.int (rI M (fR M 0 9) k)] M v M' 0 0 := H
    have H : Ev none (e1 + 1) 116 28 [some (.ref 0), some (.int k)] [.int (rI M (fR M 0 9) k)] M v M' 0 0 := Ev.back 1 (fun n => rfl) H
    obtain ⟨z1, z2⟩ := Ev.retz rfl rfl H
    exact Or.inr (⟨h2, b3, z1, z2⟩)
theorem rwr_0 {e : Nat} {M M' : Mem} {v : Option Value} {k w : Int32} (hS : SQ M) (H : Ev none e 215 0 [some (.ref 633), some (.int k), some (.int w)] [] M v M' 0 0) : ((G_140 (wF M 633 0 0) k 0 ((rI M 635 157) - 1)) = 0 ∧ (0 ≤ (157 : Int32).toInt ∧ (157 : Int32).toInt < 2314) ∧ v = some (.int (-1)) ∧ M' = (wF M 633 0 0)) ∨ (¬ ((G_140 (wF M 633 0 0) k 0 ((rI M 635 157) - 1)) = 0) ∧ (G_140 (wF M 633 0 0) w 0 2) = 0 ∧ (0 ≤ (157 : Int32).toInt ∧ (157 : Int32).toInt < 2314) ∧ v = some (.int (-1)) ∧ M' = (wF M 633 0 0)) ∨ (¬ ((G_140 (wF M 633 0 0) k 0 ((rI M 635 157) - 1)) = 0) ∧ ¬ ((G_140 (wF M 633 0 0) w 0 2) = 0) ∧ (0 ≤ (157 : Int32).toInt ∧ (157 : Int32).toInt < 2314) ∧ (0 ≤ ((158 + (6 * k)) + w).toInt ∧ ((158 + (6 * k)) + w).toInt < 2314) ∧ v = some (.int (rI M 635 ((158 + (6 * k)) + w))) ∧ M' = (wF M 633 0 0)) := by
  have H : Ev none e 215 2 [some (.ref 633), some (.int k), some (.int w)] [.int 0, .ref 633] M v M' 0 0 := Ev.back 2 (fun n => rfl) H
  obtain ⟨N2, eN2⟩ : ∃ N, N = (wF M 633 0 0) := ⟨_, rfl⟩
  have hN2 : SQ N2 := by rw [eN2]; exact hS.kf
  have H : Ev none e 215 5 [some (.ref 633), some (.int k), some (.int w)] [] N2 v M' 0 0 := by rw [eN2]; exact Ev.pfi rfl rfl rfl hS.1 qa_633 qi_61_0 H
  have H : Ev none e 215 8 [some (.ref 633), some (.int k), some (.int w)] [.ref 633, .int 0, .int k] N2 v M' 0 0 := Ev.back 3 (fun n => rfl) H
  have H : Ev none e 215 11 [some (.ref 633), some (.int k), some (.int w)] [.ref 635, .int 0, .int k] N2 v M' 0 0 := Ev.back 1 (gs_3 rfl rfl (gf_u hN2.1 qa_633 qr_61_5 qu_63 rfl)) H
  have H : Ev none e 215 14 [some (.ref 633), some (.int k), some (.int w)] [.int 157, .ref 635, .int 0, .int k] N2 v M' 0 0 := Ev.back 1 (fun n => rfl) H
  obtain ⟨b3, H⟩ := Ev.ial rfl rfl hN2.1 qa_635 qw_63 H
  have H : Ev none e 215 15 [some (.ref 633), some (.int k), some (.int w)] [.int (rI N2 635 157), .int 0, .int k] N2 v M' 0 0 := H
  rw [show rI N2 635 157 = rI M 635 157 from by rw [eN2]; exact rN_wF] at H
  have H : Ev none e 215 17 [some (.ref 633), some (.int k), some (.int w)] [.int ((rI M 635 157) - 1), .int 0, .int k] N2 v M' 0 0 := Ev.back 2 (fun n => rfl) H
  obtain ⟨e1, rfl⟩ := Ev.dpos rfl rfl H
  obtain ⟨vK4, MK4, K4, H⟩ := Ev.callb (fun n => rfl) H
  obtain ⟨pK4, qK4⟩ := g_140 hN2 K4
  rw [pK4, qK4] at H
  have H : Ev none (e1 + 1) 215 20 [some (.ref 633), some (.int k), some (.int w)] [.int (G_140 N2 k 0 ((rI M 635 157) - 1))] N2 v M' 0 0 := H
  have H : Ev none (e1 + 1) 215 (if (G_140 N2 k 0 ((rI M 635 157) - 1)) = 0 then 50 else 23) [some (.ref 633), some (.int k), some (.int w)] [] N2 v M' 0 0 := Ev.back 1 (fun n => rfl) H
  by_cases h5 : (G_140 N2 k 0 ((rI M 635 157) - 1)) = 0
  · rw [if_pos h5] at H
    have H : Ev none (e1 + 1) 215 51 [some (.ref 633), some (.int k), some (.int w)] [.int (-1)] N2 v M' 0 0 := Ev.back 1 (fun n => rfl) H
    obtain ⟨z1, z2⟩ := Ev.retz rfl rfl H
    subst eN2
    exact Or.inl ⟨h5, b3, z1, z2⟩
  · rw [if_neg h5] at H
    have H : Ev none (e1 + 1) 215 26 [some (.ref 633), some (.int k), some (.int w)] [.int 2, .int 0, .int w] N2 v M' 0 0 := Ev.back 3 (fun n => rfl) H
    obtain ⟨vK6, MK6, K6, H⟩ := Ev.callb (fun n => rfl) H
    obtain ⟨pK6, qK6⟩ := g_140 hN2 K6
    rw [pK6, qK6] at H
    have H : Ev none (e1 + 1) 215 29 [some (.ref 633), some (.int k), some (.int w)] [.int (G_140 N2 w 0 2)] N2 v M' 0 0 := H
    have H : Ev none (e1 + 1) 215 (if (G_140 N2 w 0 2) = 0 then 50 else 32) [some (.ref 633), some (.int k), some (.int w)] [] N2 v M' 0 0 := Ev.back 1 (fun n => rfl) H
    by_cases h7 : (G_140 N2 w 0 2) = 0
    · rw [if_pos h7] at H
      have H : Ev none (e1 + 1) 215 51 [some (.ref 633), some (.int k), some (.int w)] [.int (-1)] N2 v M' 0 0 := Ev.back 1 (fun n => rfl) H
      obtain ⟨z1, z2⟩ := Ev.retz rfl rfl H
      subst eN2
      exact Or.inr (Or.inl ⟨h5, h7, b3, z1, z2⟩)
    · rw [if_neg h7] at H
      have H : Ev none (e1 + 1) 215 33 [some (.ref 633), some (.int k), some (.int w)] [.ref 633] N2 v M' 0 0 := Ev.back 1 (fun n => rfl) H
      have H : Ev none (e1 + 1) 215 36 [some (.ref 633), some (.int k), some (.int w)] [.ref 635] N2 v M' 0 0 := Ev.back 1 (gs_3 rfl rfl (gf_u hN2.1 qa_633 qr_61_5 qu_63 rfl)) H
      have H : Ev none (e1 + 1) 215 46 [some (.ref 633), some (.int k), some (.int w)] [.int ((158 + (6 * k)) + w), .ref 635] N2 v M' 0 0 := Ev.back 7 (fun n => rfl) H
      obtain ⟨b8, H⟩ := Ev.ial rfl rfl hN2.1 qa_635 qw_63 H
      have H : Ev none (e1 + 1) 215 47 [some (.ref 633), some (.int k), some (.int w)] [.int (rI N2 635 ((158 + (6 * k)) + w))] N2 v M' 0 0 := H
      rw [show rI N2 635 ((158 + (6 * k)) + w) = rI M 635 ((158 + (6 * k)) + w) from by rw [eN2]; exact rN_wF] at H
      have H : Ev none (e1 + 1) 215 51 [some (.ref 633), some (.int k), some (.int w)] [.int (rI M 635 ((158 + (6 * k)) + w))] N2 v M' 0 0 := Ev.back 1 (fun n => rfl) H
      obtain ⟨z1, z2⟩ := Ev.retz rfl rfl H
      subst eN2
      exact Or.inr (Or.inr (⟨h5, h7, b3, b8, z1, z2⟩))
theorem rcn_0 {e : Nat} {M M' : Mem} {v : Option Value} {k : Int32} (hS : SQ M) (H : Ev none e 248 0 [some (.ref 633), some (.int k), none, none] [] M v M' 0 0) : Ev none e 248 9 [some (.ref 633), some (.int k), some (.int 0), some (.int 0)] [] (wF M 633 0 0) v M' 0 0 := by
  have H : Ev none e 248 2 [some (.ref 633), some (.int k), none, none] [.int 0, .ref 633] M v M' 0 0 := Ev.back 2 (fun n => rfl) H
  obtain ⟨N2, eN2⟩ : ∃ N, N = (wF M 633 0 0) := ⟨_, rfl⟩
  have hN2 : SQ N2 := by rw [eN2]; exact hS.kf
  have H : Ev none e 248 5 [some (.ref 633), some (.int k), none, none] [] N2 v M' 0 0 := by rw [eN2]; exact Ev.pfi rfl rfl rfl hS.1 qa_633 qi_61_0 H
  have H : Ev none e 248 9 [some (.ref 633), some (.int k), some (.int 0), some (.int 0)] [] N2 v M' 0 0 := Ev.back 4 (fun n => rfl) H
  have HF := H
  subst eN2
  exact HF
theorem rcn_9 {e : Nat} {M M' : Mem} {v : Option Value} {k n i : Int32} (hS : SQ M) (H : Ev none e 248 9 [some (.ref 633), some (.int k), some (.int n), some (.int i)] [] M v M' 0 0) : ((rI M 635 12) ≤ i ∧ (0 ≤ (12 : Int32).toInt ∧ (12 : Int32).toInt < 2314) ∧ Ev none e 248 43 [some (.ref 633), some (.int k), some (.int n), some (.int i)] [] M v M' 0 0) ∨ (¬ ((rI M 635 12) ≤ i) ∧ (0 ≤ (12 : Int32).toInt ∧ (12 : Int32).toInt < 2314) ∧ (0 ≤ ((13 + (6 * i)) + 5).toInt ∧ ((13 + (6 * i)) + 5).toInt < 2314) ∧ Ev none e 248 9 [some (.ref 633), some (.int k), some (.int (n + (rI M 635 ((13 + (6 * i)) + 5)))), some (.int (i + 1))] [] M v M' 0 0) := by
  have H : Ev none e 248 11 [some (.ref 633), some (.int k), some (.int n), some (.int i)] [.ref 633, .int i] M v M' 0 0 := Ev.back 2 (fun n => rfl) H
  have H : Ev none e 248 14 [some (.ref 633), some (.int k), some (.int n), some (.int i)] [.ref 635, .int i] M v M' 0 0 := Ev.back 1 (gs_3 rfl rfl (gf_u hS.1 qa_633 qr_61_5 qu_63 rfl)) H
  have H : Ev none e 248 16 [some (.ref 633), some (.int k), some (.int n), some (.int i)] [.int 12, .ref 635, .int i] M v M' 0 0 := Ev.back 1 (fun n => rfl) H
  obtain ⟨b1, H⟩ := Ev.ial rfl rfl hS.1 qa_635 qw_63 H
  have H : Ev none e 248 17 [some (.ref 633), some (.int k), some (.int n), some (.int i)] [.int (rI M 635 12), .int i] M v M' 0 0 := H
  have H : Ev none e 248 (if (rI M 635 12) ≤ i then 43 else 20) [some (.ref 633), some (.int k), some (.int n), some (.int i)] [] M v M' 0 0 := Ev.back 1 (fun n => rfl) H
  by_cases h2 : (rI M 635 12) ≤ i
  · rw [if_pos h2] at H
    have HF := H
    exact Or.inl ⟨h2, b1, HF⟩
  · rw [if_neg h2] at H
    have H : Ev none e 248 22 [some (.ref 633), some (.int k), some (.int n), some (.int i)] [.ref 633, .int n] M v M' 0 0 := Ev.back 2 (fun n => rfl) H
    have H : Ev none e 248 25 [some (.ref 633), some (.int k), some (.int n), some (.int i)] [.ref 635, .int n] M v M' 0 0 := Ev.back 1 (gs_3 rfl rfl (gf_u hS.1 qa_633 qr_61_5 qu_63 rfl)) H
    have H : Ev none e 248 34 [some (.ref 633), some (.int k), some (.int n), some (.int i)] [.int ((13 + (6 * i)) + 5), .ref 635, .int n] M v M' 0 0 := Ev.back 7 (fun n => rfl) H
    obtain ⟨b3, H⟩ := Ev.ial rfl rfl hS.1 qa_635 qw_63 H
    have H : Ev none e 248 35 [some (.ref 633), some (.int k), some (.int n), some (.int i)] [.int (rI M 635 ((13 + (6 * i)) + 5)), .int n] M v M' 0 0 := H
    have H : Ev none e 248 9 [some (.ref 633), some (.int k), some (.int (n + (rI M 635 ((13 + (6 * i)) + 5)))), some (.int (i + 1))] [] M v M' 0 0 := Ev.back 4 (fun n => rfl) H
    have HF := H
    exact Or.inr (⟨h2, b1, b3, HF⟩)
theorem rcn_43 {e : Nat} {M M' : Mem} {v : Option Value} {k n i : Int32} (hS : SQ M) (H : Ev none e 248 43 [some (.ref 633), some (.int k), some (.int n), some (.int i)] [] M v M' 0 0) : (k = 0 ∧ (0 ≤ (0 : Int32).toInt ∧ (0 : Int32).toInt < 2314) ∧ v = some (.int (rI M 635 0)) ∧ M' = M) ∨ (¬ (k = 0) ∧ k = 1 ∧ (0 ≤ (1 : Int32).toInt ∧ (1 : Int32).toInt < 2314) ∧ v = some (.int (rI M 635 1)) ∧ M' = M) ∨ (¬ (k = 0) ∧ ¬ (k = 1) ∧ k = 2 ∧ (0 ≤ (2 : Int32).toInt ∧ (2 : Int32).toInt < 2314) ∧ v = some (.int (rI M 635 2)) ∧ M' = M) ∨ (¬ (k = 0) ∧ ¬ (k = 1) ∧ ¬ (k = 2) ∧ k = 3 ∧ v = some (.int n) ∧ M' = M) ∨ (¬ (k = 0) ∧ ¬ (k = 1) ∧ ¬ (k = 2) ∧ ¬ (k = 3) ∧ k = 4 ∧ (0 ≤ (157 : Int32).toInt ∧ (157 : Int32).toInt < 2314) ∧ v = some (.int (rI M 635 157)) ∧ M' = M) ∨ (¬ (k = 0) ∧ ¬ (k = 1) ∧ ¬ (k = 2) ∧ ¬ (k = 3) ∧ ¬ (k = 4) ∧ k = 5 ∧ (0 ≤ (518 : Int32).toInt ∧ (518 : Int32).toInt < 2314) ∧ v = some (.int (rI M 635 518)) ∧ M' = M) ∨ (¬ (k = 0) ∧ ¬ (k = 1) ∧ ¬ (k = 2) ∧ ¬ (k = 3) ∧ ¬ (k = 4) ∧ ¬ (k = 5) ∧ k = 6 ∧ (0 ≤ (519 : Int32).toInt ∧ (519 : Int32).toInt < 2314) ∧ v = some (.int (rI M 635 519)) ∧ M' = M) ∨ (¬ (k = 0) ∧ ¬ (k = 1) ∧ ¬ (k = 2) ∧ ¬ (k = 3) ∧ ¬ (k = 4) ∧ ¬ (k = 5) ∧ ¬ (k = 6) ∧ k = 7 ∧ (0 ≤ (520 : Int32).toInt ∧ (520 : Int32).toInt < 2314) ∧ v = some (.int (rI M 635 520)) ∧ M' = M) ∨ (¬ (k = 0) ∧ ¬ (k = 1) ∧ ¬ (k = 2) ∧ ¬ (k = 3) ∧ ¬ (k = 4) ∧ ¬ (k = 5) ∧ ¬ (k = 6) ∧ ¬ (k = 7) ∧ k = 8 ∧ (0 ≤ (521 : Int32).toInt ∧ (521 : Int32).toInt < 2314) ∧ v = some (.int (rI M 635 521)) ∧ M' = M) ∨ (¬ (k = 0) ∧ ¬ (k = 1) ∧ ¬ (k = 2) ∧ ¬ (k = 3) ∧ ¬ (k = 4) ∧ ¬ (k = 5) ∧ ¬ (k = 6) ∧ ¬ (k = 7) ∧ ¬ (k = 8) ∧ k = 9 ∧ v = some (.int (zI M 633 2)) ∧ M' = M) ∨ (¬ (k = 0) ∧ ¬ (k = 1) ∧ ¬ (k = 2) ∧ ¬ (k = 3) ∧ ¬ (k = 4) ∧ ¬ (k = 5) ∧ ¬ (k = 6) ∧ ¬ (k = 7) ∧ ¬ (k = 8) ∧ ¬ (k = 9) ∧ v = some (.int (-1)) ∧ M' = M) := by
  have H : Ev none e 248 44 [some (.ref 633), some (.int k), some (.int n), some (.int i)] [.int k] M v M' 0 0 := Ev.back 1 (fun n => rfl) H
  by_cases h1 : k = 0
  · have H : Ev none e 248 100 [some (.ref 633), some (.int k), some (.int n), some (.int i)] [] M v M' 0 0 := Ev.back 1 (by rw [h1]; exact fun n => rfl) H
    have H : Ev none e 248 101 [some (.ref 633), some (.int k), some (.int n), some (.int i)] [.ref 633] M v M' 0 0 := Ev.back 1 (fun n => rfl) H
    have H : Ev none e 248 104 [some (.ref 633), some (.int k), some (.int n), some (.int i)] [.ref 635] M v M' 0 0 := Ev.back 1 (gs_3 rfl rfl (gf_u hS.1 qa_633 qr_61_5 qu_63 rfl)) H
    have H : Ev none e 248 105 [some (.ref 633), some (.int k), some (.int n), some (.int i)] [.int 0, .ref 635] M v M' 0 0 := Ev.back 1 (fun n => rfl) H
    obtain ⟨b2, H⟩ := Ev.ial rfl rfl hS.1 qa_635 qw_63 H
    have H : Ev none e 248 106 [some (.ref 633), some (.int k), some (.int n), some (.int i)] [.int (rI M 635 0)] M v M' 0 0 := H
    obtain ⟨z1, z2⟩ := Ev.retz rfl rfl H
    exact Or.inl ⟨h1, b2, z1, z2⟩
  · by_cases h3 : k = 1
    · have H : Ev none e 248 107 [some (.ref 633), some (.int k), some (.int n), some (.int i)] [] M v M' 0 0 := Ev.back 1 (by rw [h3]; exact fun n => rfl) H
      have H : Ev none e 248 108 [some (.ref 633), some (.int k), some (.int n), some (.int i)] [.ref 633] M v M' 0 0 := Ev.back 1 (fun n => rfl) H
      have H : Ev none e 248 111 [some (.ref 633), some (.int k), some (.int n), some (.int i)] [.ref 635] M v M' 0 0 := Ev.back 1 (gs_3 rfl rfl (gf_u hS.1 qa_633 qr_61_5 qu_63 rfl)) H
      have H : Ev none e 248 112 [some (.ref 633), some (.int k), some (.int n), some (.int i)] [.int 1, .ref 635] M v M' 0 0 := Ev.back 1 (fun n => rfl) H
      obtain ⟨b4, H⟩ := Ev.ial rfl rfl hS.1 qa_635 qw_63 H
      have H : Ev none e 248 113 [some (.ref 633), some (.int k), some (.int n), some (.int i)] [.int (rI M 635 1)] M v M' 0 0 := H
      obtain ⟨z1, z2⟩ := Ev.retz rfl rfl H
      exact Or.inr (Or.inl ⟨h1, h3, b4, z1, z2⟩)
    · by_cases h5 : k = 2
      · have H : Ev none e 248 114 [some (.ref 633), some (.int k), some (.int n), some (.int i)] [] M v M' 0 0 := Ev.back 1 (by rw [h5]; exact fun n => rfl) H
        have H : Ev none e 248 115 [some (.ref 633), some (.int k), some (.int n), some (.int i)] [.ref 633] M v M' 0 0 := Ev.back 1 (fun n => rfl) H
        have H : Ev none e 248 118 [some (.ref 633), some (.int k), some (.int n), some (.int i)] [.ref 635] M v M' 0 0 := Ev.back 1 (gs_3 rfl rfl (gf_u hS.1 qa_633 qr_61_5 qu_63 rfl)) H
        have H : Ev none e 248 119 [some (.ref 633), some (.int k), some (.int n), some (.int i)] [.int 2, .ref 635] M v M' 0 0 := Ev.back 1 (fun n => rfl) H
        obtain ⟨b6, H⟩ := Ev.ial rfl rfl hS.1 qa_635 qw_63 H
        have H : Ev none e 248 120 [some (.ref 633), some (.int k), some (.int n), some (.int i)] [.int (rI M 635 2)] M v M' 0 0 := H
        obtain ⟨z1, z2⟩ := Ev.retz rfl rfl H
        exact Or.inr (Or.inr (Or.inl ⟨h1, h3, h5, b6, z1, z2⟩))
      · by_cases h7 : k = 3
        · have H : Ev none e 248 121 [some (.ref 633), some (.int k), some (.int n), some (.int i)] [] M v M' 0 0 := Ev.back 1 (by rw [h7]; exact fun n => rfl) H
          have H : Ev none e 248 122 [some (.ref 633), some (.int k), some (.int n), some (.int i)] [.int n] M v M' 0 0 := Ev.back 1 (fun n => rfl) H
          obtain ⟨z1, z2⟩ := Ev.retz rfl rfl H
          exact Or.inr (Or.inr (Or.inr (Or.inl ⟨h1, h3, h5, h7, z1, z2⟩)))
        · by_cases h8 : k = 4
          · have H : Ev none e 248 123 [some (.ref 633), some (.int k), some (.int n), some (.int i)] [] M v M' 0 0 := Ev.back 1 (by rw [h8]; exact fun n => rfl) H
            have H : Ev none e 248 124 [some (.ref 633), some (.int k), some (.int n), some (.int i)] [.ref 633] M v M' 0 0 := Ev.back 1 (fun n => rfl) H
            have H : Ev none e 248 127 [some (.ref 633), some (.int k), some (.int n), some (.int i)] [.ref 635] M v M' 0 0 := Ev.back 1 (gs_3 rfl rfl (gf_u hS.1 qa_633 qr_61_5 qu_63 rfl)) H
            have H : Ev none e 248 130 [some (.ref 633), some (.int k), some (.int n), some (.int i)] [.int 157, .ref 635] M v M' 0 0 := Ev.back 1 (fun n => rfl) H
            obtain ⟨b9, H⟩ := Ev.ial rfl rfl hS.1 qa_635 qw_63 H
            have H : Ev none e 248 131 [some (.ref 633), some (.int k), some (.int n), some (.int i)] [.int (rI M 635 157)] M v M' 0 0 := H
            obtain ⟨z1, z2⟩ := Ev.retz rfl rfl H
            exact Or.inr (Or.inr (Or.inr (Or.inr (Or.inl ⟨h1, h3, h5, h7, h8, b9, z1, z2⟩))))
          · by_cases h10 : k = 5
            · have H : Ev none e 248 132 [some (.ref 633), some (.int k), some (.int n), some (.int i)] [] M v M' 0 0 := Ev.back 1 (by rw [h10]; exact fun n => rfl) H
              have H : Ev none e 248 133 [some (.ref 633), some (.int k), some (.int n), some (.int i)] [.ref 633] M v M' 0 0 := Ev.back 1 (fun n => rfl) H
              have H : Ev none e 248 136 [some (.ref 633), some (.int k), some (.int n), some (.int i)] [.ref 635] M v M' 0 0 := Ev.back 1 (gs_3 rfl rfl (gf_u hS.1 qa_633 qr_61_5 qu_63 rfl)) H
              have H : Ev none e 248 139 [some (.ref 633), some (.int k), some (.int n), some (.int i)] [.int 518, .ref 635] M v M' 0 0 := Ev.back 1 (fun n => rfl) H
              obtain ⟨b11, H⟩ := Ev.ial rfl rfl hS.1 qa_635 qw_63 H
              have H : Ev none e 248 140 [some (.ref 633), some (.int k), some (.int n), some (.int i)] [.int (rI M 635 518)] M v M' 0 0 := H
              obtain ⟨z1, z2⟩ := Ev.retz rfl rfl H
              exact Or.inr (Or.inr (Or.inr (Or.inr (Or.inr (Or.inl ⟨h1, h3, h5, h7, h8, h10, b11, z1, z2⟩)))))
            · by_cases h12 : k = 6
              · have H : Ev none e 248 141 [some (.ref 633), some (.int k), some (.int n), some (.int i)] [] M v M' 0 0 := Ev.back 1 (by rw [h12]; exact fun n => rfl) H
                have H : Ev none e 248 142 [some (.ref 633), some (.int k), some (.int n), some (.int i)] [.ref 633] M v M' 0 0 := Ev.back 1 (fun n => rfl) H
                have H : Ev none e 248 145 [some (.ref 633), some (.int k), some (.int n), some (.int i)] [.ref 635] M v M' 0 0 := Ev.back 1 (gs_3 rfl rfl (gf_u hS.1 qa_633 qr_61_5 qu_63 rfl)) H
                have H : Ev none e 248 148 [some (.ref 633), some (.int k), some (.int n), some (.int i)] [.int 519, .ref 635] M v M' 0 0 := Ev.back 1 (fun n => rfl) H
                obtain ⟨b13, H⟩ := Ev.ial rfl rfl hS.1 qa_635 qw_63 H
                have H : Ev none e 248 149 [some (.ref 633), some (.int k), some (.int n), some (.int i)] [.int (rI M 635 519)] M v M' 0 0 := H
                obtain ⟨z1, z2⟩ := Ev.retz rfl rfl H
                exact Or.inr (Or.inr (Or.inr (Or.inr (Or.inr (Or.inr (Or.inl ⟨h1, h3, h5, h7, h8, h10, h12, b13, z1, z2⟩))))))
              · by_cases h14 : k = 7
                · have H : Ev none e 248 150 [some (.ref 633), some (.int k), some (.int n), some (.int i)] [] M v M' 0 0 := Ev.back 1 (by rw [h14]; exact fun n => rfl) H
                  have H : Ev none e 248 151 [some (.ref 633), some (.int k), some (.int n), some (.int i)] [.ref 633] M v M' 0 0 := Ev.back 1 (fun n => rfl) H
                  have H : Ev none e 248 154 [some (.ref 633), some (.int k), some (.int n), some (.int i)] [.ref 635] M v M' 0 0 := Ev.back 1 (gs_3 rfl rfl (gf_u hS.1 qa_633 qr_61_5 qu_63 rfl)) H
                  have H : Ev none e 248 157 [some (.ref 633), some (.int k), some (.int n), some (.int i)] [.int 520, .ref 635] M v M' 0 0 := Ev.back 1 (fun n => rfl) H
                  obtain ⟨b15, H⟩ := Ev.ial rfl rfl hS.1 qa_635 qw_63 H
                  have H : Ev none e 248 158 [some (.ref 633), some (.int k), some (.int n), some (.int i)] [.int (rI M 635 520)] M v M' 0 0 := H
                  obtain ⟨z1, z2⟩ := Ev.retz rfl rfl H
                  exact Or.inr (Or.inr (Or.inr (Or.inr (Or.inr (Or.inr (Or.inr (Or.inl ⟨h1, h3, h5, h7, h8, h10, h12, h14, b15, z1, z2⟩)))))))
                · by_cases h16 : k = 8
                  · have H : Ev none e 248 159 [some (.ref 633), some (.int k), some (.int n), some (.int i)] [] M v M' 0 0 := Ev.back 1 (by rw [h16]; exact fun n => rfl) H
                    have H : Ev none e 248 160 [some (.ref 633), some (.int k), some (.int n), some (.int i)] [.ref 633] M v M' 0 0 := Ev.back 1 (fun n => rfl) H
                    have H : Ev none e 248 163 [some (.ref 633), some (.int k), some (.int n), some (.int i)] [.ref 635] M v M' 0 0 := Ev.back 1 (gs_3 rfl rfl (gf_u hS.1 qa_633 qr_61_5 qu_63 rfl)) H
                    have H : Ev none e 248 166 [some (.ref 633), some (.int k), some (.int n), some (.int i)] [.int 521, .ref 635] M v M' 0 0 := Ev.back 1 (fun n => rfl) H
                    obtain ⟨b17, H⟩ := Ev.ial rfl rfl hS.1 qa_635 qw_63 H
                    have H : Ev none e 248 167 [some (.ref 633), some (.int k), some (.int n), some (.int i)] [.int (rI M 635 521)] M v M' 0 0 := H
                    obtain ⟨z1, z2⟩ := Ev.retz rfl rfl H
                    exact Or.inr (Or.inr (Or.inr (Or.inr (Or.inr (Or.inr (Or.inr (Or.inr (Or.inl ⟨h1, h3, h5, h7, h8, h10, h12, h14, h16, b17, z1, z2⟩))))))))
                  · by_cases h18 : k = 9
                    · have H : Ev none e 248 168 [some (.ref 633), some (.int k), some (.int n), some (.int i)] [] M v M' 0 0 := Ev.back 1 (by rw [h18]; exact fun n => rfl) H
                      have H : Ev none e 248 169 [some (.ref 633), some (.int k), some (.int n), some (.int i)] [.ref 633] M v M' 0 0 := Ev.back 1 (fun n => rfl) H
                      have H : Ev none e 248 172 [some (.ref 633), some (.int k), some (.int n), some (.int i)] [.int (zI M 633 2)] M v M' 0 0 := Ev.back 1 (gs_3 rfl rfl (gf_i hS.1 qa_633 qi_61_2 rfl)) H
                      obtain ⟨z1, z2⟩ := Ev.retz rfl rfl H
                      exact Or.inr (Or.inr (Or.inr (Or.inr (Or.inr (Or.inr (Or.inr (Or.inr (Or.inr (Or.inl ⟨h1, h3, h5, h7, h8, h10, h12, h14, h16, h18, z1, z2⟩)))))))))
                    · have H : Ev none e 248 (if k.toInt < 0 ∨ 9 < k.toInt then gT 44 129 else gT 44 (([56, 63, 70, 77, 79, 88, 97, 106, 115, 124] : List Int).getD (k.toInt - 0).toNat 0)) [some (.ref 633), some (.int k), some (.int n), some (.int i)] [] M v M' 0 0 := Ev.back 1 (fun n => rfl) H
                      have qh1 : k.toInt ≠ 0 := fun q => h1 (Int32.toInt_inj.mp q)
                      have qh3 : k.toInt ≠ 1 := fun q => h3 (Int32.toInt_inj.mp q)
                      have qh5 : k.toInt ≠ 2 := fun q => h5 (Int32.toInt_inj.mp q)
                      have qh7 : k.toInt ≠ 3 := fun q => h7 (Int32.toInt_inj.mp q)
                      have qh8 : k.toInt ≠ 4 := fun q => h8 (Int32.toInt_inj.mp q)
                      have qh10 : k.toInt ≠ 5 := fun q => h10 (Int32.toInt_inj.mp q)
                      have qh12 : k.toInt ≠ 6 := fun q => h12 (Int32.toInt_inj.mp q)
                      have qh14 : k.toInt ≠ 7 := fun q => h14 (Int32.toInt_inj.mp q)
                      have qh16 : k.toInt ≠ 8 := fun q => h16 (Int32.toInt_inj.mp q)
                      have qh18 : k.toInt ≠ 9 := fun q => h18 (Int32.toInt_inj.mp q)
                      rw [if_pos (show k.toInt < 0 ∨ 9 < k.toInt from by omega)] at H
                      have H : Ev none e 248 173 [some (.ref 633), some (.int k), some (.int n), some (.int i)] [] M v M' 0 0 := H
                      have H : Ev none e 248 174 [some (.ref 633), some (.int k), some (.int n), some (.int i)] [.int (-1)] M v M' 0 0 := Ev.back 1 (fun n => rfl) H
                      obtain ⟨z1, z2⟩ := Ev.retz rfl rfl H
                      exact Or.inr (Or.inr (Or.inr (Or.inr (Or.inr (Or.inr (Or.inr (Or.inr (Or.inr (Or.inr (⟨h1, h3, h5, h7, h8, h10, h12, h14, h16, h18, z1, z2⟩))))))))))
theorem rfA_0 {e : Nat} {M M' : Mem} {v : Option Value} {k : Int32} (hS : SQ M) (H : Ev none e 236 0 [some (.ref 633), some (.int k)] [] M v M' 0 0) : ((G_140 (wF M 633 0 0) k 0 ((zI M 633 53) - 1)) = 0 ∧ v = some (.int (-1)) ∧ M' = (wF M 633 0 0)) ∨ (¬ ((G_140 (wF M 633 0 0) k 0 ((zI M 633 53) - 1)) = 0) ∧ (0 ≤ k.toInt ∧ k.toInt < 2) ∧ v = some (.int (rI M 656 k)) ∧ M' = (wF M 633 0 0)) := by
  have H : Ev none e 236 2 [some (.ref 633), some (.int k)] [.int 0, .ref 633] M v M' 0 0 := Ev.back 2 (fun n => rfl) H
  obtain ⟨N2, eN2⟩ : ∃ N, N = (wF M 633 0 0) := ⟨_, rfl⟩
  have hN2 : SQ N2 := by rw [eN2]; exact hS.kf
  have H : Ev none e 236 5 [some (.ref 633), some (.int k)] [] N2 v M' 0 0 := by rw [eN2]; exact Ev.pfi rfl rfl rfl hS.1 qa_633 qi_61_0 H
  have H : Ev none e 236 8 [some (.ref 633), some (.int k)] [.ref 633, .int 0, .int k] N2 v M' 0 0 := Ev.back 3 (fun n => rfl) H
  have H : Ev none e 236 11 [some (.ref 633), some (.int k)] [.int (zI N2 633 53), .int 0, .int k] N2 v M' 0 0 := Ev.back 1 (gs_3 rfl rfl (gf_i hN2.1 qa_633 qi_61_53 rfl)) H
  rw [show zI N2 633 53 = zI M 633 53 from by rw [eN2]; exact fI_wF_ne (fun q => absurd q.2 (by decide))] at H
  have H : Ev none e 236 13 [some (.ref 633), some (.int k)] [.int ((zI M 633 53) - 1), .int 0, .int k] N2 v M' 0 0 := Ev.back 2 (fun n => rfl) H
  obtain ⟨e1, rfl⟩ := Ev.dpos rfl rfl H
  obtain ⟨vK3, MK3, K3, H⟩ := Ev.callb (fun n => rfl) H
  obtain ⟨pK3, qK3⟩ := g_140 hN2 K3
  rw [pK3, qK3] at H
  have H : Ev none (e1 + 1) 236 16 [some (.ref 633), some (.int k)] [.int (G_140 N2 k 0 ((zI M 633 53) - 1))] N2 v M' 0 0 := H
  have H : Ev none (e1 + 1) 236 (if (G_140 N2 k 0 ((zI M 633 53) - 1)) = 0 then 28 else 19) [some (.ref 633), some (.int k)] [] N2 v M' 0 0 := Ev.back 1 (fun n => rfl) H
  by_cases h4 : (G_140 N2 k 0 ((zI M 633 53) - 1)) = 0
  · rw [if_pos h4] at H
    have H : Ev none (e1 + 1) 236 29 [some (.ref 633), some (.int k)] [.int (-1)] N2 v M' 0 0 := Ev.back 1 (fun n => rfl) H
    obtain ⟨z1, z2⟩ := Ev.retz rfl rfl H
    subst eN2
    exact Or.inl ⟨h4, z1, z2⟩
  · rw [if_neg h4] at H
    have H : Ev none (e1 + 1) 236 20 [some (.ref 633), some (.int k)] [.ref 633] N2 v M' 0 0 := Ev.back 1 (fun n => rfl) H
    have H : Ev none (e1 + 1) 236 23 [some (.ref 633), some (.int k)] [.ref 656] N2 v M' 0 0 := Ev.back 1 (gs_3 rfl rfl (gf_u hN2.1 qa_633 qr_61_52 qu_84 rfl)) H
    have H : Ev none (e1 + 1) 236 24 [some (.ref 633), some (.int k)] [.int k, .ref 656] N2 v M' 0 0 := Ev.back 1 (fun n => rfl) H
    obtain ⟨b5, H⟩ := Ev.ial rfl rfl hN2.1 qa_656 qw_84 H
    have H : Ev none (e1 + 1) 236 25 [some (.ref 633), some (.int k)] [.int (rI N2 656 k)] N2 v M' 0 0 := H
    rw [show rI N2 656 k = rI M 656 k from by rw [eN2]; exact rN_wF] at H
    have H : Ev none (e1 + 1) 236 29 [some (.ref 633), some (.int k)] [.int (rI M 656 k)] N2 v M' 0 0 := Ev.back 1 (fun n => rfl) H
    obtain ⟨z1, z2⟩ := Ev.retz rfl rfl H
    subst eN2
    exact Or.inr (⟨h4, b5, z1, z2⟩)
theorem rwA_0 {e : Nat} {M M' : Mem} {v : Option Value} {k : Int32} (hS : SQ M) (H : Ev none e 241 0 [some (.ref 633), some (.int k)] [] M v M' 0 0) : ((G_140 (wF M 633 0 0) k 0 ((zI M 633 61) - 1)) = 0 ∧ v = some (.int (-1)) ∧ M' = (wF M 633 0 0)) ∨ (¬ ((G_140 (wF M 633 0 0) k 0 ((zI M 633 61) - 1)) = 0) ∧ (0 ≤ k.toInt ∧ k.toInt < 201) ∧ v = some (.int (rI M 658 k)) ∧ M' = (wF M 633 0 0)) := by
  have H : Ev none e 241 2 [some (.ref 633), some (.int k)] [.int 0, .ref 633] M v M' 0 0 := Ev.back 2 (fun n => rfl) H
  obtain ⟨N2, eN2⟩ : ∃ N, N = (wF M 633 0 0) := ⟨_, rfl⟩
  have hN2 : SQ N2 := by rw [eN2]; exact hS.kf
  have H : Ev none e 241 5 [some (.ref 633), some (.int k)] [] N2 v M' 0 0 := by rw [eN2]; exact Ev.pfi rfl rfl rfl hS.1 qa_633 qi_61_0 H
  have H : Ev none e 241 8 [some (.ref 633), some (.int k)] [.ref 633, .int 0, .int k] N2 v M' 0 0 := Ev.back 3 (fun n => rfl) H
  have H : Ev none e 241 11 [some (.ref 633), some (.int k)] [.int (zI N2 633 61), .int 0, .int k] N2 v M' 0 0 := Ev.back 1 (gs_3 rfl rfl (gf_i hN2.1 qa_633 qi_61_61 rfl)) H
  rw [show zI N2 633 61 = zI M 633 61 from by rw [eN2]; exact fI_wF_ne (fun q => absurd q.2 (by decide))] at H
  have H : Ev none e 241 13 [some (.ref 633), some (.int k)] [.int ((zI M 633 61) - 1), .int 0, .int k] N2 v M' 0 0 := Ev.back 2 (fun n => rfl) H
  obtain ⟨e1, rfl⟩ := Ev.dpos rfl rfl H
  obtain ⟨vK3, MK3, K3, H⟩ := Ev.callb (fun n => rfl) H
  obtain ⟨pK3, qK3⟩ := g_140 hN2 K3
  rw [pK3, qK3] at H
  have H : Ev none (e1 + 1) 241 16 [some (.ref 633), some (.int k)] [.int (G_140 N2 k 0 ((zI M 633 61) - 1))] N2 v M' 0 0 := H
  have H : Ev none (e1 + 1) 241 (if (G_140 N2 k 0 ((zI M 633 61) - 1)) = 0 then 28 else 19) [some (.ref 633), some (.int k)] [] N2 v M' 0 0 := Ev.back 1 (fun n => rfl) H
  by_cases h4 : (G_140 N2 k 0 ((zI M 633 61) - 1)) = 0
  · rw [if_pos h4] at H
    have H : Ev none (e1 + 1) 241 29 [some (.ref 633), some (.int k)] [.int (-1)] N2 v M' 0 0 := Ev.back 1 (fun n => rfl) H
    obtain ⟨z1, z2⟩ := Ev.retz rfl rfl H
    subst eN2
    exact Or.inl ⟨h4, z1, z2⟩
  · rw [if_neg h4] at H
    have H : Ev none (e1 + 1) 241 20 [some (.ref 633), some (.int k)] [.ref 633] N2 v M' 0 0 := Ev.back 1 (fun n => rfl) H
    have H : Ev none (e1 + 1) 241 23 [some (.ref 633), some (.int k)] [.ref 658] N2 v M' 0 0 := Ev.back 1 (gs_3 rfl rfl (gf_u hN2.1 qa_633 qr_61_55 qu_86 rfl)) H
    have H : Ev none (e1 + 1) 241 24 [some (.ref 633), some (.int k)] [.int k, .ref 658] N2 v M' 0 0 := Ev.back 1 (fun n => rfl) H
    obtain ⟨b5, H⟩ := Ev.ial rfl rfl hN2.1 qa_658 qw_86 H
    have H : Ev none (e1 + 1) 241 25 [some (.ref 633), some (.int k)] [.int (rI N2 658 k)] N2 v M' 0 0 := H
    rw [show rI N2 658 k = rI M 658 k from by rw [eN2]; exact rN_wF] at H
    have H : Ev none (e1 + 1) 241 29 [some (.ref 633), some (.int k)] [.int (rI M 658 k)] N2 v M' 0 0 := Ev.back 1 (fun n => rfl) H
    obtain ⟨z1, z2⟩ := Ev.retz rfl rfl H
    subst eN2
    exact Or.inr (⟨h4, b5, z1, z2⟩)
theorem rce_0 {e : Nat} {M M' : Mem} {v : Option Value} {c k : Int32} (hS : SQ M) (H : Ev none e 214 0 [some (.ref 633), some (.int c), some (.int k)] [] M v M' 0 0) : ((G_145 M c) = 0 ∧ (∃ e1 v1 M1, e = e1 + 1 ∧ Ev none e1 135 0 [some (.ref 633), some (.int 1)] [] M v1 M1 0 0 ∧ Ev none e 214 27 [some (.ref 633), some (.int c), some (.int k)] (v1.toList ++ []) M1 v M' 0 0)) ∨ (¬ ((G_145 M c) = 0) ∧ (G_140 M k 0 8) = 0 ∧ (∃ e1 v1 M1, e = e1 + 1 ∧ Ev none e1 135 0 [some (.ref 633), some (.int 1)] [] M v1 M1 0 0 ∧ Ev none e 214 27 [some (.ref 633), some (.int c), some (.int k)] (v1.toList ++ []) M1 v M' 0 0)) ∨ (¬ ((G_145 M c) = 0) ∧ ¬ ((G_140 M k 0 8) = 0) ∧ (∃ e1 v1 M1, e = e1 + 1 ∧ Ev none e1 135 0 [some (.ref 633), some (.int 0)] [] M v1 M1 0 0 ∧ Ev none e 214 27 [some (.ref 633), some (.int c), some (.int k)] (v1.toList ++ []) M1 v M' 0 0)) := by
  have H : Ev none e 214 3 [some (.ref 633), some (.int c), some (.int k)] [.int c, .ref 633, .ref 633] M v M' 0 0 := Ev.back 3 (fun n => rfl) H
  obtain ⟨e1, rfl⟩ := Ev.dpos rfl rfl H
  obtain ⟨vK1, MK1, K1, H⟩ := Ev.callb (fun n_ => gs_7 rfl rfl (show gCal (.invokevirtual 155) 11 (.int c :: .ref 633 :: [.ref 633]) M = some (.inr (145, [some (.ref 633), some (.int c)], [.ref 633])) from by show @cond (Option ((List Value × Mem) ⊕ (Nat × Lo × List Value))) (true && gRecv M (.ref 633) 11 && gRoom [.ref 633] && true) (some (.inr (145, [some (.ref 633), some (.int c)], [.ref 633]))) none = _; rw [recv_s hS.1 qa_633 qo_61]; rfl)) H
  obtain ⟨pK1, qK1⟩ := g_145 hS K1
  rw [pK1, qK1] at H
  have H : Ev none (e1 + 1) 214 6 [some (.ref 633), some (.int c), some (.int k)] [.int (G_145 M c), .ref 633] M v M' 0 0 := H
  have H : Ev none (e1 + 1) 214 (if (G_145 M c) = 0 then 19 else 9) [some (.ref 633), some (.int c), some (.int k)] [.ref 633] M v M' 0 0 := Ev.back 1 (fun n => rfl) H
  by_cases h2 : (G_145 M c) = 0
  · rw [if_pos h2] at H
    have H : Ev none (e1 + 1) 214 24 [some (.ref 633), some (.int c), some (.int k)] [.int 1, .ref 633] M v M' 0 0 := Ev.back 2 (fun n => rfl) H
    obtain ⟨vK3, MK3, K3, H⟩ := Ev.callb (fun n_ => gs_7 rfl rfl (show gCal (.invokevirtual 439) 11 (.int 1 :: .ref 633 :: []) M = some (.inr (135, [some (.ref 633), some (.int 1)], [])) from by show @cond (Option ((List Value × Mem) ⊕ (Nat × Lo × List Value))) (true && gRecv M (.ref 633) 11 && gRoom [] && true) (some (.inr (135, [some (.ref 633), some (.int 1)], []))) none = _; rw [recv_s hS.1 qa_633 qo_61]; rfl)) H
    have K3 : Ev none e1 135 0 [some (.ref 633), some (.int 1)] [] M vK3 MK3 0 0 := K3
    have HF := H
    exact Or.inl ⟨h2, ⟨e1, vK3, MK3, rfl, K3, HF⟩⟩
  · rw [if_neg h2] at H
    have H : Ev none (e1 + 1) 214 13 [some (.ref 633), some (.int c), some (.int k)] [.int 8, .int 0, .int k, .ref 633] M v M' 0 0 := Ev.back 3 (fun n => rfl) H
    obtain ⟨vK4, MK4, K4, H⟩ := Ev.callb (fun n => rfl) H
    obtain ⟨pK4, qK4⟩ := g_140 hS K4
    rw [pK4, qK4] at H
    have H : Ev none (e1 + 1) 214 16 [some (.ref 633), some (.int c), some (.int k)] [.int (G_140 M k 0 8), .ref 633] M v M' 0 0 := H
    have H : Ev none (e1 + 1) 214 (if (G_140 M k 0 8) = 0 then 19 else 23) [some (.ref 633), some (.int c), some (.int k)] [.ref 633] M v M' 0 0 := Ev.back 1 (fun n => rfl) H
    by_cases h5 : (G_140 M k 0 8) = 0
    · rw [if_pos h5] at H
      have H : Ev none (e1 + 1) 214 24 [some (.ref 633), some (.int c), some (.int k)] [.int 1, .ref 633] M v M' 0 0 := Ev.back 2 (fun n => rfl) H
      obtain ⟨vK6, MK6, K6, H⟩ := Ev.callb (fun n_ => gs_7 rfl rfl (show gCal (.invokevirtual 439) 11 (.int 1 :: .ref 633 :: []) M = some (.inr (135, [some (.ref 633), some (.int 1)], [])) from by show @cond (Option ((List Value × Mem) ⊕ (Nat × Lo × List Value))) (true && gRecv M (.ref 633) 11 && gRoom [] && true) (some (.inr (135, [some (.ref 633), some (.int 1)], []))) none = _; rw [recv_s hS.1 qa_633 qo_61]; rfl)) H
      have K6 : Ev none e1 135 0 [some (.ref 633), some (.int 1)] [] M vK6 MK6 0 0 := K6
      have HF := H
      exact Or.inr (Or.inl ⟨h2, h5, ⟨e1, vK6, MK6, rfl, K6, HF⟩⟩)
    · rw [if_neg h5] at H
      have H : Ev none (e1 + 1) 214 24 [some (.ref 633), some (.int c), some (.int k)] [.int 0, .ref 633] M v M' 0 0 := Ev.back 1 (fun n => rfl) H
      obtain ⟨vK7, MK7, K7, H⟩ := Ev.callb (fun n_ => gs_7 rfl rfl (show gCal (.invokevirtual 439) 11 (.int 0 :: .ref 633 :: []) M = some (.inr (135, [some (.ref 633), some (.int 0)], [])) from by show @cond (Option ((List Value × Mem) ⊕ (Nat × Lo × List Value))) (true && gRecv M (.ref 633) 11 && gRoom [] && true) (some (.inr (135, [some (.ref 633), some (.int 0)], []))) none = _; rw [recv_s hS.1 qa_633 qo_61]; rfl)) H
      have K7 : Ev none e1 135 0 [some (.ref 633), some (.int 0)] [] M vK7 MK7 0 0 := K7
      have HF := H
      exact Or.inr (Or.inr (⟨h2, h5, ⟨e1, vK7, MK7, rfl, K7, HF⟩⟩))
