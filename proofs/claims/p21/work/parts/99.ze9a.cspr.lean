/-! THE CLASS'S spread over the cells: pieces (made by gwal10.py) -/
theorem chp_0 {e : Nat} {M M' : Mem} {v : Option Value} {c s t : Int32} {a : Nat} (hS : SQ M) (a_a : gNth sT a = some 43) (H : Ev none e 24 0 [some (.ref 192), some (.ref a), some (.int c), some (.int s), some (.int t), none, none, none, none] [] M v M' 0 0) : ((rI M 195 c) < 1000000 ∧ (0 ≤ c.toInt ∧ c.toInt < 256) ∧ (0 ≤ c.toInt ∧ c.toInt < 256) ∧ Ev none e 24 21 [some (.ref 192), some (.ref a), some (.int c), some (.int s), some (.int t), some (.int (rI M a c)), some (.int 0), none, none] [] M v M' 0 0) ∨ (¬ ((rI M 195 c) < 1000000) ∧ (0 ≤ c.toInt ∧ c.toInt < 256) ∧ v = some (.int 0) ∧ M' = M) := by
  have H : Ev none e 24 1 [some (.ref 192), some (.ref a), some (.int c), some (.int s), some (.int t), none, none, none, none] [.ref 192] M v M' 0 0 := Ev.back 1 (fun n => rfl) H
  have H : Ev none e 24 4 [some (.ref 192), some (.ref a), some (.int c), some (.int s), some (.int t), none, none, none, none] [.ref 195] M v M' 0 0 := Ev.back 1 (gs_3 rfl rfl (gf_u hS.1 qa_192 qr_41_2 qu_44 rfl)) H
  have H : Ev none e 24 5 [some (.ref 192), some (.ref a), some (.int c), some (.int s), some (.int t), none, none, none, none] [.int c, .ref 195] M v M' 0 0 := Ev.back 1 (fun n => rfl) H
  obtain ⟨b1, H⟩ := Ev.ial rfl rfl hS.1 qa_195 qw_44 H
  have H : Ev none e 24 6 [some (.ref 192), some (.ref a), some (.int c), some (.int s), some (.int t), none, none, none, none] [.int (rI M 195 c)] M v M' 0 0 := H
  have H : Ev none e 24 (if (rI M 195 c) < 1000000 then 13 else 11) [some (.ref 192), some (.ref a), some (.int c), some (.int s), some (.int t), none, none, none, none] [] M v M' 0 0 := Ev.back 2 (fun n => rfl) H
  by_cases h2 : (rI M 195 c) < 1000000
  · rw [if_pos h2] at H
    have H : Ev none e 24 15 [some (.ref 192), some (.ref a), some (.int c), some (.int s), some (.int t), none, none, none, none] [.int c, .ref a] M v M' 0 0 := Ev.back 2 (fun n => rfl) H
    obtain ⟨b3, H⟩ := Ev.ial rfl rfl hS.1 a_a qw_43 H
    have H : Ev none e 24 16 [some (.ref 192), some (.ref a), some (.int c), some (.int s), some (.int t), none, none, none, none] [.int (rI M a c)] M v M' 0 0 := H
    have H : Ev none e 24 21 [some (.ref 192), some (.ref a), some (.int c), some (.int s), some (.int t), some (.int (rI M a c)), some (.int 0), none, none] [] M v M' 0 0 := Ev.back 3 (fun n => rfl) H
    have HF := H
    exact Or.inl ⟨h2, b1, b3, HF⟩
  · rw [if_neg h2] at H
    have H : Ev none e 24 12 [some (.ref 192), some (.ref a), some (.int c), some (.int s), some (.int t), none, none, none, none] [.int 0] M v M' 0 0 := Ev.back 1 (fun n => rfl) H
    obtain ⟨z1, z2⟩ := Ev.retz rfl rfl H
    exact Or.inr (⟨h2, b1, z1, z2⟩)
theorem chp_21 {e : Nat} {M M' : Mem} {v : Option Value} {c s t le d : Int32} {a : Nat} {o7 o8 : Option Value} (hS : SQ M) (a_a : gNth sT a = some 43) (H : Ev none e 24 21 [some (.ref 192), some (.ref a), some (.int c), some (.int s), some (.int t), some (.int le), some (.int d), o7, o8] [] M v M' 0 0) : (8 ≤ d ∧ (rI M a c) ≤ le ∧ (0 ≤ c.toInt ∧ c.toInt < 256) ∧ (0 ≤ c.toInt ∧ c.toInt < 256) ∧ v = some (.int 0) ∧ M' = (wI M a c.toNatClampNeg le)) ∨ (8 ≤ d ∧ ¬ ((rI M a c) ≤ le) ∧ (0 ≤ c.toInt ∧ c.toInt < 256) ∧ (0 ≤ c.toInt ∧ c.toInt < 256) ∧ v = some (.int 1) ∧ M' = (wI M a c.toNatClampNeg le)) ∨ (¬ (8 ≤ d) ∧ (rI M 108 ((8 * c) + d)) = (-1) ∧ (0 ≤ ((8 * c) + d).toInt ∧ ((8 * c) + d).toInt < 2048) ∧ Ev none e 24 21 [some (.ref 192), some (.ref a), some (.int c), some (.int s), some (.int t), some (.int le), some (.int (d + 1)), some (.int (rI M 108 ((8 * c) + d))), o8] [] M v M' 0 0) ∨ (¬ (8 ≤ d) ∧ ¬ ((rI M 108 ((8 * c) + d)) = (-1)) ∧ (d &&& 1) = 0 ∧ (0 ≤ ((8 * c) + d).toInt ∧ ((8 * c) + d).toInt < 2048) ∧ (0 ≤ (rI M 108 ((8 * c) + d)).toInt ∧ (rI M 108 ((8 * c) + d)).toInt < 256) ∧ (0 ≤ c.toInt ∧ c.toInt < 256) ∧ Ev none e 24 21 [some (.ref 192), some (.ref a), some (.int c), some (.int s), some (.int t), some (.int (if (((rI M a (rI M 108 ((8 * c) + d))) + s) + (rI M 195 c)) < le then (((rI M a (rI M 108 ((8 * c) + d))) + s) + (rI M 195 c)) else le)), some (.int (d + 1)), some (.int (rI M 108 ((8 * c) + d))), some (.int s)] [] M v M' 0 0) ∨ (¬ (8 ≤ d) ∧ ¬ ((rI M 108 ((8 * c) + d)) = (-1)) ∧ ¬ ((d &&& 1) = 0) ∧ (0 ≤ ((8 * c) + d).toInt ∧ ((8 * c) + d).toInt < 2048) ∧ (0 ≤ (rI M 108 ((8 * c) + d)).toInt ∧ (rI M 108 ((8 * c) + d)).toInt < 256) ∧ (0 ≤ c.toInt ∧ c.toInt < 256) ∧ Ev none e 24 21 [some (.ref 192), some (.ref a), some (.int c), some (.int s), some (.int t), some (.int (if (((rI M a (rI M 108 ((8 * c) + d))) + t) + (rI M 195 c)) < le then (((rI M a (rI M 108 ((8 * c) + d))) + t) + (rI M 195 c)) else le)), some (.int (d + 1)), some (.int (rI M 108 ((8 * c) + d))), some (.int t)] [] M v M' 0 0) := by
  have H : Ev none e 24 (if 8 ≤ d then 96 else 28) [some (.ref 192), some (.ref a), some (.int c), some (.int s), some (.int t), some (.int le), some (.int d), o7, o8] [] M v M' 0 0 := Ev.back 3 (fun n => rfl) H
  by_cases h1 : 8 ≤ d
  · rw [if_pos h1] at H
    have H : Ev none e 24 100 [some (.ref 192), some (.ref a), some (.int c), some (.int s), some (.int t), some (.int le), some (.int d), o7, o8] [.int c, .ref a, .int le] M v M' 0 0 := Ev.back 3 (fun n => rfl) H
    obtain ⟨b2, H⟩ := Ev.ial rfl rfl hS.1 a_a qw_43 H
    have H : Ev none e 24 101 [some (.ref 192), some (.ref a), some (.int c), some (.int s), some (.int t), some (.int le), some (.int d), o7, o8] [.int (rI M a c), .int le] M v M' 0 0 := H
    have H : Ev none e 24 (if (rI M a c) ≤ le then 108 else 104) [some (.ref 192), some (.ref a), some (.int c), some (.int s), some (.int t), some (.int le), some (.int d), o7, o8] [] M v M' 0 0 := Ev.back 1 (fun n => rfl) H
    by_cases h3 : (rI M a c) ≤ le
    · rw [if_pos h3] at H
      have H : Ev none e 24 115 [some (.ref 192), some (.ref a), some (.int c), some (.int s), some (.int t), some (.int le), some (.int 0), o7, o8] [.int le, .int c, .ref a] M v M' 0 0 := Ev.back 5 (fun n => rfl) H
      obtain ⟨b4, H⟩ := Ev.ias rfl rfl hS.1 a_a qw_43 H
      obtain ⟨N5, eN5⟩ : ∃ N, N = (wI M a c.toNatClampNeg le) := ⟨_, rfl⟩
      have hN5 : SQ N5 := by rw [eN5]; exact hS.ki
      have H : Ev none e 24 116 [some (.ref 192), some (.ref a), some (.int c), some (.int s), some (.int t), some (.int le), some (.int 0), o7, o8] [] N5 v M' 0 0 := by rw [eN5]; exact H
      have H : Ev none e 24 118 [some (.ref 192), some (.ref a), some (.int c), some (.int s), some (.int t), some (.int le), some (.int 0), o7, o8] [.int 0] N5 v M' 0 0 := Ev.back 1 (fun n => rfl) H
      obtain ⟨z1, z2⟩ := Ev.retz rfl rfl H
      subst eN5
      exact Or.inl ⟨h1, h3, b2, b4, z1, z2⟩
    · rw [if_neg h3] at H
      have H : Ev none e 24 115 [some (.ref 192), some (.ref a), some (.int c), some (.int s), some (.int t), some (.int le), some (.int 1), o7, o8] [.int le, .int c, .ref a] M v M' 0 0 := Ev.back 6 (fun n => rfl) H
      obtain ⟨b6, H⟩ := Ev.ias rfl rfl hS.1 a_a qw_43 H
      obtain ⟨N7, eN7⟩ : ∃ N, N = (wI M a c.toNatClampNeg le) := ⟨_, rfl⟩
      have hN7 : SQ N7 := by rw [eN7]; exact hS.ki
      have H : Ev none e 24 116 [some (.ref 192), some (.ref a), some (.int c), some (.int s), some (.int t), some (.int le), some (.int 1), o7, o8] [] N7 v M' 0 0 := by rw [eN7]; exact H
      have H : Ev none e 24 118 [some (.ref 192), some (.ref a), some (.int c), some (.int s), some (.int t), some (.int le), some (.int 1), o7, o8] [.int 1] N7 v M' 0 0 := Ev.back 1 (fun n => rfl) H
      obtain ⟨z1, z2⟩ := Ev.retz rfl rfl H
      subst eN7
      exact Or.inr (Or.inl ⟨h1, h3, b2, b6, z1, z2⟩)
  · rw [if_neg h1] at H
    have H : Ev none e 24 29 [some (.ref 192), some (.ref a), some (.int c), some (.int s), some (.int t), some (.int le), some (.int d), o7, o8] [.ref 192] M v M' 0 0 := Ev.back 1 (fun n => rfl) H
    have H : Ev none e 24 32 [some (.ref 192), some (.ref a), some (.int c), some (.int s), some (.int t), some (.int le), some (.int d), o7, o8] [.ref 104] M v M' 0 0 := Ev.back 1 (gs_3 rfl rfl (gf_u hS.1 qa_192 qr_41_4 qu_22 rfl)) H
    have H : Ev none e 24 35 [some (.ref 192), some (.ref a), some (.int c), some (.int s), some (.int t), some (.int le), some (.int d), o7, o8] [.ref 105] M v M' 0 0 := Ev.back 1 (gs_3 rfl rfl (gf_u hS.1 qa_104 qr_22_0 qu_23 rfl)) H
    have H : Ev none e 24 38 [some (.ref 192), some (.ref a), some (.int c), some (.int s), some (.int t), some (.int le), some (.int d), o7, o8] [.ref 108] M v M' 0 0 := Ev.back 1 (gs_3 rfl rfl (gf_u hS.1 qa_105 qr_23_2 qu_26 rfl)) H
    have H : Ev none e 24 45 [some (.ref 192), some (.ref a), some (.int c), some (.int s), some (.int t), some (.int le), some (.int d), o7, o8] [.int ((8 * c) + d), .ref 108] M v M' 0 0 := Ev.back 5 (fun n => rfl) H
    obtain ⟨b8, H⟩ := Ev.ial rfl rfl hS.1 qa_108 qw_26 H
    have H : Ev none e 24 46 [some (.ref 192), some (.ref a), some (.int c), some (.int s), some (.int t), some (.int le), some (.int d), o7, o8] [.int (rI M 108 ((8 * c) + d))] M v M' 0 0 := H
    have H : Ev none e 24 (if (rI M 108 ((8 * c) + d)) = (-1) then 90 else 54) [some (.ref 192), some (.ref a), some (.int c), some (.int s), some (.int t), some (.int le), some (.int d), some (.int (rI M 108 ((8 * c) + d))), o8] [] M v M' 0 0 := Ev.back 4 (fun n => rfl) H
    by_cases h9 : (rI M 108 ((8 * c) + d)) = (-1)
    · rw [if_pos h9] at H
      have H : Ev none e 24 21 [some (.ref 192), some (.ref a), some (.int c), some (.int s), some (.int t), some (.int le), some (.int (d + 1)), some (.int (rI M 108 ((8 * c) + d))), o8] [] M v M' 0 0 := Ev.back 2 (fun n => rfl) H
      have HF := H
      exact Or.inr (Or.inr (Or.inl ⟨h1, h9, b8, HF⟩))
    · rw [if_neg h9] at H
      have H : Ev none e 24 (if (d &&& 1) = 0 then 61 else 65) [some (.ref 192), some (.ref a), some (.int c), some (.int s), some (.int t), some (.int le), some (.int d), some (.int (rI M 108 ((8 * c) + d))), o8] [] M v M' 0 0 := Ev.back 4 (fun n => rfl) H
      by_cases h10 : (d &&& 1) = 0
      · rw [if_pos h10] at H
        have H : Ev none e 24 74 [some (.ref 192), some (.ref a), some (.int c), some (.int s), some (.int t), some (.int le), some (.int d), some (.int (rI M 108 ((8 * c) + d))), some (.int s)] [.int (rI M 108 ((8 * c) + d)), .ref a, .int le] M v M' 0 0 := Ev.back 6 (fun n => rfl) H
        obtain ⟨b11, H⟩ := Ev.ial rfl rfl hS.1 a_a qw_43 H
        have H : Ev none e 24 75 [some (.ref 192), some (.ref a), some (.int c), some (.int s), some (.int t), some (.int le), some (.int d), some (.int (rI M 108 ((8 * c) + d))), some (.int s)] [.int (rI M a (rI M 108 ((8 * c) + d))), .int le] M v M' 0 0 := H
        have H : Ev none e 24 79 [some (.ref 192), some (.ref a), some (.int c), some (.int s), some (.int t), some (.int le), some (.int d), some (.int (rI M 108 ((8 * c) + d))), some (.int s)] [.ref 192, .int ((rI M a (rI M 108 ((8 * c) + d))) + s), .int le] M v M' 0 0 := Ev.back 3 (fun n => rfl) H
        have H : Ev none e 24 82 [some (.ref 192), some (.ref a), some (.int c), some (.int s), some (.int t), some (.int le), some (.int d), some (.int (rI M 108 ((8 * c) + d))), some (.int s)] [.ref 195, .int ((rI M a (rI M 108 ((8 * c) + d))) + s), .int le] M v M' 0 0 := Ev.back 1 (gs_3 rfl rfl (gf_u hS.1 qa_192 qr_41_2 qu_44 rfl)) H
        have H : Ev none e 24 83 [some (.ref 192), some (.ref a), some (.int c), some (.int s), some (.int t), some (.int le), some (.int d), some (.int (rI M 108 ((8 * c) + d))), some (.int s)] [.int c, .ref 195, .int ((rI M a (rI M 108 ((8 * c) + d))) + s), .int le] M v M' 0 0 := Ev.back 1 (fun n => rfl) H
        obtain ⟨b12, H⟩ := Ev.ial rfl rfl hS.1 qa_195 qw_44 H
        have H : Ev none e 24 84 [some (.ref 192), some (.ref a), some (.int c), some (.int s), some (.int t), some (.int le), some (.int d), some (.int (rI M 108 ((8 * c) + d))), some (.int s)] [.int (rI M 195 c), .int ((rI M a (rI M 108 ((8 * c) + d))) + s), .int le] M v M' 0 0 := H
        have H : Ev none e 24 85 [some (.ref 192), some (.ref a), some (.int c), some (.int s), some (.int t), some (.int le), some (.int d), some (.int (rI M 108 ((8 * c) + d))), some (.int s)] [.int (((rI M a (rI M 108 ((8 * c) + d))) + s) + (rI M 195 c)), .int le] M v M' 0 0 := Ev.back 1 (fun n => rfl) H
        obtain ⟨e1, rfl⟩ := Ev.dpos rfl rfl H
        have H : Ev none (e1 + 1) 24 21 [some (.ref 192), some (.ref a), some (.int c), some (.int s), some (.int t), some (.int (if (((rI M a (rI M 108 ((8 * c) + d))) + s) + (rI M 195 c)) < le then (((rI M a (rI M 108 ((8 * c) + d))) + s) + (rI M 195 c)) else le)), some (.int (d + 1)), some (.int (rI M 108 ((8 * c) + d))), some (.int s)] [] M v M' 0 0 := Ev.back 4 (fun n => rfl) H
        have HF := H
        exact Or.inr (Or.inr (Or.inr (Or.inl ⟨h1, h9, h10, b8, b11, b12, HF⟩)))
      · rw [if_neg h10] at H
        have H : Ev none e 24 74 [some (.ref 192), some (.ref a), some (.int c), some (.int s), some (.int t), some (.int le), some (.int d), some (.int (rI M 108 ((8 * c) + d))), some (.int t)] [.int (rI M 108 ((8 * c) + d)), .ref a, .int le] M v M' 0 0 := Ev.back 5 (fun n => rfl) H
        obtain ⟨b13, H⟩ := Ev.ial rfl rfl hS.1 a_a qw_43 H
        have H : Ev none e 24 75 [some (.ref 192), some (.ref a), some (.int c), some (.int s), some (.int t), some (.int le), some (.int d), some (.int (rI M 108 ((8 * c) + d))), some (.int t)] [.int (rI M a (rI M 108 ((8 * c) + d))), .int le] M v M' 0 0 := H
        have H : Ev none e 24 79 [some (.ref 192), some (.ref a), some (.int c), some (.int s), some (.int t), some (.int le), some (.int d), some (.int (rI M 108 ((8 * c) + d))), some (.int t)] [.ref 192, .int ((rI M a (rI M 108 ((8 * c) + d))) + t), .int le] M v M' 0 0 := Ev.back 3 (fun n => rfl) H
        have H : Ev none e 24 82 [some (.ref 192), some (.ref a), some (.int c), some (.int s), some (.int t), some (.int le), some (.int d), some (.int (rI M 108 ((8 * c) + d))), some (.int t)] [.ref 195, .int ((rI M a (rI M 108 ((8 * c) + d))) + t), .int le] M v M' 0 0 := Ev.back 1 (gs_3 rfl rfl (gf_u hS.1 qa_192 qr_41_2 qu_44 rfl)) H
        have H : Ev none e 24 83 [some (.ref 192), some (.ref a), some (.int c), some (.int s), some (.int t), some (.int le), some (.int d), some (.int (rI M 108 ((8 * c) + d))), some (.int t)] [.int c, .ref 195, .int ((rI M a (rI M 108 ((8 * c) + d))) + t), .int le] M v M' 0 0 := Ev.back 1 (fun n => rfl) H
        obtain ⟨b14, H⟩ := Ev.ial rfl rfl hS.1 qa_195 qw_44 H
        have H : Ev none e 24 84 [some (.ref 192), some (.ref a), some (.int c), some (.int s), some (.int t), some (.int le), some (.int d), some (.int (rI M 108 ((8 * c) + d))), some (.int t)] [.int (rI M 195 c), .int ((rI M a (rI M 108 ((8 * c) + d))) + t), .int le] M v M' 0 0 := H
        have H : Ev none e 24 85 [some (.ref 192), some (.ref a), some (.int c), some (.int s), some (.int t), some (.int le), some (.int d), some (.int (rI M 108 ((8 * c) + d))), some (.int t)] [.int (((rI M a (rI M 108 ((8 * c) + d))) + t) + (rI M 195 c)), .int le] M v M' 0 0 := Ev.back 1 (fun n => rfl) H
        obtain ⟨e1, rfl⟩ := Ev.dpos rfl rfl H
        have H : Ev none (e1 + 1) 24 21 [some (.ref 192), some (.ref a), some (.int c), some (.int s), some (.int t), some (.int (if (((rI M a (rI M 108 ((8 * c) + d))) + t) + (rI M 195 c)) < le then (((rI M a (rI M 108 ((8 * c) + d))) + t) + (rI M 195 c)) else le)), some (.int (d + 1)), some (.int (rI M 108 ((8 * c) + d))), some (.int t)] [] M v M' 0 0 := Ev.back 4 (fun n => rfl) H
        have HF := H
        exact Or.inr (Or.inr (Or.inr (Or.inr (⟨h1, h9, h10, b8, b13, b14, HF⟩))))
theorem spr_0 {e : Nat} {M M' : Mem} {v : Option Value} {s t : Int32} {a : Nat} (hS : SQ M) (a_a : gNth sT a = some 43) (H : Ev none e 23 0 [some (.ref 192), some (.ref a), some (.int s), some (.int t), none, none, none, none] [] M v M' 0 0) : Ev none e 23 18 [some (.ref 192), some (.ref a), some (.int s), some (.int t), some (.int (G_6 M (fR M 104 7))), some (.int 1), some (.int 0), none] [] M v M' 0 0 := by
  have H : Ev none e 23 1 [some (.ref 192), some (.ref a), some (.int s), some (.int t), none, none, none, none] [.ref 192] M v M' 0 0 := Ev.back 1 (fun n => rfl) H
  have H : Ev none e 23 4 [some (.ref 192), some (.ref a), some (.int s), some (.int t), none, none, none, none] [.ref 104] M v M' 0 0 := Ev.back 1 (gs_3 rfl rfl (gf_u hS.1 qa_192 qr_41_4 qu_22 rfl)) H
  have H : Ev none e 23 7 [some (.ref 192), some (.ref a), some (.int s), some (.int t), none, none, none, none] [.ref (fR M 104 7)] M v M' 0 0 := Ev.back 1 (gs_3 rfl rfl (gf_r hS.1 qa_104 qr_22_7 rfl)) H
  obtain ⟨e1, rfl⟩ := Ev.dpos rfl rfl H
  obtain ⟨vK1, MK1, K1, H⟩ := Ev.callb (fun n_ => gs_7 rfl rfl (show gCal (.invokevirtual 41) 2 (.ref (fR M 104 7) :: []) M = some (.inr (6, [some (.ref (fR M 104 7))], [])) from by show @cond (Option ((List Value × Mem) ⊕ (Nat × Lo × List Value))) (true && gRecv M (.ref (fR M 104 7)) 1 && gRoom [] && true) (some (.inr (6, [some (.ref (fR M 104 7))], []))) none = _; rw [recv_s hS.1 (hS.1.fr qa_104 qr_22_7).2 qo_8]; rfl)) H
  obtain ⟨pK1, qK1⟩ := g_6 hS (hS.1.fr qa_104 qr_22_7).2 K1
  rw [pK1, qK1] at H
  have H : Ev none (e1 + 1) 23 10 [some (.ref 192), some (.ref a), some (.int s), some (.int t), none, none, none, none] [.int (G_6 M (fR M 104 7))] M v M' 0 0 := H
  have H : Ev none (e1 + 1) 23 18 [some (.ref 192), some (.ref a), some (.int s), some (.int t), some (.int (G_6 M (fR M 104 7))), some (.int 1), some (.int 0), none] [] M v M' 0 0 := Ev.back 5 (fun n => rfl) H
  have HF := H
  exact HF
theorem spr_18 {e : Nat} {M M' : Mem} {v : Option Value} {s t n ch r : Int32} {a : Nat} {o7 : Option Value} (hS : SQ M) (a_a : gNth sT a = some 43) (H : Ev none e 23 18 [some (.ref 192), some (.ref a), some (.int s), some (.int t), some (.int n), some (.int ch), some (.int r), o7] [] M v M' 0 0) : (256 < r ∧ v = none ∧ M' = M) ∨ (¬ (256 < r) ∧ ch = 0 ∧ v = none ∧ M' = M) ∨ (¬ (256 < r) ∧ ¬ (ch = 0) ∧ Ev none e 23 37 [some (.ref 192), some (.ref a), some (.int s), some (.int t), some (.int n), some (.int 0), some (.int r), some (.int 0)] [] M v M' 0 0) := by
  have H : Ev none e 23 (if 256 < r then 101 else 26) [some (.ref 192), some (.ref a), some (.int s), some (.int t), some (.int n), some (.int ch), some (.int r), o7] [] M v M' 0 0 := Ev.back 3 (fun n => rfl) H
  by_cases h1 : 256 < r
  · rw [if_pos h1] at H
    obtain ⟨z1, z2⟩ := Ev.retb (fun n => rfl) H
    exact Or.inl ⟨h1, z1, z2⟩
  · rw [if_neg h1] at H
    have H : Ev none e 23 (if ch = 0 then 101 else 31) [some (.ref 192), some (.ref a), some (.int s), some (.int t), some (.int n), some (.int ch), some (.int r), o7] [] M v M' 0 0 := Ev.back 2 (fun n => rfl) H
    by_cases h2 : ch = 0
    · rw [if_pos h2] at H
      obtain ⟨z1, z2⟩ := Ev.retb (fun n => rfl) H
      exact Or.inr (Or.inl ⟨h1, h2, z1, z2⟩)
    · rw [if_neg h2] at H
      have H : Ev none e 23 37 [some (.ref 192), some (.ref a), some (.int s), some (.int t), some (.int n), some (.int 0), some (.int r), some (.int 0)] [] M v M' 0 0 := Ev.back 4 (fun n => rfl) H
      have HF := H
      exact Or.inr (Or.inr (⟨h1, h2, HF⟩))
theorem spr_37 {e : Nat} {M M' : Mem} {v : Option Value} {s t n ch r c : Int32} {a : Nat} (hS : SQ M) (a_a : gNth sT a = some 43) (H : Ev none e 23 37 [some (.ref 192), some (.ref a), some (.int s), some (.int t), some (.int n), some (.int ch), some (.int r), some (.int c)] [] M v M' 0 0) : (n ≤ c ∧ Ev none e 23 70 [some (.ref 192), some (.ref a), some (.int s), some (.int t), some (.int n), some (.int ch), some (.int r), some (.int (n - 1))] [] M v M' 0 0) ∨ (¬ (n ≤ c) ∧ (∃ e1 v1 M1, e = e1 + 1 ∧ Ev none e1 24 0 [some (.ref 192), some (.ref a), some (.int c), some (.int s), some (.int t), none, none, none, none] [] M v1 M1 0 0 ∧ Ev none e 23 55 [some (.ref 192), some (.ref a), some (.int s), some (.int t), some (.int n), some (.int ch), some (.int r), some (.int c)] (v1.toList ++ [.int ch]) M1 v M' 0 0)) := by
  have H : Ev none e 23 (if n ≤ c then 64 else 44) [some (.ref 192), some (.ref a), some (.int s), some (.int t), some (.int n), some (.int ch), some (.int r), some (.int c)] [] M v M' 0 0 := Ev.back 3 (fun n => rfl) H
  by_cases h1 : n ≤ c
  · rw [if_pos h1] at H
    have H : Ev none e 23 70 [some (.ref 192), some (.ref a), some (.int s), some (.int t), some (.int n), some (.int ch), some (.int r), some (.int (n - 1))] [] M v M' 0 0 := Ev.back 4 (fun n => rfl) H
    have HF := H
    exact Or.inl ⟨h1, HF⟩
  · rw [if_neg h1] at H
    have H : Ev none e 23 52 [some (.ref 192), some (.ref a), some (.int s), some (.int t), some (.int n), some (.int ch), some (.int r), some (.int c)] [.int t, .int s, .int c, .ref a, .ref 192, .int ch] M v M' 0 0 := Ev.back 6 (fun n => rfl) H
    obtain ⟨e1, rfl⟩ := Ev.dpos rfl rfl H
    obtain ⟨vK2, MK2, K2, H⟩ := Ev.callb (fun n_ => gs_7 rfl rfl (show gCal (.invokevirtual 92) 2 (.int t :: .int s :: .int c :: .ref a :: .ref 192 :: [.int ch]) M = some (.inr (24, [some (.ref 192), some (.ref a), some (.int c), some (.int s), some (.int t), none, none, none, none], [.int ch])) from by show @cond (Option ((List Value × Mem) ⊕ (Nat × Lo × List Value))) (true && gRecv M (.ref 192) 2 && gRoom [.int ch] && true) (some (.inr (24, [some (.ref 192), some (.ref a), some (.int c), some (.int s), some (.int t), none, none, none, none], [.int ch]))) none = _; rw [recv_s hS.1 qa_192 qo_41]; rfl)) H
    have K2 : Ev none e1 24 0 [some (.ref 192), some (.ref a), some (.int c), some (.int s), some (.int t), none, none, none, none] [] M vK2 MK2 0 0 := K2
    have HF := H
    exact Or.inr (⟨h1, ⟨e1, vK2, MK2, rfl, K2, HF⟩⟩)
theorem spr_55 {e : Nat} {M M' : Mem} {v : Option Value} {s t n ch r c y z : Int32} {a : Nat} (hS : SQ M) (a_a : gNth sT a = some 43) (H : Ev none e 23 55 [some (.ref 192), some (.ref a), some (.int s), some (.int t), some (.int n), some (.int ch), some (.int r), some (.int c)] [.int y, .int z] M v M' 0 0) : Ev none e 23 37 [some (.ref 192), some (.ref a), some (.int s), some (.int t), some (.int n), some (.int (z ||| y)), some (.int r), some (.int (c + 1))] [] M v M' 0 0 := by
  have H : Ev none e 23 37 [some (.ref 192), some (.ref a), some (.int s), some (.int t), some (.int n), some (.int (z ||| y)), some (.int r), some (.int (c + 1))] [] M v M' 0 0 := Ev.back 4 (fun n => rfl) H
  have HF := H
  exact HF
theorem spr_70 {e : Nat} {M M' : Mem} {v : Option Value} {s t n ch r c : Int32} {a : Nat} (hS : SQ M) (a_a : gNth sT a = some 43) (H : Ev none e 23 70 [some (.ref 192), some (.ref a), some (.int s), some (.int t), some (.int n), some (.int ch), some (.int r), some (.int c)] [] M v M' 0 0) : (c < 0 ∧ Ev none e 23 18 [some (.ref 192), some (.ref a), some (.int s), some (.int t), some (.int n), some (.int ch), some (.int (r + 1)), some (.int c)] [] M v M' 0 0) ∨ (¬ (c < 0) ∧ (∃ e1 v1 M1, e = e1 + 1 ∧ Ev none e1 24 0 [some (.ref 192), some (.ref a), some (.int c), some (.int s), some (.int t), none, none, none, none] [] M v1 M1 0 0 ∧ Ev none e 23 86 [some (.ref 192), some (.ref a), some (.int s), some (.int t), some (.int n), some (.int ch), some (.int r), some (.int c)] (v1.toList ++ [.int ch]) M1 v M' 0 0)) := by
  have H : Ev none e 23 (if c < 0 then 95 else 75) [some (.ref 192), some (.ref a), some (.int s), some (.int t), some (.int n), some (.int ch), some (.int r), some (.int c)] [] M v M' 0 0 := Ev.back 2 (fun n => rfl) H
  by_cases h1 : c < 0
  · rw [if_pos h1] at H
    have H : Ev none e 23 18 [some (.ref 192), some (.ref a), some (.int s), some (.int t), some (.int n), some (.int ch), some (.int (r + 1)), some (.int c)] [] M v M' 0 0 := Ev.back 2 (fun n => rfl) H
    have HF := H
    exact Or.inl ⟨h1, HF⟩
  · rw [if_neg h1] at H
    have H : Ev none e 23 83 [some (.ref 192), some (.ref a), some (.int s), some (.int t), some (.int n), some (.int ch), some (.int r), some (.int c)] [.int t, .int s, .int c, .ref a, .ref 192, .int ch] M v M' 0 0 := Ev.back 6 (fun n => rfl) H
    obtain ⟨e1, rfl⟩ := Ev.dpos rfl rfl H
    obtain ⟨vK2, MK2, K2, H⟩ := Ev.callb (fun n_ => gs_7 rfl rfl (show gCal (.invokevirtual 92) 2 (.int t :: .int s :: .int c :: .ref a :: .ref 192 :: [.int ch]) M = some (.inr (24, [some (.ref 192), some (.ref a), some (.int c), some (.int s), some (.int t), none, none, none, none], [.int ch])) from by show @cond (Option ((List Value × Mem) ⊕ (Nat × Lo × List Value))) (true && gRecv M (.ref 192) 2 && gRoom [.int ch] && true) (some (.inr (24, [some (.ref 192), some (.ref a), some (.int c), some (.int s), some (.int t), none, none, none, none], [.int ch]))) none = _; rw [recv_s hS.1 qa_192 qo_41]; rfl)) H
    have K2 : Ev none e1 24 0 [some (.ref 192), some (.ref a), some (.int c), some (.int s), some (.int t), none, none, none, none] [] M vK2 MK2 0 0 := K2
    have HF := H
    exact Or.inr (⟨h1, ⟨e1, vK2, MK2, rfl, K2, HF⟩⟩)
theorem spr_86 {e : Nat} {M M' : Mem} {v : Option Value} {s t n ch r c y z : Int32} {a : Nat} (hS : SQ M) (a_a : gNth sT a = some 43) (H : Ev none e 23 86 [some (.ref 192), some (.ref a), some (.int s), some (.int t), some (.int n), some (.int ch), some (.int r), some (.int c)] [.int y, .int z] M v M' 0 0) : Ev none e 23 70 [some (.ref 192), some (.ref a), some (.int s), some (.int t), some (.int n), some (.int (z ||| y)), some (.int r), some (.int (c + Int32.ofInt (-1)))] [] M v M' 0 0 := by
  have H : Ev none e 23 89 [some (.ref 192), some (.ref a), some (.int s), some (.int t), some (.int n), some (.int (z ||| y)), some (.int r), some (.int c)] [] M v M' 0 0 := Ev.back 2 (fun n => rfl) H
  have H : Ev none e 23 92 [some (.ref 192), some (.ref a), some (.int s), some (.int t), some (.int n), some (.int (z ||| y)), some (.int r), some (.int (c + Int32.ofInt (-1)))] [] M v M' 0 0 := Ev.back 1 (gs_1 (i := .iinc 7 (-1)) rfl rfl rfl) H
  have H : Ev none e 23 70 [some (.ref 192), some (.ref a), some (.int s), some (.int t), some (.int n), some (.int (z ||| y)), some (.int r), some (.int (c + Int32.ofInt (-1)))] [] M v M' 0 0 := Ev.back 1 (fun n => rfl) H
  have HF := H
  exact HF
theorem prt_0 {e : Nat} {M M' : Mem} {v : Option Value} (hS : SQ M) (H : Ev none e 18 0 [some (.ref 192), none, none, none] [] M v M' 0 0) : Ev none e 18 15 [some (.ref 192), some (.int (G_6 M (fR M 104 7))), some (.int 0), some (.int 0)] [] M v M' 0 0 := by
  have H : Ev none e 18 1 [some (.ref 192), none, none, none] [.ref 192] M v M' 0 0 := Ev.back 1 (fun n => rfl) H
  have H : Ev none e 18 4 [some (.ref 192), none, none, none] [.ref 104] M v M' 0 0 := Ev.back 1 (gs_3 rfl rfl (gf_u hS.1 qa_192 qr_41_4 qu_22 rfl)) H
  have H : Ev none e 18 7 [some (.ref 192), none, none, none] [.ref (fR M 104 7)] M v M' 0 0 := Ev.back 1 (gs_3 rfl rfl (gf_r hS.1 qa_104 qr_22_7 rfl)) H
  obtain ⟨e1, rfl⟩ := Ev.dpos rfl rfl H
  obtain ⟨vK1, MK1, K1, H⟩ := Ev.callb (fun n_ => gs_7 rfl rfl (show gCal (.invokevirtual 41) 2 (.ref (fR M 104 7) :: []) M = some (.inr (6, [some (.ref (fR M 104 7))], [])) from by show @cond (Option ((List Value × Mem) ⊕ (Nat × Lo × List Value))) (true && gRecv M (.ref (fR M 104 7)) 1 && gRoom [] && true) (some (.inr (6, [some (.ref (fR M 104 7))], []))) none = _; rw [recv_s hS.1 (hS.1.fr qa_104 qr_22_7).2 qo_8]; rfl)) H
  obtain ⟨pK1, qK1⟩ := g_6 hS (hS.1.fr qa_104 qr_22_7).2 K1
  rw [pK1, qK1] at H
  have H : Ev none (e1 + 1) 18 10 [some (.ref 192), none, none, none] [.int (G_6 M (fR M 104 7))] M v M' 0 0 := H
  have H : Ev none (e1 + 1) 18 15 [some (.ref 192), some (.int (G_6 M (fR M 104 7))), some (.int 0), some (.int 0)] [] M v M' 0 0 := Ev.back 5 (fun n => rfl) H
  have HF := H
  exact HF
theorem prt_15 {e : Nat} {M M' : Mem} {v : Option Value} {n f c : Int32} (hS : SQ M) (H : Ev none e 18 15 [some (.ref 192), some (.int n), some (.int f), some (.int c)] [] M v M' 0 0) : (n ≤ c ∧ Ev none e 18 59 [some (.ref 192), some (.int n), some (.int f), some (.int 0)] [] M v M' 0 0) ∨ (¬ (n ≤ c) ∧ (G_56 M c) = 0 ∧ (0 ≤ c.toInt ∧ c.toInt < 256) ∧ (0 ≤ c.toInt ∧ c.toInt < 256) ∧ Ev none e 18 15 [some (.ref 192), some (.int n), some (.int f), some (.int (c + 1))] [] (wI (wI M 195 c.toNatClampNeg 1000000) (fR M 192 1) c.toNatClampNeg 1000000) v M' 0 0) ∨ (¬ (n ≤ c) ∧ ¬ ((G_56 M c) = 0) ∧ (0 ≤ c.toInt ∧ c.toInt < 256) ∧ (0 ≤ c.toInt ∧ c.toInt < 256) ∧ Ev none e 18 15 [some (.ref 192), some (.int n), some (.int f), some (.int (c + 1))] [] (wI (wI M 195 c.toNatClampNeg 0) (fR M 192 1) c.toNatClampNeg 1000000) v M' 0 0) := by
  have H : Ev none e 18 (if n ≤ c then 57 else 20) [some (.ref 192), some (.int n), some (.int f), some (.int c)] [] M v M' 0 0 := Ev.back 3 (fun n => rfl) H
  by_cases h1 : n ≤ c
  · rw [if_pos h1] at H
    have H : Ev none e 18 59 [some (.ref 192), some (.int n), some (.int f), some (.int 0)] [] M v M' 0 0 := Ev.back 2 (fun n => rfl) H
    have HF := H
    exact Or.inl ⟨h1, HF⟩
  · rw [if_neg h1] at H
    have H : Ev none e 18 21 [some (.ref 192), some (.int n), some (.int f), some (.int c)] [.ref 192] M v M' 0 0 := Ev.back 1 (fun n => rfl) H
    have H : Ev none e 18 24 [some (.ref 192), some (.int n), some (.int f), some (.int c)] [.ref 195] M v M' 0 0 := Ev.back 1 (gs_3 rfl rfl (gf_u hS.1 qa_192 qr_41_2 qu_44 rfl)) H
    have H : Ev none e 18 26 [some (.ref 192), some (.int n), some (.int f), some (.int c)] [.ref 192, .int c, .ref 195] M v M' 0 0 := Ev.back 2 (fun n => rfl) H
    have H : Ev none e 18 29 [some (.ref 192), some (.int n), some (.int f), some (.int c)] [.ref 104, .int c, .ref 195] M v M' 0 0 := Ev.back 1 (gs_3 rfl rfl (gf_u hS.1 qa_192 qr_41_4 qu_22 rfl)) H
    have H : Ev none e 18 30 [some (.ref 192), some (.int n), some (.int f), some (.int c)] [.int c, .ref 104, .int c, .ref 195] M v M' 0 0 := Ev.back 1 (fun n => rfl) H
    obtain ⟨e1, rfl⟩ := Ev.dpos rfl rfl H
    obtain ⟨vK2, MK2, K2, H⟩ := Ev.callb (fun n_ => gs_7 rfl rfl (show gCal (.invokevirtual 47) 2 (.int c :: .ref 104 :: [.int c, .ref 195]) M = some (.inr (56, [some (.ref 104), some (.int c)], [.int c, .ref 195])) from by show @cond (Option ((List Value × Mem) ⊕ (Nat × Lo × List Value))) (true && gRecv M (.ref 104) 7 && gRoom [.int c, .ref 195] && true) (some (.inr (56, [some (.ref 104), some (.int c)], [.int c, .ref 195]))) none = _; rw [recv_s hS.1 qa_104 qo_22]; rfl)) H
    obtain ⟨pK2, qK2⟩ := g_56 hS K2
    rw [pK2, qK2] at H
    have H : Ev none (e1 + 1) 18 33 [some (.ref 192), some (.int n), some (.int f), some (.int c)] [.int (G_56 M c), .int c, .ref 195] M v M' 0 0 := H
    have H : Ev none (e1 + 1) 18 (if (G_56 M c) = 0 then 40 else 36) [some (.ref 192), some (.int n), some (.int f), some (.int c)] [.int c, .ref 195] M v M' 0 0 := Ev.back 1 (fun n => rfl) H
    by_cases h3 : (G_56 M c) = 0
    · rw [if_pos h3] at H
      have H : Ev none (e1 + 1) 18 42 [some (.ref 192), some (.int n), some (.int f), some (.int c)] [.int 1000000, .int c, .ref 195] M v M' 0 0 := Ev.back 1 (fun n => rfl) H
      obtain ⟨b4, H⟩ := Ev.ias rfl rfl hS.1 qa_195 qw_44 H
      obtain ⟨N5, eN5⟩ : ∃ N, N = (wI M 195 c.toNatClampNeg 1000000) := ⟨_, rfl⟩
      have hN5 : SQ N5 := by rw [eN5]; exact hS.ki
      have H : Ev none (e1 + 1) 18 43 [some (.ref 192), some (.int n), some (.int f), some (.int c)] [] N5 v M' 0 0 := by rw [eN5]; exact H
      have H : Ev none (e1 + 1) 18 44 [some (.ref 192), some (.int n), some (.int f), some (.int c)] [.ref 192] N5 v M' 0 0 := Ev.back 1 (fun n => rfl) H
      have H : Ev none (e1 + 1) 18 47 [some (.ref 192), some (.int n), some (.int f), some (.int c)] [.ref (fR N5 192 1)] N5 v M' 0 0 := Ev.back 1 (gs_3 rfl rfl (gf_r hN5.1 qa_192 qr_41_1 rfl)) H
      rw [show fR N5 192 1 = fR M 192 1 from by rw [eN5]; exact fR_wI] at H
      have hx6 : gNth sT (fR M 192 1) = some 43 := by rw [← show fR N5 192 1 = fR M 192 1 from by rw [eN5]; exact fR_wI]; exact (hN5.1.fr qa_192 qr_41_1).2
      have H : Ev none (e1 + 1) 18 50 [some (.ref 192), some (.int n), some (.int f), some (.int c)] [.int 1000000, .int c, .ref (fR M 192 1)] N5 v M' 0 0 := Ev.back 2 (fun n => rfl) H
      obtain ⟨b7, H⟩ := Ev.ias rfl rfl hN5.1 hx6 qw_43 H
      obtain ⟨N8, eN8⟩ : ∃ N, N = (wI N5 (fR M 192 1) c.toNatClampNeg 1000000) := ⟨_, rfl⟩
      have hN8 : SQ N8 := by rw [eN8]; exact hN5.ki
      have H : Ev none (e1 + 1) 18 51 [some (.ref 192), some (.int n), some (.int f), some (.int c)] [] N8 v M' 0 0 := by rw [eN8]; exact H
      have H : Ev none (e1 + 1) 18 15 [some (.ref 192), some (.int n), some (.int f), some (.int (c + 1))] [] N8 v M' 0 0 := Ev.back 2 (fun n => rfl) H
      have HF := H
      subst eN5 eN8
      exact Or.inr (Or.inl ⟨h1, h3, b4, b7, HF⟩)
    · rw [if_neg h3] at H
      have H : Ev none (e1 + 1) 18 42 [some (.ref 192), some (.int n), some (.int f), some (.int c)] [.int 0, .int c, .ref 195] M v M' 0 0 := Ev.back 2 (fun n => rfl) H
      obtain ⟨b9, H⟩ := Ev.ias rfl rfl hS.1 qa_195 qw_44 H
      obtain ⟨N10, eN10⟩ : ∃ N, N = (wI M 195 c.toNatClampNeg 0) := ⟨_, rfl⟩
      have hN10 : SQ N10 := by rw [eN10]; exact hS.ki
      have H : Ev none (e1 + 1) 18 43 [some (.ref 192), some (.int n), some (.int f), some (.int c)] [] N10 v M' 0 0 := by rw [eN10]; exact H
      have H : Ev none (e1 + 1) 18 44 [some (.ref 192), some (.int n), some (.int f), some (.int c)] [.ref 192] N10 v M' 0 0 := Ev.back 1 (fun n => rfl) H
      have H : Ev none (e1 + 1) 18 47 [some (.ref 192), some (.int n), some (.int f), some (.int c)] [.ref (fR N10 192 1)] N10 v M' 0 0 := Ev.back 1 (gs_3 rfl rfl (gf_r hN10.1 qa_192 qr_41_1 rfl)) H
      rw [show fR N10 192 1 = fR M 192 1 from by rw [eN10]; exact fR_wI] at H
      have hx11 : gNth sT (fR M 192 1) = some 43 := by rw [← show fR N10 192 1 = fR M 192 1 from by rw [eN10]; exact fR_wI]; exact (hN10.1.fr qa_192 qr_41_1).2
      have H : Ev none (e1 + 1) 18 50 [some (.ref 192), some (.int n), some (.int f), some (.int c)] [.int 1000000, .int c, .ref (fR M 192 1)] N10 v M' 0 0 := Ev.back 2 (fun n => rfl) H
      obtain ⟨b12, H⟩ := Ev.ias rfl rfl hN10.1 hx11 qw_43 H
      obtain ⟨N13, eN13⟩ : ∃ N, N = (wI N10 (fR M 192 1) c.toNatClampNeg 1000000) := ⟨_, rfl⟩
      have hN13 : SQ N13 := by rw [eN13]; exact hN10.ki
      have H : Ev none (e1 + 1) 18 51 [some (.ref 192), some (.int n), some (.int f), some (.int c)] [] N13 v M' 0 0 := by rw [eN13]; exact H
      have H : Ev none (e1 + 1) 18 15 [some (.ref 192), some (.int n), some (.int f), some (.int (c + 1))] [] N13 v M' 0 0 := Ev.back 2 (fun n => rfl) H
      have HF := H
      subst eN10 eN13
      exact Or.inr (Or.inr (⟨h1, h3, b9, b12, HF⟩))
theorem prt_59 {e : Nat} {M M' : Mem} {v : Option Value} {n f c : Int32} (hS : SQ M) (H : Ev none e 18 59 [some (.ref 192), some (.int n), some (.int f), some (.int c)] [] M v M' 0 0) : (n ≤ c ∧ v = some (.int f) ∧ M' = M) ∨ (¬ (n ≤ c) ∧ 1000000 ≤ (rI M 195 c) ∧ (0 ≤ c.toInt ∧ c.toInt < 256) ∧ Ev none e 18 59 [some (.ref 192), some (.int n), some (.int f), some (.int (c + 1))] [] M v M' 0 0) ∨ (¬ (n ≤ c) ∧ ¬ (1000000 ≤ (rI M 195 c)) ∧ (rI M (fR M 192 1) c) = 1000000 ∧ (0 ≤ c.toInt ∧ c.toInt < 256) ∧ (0 ≤ c.toInt ∧ c.toInt < 256) ∧ (0 ≤ c.toInt ∧ c.toInt < 256) ∧ (∃ e1 v1 M1, e = e1 + 1 ∧ Ev none e1 23 0 [some (.ref 192), some (.ref (fR M 192 1)), some (.int 0), some (.int 0), none, none, none, none] [] (wI M (fR M 192 1) c.toNatClampNeg 0) v1 M1 0 0 ∧ Ev none e 18 106 [some (.ref 192), some (.int n), some (.int (f + 1)), some (.int c)] (v1.toList ++ []) M1 v M' 0 0)) ∨ (¬ (n ≤ c) ∧ ¬ (1000000 ≤ (rI M 195 c)) ∧ ¬ ((rI M (fR M 192 1) c) = 1000000) ∧ (0 ≤ c.toInt ∧ c.toInt < 256) ∧ (0 ≤ c.toInt ∧ c.toInt < 256) ∧ Ev none e 18 59 [some (.ref 192), some (.int n), some (.int f), some (.int (c + 1))] [] M v M' 0 0) := by
  have H : Ev none e 18 (if n ≤ c then 112 else 64) [some (.ref 192), some (.int n), some (.int f), some (.int c)] [] M v M' 0 0 := Ev.back 3 (fun n => rfl) H
  by_cases h1 : n ≤ c
  · rw [if_pos h1] at H
    have H : Ev none e 18 113 [some (.ref 192), some (.int n), some (.int f), some (.int c)] [.int f] M v M' 0 0 := Ev.back 1 (fun n => rfl) H
    obtain ⟨z1, z2⟩ := Ev.retz rfl rfl H
    exact Or.inl ⟨h1, z1, z2⟩
  · rw [if_neg h1] at H
    have H : Ev none e 18 65 [some (.ref 192), some (.int n), some (.int f), some (.int c)] [.ref 192] M v M' 0 0 := Ev.back 1 (fun n => rfl) H
    have H : Ev none e 18 68 [some (.ref 192), some (.int n), some (.int f), some (.int c)] [.ref 195] M v M' 0 0 := Ev.back 1 (gs_3 rfl rfl (gf_u hS.1 qa_192 qr_41_2 qu_44 rfl)) H
    have H : Ev none e 18 69 [some (.ref 192), some (.int n), some (.int f), some (.int c)] [.int c, .ref 195] M v M' 0 0 := Ev.back 1 (fun n => rfl) H
    obtain ⟨b2, H⟩ := Ev.ial rfl rfl hS.1 qa_195 qw_44 H
    have H : Ev none e 18 70 [some (.ref 192), some (.int n), some (.int f), some (.int c)] [.int (rI M 195 c)] M v M' 0 0 := H
    have H : Ev none e 18 (if 1000000 ≤ (rI M 195 c) then 106 else 75) [some (.ref 192), some (.int n), some (.int f), some (.int c)] [] M v M' 0 0 := Ev.back 2 (fun n => rfl) H
    by_cases h3 : 1000000 ≤ (rI M 195 c)
    · rw [if_pos h3] at H
      have H : Ev none e 18 59 [some (.ref 192), some (.int n), some (.int f), some (.int (c + 1))] [] M v M' 0 0 := Ev.back 2 (fun n => rfl) H
      have HF := H
      exact Or.inr (Or.inl ⟨h1, h3, b2, HF⟩)
    · rw [if_neg h3] at H
      have H : Ev none e 18 76 [some (.ref 192), some (.int n), some (.int f), some (.int c)] [.ref 192] M v M' 0 0 := Ev.back 1 (fun n => rfl) H
      have H : Ev none e 18 79 [some (.ref 192), some (.int n), some (.int f), some (.int c)] [.ref (fR M 192 1)] M v M' 0 0 := Ev.back 1 (gs_3 rfl rfl (gf_r hS.1 qa_192 qr_41_1 rfl)) H
      have H : Ev none e 18 80 [some (.ref 192), some (.int n), some (.int f), some (.int c)] [.int c, .ref (fR M 192 1)] M v M' 0 0 := Ev.back 1 (fun n => rfl) H
      obtain ⟨b4, H⟩ := Ev.ial rfl rfl hS.1 (hS.1.fr qa_192 qr_41_1).2 qw_43 H
      have H : Ev none e 18 81 [some (.ref 192), some (.int n), some (.int f), some (.int c)] [.int (rI M (fR M 192 1) c)] M v M' 0 0 := H
      have H : Ev none e 18 (if (rI M (fR M 192 1) c) = 1000000 then 86 else 106) [some (.ref 192), some (.int n), some (.int f), some (.int c)] [] M v M' 0 0 := Ev.back 2 (fun n => rfl) H
      by_cases h5 : (rI M (fR M 192 1) c) = 1000000
      · rw [if_pos h5] at H
        have H : Ev none e 18 90 [some (.ref 192), some (.int n), some (.int (f + 1)), some (.int c)] [.ref 192] M v M' 0 0 := Ev.back 2 (fun n => rfl) H
        have H : Ev none e 18 93 [some (.ref 192), some (.int n), some (.int (f + 1)), some (.int c)] [.ref (fR M 192 1)] M v M' 0 0 := Ev.back 1 (gs_3 rfl rfl (gf_r hS.1 qa_192 qr_41_1 rfl)) H
        have H : Ev none e 18 95 [some (.ref 192), some (.int n), some (.int (f + 1)), some (.int c)] [.int 0, .int c, .ref (fR M 192 1)] M v M' 0 0 := Ev.back 2 (fun n => rfl) H
        obtain ⟨b6, H⟩ := Ev.ias rfl rfl hS.1 (hS.1.fr qa_192 qr_41_1).2 qw_43 H
        obtain ⟨N7, eN7⟩ : ∃ N, N = (wI M (fR M 192 1) c.toNatClampNeg 0) := ⟨_, rfl⟩
        have hN7 : SQ N7 := by rw [eN7]; exact hS.ki
        have H : Ev none e 18 96 [some (.ref 192), some (.int n), some (.int (f + 1)), some (.int c)] [] N7 v M' 0 0 := by rw [eN7]; exact H
        have H : Ev none e 18 98 [some (.ref 192), some (.int n), some (.int (f + 1)), some (.int c)] [.ref 192, .ref 192] N7 v M' 0 0 := Ev.back 2 (fun n => rfl) H
        have H : Ev none e 18 101 [some (.ref 192), some (.int n), some (.int (f + 1)), some (.int c)] [.ref (fR N7 192 1), .ref 192] N7 v M' 0 0 := Ev.back 1 (gs_3 rfl rfl (gf_r hN7.1 qa_192 qr_41_1 rfl)) H
        rw [show fR N7 192 1 = fR M 192 1 from by rw [eN7]; exact fR_wI] at H
        have H : Ev none e 18 103 [some (.ref 192), some (.int n), some (.int (f + 1)), some (.int c)] [.int 0, .int 0, .ref (fR M 192 1), .ref 192] N7 v M' 0 0 := Ev.back 2 (fun n => rfl) H
        obtain ⟨e1, rfl⟩ := Ev.dpos rfl rfl H
        obtain ⟨vK8, MK8, K8, H⟩ := Ev.callb (fun n_ => gs_7 rfl rfl (show gCal (.invokevirtual 60) 2 (.int 0 :: .int 0 :: .ref (fR M 192 1) :: .ref 192 :: []) N7 = some (.inr (23, [some (.ref 192), some (.ref (fR M 192 1)), some (.int 0), some (.int 0), none, none, none, none], [])) from by show @cond (Option ((List Value × Mem) ⊕ (Nat × Lo × List Value))) (true && gRecv N7 (.ref 192) 2 && gRoom [] && true) (some (.inr (23, [some (.ref 192), some (.ref (fR M 192 1)), some (.int 0), some (.int 0), none, none, none, none], []))) none = _; rw [recv_s hN7.1 qa_192 qo_41]; rfl)) H
        have K8 : Ev none e1 23 0 [some (.ref 192), some (.ref (fR M 192 1)), some (.int 0), some (.int 0), none, none, none, none] [] N7 vK8 MK8 0 0 := K8
        have HF := H
        subst eN7
        exact Or.inr (Or.inr (Or.inl ⟨h1, h3, h5, b2, b4, b6, ⟨e1, vK8, MK8, rfl, K8, HF⟩⟩))
      · rw [if_neg h5] at H
        have H : Ev none e 18 59 [some (.ref 192), some (.int n), some (.int f), some (.int (c + 1))] [] M v M' 0 0 := Ev.back 2 (fun n => rfl) H
        have HF := H
        exact Or.inr (Or.inr (Or.inr (⟨h1, h3, h5, b2, b4, HF⟩)))
theorem prt_106 {e : Nat} {M M' : Mem} {v : Option Value} {n f c : Int32} (hS : SQ M) (H : Ev none e 18 106 [some (.ref 192), some (.int n), some (.int f), some (.int c)] [] M v M' 0 0) : Ev none e 18 59 [some (.ref 192), some (.int n), some (.int f), some (.int (c + 1))] [] M v M' 0 0 := by
  have H : Ev none e 18 59 [some (.ref 192), some (.int n), some (.int f), some (.int (c + 1))] [] M v M' 0 0 := Ev.back 2 (fun n => rfl) H
  have HF := H
  exact HF
