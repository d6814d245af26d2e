/-! THE CLASS'S nets kept by weeks: pieces (made by gwal9.py) -/
set_option maxRecDepth 200000 in
theorem ql_g42 : lgB 42 84 = true := by decide +kernel
theorem kpc_0 {e : Nat} {M M' : Mem} {v : Option Value} {x : Int32} (hS : SQ M) (H : Ev none e 15 0 [some (.ref 192), some (.int x), none] [] M v M' 0 0) : ((G_126 M x 0 20) = 0 ∧ v = none ∧ M' = M) ∨ (¬ ((G_126 M x 0 20) = 0) ∧ Ev none e 15 13 [some (.ref 192), some (.int x), some (.int 0)] [] M v M' 0 0) := by
  have H : Ev none e 15 4 [some (.ref 192), some (.int x), none] [.int 20, .int 0, .int x] M v M' 0 0 := Ev.back 3 (fun n => rfl) H
  obtain ⟨e1, rfl⟩ := Ev.dpos rfl rfl H
  obtain ⟨vK1, MK1, K1, H⟩ := Ev.callb (fun n => rfl) H
  obtain ⟨pK1, qK1⟩ := g_126 hS K1
  rw [pK1, qK1] at H
  have H : Ev none (e1 + 1) 15 7 [some (.ref 192), some (.int x), none] [.int (G_126 M x 0 20)] M v M' 0 0 := H
  have H : Ev none (e1 + 1) 15 (if (G_126 M x 0 20) = 0 then 10 else 11) [some (.ref 192), some (.int x), none] [] M v M' 0 0 := Ev.back 1 (fun n => rfl) H
  by_cases h2 : (G_126 M x 0 20) = 0
  · rw [if_pos h2] at H
    obtain ⟨z1, z2⟩ := Ev.retb (fun n => rfl) H
    exact Or.inl ⟨h2, z1, z2⟩
  · rw [if_neg h2] at H
    have H : Ev none (e1 + 1) 15 13 [some (.ref 192), some (.int x), some (.int 0)] [] M v M' 0 0 := Ev.back 2 (fun n => rfl) H
    have HF := H
    exact Or.inr (⟨h2, HF⟩)
theorem kpc_13 {e : Nat} {M M' : Mem} {v : Option Value} {x i : Int32} (hS : SQ M) (H : Ev none e 15 13 [some (.ref 192), some (.int x), some (.int i)] [] M v M' 0 0) : (4 ≤ i ∧ Ev none e 15 37 [some (.ref 192), some (.int x), some (.int 0)] [] M v M' 0 0) ∨ (¬ (4 ≤ i) ∧ (0 ≤ ((4 * x) + i).toInt ∧ ((4 * x) + i).toInt < 84) ∧ Ev none e 15 13 [some (.ref 192), some (.int x), some (.int (i + 1))] [] (wJ M 193 (((4 * x) + i).toNatClampNeg) 0) v M' 0 0) := by
  have H : Ev none e 15 (if 4 ≤ i then 35 else 18) [some (.ref 192), some (.int x), some (.int i)] [] M v M' 0 0 := Ev.back 3 (fun n => rfl) H
  by_cases h1 : 4 ≤ i
  · rw [if_pos h1] at H
    have H : Ev none e 15 37 [some (.ref 192), some (.int x), some (.int 0)] [] M v M' 0 0 := Ev.back 2 (fun n => rfl) H
    have HF := H
    exact Or.inl ⟨h1, HF⟩
  · rw [if_neg h1] at H
    have H : Ev none e 15 19 [some (.ref 192), some (.int x), some (.int i)] [.ref 192] M v M' 0 0 := Ev.back 1 (fun n => rfl) H
    have H : Ev none e 15 22 [some (.ref 192), some (.int x), some (.int i)] [.ref 193] M v M' 0 0 := Ev.back 1 (gs_3 rfl rfl (gf_u hS.1 qa_192 qr_41_0 qu_42 rfl)) H
    have H : Ev none e 15 28 [some (.ref 192), some (.int x), some (.int i)] [.long 0, .int ((4 * x) + i), .ref 193] M v M' 0 0 := Ev.back 6 (fun n => rfl) H
    obtain ⟨b2, H⟩ := Ev.las rfl rfl hS.1 qa_193 ql_g42 H
    obtain ⟨N3, eN3⟩ : ∃ N, N = (wJ M 193 (((4 * x) + i).toNatClampNeg) 0) := ⟨_, rfl⟩
    have hN3 : SQ N3 := by rw [eN3]; exact hS.kj
    have H : Ev none e 15 29 [some (.ref 192), some (.int x), some (.int i)] [] N3 v M' 0 0 := by rw [eN3]; exact H
    have H : Ev none e 15 13 [some (.ref 192), some (.int x), some (.int (i + 1))] [] N3 v M' 0 0 := Ev.back 2 (fun n => rfl) H
    have HF := H
    subst eN3
    exact Or.inr (⟨h1, b2, HF⟩)
theorem kpc_37 {e : Nat} {M M' : Mem} {v : Option Value} {x i : Int32} (hS : SQ M) (H : Ev none e 15 37 [some (.ref 192), some (.int x), some (.int i)] [] M v M' 0 0) : ((G_6 M (fR M 104 7)) ≤ i ∧ v = none ∧ M' = M) ∨ (¬ ((G_6 M (fR M 104 7)) ≤ i) ∧ (G_56 M i) = 0 ∧ Ev none e 15 37 [some (.ref 192), some (.int x), some (.int (i + 1))] [] M v M' 0 0) ∨ (¬ ((G_6 M (fR M 104 7)) ≤ i) ∧ ¬ ((G_56 M i) = 0) ∧ (0 ≤ ((4 * x) + (i >>> ((6 : Int32) &&& 31))).toInt ∧ ((4 * x) + (i >>> ((6 : Int32) &&& 31))).toInt < 84) ∧ (0 ≤ ((4 * x) + (i >>> ((6 : Int32) &&& 31))).toInt ∧ ((4 * x) + (i >>> ((6 : Int32) &&& 31))).toInt < 84) ∧ Ev none e 15 37 [some (.ref 192), some (.int x), some (.int (i + 1))] [] (wJ M 193 (((4 * x) + (i >>> ((6 : Int32) &&& 31))).toNatClampNeg) ((lJ M 193 (((4 * x) + (i >>> ((6 : Int32) &&& 31))).toNatClampNeg)) ||| (1 <<< ((i &&& 63 : Int32).toInt64 &&& 63)))) v M' 0 0) := by
  have H : Ev none e 15 39 [some (.ref 192), some (.int x), some (.int i)] [.ref 192, .int i] M v M' 0 0 := Ev.back 2 (fun n => rfl) H
  have H : Ev none e 15 42 [some (.ref 192), some (.int x), some (.int i)] [.ref 104, .int i] M v M' 0 0 := Ev.back 1 (gs_3 rfl rfl (gf_u hS.1 qa_192 qr_41_4 qu_22 rfl)) H
  have H : Ev none e 15 45 [some (.ref 192), some (.int x), some (.int i)] [.ref (fR M 104 7), .int i] M v M' 0 0 := Ev.back 1 (gs_3 rfl rfl (gf_r hS.1 qa_104 qr_22_7 rfl)) H
  obtain ⟨e1, rfl⟩ := Ev.dpos rfl rfl H
  obtain ⟨vK1, MK1, K1, H⟩ := Ev.callb (fun n_ => gs_7 rfl rfl (show gCal (.invokevirtual 41) 2 (.ref (fR M 104 7) :: [.int i]) M = some (.inr (6, [some (.ref (fR M 104 7))], [.int i])) from by show @cond (Option ((List Value × Mem) ⊕ (Nat × Lo × List Value))) (true && gRecv M (.ref (fR M 104 7)) 1 && gRoom [.int i] && true) (some (.inr (6, [some (.ref (fR M 104 7))], [.int i]))) none = _; rw [recv_s hS.1 (hS.1.fr qa_104 qr_22_7).2 qo_8]; rfl)) H
  obtain ⟨pK1, qK1⟩ := g_6 hS (hS.1.fr qa_104 qr_22_7).2 K1
  rw [pK1, qK1] at H
  have H : Ev none (e1 + 1) 15 48 [some (.ref 192), some (.int x), some (.int i)] [.int (G_6 M (fR M 104 7)), .int i] M v M' 0 0 := H
  have H : Ev none (e1 + 1) 15 (if (G_6 M (fR M 104 7)) ≤ i then 90 else 51) [some (.ref 192), some (.int x), some (.int i)] [] M v M' 0 0 := Ev.back 1 (fun n => rfl) H
  by_cases h2 : (G_6 M (fR M 104 7)) ≤ i
  · rw [if_pos h2] at H
    obtain ⟨z1, z2⟩ := Ev.retb (fun n => rfl) H
    exact Or.inl ⟨h2, z1, z2⟩
  · rw [if_neg h2] at H
    have H : Ev none (e1 + 1) 15 52 [some (.ref 192), some (.int x), some (.int i)] [.ref 192] M v M' 0 0 := Ev.back 1 (fun n => rfl) H
    have H : Ev none (e1 + 1) 15 55 [some (.ref 192), some (.int x), some (.int i)] [.ref 104] M v M' 0 0 := Ev.back 1 (gs_3 rfl rfl (gf_u hS.1 qa_192 qr_41_4 qu_22 rfl)) H
    have H : Ev none (e1 + 1) 15 56 [some (.ref 192), some (.int x), some (.int i)] [.int i, .ref 104] M v M' 0 0 := Ev.back 1 (fun n => rfl) H
    obtain ⟨vK3, MK3, K3, H⟩ := Ev.callb (fun n_ => gs_7 rfl rfl (show gCal (.invokevirtual 47) 2 (.int i :: .ref 104 :: []) M = some (.inr (56, [some (.ref 104), some (.int i)], [])) from by show @cond (Option ((List Value × Mem) ⊕ (Nat × Lo × List Value))) (true && gRecv M (.ref 104) 7 && gRoom [] && true) (some (.inr (56, [some (.ref 104), some (.int i)], []))) none = _; rw [recv_s hS.1 qa_104 qo_22]; rfl)) H
    obtain ⟨pK3, qK3⟩ := g_56 hS K3
    rw [pK3, qK3] at H
    have H : Ev none (e1 + 1) 15 59 [some (.ref 192), some (.int x), some (.int i)] [.int (G_56 M i)] M v M' 0 0 := H
    have H : Ev none (e1 + 1) 15 (if (G_56 M i) = 0 then 84 else 62) [some (.ref 192), some (.int x), some (.int i)] [] M v M' 0 0 := Ev.back 1 (fun n => rfl) H
    by_cases h4 : (G_56 M i) = 0
    · rw [if_pos h4] at H
      have H : Ev none (e1 + 1) 15 37 [some (.ref 192), some (.int x), some (.int (i + 1))] [] M v M' 0 0 := Ev.back 2 (fun n => rfl) H
      have HF := H
      exact Or.inr (Or.inl ⟨h2, h4, HF⟩)
    · rw [if_neg h4] at H
      have H : Ev none (e1 + 1) 15 63 [some (.ref 192), some (.int x), some (.int i)] [.ref 192] M v M' 0 0 := Ev.back 1 (fun n => rfl) H
      have H : Ev none (e1 + 1) 15 66 [some (.ref 192), some (.int x), some (.int i)] [.ref 193] M v M' 0 0 := Ev.back 1 (gs_3 rfl rfl (gf_u hS.1 qa_192 qr_41_0 qu_42 rfl)) H
      have H : Ev none (e1 + 1) 15 75 [some (.ref 192), some (.int x), some (.int i)] [.int ((4 * x) + (i >>> ((6 : Int32) &&& 31))), .ref 193, .int ((4 * x) + (i >>> ((6 : Int32) &&& 31))), .ref 193] M v M' 0 0 := Ev.back 8 (fun n => rfl) H
      obtain ⟨b5, H⟩ := Ev.lal rfl rfl hS.1 qa_193 ql_g42 H
      have H : Ev none (e1 + 1) 15 76 [some (.ref 192), some (.int x), some (.int i)] [.long (lJ M 193 (((4 * x) + (i >>> ((6 : Int32) &&& 31))).toNatClampNeg)), .int ((4 * x) + (i >>> ((6 : Int32) &&& 31))), .ref 193] M v M' 0 0 := H
      have H : Ev none (e1 + 1) 15 83 [some (.ref 192), some (.int x), some (.int i)] [.long ((lJ M 193 (((4 * x) + (i >>> ((6 : Int32) &&& 31))).toNatClampNeg)) ||| (1 <<< ((i &&& 63 : Int32).toInt64 &&& 63))), .int ((4 * x) + (i >>> ((6 : Int32) &&& 31))), .ref 193] M v M' 0 0 := Ev.back 6 (fun n => rfl) H
      obtain ⟨b6, H⟩ := Ev.las rfl rfl hS.1 qa_193 ql_g42 H
      obtain ⟨N7, eN7⟩ : ∃ N, N = (wJ M 193 (((4 * x) + (i >>> ((6 : Int32) &&& 31))).toNatClampNeg) ((lJ M 193 (((4 * x) + (i >>> ((6 : Int32) &&& 31))).toNatClampNeg)) ||| (1 <<< ((i &&& 63 : Int32).toInt64 &&& 63)))) := ⟨_, rfl⟩
      have hN7 : SQ N7 := by rw [eN7]; exact hS.kj
      have H : Ev none (e1 + 1) 15 84 [some (.ref 192), some (.int x), some (.int i)] [] N7 v M' 0 0 := by rw [eN7]; exact H
      have H : Ev none (e1 + 1) 15 37 [some (.ref 192), some (.int x), some (.int (i + 1))] [] N7 v M' 0 0 := Ev.back 2 (fun n => rfl) H
      have HF := H
      subst eN7
      exact Or.inr (Or.inr (⟨h2, h4, b5, b6, HF⟩))
theorem szc_0 {e : Nat} {M M' : Mem} {v : Option Value} {x : Int32} (hS : SQ M) (H : Ev none e 16 0 [some (.ref 192), some (.int x), none, none] [] M v M' 0 0) : Ev none e 16 4 [some (.ref 192), some (.int x), some (.int 0), some (.int 0)] [] M v M' 0 0 := by
  have H : Ev none e 16 4 [some (.ref 192), some (.int x), some (.int 0), some (.int 0)] [] M v M' 0 0 := Ev.back 4 (fun n => rfl) H
  have HF := H
  exact HF
theorem szc_4 {e : Nat} {M M' : Mem} {v : Option Value} {x s i : Int32} (hS : SQ M) (H : Ev none e 16 4 [some (.ref 192), some (.int x), some (.int s), some (.int i)] [] M v M' 0 0) : (4 ≤ i ∧ v = some (.int s) ∧ M' = M) ∨ (¬ (4 ≤ i) ∧ (0 ≤ ((4 * x) + i).toInt ∧ ((4 * x) + i).toInt < 84) ∧ (∃ e1 v1 M1, e = e1 + 1 ∧ Ev none e1 249 0 [some (.long (lJ M 193 (((4 * x) + i).toNatClampNeg))), none] [] M v1 M1 0 0 ∧ Ev none e 16 23 [some (.ref 192), some (.int x), some (.int s), some (.int i)] (v1.toList ++ [.int s]) M1 v M' 0 0)) := by
  have H : Ev none e 16 (if 4 ≤ i then 31 else 9) [some (.ref 192), some (.int x), some (.int s), some (.int i)] [] M v M' 0 0 := Ev.back 3 (fun n => rfl) H
  by_cases h1 : 4 ≤ i
  · rw [if_pos h1] at H
    have H : Ev none e 16 32 [some (.ref 192), some (.int x), some (.int s), some (.int i)] [.int s] M v M' 0 0 := Ev.back 1 (fun n => rfl) H
    obtain ⟨z1, z2⟩ := Ev.retz rfl rfl H
    exact Or.inl ⟨h1, z1, z2⟩
  · rw [if_neg h1] at H
    have H : Ev none e 16 11 [some (.ref 192), some (.int x), some (.int s), some (.int i)] [.ref 192, .int s] M v M' 0 0 := Ev.back 2 (fun n => rfl) H
    have H : Ev none e 16 14 [some (.ref 192), some (.int x), some (.int s), some (.int i)] [.ref 193, .int s] M v M' 0 0 := Ev.back 1 (gs_3 rfl rfl (gf_u hS.1 qa_192 qr_41_0 qu_42 rfl)) H
    have H : Ev none e 16 19 [some (.ref 192), some (.int x), some (.int s), some (.int i)] [.int ((4 * x) + i), .ref 193, .int s] M v M' 0 0 := Ev.back 5 (fun n => rfl) H
    obtain ⟨b2, H⟩ := Ev.lal rfl rfl hS.1 qa_193 ql_g42 H
    have H : Ev none e 16 20 [some (.ref 192), some (.int x), some (.int s), some (.int i)] [.long (lJ M 193 (((4 * x) + i).toNatClampNeg)), .int s] M v M' 0 0 := H
    obtain ⟨e1, rfl⟩ := Ev.dpos rfl rfl H
    obtain ⟨vK3, MK3, K3, H⟩ := Ev.callb (fun n => rfl) H
    have K3 : Ev none e1 249 0 [some (.long (lJ M 193 (((4 * x) + i).toNatClampNeg))), none] [] M vK3 MK3 0 0 := K3
    have HF := H
    exact Or.inr (⟨h1, b2, ⟨e1, vK3, MK3, rfl, K3, HF⟩⟩)
theorem szc_23 {e : Nat} {M M' : Mem} {v : Option Value} {x s i r : Int32} (hS : SQ M) (H : Ev none e 16 23 [some (.ref 192), some (.int x), some (.int s), some (.int i)] [.int r, .int s] M v M' 0 0) : Ev none e 16 4 [some (.ref 192), some (.int x), some (.int (s + r)), some (.int (i + 1))] [] M v M' 0 0 := by
  have H : Ev none e 16 4 [some (.ref 192), some (.int x), some (.int (s + r)), some (.int (i + 1))] [] M v M' 0 0 := Ev.back 4 (fun n => rfl) H
  have HF := H
  exact HF
theorem alc_0 {e : Nat} {M M' : Mem} {v : Option Value} {x y : Int32} (hS : SQ M) (H : Ev none e 17 0 [some (.ref 192), some (.int x), some (.int y), none, none] [] M v M' 0 0) : Ev none e 17 5 [some (.ref 192), some (.int x), some (.int y), some (.int 0), some (.int 0)] [] M v M' 0 0 := by
  have H : Ev none e 17 5 [some (.ref 192), some (.int x), some (.int y), some (.int 0), some (.int 0)] [] M v M' 0 0 := Ev.back 4 (fun n => rfl) H
  have HF := H
  exact HF
theorem alc_5 {e : Nat} {M M' : Mem} {v : Option Value} {x y s i : Int32} (hS : SQ M) (H : Ev none e 17 5 [some (.ref 192), some (.int x), some (.int y), some (.int s), some (.int i)] [] M v M' 0 0) : (4 ≤ i ∧ v = some (.int s) ∧ M' = M) ∨ (¬ (4 ≤ i) ∧ (0 ≤ ((4 * x) + i).toInt ∧ ((4 * x) + i).toInt < 84) ∧ (0 ≤ ((4 * y) + i).toInt ∧ ((4 * y) + i).toInt < 84) ∧ (∃ e1 v1 M1, e = e1 + 1 ∧ Ev none e1 249 0 [some (.long ((lJ M 193 (((4 * x) + i).toNatClampNeg)) &&& ((lJ M 193 (((4 * y) + i).toNatClampNeg)) ^^^ (-1)))), none] [] M v1 M1 0 0 ∧ Ev none e 17 42 [some (.ref 192), some (.int x), some (.int y), some (.int s), some (.int i)] (v1.toList ++ [.int s]) M1 v M' 0 0)) := by
  have H : Ev none e 17 (if 4 ≤ i then 50 else 11) [some (.ref 192), some (.int x), some (.int y), some (.int s), some (.int i)] [] M v M' 0 0 := Ev.back 3 (fun n => rfl) H
  by_cases h1 : 4 ≤ i
  · rw [if_pos h1] at H
    have H : Ev none e 17 51 [some (.ref 192), some (.int x), some (.int y), some (.int s), some (.int i)] [.int s] M v M' 0 0 := Ev.back 1 (fun n => rfl) H
    obtain ⟨z1, z2⟩ := Ev.retz rfl rfl H
    exact Or.inl ⟨h1, z1, z2⟩
  · rw [if_neg h1] at H
    have H : Ev none e 17 13 [some (.ref 192), some (.int x), some (.int y), some (.int s), some (.int i)] [.ref 192, .int s] M v M' 0 0 := Ev.back 2 (fun n => rfl) H
    have H : Ev none e 17 16 [some (.ref 192), some (.int x), some (.int y), some (.int s), some (.int i)] [.ref 193, .int s] M v M' 0 0 := Ev.back 1 (gs_3 rfl rfl (gf_u hS.1 qa_192 qr_41_0 qu_42 rfl)) H
    have H : Ev none e 17 22 [some (.ref 192), some (.int x), some (.int y), some (.int s), some (.int i)] [.int ((4 * x) + i), .ref 193, .int s] M v M' 0 0 := Ev.back 5 (fun n => rfl) H
    obtain ⟨b2, H⟩ := Ev.lal rfl rfl hS.1 qa_193 ql_g42 H
    have H : Ev none e 17 23 [some (.ref 192), some (.int x), some (.int y), some (.int s), some (.int i)] [.long (lJ M 193 (((4 * x) + i).toNatClampNeg)), .int s] M v M' 0 0 := H
    have H : Ev none e 17 24 [some (.ref 192), some (.int x), some (.int y), some (.int s), some (.int i)] [.ref 192, .long (lJ M 193 (((4 * x) + i).toNatClampNeg)), .int s] M v M' 0 0 := Ev.back 1 (fun n => rfl) H
    have H : Ev none e 17 27 [some (.ref 192), some (.int x), some (.int y), some (.int s), some (.int i)] [.ref 193, .long (lJ M 193 (((4 * x) + i).toNatClampNeg)), .int s] M v M' 0 0 := Ev.back 1 (gs_3 rfl rfl (gf_u hS.1 qa_192 qr_41_0 qu_42 rfl)) H
    have H : Ev none e 17 33 [some (.ref 192), some (.int x), some (.int y), some (.int s), some (.int i)] [.int ((4 * y) + i), .ref 193, .long (lJ M 193 (((4 * x) + i).toNatClampNeg)), .int s] M v M' 0 0 := Ev.back 5 (fun n => rfl) H
    obtain ⟨b3, H⟩ := Ev.lal rfl rfl hS.1 qa_193 ql_g42 H
    have H : Ev none e 17 34 [some (.ref 192), some (.int x), some (.int y), some (.int s), some (.int i)] [.long (lJ M 193 (((4 * y) + i).toNatClampNeg)), .long (lJ M 193 (((4 * x) + i).toNatClampNeg)), .int s] M v M' 0 0 := H
    have H : Ev none e 17 39 [some (.ref 192), some (.int x), some (.int y), some (.int s), some (.int i)] [.long ((lJ M 193 (((4 * x) + i).toNatClampNeg)) &&& ((lJ M 193 (((4 * y) + i).toNatClampNeg)) ^^^ (-1))), .int s] M v M' 0 0 := Ev.back 3 (fun n => rfl) H
    obtain ⟨e1, rfl⟩ := Ev.dpos rfl rfl H
    obtain ⟨vK4, MK4, K4, H⟩ := Ev.callb (fun n => rfl) H
    have K4 : Ev none e1 249 0 [some (.long ((lJ M 193 (((4 * x) + i).toNatClampNeg)) &&& ((lJ M 193 (((4 * y) + i).toNatClampNeg)) ^^^ (-1)))), none] [] M vK4 MK4 0 0 := K4
    have HF := H
    exact Or.inr (⟨h1, b2, b3, ⟨e1, vK4, MK4, rfl, K4, HF⟩⟩)
theorem alc_42 {e : Nat} {M M' : Mem} {v : Option Value} {x y s i r : Int32} (hS : SQ M) (H : Ev none e 17 42 [some (.ref 192), some (.int x), some (.int y), some (.int s), some (.int i)] [.int r, .int s] M v M' 0 0) : Ev none e 17 5 [some (.ref 192), some (.int x), some (.int y), some (.int (s + r)), some (.int (i + 1))] [] M v M' 0 0 := by
  have H : Ev none e 17 5 [some (.ref 192), some (.int x), some (.int y), some (.int (s + r)), some (.int (i + 1))] [] M v M' 0 0 := Ev.back 4 (fun n => rfl) H
  have HF := H
  exact HF
theorem btc_0 {e : Nat} {M M' : Mem} {v : Option Value} {x : Int64} (hS : SQ M) (H : Ev none e 249 0 [some (.long x), none] [] M v M' 0 0) : Ev none e 249 10 [some (.long (x - (((x.toUInt64 >>> ((1 : Int32).toInt64.toUInt64 &&& Int64.toUInt64 63)).toInt64) &&& 6148914691236517205))), none] [] M v M' 0 0 := by
  have H : Ev none e 249 10 [some (.long (x - (((x.toUInt64 >>> ((1 : Int32).toInt64.toUInt64 &&& Int64.toUInt64 63)).toInt64) &&& 6148914691236517205))), none] [] M v M' 0 0 := Ev.back 8 (fun n => rfl) H
  have HF := H
  exact HF
theorem btc_10 {e : Nat} {M M' : Mem} {v : Option Value} {x : Int64} (hS : SQ M) (H : Ev none e 249 10 [some (.long x), none] [] M v M' 0 0) : Ev none e 249 24 [some (.long ((x &&& 3689348814741910323) + (((x.toUInt64 >>> ((2 : Int32).toInt64.toUInt64 &&& Int64.toUInt64 63)).toInt64) &&& 3689348814741910323))), none] [] M v M' 0 0 := by
  have H : Ev none e 249 24 [some (.long ((x &&& 3689348814741910323) + (((x.toUInt64 >>> ((2 : Int32).toInt64.toUInt64 &&& Int64.toUInt64 63)).toInt64) &&& 3689348814741910323))), none] [] M v M' 0 0 := Ev.back 10 (fun n => rfl) H
  have HF := H
  exact HF
theorem btc_24 {e : Nat} {M M' : Mem} {v : Option Value} {x : Int64} (hS : SQ M) (H : Ev none e 249 24 [some (.long x), none] [] M v M' 0 0) : Ev none e 249 34 [some (.long ((x + ((x.toUInt64 >>> ((4 : Int32).toInt64.toUInt64 &&& Int64.toUInt64 63)).toInt64)) &&& 1085102592571150095)), none] [] M v M' 0 0 := by
  have H : Ev none e 249 34 [some (.long ((x + ((x.toUInt64 >>> ((4 : Int32).toInt64.toUInt64 &&& Int64.toUInt64 63)).toInt64)) &&& 1085102592571150095)), none] [] M v M' 0 0 := Ev.back 8 (fun n => rfl) H
  have HF := H
  exact HF
theorem btc_34 {e : Nat} {M M' : Mem} {v : Option Value} {x : Int64} (hS : SQ M) (H : Ev none e 249 34 [some (.long x), none] [] M v M' 0 0) : Ev none e 249 41 [some (.long (x + ((x.toUInt64 >>> ((8 : Int32).toInt64.toUInt64 &&& Int64.toUInt64 63)).toInt64))), none] [] M v M' 0 0 := by
  have H : Ev none e 249 41 [some (.long (x + ((x.toUInt64 >>> ((8 : Int32).toInt64.toUInt64 &&& Int64.toUInt64 63)).toInt64))), none] [] M v M' 0 0 := Ev.back 6 (fun n => rfl) H
  have HF := H
  exact HF
theorem btc_41 {e : Nat} {M M' : Mem} {v : Option Value} {x : Int64} (hS : SQ M) (H : Ev none e 249 41 [some (.long x), none] [] M v M' 0 0) : Ev none e 249 48 [some (.long (x + ((x.toUInt64 >>> ((16 : Int32).toInt64.toUInt64 &&& Int64.toUInt64 63)).toInt64))), none] [] M v M' 0 0 := by
  have H : Ev none e 249 48 [some (.long (x + ((x.toUInt64 >>> ((16 : Int32).toInt64.toUInt64 &&& Int64.toUInt64 63)).toInt64))), none] [] M v M' 0 0 := Ev.back 6 (fun n => rfl) H
  have HF := H
  exact HF
theorem btc_48 {e : Nat} {M M' : Mem} {v : Option Value} {x : Int64} (hS : SQ M) (H : Ev none e 249 48 [some (.long x), none] [] M v M' 0 0) : Ev none e 249 55 [some (.long (x + ((x.toUInt64 >>> ((32 : Int32).toInt64.toUInt64 &&& Int64.toUInt64 63)).toInt64))), none] [] M v M' 0 0 := by
  have H : Ev none e 249 55 [some (.long (x + ((x.toUInt64 >>> ((32 : Int32).toInt64.toUInt64 &&& Int64.toUInt64 63)).toInt64))), none] [] M v M' 0 0 := Ev.back 6 (fun n => rfl) H
  have HF := H
  exact HF
theorem btc_55 {e : Nat} {M M' : Mem} {v : Option Value} {x : Int64} (hS : SQ M) (H : Ev none e 249 55 [some (.long x), none] [] M v M' 0 0) : v = some (.int (x.toInt32 &&& 127)) ∧ M' = M := by
  have H : Ev none e 249 60 [some (.long x), none] [.int (x.toInt32 &&& 127)] M v M' 0 0 := Ev.back 4 (fun n => rfl) H
  obtain ⟨z1, z2⟩ := Ev.retz rfl rfl H
  exact ⟨z1, z2⟩
